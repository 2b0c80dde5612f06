theorem dX5_write_76 : decode cX5_write 76 = .ok (.goto 21, 3) := by decide +kernel
theorem dX5_write_79 : decode cX5_write 79 = .ok (.aload_n 0, 1) := by decide +kernel
theorem dX5_write_80 : decode cX5_write 80 = .ok (.aload 4, 2) := by decide +kernel
theorem dX5_write_82 : decode cX5_write 82 = .ok (.invokevirtual 48, 3) := by decide +kernel
theorem dX5_write_85 : decode cX5_write 85 = .ok (.aload_n 0, 1) := by decide +kernel
theorem dX5_write_86 : decode cX5_write 86 = .ok (.bipush 94, 2) := by decide +kernel
theorem dX5_write_88 : decode cX5_write 88 = .ok (.aload 4, 2) := by decide +kernel
theorem dX5_write_90 : decode cX5_write 90 = .ok (.getfield 51, 3) := by decide +kernel
theorem dX5_write_93 : decode cX5_write 93 = .ok (.iconst 1, 1) := by decide +kernel
theorem dX5_write_94 : decode cX5_write 94 = .ok (.invokevirtual 54, 3) := by decide +kernel
theorem dX5_write_97 : decode cX5_write 97 = .ok (.iinc 3 1, 3) := by decide +kernel
theorem dX5_write_100 : decode cX5_write 100 = .ok (.goto (-91), 3) := by decide +kernel
theorem dX5_write_103 : decode cX5_write 103 = .ok (.aload_n 0, 1) := by decide +kernel
theorem dX5_write_104 : decode cX5_write 104 = .ok (.aload_n 1, 1) := by decide +kernel
theorem dX5_write_105 : decode cX5_write 105 = .ok (.iload_n 2, 1) := by decide +kernel
theorem dX5_write_106 : decode cX5_write 106 = .ok (.iconst 0, 1) := by decide +kernel
theorem dX5_write_107 : decode cX5_write 107 = .ok (.invokevirtual 33, 3) := by decide +kernel
theorem dX5_write_110 : decode cX5_write 110 = .ok (.pop, 1) := by decide +kernel
theorem dX5_write_111 : decode cX5_write 111 = .ok (.aload_n 0, 1) := by decide +kernel
theorem dX5_write_112 : decode cX5_write 112 = .ok (.getfield 15, 3) := by decide +kernel
theorem dX5_write_115 : decode cX5_write 115 = .ok (.ireturn, 1) := by decide +kernel
theorem dX5_closeGroups_0 : decode cX5_closeGroups 0 = .ok (.iload_n 2, 1) := by decide +kernel
theorem dX5_closeGroups_1 : decode cX5_closeGroups 1 = .ok (.istore 4, 2) := by decide +kernel
theorem dX5_closeGroups_3 : decode cX5_closeGroups 3 = .ok (.iconst 0, 1) := by decide +kernel
theorem dX5_closeGroups_4 : decode cX5_closeGroups 4 = .ok (.istore 5, 2) := by decide +kernel
theorem dX5_closeGroups_6 : decode cX5_closeGroups 6 = .ok (.iload 5, 2) := by decide +kernel
theorem dX5_closeGroups_8 : decode cX5_closeGroups 8 = .ok (.iconst 5, 1) := by decide +kernel
theorem dX5_closeGroups_9 : decode cX5_closeGroups 9 = .ok (.if_icmp .ge 60, 3) := by decide +kernel
theorem dX5_closeGroups_12 : decode cX5_closeGroups 12 = .ok (.iload 4, 2) := by decide +kernel
theorem dX5_closeGroups_14 : decode cX5_closeGroups 14 = .ok (.iload_n 3, 1) := by decide +kernel
theorem dX5_closeGroups_15 : decode cX5_closeGroups 15 = .ok (.if_icmp .eq 54, 3) := by decide +kernel
theorem dX5_closeGroups_18 : decode cX5_closeGroups 18 = .ok (.aload_n 1, 1) := by decide +kernel
theorem dX5_closeGroups_19 : decode cX5_closeGroups 19 = .ok (.iload 4, 2) := by decide +kernel
theorem dX5_closeGroups_21 : decode cX5_closeGroups 21 = .ok (.invokevirtual 24, 3) := by decide +kernel
theorem dX5_closeGroups_24 : decode cX5_closeGroups 24 = .ok (.astore 6, 2) := by decide +kernel
theorem dX5_closeGroups_26 : decode cX5_closeGroups 26 = .ok (.aload_n 0, 1) := by decide +kernel
theorem dX5_closeGroups_27 : decode cX5_closeGroups 27 = .ok (.bipush 41, 2) := by decide +kernel
theorem dX5_closeGroups_29 : decode cX5_closeGroups 29 = .ok (.invokevirtual 37, 3) := by decide +kernel
theorem dX5_closeGroups_32 : decode cX5_closeGroups 32 = .ok (.aload_n 0, 1) := by decide +kernel
theorem dX5_closeGroups_33 : decode cX5_closeGroups 33 = .ok (.bipush 64, 2) := by decide +kernel
theorem dX5_closeGroups_35 : decode cX5_closeGroups 35 = .ok (.aload 6, 2) := by decide +kernel
theorem dX5_closeGroups_37 : decode cX5_closeGroups 37 = .ok (.getfield 58, 3) := by decide +kernel
theorem dX5_closeGroups_40 : decode cX5_closeGroups 40 = .ok (.iconst (-1), 1) := by decide +kernel
theorem dX5_closeGroups_41 : decode cX5_closeGroups 41 = .ok (.invokevirtual 54, 3) := by decide +kernel
theorem dX5_closeGroups_44 : decode cX5_closeGroups 44 = .ok (.aload_n 0, 1) := by decide +kernel
theorem dX5_closeGroups_45 : decode cX5_closeGroups 45 = .ok (.bipush 94, 2) := by decide +kernel
theorem dX5_closeGroups_47 : decode cX5_closeGroups 47 = .ok (.aload 6, 2) := by decide +kernel
theorem dX5_closeGroups_49 : decode cX5_closeGroups 49 = .ok (.getfield 51, 3) := by decide +kernel
theorem dX5_closeGroups_52 : decode cX5_closeGroups 52 = .ok (.iconst 1, 1) := by decide +kernel
theorem dX5_closeGroups_53 : decode cX5_closeGroups 53 = .ok (.invokevirtual 54, 3) := by decide +kernel
theorem dX5_closeGroups_56 : decode cX5_closeGroups 56 = .ok (.aload 6, 2) := by decide +kernel
theorem dX5_closeGroups_58 : decode cX5_closeGroups 58 = .ok (.getfield 28, 3) := by decide +kernel
theorem dX5_closeGroups_61 : decode cX5_closeGroups 61 = .ok (.istore 4, 2) := by decide +kernel
theorem dX5_closeGroups_63 : decode cX5_closeGroups 63 = .ok (.iinc 5 1, 3) := by decide +kernel
theorem dX5_closeGroups_66 : decode cX5_closeGroups 66 = .ok (.goto (-60), 3) := by decide +kernel
theorem dX5_closeGroups_69 : decode cX5_closeGroups 69 = .ok (.iload 4, 2) := by decide +kernel
theorem dX5_closeGroups_71 : decode cX5_closeGroups 71 = .ok (.ireturn, 1) := by decide +kernel
theorem dX5_put_0 : decode cX5_put 0 = .ok (.aload_n 0, 1) := by decide +kernel
theorem dX5_put_1 : decode cX5_put 1 = .ok (.getfield 15, 3) := by decide +kernel
theorem dX5_put_4 : decode cX5_put 4 = .ok (.ifCond .lt 36, 3) := by decide +kernel
theorem dX5_put_7 : decode cX5_put 7 = .ok (.aload_n 0, 1) := by decide +kernel
theorem dX5_put_8 : decode cX5_put 8 = .ok (.getfield 15, 3) := by decide +kernel
theorem dX5_put_11 : decode cX5_put 11 = .ok (.aload_n 0, 1) := by decide +kernel
theorem dX5_put_12 : decode cX5_put 12 = .ok (.getfield 9, 3) := by decide +kernel
theorem dX5_put_15 : decode cX5_put 15 = .ok (.arraylength, 1) := by decide +kernel
theorem dX5_put_16 : decode cX5_put 16 = .ok (.if_icmp .ge 24, 3) := by decide +kernel
theorem dX5_put_19 : decode cX5_put 19 = .ok (.aload_n 0, 1) := by decide +kernel
theorem dX5_put_20 : decode cX5_put 20 = .ok (.getfield 9, 3) := by decide +kernel
theorem dX5_put_23 : decode cX5_put 23 = .ok (.aload_n 0, 1) := by decide +kernel
theorem dX5_put_24 : decode cX5_put 24 = .ok (.getfield 15, 3) := by decide +kernel
theorem dX5_put_27 : decode cX5_put 27 = .ok (.iload_n 1, 1) := by decide +kernel
theorem dX5_put_28 : decode cX5_put 28 = .ok (.i2b, 1) := by decide +kernel
theorem dX5_put_29 : decode cX5_put 29 = .ok (.bastore, 1) := by decide +kernel
theorem dX5_put_30 : decode cX5_put 30 = .ok (.aload_n 0, 1) := by decide +kernel
theorem dX5_put_31 : decode cX5_put 31 = .ok (.dup, 1) := by decide +kernel
theorem dX5_put_32 : decode cX5_put 32 = .ok (.getfield 15, 3) := by decide +kernel
theorem dX5_put_35 : decode cX5_put 35 = .ok (.iconst 1, 1) := by decide +kernel
theorem dX5_put_36 : decode cX5_put 36 = .ok (.iadd, 1) := by decide +kernel
theorem dX5_put_37 : decode cX5_put 37 = .ok (.putfield 15, 3) := by decide +kernel
theorem dX5_put_40 : decode cX5_put 40 = .ok (.return_, 1) := by decide +kernel
theorem dX5_putHead_0 : decode cX5_putHead 0 = .ok (.aload_n 1, 1) := by decide +kernel
theorem dX5_putHead_1 : decode cX5_putHead 1 = .ok (.getfield 61, 3) := by decide +kernel
theorem dX5_putHead_4 : decode cX5_putHead 4 = .ok (.ifCond .eq 22, 3) := by decide +kernel
theorem dX5_putHead_7 : decode cX5_putHead 7 = .ok (.aload_n 0, 1) := by decide +kernel
theorem dX5_putHead_8 : decode cX5_putHead 8 = .ok (.aload_n 1, 1) := by decide +kernel
theorem dX5_putHead_9 : decode cX5_putHead 9 = .ok (.getfield 61, 3) := by decide +kernel
theorem dX5_putHead_12 : decode cX5_putHead 12 = .ok (.iconst 1, 1) := by decide +kernel
theorem dX5_putHead_13 : decode cX5_putHead 13 = .ok (.if_icmp .ne 8, 3) := by decide +kernel
theorem dX5_putHead_16 : decode cX5_putHead 16 = .ok (.bipush 43, 2) := by decide +kernel
theorem dX5_putHead_18 : decode cX5_putHead 18 = .ok (.goto 5, 3) := by decide +kernel
theorem dX5_putHead_21 : decode cX5_putHead 21 = .ok (.bipush 45, 2) := by decide +kernel
theorem dX5_putHead_23 : decode cX5_putHead 23 = .ok (.invokevirtual 37, 3) := by decide +kernel
theorem dX5_putHead_26 : decode cX5_putHead 26 = .ok (.aload_n 1, 1) := by decide +kernel
theorem dX5_putHead_27 : decode cX5_putHead 27 = .ok (.getfield 64, 3) := by decide +kernel
theorem dX5_putHead_30 : decode cX5_putHead 30 = .ok (.iconst (-1), 1) := by decide +kernel
theorem dX5_putHead_31 : decode cX5_putHead 31 = .ok (.if_icmp .eq 20, 3) := by decide +kernel
theorem dX5_putHead_34 : decode cX5_putHead 34 = .ok (.aload_n 0, 1) := by decide +kernel
theorem dX5_putHead_35 : decode cX5_putHead 35 = .ok (.bipush 97, 2) := by decide +kernel
theorem dX5_putHead_37 : decode cX5_putHead 37 = .ok (.aload_n 1, 1) := by decide +kernel
theorem dX5_putHead_38 : decode cX5_putHead 38 = .ok (.getfield 64, 3) := by decide +kernel
theorem dX5_putHead_41 : decode cX5_putHead 41 = .ok (.iadd, 1) := by decide +kernel
theorem dX5_putHead_42 : decode cX5_putHead 42 = .ok (.invokevirtual 37, 3) := by decide +kernel
theorem dX5_putHead_45 : decode cX5_putHead 45 = .ok (.aload_n 0, 1) := by decide +kernel
theorem dX5_putHead_46 : decode cX5_putHead 46 = .ok (.bipush 58, 2) := by decide +kernel
theorem dX5_putHead_48 : decode cX5_putHead 48 = .ok (.invokevirtual 37, 3) := by decide +kernel
theorem dX5_putHead_51 : decode cX5_putHead 51 = .ok (.return_, 1) := by decide +kernel
theorem dX5_putCore_0 : decode cX5_putCore 0 = .ok (.aload_n 1, 1) := by decide +kernel
theorem dX5_putCore_1 : decode cX5_putCore 1 = .ok (.getfield 45, 3) := by decide +kernel
theorem dX5_putCore_4 : decode cX5_putCore 4 = .ok (.iconst 1, 1) := by decide +kernel
theorem dX5_putCore_5 : decode cX5_putCore 5 = .ok (.if_icmp .ne 11, 3) := by decide +kernel
theorem dX5_putCore_8 : decode cX5_putCore 8 = .ok (.aload_n 0, 1) := by decide +kernel
theorem dX5_putCore_9 : decode cX5_putCore 9 = .ok (.aload_n 1, 1) := by decide +kernel
theorem dX5_putCore_10 : decode cX5_putCore 10 = .ok (.invokevirtual 67, 3) := by decide +kernel
theorem dX5_putCore_13 : decode cX5_putCore 13 = .ok (.goto 39, 3) := by decide +kernel
theorem dX5_putCore_16 : decode cX5_putCore 16 = .ok (.aload_n 1, 1) := by decide +kernel
theorem dX5_putCore_17 : decode cX5_putCore 17 = .ok (.getfield 45, 3) := by decide +kernel
theorem dX5_putCore_20 : decode cX5_putCore 20 = .ok (.iconst 2, 1) := by decide +kernel
theorem dX5_putCore_21 : decode cX5_putCore 21 = .ok (.if_icmp .ne 11, 3) := by decide +kernel
theorem dX5_putCore_24 : decode cX5_putCore 24 = .ok (.aload_n 0, 1) := by decide +kernel
theorem dX5_putCore_25 : decode cX5_putCore 25 = .ok (.aload_n 1, 1) := by decide +kernel
theorem dX5_putCore_26 : decode cX5_putCore 26 = .ok (.invokevirtual 70, 3) := by decide +kernel
theorem dX5_putCore_29 : decode cX5_putCore 29 = .ok (.goto 23, 3) := by decide +kernel
theorem dX5_putCore_32 : decode cX5_putCore 32 = .ok (.aload_n 0, 1) := by decide +kernel
theorem dX5_putCore_33 : decode cX5_putCore 33 = .ok (.aload_n 1, 1) := by decide +kernel
theorem dX5_putCore_34 : decode cX5_putCore 34 = .ok (.iconst 0, 1) := by decide +kernel
theorem dX5_putCore_35 : decode cX5_putCore 35 = .ok (.invokevirtual 73, 3) := by decide +kernel
theorem dX5_putCore_38 : decode cX5_putCore 38 = .ok (.invokevirtual 77, 3) := by decide +kernel
theorem dX5_putCore_41 : decode cX5_putCore 41 = .ok (.aload_n 0, 1) := by decide +kernel
theorem dX5_putCore_42 : decode cX5_putCore 42 = .ok (.bipush 126, 2) := by decide +kernel
theorem dX5_putCore_44 : decode cX5_putCore 44 = .ok (.aload_n 1, 1) := by decide +kernel
theorem dX5_putCore_45 : decode cX5_putCore 45 = .ok (.getfield 58, 3) := by decide +kernel
theorem dX5_putCore_48 : decode cX5_putCore 48 = .ok (.iconst 0, 1) := by decide +kernel
theorem dX5_putCore_49 : decode cX5_putCore 49 = .ok (.invokevirtual 54, 3) := by decide +kernel
theorem dX5_putCore_52 : decode cX5_putCore 52 = .ok (.return_, 1) := by decide +kernel
theorem dX5_putQuote_0 : decode cX5_putQuote 0 = .ok (.aload_n 0, 1) := by decide +kernel
theorem dX5_putQuote_1 : decode cX5_putQuote 1 = .ok (.bipush 34, 2) := by decide +kernel
theorem dX5_putQuote_3 : decode cX5_putQuote 3 = .ok (.invokevirtual 37, 3) := by decide +kernel
theorem dX5_putQuote_6 : decode cX5_putQuote 6 = .ok (.iconst 0, 1) := by decide +kernel
theorem dX5_putQuote_7 : decode cX5_putQuote 7 = .ok (.istore_n 2, 1) := by decide +kernel
theorem dX5_putQuote_8 : decode cX5_putQuote 8 = .ok (.iload_n 2, 1) := by decide +kernel
theorem dX5_putQuote_9 : decode cX5_putQuote 9 = .ok (.aload_n 1, 1) := by decide +kernel
theorem dX5_putQuote_10 : decode cX5_putQuote 10 = .ok (.getfield 81, 3) := by decide +kernel
theorem dX5_putQuote_13 : decode cX5_putQuote 13 = .ok (.if_icmp .ge 28, 3) := by decide +kernel
theorem dX5_putQuote_16 : decode cX5_putQuote 16 = .ok (.iload_n 2, 1) := by decide +kernel
theorem dX5_putQuote_17 : decode cX5_putQuote 17 = .ok (.ifCond .le 9, 3) := by decide +kernel
theorem dX5_putQuote_20 : decode cX5_putQuote 20 = .ok (.aload_n 0, 1) := by decide +kernel
theorem dX5_putQuote_21 : decode cX5_putQuote 21 = .ok (.bipush 32, 2) := by decide +kernel
theorem dX5_putQuote_23 : decode cX5_putQuote 23 = .ok (.invokevirtual 37, 3) := by decide +kernel
theorem dX5_putQuote_26 : decode cX5_putQuote 26 = .ok (.aload_n 0, 1) := by decide +kernel
theorem dX5_putQuote_27 : decode cX5_putQuote 27 = .ok (.aload_n 1, 1) := by decide +kernel
theorem dX5_putQuote_28 : decode cX5_putQuote 28 = .ok (.iload_n 2, 1) := by decide +kernel
theorem dX5_putQuote_29 : decode cX5_putQuote 29 = .ok (.invokevirtual 73, 3) := by decide +kernel
theorem dX5_putQuote_32 : decode cX5_putQuote 32 = .ok (.invokevirtual 77, 3) := by decide +kernel
theorem dX5_putQuote_35 : decode cX5_putQuote 35 = .ok (.iinc 2 1, 3) := by decide +kernel
theorem dX5_putQuote_38 : decode cX5_putQuote 38 = .ok (.goto (-30), 3) := by decide +kernel
theorem dX5_putQuote_41 : decode cX5_putQuote 41 = .ok (.aload_n 0, 1) := by decide +kernel
theorem dX5_putQuote_42 : decode cX5_putQuote 42 = .ok (.bipush 34, 2) := by decide +kernel
theorem dX5_putQuote_44 : decode cX5_putQuote 44 = .ok (.invokevirtual 37, 3) := by decide +kernel
theorem dX5_putQuote_47 : decode cX5_putQuote 47 = .ok (.aload_n 0, 1) := by decide +kernel
theorem dX5_putQuote_48 : decode cX5_putQuote 48 = .ok (.bipush 126, 2) := by decide +kernel
theorem dX5_putQuote_50 : decode cX5_putQuote 50 = .ok (.aload_n 1, 1) := by decide +kernel
theorem dX5_putQuote_51 : decode cX5_putQuote 51 = .ok (.getfield 58, 3) := by decide +kernel
theorem dX5_putQuote_54 : decode cX5_putQuote 54 = .ok (.iconst 0, 1) := by decide +kernel
theorem dX5_putQuote_55 : decode cX5_putQuote 55 = .ok (.invokevirtual 54, 3) := by decide +kernel
theorem dX5_putQuote_58 : decode cX5_putQuote 58 = .ok (.return_, 1) := by decide +kernel
theorem dX5_putSpan_0 : decode cX5_putSpan 0 = .ok (.aload_n 0, 1) := by decide +kernel
theorem dX5_putSpan_1 : decode cX5_putSpan 1 = .ok (.aload_n 1, 1) := by decide +kernel
theorem dX5_putSpan_2 : decode cX5_putSpan 2 = .ok (.getfield 58, 3) := by decide +kernel
theorem dX5_putSpan_5 : decode cX5_putSpan 5 = .ok (.iconst 1, 1) := by decide +kernel
theorem dX5_putSpan_6 : decode cX5_putSpan 6 = .ok (.if_icmp .ne 8, 3) := by decide +kernel
theorem dX5_putSpan_9 : decode cX5_putSpan 9 = .ok (.bipush 123, 2) := by decide +kernel
theorem dX5_putSpan_11 : decode cX5_putSpan 11 = .ok (.goto 5, 3) := by decide +kernel
theorem dX5_putSpan_14 : decode cX5_putSpan 14 = .ok (.bipush 91, 2) := by decide +kernel
theorem dX5_putSpan_16 : decode cX5_putSpan 16 = .ok (.invokevirtual 37, 3) := by decide +kernel
theorem dX5_putSpan_19 : decode cX5_putSpan 19 = .ok (.aload_n 0, 1) := by decide +kernel
theorem dX5_putSpan_20 : decode cX5_putSpan 20 = .ok (.aload_n 1, 1) := by decide +kernel
theorem dX5_putSpan_21 : decode cX5_putSpan 21 = .ok (.iconst 0, 1) := by decide +kernel
theorem dX5_putSpan_22 : decode cX5_putSpan 22 = .ok (.invokevirtual 73, 3) := by decide +kernel
theorem dX5_putSpan_25 : decode cX5_putSpan 25 = .ok (.invokevirtual 77, 3) := by decide +kernel
theorem dX5_putSpan_28 : decode cX5_putSpan 28 = .ok (.aload_n 0, 1) := by decide +kernel
theorem dX5_putSpan_29 : decode cX5_putSpan 29 = .ok (.bipush 46, 2) := by decide +kernel
theorem dX5_putSpan_31 : decode cX5_putSpan 31 = .ok (.invokevirtual 37, 3) := by decide +kernel
theorem dX5_putSpan_34 : decode cX5_putSpan 34 = .ok (.aload_n 0, 1) := by decide +kernel
theorem dX5_putSpan_35 : decode cX5_putSpan 35 = .ok (.bipush 46, 2) := by decide +kernel
theorem dX5_putSpan_37 : decode cX5_putSpan 37 = .ok (.invokevirtual 37, 3) := by decide +kernel
theorem dX5_putSpan_40 : decode cX5_putSpan 40 = .ok (.aload_n 0, 1) := by decide +kernel
theorem dX5_putSpan_41 : decode cX5_putSpan 41 = .ok (.aload_n 1, 1) := by decide +kernel
theorem dX5_putSpan_42 : decode cX5_putSpan 42 = .ok (.iconst 1, 1) := by decide +kernel
theorem dX5_putSpan_43 : decode cX5_putSpan 43 = .ok (.invokevirtual 73, 3) := by decide +kernel
theorem dX5_putSpan_46 : decode cX5_putSpan 46 = .ok (.invokevirtual 77, 3) := by decide +kernel
theorem dX5_putSpan_49 : decode cX5_putSpan 49 = .ok (.aload_n 0, 1) := by decide +kernel
theorem dX5_putSpan_50 : decode cX5_putSpan 50 = .ok (.aload_n 1, 1) := by decide +kernel
theorem dX5_putSpan_51 : decode cX5_putSpan 51 = .ok (.getfield 58, 3) := by decide +kernel
theorem dX5_putSpan_54 : decode cX5_putSpan 54 = .ok (.iconst 1, 1) := by decide +kernel
theorem dX5_putSpan_55 : decode cX5_putSpan 55 = .ok (.if_icmp .ne 8, 3) := by decide +kernel
theorem dX5_putSpan_58 : decode cX5_putSpan 58 = .ok (.bipush 125, 2) := by decide +kernel
theorem dX5_putSpan_60 : decode cX5_putSpan 60 = .ok (.goto 5, 3) := by decide +kernel
theorem dX5_putSpan_63 : decode cX5_putSpan 63 = .ok (.bipush 93, 2) := by decide +kernel
theorem dX5_putSpan_65 : decode cX5_putSpan 65 = .ok (.invokevirtual 37, 3) := by decide +kernel
theorem dX5_putSpan_68 : decode cX5_putSpan 68 = .ok (.return_, 1) := by decide +kernel
theorem dX5_putWord_0 : decode cX5_putWord 0 = .ok (.lload_n 1, 1) := by decide +kernel
theorem dX5_putWord_1 : decode cX5_putWord 1 = .ok (.invokestatic 84, 3) := by decide +kernel
theorem dX5_putWord_4 : decode cX5_putWord 4 = .ok (.istore_n 3, 1) := by decide +kernel
theorem dX5_putWord_5 : decode cX5_putWord 5 = .ok (.iconst 0, 1) := by decide +kernel
theorem dX5_putWord_6 : decode cX5_putWord 6 = .ok (.istore 4, 2) := by decide +kernel
theorem dX5_putWord_8 : decode cX5_putWord 8 = .ok (.iload 4, 2) := by decide +kernel
theorem dX5_putWord_10 : decode cX5_putWord 10 = .ok (.iload_n 3, 1) := by decide +kernel
theorem dX5_putWord_11 : decode cX5_putWord 11 = .ok (.if_icmp .ge 19, 3) := by decide +kernel
theorem dX5_putWord_14 : decode cX5_putWord 14 = .ok (.aload_n 0, 1) := by decide +kernel
theorem dX5_putWord_15 : decode cX5_putWord 15 = .ok (.lload_n 1, 1) := by decide +kernel
theorem dX5_putWord_16 : decode cX5_putWord 16 = .ok (.iload 4, 2) := by decide +kernel
theorem dX5_putWord_18 : decode cX5_putWord 18 = .ok (.invokestatic 90, 3) := by decide +kernel
theorem dX5_putWord_21 : decode cX5_putWord 21 = .ok (.invokevirtual 37, 3) := by decide +kernel
theorem dX5_putWord_24 : decode cX5_putWord 24 = .ok (.iinc 4 1, 3) := by decide +kernel
theorem dX5_putWord_27 : decode cX5_putWord 27 = .ok (.goto (-19), 3) := by decide +kernel
theorem dX5_putWord_30 : decode cX5_putWord 30 = .ok (.return_, 1) := by decide +kernel
theorem dX5_putTold_0 : decode cX5_putTold 0 = .ok (.iload_n 2, 1) := by decide +kernel
theorem dX5_putTold_1 : decode cX5_putTold 1 = .ok (.iload_n 3, 1) := by decide +kernel
theorem dX5_putTold_2 : decode cX5_putTold 2 = .ok (.if_icmp .ne 4, 3) := by decide +kernel
theorem dX5_putTold_5 : decode cX5_putTold 5 = .ok (.return_, 1) := by decide +kernel
theorem dX5_putTold_6 : decode cX5_putTold 6 = .ok (.aload_n 0, 1) := by decide +kernel
theorem dX5_putTold_7 : decode cX5_putTold 7 = .ok (.iload_n 1, 1) := by decide +kernel
theorem dX5_putTold_8 : decode cX5_putTold 8 = .ok (.invokevirtual 37, 3) := by decide +kernel
theorem dX5_putTold_11 : decode cX5_putTold 11 = .ok (.iload_n 2, 1) := by decide +kernel
theorem dX5_putTold_12 : decode cX5_putTold 12 = .ok (.bipush 9, 2) := by decide +kernel
theorem dX5_putTold_14 : decode cX5_putTold 14 = .ok (.if_icmp .le 14, 3) := by decide +kernel
theorem dX5_putTold_17 : decode cX5_putTold 17 = .ok (.aload_n 0, 1) := by decide +kernel
theorem dX5_putTold_18 : decode cX5_putTold 18 = .ok (.bipush 48, 2) := by decide +kernel
theorem dX5_putTold_20 : decode cX5_putTold 20 = .ok (.iload_n 2, 1) := by decide +kernel
theorem dX5_putTold_21 : decode cX5_putTold 21 = .ok (.bipush 10, 2) := by decide +kernel
theorem dX5_putTold_23 : decode cX5_putTold 23 = .ok (.idiv, 1) := by decide +kernel
theorem dX5_putTold_24 : decode cX5_putTold 24 = .ok (.iadd, 1) := by decide +kernel
theorem dX5_putTold_25 : decode cX5_putTold 25 = .ok (.invokevirtual 37, 3) := by decide +kernel
theorem dX5_putTold_28 : decode cX5_putTold 28 = .ok (.aload_n 0, 1) := by decide +kernel
theorem dX5_putTold_29 : decode cX5_putTold 29 = .ok (.bipush 48, 2) := by decide +kernel
theorem dX5_putTold_31 : decode cX5_putTold 31 = .ok (.iload_n 2, 1) := by decide +kernel
theorem dX5_putTold_32 : decode cX5_putTold 32 = .ok (.bipush 10, 2) := by decide +kernel
theorem dX5_putTold_34 : decode cX5_putTold 34 = .ok (.irem, 1) := by decide +kernel
theorem dX5_putTold_35 : decode cX5_putTold 35 = .ok (.iadd, 1) := by decide +kernel
theorem dX5_putTold_36 : decode cX5_putTold 36 = .ok (.invokevirtual 37, 3) := by decide +kernel
theorem dX5_putTold_39 : decode cX5_putTold 39 = .ok (.return_, 1) := by decide +kernel
theorem dX6_init_0 : decode cX6_init 0 = .ok (.aload_n 0, 1) := by decide +kernel
theorem dX6_init_1 : decode cX6_init 1 = .ok (.invokespecial 3, 3) := by decide +kernel
theorem dX6_init_4 : decode cX6_init 4 = .ok (.aload_n 0, 1) := by decide +kernel
theorem dX6_init_5 : decode cX6_init 5 = .ok (.sipush 384, 3) := by decide +kernel
theorem dX6_init_8 : decode cX6_init 8 = .ok (.newarray .long, 2) := by decide +kernel
theorem dX6_init_10 : decode cX6_init 10 = .ok (.putfield 9, 3) := by decide +kernel
theorem dX6_init_13 : decode cX6_init 13 = .ok (.aload_n 0, 1) := by decide +kernel
theorem dX6_init_14 : decode cX6_init 14 = .ok (.bipush 32, 2) := by decide +kernel
theorem dX6_init_16 : decode cX6_init 16 = .ok (.newarray .int, 2) := by decide +kernel
theorem dX6_init_18 : decode cX6_init 18 = .ok (.putfield 15, 3) := by decide +kernel
theorem dX6_init_21 : decode cX6_init 21 = .ok (.return_, 1) := by decide +kernel
theorem dX6_countOf_0 : decode cX6_countOf 0 = .ok (.iload_n 1, 1) := by decide +kernel
theorem dX6_countOf_1 : decode cX6_countOf 1 = .ok (.iconst 4, 1) := by decide +kernel
theorem dX6_countOf_2 : decode cX6_countOf 2 = .ok (.imul, 1) := by decide +kernel
theorem dX6_countOf_3 : decode cX6_countOf 3 = .ok (.iload_n 2, 1) := by decide +kernel
theorem dX6_countOf_4 : decode cX6_countOf 4 = .ok (.iadd, 1) := by decide +kernel
theorem dX6_countOf_5 : decode cX6_countOf 5 = .ok (.istore_n 3, 1) := by decide +kernel
theorem dX6_countOf_6 : decode cX6_countOf 6 = .ok (.iload_n 3, 1) := by decide +kernel
theorem dX6_countOf_7 : decode cX6_countOf 7 = .ok (.ifCond .lt 21, 3) := by decide +kernel
theorem dX6_countOf_10 : decode cX6_countOf 10 = .ok (.iload_n 3, 1) := by decide +kernel
theorem dX6_countOf_11 : decode cX6_countOf 11 = .ok (.aload_n 0, 1) := by decide +kernel
theorem dX6_countOf_12 : decode cX6_countOf 12 = .ok (.getfield 15, 3) := by decide +kernel
theorem dX6_countOf_15 : decode cX6_countOf 15 = .ok (.arraylength, 1) := by decide +kernel
theorem dX6_countOf_16 : decode cX6_countOf 16 = .ok (.if_icmp .ge 12, 3) := by decide +kernel
theorem dX6_countOf_19 : decode cX6_countOf 19 = .ok (.aload_n 0, 1) := by decide +kernel
theorem dX6_countOf_20 : decode cX6_countOf 20 = .ok (.getfield 15, 3) := by decide +kernel
theorem dX6_countOf_23 : decode cX6_countOf 23 = .ok (.iload_n 3, 1) := by decide +kernel
theorem dX6_countOf_24 : decode cX6_countOf 24 = .ok (.iaload, 1) := by decide +kernel
theorem dX6_countOf_25 : decode cX6_countOf 25 = .ok (.goto 4, 3) := by decide +kernel
theorem dX6_countOf_28 : decode cX6_countOf 28 = .ok (.iconst 0, 1) := by decide +kernel
theorem dX6_countOf_29 : decode cX6_countOf 29 = .ok (.ireturn, 1) := by decide +kernel
theorem dX6_wordAt_0 : decode cX6_wordAt 0 = .ok (.iload_n 1, 1) := by decide +kernel
theorem dX6_wordAt_1 : decode cX6_wordAt 1 = .ok (.iconst 4, 1) := by decide +kernel
theorem dX6_wordAt_2 : decode cX6_wordAt 2 = .ok (.imul, 1) := by decide +kernel
theorem dX6_wordAt_3 : decode cX6_wordAt 3 = .ok (.iload_n 2, 1) := by decide +kernel
theorem dX6_wordAt_4 : decode cX6_wordAt 4 = .ok (.iadd, 1) := by decide +kernel
theorem dX6_wordAt_5 : decode cX6_wordAt 5 = .ok (.bipush 12, 2) := by decide +kernel
theorem dX6_wordAt_7 : decode cX6_wordAt 7 = .ok (.imul, 1) := by decide +kernel
theorem dX6_wordAt_8 : decode cX6_wordAt 8 = .ok (.iload_n 3, 1) := by decide +kernel
theorem dX6_wordAt_9 : decode cX6_wordAt 9 = .ok (.iadd, 1) := by decide +kernel
theorem dX6_wordAt_10 : decode cX6_wordAt 10 = .ok (.istore 4, 2) := by decide +kernel
theorem dX6_wordAt_12 : decode cX6_wordAt 12 = .ok (.iload 4, 2) := by decide +kernel
theorem dX6_wordAt_14 : decode cX6_wordAt 14 = .ok (.ifCond .lt 23, 3) := by decide +kernel
theorem dX6_wordAt_17 : decode cX6_wordAt 17 = .ok (.iload 4, 2) := by decide +kernel
theorem dX6_wordAt_19 : decode cX6_wordAt 19 = .ok (.aload_n 0, 1) := by decide +kernel
theorem dX6_wordAt_20 : decode cX6_wordAt 20 = .ok (.getfield 9, 3) := by decide +kernel
theorem dX6_wordAt_23 : decode cX6_wordAt 23 = .ok (.arraylength, 1) := by decide +kernel
theorem dX6_wordAt_24 : decode cX6_wordAt 24 = .ok (.if_icmp .ge 13, 3) := by decide +kernel
theorem dX6_wordAt_27 : decode cX6_wordAt 27 = .ok (.aload_n 0, 1) := by decide +kernel
theorem dX6_wordAt_28 : decode cX6_wordAt 28 = .ok (.getfield 9, 3) := by decide +kernel
theorem dX6_wordAt_31 : decode cX6_wordAt 31 = .ok (.iload 4, 2) := by decide +kernel
theorem dX6_wordAt_33 : decode cX6_wordAt 33 = .ok (.laload, 1) := by decide +kernel
theorem dX6_wordAt_34 : decode cX6_wordAt 34 = .ok (.goto 4, 3) := by decide +kernel
theorem dX6_wordAt_37 : decode cX6_wordAt 37 = .ok (.lconst 0, 1) := by decide +kernel
theorem dX6_wordAt_38 : decode cX6_wordAt 38 = .ok (.lreturn, 1) := by decide +kernel
theorem dX6_add_0 : decode cX6_add 0 = .ok (.iload_n 1, 1) := by decide +kernel
theorem dX6_add_1 : decode cX6_add 1 = .ok (.iconst 4, 1) := by decide +kernel
theorem dX6_add_2 : decode cX6_add 2 = .ok (.imul, 1) := by decide +kernel
theorem dX6_add_3 : decode cX6_add 3 = .ok (.iload_n 2, 1) := by decide +kernel
theorem dX6_add_4 : decode cX6_add 4 = .ok (.iadd, 1) := by decide +kernel
theorem dX6_add_5 : decode cX6_add 5 = .ok (.istore 5, 2) := by decide +kernel
theorem dX6_add_7 : decode cX6_add 7 = .ok (.aload_n 0, 1) := by decide +kernel
theorem dX6_add_8 : decode cX6_add 8 = .ok (.iload_n 1, 1) := by decide +kernel
theorem dX6_add_9 : decode cX6_add 9 = .ok (.iload_n 2, 1) := by decide +kernel
theorem dX6_add_10 : decode cX6_add 10 = .ok (.invokevirtual 19, 3) := by decide +kernel
theorem dX6_add_13 : decode cX6_add 13 = .ok (.istore 6, 2) := by decide +kernel
theorem dX6_add_15 : decode cX6_add 15 = .ok (.iload 5, 2) := by decide +kernel
theorem dX6_add_17 : decode cX6_add 17 = .ok (.bipush 12, 2) := by decide +kernel
theorem dX6_add_19 : decode cX6_add 19 = .ok (.imul, 1) := by decide +kernel
theorem dX6_add_20 : decode cX6_add 20 = .ok (.iload 6, 2) := by decide +kernel
theorem dX6_add_22 : decode cX6_add 22 = .ok (.iadd, 1) := by decide +kernel
theorem dX6_add_23 : decode cX6_add 23 = .ok (.istore 7, 2) := by decide +kernel
theorem dX6_add_25 : decode cX6_add 25 = .ok (.iload 6, 2) := by decide +kernel
theorem dX6_add_27 : decode cX6_add 27 = .ok (.bipush 12, 2) := by decide +kernel
theorem dX6_add_29 : decode cX6_add 29 = .ok (.if_icmp .ge 33, 3) := by decide +kernel
theorem dX6_add_32 : decode cX6_add 32 = .ok (.iload 5, 2) := by decide +kernel
theorem dX6_add_34 : decode cX6_add 34 = .ok (.ifCond .lt 28, 3) := by decide +kernel
theorem dX6_add_37 : decode cX6_add 37 = .ok (.iload 5, 2) := by decide +kernel
theorem dX6_add_39 : decode cX6_add 39 = .ok (.aload_n 0, 1) := by decide +kernel
theorem dX6_add_40 : decode cX6_add 40 = .ok (.getfield 15, 3) := by decide +kernel
theorem dX6_add_43 : decode cX6_add 43 = .ok (.arraylength, 1) := by decide +kernel
theorem dX6_add_44 : decode cX6_add 44 = .ok (.if_icmp .ge 18, 3) := by decide +kernel
theorem dX6_add_47 : decode cX6_add 47 = .ok (.iload 7, 2) := by decide +kernel
theorem dX6_add_49 : decode cX6_add 49 = .ok (.ifCond .lt 13, 3) := by decide +kernel
theorem dX6_add_52 : decode cX6_add 52 = .ok (.iload 7, 2) := by decide +kernel
theorem dX6_add_54 : decode cX6_add 54 = .ok (.aload_n 0, 1) := by decide +kernel
theorem dX6_add_55 : decode cX6_add 55 = .ok (.getfield 9, 3) := by decide +kernel
theorem dX6_add_58 : decode cX6_add 58 = .ok (.arraylength, 1) := by decide +kernel
theorem dX6_add_59 : decode cX6_add 59 = .ok (.if_icmp .lt 6, 3) := by decide +kernel
theorem dX6_add_62 : decode cX6_add 62 = .ok (.bipush (-103), 2) := by decide +kernel
theorem dX6_add_64 : decode cX6_add 64 = .ok (.ireturn, 1) := by decide +kernel
theorem dX6_add_65 : decode cX6_add 65 = .ok (.aload_n 0, 1) := by decide +kernel
theorem dX6_add_66 : decode cX6_add 66 = .ok (.getfield 9, 3) := by decide +kernel
theorem dX6_add_69 : decode cX6_add 69 = .ok (.iload 7, 2) := by decide +kernel
theorem dX6_add_71 : decode cX6_add 71 = .ok (.lload_n 3, 1) := by decide +kernel
theorem dX6_add_72 : decode cX6_add 72 = .ok (.lastore, 1) := by decide +kernel
theorem dX6_add_73 : decode cX6_add 73 = .ok (.aload_n 0, 1) := by decide +kernel
theorem dX6_add_74 : decode cX6_add 74 = .ok (.getfield 15, 3) := by decide +kernel
theorem dX6_add_77 : decode cX6_add 77 = .ok (.iload 5, 2) := by decide +kernel
theorem dX6_add_79 : decode cX6_add 79 = .ok (.iload 6, 2) := by decide +kernel
theorem dX6_add_81 : decode cX6_add 81 = .ok (.iconst 1, 1) := by decide +kernel
theorem dX6_add_82 : decode cX6_add 82 = .ok (.iadd, 1) := by decide +kernel
theorem dX6_add_83 : decode cX6_add 83 = .ok (.iastore, 1) := by decide +kernel
theorem dX6_add_84 : decode cX6_add 84 = .ok (.aload_n 0, 1) := by decide +kernel
theorem dX6_add_85 : decode cX6_add 85 = .ok (.getfield 15, 3) := by decide +kernel
theorem dX6_add_88 : decode cX6_add 88 = .ok (.iload 5, 2) := by decide +kernel
theorem dX6_add_90 : decode cX6_add 90 = .ok (.iaload, 1) := by decide +kernel
theorem dX6_add_91 : decode cX6_add 91 = .ok (.ireturn, 1) := by decide +kernel
theorem dX6_empty_0 : decode cX6_empty 0 = .ok (.iconst 0, 1) := by decide +kernel
theorem dX6_empty_1 : decode cX6_empty 1 = .ok (.istore_n 2, 1) := by decide +kernel
theorem dX6_empty_2 : decode cX6_empty 2 = .ok (.iconst 0, 1) := by decide +kernel
theorem dX6_empty_3 : decode cX6_empty 3 = .ok (.istore_n 3, 1) := by decide +kernel
theorem dX6_empty_4 : decode cX6_empty 4 = .ok (.iload_n 3, 1) := by decide +kernel
theorem dX6_empty_5 : decode cX6_empty 5 = .ok (.iconst 4, 1) := by decide +kernel
theorem dX6_empty_6 : decode cX6_empty 6 = .ok (.if_icmp .ge 49, 3) := by decide +kernel
theorem dX6_empty_9 : decode cX6_empty 9 = .ok (.iload_n 1, 1) := by decide +kernel
theorem dX6_empty_10 : decode cX6_empty 10 = .ok (.iconst 4, 1) := by decide +kernel
theorem dX6_empty_11 : decode cX6_empty 11 = .ok (.imul, 1) := by decide +kernel
theorem dX6_empty_12 : decode cX6_empty 12 = .ok (.iload_n 3, 1) := by decide +kernel
theorem dX6_empty_13 : decode cX6_empty 13 = .ok (.iadd, 1) := by decide +kernel
theorem dX6_empty_14 : decode cX6_empty 14 = .ok (.istore 4, 2) := by decide +kernel
theorem dX6_empty_16 : decode cX6_empty 16 = .ok (.iload 4, 2) := by decide +kernel
theorem dX6_empty_18 : decode cX6_empty 18 = .ok (.ifCond .lt 31, 3) := by decide +kernel
theorem dX6_empty_21 : decode cX6_empty 21 = .ok (.iload 4, 2) := by decide +kernel
theorem dX6_empty_23 : decode cX6_empty 23 = .ok (.aload_n 0, 1) := by decide +kernel
theorem dX6_empty_24 : decode cX6_empty 24 = .ok (.getfield 15, 3) := by decide +kernel
theorem dX6_empty_27 : decode cX6_empty 27 = .ok (.arraylength, 1) := by decide +kernel
theorem dX6_empty_28 : decode cX6_empty 28 = .ok (.if_icmp .ge 21, 3) := by decide +kernel
theorem dX6_empty_31 : decode cX6_empty 31 = .ok (.iload_n 2, 1) := by decide +kernel
theorem dX6_empty_32 : decode cX6_empty 32 = .ok (.aload_n 0, 1) := by decide +kernel
theorem dX6_empty_33 : decode cX6_empty 33 = .ok (.getfield 15, 3) := by decide +kernel
theorem dX6_empty_36 : decode cX6_empty 36 = .ok (.iload 4, 2) := by decide +kernel
theorem dX6_empty_38 : decode cX6_empty 38 = .ok (.iaload, 1) := by decide +kernel
theorem dX6_empty_39 : decode cX6_empty 39 = .ok (.iadd, 1) := by decide +kernel
theorem dX6_empty_40 : decode cX6_empty 40 = .ok (.istore_n 2, 1) := by decide +kernel
theorem dX6_empty_41 : decode cX6_empty 41 = .ok (.aload_n 0, 1) := by decide +kernel
theorem dX6_empty_42 : decode cX6_empty 42 = .ok (.getfield 15, 3) := by decide +kernel
theorem dX6_empty_45 : decode cX6_empty 45 = .ok (.iload 4, 2) := by decide +kernel
theorem dX6_empty_47 : decode cX6_empty 47 = .ok (.iconst 0, 1) := by decide +kernel
theorem dX6_empty_48 : decode cX6_empty 48 = .ok (.iastore, 1) := by decide +kernel
theorem dX6_empty_49 : decode cX6_empty 49 = .ok (.iinc 3 1, 3) := by decide +kernel
theorem dX6_empty_52 : decode cX6_empty 52 = .ok (.goto (-48), 3) := by decide +kernel
theorem dX6_empty_55 : decode cX6_empty 55 = .ok (.iload_n 2, 1) := by decide +kernel
theorem dX6_empty_56 : decode cX6_empty 56 = .ok (.ireturn, 1) := by decide +kernel
theorem dX7_init_0 : decode cX7_init 0 = .ok (.aload_n 0, 1) := by decide +kernel
theorem dX7_init_1 : decode cX7_init 1 = .ok (.invokespecial 3, 3) := by decide +kernel
theorem dX7_init_4 : decode cX7_init 4 = .ok (.aload_n 0, 1) := by decide +kernel
theorem dX7_init_5 : decode cX7_init 5 = .ok (.bipush 25, 2) := by decide +kernel
theorem dX7_init_7 : decode cX7_init 7 = .ok (.anewarray 9, 3) := by decide +kernel
theorem dX7_init_10 : decode cX7_init 10 = .ok (.putfield 11, 3) := by decide +kernel
theorem dX7_init_13 : decode cX7_init 13 = .ok (.aload_n 0, 1) := by decide +kernel
theorem dX7_init_14 : decode cX7_init 14 = .ok (.iconst 0, 1) := by decide +kernel
theorem dX7_init_15 : decode cX7_init 15 = .ok (.putfield 17, 3) := by decide +kernel
theorem dX7_init_18 : decode cX7_init 18 = .ok (.iconst 0, 1) := by decide +kernel
theorem dX7_init_19 : decode cX7_init 19 = .ok (.istore_n 1, 1) := by decide +kernel
theorem dX7_init_20 : decode cX7_init 20 = .ok (.iload_n 1, 1) := by decide +kernel
theorem dX7_init_21 : decode cX7_init 21 = .ok (.aload_n 0, 1) := by decide +kernel
theorem dX7_init_22 : decode cX7_init 22 = .ok (.getfield 11, 3) := by decide +kernel
theorem dX7_init_25 : decode cX7_init 25 = .ok (.arraylength, 1) := by decide +kernel
theorem dX7_init_26 : decode cX7_init 26 = .ok (.if_icmp .ge 22, 3) := by decide +kernel
theorem dX7_init_29 : decode cX7_init 29 = .ok (.aload_n 0, 1) := by decide +kernel
theorem dX7_init_30 : decode cX7_init 30 = .ok (.getfield 11, 3) := by decide +kernel
theorem dX7_init_33 : decode cX7_init 33 = .ok (.iload_n 1, 1) := by decide +kernel
theorem dX7_init_34 : decode cX7_init 34 = .ok (.new 9, 3) := by decide +kernel
theorem dX7_init_37 : decode cX7_init 37 = .ok (.dup, 1) := by decide +kernel
theorem dX7_init_38 : decode cX7_init 38 = .ok (.invokespecial 21, 3) := by decide +kernel
theorem dX7_init_41 : decode cX7_init 41 = .ok (.aastore, 1) := by decide +kernel
theorem dX7_init_42 : decode cX7_init 42 = .ok (.iinc 1 1, 3) := by decide +kernel
theorem dX7_init_45 : decode cX7_init 45 = .ok (.goto (-25), 3) := by decide +kernel
theorem dX7_init_48 : decode cX7_init 48 = .ok (.return_, 1) := by decide +kernel
theorem dX7_isEmpty_0 : decode cX7_isEmpty 0 = .ok (.aload_n 0, 1) := by decide +kernel
theorem dX7_isEmpty_1 : decode cX7_isEmpty 1 = .ok (.getfield 17, 3) := by decide +kernel
theorem dX7_isEmpty_4 : decode cX7_isEmpty 4 = .ok (.ifCond .ne 7, 3) := by decide +kernel
theorem dX7_isEmpty_7 : decode cX7_isEmpty 7 = .ok (.iconst 1, 1) := by decide +kernel
theorem dX7_isEmpty_8 : decode cX7_isEmpty 8 = .ok (.goto 4, 3) := by decide +kernel
theorem dX7_isEmpty_11 : decode cX7_isEmpty 11 = .ok (.iconst 0, 1) := by decide +kernel
theorem dX7_isEmpty_12 : decode cX7_isEmpty 12 = .ok (.ireturn, 1) := by decide +kernel
theorem dX7_has_0 : decode cX7_has 0 = .ok (.iload_n 1, 1) := by decide +kernel
theorem dX7_has_1 : decode cX7_has 1 = .ok (.ifCond .lt 15, 3) := by decide +kernel
theorem dX7_has_4 : decode cX7_has 4 = .ok (.iload_n 1, 1) := by decide +kernel
theorem dX7_has_5 : decode cX7_has 5 = .ok (.aload_n 0, 1) := by decide +kernel
theorem dX7_has_6 : decode cX7_has 6 = .ok (.getfield 17, 3) := by decide +kernel
theorem dX7_has_9 : decode cX7_has 9 = .ok (.if_icmp .ge 7, 3) := by decide +kernel
theorem dX7_has_12 : decode cX7_has 12 = .ok (.iconst 1, 1) := by decide +kernel
theorem dX7_has_13 : decode cX7_has 13 = .ok (.goto 4, 3) := by decide +kernel
theorem dX7_has_16 : decode cX7_has 16 = .ok (.iconst 0, 1) := by decide +kernel
theorem dX7_has_17 : decode cX7_has 17 = .ok (.ireturn, 1) := by decide +kernel
theorem dX7_at_0 : decode cX7_at 0 = .ok (.iload_n 1, 1) := by decide +kernel
theorem dX7_at_1 : decode cX7_at 1 = .ok (.ifCond .lt 21, 3) := by decide +kernel
theorem dX7_at_4 : decode cX7_at 4 = .ok (.iload_n 1, 1) := by decide +kernel
theorem dX7_at_5 : decode cX7_at 5 = .ok (.aload_n 0, 1) := by decide +kernel
theorem dX7_at_6 : decode cX7_at 6 = .ok (.getfield 11, 3) := by decide +kernel
theorem dX7_at_9 : decode cX7_at 9 = .ok (.arraylength, 1) := by decide +kernel
theorem dX7_at_10 : decode cX7_at 10 = .ok (.if_icmp .ge 12, 3) := by decide +kernel
theorem dX7_at_13 : decode cX7_at 13 = .ok (.aload_n 0, 1) := by decide +kernel
theorem dX7_at_14 : decode cX7_at 14 = .ok (.getfield 11, 3) := by decide +kernel
theorem dX7_at_17 : decode cX7_at 17 = .ok (.iload_n 1, 1) := by decide +kernel
theorem dX7_at_18 : decode cX7_at 18 = .ok (.aaload, 1) := by decide +kernel
theorem dX7_at_19 : decode cX7_at 19 = .ok (.goto 9, 3) := by decide +kernel
theorem dX7_at_22 : decode cX7_at 22 = .ok (.aload_n 0, 1) := by decide +kernel
theorem dX7_at_23 : decode cX7_at 23 = .ok (.getfield 11, 3) := by decide +kernel
theorem dX7_at_26 : decode cX7_at 26 = .ok (.iconst 0, 1) := by decide +kernel
theorem dX7_at_27 : decode cX7_at 27 = .ok (.aaload, 1) := by decide +kernel
theorem dX7_at_28 : decode cX7_at 28 = .ok (.areturn, 1) := by decide +kernel
theorem dX7_begin_0 : decode cX7_begin 0 = .ok (.aload_n 0, 1) := by decide +kernel
theorem dX7_begin_1 : decode cX7_begin 1 = .ok (.iconst 1, 1) := by decide +kernel
theorem dX7_begin_2 : decode cX7_begin 2 = .ok (.putfield 17, 3) := by decide +kernel
theorem dX7_begin_5 : decode cX7_begin 5 = .ok (.aload_n 0, 1) := by decide +kernel
theorem dX7_begin_6 : decode cX7_begin 6 = .ok (.getfield 11, 3) := by decide +kernel
theorem dX7_begin_9 : decode cX7_begin 9 = .ok (.iconst 0, 1) := by decide +kernel
theorem dX7_begin_10 : decode cX7_begin 10 = .ok (.aaload, 1) := by decide +kernel
theorem dX7_begin_11 : decode cX7_begin 11 = .ok (.astore_n 1, 1) := by decide +kernel
theorem dX7_begin_12 : decode cX7_begin 12 = .ok (.aload_n 1, 1) := by decide +kernel
theorem dX7_begin_13 : decode cX7_begin 13 = .ok (.iconst 0, 1) := by decide +kernel
theorem dX7_begin_14 : decode cX7_begin 14 = .ok (.iconst (-1), 1) := by decide +kernel
theorem dX7_begin_15 : decode cX7_begin 15 = .ok (.invokevirtual 22, 3) := by decide +kernel
theorem dX7_begin_18 : decode cX7_begin 18 = .ok (.aload_n 1, 1) := by decide +kernel
theorem dX7_begin_19 : decode cX7_begin 19 = .ok (.iconst 3, 1) := by decide +kernel
theorem dX7_begin_20 : decode cX7_begin 20 = .ok (.putfield 26, 3) := by decide +kernel
theorem dX7_begin_23 : decode cX7_begin 23 = .ok (.aload_n 1, 1) := by decide +kernel
theorem dX7_begin_24 : decode cX7_begin 24 = .ok (.iconst (-1), 1) := by decide +kernel
theorem dX7_begin_25 : decode cX7_begin 25 = .ok (.putfield 29, 3) := by decide +kernel
theorem dX7_begin_28 : decode cX7_begin 28 = .ok (.return_, 1) := by decide +kernel
theorem dX7_hasRoom_0 : decode cX7_hasRoom 0 = .ok (.aload_n 0, 1) := by decide +kernel
theorem dX7_hasRoom_1 : decode cX7_hasRoom 1 = .ok (.getfield 17, 3) := by decide +kernel
theorem dX7_hasRoom_4 : decode cX7_hasRoom 4 = .ok (.iload_n 1, 1) := by decide +kernel
theorem dX7_hasRoom_5 : decode cX7_hasRoom 5 = .ok (.iadd, 1) := by decide +kernel
theorem dX7_hasRoom_6 : decode cX7_hasRoom 6 = .ok (.aload_n 0, 1) := by decide +kernel
theorem dX7_hasRoom_7 : decode cX7_hasRoom 7 = .ok (.getfield 11, 3) := by decide +kernel
theorem dX7_hasRoom_10 : decode cX7_hasRoom 10 = .ok (.arraylength, 1) := by decide +kernel
theorem dX7_hasRoom_11 : decode cX7_hasRoom 11 = .ok (.if_icmp .gt 7, 3) := by decide +kernel
theorem dX7_hasRoom_14 : decode cX7_hasRoom 14 = .ok (.iconst 1, 1) := by decide +kernel
theorem dX7_hasRoom_15 : decode cX7_hasRoom 15 = .ok (.goto 4, 3) := by decide +kernel
theorem dX7_hasRoom_18 : decode cX7_hasRoom 18 = .ok (.iconst 0, 1) := by decide +kernel
theorem dX7_hasRoom_19 : decode cX7_hasRoom 19 = .ok (.ireturn, 1) := by decide +kernel
theorem dX7_add_0 : decode cX7_add 0 = .ok (.aload_n 0, 1) := by decide +kernel
theorem dX7_add_1 : decode cX7_add 1 = .ok (.aload_n 0, 1) := by decide +kernel
theorem dX7_add_2 : decode cX7_add 2 = .ok (.getfield 17, 3) := by decide +kernel
theorem dX7_add_5 : decode cX7_add 5 = .ok (.invokevirtual 32, 3) := by decide +kernel
theorem dX7_add_8 : decode cX7_add 8 = .ok (.astore_n 3, 1) := by decide +kernel
theorem dX7_add_9 : decode cX7_add 9 = .ok (.aload_n 3, 1) := by decide +kernel
theorem dX7_add_10 : decode cX7_add 10 = .ok (.iload_n 1, 1) := by decide +kernel
theorem dX7_add_11 : decode cX7_add 11 = .ok (.iload_n 2, 1) := by decide +kernel
theorem dX7_add_12 : decode cX7_add 12 = .ok (.invokevirtual 22, 3) := by decide +kernel
theorem dX7_add_15 : decode cX7_add 15 = .ok (.aload_n 0, 1) := by decide +kernel
theorem dX7_add_16 : decode cX7_add 16 = .ok (.iload_n 2, 1) := by decide +kernel
theorem dX7_add_17 : decode cX7_add 17 = .ok (.invokevirtual 32, 3) := by decide +kernel
theorem dX7_add_20 : decode cX7_add 20 = .ok (.dup, 1) := by decide +kernel
theorem dX7_add_21 : decode cX7_add 21 = .ok (.getfield 36, 3) := by decide +kernel
theorem dX7_add_24 : decode cX7_add 24 = .ok (.iconst 1, 1) := by decide +kernel
theorem dX7_add_25 : decode cX7_add 25 = .ok (.iadd, 1) := by decide +kernel
theorem dX7_add_26 : decode cX7_add 26 = .ok (.putfield 36, 3) := by decide +kernel
theorem dX7_add_29 : decode cX7_add 29 = .ok (.aload_n 0, 1) := by decide +kernel
theorem dX7_add_30 : decode cX7_add 30 = .ok (.dup, 1) := by decide +kernel
theorem dX7_add_31 : decode cX7_add 31 = .ok (.getfield 17, 3) := by decide +kernel
theorem dX7_add_34 : decode cX7_add 34 = .ok (.iconst 1, 1) := by decide +kernel
theorem dX7_add_35 : decode cX7_add 35 = .ok (.iadd, 1) := by decide +kernel
theorem dX7_add_36 : decode cX7_add 36 = .ok (.putfield 17, 3) := by decide +kernel
theorem dX7_add_39 : decode cX7_add 39 = .ok (.aload_n 3, 1) := by decide +kernel
theorem dX7_add_40 : decode cX7_add 40 = .ok (.areturn, 1) := by decide +kernel
theorem dX7_fieldOf_0 : decode cX7_fieldOf 0 = .ok (.aload_n 0, 1) := by decide +kernel
theorem dX7_fieldOf_1 : decode cX7_fieldOf 1 = .ok (.iload_n 1, 1) := by decide +kernel
theorem dX7_fieldOf_2 : decode cX7_fieldOf 2 = .ok (.invokevirtual 32, 3) := by decide +kernel
theorem dX7_fieldOf_5 : decode cX7_fieldOf 5 = .ok (.astore_n 2, 1) := by decide +kernel
theorem dX7_fieldOf_6 : decode cX7_fieldOf 6 = .ok (.iconst 0, 1) := by decide +kernel
theorem dX7_fieldOf_7 : decode cX7_fieldOf 7 = .ok (.istore_n 3, 1) := by decide +kernel
theorem dX7_fieldOf_8 : decode cX7_fieldOf 8 = .ok (.iload_n 3, 1) := by decide +kernel
theorem dX7_fieldOf_9 : decode cX7_fieldOf 9 = .ok (.iconst 5, 1) := by decide +kernel
theorem dX7_fieldOf_10 : decode cX7_fieldOf 10 = .ok (.if_icmp .gt 37, 3) := by decide +kernel
theorem dX7_fieldOf_13 : decode cX7_fieldOf 13 = .ok (.aload_n 2, 1) := by decide +kernel
theorem dX7_fieldOf_14 : decode cX7_fieldOf 14 = .ok (.getfield 39, 3) := by decide +kernel
theorem dX7_fieldOf_17 : decode cX7_fieldOf 17 = .ok (.iconst (-1), 1) := by decide +kernel
theorem dX7_fieldOf_18 : decode cX7_fieldOf 18 = .ok (.if_icmp .ne 29, 3) := by decide +kernel
theorem dX7_fieldOf_21 : decode cX7_fieldOf 21 = .ok (.aload_n 0, 1) := by decide +kernel
theorem dX7_fieldOf_22 : decode cX7_fieldOf 22 = .ok (.aload_n 2, 1) := by decide +kernel
theorem dX7_fieldOf_23 : decode cX7_fieldOf 23 = .ok (.getfield 42, 3) := by decide +kernel
theorem dX7_fieldOf_26 : decode cX7_fieldOf 26 = .ok (.invokevirtual 45, 3) := by decide +kernel
theorem dX7_fieldOf_29 : decode cX7_fieldOf 29 = .ok (.ifCond .eq 18, 3) := by decide +kernel
theorem dX7_fieldOf_32 : decode cX7_fieldOf 32 = .ok (.aload_n 0, 1) := by decide +kernel
theorem dX7_fieldOf_33 : decode cX7_fieldOf 33 = .ok (.aload_n 2, 1) := by decide +kernel
theorem dX7_fieldOf_34 : decode cX7_fieldOf 34 = .ok (.getfield 42, 3) := by decide +kernel
theorem dX7_fieldOf_37 : decode cX7_fieldOf 37 = .ok (.invokevirtual 32, 3) := by decide +kernel
theorem dX7_fieldOf_40 : decode cX7_fieldOf 40 = .ok (.astore_n 2, 1) := by decide +kernel
theorem dX7_fieldOf_41 : decode cX7_fieldOf 41 = .ok (.iinc 3 1, 3) := by decide +kernel
theorem dX7_fieldOf_44 : decode cX7_fieldOf 44 = .ok (.goto (-36), 3) := by decide +kernel
theorem dX7_fieldOf_47 : decode cX7_fieldOf 47 = .ok (.aload_n 2, 1) := by decide +kernel
theorem dX7_fieldOf_48 : decode cX7_fieldOf 48 = .ok (.getfield 39, 3) := by decide +kernel
theorem dX7_fieldOf_51 : decode cX7_fieldOf 51 = .ok (.ireturn, 1) := by decide +kernel
theorem dX8_init_0 : decode cX8_init 0 = .ok (.aload_n 0, 1) := by decide +kernel
theorem dX8_init_1 : decode cX8_init 1 = .ok (.invokespecial 1, 3) := by decide +kernel
theorem dX8_init_4 : decode cX8_init 4 = .ok (.aload_n 0, 1) := by decide +kernel
theorem dX8_init_5 : decode cX8_init 5 = .ok (.sipush 240, 3) := by decide +kernel
theorem dX8_init_8 : decode cX8_init 8 = .ok (.newarray .byte, 2) := by decide +kernel
theorem dX8_init_10 : decode cX8_init 10 = .ok (.putfield 9, 3) := by decide +kernel
theorem dX8_init_13 : decode cX8_init 13 = .ok (.aload_n 0, 1) := by decide +kernel
theorem dX8_init_14 : decode cX8_init 14 = .ok (.iconst 0, 1) := by decide +kernel
theorem dX8_init_15 : decode cX8_init 15 = .ok (.putfield 13, 3) := by decide +kernel
theorem dX8_init_18 : decode cX8_init 18 = .ok (.aload_n 0, 1) := by decide +kernel
theorem dX8_init_19 : decode cX8_init 19 = .ok (.sipush 240, 3) := by decide +kernel
theorem dX8_init_22 : decode cX8_init 22 = .ok (.newarray .int, 2) := by decide +kernel
theorem dX8_init_24 : decode cX8_init 24 = .ok (.putfield 17, 3) := by decide +kernel
theorem dX8_init_27 : decode cX8_init 27 = .ok (.aload_n 0, 1) := by decide +kernel
theorem dX8_init_28 : decode cX8_init 28 = .ok (.sipush 240, 3) := by decide +kernel
theorem dX8_init_31 : decode cX8_init 31 = .ok (.newarray .int, 2) := by decide +kernel
theorem dX8_init_33 : decode cX8_init 33 = .ok (.putfield 21, 3) := by decide +kernel
theorem dX8_init_36 : decode cX8_init 36 = .ok (.aload_n 0, 1) := by decide +kernel
theorem dX8_init_37 : decode cX8_init 37 = .ok (.iconst 0, 1) := by decide +kernel
theorem dX8_init_38 : decode cX8_init 38 = .ok (.putfield 24, 3) := by decide +kernel
theorem dX8_init_41 : decode cX8_init 41 = .ok (.aload_n 0, 1) := by decide +kernel
theorem dX8_init_42 : decode cX8_init 42 = .ok (.new 27, 3) := by decide +kernel
theorem dX8_init_45 : decode cX8_init 45 = .ok (.dup, 1) := by decide +kernel
theorem dX8_init_46 : decode cX8_init 46 = .ok (.invokespecial 29, 3) := by decide +kernel
theorem dX8_init_49 : decode cX8_init 49 = .ok (.putfield 30, 3) := by decide +kernel
theorem dX8_init_52 : decode cX8_init 52 = .ok (.aload_n 0, 1) := by decide +kernel
theorem dX8_init_53 : decode cX8_init 53 = .ok (.new 34, 3) := by decide +kernel
theorem dX8_init_56 : decode cX8_init 56 = .ok (.dup, 1) := by decide +kernel
theorem dX8_init_57 : decode cX8_init 57 = .ok (.invokespecial 36, 3) := by decide +kernel
theorem dX8_init_60 : decode cX8_init 60 = .ok (.putfield 37, 3) := by decide +kernel
theorem dX8_init_63 : decode cX8_init 63 = .ok (.aload_n 0, 1) := by decide +kernel
theorem dX8_init_64 : decode cX8_init 64 = .ok (.new 41, 3) := by decide +kernel
theorem dX8_init_67 : decode cX8_init 67 = .ok (.dup, 1) := by decide +kernel
theorem dX8_init_68 : decode cX8_init 68 = .ok (.invokespecial 43, 3) := by decide +kernel
theorem dX8_init_71 : decode cX8_init 71 = .ok (.putfield 44, 3) := by decide +kernel
theorem dX8_init_74 : decode cX8_init 74 = .ok (.aload_n 0, 1) := by decide +kernel
theorem dX8_init_75 : decode cX8_init 75 = .ok (.new 48, 3) := by decide +kernel
theorem dX8_init_78 : decode cX8_init 78 = .ok (.dup, 1) := by decide +kernel
theorem dX8_init_79 : decode cX8_init 79 = .ok (.invokespecial 50, 3) := by decide +kernel
theorem dX8_init_82 : decode cX8_init 82 = .ok (.putfield 51, 3) := by decide +kernel
theorem dX8_init_85 : decode cX8_init 85 = .ok (.aload_n 0, 1) := by decide +kernel
theorem dX8_init_86 : decode cX8_init 86 = .ok (.bipush 8, 2) := by decide +kernel
theorem dX8_init_88 : decode cX8_init 88 = .ok (.newarray .long, 2) := by decide +kernel
theorem dX8_init_90 : decode cX8_init 90 = .ok (.putfield 55, 3) := by decide +kernel
theorem dX8_init_93 : decode cX8_init 93 = .ok (.return_, 1) := by decide +kernel
theorem dX8_feed_0 : decode cX8_feed 0 = .ok (.iload_n 1, 1) := by decide +kernel
theorem dX8_feed_1 : decode cX8_feed 1 = .ok (.iconst 1, 1) := by decide +kernel
theorem dX8_feed_2 : decode cX8_feed 2 = .ok (.if_icmp .lt 9, 3) := by decide +kernel
theorem dX8_feed_5 : decode cX8_feed 5 = .ok (.iload_n 1, 1) := by decide +kernel
theorem dX8_feed_6 : decode cX8_feed 6 = .ok (.bipush 8, 2) := by decide +kernel
theorem dX8_feed_8 : decode cX8_feed 8 = .ok (.if_icmp .le 6, 3) := by decide +kernel
theorem dX8_feed_11 : decode cX8_feed 11 = .ok (.bipush (-102), 2) := by decide +kernel
theorem dX8_feed_13 : decode cX8_feed 13 = .ok (.ireturn, 1) := by decide +kernel
theorem dX8_feed_14 : decode cX8_feed 14 = .ok (.aload_n 0, 1) := by decide +kernel
theorem dX8_feed_15 : decode cX8_feed 15 = .ok (.getfield 13, 3) := by decide +kernel
theorem dX8_feed_18 : decode cX8_feed 18 = .ok (.iload_n 1, 1) := by decide +kernel
theorem dX8_feed_19 : decode cX8_feed 19 = .ok (.iadd, 1) := by decide +kernel
theorem dX8_feed_20 : decode cX8_feed 20 = .ok (.sipush 240, 3) := by decide +kernel
theorem dX8_feed_23 : decode cX8_feed 23 = .ok (.if_icmp .le 6, 3) := by decide +kernel
theorem dX8_feed_26 : decode cX8_feed 26 = .ok (.bipush (-103), 2) := by decide +kernel
theorem dX8_feed_28 : decode cX8_feed 28 = .ok (.ireturn, 1) := by decide +kernel
theorem dX8_feed_29 : decode cX8_feed 29 = .ok (.bipush 8, 2) := by decide +kernel
theorem dX8_feed_31 : decode cX8_feed 31 = .ok (.iload_n 1, 1) := by decide +kernel
theorem dX8_feed_32 : decode cX8_feed 32 = .ok (.iconst 1, 1) := by decide +kernel
theorem dX8_feed_33 : decode cX8_feed 33 = .ok (.isub, 1) := by decide +kernel
theorem dX8_feed_34 : decode cX8_feed 34 = .ok (.imul, 1) := by decide +kernel
theorem dX8_feed_35 : decode cX8_feed 35 = .ok (.istore 4, 2) := by decide +kernel
theorem dX8_feed_37 : decode cX8_feed 37 = .ok (.iload 4, 2) := by decide +kernel
theorem dX8_feed_39 : decode cX8_feed 39 = .ok (.ifCond .lt 44, 3) := by decide +kernel
theorem dX8_feed_42 : decode cX8_feed 42 = .ok (.aload_n 0, 1) := by decide +kernel
theorem dX8_feed_43 : decode cX8_feed 43 = .ok (.getfield 13, 3) := by decide +kernel
theorem dX8_feed_46 : decode cX8_feed 46 = .ok (.sipush 240, 3) := by decide +kernel
theorem dX8_feed_49 : decode cX8_feed 49 = .ok (.if_icmp .ge 34, 3) := by decide +kernel
theorem dX8_feed_52 : decode cX8_feed 52 = .ok (.aload_n 0, 1) := by decide +kernel
theorem dX8_feed_53 : decode cX8_feed 53 = .ok (.getfield 9, 3) := by decide +kernel
theorem dX8_feed_56 : decode cX8_feed 56 = .ok (.aload_n 0, 1) := by decide +kernel
theorem dX8_feed_57 : decode cX8_feed 57 = .ok (.getfield 13, 3) := by decide +kernel
theorem dX8_feed_60 : decode cX8_feed 60 = .ok (.lload_n 2, 1) := by decide +kernel
theorem dX8_feed_61 : decode cX8_feed 61 = .ok (.iload 4, 2) := by decide +kernel
theorem dX8_feed_63 : decode cX8_feed 63 = .ok (.lushr, 1) := by decide +kernel
theorem dX8_feed_64 : decode cX8_feed 64 = .ok (.l2i, 1) := by decide +kernel
theorem dX8_feed_65 : decode cX8_feed 65 = .ok (.i2b, 1) := by decide +kernel
theorem dX8_feed_66 : decode cX8_feed 66 = .ok (.bastore, 1) := by decide +kernel
theorem dX8_feed_67 : decode cX8_feed 67 = .ok (.aload_n 0, 1) := by decide +kernel
theorem dX8_feed_68 : decode cX8_feed 68 = .ok (.dup, 1) := by decide +kernel
theorem dX8_feed_69 : decode cX8_feed 69 = .ok (.getfield 13, 3) := by decide +kernel
theorem dX8_feed_72 : decode cX8_feed 72 = .ok (.iconst 1, 1) := by decide +kernel
theorem dX8_feed_73 : decode cX8_feed 73 = .ok (.iadd, 1) := by decide +kernel
theorem dX8_feed_74 : decode cX8_feed 74 = .ok (.putfield 13, 3) := by decide +kernel
theorem dX8_feed_77 : decode cX8_feed 77 = .ok (.iinc 4 (-8), 3) := by decide +kernel
theorem dX8_feed_80 : decode cX8_feed 80 = .ok (.goto (-43), 3) := by decide +kernel
theorem dX8_feed_83 : decode cX8_feed 83 = .ok (.aload_n 0, 1) := by decide +kernel
theorem dX8_feed_84 : decode cX8_feed 84 = .ok (.getfield 13, 3) := by decide +kernel
theorem dX8_feed_87 : decode cX8_feed 87 = .ok (.ireturn, 1) := by decide +kernel
theorem dX8_read_0 : decode cX8_read 0 = .ok (.aload_n 0, 1) := by decide +kernel
theorem dX8_read_1 : decode cX8_read 1 = .ok (.getfield 13, 3) := by decide +kernel
theorem dX8_read_4 : decode cX8_read 4 = .ok (.istore_n 1, 1) := by decide +kernel
theorem dX8_read_5 : decode cX8_read 5 = .ok (.aload_n 0, 1) := by decide +kernel
theorem dX8_read_6 : decode cX8_read 6 = .ok (.iconst 0, 1) := by decide +kernel
theorem dX8_read_7 : decode cX8_read 7 = .ok (.putfield 13, 3) := by decide +kernel
theorem dX8_read_10 : decode cX8_read 10 = .ok (.aload_n 0, 1) := by decide +kernel
theorem dX8_read_11 : decode cX8_read 11 = .ok (.getfield 37, 3) := by decide +kernel
theorem dX8_read_14 : decode cX8_read 14 = .ok (.invokevirtual 59, 3) := by decide +kernel
theorem dX8_read_17 : decode cX8_read 17 = .ok (.iconst 0, 1) := by decide +kernel
theorem dX8_read_18 : decode cX8_read 18 = .ok (.istore_n 2, 1) := by decide +kernel
theorem dX8_read_19 : decode cX8_read 19 = .ok (.iload_n 2, 1) := by decide +kernel
theorem dX8_read_20 : decode cX8_read 20 = .ok (.iload_n 1, 1) := by decide +kernel
theorem dX8_read_21 : decode cX8_read 21 = .ok (.if_icmp .ge 42, 3) := by decide +kernel
theorem dX8_read_24 : decode cX8_read 24 = .ok (.iload_n 2, 1) := by decide +kernel
theorem dX8_read_25 : decode cX8_read 25 = .ok (.sipush 240, 3) := by decide +kernel
theorem dX8_read_28 : decode cX8_read 28 = .ok (.if_icmp .ge 35, 3) := by decide +kernel
theorem dX8_read_31 : decode cX8_read 31 = .ok (.aload_n 0, 1) := by decide +kernel
theorem dX8_read_32 : decode cX8_read 32 = .ok (.getfield 37, 3) := by decide +kernel
theorem dX8_read_35 : decode cX8_read 35 = .ok (.aload_n 0, 1) := by decide +kernel
theorem dX8_read_36 : decode cX8_read 36 = .ok (.getfield 9, 3) := by decide +kernel
theorem dX8_read_39 : decode cX8_read 39 = .ok (.iload_n 2, 1) := by decide +kernel
theorem dX8_read_40 : decode cX8_read 40 = .ok (.baload, 1) := by decide +kernel
theorem dX8_read_41 : decode cX8_read 41 = .ok (.sipush 255, 3) := by decide +kernel
theorem dX8_read_44 : decode cX8_read 44 = .ok (.iand, 1) := by decide +kernel
theorem dX8_read_45 : decode cX8_read 45 = .ok (.invokevirtual 62, 3) := by decide +kernel
theorem dX8_read_48 : decode cX8_read 48 = .ok (.ifCond .ne 9, 3) := by decide +kernel
theorem dX8_read_51 : decode cX8_read 51 = .ok (.sipush (-200), 3) := by decide +kernel
theorem dX8_read_54 : decode cX8_read 54 = .ok (.iload_n 2, 1) := by decide +kernel
theorem dX8_read_55 : decode cX8_read 55 = .ok (.isub, 1) := by decide +kernel
theorem dX8_read_56 : decode cX8_read 56 = .ok (.ireturn, 1) := by decide +kernel
theorem dX8_read_57 : decode cX8_read 57 = .ok (.iinc 2 1, 3) := by decide +kernel
theorem dX8_read_60 : decode cX8_read 60 = .ok (.goto (-41), 3) := by decide +kernel
theorem dX8_read_63 : decode cX8_read 63 = .ok (.aload_n 0, 1) := by decide +kernel
theorem dX8_read_64 : decode cX8_read 64 = .ok (.getfield 37, 3) := by decide +kernel
theorem dX8_read_67 : decode cX8_read 67 = .ok (.invokevirtual 66, 3) := by decide +kernel
theorem dX8_read_70 : decode cX8_read 70 = .ok (.ifCond .eq 10, 3) := by decide +kernel
theorem dX8_read_73 : decode cX8_read 73 = .ok (.aload_n 0, 1) := by decide +kernel
theorem dX8_read_74 : decode cX8_read 74 = .ok (.invokevirtual 70, 3) := by decide +kernel
theorem dX8_read_77 : decode cX8_read 77 = .ok (.goto 8, 3) := by decide +kernel
theorem dX8_read_80 : decode cX8_read 80 = .ok (.sipush (-200), 3) := by decide +kernel
theorem dX8_read_83 : decode cX8_read 83 = .ok (.iload_n 1, 1) := by decide +kernel
theorem dX8_read_84 : decode cX8_read 84 = .ok (.isub, 1) := by decide +kernel
theorem dX8_read_85 : decode cX8_read 85 = .ok (.ireturn, 1) := by decide +kernel
theorem dX8_lenient_0 : decode cX8_lenient 0 = .ok (.aload_n 0, 1) := by decide +kernel
theorem dX8_lenient_1 : decode cX8_lenient 1 = .ok (.getfield 13, 3) := by decide +kernel
theorem dX8_lenient_4 : decode cX8_lenient 4 = .ok (.istore_n 1, 1) := by decide +kernel
theorem dX8_lenient_5 : decode cX8_lenient 5 = .ok (.aload_n 0, 1) := by decide +kernel
theorem dX8_lenient_6 : decode cX8_lenient 6 = .ok (.iconst 0, 1) := by decide +kernel
theorem dX8_lenient_7 : decode cX8_lenient 7 = .ok (.putfield 13, 3) := by decide +kernel
theorem dX8_lenient_10 : decode cX8_lenient 10 = .ok (.aload_n 0, 1) := by decide +kernel
theorem dX8_lenient_11 : decode cX8_lenient 11 = .ok (.iconst 0, 1) := by decide +kernel
theorem dX8_lenient_12 : decode cX8_lenient 12 = .ok (.putfield 24, 3) := by decide +kernel
theorem dX8_lenient_15 : decode cX8_lenient 15 = .ok (.iconst 0, 1) := by decide +kernel
theorem dX8_lenient_16 : decode cX8_lenient 16 = .ok (.istore_n 2, 1) := by decide +kernel
theorem dX8_lenient_17 : decode cX8_lenient 17 = .ok (.iconst 0, 1) := by decide +kernel
theorem dX8_lenient_18 : decode cX8_lenient 18 = .ok (.istore_n 3, 1) := by decide +kernel
theorem dX8_lenient_19 : decode cX8_lenient 19 = .ok (.aload_n 0, 1) := by decide +kernel
theorem dX8_lenient_20 : decode cX8_lenient 20 = .ok (.getfield 37, 3) := by decide +kernel
theorem dX8_lenient_23 : decode cX8_lenient 23 = .ok (.invokevirtual 59, 3) := by decide +kernel
theorem dX8_lenient_26 : decode cX8_lenient 26 = .ok (.iconst 0, 1) := by decide +kernel
theorem dX8_lenient_27 : decode cX8_lenient 27 = .ok (.istore 4, 2) := by decide +kernel
theorem dX8_lenient_29 : decode cX8_lenient 29 = .ok (.iload 4, 2) := by decide +kernel
theorem dX8_lenient_31 : decode cX8_lenient 31 = .ok (.iload_n 1, 1) := by decide +kernel
theorem dX8_lenient_32 : decode cX8_lenient 32 = .ok (.if_icmp .ge 93, 3) := by decide +kernel
theorem dX8_lenient_35 : decode cX8_lenient 35 = .ok (.iload 4, 2) := by decide +kernel
theorem dX8_lenient_37 : decode cX8_lenient 37 = .ok (.sipush 240, 3) := by decide +kernel
theorem dX8_lenient_40 : decode cX8_lenient 40 = .ok (.if_icmp .ge 85, 3) := by decide +kernel
theorem dX8_lenient_43 : decode cX8_lenient 43 = .ok (.iload_n 2, 1) := by decide +kernel
theorem dX8_lenient_44 : decode cX8_lenient 44 = .ok (.iload 4, 2) := by decide +kernel
theorem dX8_lenient_46 : decode cX8_lenient 46 = .ok (.if_icmp .gt 79, 3) := by decide +kernel
theorem dX8_lenient_49 : decode cX8_lenient 49 = .ok (.aload_n 0, 1) := by decide +kernel
theorem dX8_lenient_50 : decode cX8_lenient 50 = .ok (.getfield 37, 3) := by decide +kernel
theorem dX8_lenient_53 : decode cX8_lenient 53 = .ok (.aload_n 0, 1) := by decide +kernel
theorem dX8_lenient_54 : decode cX8_lenient 54 = .ok (.getfield 9, 3) := by decide +kernel
theorem dX8_lenient_57 : decode cX8_lenient 57 = .ok (.iload 4, 2) := by decide +kernel
theorem dX8_lenient_59 : decode cX8_lenient 59 = .ok (.baload, 1) := by decide +kernel
theorem dX8_lenient_60 : decode cX8_lenient 60 = .ok (.sipush 255, 3) := by decide +kernel
theorem dX8_lenient_63 : decode cX8_lenient 63 = .ok (.iand, 1) := by decide +kernel
theorem dX8_lenient_64 : decode cX8_lenient 64 = .ok (.invokevirtual 62, 3) := by decide +kernel
theorem dX8_lenient_67 : decode cX8_lenient 67 = .ok (.ifCond .eq 46, 3) := by decide +kernel
theorem dX8_lenient_70 : decode cX8_lenient 70 = .ok (.aload_n 0, 1) := by decide +kernel
theorem dX8_lenient_71 : decode cX8_lenient 71 = .ok (.getfield 9, 3) := by decide +kernel
theorem dX8_lenient_74 : decode cX8_lenient 74 = .ok (.iload_n 2, 1) := by decide +kernel
theorem dX8_lenient_75 : decode cX8_lenient 75 = .ok (.aload_n 0, 1) := by decide +kernel
theorem dX8_lenient_76 : decode cX8_lenient 76 = .ok (.getfield 9, 3) := by decide +kernel
theorem dX8_lenient_79 : decode cX8_lenient 79 = .ok (.iload 4, 2) := by decide +kernel
theorem dX8_lenient_81 : decode cX8_lenient 81 = .ok (.baload, 1) := by decide +kernel
theorem dX8_lenient_82 : decode cX8_lenient 82 = .ok (.bastore, 1) := by decide +kernel
theorem dX8_lenient_83 : decode cX8_lenient 83 = .ok (.aload_n 0, 1) := by decide +kernel
theorem dX8_lenient_84 : decode cX8_lenient 84 = .ok (.getfield 17, 3) := by decide +kernel
theorem dX8_lenient_87 : decode cX8_lenient 87 = .ok (.iload_n 2, 1) := by decide +kernel
theorem dX8_lenient_88 : decode cX8_lenient 88 = .ok (.iload 4, 2) := by decide +kernel
theorem dX8_lenient_90 : decode cX8_lenient 90 = .ok (.iastore, 1) := by decide +kernel
theorem dX8_lenient_91 : decode cX8_lenient 91 = .ok (.iinc 2 1, 3) := by decide +kernel
theorem dX8_lenient_94 : decode cX8_lenient 94 = .ok (.aload_n 0, 1) := by decide +kernel
theorem dX8_lenient_95 : decode cX8_lenient 95 = .ok (.getfield 37, 3) := by decide +kernel
theorem dX8_lenient_98 : decode cX8_lenient 98 = .ok (.invokevirtual 66, 3) := by decide +kernel
theorem dX8_lenient_101 : decode cX8_lenient 101 = .ok (.ifCond .eq 7, 3) := by decide +kernel
theorem dX8_lenient_104 : decode cX8_lenient 104 = .ok (.iload_n 2, 1) := by decide +kernel
theorem dX8_lenient_105 : decode cX8_lenient 105 = .ok (.goto 4, 3) := by decide +kernel
theorem dX8_lenient_108 : decode cX8_lenient 108 = .ok (.iload_n 3, 1) := by decide +kernel
theorem dX8_lenient_109 : decode cX8_lenient 109 = .ok (.istore_n 3, 1) := by decide +kernel
theorem dX8_lenient_110 : decode cX8_lenient 110 = .ok (.goto 9, 3) := by decide +kernel
theorem dX8_lenient_113 : decode cX8_lenient 113 = .ok (.aload_n 0, 1) := by decide +kernel
theorem dX8_lenient_114 : decode cX8_lenient 114 = .ok (.iload 4, 2) := by decide +kernel
theorem dX8_lenient_116 : decode cX8_lenient 116 = .ok (.invokevirtual 74, 3) := by decide +kernel
theorem dX8_lenient_119 : decode cX8_lenient 119 = .ok (.iinc 4 1, 3) := by decide +kernel
theorem dX8_lenient_122 : decode cX8_lenient 122 = .ok (.goto (-93), 3) := by decide +kernel
theorem dX8_lenient_125 : decode cX8_lenient 125 = .ok (.iload_n 2, 1) := by decide +kernel
theorem dX8_lenient_126 : decode cX8_lenient 126 = .ok (.iconst 1, 1) := by decide +kernel
theorem dX8_lenient_127 : decode cX8_lenient 127 = .ok (.isub, 1) := by decide +kernel
theorem dX8_lenient_128 : decode cX8_lenient 128 = .ok (.istore 4, 2) := by decide +kernel
theorem dX8_lenient_130 : decode cX8_lenient 130 = .ok (.iload 4, 2) := by decide +kernel
theorem dX8_lenient_132 : decode cX8_lenient 132 = .ok (.iload_n 3, 1) := by decide +kernel
theorem dX8_lenient_133 : decode cX8_lenient 133 = .ok (.if_icmp .lt 25, 3) := by decide +kernel
theorem dX8_lenient_136 : decode cX8_lenient 136 = .ok (.iload 4, 2) := by decide +kernel
theorem dX8_lenient_138 : decode cX8_lenient 138 = .ok (.ifCond .lt 20, 3) := by decide +kernel
theorem dX8_lenient_141 : decode cX8_lenient 141 = .ok (.aload_n 0, 1) := by decide +kernel
theorem dX8_lenient_142 : decode cX8_lenient 142 = .ok (.aload_n 0, 1) := by decide +kernel
theorem dX8_lenient_143 : decode cX8_lenient 143 = .ok (.getfield 17, 3) := by decide +kernel
theorem dX8_lenient_146 : decode cX8_lenient 146 = .ok (.iload 4, 2) := by decide +kernel
theorem dX8_lenient_148 : decode cX8_lenient 148 = .ok (.iaload, 1) := by decide +kernel
theorem dX8_lenient_149 : decode cX8_lenient 149 = .ok (.invokevirtual 74, 3) := by decide +kernel
theorem dX8_lenient_152 : decode cX8_lenient 152 = .ok (.iinc 4 (-1), 3) := by decide +kernel
theorem dX8_lenient_155 : decode cX8_lenient 155 = .ok (.goto (-25), 3) := by decide +kernel
theorem dX8_lenient_158 : decode cX8_lenient 158 = .ok (.iload_n 3, 1) := by decide +kernel
theorem dX8_lenient_159 : decode cX8_lenient 159 = .ok (.ifCond .ne 5, 3) := by decide +kernel
theorem dX8_lenient_162 : decode cX8_lenient 162 = .ok (.iconst (-1), 1) := by decide +kernel
theorem dX8_lenient_163 : decode cX8_lenient 163 = .ok (.ireturn, 1) := by decide +kernel
theorem dX8_lenient_164 : decode cX8_lenient 164 = .ok (.aload_n 0, 1) := by decide +kernel
theorem dX8_lenient_165 : decode cX8_lenient 165 = .ok (.getfield 37, 3) := by decide +kernel
theorem dX8_lenient_168 : decode cX8_lenient 168 = .ok (.invokevirtual 59, 3) := by decide +kernel
theorem dX8_lenient_171 : decode cX8_lenient 171 = .ok (.iconst 0, 1) := by decide +kernel
theorem dX8_lenient_172 : decode cX8_lenient 172 = .ok (.istore 4, 2) := by decide +kernel
theorem dX8_lenient_174 : decode cX8_lenient 174 = .ok (.iload 4, 2) := by decide +kernel
theorem dX8_lenient_176 : decode cX8_lenient 176 = .ok (.iload_n 3, 1) := by decide +kernel
theorem dX8_lenient_177 : decode cX8_lenient 177 = .ok (.if_icmp .ge 36, 3) := by decide +kernel
theorem dX8_lenient_180 : decode cX8_lenient 180 = .ok (.iload 4, 2) := by decide +kernel
theorem dX8_lenient_182 : decode cX8_lenient 182 = .ok (.sipush 240, 3) := by decide +kernel
theorem dX8_lenient_185 : decode cX8_lenient 185 = .ok (.if_icmp .ge 28, 3) := by decide +kernel
theorem dX8_lenient_188 : decode cX8_lenient 188 = .ok (.aload_n 0, 1) := by decide +kernel
theorem dX8_lenient_189 : decode cX8_lenient 189 = .ok (.getfield 37, 3) := by decide +kernel
theorem dX8_lenient_192 : decode cX8_lenient 192 = .ok (.aload_n 0, 1) := by decide +kernel
theorem dX8_lenient_193 : decode cX8_lenient 193 = .ok (.getfield 9, 3) := by decide +kernel
theorem dX8_lenient_196 : decode cX8_lenient 196 = .ok (.iload 4, 2) := by decide +kernel
theorem dX8_lenient_198 : decode cX8_lenient 198 = .ok (.baload, 1) := by decide +kernel
theorem dX8_lenient_199 : decode cX8_lenient 199 = .ok (.sipush 255, 3) := by decide +kernel
theorem dX8_lenient_202 : decode cX8_lenient 202 = .ok (.iand, 1) := by decide +kernel
theorem dX8_lenient_203 : decode cX8_lenient 203 = .ok (.invokevirtual 62, 3) := by decide +kernel
theorem dX8_lenient_206 : decode cX8_lenient 206 = .ok (.pop, 1) := by decide +kernel
theorem dX8_lenient_207 : decode cX8_lenient 207 = .ok (.iinc 4 1, 3) := by decide +kernel
theorem dX8_lenient_210 : decode cX8_lenient 210 = .ok (.goto (-36), 3) := by decide +kernel
theorem dX8_lenient_213 : decode cX8_lenient 213 = .ok (.aload_n 0, 1) := by decide +kernel
theorem dX8_lenient_214 : decode cX8_lenient 214 = .ok (.invokevirtual 70, 3) := by decide +kernel
theorem dX8_lenient_217 : decode cX8_lenient 217 = .ok (.ireturn, 1) := by decide +kernel
theorem dX8_drop_0 : decode cX8_drop 0 = .ok (.aload_n 0, 1) := by decide +kernel
theorem dX8_drop_1 : decode cX8_drop 1 = .ok (.getfield 24, 3) := by decide +kernel
theorem dX8_drop_4 : decode cX8_drop 4 = .ok (.ifCond .lt 33, 3) := by decide +kernel
theorem dX8_drop_7 : decode cX8_drop 7 = .ok (.aload_n 0, 1) := by decide +kernel
theorem dX8_drop_8 : decode cX8_drop 8 = .ok (.getfield 24, 3) := by decide +kernel
theorem dX8_drop_11 : decode cX8_drop 11 = .ok (.sipush 240, 3) := by decide +kernel
theorem dX8_drop_14 : decode cX8_drop 14 = .ok (.if_icmp .ge 23, 3) := by decide +kernel
theorem dX8_drop_17 : decode cX8_drop 17 = .ok (.aload_n 0, 1) := by decide +kernel
theorem dX8_drop_18 : decode cX8_drop 18 = .ok (.getfield 21, 3) := by decide +kernel
theorem dX8_drop_21 : decode cX8_drop 21 = .ok (.aload_n 0, 1) := by decide +kernel
theorem dX8_drop_22 : decode cX8_drop 22 = .ok (.getfield 24, 3) := by decide +kernel
theorem dX8_drop_25 : decode cX8_drop 25 = .ok (.iload_n 1, 1) := by decide +kernel
theorem dX8_drop_26 : decode cX8_drop 26 = .ok (.iastore, 1) := by decide +kernel
theorem dX8_drop_27 : decode cX8_drop 27 = .ok (.aload_n 0, 1) := by decide +kernel
theorem dX8_drop_28 : decode cX8_drop 28 = .ok (.dup, 1) := by decide +kernel
theorem dX8_drop_29 : decode cX8_drop 29 = .ok (.getfield 24, 3) := by decide +kernel
theorem dX8_drop_32 : decode cX8_drop 32 = .ok (.iconst 1, 1) := by decide +kernel
theorem dX8_drop_33 : decode cX8_drop 33 = .ok (.iadd, 1) := by decide +kernel
theorem dX8_drop_34 : decode cX8_drop 34 = .ok (.putfield 24, 3) := by decide +kernel
theorem dX8_drop_37 : decode cX8_drop 37 = .ok (.return_, 1) := by decide +kernel
theorem dX8_adoptReading_0 : decode cX8_adoptReading 0 = .ok (.aload_n 0, 1) := by decide +kernel
theorem dX8_adoptReading_1 : decode cX8_adoptReading 1 = .ok (.aload_n 0, 1) := by decide +kernel
theorem dX8_adoptReading_2 : decode cX8_adoptReading 2 = .ok (.getfield 37, 3) := by decide +kernel
theorem dX8_adoptReading_5 : decode cX8_adoptReading 5 = .ok (.aload_n 0, 1) := by decide +kernel
theorem dX8_adoptReading_6 : decode cX8_adoptReading 6 = .ok (.getfield 30, 3) := by decide +kernel
theorem dX8_adoptReading_9 : decode cX8_adoptReading 9 = .ok (.invokevirtual 78, 3) := by decide +kernel
theorem dX8_adoptReading_12 : decode cX8_adoptReading 12 = .ok (.putfield 30, 3) := by decide +kernel
theorem dX8_adoptReading_15 : decode cX8_adoptReading 15 = .ok (.aload_n 0, 1) := by decide +kernel
theorem dX8_adoptReading_16 : decode cX8_adoptReading 16 = .ok (.getfield 30, 3) := by decide +kernel
theorem dX8_adoptReading_19 : decode cX8_adoptReading 19 = .ok (.getfield 82, 3) := by decide +kernel
theorem dX8_adoptReading_22 : decode cX8_adoptReading 22 = .ok (.ireturn, 1) := by decide +kernel
theorem dX8_dropped_0 : decode cX8_dropped 0 = .ok (.iload_n 1, 1) := by decide +kernel
theorem dX8_dropped_1 : decode cX8_dropped 1 = .ok (.ifCond .lt 27, 3) := by decide +kernel
theorem dX8_dropped_4 : decode cX8_dropped 4 = .ok (.iload_n 1, 1) := by decide +kernel
theorem dX8_dropped_5 : decode cX8_dropped 5 = .ok (.aload_n 0, 1) := by decide +kernel
theorem dX8_dropped_6 : decode cX8_dropped 6 = .ok (.getfield 24, 3) := by decide +kernel
theorem dX8_dropped_9 : decode cX8_dropped 9 = .ok (.if_icmp .ge 19, 3) := by decide +kernel
theorem dX8_dropped_12 : decode cX8_dropped 12 = .ok (.iload_n 1, 1) := by decide +kernel
theorem dX8_dropped_13 : decode cX8_dropped 13 = .ok (.sipush 240, 3) := by decide +kernel
theorem dX8_dropped_16 : decode cX8_dropped 16 = .ok (.if_icmp .ge 12, 3) := by decide +kernel
theorem dX8_dropped_19 : decode cX8_dropped 19 = .ok (.aload_n 0, 1) := by decide +kernel
theorem dX8_dropped_20 : decode cX8_dropped 20 = .ok (.getfield 21, 3) := by decide +kernel
theorem dX8_dropped_23 : decode cX8_dropped 23 = .ok (.iload_n 1, 1) := by decide +kernel
theorem dX8_dropped_24 : decode cX8_dropped 24 = .ok (.iaload, 1) := by decide +kernel
theorem dX8_dropped_25 : decode cX8_dropped 25 = .ok (.goto 4, 3) := by decide +kernel
theorem dX8_dropped_28 : decode cX8_dropped 28 = .ok (.iconst (-1), 1) := by decide +kernel
theorem dX8_dropped_29 : decode cX8_dropped 29 = .ok (.ireturn, 1) := by decide +kernel
theorem dX8_node_0 : decode cX8_node 0 = .ok (.aload_n 0, 1) := by decide +kernel
theorem dX8_node_1 : decode cX8_node 1 = .ok (.getfield 30, 3) := by decide +kernel
theorem dX8_node_4 : decode cX8_node 4 = .ok (.iload_n 1, 1) := by decide +kernel
theorem dX8_node_5 : decode cX8_node 5 = .ok (.invokevirtual 85, 3) := by decide +kernel
theorem dX8_node_8 : decode cX8_node 8 = .ok (.ifCond .ne 13, 3) := by decide +kernel
theorem dX8_node_11 : decode cX8_node 11 = .ok (.new 88, 3) := by decide +kernel
theorem dX8_node_14 : decode cX8_node 14 = .ok (.dup, 1) := by decide +kernel
theorem dX8_node_15 : decode cX8_node 15 = .ok (.ldc 90, 2) := by decide +kernel
theorem dX8_node_17 : decode cX8_node 17 = .ok (.invokespecial 92, 3) := by decide +kernel
theorem dX8_node_20 : decode cX8_node 20 = .ok (.athrow, 1) := by decide +kernel
theorem dX8_node_21 : decode cX8_node 21 = .ok (.aload_n 0, 1) := by decide +kernel
theorem dX8_node_22 : decode cX8_node 22 = .ok (.getfield 30, 3) := by decide +kernel
theorem dX8_node_25 : decode cX8_node 25 = .ok (.iload_n 1, 1) := by decide +kernel
theorem dX8_node_26 : decode cX8_node 26 = .ok (.invokevirtual 95, 3) := by decide +kernel
theorem dX8_node_29 : decode cX8_node 29 = .ok (.astore_n 3, 1) := by decide +kernel
theorem dX8_node_30 : decode cX8_node 30 = .ok (.iload_n 2, 1) := by decide +kernel
theorem dX8_node_31 : decode cX8_node 31 = .ok (.tableswitch 76 0 6 #[41, 46, 51, 56, 61, 66, 71], 41) := by decide +kernel
theorem dX8_node_72 : decode cX8_node 72 = .ok (.aload_n 3, 1) := by decide +kernel
theorem dX8_node_73 : decode cX8_node 73 = .ok (.getfield 99, 3) := by decide +kernel
theorem dX8_node_76 : decode cX8_node 76 = .ok (.ireturn, 1) := by decide +kernel
theorem dX8_node_77 : decode cX8_node 77 = .ok (.aload_n 3, 1) := by decide +kernel
theorem dX8_node_78 : decode cX8_node 78 = .ok (.getfield 104, 3) := by decide +kernel
theorem dX8_node_81 : decode cX8_node 81 = .ok (.ireturn, 1) := by decide +kernel
theorem dX8_node_82 : decode cX8_node 82 = .ok (.aload_n 3, 1) := by decide +kernel
theorem dX8_node_83 : decode cX8_node 83 = .ok (.getfield 107, 3) := by decide +kernel
theorem dX8_node_86 : decode cX8_node 86 = .ok (.ireturn, 1) := by decide +kernel
theorem dX8_node_87 : decode cX8_node 87 = .ok (.aload_n 3, 1) := by decide +kernel
theorem dX8_node_88 : decode cX8_node 88 = .ok (.getfield 110, 3) := by decide +kernel
theorem dX8_node_91 : decode cX8_node 91 = .ok (.ireturn, 1) := by decide +kernel
theorem dX8_node_92 : decode cX8_node 92 = .ok (.aload_n 3, 1) := by decide +kernel
theorem dX8_node_93 : decode cX8_node 93 = .ok (.getfield 113, 3) := by decide +kernel
theorem dX8_node_96 : decode cX8_node 96 = .ok (.ireturn, 1) := by decide +kernel
theorem dX8_node_97 : decode cX8_node 97 = .ok (.aload_n 3, 1) := by decide +kernel
theorem dX8_node_98 : decode cX8_node 98 = .ok (.getfield 116, 3) := by decide +kernel
theorem dX8_node_101 : decode cX8_node 101 = .ok (.ireturn, 1) := by decide +kernel
theorem dX8_node_102 : decode cX8_node 102 = .ok (.aload_n 3, 1) := by decide +kernel
theorem dX8_node_103 : decode cX8_node 103 = .ok (.getfield 119, 3) := by decide +kernel
theorem dX8_node_106 : decode cX8_node 106 = .ok (.ireturn, 1) := by decide +kernel
theorem dX8_node_107 : decode cX8_node 107 = .ok (.bipush (-102), 2) := by decide +kernel
theorem dX8_node_109 : decode cX8_node 109 = .ok (.ireturn, 1) := by decide +kernel
theorem dX8_sign_0 : decode cX8_sign 0 = .ok (.aload_n 0, 1) := by decide +kernel
theorem dX8_sign_1 : decode cX8_sign 1 = .ok (.getfield 30, 3) := by decide +kernel
theorem dX8_sign_4 : decode cX8_sign 4 = .ok (.iload_n 1, 1) := by decide +kernel
theorem dX8_sign_5 : decode cX8_sign 5 = .ok (.invokevirtual 85, 3) := by decide +kernel
theorem dX8_sign_8 : decode cX8_sign 8 = .ok (.ifCond .ne 13, 3) := by decide +kernel
theorem dX8_sign_11 : decode cX8_sign 11 = .ok (.new 88, 3) := by decide +kernel
theorem dX8_sign_14 : decode cX8_sign 14 = .ok (.dup, 1) := by decide +kernel
theorem dX8_sign_15 : decode cX8_sign 15 = .ok (.ldc 90, 2) := by decide +kernel
theorem dX8_sign_17 : decode cX8_sign 17 = .ok (.invokespecial 92, 3) := by decide +kernel
theorem dX8_sign_20 : decode cX8_sign 20 = .ok (.athrow, 1) := by decide +kernel
theorem dX8_sign_21 : decode cX8_sign 21 = .ok (.aload_n 0, 1) := by decide +kernel
theorem dX8_sign_22 : decode cX8_sign 22 = .ok (.getfield 30, 3) := by decide +kernel
theorem dX8_sign_25 : decode cX8_sign 25 = .ok (.iload_n 1, 1) := by decide +kernel
theorem dX8_sign_26 : decode cX8_sign 26 = .ok (.invokevirtual 95, 3) := by decide +kernel
theorem dX8_sign_29 : decode cX8_sign 29 = .ok (.astore 4, 2) := by decide +kernel
theorem dX8_sign_31 : decode cX8_sign 31 = .ok (.aload 4, 2) := by decide +kernel
theorem dX8_sign_33 : decode cX8_sign 33 = .ok (.getfield 99, 3) := by decide +kernel
theorem dX8_sign_36 : decode cX8_sign 36 = .ok (.iconst 3, 1) := by decide +kernel
theorem dX8_sign_37 : decode cX8_sign 37 = .ok (.if_icmp .ne 13, 3) := by decide +kernel
theorem dX8_sign_40 : decode cX8_sign 40 = .ok (.new 122, 3) := by decide +kernel
theorem dX8_sign_43 : decode cX8_sign 43 = .ok (.dup, 1) := by decide +kernel
theorem dX8_sign_44 : decode cX8_sign 44 = .ok (.ldc 124, 2) := by decide +kernel
theorem dX8_sign_46 : decode cX8_sign 46 = .ok (.invokespecial 126, 3) := by decide +kernel
theorem dX8_sign_49 : decode cX8_sign 49 = .ok (.athrow, 1) := by decide +kernel
theorem dX8_sign_50 : decode cX8_sign 50 = .ok (.aload 4, 2) := by decide +kernel
theorem dX8_sign_52 : decode cX8_sign 52 = .ok (.iload_n 2, 1) := by decide +kernel
theorem dX8_sign_53 : decode cX8_sign 53 = .ok (.invokevirtual 127, 3) := by decide +kernel
theorem dX8_sign_56 : decode cX8_sign 56 = .ok (.iload_n 3, 1) := by decide +kernel
theorem dX8_sign_57 : decode cX8_sign 57 = .ok (.invokestatic 131, 3) := by decide +kernel
theorem dX8_sign_60 : decode cX8_sign 60 = .ok (.istore 5, 2) := by decide +kernel
theorem dX8_sign_62 : decode cX8_sign 62 = .ok (.iload 5, 2) := by decide +kernel
theorem dX8_sign_64 : decode cX8_sign 64 = .ok (.ifCond .ne 13, 3) := by decide +kernel
theorem dX8_sign_67 : decode cX8_sign 67 = .ok (.new 88, 3) := by decide +kernel
theorem dX8_sign_70 : decode cX8_sign 70 = .ok (.dup, 1) := by decide +kernel
theorem dX8_sign_71 : decode cX8_sign 71 = .ok (.ldc 137, 2) := by decide +kernel
theorem dX8_sign_73 : decode cX8_sign 73 = .ok (.invokespecial 92, 3) := by decide +kernel
theorem dX8_sign_76 : decode cX8_sign 76 = .ok (.athrow, 1) := by decide +kernel
theorem dX8_sign_77 : decode cX8_sign 77 = .ok (.iload 5, 2) := by decide +kernel
theorem dX8_sign_79 : decode cX8_sign 79 = .ok (.ireturn, 1) := by decide +kernel
theorem dX8_print_0 : decode cX8_print 0 = .ok (.aload_n 0, 1) := by decide +kernel
theorem dX8_print_1 : decode cX8_print 1 = .ok (.getfield 30, 3) := by decide +kernel
theorem dX8_print_4 : decode cX8_print 4 = .ok (.invokevirtual 139, 3) := by decide +kernel
theorem dX8_print_7 : decode cX8_print 7 = .ok (.ifCond .eq 6, 3) := by decide +kernel
theorem dX8_print_10 : decode cX8_print 10 = .ok (.bipush (-104), 2) := by decide +kernel
theorem dX8_print_12 : decode cX8_print 12 = .ok (.ireturn, 1) := by decide +kernel
theorem dX8_print_13 : decode cX8_print 13 = .ok (.aload_n 0, 1) := by decide +kernel
theorem dX8_print_14 : decode cX8_print 14 = .ok (.getfield 44, 3) := by decide +kernel
theorem dX8_print_17 : decode cX8_print 17 = .ok (.aload_n 0, 1) := by decide +kernel
theorem dX8_print_18 : decode cX8_print 18 = .ok (.getfield 30, 3) := by decide +kernel
theorem dX8_print_21 : decode cX8_print 21 = .ok (.invokevirtual 142, 3) := by decide +kernel
theorem dX8_print_24 : decode cX8_print 24 = .ok (.ireturn, 1) := by decide +kernel
theorem dX8_out_0 : decode cX8_out 0 = .ok (.aload_n 0, 1) := by decide +kernel
theorem dX8_out_1 : decode cX8_out 1 = .ok (.getfield 44, 3) := by decide +kernel
theorem dX8_out_4 : decode cX8_out 4 = .ok (.invokevirtual 146, 3) := by decide +kernel
theorem dX8_out_7 : decode cX8_out 7 = .ok (.ifCond .ne 13, 3) := by decide +kernel
theorem dX8_out_10 : decode cX8_out 10 = .ok (.new 149, 3) := by decide +kernel
theorem dX8_out_13 : decode cX8_out 13 = .ok (.dup, 1) := by decide +kernel
theorem dX8_out_14 : decode cX8_out 14 = .ok (.ldc 151, 2) := by decide +kernel
theorem dX8_out_16 : decode cX8_out 16 = .ok (.invokespecial 153, 3) := by decide +kernel
theorem dX8_out_19 : decode cX8_out 19 = .ok (.athrow, 1) := by decide +kernel
theorem dX8_out_20 : decode cX8_out 20 = .ok (.aload_n 0, 1) := by decide +kernel
theorem dX8_out_21 : decode cX8_out 21 = .ok (.getfield 44, 3) := by decide +kernel
theorem dX8_out_24 : decode cX8_out 24 = .ok (.iload_n 1, 1) := by decide +kernel
theorem dX8_out_25 : decode cX8_out 25 = .ok (.invokevirtual 154, 3) := by decide +kernel
theorem dX8_out_28 : decode cX8_out 28 = .ok (.istore_n 2, 1) := by decide +kernel
theorem dX8_out_29 : decode cX8_out 29 = .ok (.iload_n 2, 1) := by decide +kernel
theorem dX8_out_30 : decode cX8_out 30 = .ok (.iconst (-1), 1) := by decide +kernel
theorem dX8_out_31 : decode cX8_out 31 = .ok (.if_icmp .ne 13, 3) := by decide +kernel
theorem dX8_out_34 : decode cX8_out 34 = .ok (.new 88, 3) := by decide +kernel
theorem dX8_out_37 : decode cX8_out 37 = .ok (.dup, 1) := by decide +kernel
theorem dX8_out_38 : decode cX8_out 38 = .ok (.ldc 158, 2) := by decide +kernel
theorem dX8_out_40 : decode cX8_out 40 = .ok (.invokespecial 92, 3) := by decide +kernel
theorem dX8_out_43 : decode cX8_out 43 = .ok (.athrow, 1) := by decide +kernel
theorem dX8_out_44 : decode cX8_out 44 = .ok (.iload_n 2, 1) := by decide +kernel
theorem dX8_out_45 : decode cX8_out 45 = .ok (.ireturn, 1) := by decide +kernel
theorem dX8_word_0 : decode cX8_word 0 = .ok (.iload_n 1, 1) := by decide +kernel
theorem dX8_word_1 : decode cX8_word 1 = .ok (.invokestatic 160, 3) := by decide +kernel
theorem dX8_word_4 : decode cX8_word 4 = .ok (.ifCond .eq 12, 3) := by decide +kernel
theorem dX8_word_7 : decode cX8_word 7 = .ok (.iload_n 2, 1) := by decide +kernel
theorem dX8_word_8 : decode cX8_word 8 = .ok (.ifCond .lt 8, 3) := by decide +kernel
theorem dX8_word_11 : decode cX8_word 11 = .ok (.iload_n 2, 1) := by decide +kernel
theorem dX8_word_12 : decode cX8_word 12 = .ok (.iconst 4, 1) := by decide +kernel
theorem dX8_word_13 : decode cX8_word 13 = .ok (.if_icmp .lt 6, 3) := by decide +kernel
theorem dX8_word_16 : decode cX8_word 16 = .ok (.bipush (-101), 2) := by decide +kernel
theorem dX8_word_18 : decode cX8_word 18 = .ok (.ireturn, 1) := by decide +kernel
theorem dX8_word_19 : decode cX8_word 19 = .ok (.lload_n 3, 1) := by decide +kernel
theorem dX8_word_20 : decode cX8_word 20 = .ok (.invokestatic 163, 3) := by decide +kernel
theorem dX8_word_23 : decode cX8_word 23 = .ok (.ifCond .ne 6, 3) := by decide +kernel
theorem dX8_word_26 : decode cX8_word 26 = .ok (.bipush (-102), 2) := by decide +kernel
theorem dX8_word_28 : decode cX8_word 28 = .ok (.ireturn, 1) := by decide +kernel
theorem dX8_word_29 : decode cX8_word 29 = .ok (.aload_n 0, 1) := by decide +kernel
theorem dX8_word_30 : decode cX8_word 30 = .ok (.getfield 51, 3) := by decide +kernel
theorem dX8_word_33 : decode cX8_word 33 = .ok (.getfield 167, 3) := by decide +kernel
theorem dX8_word_36 : decode cX8_word 36 = .ok (.iload_n 1, 1) := by decide +kernel
theorem dX8_word_37 : decode cX8_word 37 = .ok (.iload_n 2, 1) := by decide +kernel
theorem dX8_word_38 : decode cX8_word 38 = .ok (.lload_n 3, 1) := by decide +kernel
theorem dX8_word_39 : decode cX8_word 39 = .ok (.invokestatic 171, 3) := by decide +kernel
theorem dX8_word_42 : decode cX8_word 42 = .ok (.invokevirtual 175, 3) := by decide +kernel
theorem dX8_word_45 : decode cX8_word 45 = .ok (.ireturn, 1) := by decide +kernel
theorem dX8_clear_0 : decode cX8_clear 0 = .ok (.iload_n 1, 1) := by decide +kernel
theorem dX8_clear_1 : decode cX8_clear 1 = .ok (.invokestatic 160, 3) := by decide +kernel
theorem dX8_clear_4 : decode cX8_clear 4 = .ok (.ifCond .eq 17, 3) := by decide +kernel
theorem dX8_clear_7 : decode cX8_clear 7 = .ok (.aload_n 0, 1) := by decide +kernel
theorem dX8_clear_8 : decode cX8_clear 8 = .ok (.getfield 51, 3) := by decide +kernel
theorem dX8_clear_11 : decode cX8_clear 11 = .ok (.getfield 167, 3) := by decide +kernel
theorem dX8_clear_14 : decode cX8_clear 14 = .ok (.iload_n 1, 1) := by decide +kernel
theorem dX8_clear_15 : decode cX8_clear 15 = .ok (.invokevirtual 181, 3) := by decide +kernel
theorem dX8_clear_18 : decode cX8_clear 18 = .ok (.goto 5, 3) := by decide +kernel
theorem dX8_clear_21 : decode cX8_clear 21 = .ok (.bipush (-101), 2) := by decide +kernel
theorem dX8_clear_23 : decode cX8_clear 23 = .ok (.ireturn, 1) := by decide +kernel
theorem dX8_fits_0 : decode cX8_fits 0 = .ok (.aload_n 0, 1) := by decide +kernel
theorem dX8_fits_1 : decode cX8_fits 1 = .ok (.getfield 30, 3) := by decide +kernel
theorem dX8_fits_4 : decode cX8_fits 4 = .ok (.iload_n 1, 1) := by decide +kernel
theorem dX8_fits_5 : decode cX8_fits 5 = .ok (.invokevirtual 85, 3) := by decide +kernel
theorem dX8_fits_8 : decode cX8_fits 8 = .ok (.ifCond .eq 10, 3) := by decide +kernel
theorem dX8_fits_11 : decode cX8_fits 11 = .ok (.iload_n 2, 1) := by decide +kernel
theorem dX8_fits_12 : decode cX8_fits 12 = .ok (.invokestatic 160, 3) := by decide +kernel
theorem dX8_fits_15 : decode cX8_fits 15 = .ok (.ifCond .ne 6, 3) := by decide +kernel
theorem dX8_fits_18 : decode cX8_fits 18 = .ok (.bipush (-101), 2) := by decide +kernel
theorem dX8_fits_20 : decode cX8_fits 20 = .ok (.ireturn, 1) := by decide +kernel
theorem dX8_fits_21 : decode cX8_fits 21 = .ok (.aload_n 0, 1) := by decide +kernel
theorem dX8_fits_22 : decode cX8_fits 22 = .ok (.getfield 51, 3) := by decide +kernel
theorem dX8_fits_25 : decode cX8_fits 25 = .ok (.aload_n 0, 1) := by decide +kernel
theorem dX8_fits_26 : decode cX8_fits 26 = .ok (.getfield 30, 3) := by decide +kernel
theorem dX8_fits_29 : decode cX8_fits 29 = .ok (.iload_n 1, 1) := by decide +kernel
theorem dX8_fits_30 : decode cX8_fits 30 = .ok (.iload_n 2, 1) := by decide +kernel
theorem dX8_fits_31 : decode cX8_fits 31 = .ok (.invokevirtual 184, 3) := by decide +kernel
theorem dX8_fits_34 : decode cX8_fits 34 = .ok (.ldc2_w 188, 3) := by decide +kernel
theorem dX8_fits_37 : decode cX8_fits 37 = .ok (.lcmp, 1) := by decide +kernel
theorem dX8_fits_38 : decode cX8_fits 38 = .ok (.ifCond .ne 7, 3) := by decide +kernel
theorem dX8_fits_41 : decode cX8_fits 41 = .ok (.iconst 0, 1) := by decide +kernel
theorem dX8_fits_42 : decode cX8_fits 42 = .ok (.goto 4, 3) := by decide +kernel
theorem dX8_fits_45 : decode cX8_fits 45 = .ok (.iconst 1, 1) := by decide +kernel
theorem dX8_fits_46 : decode cX8_fits 46 = .ok (.ireturn, 1) := by decide +kernel
theorem dX8_worth_0 : decode cX8_worth 0 = .ok (.aload_n 0, 1) := by decide +kernel
theorem dX8_worth_1 : decode cX8_worth 1 = .ok (.getfield 30, 3) := by decide +kernel
theorem dX8_worth_4 : decode cX8_worth 4 = .ok (.iload_n 1, 1) := by decide +kernel
theorem dX8_worth_5 : decode cX8_worth 5 = .ok (.invokevirtual 85, 3) := by decide +kernel
theorem dX8_worth_8 : decode cX8_worth 8 = .ok (.ifCond .eq 10, 3) := by decide +kernel
theorem dX8_worth_11 : decode cX8_worth 11 = .ok (.iload_n 2, 1) := by decide +kernel
theorem dX8_worth_12 : decode cX8_worth 12 = .ok (.invokestatic 160, 3) := by decide +kernel
theorem dX8_worth_15 : decode cX8_worth 15 = .ok (.ifCond .ne 7, 3) := by decide +kernel
theorem dX8_worth_18 : decode cX8_worth 18 = .ok (.ldc2_w 190, 3) := by decide +kernel
theorem dX8_worth_21 : decode cX8_worth 21 = .ok (.lreturn, 1) := by decide +kernel
theorem dX8_worth_22 : decode cX8_worth 22 = .ok (.lconst 0, 1) := by decide +kernel
theorem dX8_worth_23 : decode cX8_worth 23 = .ok (.aload_n 0, 1) := by decide +kernel
theorem dX8_worth_24 : decode cX8_worth 24 = .ok (.getfield 51, 3) := by decide +kernel
theorem dX8_worth_27 : decode cX8_worth 27 = .ok (.aload_n 0, 1) := by decide +kernel
theorem dX8_worth_28 : decode cX8_worth 28 = .ok (.getfield 30, 3) := by decide +kernel
theorem dX8_worth_31 : decode cX8_worth 31 = .ok (.iload_n 1, 1) := by decide +kernel
theorem dX8_worth_32 : decode cX8_worth 32 = .ok (.iload_n 2, 1) := by decide +kernel
theorem dX8_worth_33 : decode cX8_worth 33 = .ok (.invokevirtual 184, 3) := by decide +kernel
theorem dX8_worth_36 : decode cX8_worth 36 = .ok (.invokestatic 192, 3) := by decide +kernel
theorem dX8_worth_39 : decode cX8_worth 39 = .ok (.lreturn, 1) := by decide +kernel
theorem dX8_ratio_0 : decode cX8_ratio 0 = .ok (.iload_n 1, 1) := by decide +kernel
theorem dX8_ratio_1 : decode cX8_ratio 1 = .ok (.invokestatic 160, 3) := by decide +kernel
theorem dX8_ratio_4 : decode cX8_ratio 4 = .ok (.ifCond .eq 10, 3) := by decide +kernel
theorem dX8_ratio_7 : decode cX8_ratio 7 = .ok (.iload_n 2, 1) := by decide +kernel
theorem dX8_ratio_8 : decode cX8_ratio 8 = .ok (.invokestatic 160, 3) := by decide +kernel
theorem dX8_ratio_11 : decode cX8_ratio 11 = .ok (.ifCond .ne 7, 3) := by decide +kernel
theorem dX8_ratio_14 : decode cX8_ratio 14 = .ok (.ldc2_w 190, 3) := by decide +kernel
theorem dX8_ratio_17 : decode cX8_ratio 17 = .ok (.lreturn, 1) := by decide +kernel
theorem dX8_ratio_18 : decode cX8_ratio 18 = .ok (.aload_n 0, 1) := by decide +kernel
theorem dX8_ratio_19 : decode cX8_ratio 19 = .ok (.getfield 30, 3) := by decide +kernel
theorem dX8_ratio_22 : decode cX8_ratio 22 = .ok (.invokevirtual 139, 3) := by decide +kernel
theorem dX8_ratio_25 : decode cX8_ratio 25 = .ok (.ifCond .eq 7, 3) := by decide +kernel
theorem dX8_ratio_28 : decode cX8_ratio 28 = .ok (.ldc2_w 198, 3) := by decide +kernel
theorem dX8_ratio_31 : decode cX8_ratio 31 = .ok (.lreturn, 1) := by decide +kernel
theorem dX8_ratio_32 : decode cX8_ratio 32 = .ok (.lconst 0, 1) := by decide +kernel
theorem dX8_ratio_33 : decode cX8_ratio 33 = .ok (.aload_n 0, 1) := by decide +kernel
theorem dX8_ratio_34 : decode cX8_ratio 34 = .ok (.getfield 51, 3) := by decide +kernel
theorem dX8_ratio_37 : decode cX8_ratio 37 = .ok (.aload_n 0, 1) := by decide +kernel
theorem dX8_ratio_38 : decode cX8_ratio 38 = .ok (.getfield 30, 3) := by decide +kernel
theorem dX8_ratio_41 : decode cX8_ratio 41 = .ok (.iconst 0, 1) := by decide +kernel
theorem dX8_ratio_42 : decode cX8_ratio 42 = .ok (.iload_n 2, 1) := by decide +kernel
theorem dX8_ratio_43 : decode cX8_ratio 43 = .ok (.invokevirtual 184, 3) := by decide +kernel
theorem dX8_ratio_46 : decode cX8_ratio 46 = .ok (.invokestatic 192, 3) := by decide +kernel
theorem dX8_ratio_49 : decode cX8_ratio 49 = .ok (.lstore_n 3, 1) := by decide +kernel
theorem dX8_ratio_50 : decode cX8_ratio 50 = .ok (.lload_n 3, 1) := by decide +kernel
theorem dX8_ratio_51 : decode cX8_ratio 51 = .ok (.lconst 0, 1) := by decide +kernel
theorem dX8_ratio_52 : decode cX8_ratio 52 = .ok (.lcmp, 1) := by decide +kernel
theorem dX8_ratio_53 : decode cX8_ratio 53 = .ok (.ifCond .ne 13, 3) := by decide +kernel
theorem dX8_ratio_56 : decode cX8_ratio 56 = .ok (.new 200, 3) := by decide +kernel
theorem dX8_ratio_59 : decode cX8_ratio 59 = .ok (.dup, 1) := by decide +kernel
theorem dX8_ratio_60 : decode cX8_ratio 60 = .ok (.ldc 202, 2) := by decide +kernel
theorem dX8_ratio_62 : decode cX8_ratio 62 = .ok (.invokespecial 204, 3) := by decide +kernel
theorem dX8_ratio_65 : decode cX8_ratio 65 = .ok (.athrow, 1) := by decide +kernel
theorem dX8_ratio_66 : decode cX8_ratio 66 = .ok (.lconst 0, 1) := by decide +kernel
theorem dX8_ratio_67 : decode cX8_ratio 67 = .ok (.aload_n 0, 1) := by decide +kernel
theorem dX8_ratio_68 : decode cX8_ratio 68 = .ok (.getfield 51, 3) := by decide +kernel
theorem dX8_ratio_71 : decode cX8_ratio 71 = .ok (.aload_n 0, 1) := by decide +kernel
theorem dX8_ratio_72 : decode cX8_ratio 72 = .ok (.getfield 30, 3) := by decide +kernel
theorem dX8_ratio_75 : decode cX8_ratio 75 = .ok (.iconst 0, 1) := by decide +kernel
theorem dX8_ratio_76 : decode cX8_ratio 76 = .ok (.iload_n 1, 1) := by decide +kernel
theorem dX8_ratio_77 : decode cX8_ratio 77 = .ok (.invokevirtual 184, 3) := by decide +kernel
theorem dX8_ratio_80 : decode cX8_ratio 80 = .ok (.invokestatic 192, 3) := by decide +kernel
theorem dX8_ratio_83 : decode cX8_ratio 83 = .ok (.lload_n 3, 1) := by decide +kernel
theorem dX8_ratio_84 : decode cX8_ratio 84 = .ok (.invokestatic 205, 3) := by decide +kernel
theorem dX8_ratio_87 : decode cX8_ratio 87 = .ok (.lreturn, 1) := by decide +kernel
theorem dX8_why_0 : decode cX8_why 0 = .ok (.iload_n 1, 1) := by decide +kernel
theorem dX8_why_1 : decode cX8_why 1 = .ok (.invokestatic 160, 3) := by decide +kernel
theorem dX8_why_4 : decode cX8_why 4 = .ok (.ifCond .ne 6, 3) := by decide +kernel
theorem dX8_why_7 : decode cX8_why 7 = .ok (.bipush (-101), 2) := by decide +kernel
theorem dX8_why_9 : decode cX8_why 9 = .ok (.ireturn, 1) := by decide +kernel
theorem dX8_why_10 : decode cX8_why 10 = .ok (.aload_n 0, 1) := by decide +kernel
theorem dX8_why_11 : decode cX8_why 11 = .ok (.getfield 30, 3) := by decide +kernel
theorem dX8_why_14 : decode cX8_why 14 = .ok (.invokevirtual 139, 3) := by decide +kernel
theorem dX8_why_17 : decode cX8_why 17 = .ok (.ifCond .eq 6, 3) := by decide +kernel
theorem dX8_why_20 : decode cX8_why 20 = .ok (.bipush (-104), 2) := by decide +kernel
theorem dX8_why_22 : decode cX8_why 22 = .ok (.ireturn, 1) := by decide +kernel
theorem dX8_why_23 : decode cX8_why 23 = .ok (.aload_n 0, 1) := by decide +kernel
theorem dX8_why_24 : decode cX8_why 24 = .ok (.getfield 51, 3) := by decide +kernel
theorem dX8_why_27 : decode cX8_why 27 = .ok (.aload_n 0, 1) := by decide +kernel
theorem dX8_why_28 : decode cX8_why 28 = .ok (.getfield 30, 3) := by decide +kernel
theorem dX8_why_31 : decode cX8_why 31 = .ok (.iconst 0, 1) := by decide +kernel
theorem dX8_why_32 : decode cX8_why 32 = .ok (.iload_n 1, 1) := by decide +kernel
theorem dX8_why_33 : decode cX8_why 33 = .ok (.invokevirtual 184, 3) := by decide +kernel
theorem dX8_why_36 : decode cX8_why 36 = .ok (.ldc2_w 188, 3) := by decide +kernel
theorem dX8_why_39 : decode cX8_why 39 = .ok (.lcmp, 1) := by decide +kernel
theorem dX8_why_40 : decode cX8_why 40 = .ok (.ifCond .eq 5, 3) := by decide +kernel
theorem dX8_why_43 : decode cX8_why 43 = .ok (.iconst (-1), 1) := by decide +kernel
theorem dX8_why_44 : decode cX8_why 44 = .ok (.ireturn, 1) := by decide +kernel
theorem dX8_why_45 : decode cX8_why 45 = .ok (.aload_n 0, 1) := by decide +kernel
theorem dX8_why_46 : decode cX8_why 46 = .ok (.getfield 51, 3) := by decide +kernel
theorem dX8_why_49 : decode cX8_why 49 = .ok (.aload_n 0, 1) := by decide +kernel
theorem dX8_why_50 : decode cX8_why 50 = .ok (.getfield 30, 3) := by decide +kernel
theorem dX8_why_53 : decode cX8_why 53 = .ok (.iconst 1, 1) := by decide +kernel
theorem dX8_why_54 : decode cX8_why 54 = .ok (.invokevirtual 208, 3) := by decide +kernel
theorem dX8_why_57 : decode cX8_why 57 = .ok (.istore_n 2, 1) := by decide +kernel
theorem dX8_why_58 : decode cX8_why 58 = .ok (.iload_n 2, 1) := by decide +kernel
theorem dX8_why_59 : decode cX8_why 59 = .ok (.ifCond .eq 7, 3) := by decide +kernel
theorem dX8_why_62 : decode cX8_why 62 = .ok (.iload_n 2, 1) := by decide +kernel
theorem dX8_why_63 : decode cX8_why 63 = .ok (.goto 15, 3) := by decide +kernel
theorem dX8_why_66 : decode cX8_why 66 = .ok (.aload_n 0, 1) := by decide +kernel
theorem dX8_why_67 : decode cX8_why 67 = .ok (.getfield 51, 3) := by decide +kernel
theorem dX8_why_70 : decode cX8_why 70 = .ok (.aload_n 0, 1) := by decide +kernel
theorem dX8_why_71 : decode cX8_why 71 = .ok (.getfield 30, 3) := by decide +kernel
theorem dX8_why_74 : decode cX8_why 74 = .ok (.iconst 2, 1) := by decide +kernel
theorem dX8_why_75 : decode cX8_why 75 = .ok (.invokevirtual 208, 3) := by decide +kernel
theorem dX8_why_78 : decode cX8_why 78 = .ok (.ireturn, 1) := by decide +kernel
theorem dX8_rank_0 : decode cX8_rank 0 = .ok (.aload_n 0, 1) := by decide +kernel
theorem dX8_rank_1 : decode cX8_rank 1 = .ok (.getfield 30, 3) := by decide +kernel
theorem dX8_rank_4 : decode cX8_rank 4 = .ok (.invokevirtual 139, 3) := by decide +kernel
theorem dX8_rank_7 : decode cX8_rank 7 = .ok (.ifCond .eq 6, 3) := by decide +kernel
theorem dX8_rank_10 : decode cX8_rank 10 = .ok (.bipush (-104), 2) := by decide +kernel
theorem dX8_rank_12 : decode cX8_rank 12 = .ok (.ireturn, 1) := by decide +kernel
theorem dX8_rank_13 : decode cX8_rank 13 = .ok (.iconst 0, 1) := by decide +kernel
theorem dX8_rank_14 : decode cX8_rank 14 = .ok (.istore_n 2, 1) := by decide +kernel
theorem dX8_rank_15 : decode cX8_rank 15 = .ok (.iload_n 2, 1) := by decide +kernel
theorem dX8_rank_16 : decode cX8_rank 16 = .ok (.bipush 8, 2) := by decide +kernel
theorem dX8_rank_18 : decode cX8_rank 18 = .ok (.if_icmp .ge 28, 3) := by decide +kernel
theorem dX8_rank_21 : decode cX8_rank 21 = .ok (.aload_n 0, 1) := by decide +kernel
theorem dX8_rank_22 : decode cX8_rank 22 = .ok (.getfield 55, 3) := by decide +kernel
theorem dX8_rank_25 : decode cX8_rank 25 = .ok (.iload_n 2, 1) := by decide +kernel
theorem dX8_rank_26 : decode cX8_rank 26 = .ok (.aload_n 0, 1) := by decide +kernel
theorem dX8_rank_27 : decode cX8_rank 27 = .ok (.getfield 51, 3) := by decide +kernel
theorem dX8_rank_30 : decode cX8_rank 30 = .ok (.aload_n 0, 1) := by decide +kernel
theorem dX8_rank_31 : decode cX8_rank 31 = .ok (.getfield 30, 3) := by decide +kernel
theorem dX8_rank_34 : decode cX8_rank 34 = .ok (.iconst 0, 1) := by decide +kernel
theorem dX8_rank_35 : decode cX8_rank 35 = .ok (.iload_n 2, 1) := by decide +kernel
theorem dX8_rank_36 : decode cX8_rank 36 = .ok (.invokevirtual 184, 3) := by decide +kernel
theorem dX8_rank_39 : decode cX8_rank 39 = .ok (.lastore, 1) := by decide +kernel
theorem dX8_rank_40 : decode cX8_rank 40 = .ok (.iinc 2 1, 3) := by decide +kernel
theorem dX8_rank_43 : decode cX8_rank 43 = .ok (.goto (-28), 3) := by decide +kernel
theorem dX8_rank_46 : decode cX8_rank 46 = .ok (.iconst 0, 1) := by decide +kernel
theorem dX8_rank_47 : decode cX8_rank 47 = .ok (.istore_n 2, 1) := by decide +kernel
theorem dX8_rank_48 : decode cX8_rank 48 = .ok (.iload_n 2, 1) := by decide +kernel
theorem dX8_rank_49 : decode cX8_rank 49 = .ok (.bipush 8, 2) := by decide +kernel
theorem dX8_rank_51 : decode cX8_rank 51 = .ok (.if_icmp .ge 33, 3) := by decide +kernel
theorem dX8_rank_54 : decode cX8_rank 54 = .ok (.aload_n 0, 1) := by decide +kernel
theorem dX8_rank_55 : decode cX8_rank 55 = .ok (.getfield 55, 3) := by decide +kernel
theorem dX8_rank_58 : decode cX8_rank 58 = .ok (.iload_n 2, 1) := by decide +kernel
theorem dX8_rank_59 : decode cX8_rank 59 = .ok (.laload, 1) := by decide +kernel
theorem dX8_rank_60 : decode cX8_rank 60 = .ok (.ldc2_w 188, 3) := by decide +kernel
theorem dX8_rank_63 : decode cX8_rank 63 = .ok (.lcmp, 1) := by decide +kernel
theorem dX8_rank_64 : decode cX8_rank 64 = .ok (.ifCond .eq 14, 3) := by decide +kernel
theorem dX8_rank_67 : decode cX8_rank 67 = .ok (.aload_n 0, 1) := by decide +kernel
theorem dX8_rank_68 : decode cX8_rank 68 = .ok (.iload_n 2, 1) := by decide +kernel
theorem dX8_rank_69 : decode cX8_rank 69 = .ok (.invokevirtual 212, 3) := by decide +kernel
theorem dX8_rank_72 : decode cX8_rank 72 = .ok (.iload_n 1, 1) := by decide +kernel
theorem dX8_rank_73 : decode cX8_rank 73 = .ok (.if_icmp .ne 5, 3) := by decide +kernel
theorem dX8_rank_76 : decode cX8_rank 76 = .ok (.iload_n 2, 1) := by decide +kernel
theorem dX8_rank_77 : decode cX8_rank 77 = .ok (.ireturn, 1) := by decide +kernel
theorem dX8_rank_78 : decode cX8_rank 78 = .ok (.iinc 2 1, 3) := by decide +kernel
theorem dX8_rank_81 : decode cX8_rank 81 = .ok (.goto (-33), 3) := by decide +kernel
theorem dX8_rank_84 : decode cX8_rank 84 = .ok (.iconst (-1), 1) := by decide +kernel
theorem dX8_rank_85 : decode cX8_rank 85 = .ok (.ireturn, 1) := by decide +kernel
theorem dX8_countAhead_0 : decode cX8_countAhead 0 = .ok (.iconst 0, 1) := by decide +kernel
theorem dX8_countAhead_1 : decode cX8_countAhead 1 = .ok (.istore_n 2, 1) := by decide +kernel
theorem dX8_countAhead_2 : decode cX8_countAhead 2 = .ok (.iconst 0, 1) := by decide +kernel
theorem dX8_countAhead_3 : decode cX8_countAhead 3 = .ok (.istore_n 3, 1) := by decide +kernel
theorem dX8_countAhead_4 : decode cX8_countAhead 4 = .ok (.iload_n 3, 1) := by decide +kernel
theorem dX8_countAhead_5 : decode cX8_countAhead 5 = .ok (.bipush 8, 2) := by decide +kernel
theorem dX8_countAhead_7 : decode cX8_countAhead 7 = .ok (.if_icmp .ge 80, 3) := by decide +kernel
theorem dX8_countAhead_10 : decode cX8_countAhead 10 = .ok (.iload_n 1, 1) := by decide +kernel
theorem dX8_countAhead_11 : decode cX8_countAhead 11 = .ok (.invokestatic 160, 3) := by decide +kernel
theorem dX8_countAhead_14 : decode cX8_countAhead 14 = .ok (.ifCond .eq 73, 3) := by decide +kernel
theorem dX8_countAhead_17 : decode cX8_countAhead 17 = .ok (.aload_n 0, 1) := by decide +kernel
theorem dX8_countAhead_18 : decode cX8_countAhead 18 = .ok (.getfield 55, 3) := by decide +kernel
theorem dX8_countAhead_21 : decode cX8_countAhead 21 = .ok (.iload_n 3, 1) := by decide +kernel
theorem dX8_countAhead_22 : decode cX8_countAhead 22 = .ok (.laload, 1) := by decide +kernel
theorem dX8_countAhead_23 : decode cX8_countAhead 23 = .ok (.aload_n 0, 1) := by decide +kernel
theorem dX8_countAhead_24 : decode cX8_countAhead 24 = .ok (.getfield 55, 3) := by decide +kernel
theorem dX8_countAhead_27 : decode cX8_countAhead 27 = .ok (.iload_n 1, 1) := by decide +kernel
theorem dX8_countAhead_28 : decode cX8_countAhead 28 = .ok (.laload, 1) := by decide +kernel
theorem dX8_countAhead_29 : decode cX8_countAhead 29 = .ok (.lcmp, 1) := by decide +kernel
theorem dX8_countAhead_30 : decode cX8_countAhead 30 = .ok (.ifCond .le 7, 3) := by decide +kernel
theorem dX8_countAhead_33 : decode cX8_countAhead 33 = .ok (.iconst 1, 1) := by decide +kernel
theorem dX8_countAhead_34 : decode cX8_countAhead 34 = .ok (.goto 4, 3) := by decide +kernel
theorem dX8_countAhead_37 : decode cX8_countAhead 37 = .ok (.iconst 0, 1) := by decide +kernel
theorem dX8_countAhead_38 : decode cX8_countAhead 38 = .ok (.istore 4, 2) := by decide +kernel
theorem dX8_countAhead_40 : decode cX8_countAhead 40 = .ok (.aload_n 0, 1) := by decide +kernel
theorem dX8_countAhead_41 : decode cX8_countAhead 41 = .ok (.getfield 55, 3) := by decide +kernel
theorem dX8_countAhead_44 : decode cX8_countAhead 44 = .ok (.iload_n 3, 1) := by decide +kernel
theorem dX8_countAhead_45 : decode cX8_countAhead 45 = .ok (.laload, 1) := by decide +kernel
theorem dX8_countAhead_46 : decode cX8_countAhead 46 = .ok (.aload_n 0, 1) := by decide +kernel
theorem dX8_countAhead_47 : decode cX8_countAhead 47 = .ok (.getfield 55, 3) := by decide +kernel
theorem dX8_countAhead_50 : decode cX8_countAhead 50 = .ok (.iload_n 1, 1) := by decide +kernel
theorem dX8_countAhead_51 : decode cX8_countAhead 51 = .ok (.laload, 1) := by decide +kernel
theorem dX8_countAhead_52 : decode cX8_countAhead 52 = .ok (.lcmp, 1) := by decide +kernel
theorem dX8_countAhead_53 : decode cX8_countAhead 53 = .ok (.ifCond .ne 7, 3) := by decide +kernel
theorem dX8_countAhead_56 : decode cX8_countAhead 56 = .ok (.iconst 1, 1) := by decide +kernel
theorem dX8_countAhead_57 : decode cX8_countAhead 57 = .ok (.goto 4, 3) := by decide +kernel
theorem dX8_countAhead_60 : decode cX8_countAhead 60 = .ok (.iconst 0, 1) := by decide +kernel
theorem dX8_countAhead_61 : decode cX8_countAhead 61 = .ok (.istore 5, 2) := by decide +kernel
theorem dX8_countAhead_63 : decode cX8_countAhead 63 = .ok (.iload 4, 2) := by decide +kernel
theorem dX8_countAhead_65 : decode cX8_countAhead 65 = .ok (.ifCond .ne 13, 3) := by decide +kernel
theorem dX8_countAhead_68 : decode cX8_countAhead 68 = .ok (.iload 5, 2) := by decide +kernel
theorem dX8_countAhead_70 : decode cX8_countAhead 70 = .ok (.ifCond .eq 11, 3) := by decide +kernel
theorem dX8_countAhead_73 : decode cX8_countAhead 73 = .ok (.iload_n 3, 1) := by decide +kernel
theorem dX8_countAhead_74 : decode cX8_countAhead 74 = .ok (.iload_n 1, 1) := by decide +kernel
theorem dX8_countAhead_75 : decode cX8_countAhead 75 = .ok (.if_icmp .ge 6, 3) := by decide +kernel
theorem dX8_countAhead_78 : decode cX8_countAhead 78 = .ok (.iinc 2 1, 3) := by decide +kernel
theorem dX8_countAhead_81 : decode cX8_countAhead 81 = .ok (.iinc 3 1, 3) := by decide +kernel
theorem dX8_countAhead_84 : decode cX8_countAhead 84 = .ok (.goto (-80), 3) := by decide +kernel
theorem dX8_countAhead_87 : decode cX8_countAhead 87 = .ok (.iload_n 2, 1) := by decide +kernel
theorem dX8_countAhead_88 : decode cX8_countAhead 88 = .ok (.ireturn, 1) := by decide +kernel
theorem dX8_isDocument_0 : decode cX8_isDocument 0 = .ok (.iload_n 0, 1) := by decide +kernel
theorem dX8_isDocument_1 : decode cX8_isDocument 1 = .ok (.ifCond .lt 13, 3) := by decide +kernel
theorem dX8_isDocument_4 : decode cX8_isDocument 4 = .ok (.iload_n 0, 1) := by decide +kernel
theorem dX8_isDocument_5 : decode cX8_isDocument 5 = .ok (.bipush 8, 2) := by decide +kernel
theorem dX8_isDocument_7 : decode cX8_isDocument 7 = .ok (.if_icmp .ge 7, 3) := by decide +kernel
theorem dX8_isDocument_10 : decode cX8_isDocument 10 = .ok (.iconst 1, 1) := by decide +kernel
theorem dX8_isDocument_11 : decode cX8_isDocument 11 = .ok (.goto 4, 3) := by decide +kernel
theorem dX8_isDocument_14 : decode cX8_isDocument 14 = .ok (.iconst 0, 1) := by decide +kernel
theorem dX8_isDocument_15 : decode cX8_isDocument 15 = .ok (.ireturn, 1) := by decide +kernel
theorem dX9_thrown_0 : decode cX9_thrown 0 = .ok (.aload_n 0, 1) := by decide +kernel
theorem dX9_thrown_1 : decode cX9_thrown 1 = .ok (.getfield 1, 3) := by decide +kernel
theorem dX9_thrown_4 : decode cX9_thrown 4 = .ok (.ireturn, 1) := by decide +kernel
theorem dX9_in_0 : decode cX9_in 0 = .ok (.lload_n 0, 1) := by decide +kernel
theorem dX9_in_1 : decode cX9_in 1 = .ok (.lload_n 2, 1) := by decide +kernel
theorem dX9_in_2 : decode cX9_in 2 = .ok (.lcmp, 1) := by decide +kernel
theorem dX9_in_3 : decode cX9_in 3 = .ok (.ifCond .lt 14, 3) := by decide +kernel
theorem dX9_in_6 : decode cX9_in 6 = .ok (.lload_n 0, 1) := by decide +kernel
theorem dX9_in_7 : decode cX9_in 7 = .ok (.lload 4, 2) := by decide +kernel
theorem dX9_in_9 : decode cX9_in 9 = .ok (.lcmp, 1) := by decide +kernel
theorem dX9_in_10 : decode cX9_in 10 = .ok (.ifCond .gt 7, 3) := by decide +kernel
theorem dX9_in_13 : decode cX9_in 13 = .ok (.iconst 1, 1) := by decide +kernel
theorem dX9_in_14 : decode cX9_in 14 = .ok (.goto 4, 3) := by decide +kernel
theorem dX9_in_17 : decode cX9_in 17 = .ok (.iconst 0, 1) := by decide +kernel
theorem dX9_in_18 : decode cX9_in 18 = .ok (.ireturn, 1) := by decide +kernel
theorem dX9_isLetter_0 : decode cX9_isLetter 0 = .ok (.iload_n 0, 1) := by decide +kernel
theorem dX9_isLetter_1 : decode cX9_isLetter 1 = .ok (.bipush 97, 2) := by decide +kernel
theorem dX9_isLetter_3 : decode cX9_isLetter 3 = .ok (.if_icmp .lt 13, 3) := by decide +kernel
theorem dX9_isLetter_6 : decode cX9_isLetter 6 = .ok (.iload_n 0, 1) := by decide +kernel
theorem dX9_isLetter_7 : decode cX9_isLetter 7 = .ok (.bipush 122, 2) := by decide +kernel
theorem dX9_isLetter_9 : decode cX9_isLetter 9 = .ok (.if_icmp .gt 7, 3) := by decide +kernel
theorem dX9_isLetter_12 : decode cX9_isLetter 12 = .ok (.iconst 1, 1) := by decide +kernel
theorem dX9_isLetter_13 : decode cX9_isLetter 13 = .ok (.goto 4, 3) := by decide +kernel
theorem dX9_isLetter_16 : decode cX9_isLetter 16 = .ok (.iconst 0, 1) := by decide +kernel
theorem dX9_isLetter_17 : decode cX9_isLetter 17 = .ok (.ireturn, 1) := by decide +kernel
theorem dX9_isFigure_0 : decode cX9_isFigure 0 = .ok (.iload_n 0, 1) := by decide +kernel
theorem dX9_isFigure_1 : decode cX9_isFigure 1 = .ok (.bipush 48, 2) := by decide +kernel
theorem dX9_isFigure_3 : decode cX9_isFigure 3 = .ok (.iload_n 1, 1) := by decide +kernel
theorem dX9_isFigure_4 : decode cX9_isFigure 4 = .ok (.iadd, 1) := by decide +kernel
theorem dX9_isFigure_5 : decode cX9_isFigure 5 = .ok (.if_icmp .lt 15, 3) := by decide +kernel
theorem dX9_isFigure_8 : decode cX9_isFigure 8 = .ok (.iload_n 0, 1) := by decide +kernel
theorem dX9_isFigure_9 : decode cX9_isFigure 9 = .ok (.bipush 48, 2) := by decide +kernel
theorem dX9_isFigure_11 : decode cX9_isFigure 11 = .ok (.iload_n 2, 1) := by decide +kernel
theorem dX9_isFigure_12 : decode cX9_isFigure 12 = .ok (.iadd, 1) := by decide +kernel
theorem dX9_isFigure_13 : decode cX9_isFigure 13 = .ok (.if_icmp .gt 7, 3) := by decide +kernel
theorem dX9_isFigure_16 : decode cX9_isFigure 16 = .ok (.iconst 1, 1) := by decide +kernel
theorem dX9_isFigure_17 : decode cX9_isFigure 17 = .ok (.goto 4, 3) := by decide +kernel
theorem dX9_isFigure_20 : decode cX9_isFigure 20 = .ok (.iconst 0, 1) := by decide +kernel
theorem dX9_isFigure_21 : decode cX9_isFigure 21 = .ok (.ireturn, 1) := by decide +kernel
theorem dX9_init_0 : decode cX9_init 0 = .ok (.aload_n 0, 1) := by decide +kernel
theorem dX9_init_1 : decode cX9_init 1 = .ok (.invokespecial 7, 3) := by decide +kernel
theorem dX9_init_4 : decode cX9_init 4 = .ok (.aload_n 0, 1) := by decide +kernel
theorem dX9_init_5 : decode cX9_init 5 = .ok (.sipush 240, 3) := by decide +kernel
theorem dX9_init_8 : decode cX9_init 8 = .ok (.newarray .int, 2) := by decide +kernel
theorem dX9_init_10 : decode cX9_init 10 = .ok (.putfield 13, 3) := by decide +kernel
theorem dX9_init_13 : decode cX9_init 13 = .ok (.aload_n 0, 1) := by decide +kernel
theorem dX9_init_14 : decode cX9_init 14 = .ok (.bipush 25, 2) := by decide +kernel
theorem dX9_init_16 : decode cX9_init 16 = .ok (.newarray .int, 2) := by decide +kernel
theorem dX9_init_18 : decode cX9_init 18 = .ok (.putfield 17, 3) := by decide +kernel
theorem dX9_init_21 : decode cX9_init 21 = .ok (.aload_n 0, 1) := by decide +kernel
theorem dX9_init_22 : decode cX9_init 22 = .ok (.bipush 25, 2) := by decide +kernel
theorem dX9_init_24 : decode cX9_init 24 = .ok (.newarray .int, 2) := by decide +kernel
theorem dX9_init_26 : decode cX9_init 26 = .ok (.putfield 20, 3) := by decide +kernel
theorem dX9_init_29 : decode cX9_init 29 = .ok (.aload_n 0, 1) := by decide +kernel
theorem dX9_init_30 : decode cX9_init 30 = .ok (.bipush 25, 2) := by decide +kernel
theorem dX9_init_32 : decode cX9_init 32 = .ok (.newarray .int, 2) := by decide +kernel
theorem dX9_init_34 : decode cX9_init 34 = .ok (.putfield 23, 3) := by decide +kernel
theorem dX9_init_37 : decode cX9_init 37 = .ok (.aload_n 0, 1) := by decide +kernel
theorem dX9_init_38 : decode cX9_init 38 = .ok (.bipush 25, 2) := by decide +kernel
theorem dX9_init_40 : decode cX9_init 40 = .ok (.newarray .int, 2) := by decide +kernel
theorem dX9_init_42 : decode cX9_init 42 = .ok (.putfield 26, 3) := by decide +kernel
theorem dX9_init_45 : decode cX9_init 45 = .ok (.aload_n 0, 1) := by decide +kernel
theorem dX9_init_46 : decode cX9_init 46 = .ok (.bipush 25, 2) := by decide +kernel
theorem dX9_init_48 : decode cX9_init 48 = .ok (.newarray .int, 2) := by decide +kernel
theorem dX9_init_50 : decode cX9_init 50 = .ok (.putfield 29, 3) := by decide +kernel
theorem dX9_init_53 : decode cX9_init 53 = .ok (.aload_n 0, 1) := by decide +kernel
theorem dX9_init_54 : decode cX9_init 54 = .ok (.bipush 25, 2) := by decide +kernel
theorem dX9_init_56 : decode cX9_init 56 = .ok (.newarray .int, 2) := by decide +kernel
theorem dX9_init_58 : decode cX9_init 58 = .ok (.putfield 32, 3) := by decide +kernel
theorem dX9_init_61 : decode cX9_init 61 = .ok (.aload_n 0, 1) := by decide +kernel
theorem dX9_init_62 : decode cX9_init 62 = .ok (.bipush 25, 2) := by decide +kernel
theorem dX9_init_64 : decode cX9_init 64 = .ok (.newarray .int, 2) := by decide +kernel
theorem dX9_init_66 : decode cX9_init 66 = .ok (.putfield 35, 3) := by decide +kernel
theorem dX9_init_69 : decode cX9_init 69 = .ok (.aload_n 0, 1) := by decide +kernel
theorem dX9_init_70 : decode cX9_init 70 = .ok (.bipush 125, 2) := by decide +kernel
theorem dX9_init_72 : decode cX9_init 72 = .ok (.newarray .int, 2) := by decide +kernel
theorem dX9_init_74 : decode cX9_init 74 = .ok (.putfield 38, 3) := by decide +kernel
theorem dX9_init_77 : decode cX9_init 77 = .ok (.aload_n 0, 1) := by decide +kernel
theorem dX9_init_78 : decode cX9_init 78 = .ok (.sipush 1000, 3) := by decide +kernel
theorem dX9_init_81 : decode cX9_init 81 = .ok (.newarray .int, 2) := by decide +kernel
theorem dX9_init_83 : decode cX9_init 83 = .ok (.putfield 41, 3) := by decide +kernel
theorem dX9_init_86 : decode cX9_init 86 = .ok (.aload_n 0, 1) := by decide +kernel
theorem dX9_init_87 : decode cX9_init 87 = .ok (.bipush 25, 2) := by decide +kernel
theorem dX9_init_89 : decode cX9_init 89 = .ok (.newarray .int, 2) := by decide +kernel
theorem dX9_init_91 : decode cX9_init 91 = .ok (.putfield 44, 3) := by decide +kernel
theorem dX9_init_94 : decode cX9_init 94 = .ok (.aload_n 0, 1) := by decide +kernel
theorem dX9_init_95 : decode cX9_init 95 = .ok (.bipush 25, 2) := by decide +kernel
theorem dX9_init_97 : decode cX9_init 97 = .ok (.newarray .int, 2) := by decide +kernel
theorem dX9_init_99 : decode cX9_init 99 = .ok (.putfield 47, 3) := by decide +kernel
theorem dX9_init_102 : decode cX9_init 102 = .ok (.aload_n 0, 1) := by decide +kernel
theorem dX9_init_103 : decode cX9_init 103 = .ok (.bipush 25, 2) := by decide +kernel
theorem dX9_init_105 : decode cX9_init 105 = .ok (.newarray .int, 2) := by decide +kernel
theorem dX9_init_107 : decode cX9_init 107 = .ok (.putfield 50, 3) := by decide +kernel
theorem dX9_init_110 : decode cX9_init 110 = .ok (.aload_n 0, 1) := by decide +kernel
theorem dX9_init_111 : decode cX9_init 111 = .ok (.bipush 25, 2) := by decide +kernel
theorem dX9_init_113 : decode cX9_init 113 = .ok (.newarray .int, 2) := by decide +kernel
theorem dX9_init_115 : decode cX9_init 115 = .ok (.putfield 53, 3) := by decide +kernel
theorem dX9_init_118 : decode cX9_init 118 = .ok (.aload_n 0, 1) := by decide +kernel
theorem dX9_init_119 : decode cX9_init 119 = .ok (.bipush 25, 2) := by decide +kernel
theorem dX9_init_121 : decode cX9_init 121 = .ok (.newarray .int, 2) := by decide +kernel
theorem dX9_init_123 : decode cX9_init 123 = .ok (.putfield 56, 3) := by decide +kernel
theorem dX9_init_126 : decode cX9_init 126 = .ok (.aload_n 0, 1) := by decide +kernel
theorem dX9_init_127 : decode cX9_init 127 = .ok (.bipush 25, 2) := by decide +kernel
theorem dX9_init_129 : decode cX9_init 129 = .ok (.newarray .int, 2) := by decide +kernel
theorem dX9_init_131 : decode cX9_init 131 = .ok (.putfield 59, 3) := by decide +kernel
theorem dX9_init_134 : decode cX9_init 134 = .ok (.aload_n 0, 1) := by decide +kernel
theorem dX9_init_135 : decode cX9_init 135 = .ok (.bipush 25, 2) := by decide +kernel
theorem dX9_init_137 : decode cX9_init 137 = .ok (.newarray .int, 2) := by decide +kernel
theorem dX9_init_139 : decode cX9_init 139 = .ok (.putfield 62, 3) := by decide +kernel
theorem dX9_init_142 : decode cX9_init 142 = .ok (.aload_n 0, 1) := by decide +kernel
theorem dX9_init_143 : decode cX9_init 143 = .ok (.bipush 125, 2) := by decide +kernel
theorem dX9_init_145 : decode cX9_init 145 = .ok (.newarray .int, 2) := by decide +kernel
theorem dX9_init_147 : decode cX9_init 147 = .ok (.putfield 65, 3) := by decide +kernel
theorem dX9_init_150 : decode cX9_init 150 = .ok (.aload_n 0, 1) := by decide +kernel
theorem dX9_init_151 : decode cX9_init 151 = .ok (.sipush 1000, 3) := by decide +kernel
theorem dX9_init_154 : decode cX9_init 154 = .ok (.newarray .int, 2) := by decide +kernel
theorem dX9_init_156 : decode cX9_init 156 = .ok (.putfield 68, 3) := by decide +kernel
theorem dX9_init_159 : decode cX9_init 159 = .ok (.aload_n 0, 1) := by decide +kernel
theorem dX9_init_160 : decode cX9_init 160 = .ok (.sipush 240, 3) := by decide +kernel
theorem dX9_init_163 : decode cX9_init 163 = .ok (.newarray .int, 2) := by decide +kernel
theorem dX9_init_165 : decode cX9_init 165 = .ok (.putfield 71, 3) := by decide +kernel
theorem dX9_init_168 : decode cX9_init 168 = .ok (.aload_n 0, 1) := by decide +kernel
theorem dX9_init_169 : decode cX9_init 169 = .ok (.sipush 240, 3) := by decide +kernel
theorem dX9_init_172 : decode cX9_init 172 = .ok (.newarray .int, 2) := by decide +kernel
theorem dX9_init_174 : decode cX9_init 174 = .ok (.putfield 74, 3) := by decide +kernel
theorem dX9_init_177 : decode cX9_init 177 = .ok (.aload_n 0, 1) := by decide +kernel
theorem dX9_init_178 : decode cX9_init 178 = .ok (.sipush 300, 3) := by decide +kernel
theorem dX9_init_181 : decode cX9_init 181 = .ok (.newarray .int, 2) := by decide +kernel
theorem dX9_init_183 : decode cX9_init 183 = .ok (.putfield 77, 3) := by decide +kernel
theorem dX9_init_186 : decode cX9_init 186 = .ok (.aload_n 0, 1) := by decide +kernel
theorem dX9_init_187 : decode cX9_init 187 = .ok (.iconst (-1), 1) := by decide +kernel
theorem dX9_init_188 : decode cX9_init 188 = .ok (.putfield 80, 3) := by decide +kernel
theorem dX9_init_191 : decode cX9_init 191 = .ok (.aload_n 0, 1) := by decide +kernel
theorem dX9_init_192 : decode cX9_init 192 = .ok (.bipush 32, 2) := by decide +kernel
theorem dX9_init_194 : decode cX9_init 194 = .ok (.newarray .int, 2) := by decide +kernel
theorem dX9_init_196 : decode cX9_init 196 = .ok (.putfield 83, 3) := by decide +kernel
theorem dX9_init_199 : decode cX9_init 199 = .ok (.aload_n 0, 1) := by decide +kernel
theorem dX9_init_200 : decode cX9_init 200 = .ok (.sipush 384, 3) := by decide +kernel
theorem dX9_init_203 : decode cX9_init 203 = .ok (.newarray .int, 2) := by decide +kernel
theorem dX9_init_205 : decode cX9_init 205 = .ok (.putfield 86, 3) := by decide +kernel
theorem dX9_init_208 : decode cX9_init 208 = .ok (.aload_n 0, 1) := by decide +kernel
theorem dX9_init_209 : decode cX9_init 209 = .ok (.sipush 3072, 3) := by decide +kernel
theorem dX9_init_212 : decode cX9_init 212 = .ok (.newarray .int, 2) := by decide +kernel
theorem dX9_init_214 : decode cX9_init 214 = .ok (.putfield 89, 3) := by decide +kernel
theorem dX9_init_217 : decode cX9_init 217 = .ok (.aload_n 0, 1) := by decide +kernel
theorem dX9_init_218 : decode cX9_init 218 = .ok (.bipush 81, 2) := by decide +kernel
theorem dX9_init_220 : decode cX9_init 220 = .ok (.newarray .int, 2) := by decide +kernel
theorem dX9_init_222 : decode cX9_init 222 = .ok (.putfield 92, 3) := by decide +kernel
theorem dX9_init_225 : decode cX9_init 225 = .ok (.aload_n 0, 1) := by decide +kernel
theorem dX9_init_226 : decode cX9_init 226 = .ok (.bipush 25, 2) := by decide +kernel
theorem dX9_init_228 : decode cX9_init 228 = .ok (.newarray .boolean, 2) := by decide +kernel
theorem dX9_init_230 : decode cX9_init 230 = .ok (.putfield 95, 3) := by decide +kernel
theorem dX9_init_233 : decode cX9_init 233 = .ok (.aload_n 0, 1) := by decide +kernel
theorem dX9_init_234 : decode cX9_init 234 = .ok (.bipush 25, 2) := by decide +kernel
theorem dX9_init_236 : decode cX9_init 236 = .ok (.newarray .long, 2) := by decide +kernel
theorem dX9_init_238 : decode cX9_init 238 = .ok (.putfield 99, 3) := by decide +kernel
theorem dX9_init_241 : decode cX9_init 241 = .ok (.aload_n 0, 1) := by decide +kernel
theorem dX9_init_242 : decode cX9_init 242 = .ok (.bipush 25, 2) := by decide +kernel
theorem dX9_init_244 : decode cX9_init 244 = .ok (.newarray .int, 2) := by decide +kernel
theorem dX9_init_246 : decode cX9_init 246 = .ok (.putfield 103, 3) := by decide +kernel
theorem dX9_init_249 : decode cX9_init 249 = .ok (.aload_n 0, 1) := by decide +kernel
theorem dX9_init_250 : decode cX9_init 250 = .ok (.bipush 8, 2) := by decide +kernel
theorem dX9_init_252 : decode cX9_init 252 = .ok (.newarray .boolean, 2) := by decide +kernel
theorem dX9_init_254 : decode cX9_init 254 = .ok (.putfield 106, 3) := by decide +kernel
theorem dX9_init_257 : decode cX9_init 257 = .ok (.aload_n 0, 1) := by decide +kernel
theorem dX9_init_258 : decode cX9_init 258 = .ok (.bipush 8, 2) := by decide +kernel
theorem dX9_init_260 : decode cX9_init 260 = .ok (.newarray .long, 2) := by decide +kernel
theorem dX9_init_262 : decode cX9_init 262 = .ok (.putfield 109, 3) := by decide +kernel
theorem dX9_init_265 : decode cX9_init 265 = .ok (.aload_n 0, 1) := by decide +kernel
theorem dX9_init_266 : decode cX9_init 266 = .ok (.iconst 0, 1) := by decide +kernel
theorem dX9_init_267 : decode cX9_init 267 = .ok (.putfield 112, 3) := by decide +kernel
theorem dX9_init_270 : decode cX9_init 270 = .ok (.return_, 1) := by decide +kernel
theorem dX9_feed_0 : decode cX9_feed 0 = .ok (.aload_n 0, 1) := by decide +kernel
theorem dX9_feed_1 : decode cX9_feed 1 = .ok (.iconst 0, 1) := by decide +kernel
theorem dX9_feed_2 : decode cX9_feed 2 = .ok (.putfield 1, 3) := by decide +kernel
theorem dX9_feed_5 : decode cX9_feed 5 = .ok (.iload_n 1, 1) := by decide +kernel
theorem dX9_feed_6 : decode cX9_feed 6 = .ok (.i2l, 1) := by decide +kernel
theorem dX9_feed_7 : decode cX9_feed 7 = .ok (.lconst 1, 1) := by decide +kernel
theorem dX9_feed_8 : decode cX9_feed 8 = .ok (.ldc2_w 115, 3) := by decide +kernel
theorem dX9_feed_11 : decode cX9_feed 11 = .ok (.invokestatic 117, 3) := by decide +kernel
theorem dX9_feed_14 : decode cX9_feed 14 = .ok (.ifCond .ne 6, 3) := by decide +kernel
theorem dX9_feed_17 : decode cX9_feed 17 = .ok (.bipush (-102), 2) := by decide +kernel
theorem dX9_feed_19 : decode cX9_feed 19 = .ok (.ireturn, 1) := by decide +kernel
theorem dX9_feed_20 : decode cX9_feed 20 = .ok (.aload_n 0, 1) := by decide +kernel
theorem dX9_feed_21 : decode cX9_feed 21 = .ok (.getfield 121, 3) := by decide +kernel
theorem dX9_feed_24 : decode cX9_feed 24 = .ok (.iload_n 1, 1) := by decide +kernel
theorem dX9_feed_25 : decode cX9_feed 25 = .ok (.iadd, 1) := by decide +kernel
theorem dX9_feed_26 : decode cX9_feed 26 = .ok (.sipush 240, 3) := by decide +kernel
theorem dX9_feed_29 : decode cX9_feed 29 = .ok (.if_icmp .le 6, 3) := by decide +kernel
theorem dX9_feed_32 : decode cX9_feed 32 = .ok (.bipush (-103), 2) := by decide +kernel
theorem dX9_feed_34 : decode cX9_feed 34 = .ok (.ireturn, 1) := by decide +kernel
theorem dX9_feed_35 : decode cX9_feed 35 = .ok (.iload_n 1, 1) := by decide +kernel
theorem dX9_feed_36 : decode cX9_feed 36 = .ok (.iconst 1, 1) := by decide +kernel
theorem dX9_feed_37 : decode cX9_feed 37 = .ok (.isub, 1) := by decide +kernel
theorem dX9_feed_38 : decode cX9_feed 38 = .ok (.istore 4, 2) := by decide +kernel
theorem dX9_feed_40 : decode cX9_feed 40 = .ok (.iload 4, 2) := by decide +kernel
theorem dX9_feed_42 : decode cX9_feed 42 = .ok (.ifCond .lt 40, 3) := by decide +kernel
theorem dX9_feed_45 : decode cX9_feed 45 = .ok (.aload_n 0, 1) := by decide +kernel
theorem dX9_feed_46 : decode cX9_feed 46 = .ok (.getfield 13, 3) := by decide +kernel
theorem dX9_feed_49 : decode cX9_feed 49 = .ok (.aload_n 0, 1) := by decide +kernel
theorem dX9_feed_50 : decode cX9_feed 50 = .ok (.getfield 121, 3) := by decide +kernel
theorem dX9_feed_53 : decode cX9_feed 53 = .ok (.lload_n 2, 1) := by decide +kernel
theorem dX9_feed_54 : decode cX9_feed 54 = .ok (.bipush 8, 2) := by decide +kernel
theorem dX9_feed_56 : decode cX9_feed 56 = .ok (.iload 4, 2) := by decide +kernel
theorem dX9_feed_58 : decode cX9_feed 58 = .ok (.imul, 1) := by decide +kernel
theorem dX9_feed_59 : decode cX9_feed 59 = .ok (.lshr, 1) := by decide +kernel
theorem dX9_feed_60 : decode cX9_feed 60 = .ok (.l2i, 1) := by decide +kernel
theorem dX9_feed_61 : decode cX9_feed 61 = .ok (.sipush 255, 3) := by decide +kernel
theorem dX9_feed_64 : decode cX9_feed 64 = .ok (.iand, 1) := by decide +kernel
theorem dX9_feed_65 : decode cX9_feed 65 = .ok (.iastore, 1) := by decide +kernel
theorem dX9_feed_66 : decode cX9_feed 66 = .ok (.aload_n 0, 1) := by decide +kernel
theorem dX9_feed_67 : decode cX9_feed 67 = .ok (.dup, 1) := by decide +kernel
theorem dX9_feed_68 : decode cX9_feed 68 = .ok (.getfield 121, 3) := by decide +kernel
theorem dX9_feed_71 : decode cX9_feed 71 = .ok (.iconst 1, 1) := by decide +kernel
theorem dX9_feed_72 : decode cX9_feed 72 = .ok (.iadd, 1) := by decide +kernel
theorem dX9_feed_73 : decode cX9_feed 73 = .ok (.putfield 121, 3) := by decide +kernel
theorem dX9_feed_76 : decode cX9_feed 76 = .ok (.iinc 4 (-1), 3) := by decide +kernel
theorem dX9_feed_79 : decode cX9_feed 79 = .ok (.goto (-39), 3) := by decide +kernel
theorem dX9_feed_82 : decode cX9_feed 82 = .ok (.aload_n 0, 1) := by decide +kernel
theorem dX9_feed_83 : decode cX9_feed 83 = .ok (.getfield 121, 3) := by decide +kernel
theorem dX9_feed_86 : decode cX9_feed 86 = .ok (.ireturn, 1) := by decide +kernel
theorem dX9_here_0 : decode cX9_here 0 = .ok (.aload_n 0, 1) := by decide +kernel
theorem dX9_here_1 : decode cX9_here 1 = .ok (.getfield 124, 3) := by decide +kernel
theorem dX9_here_4 : decode cX9_here 4 = .ok (.aload_n 0, 1) := by decide +kernel
theorem dX9_here_5 : decode cX9_here 5 = .ok (.getfield 121, 3) := by decide +kernel
theorem dX9_here_8 : decode cX9_here 8 = .ok (.if_icmp .ge 15, 3) := by decide +kernel
theorem dX9_here_11 : decode cX9_here 11 = .ok (.aload_n 0, 1) := by decide +kernel
theorem dX9_here_12 : decode cX9_here 12 = .ok (.getfield 13, 3) := by decide +kernel
theorem dX9_here_15 : decode cX9_here 15 = .ok (.aload_n 0, 1) := by decide +kernel
theorem dX9_here_16 : decode cX9_here 16 = .ok (.getfield 124, 3) := by decide +kernel
theorem dX9_here_19 : decode cX9_here 19 = .ok (.iaload, 1) := by decide +kernel
theorem dX9_here_20 : decode cX9_here 20 = .ok (.goto 4, 3) := by decide +kernel
theorem dX9_here_23 : decode cX9_here 23 = .ok (.iconst (-1), 1) := by decide +kernel
theorem dX9_here_24 : decode cX9_here 24 = .ok (.ireturn, 1) := by decide +kernel
theorem dX9_fails_0 : decode cX9_fails 0 = .ok (.aload_n 0, 1) := by decide +kernel
theorem dX9_fails_1 : decode cX9_fails 1 = .ok (.iconst 1, 1) := by decide +kernel
theorem dX9_fails_2 : decode cX9_fails 2 = .ok (.putfield 127, 3) := by decide +kernel
theorem dX9_fails_5 : decode cX9_fails 5 = .ok (.iconst 0, 1) := by decide +kernel
theorem dX9_fails_6 : decode cX9_fails 6 = .ok (.ireturn, 1) := by decide +kernel
theorem dX9_newNode_0 : decode cX9_newNode 0 = .ok (.aload_n 0, 1) := by decide +kernel
theorem dX9_newNode_1 : decode cX9_newNode 1 = .ok (.getfield 131, 3) := by decide +kernel
theorem dX9_newNode_4 : decode cX9_newNode 4 = .ok (.istore_n 2, 1) := by decide +kernel
theorem dX9_newNode_5 : decode cX9_newNode 5 = .ok (.aload_n 0, 1) := by decide +kernel
theorem dX9_newNode_6 : decode cX9_newNode 6 = .ok (.dup, 1) := by decide +kernel
theorem dX9_newNode_7 : decode cX9_newNode 7 = .ok (.getfield 131, 3) := by decide +kernel
theorem dX9_newNode_10 : decode cX9_newNode 10 = .ok (.iconst 1, 1) := by decide +kernel
theorem dX9_newNode_11 : decode cX9_newNode 11 = .ok (.iadd, 1) := by decide +kernel
theorem dX9_newNode_12 : decode cX9_newNode 12 = .ok (.putfield 131, 3) := by decide +kernel
theorem dX9_newNode_15 : decode cX9_newNode 15 = .ok (.aload_n 0, 1) := by decide +kernel
theorem dX9_newNode_16 : decode cX9_newNode 16 = .ok (.getfield 17, 3) := by decide +kernel
theorem dX9_newNode_19 : decode cX9_newNode 19 = .ok (.iload_n 2, 1) := by decide +kernel
theorem dX9_newNode_20 : decode cX9_newNode 20 = .ok (.iconst 3, 1) := by decide +kernel
theorem dX9_newNode_21 : decode cX9_newNode 21 = .ok (.iastore, 1) := by decide +kernel
theorem dX9_newNode_22 : decode cX9_newNode 22 = .ok (.aload_n 0, 1) := by decide +kernel
theorem dX9_newNode_23 : decode cX9_newNode 23 = .ok (.getfield 20, 3) := by decide +kernel
theorem dX9_newNode_26 : decode cX9_newNode 26 = .ok (.iload_n 2, 1) := by decide +kernel
theorem dX9_newNode_27 : decode cX9_newNode 27 = .ok (.iconst 0, 1) := by decide +kernel
theorem dX9_newNode_28 : decode cX9_newNode 28 = .ok (.iastore, 1) := by decide +kernel
theorem dX9_newNode_29 : decode cX9_newNode 29 = .ok (.aload_n 0, 1) := by decide +kernel
theorem dX9_newNode_30 : decode cX9_newNode 30 = .ok (.getfield 23, 3) := by decide +kernel
theorem dX9_newNode_33 : decode cX9_newNode 33 = .ok (.iload_n 2, 1) := by decide +kernel
theorem dX9_newNode_34 : decode cX9_newNode 34 = .ok (.iconst 1, 1) := by decide +kernel
theorem dX9_newNode_35 : decode cX9_newNode 35 = .ok (.iastore, 1) := by decide +kernel
theorem dX9_newNode_36 : decode cX9_newNode 36 = .ok (.aload_n 0, 1) := by decide +kernel
theorem dX9_newNode_37 : decode cX9_newNode 37 = .ok (.getfield 26, 3) := by decide +kernel
theorem dX9_newNode_40 : decode cX9_newNode 40 = .ok (.iload_n 2, 1) := by decide +kernel
theorem dX9_newNode_41 : decode cX9_newNode 41 = .ok (.iconst (-1), 1) := by decide +kernel
theorem dX9_newNode_42 : decode cX9_newNode 42 = .ok (.iastore, 1) := by decide +kernel
theorem dX9_newNode_43 : decode cX9_newNode 43 = .ok (.aload_n 0, 1) := by decide +kernel
theorem dX9_newNode_44 : decode cX9_newNode 44 = .ok (.getfield 29, 3) := by decide +kernel
theorem dX9_newNode_47 : decode cX9_newNode 47 = .ok (.iload_n 2, 1) := by decide +kernel
theorem dX9_newNode_48 : decode cX9_newNode 48 = .ok (.iconst (-1), 1) := by decide +kernel
theorem dX9_newNode_49 : decode cX9_newNode 49 = .ok (.iastore, 1) := by decide +kernel
theorem dX9_newNode_50 : decode cX9_newNode 50 = .ok (.aload_n 0, 1) := by decide +kernel
theorem dX9_newNode_51 : decode cX9_newNode 51 = .ok (.getfield 32, 3) := by decide +kernel
theorem dX9_newNode_54 : decode cX9_newNode 54 = .ok (.iload_n 2, 1) := by decide +kernel
theorem dX9_newNode_55 : decode cX9_newNode 55 = .ok (.iload_n 1, 1) := by decide +kernel
theorem dX9_newNode_56 : decode cX9_newNode 56 = .ok (.iastore, 1) := by decide +kernel
theorem dX9_newNode_57 : decode cX9_newNode 57 = .ok (.aload_n 0, 1) := by decide +kernel
theorem dX9_newNode_58 : decode cX9_newNode 58 = .ok (.getfield 35, 3) := by decide +kernel
theorem dX9_newNode_61 : decode cX9_newNode 61 = .ok (.iload_n 2, 1) := by decide +kernel
theorem dX9_newNode_62 : decode cX9_newNode 62 = .ok (.iconst 0, 1) := by decide +kernel
theorem dX9_newNode_63 : decode cX9_newNode 63 = .ok (.iastore, 1) := by decide +kernel
theorem dX9_newNode_64 : decode cX9_newNode 64 = .ok (.iload_n 2, 1) := by decide +kernel
theorem dX9_newNode_65 : decode cX9_newNode 65 = .ok (.ireturn, 1) := by decide +kernel
theorem dX9_letters_0 : decode cX9_letters 0 = .ok (.aload_n 0, 1) := by decide +kernel
theorem dX9_letters_1 : decode cX9_letters 1 = .ok (.getfield 35, 3) := by decide +kernel
theorem dX9_letters_4 : decode cX9_letters 4 = .ok (.iload_n 1, 1) := by decide +kernel
theorem dX9_letters_5 : decode cX9_letters 5 = .ok (.iaload, 1) := by decide +kernel
theorem dX9_letters_6 : decode cX9_letters 6 = .ok (.istore_n 2, 1) := by decide +kernel
theorem dX9_letters_7 : decode cX9_letters 7 = .ok (.iconst 0, 1) := by decide +kernel
theorem dX9_letters_8 : decode cX9_letters 8 = .ok (.istore_n 3, 1) := by decide +kernel
theorem dX9_letters_9 : decode cX9_letters 9 = .ok (.aload_n 0, 1) := by decide +kernel
theorem dX9_letters_10 : decode cX9_letters 10 = .ok (.invokevirtual 134, 3) := by decide +kernel
theorem dX9_letters_13 : decode cX9_letters 13 = .ok (.invokestatic 138, 3) := by decide +kernel
theorem dX9_letters_16 : decode cX9_letters 16 = .ok (.ifCond .eq 45, 3) := by decide +kernel
theorem dX9_letters_19 : decode cX9_letters 19 = .ok (.iload_n 3, 1) := by decide +kernel
theorem dX9_letters_20 : decode cX9_letters 20 = .ok (.bipush 8, 2) := by decide +kernel
theorem dX9_letters_22 : decode cX9_letters 22 = .ok (.if_icmp .ge 39, 3) := by decide +kernel
theorem dX9_letters_25 : decode cX9_letters 25 = .ok (.aload_n 0, 1) := by decide +kernel
theorem dX9_letters_26 : decode cX9_letters 26 = .ok (.getfield 41, 3) := by decide +kernel
theorem dX9_letters_29 : decode cX9_letters 29 = .ok (.bipush 40, 2) := by decide +kernel
theorem dX9_letters_31 : decode cX9_letters 31 = .ok (.iload_n 1, 1) := by decide +kernel
theorem dX9_letters_32 : decode cX9_letters 32 = .ok (.imul, 1) := by decide +kernel
theorem dX9_letters_33 : decode cX9_letters 33 = .ok (.bipush 8, 2) := by decide +kernel
theorem dX9_letters_35 : decode cX9_letters 35 = .ok (.iload_n 2, 1) := by decide +kernel
theorem dX9_letters_36 : decode cX9_letters 36 = .ok (.imul, 1) := by decide +kernel
theorem dX9_letters_37 : decode cX9_letters 37 = .ok (.iadd, 1) := by decide +kernel
theorem dX9_letters_38 : decode cX9_letters 38 = .ok (.iload_n 3, 1) := by decide +kernel
theorem dX9_letters_39 : decode cX9_letters 39 = .ok (.iadd, 1) := by decide +kernel
theorem dX9_letters_40 : decode cX9_letters 40 = .ok (.aload_n 0, 1) := by decide +kernel
theorem dX9_letters_41 : decode cX9_letters 41 = .ok (.invokevirtual 134, 3) := by decide +kernel
theorem dX9_letters_44 : decode cX9_letters 44 = .ok (.iastore, 1) := by decide +kernel
theorem dX9_letters_45 : decode cX9_letters 45 = .ok (.iinc 3 1, 3) := by decide +kernel
theorem dX9_letters_48 : decode cX9_letters 48 = .ok (.aload_n 0, 1) := by decide +kernel
theorem dX9_letters_49 : decode cX9_letters 49 = .ok (.dup, 1) := by decide +kernel
theorem dX9_letters_50 : decode cX9_letters 50 = .ok (.getfield 124, 3) := by decide +kernel
theorem dX9_letters_53 : decode cX9_letters 53 = .ok (.iconst 1, 1) := by decide +kernel
theorem dX9_letters_54 : decode cX9_letters 54 = .ok (.iadd, 1) := by decide +kernel
theorem dX9_letters_55 : decode cX9_letters 55 = .ok (.putfield 124, 3) := by decide +kernel
theorem dX9_letters_58 : decode cX9_letters 58 = .ok (.goto (-49), 3) := by decide +kernel
theorem dX9_letters_61 : decode cX9_letters 61 = .ok (.iload_n 3, 1) := by decide +kernel
theorem dX9_letters_62 : decode cX9_letters 62 = .ok (.ifCond .eq 13, 3) := by decide +kernel
theorem dX9_letters_65 : decode cX9_letters 65 = .ok (.aload_n 0, 1) := by decide +kernel
theorem dX9_letters_66 : decode cX9_letters 66 = .ok (.invokevirtual 134, 3) := by decide +kernel
theorem dX9_letters_69 : decode cX9_letters 69 = .ok (.invokestatic 138, 3) := by decide +kernel
theorem dX9_letters_72 : decode cX9_letters 72 = .ok (.ifCond .eq 8, 3) := by decide +kernel
theorem dX9_letters_75 : decode cX9_letters 75 = .ok (.aload_n 0, 1) := by decide +kernel
theorem dX9_letters_76 : decode cX9_letters 76 = .ok (.invokevirtual 142, 3) := by decide +kernel
theorem dX9_letters_79 : decode cX9_letters 79 = .ok (.ireturn, 1) := by decide +kernel
theorem dX9_letters_80 : decode cX9_letters 80 = .ok (.aload_n 0, 1) := by decide +kernel
theorem dX9_letters_81 : decode cX9_letters 81 = .ok (.getfield 38, 3) := by decide +kernel
theorem dX9_letters_84 : decode cX9_letters 84 = .ok (.iconst 5, 1) := by decide +kernel
theorem dX9_letters_85 : decode cX9_letters 85 = .ok (.iload_n 1, 1) := by decide +kernel
theorem dX9_letters_86 : decode cX9_letters 86 = .ok (.imul, 1) := by decide +kernel
theorem dX9_letters_87 : decode cX9_letters 87 = .ok (.iload_n 2, 1) := by decide +kernel
theorem dX9_letters_88 : decode cX9_letters 88 = .ok (.iadd, 1) := by decide +kernel
theorem dX9_letters_89 : decode cX9_letters 89 = .ok (.iload_n 3, 1) := by decide +kernel
theorem dX9_letters_90 : decode cX9_letters 90 = .ok (.iastore, 1) := by decide +kernel
theorem dX9_letters_91 : decode cX9_letters 91 = .ok (.aload_n 0, 1) := by decide +kernel
theorem dX9_letters_92 : decode cX9_letters 92 = .ok (.getfield 35, 3) := by decide +kernel
theorem dX9_letters_95 : decode cX9_letters 95 = .ok (.iload_n 1, 1) := by decide +kernel
theorem dX9_letters_96 : decode cX9_letters 96 = .ok (.dup2, 1) := by decide +kernel
theorem dX9_letters_97 : decode cX9_letters 97 = .ok (.iaload, 1) := by decide +kernel
theorem dX9_letters_98 : decode cX9_letters 98 = .ok (.iconst 1, 1) := by decide +kernel
theorem dX9_letters_99 : decode cX9_letters 99 = .ok (.iadd, 1) := by decide +kernel
theorem dX9_letters_100 : decode cX9_letters 100 = .ok (.iastore, 1) := by decide +kernel
theorem dX9_letters_101 : decode cX9_letters 101 = .ok (.iconst 1, 1) := by decide +kernel
theorem dX9_letters_102 : decode cX9_letters 102 = .ok (.ireturn, 1) := by decide +kernel
theorem dX9_figure_0 : decode cX9_figure 0 = .ok (.aload_n 0, 1) := by decide +kernel
theorem dX9_figure_1 : decode cX9_figure 1 = .ok (.invokevirtual 134, 3) := by decide +kernel
theorem dX9_figure_4 : decode cX9_figure 4 = .ok (.iload_n 2, 1) := by decide +kernel
theorem dX9_figure_5 : decode cX9_figure 5 = .ok (.if_icmp .eq 5, 3) := by decide +kernel
theorem dX9_figure_8 : decode cX9_figure 8 = .ok (.iconst 1, 1) := by decide +kernel
theorem dX9_figure_9 : decode cX9_figure 9 = .ok (.ireturn, 1) := by decide +kernel
theorem dX9_figure_10 : decode cX9_figure 10 = .ok (.aload_n 0, 1) := by decide +kernel
theorem dX9_figure_11 : decode cX9_figure 11 = .ok (.dup, 1) := by decide +kernel
theorem dX9_figure_12 : decode cX9_figure 12 = .ok (.getfield 124, 3) := by decide +kernel
theorem dX9_figure_15 : decode cX9_figure 15 = .ok (.iconst 1, 1) := by decide +kernel
theorem dX9_figure_16 : decode cX9_figure 16 = .ok (.iadd, 1) := by decide +kernel
theorem dX9_figure_17 : decode cX9_figure 17 = .ok (.putfield 124, 3) := by decide +kernel
theorem dX9_figure_20 : decode cX9_figure 20 = .ok (.aload_n 0, 1) := by decide +kernel
theorem dX9_figure_21 : decode cX9_figure 21 = .ok (.invokevirtual 134, 3) := by decide +kernel
theorem dX9_figure_24 : decode cX9_figure 24 = .ok (.iload_n 3, 1) := by decide +kernel
theorem dX9_figure_25 : decode cX9_figure 25 = .ok (.iload 4, 2) := by decide +kernel
theorem dX9_figure_27 : decode cX9_figure 27 = .ok (.invokestatic 146, 3) := by decide +kernel
theorem dX9_figure_30 : decode cX9_figure 30 = .ok (.ifCond .ne 8, 3) := by decide +kernel
theorem dX9_figure_33 : decode cX9_figure 33 = .ok (.aload_n 0, 1) := by decide +kernel
theorem dX9_figure_34 : decode cX9_figure 34 = .ok (.invokevirtual 142, 3) := by decide +kernel
theorem dX9_figure_37 : decode cX9_figure 37 = .ok (.ireturn, 1) := by decide +kernel
theorem dX9_figure_38 : decode cX9_figure 38 = .ok (.aload_n 0, 1) := by decide +kernel
theorem dX9_figure_39 : decode cX9_figure 39 = .ok (.getfield 29, 3) := by decide +kernel
theorem dX9_figure_42 : decode cX9_figure 42 = .ok (.iload_n 1, 1) := by decide +kernel
theorem dX9_figure_43 : decode cX9_figure 43 = .ok (.aload_n 0, 1) := by decide +kernel
theorem dX9_figure_44 : decode cX9_figure 44 = .ok (.invokevirtual 134, 3) := by decide +kernel
theorem dX9_figure_47 : decode cX9_figure 47 = .ok (.bipush 48, 2) := by decide +kernel
theorem dX9_figure_49 : decode cX9_figure 49 = .ok (.isub, 1) := by decide +kernel
theorem dX9_figure_50 : decode cX9_figure 50 = .ok (.iastore, 1) := by decide +kernel
theorem dX9_figure_51 : decode cX9_figure 51 = .ok (.aload_n 0, 1) := by decide +kernel
theorem dX9_figure_52 : decode cX9_figure 52 = .ok (.dup, 1) := by decide +kernel
theorem dX9_figure_53 : decode cX9_figure 53 = .ok (.getfield 124, 3) := by decide +kernel
theorem dX9_figure_56 : decode cX9_figure 56 = .ok (.iconst 1, 1) := by decide +kernel
theorem dX9_figure_57 : decode cX9_figure 57 = .ok (.iadd, 1) := by decide +kernel
theorem dX9_figure_58 : decode cX9_figure 58 = .ok (.putfield 124, 3) := by decide +kernel
theorem dX9_figure_61 : decode cX9_figure 61 = .ok (.iconst 1, 1) := by decide +kernel
theorem dX9_figure_62 : decode cX9_figure 62 = .ok (.ireturn, 1) := by decide +kernel
theorem dX9_word_0 : decode cX9_word 0 = .ok (.aload_n 0, 1) := by decide +kernel
theorem dX9_word_1 : decode cX9_word 1 = .ok (.getfield 17, 3) := by decide +kernel
theorem dX9_word_4 : decode cX9_word 4 = .ok (.iload_n 1, 1) := by decide +kernel
theorem dX9_word_5 : decode cX9_word 5 = .ok (.iconst 0, 1) := by decide +kernel
theorem dX9_word_6 : decode cX9_word 6 = .ok (.iastore, 1) := by decide +kernel
theorem dX9_word_7 : decode cX9_word 7 = .ok (.aload_n 0, 1) := by decide +kernel
theorem dX9_word_8 : decode cX9_word 8 = .ok (.getfield 29, 3) := by decide +kernel
theorem dX9_word_11 : decode cX9_word 11 = .ok (.iload_n 1, 1) := by decide +kernel
theorem dX9_word_12 : decode cX9_word 12 = .ok (.iconst 0, 1) := by decide +kernel
theorem dX9_word_13 : decode cX9_word 13 = .ok (.iastore, 1) := by decide +kernel
theorem dX9_word_14 : decode cX9_word 14 = .ok (.iconst 1, 1) := by decide +kernel
theorem dX9_word_15 : decode cX9_word 15 = .ok (.istore_n 2, 1) := by decide +kernel
theorem dX9_word_16 : decode cX9_word 16 = .ok (.iconst 0, 1) := by decide +kernel
theorem dX9_word_17 : decode cX9_word 17 = .ok (.istore_n 3, 1) := by decide +kernel
theorem dX9_word_18 : decode cX9_word 18 = .ok (.iload_n 3, 1) := by decide +kernel
theorem dX9_word_19 : decode cX9_word 19 = .ok (.bipush 8, 2) := by decide +kernel
theorem dX9_word_21 : decode cX9_word 21 = .ok (.if_icmp .ge 82, 3) := by decide +kernel
theorem dX9_word_24 : decode cX9_word 24 = .ok (.aload_n 0, 1) := by decide +kernel
theorem dX9_word_25 : decode cX9_word 25 = .ok (.invokevirtual 134, 3) := by decide +kernel
theorem dX9_word_28 : decode cX9_word 28 = .ok (.invokestatic 138, 3) := by decide +kernel
theorem dX9_word_31 : decode cX9_word 31 = .ok (.ifCond .ne 21, 3) := by decide +kernel
theorem dX9_word_34 : decode cX9_word 34 = .ok (.aload_n 0, 1) := by decide +kernel
theorem dX9_word_35 : decode cX9_word 35 = .ok (.invokevirtual 134, 3) := by decide +kernel
theorem dX9_word_38 : decode cX9_word 38 = .ok (.bipush 63, 2) := by decide +kernel
theorem dX9_word_40 : decode cX9_word 40 = .ok (.if_icmp .eq 12, 3) := by decide +kernel
theorem dX9_word_43 : decode cX9_word 43 = .ok (.aload_n 0, 1) := by decide +kernel
theorem dX9_word_44 : decode cX9_word 44 = .ok (.invokevirtual 134, 3) := by decide +kernel
theorem dX9_word_47 : decode cX9_word 47 = .ok (.bipush 42, 2) := by decide +kernel
theorem dX9_word_49 : decode cX9_word 49 = .ok (.if_icmp .ne 54, 3) := by decide +kernel
theorem dX9_word_52 : decode cX9_word 52 = .ok (.iload_n 2, 1) := by decide +kernel
theorem dX9_word_53 : decode cX9_word 53 = .ok (.ifCond .eq 17, 3) := by decide +kernel
theorem dX9_word_56 : decode cX9_word 56 = .ok (.aload_n 0, 1) := by decide +kernel
theorem dX9_word_57 : decode cX9_word 57 = .ok (.invokevirtual 134, 3) := by decide +kernel
theorem dX9_word_60 : decode cX9_word 60 = .ok (.invokestatic 138, 3) := by decide +kernel
theorem dX9_word_63 : decode cX9_word 63 = .ok (.ifCond .eq 7, 3) := by decide +kernel
theorem dX9_word_66 : decode cX9_word 66 = .ok (.iconst 1, 1) := by decide +kernel
theorem dX9_word_67 : decode cX9_word 67 = .ok (.goto 4, 3) := by decide +kernel
theorem dX9_word_70 : decode cX9_word 70 = .ok (.iconst 0, 1) := by decide +kernel
theorem dX9_word_71 : decode cX9_word 71 = .ok (.istore_n 2, 1) := by decide +kernel
theorem dX9_word_72 : decode cX9_word 72 = .ok (.aload_n 0, 1) := by decide +kernel
theorem dX9_word_73 : decode cX9_word 73 = .ok (.getfield 41, 3) := by decide +kernel
theorem dX9_word_76 : decode cX9_word 76 = .ok (.bipush 40, 2) := by decide +kernel
theorem dX9_word_78 : decode cX9_word 78 = .ok (.iload_n 1, 1) := by decide +kernel
theorem dX9_word_79 : decode cX9_word 79 = .ok (.imul, 1) := by decide +kernel
theorem dX9_word_80 : decode cX9_word 80 = .ok (.iload_n 3, 1) := by decide +kernel
theorem dX9_word_81 : decode cX9_word 81 = .ok (.iadd, 1) := by decide +kernel
theorem dX9_word_82 : decode cX9_word 82 = .ok (.aload_n 0, 1) := by decide +kernel
theorem dX9_word_83 : decode cX9_word 83 = .ok (.invokevirtual 134, 3) := by decide +kernel
theorem dX9_word_86 : decode cX9_word 86 = .ok (.iastore, 1) := by decide +kernel
theorem dX9_word_87 : decode cX9_word 87 = .ok (.iinc 3 1, 3) := by decide +kernel
theorem dX9_word_90 : decode cX9_word 90 = .ok (.aload_n 0, 1) := by decide +kernel
theorem dX9_word_91 : decode cX9_word 91 = .ok (.dup, 1) := by decide +kernel
theorem dX9_word_92 : decode cX9_word 92 = .ok (.getfield 124, 3) := by decide +kernel
theorem dX9_word_95 : decode cX9_word 95 = .ok (.iconst 1, 1) := by decide +kernel
theorem dX9_word_96 : decode cX9_word 96 = .ok (.iadd, 1) := by decide +kernel
theorem dX9_word_97 : decode cX9_word 97 = .ok (.putfield 124, 3) := by decide +kernel
theorem dX9_word_100 : decode cX9_word 100 = .ok (.goto (-82), 3) := by decide +kernel
theorem dX9_word_103 : decode cX9_word 103 = .ok (.aload_n 0, 1) := by decide +kernel
theorem dX9_word_104 : decode cX9_word 104 = .ok (.getfield 38, 3) := by decide +kernel
theorem dX9_word_107 : decode cX9_word 107 = .ok (.iconst 5, 1) := by decide +kernel
theorem dX9_word_108 : decode cX9_word 108 = .ok (.iload_n 1, 1) := by decide +kernel
theorem dX9_word_109 : decode cX9_word 109 = .ok (.imul, 1) := by decide +kernel
theorem dX9_word_110 : decode cX9_word 110 = .ok (.iload_n 3, 1) := by decide +kernel
theorem dX9_word_111 : decode cX9_word 111 = .ok (.iastore, 1) := by decide +kernel
theorem dX9_word_112 : decode cX9_word 112 = .ok (.aload_n 0, 1) := by decide +kernel
theorem dX9_word_113 : decode cX9_word 113 = .ok (.getfield 35, 3) := by decide +kernel
theorem dX9_word_116 : decode cX9_word 116 = .ok (.iload_n 1, 1) := by decide +kernel
theorem dX9_word_117 : decode cX9_word 117 = .ok (.iconst 1, 1) := by decide +kernel
theorem dX9_word_118 : decode cX9_word 118 = .ok (.iastore, 1) := by decide +kernel
theorem dX9_word_119 : decode cX9_word 119 = .ok (.aload_n 0, 1) := by decide +kernel
theorem dX9_word_120 : decode cX9_word 120 = .ok (.invokevirtual 134, 3) := by decide +kernel
theorem dX9_word_123 : decode cX9_word 123 = .ok (.invokestatic 138, 3) := by decide +kernel
theorem dX9_word_126 : decode cX9_word 126 = .ok (.ifCond .ne 34, 3) := by decide +kernel
theorem dX9_word_129 : decode cX9_word 129 = .ok (.aload_n 0, 1) := by decide +kernel
theorem dX9_word_130 : decode cX9_word 130 = .ok (.invokevirtual 134, 3) := by decide +kernel
theorem dX9_word_133 : decode cX9_word 133 = .ok (.bipush 63, 2) := by decide +kernel
theorem dX9_word_135 : decode cX9_word 135 = .ok (.if_icmp .eq 25, 3) := by decide +kernel
theorem dX9_word_138 : decode cX9_word 138 = .ok (.aload_n 0, 1) := by decide +kernel
theorem dX9_word_139 : decode cX9_word 139 = .ok (.invokevirtual 134, 3) := by decide +kernel
theorem dX9_word_142 : decode cX9_word 142 = .ok (.bipush 42, 2) := by decide +kernel
theorem dX9_word_144 : decode cX9_word 144 = .ok (.if_icmp .eq 16, 3) := by decide +kernel
theorem dX9_word_147 : decode cX9_word 147 = .ok (.iload_n 2, 1) := by decide +kernel
theorem dX9_word_148 : decode cX9_word 148 = .ok (.ifCond .ne 17, 3) := by decide +kernel
theorem dX9_word_151 : decode cX9_word 151 = .ok (.aload_n 0, 1) := by decide +kernel
theorem dX9_word_152 : decode cX9_word 152 = .ok (.invokevirtual 134, 3) := by decide +kernel
theorem dX9_word_155 : decode cX9_word 155 = .ok (.bipush 126, 2) := by decide +kernel
theorem dX9_word_157 : decode cX9_word 157 = .ok (.if_icmp .ne 8, 3) := by decide +kernel
theorem dX9_word_160 : decode cX9_word 160 = .ok (.aload_n 0, 1) := by decide +kernel
theorem dX9_word_161 : decode cX9_word 161 = .ok (.invokevirtual 142, 3) := by decide +kernel
theorem dX9_word_164 : decode cX9_word 164 = .ok (.ireturn, 1) := by decide +kernel
theorem dX9_word_165 : decode cX9_word 165 = .ok (.aload_n 0, 1) := by decide +kernel
theorem dX9_word_166 : decode cX9_word 166 = .ok (.iload_n 1, 1) := by decide +kernel
theorem dX9_word_167 : decode cX9_word 167 = .ok (.bipush 126, 2) := by decide +kernel
theorem dX9_word_169 : decode cX9_word 169 = .ok (.iconst 0, 1) := by decide +kernel
theorem dX9_word_170 : decode cX9_word 170 = .ok (.iconst 2, 1) := by decide +kernel
theorem dX9_word_171 : decode cX9_word 171 = .ok (.invokevirtual 150, 3) := by decide +kernel
theorem dX9_word_174 : decode cX9_word 174 = .ok (.ireturn, 1) := by decide +kernel
theorem dX9_quote_0 : decode cX9_quote 0 = .ok (.aload_n 0, 1) := by decide +kernel
theorem dX9_quote_1 : decode cX9_quote 1 = .ok (.getfield 17, 3) := by decide +kernel
theorem dX9_quote_4 : decode cX9_quote 4 = .ok (.iload_n 1, 1) := by decide +kernel
theorem dX9_quote_5 : decode cX9_quote 5 = .ok (.iconst 1, 1) := by decide +kernel
theorem dX9_quote_6 : decode cX9_quote 6 = .ok (.iastore, 1) := by decide +kernel
