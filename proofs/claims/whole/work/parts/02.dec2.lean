theorem dX9_quote_7 : decode cX9_quote 7 = .ok (.aload_n 0, 1) := by decide +kernel
theorem dX9_quote_8 : decode cX9_quote 8 = .ok (.getfield 29, 3) := by decide +kernel
theorem dX9_quote_11 : decode cX9_quote 11 = .ok (.iload_n 1, 1) := by decide +kernel
theorem dX9_quote_12 : decode cX9_quote 12 = .ok (.iconst 0, 1) := by decide +kernel
theorem dX9_quote_13 : decode cX9_quote 13 = .ok (.iastore, 1) := by decide +kernel
theorem dX9_quote_14 : decode cX9_quote 14 = .ok (.aload_n 0, 1) := by decide +kernel
theorem dX9_quote_15 : decode cX9_quote 15 = .ok (.dup, 1) := by decide +kernel
theorem dX9_quote_16 : decode cX9_quote 16 = .ok (.getfield 124, 3) := by decide +kernel
theorem dX9_quote_19 : decode cX9_quote 19 = .ok (.iconst 1, 1) := by decide +kernel
theorem dX9_quote_20 : decode cX9_quote 20 = .ok (.iadd, 1) := by decide +kernel
theorem dX9_quote_21 : decode cX9_quote 21 = .ok (.putfield 124, 3) := by decide +kernel
theorem dX9_quote_24 : decode cX9_quote 24 = .ok (.iconst 1, 1) := by decide +kernel
theorem dX9_quote_25 : decode cX9_quote 25 = .ok (.istore_n 2, 1) := by decide +kernel
theorem dX9_quote_26 : decode cX9_quote 26 = .ok (.iload_n 2, 1) := by decide +kernel
theorem dX9_quote_27 : decode cX9_quote 27 = .ok (.ifCond .eq 64, 3) := by decide +kernel
theorem dX9_quote_30 : decode cX9_quote 30 = .ok (.aload_n 0, 1) := by decide +kernel
theorem dX9_quote_31 : decode cX9_quote 31 = .ok (.iload_n 1, 1) := by decide +kernel
theorem dX9_quote_32 : decode cX9_quote 32 = .ok (.invokevirtual 154, 3) := by decide +kernel
theorem dX9_quote_35 : decode cX9_quote 35 = .ok (.ifCond .ne 5, 3) := by decide +kernel
theorem dX9_quote_38 : decode cX9_quote 38 = .ok (.iconst 0, 1) := by decide +kernel
theorem dX9_quote_39 : decode cX9_quote 39 = .ok (.ireturn, 1) := by decide +kernel
theorem dX9_quote_40 : decode cX9_quote 40 = .ok (.aload_n 0, 1) := by decide +kernel
theorem dX9_quote_41 : decode cX9_quote 41 = .ok (.invokevirtual 134, 3) := by decide +kernel
theorem dX9_quote_44 : decode cX9_quote 44 = .ok (.bipush 32, 2) := by decide +kernel
theorem dX9_quote_46 : decode cX9_quote 46 = .ok (.if_icmp .ne 17, 3) := by decide +kernel
theorem dX9_quote_49 : decode cX9_quote 49 = .ok (.aload_n 0, 1) := by decide +kernel
theorem dX9_quote_50 : decode cX9_quote 50 = .ok (.getfield 35, 3) := by decide +kernel
theorem dX9_quote_53 : decode cX9_quote 53 = .ok (.iload_n 1, 1) := by decide +kernel
theorem dX9_quote_54 : decode cX9_quote 54 = .ok (.iaload, 1) := by decide +kernel
theorem dX9_quote_55 : decode cX9_quote 55 = .ok (.iconst 5, 1) := by decide +kernel
theorem dX9_quote_56 : decode cX9_quote 56 = .ok (.if_icmp .ge 7, 3) := by decide +kernel
theorem dX9_quote_59 : decode cX9_quote 59 = .ok (.iconst 1, 1) := by decide +kernel
theorem dX9_quote_60 : decode cX9_quote 60 = .ok (.goto 4, 3) := by decide +kernel
theorem dX9_quote_63 : decode cX9_quote 63 = .ok (.iconst 0, 1) := by decide +kernel
theorem dX9_quote_64 : decode cX9_quote 64 = .ok (.istore_n 2, 1) := by decide +kernel
theorem dX9_quote_65 : decode cX9_quote 65 = .ok (.iload_n 2, 1) := by decide +kernel
theorem dX9_quote_66 : decode cX9_quote 66 = .ok (.ifCond .eq (-40), 3) := by decide +kernel
theorem dX9_quote_69 : decode cX9_quote 69 = .ok (.aload_n 0, 1) := by decide +kernel
theorem dX9_quote_70 : decode cX9_quote 70 = .ok (.invokevirtual 134, 3) := by decide +kernel
theorem dX9_quote_73 : decode cX9_quote 73 = .ok (.bipush 32, 2) := by decide +kernel
theorem dX9_quote_75 : decode cX9_quote 75 = .ok (.if_icmp .ne (-49), 3) := by decide +kernel
theorem dX9_quote_78 : decode cX9_quote 78 = .ok (.aload_n 0, 1) := by decide +kernel
theorem dX9_quote_79 : decode cX9_quote 79 = .ok (.dup, 1) := by decide +kernel
theorem dX9_quote_80 : decode cX9_quote 80 = .ok (.getfield 124, 3) := by decide +kernel
theorem dX9_quote_83 : decode cX9_quote 83 = .ok (.iconst 1, 1) := by decide +kernel
theorem dX9_quote_84 : decode cX9_quote 84 = .ok (.iadd, 1) := by decide +kernel
theorem dX9_quote_85 : decode cX9_quote 85 = .ok (.putfield 124, 3) := by decide +kernel
theorem dX9_quote_88 : decode cX9_quote 88 = .ok (.goto (-23), 3) := by decide +kernel
theorem dX9_quote_91 : decode cX9_quote 91 = .ok (.aload_n 0, 1) := by decide +kernel
theorem dX9_quote_92 : decode cX9_quote 92 = .ok (.invokevirtual 134, 3) := by decide +kernel
theorem dX9_quote_95 : decode cX9_quote 95 = .ok (.bipush 34, 2) := by decide +kernel
theorem dX9_quote_97 : decode cX9_quote 97 = .ok (.if_icmp .eq 8, 3) := by decide +kernel
theorem dX9_quote_100 : decode cX9_quote 100 = .ok (.aload_n 0, 1) := by decide +kernel
theorem dX9_quote_101 : decode cX9_quote 101 = .ok (.invokevirtual 142, 3) := by decide +kernel
theorem dX9_quote_104 : decode cX9_quote 104 = .ok (.ireturn, 1) := by decide +kernel
theorem dX9_quote_105 : decode cX9_quote 105 = .ok (.aload_n 0, 1) := by decide +kernel
theorem dX9_quote_106 : decode cX9_quote 106 = .ok (.dup, 1) := by decide +kernel
theorem dX9_quote_107 : decode cX9_quote 107 = .ok (.getfield 124, 3) := by decide +kernel
theorem dX9_quote_110 : decode cX9_quote 110 = .ok (.iconst 1, 1) := by decide +kernel
theorem dX9_quote_111 : decode cX9_quote 111 = .ok (.iadd, 1) := by decide +kernel
theorem dX9_quote_112 : decode cX9_quote 112 = .ok (.putfield 124, 3) := by decide +kernel
theorem dX9_quote_115 : decode cX9_quote 115 = .ok (.aload_n 0, 1) := by decide +kernel
theorem dX9_quote_116 : decode cX9_quote 116 = .ok (.iload_n 1, 1) := by decide +kernel
theorem dX9_quote_117 : decode cX9_quote 117 = .ok (.bipush 126, 2) := by decide +kernel
theorem dX9_quote_119 : decode cX9_quote 119 = .ok (.iconst 0, 1) := by decide +kernel
theorem dX9_quote_120 : decode cX9_quote 120 = .ok (.bipush 9, 2) := by decide +kernel
theorem dX9_quote_122 : decode cX9_quote 122 = .ok (.invokevirtual 150, 3) := by decide +kernel
theorem dX9_quote_125 : decode cX9_quote 125 = .ok (.ireturn, 1) := by decide +kernel
theorem dX9_span_0 : decode cX9_span 0 = .ok (.aload_n 0, 1) := by decide +kernel
theorem dX9_span_1 : decode cX9_span 1 = .ok (.getfield 17, 3) := by decide +kernel
theorem dX9_span_4 : decode cX9_span 4 = .ok (.iload_n 1, 1) := by decide +kernel
theorem dX9_span_5 : decode cX9_span 5 = .ok (.iconst 2, 1) := by decide +kernel
theorem dX9_span_6 : decode cX9_span 6 = .ok (.iastore, 1) := by decide +kernel
theorem dX9_span_7 : decode cX9_span 7 = .ok (.aload_n 0, 1) := by decide +kernel
theorem dX9_span_8 : decode cX9_span 8 = .ok (.invokevirtual 134, 3) := by decide +kernel
theorem dX9_span_11 : decode cX9_span 11 = .ok (.bipush 123, 2) := by decide +kernel
theorem dX9_span_13 : decode cX9_span 13 = .ok (.if_icmp .ne 7, 3) := by decide +kernel
theorem dX9_span_16 : decode cX9_span 16 = .ok (.iconst 1, 1) := by decide +kernel
theorem dX9_span_17 : decode cX9_span 17 = .ok (.goto 4, 3) := by decide +kernel
theorem dX9_span_20 : decode cX9_span 20 = .ok (.iconst 0, 1) := by decide +kernel
theorem dX9_span_21 : decode cX9_span 21 = .ok (.istore_n 2, 1) := by decide +kernel
theorem dX9_span_22 : decode cX9_span 22 = .ok (.aload_n 0, 1) := by decide +kernel
theorem dX9_span_23 : decode cX9_span 23 = .ok (.getfield 29, 3) := by decide +kernel
theorem dX9_span_26 : decode cX9_span 26 = .ok (.iload_n 1, 1) := by decide +kernel
theorem dX9_span_27 : decode cX9_span 27 = .ok (.iload_n 2, 1) := by decide +kernel
theorem dX9_span_28 : decode cX9_span 28 = .ok (.ifCond .eq 7, 3) := by decide +kernel
theorem dX9_span_31 : decode cX9_span 31 = .ok (.iconst 1, 1) := by decide +kernel
theorem dX9_span_32 : decode cX9_span 32 = .ok (.goto 4, 3) := by decide +kernel
theorem dX9_span_35 : decode cX9_span 35 = .ok (.iconst 0, 1) := by decide +kernel
theorem dX9_span_36 : decode cX9_span 36 = .ok (.iastore, 1) := by decide +kernel
theorem dX9_span_37 : decode cX9_span 37 = .ok (.aload_n 0, 1) := by decide +kernel
theorem dX9_span_38 : decode cX9_span 38 = .ok (.dup, 1) := by decide +kernel
theorem dX9_span_39 : decode cX9_span 39 = .ok (.getfield 124, 3) := by decide +kernel
theorem dX9_span_42 : decode cX9_span 42 = .ok (.iconst 1, 1) := by decide +kernel
theorem dX9_span_43 : decode cX9_span 43 = .ok (.iadd, 1) := by decide +kernel
theorem dX9_span_44 : decode cX9_span 44 = .ok (.putfield 124, 3) := by decide +kernel
theorem dX9_span_47 : decode cX9_span 47 = .ok (.aload_n 0, 1) := by decide +kernel
theorem dX9_span_48 : decode cX9_span 48 = .ok (.iload_n 1, 1) := by decide +kernel
theorem dX9_span_49 : decode cX9_span 49 = .ok (.invokevirtual 154, 3) := by decide +kernel
theorem dX9_span_52 : decode cX9_span 52 = .ok (.ifCond .ne 5, 3) := by decide +kernel
theorem dX9_span_55 : decode cX9_span 55 = .ok (.iconst 0, 1) := by decide +kernel
theorem dX9_span_56 : decode cX9_span 56 = .ok (.ireturn, 1) := by decide +kernel
theorem dX9_span_57 : decode cX9_span 57 = .ok (.iconst 0, 1) := by decide +kernel
theorem dX9_span_58 : decode cX9_span 58 = .ok (.istore_n 3, 1) := by decide +kernel
theorem dX9_span_59 : decode cX9_span 59 = .ok (.iload_n 3, 1) := by decide +kernel
theorem dX9_span_60 : decode cX9_span 60 = .ok (.iconst 2, 1) := by decide +kernel
theorem dX9_span_61 : decode cX9_span 61 = .ok (.if_icmp .ge 33, 3) := by decide +kernel
theorem dX9_span_64 : decode cX9_span 64 = .ok (.aload_n 0, 1) := by decide +kernel
theorem dX9_span_65 : decode cX9_span 65 = .ok (.invokevirtual 134, 3) := by decide +kernel
theorem dX9_span_68 : decode cX9_span 68 = .ok (.bipush 46, 2) := by decide +kernel
theorem dX9_span_70 : decode cX9_span 70 = .ok (.if_icmp .eq 8, 3) := by decide +kernel
theorem dX9_span_73 : decode cX9_span 73 = .ok (.aload_n 0, 1) := by decide +kernel
theorem dX9_span_74 : decode cX9_span 74 = .ok (.invokevirtual 142, 3) := by decide +kernel
theorem dX9_span_77 : decode cX9_span 77 = .ok (.ireturn, 1) := by decide +kernel
theorem dX9_span_78 : decode cX9_span 78 = .ok (.aload_n 0, 1) := by decide +kernel
theorem dX9_span_79 : decode cX9_span 79 = .ok (.dup, 1) := by decide +kernel
theorem dX9_span_80 : decode cX9_span 80 = .ok (.getfield 124, 3) := by decide +kernel
theorem dX9_span_83 : decode cX9_span 83 = .ok (.iconst 1, 1) := by decide +kernel
theorem dX9_span_84 : decode cX9_span 84 = .ok (.iadd, 1) := by decide +kernel
theorem dX9_span_85 : decode cX9_span 85 = .ok (.putfield 124, 3) := by decide +kernel
theorem dX9_span_88 : decode cX9_span 88 = .ok (.iinc 3 1, 3) := by decide +kernel
theorem dX9_span_91 : decode cX9_span 91 = .ok (.goto (-32), 3) := by decide +kernel
theorem dX9_span_94 : decode cX9_span 94 = .ok (.aload_n 0, 1) := by decide +kernel
theorem dX9_span_95 : decode cX9_span 95 = .ok (.iload_n 1, 1) := by decide +kernel
theorem dX9_span_96 : decode cX9_span 96 = .ok (.invokevirtual 154, 3) := by decide +kernel
theorem dX9_span_99 : decode cX9_span 99 = .ok (.ifCond .ne 5, 3) := by decide +kernel
theorem dX9_span_102 : decode cX9_span 102 = .ok (.iconst 0, 1) := by decide +kernel
theorem dX9_span_103 : decode cX9_span 103 = .ok (.ireturn, 1) := by decide +kernel
theorem dX9_span_104 : decode cX9_span 104 = .ok (.aload_n 0, 1) := by decide +kernel
theorem dX9_span_105 : decode cX9_span 105 = .ok (.invokevirtual 134, 3) := by decide +kernel
theorem dX9_span_108 : decode cX9_span 108 = .ok (.iload_n 2, 1) := by decide +kernel
theorem dX9_span_109 : decode cX9_span 109 = .ok (.ifCond .eq 8, 3) := by decide +kernel
theorem dX9_span_112 : decode cX9_span 112 = .ok (.bipush 125, 2) := by decide +kernel
theorem dX9_span_114 : decode cX9_span 114 = .ok (.goto 5, 3) := by decide +kernel
theorem dX9_span_117 : decode cX9_span 117 = .ok (.bipush 93, 2) := by decide +kernel
theorem dX9_span_119 : decode cX9_span 119 = .ok (.if_icmp .eq 8, 3) := by decide +kernel
theorem dX9_span_122 : decode cX9_span 122 = .ok (.aload_n 0, 1) := by decide +kernel
theorem dX9_span_123 : decode cX9_span 123 = .ok (.invokevirtual 142, 3) := by decide +kernel
theorem dX9_span_126 : decode cX9_span 126 = .ok (.ireturn, 1) := by decide +kernel
theorem dX9_span_127 : decode cX9_span 127 = .ok (.aload_n 0, 1) := by decide +kernel
theorem dX9_span_128 : decode cX9_span 128 = .ok (.dup, 1) := by decide +kernel
theorem dX9_span_129 : decode cX9_span 129 = .ok (.getfield 124, 3) := by decide +kernel
theorem dX9_span_132 : decode cX9_span 132 = .ok (.iconst 1, 1) := by decide +kernel
theorem dX9_span_133 : decode cX9_span 133 = .ok (.iadd, 1) := by decide +kernel
theorem dX9_span_134 : decode cX9_span 134 = .ok (.putfield 124, 3) := by decide +kernel
theorem dX9_span_137 : decode cX9_span 137 = .ok (.iconst 1, 1) := by decide +kernel
theorem dX9_span_138 : decode cX9_span 138 = .ok (.ireturn, 1) := by decide +kernel
theorem dX9_ends_0 : decode cX9_ends 0 = .ok (.aload_n 0, 1) := by decide +kernel
theorem dX9_ends_1 : decode cX9_ends 1 = .ok (.invokevirtual 134, 3) := by decide +kernel
theorem dX9_ends_4 : decode cX9_ends 4 = .ok (.bipush 94, 2) := by decide +kernel
theorem dX9_ends_6 : decode cX9_ends 6 = .ok (.if_icmp .ne 100, 3) := by decide +kernel
theorem dX9_ends_9 : decode cX9_ends 9 = .ok (.aload_n 0, 1) := by decide +kernel
theorem dX9_ends_10 : decode cX9_ends 10 = .ok (.dup, 1) := by decide +kernel
theorem dX9_ends_11 : decode cX9_ends 11 = .ok (.getfield 124, 3) := by decide +kernel
theorem dX9_ends_14 : decode cX9_ends 14 = .ok (.iconst 1, 1) := by decide +kernel
theorem dX9_ends_15 : decode cX9_ends 15 = .ok (.iadd, 1) := by decide +kernel
theorem dX9_ends_16 : decode cX9_ends 16 = .ok (.putfield 124, 3) := by decide +kernel
theorem dX9_ends_19 : decode cX9_ends 19 = .ok (.aload_n 0, 1) := by decide +kernel
theorem dX9_ends_20 : decode cX9_ends 20 = .ok (.invokevirtual 134, 3) := by decide +kernel
theorem dX9_ends_23 : decode cX9_ends 23 = .ok (.iconst 0, 1) := by decide +kernel
theorem dX9_ends_24 : decode cX9_ends 24 = .ok (.bipush 9, 2) := by decide +kernel
theorem dX9_ends_26 : decode cX9_ends 26 = .ok (.invokestatic 146, 3) := by decide +kernel
theorem dX9_ends_29 : decode cX9_ends 29 = .ok (.ifCond .ne 8, 3) := by decide +kernel
theorem dX9_ends_32 : decode cX9_ends 32 = .ok (.aload_n 0, 1) := by decide +kernel
theorem dX9_ends_33 : decode cX9_ends 33 = .ok (.invokevirtual 142, 3) := by decide +kernel
theorem dX9_ends_36 : decode cX9_ends 36 = .ok (.ireturn, 1) := by decide +kernel
theorem dX9_ends_37 : decode cX9_ends 37 = .ok (.aload_n 0, 1) := by decide +kernel
theorem dX9_ends_38 : decode cX9_ends 38 = .ok (.getfield 23, 3) := by decide +kernel
theorem dX9_ends_41 : decode cX9_ends 41 = .ok (.iload_n 1, 1) := by decide +kernel
theorem dX9_ends_42 : decode cX9_ends 42 = .ok (.aload_n 0, 1) := by decide +kernel
theorem dX9_ends_43 : decode cX9_ends 43 = .ok (.invokevirtual 134, 3) := by decide +kernel
theorem dX9_ends_46 : decode cX9_ends 46 = .ok (.bipush 48, 2) := by decide +kernel
theorem dX9_ends_48 : decode cX9_ends 48 = .ok (.isub, 1) := by decide +kernel
theorem dX9_ends_49 : decode cX9_ends 49 = .ok (.iastore, 1) := by decide +kernel
theorem dX9_ends_50 : decode cX9_ends 50 = .ok (.aload_n 0, 1) := by decide +kernel
theorem dX9_ends_51 : decode cX9_ends 51 = .ok (.dup, 1) := by decide +kernel
theorem dX9_ends_52 : decode cX9_ends 52 = .ok (.getfield 124, 3) := by decide +kernel
theorem dX9_ends_55 : decode cX9_ends 55 = .ok (.iconst 1, 1) := by decide +kernel
theorem dX9_ends_56 : decode cX9_ends 56 = .ok (.iadd, 1) := by decide +kernel
theorem dX9_ends_57 : decode cX9_ends 57 = .ok (.putfield 124, 3) := by decide +kernel
theorem dX9_ends_60 : decode cX9_ends 60 = .ok (.aload_n 0, 1) := by decide +kernel
theorem dX9_ends_61 : decode cX9_ends 61 = .ok (.invokevirtual 134, 3) := by decide +kernel
theorem dX9_ends_64 : decode cX9_ends 64 = .ok (.iconst 0, 1) := by decide +kernel
theorem dX9_ends_65 : decode cX9_ends 65 = .ok (.bipush 9, 2) := by decide +kernel
theorem dX9_ends_67 : decode cX9_ends 67 = .ok (.invokestatic 146, 3) := by decide +kernel
theorem dX9_ends_70 : decode cX9_ends 70 = .ok (.ifCond .eq 36, 3) := by decide +kernel
theorem dX9_ends_73 : decode cX9_ends 73 = .ok (.aload_n 0, 1) := by decide +kernel
theorem dX9_ends_74 : decode cX9_ends 74 = .ok (.getfield 23, 3) := by decide +kernel
theorem dX9_ends_77 : decode cX9_ends 77 = .ok (.iload_n 1, 1) := by decide +kernel
theorem dX9_ends_78 : decode cX9_ends 78 = .ok (.bipush 10, 2) := by decide +kernel
theorem dX9_ends_80 : decode cX9_ends 80 = .ok (.aload_n 0, 1) := by decide +kernel
theorem dX9_ends_81 : decode cX9_ends 81 = .ok (.getfield 23, 3) := by decide +kernel
theorem dX9_ends_84 : decode cX9_ends 84 = .ok (.iload_n 1, 1) := by decide +kernel
theorem dX9_ends_85 : decode cX9_ends 85 = .ok (.iaload, 1) := by decide +kernel
theorem dX9_ends_86 : decode cX9_ends 86 = .ok (.imul, 1) := by decide +kernel
theorem dX9_ends_87 : decode cX9_ends 87 = .ok (.aload_n 0, 1) := by decide +kernel
theorem dX9_ends_88 : decode cX9_ends 88 = .ok (.invokevirtual 134, 3) := by decide +kernel
theorem dX9_ends_91 : decode cX9_ends 91 = .ok (.iadd, 1) := by decide +kernel
theorem dX9_ends_92 : decode cX9_ends 92 = .ok (.bipush 48, 2) := by decide +kernel
theorem dX9_ends_94 : decode cX9_ends 94 = .ok (.isub, 1) := by decide +kernel
theorem dX9_ends_95 : decode cX9_ends 95 = .ok (.iastore, 1) := by decide +kernel
theorem dX9_ends_96 : decode cX9_ends 96 = .ok (.aload_n 0, 1) := by decide +kernel
theorem dX9_ends_97 : decode cX9_ends 97 = .ok (.dup, 1) := by decide +kernel
theorem dX9_ends_98 : decode cX9_ends 98 = .ok (.getfield 124, 3) := by decide +kernel
theorem dX9_ends_101 : decode cX9_ends 101 = .ok (.iconst 1, 1) := by decide +kernel
theorem dX9_ends_102 : decode cX9_ends 102 = .ok (.iadd, 1) := by decide +kernel
theorem dX9_ends_103 : decode cX9_ends 103 = .ok (.putfield 124, 3) := by decide +kernel
theorem dX9_ends_106 : decode cX9_ends 106 = .ok (.aload_n 0, 1) := by decide +kernel
theorem dX9_ends_107 : decode cX9_ends 107 = .ok (.invokevirtual 134, 3) := by decide +kernel
theorem dX9_ends_110 : decode cX9_ends 110 = .ok (.bipush 32, 2) := by decide +kernel
theorem dX9_ends_112 : decode cX9_ends 112 = .ok (.if_icmp .eq 27, 3) := by decide +kernel
theorem dX9_ends_115 : decode cX9_ends 115 = .ok (.aload_n 0, 1) := by decide +kernel
theorem dX9_ends_116 : decode cX9_ends 116 = .ok (.invokevirtual 134, 3) := by decide +kernel
theorem dX9_ends_119 : decode cX9_ends 119 = .ok (.bipush 41, 2) := by decide +kernel
theorem dX9_ends_121 : decode cX9_ends 121 = .ok (.if_icmp .eq 18, 3) := by decide +kernel
theorem dX9_ends_124 : decode cX9_ends 124 = .ok (.aload_n 0, 1) := by decide +kernel
theorem dX9_ends_125 : decode cX9_ends 125 = .ok (.invokevirtual 134, 3) := by decide +kernel
theorem dX9_ends_128 : decode cX9_ends 128 = .ok (.iconst (-1), 1) := by decide +kernel
theorem dX9_ends_129 : decode cX9_ends 129 = .ok (.if_icmp .eq 10, 3) := by decide +kernel
theorem dX9_ends_132 : decode cX9_ends 132 = .ok (.aload_n 0, 1) := by decide +kernel
theorem dX9_ends_133 : decode cX9_ends 133 = .ok (.invokevirtual 142, 3) := by decide +kernel
theorem dX9_ends_136 : decode cX9_ends 136 = .ok (.ifCond .eq 7, 3) := by decide +kernel
theorem dX9_ends_139 : decode cX9_ends 139 = .ok (.iconst 1, 1) := by decide +kernel
theorem dX9_ends_140 : decode cX9_ends 140 = .ok (.goto 4, 3) := by decide +kernel
theorem dX9_ends_143 : decode cX9_ends 143 = .ok (.iconst 0, 1) := by decide +kernel
theorem dX9_ends_144 : decode cX9_ends 144 = .ok (.ireturn, 1) := by decide +kernel
theorem dX9_marks_0 : decode cX9_marks 0 = .ok (.aload_n 0, 1) := by decide +kernel
theorem dX9_marks_1 : decode cX9_marks 1 = .ok (.invokevirtual 134, 3) := by decide +kernel
theorem dX9_marks_4 : decode cX9_marks 4 = .ok (.bipush 43, 2) := by decide +kernel
theorem dX9_marks_6 : decode cX9_marks 6 = .ok (.if_icmp .eq 12, 3) := by decide +kernel
theorem dX9_marks_9 : decode cX9_marks 9 = .ok (.aload_n 0, 1) := by decide +kernel
theorem dX9_marks_10 : decode cX9_marks 10 = .ok (.invokevirtual 134, 3) := by decide +kernel
theorem dX9_marks_13 : decode cX9_marks 13 = .ok (.bipush 45, 2) := by decide +kernel
theorem dX9_marks_15 : decode cX9_marks 15 = .ok (.if_icmp .ne 33, 3) := by decide +kernel
theorem dX9_marks_18 : decode cX9_marks 18 = .ok (.aload_n 0, 1) := by decide +kernel
theorem dX9_marks_19 : decode cX9_marks 19 = .ok (.getfield 20, 3) := by decide +kernel
theorem dX9_marks_22 : decode cX9_marks 22 = .ok (.iload_n 1, 1) := by decide +kernel
theorem dX9_marks_23 : decode cX9_marks 23 = .ok (.aload_n 0, 1) := by decide +kernel
theorem dX9_marks_24 : decode cX9_marks 24 = .ok (.invokevirtual 134, 3) := by decide +kernel
theorem dX9_marks_27 : decode cX9_marks 27 = .ok (.bipush 43, 2) := by decide +kernel
theorem dX9_marks_29 : decode cX9_marks 29 = .ok (.if_icmp .ne 7, 3) := by decide +kernel
theorem dX9_marks_32 : decode cX9_marks 32 = .ok (.iconst 1, 1) := by decide +kernel
theorem dX9_marks_33 : decode cX9_marks 33 = .ok (.goto 4, 3) := by decide +kernel
theorem dX9_marks_36 : decode cX9_marks 36 = .ok (.iconst 2, 1) := by decide +kernel
theorem dX9_marks_37 : decode cX9_marks 37 = .ok (.iastore, 1) := by decide +kernel
theorem dX9_marks_38 : decode cX9_marks 38 = .ok (.aload_n 0, 1) := by decide +kernel
theorem dX9_marks_39 : decode cX9_marks 39 = .ok (.dup, 1) := by decide +kernel
theorem dX9_marks_40 : decode cX9_marks 40 = .ok (.getfield 124, 3) := by decide +kernel
theorem dX9_marks_43 : decode cX9_marks 43 = .ok (.iconst 1, 1) := by decide +kernel
theorem dX9_marks_44 : decode cX9_marks 44 = .ok (.iadd, 1) := by decide +kernel
theorem dX9_marks_45 : decode cX9_marks 45 = .ok (.putfield 124, 3) := by decide +kernel
theorem dX9_marks_48 : decode cX9_marks 48 = .ok (.aload_n 0, 1) := by decide +kernel
theorem dX9_marks_49 : decode cX9_marks 49 = .ok (.invokevirtual 134, 3) := by decide +kernel
theorem dX9_marks_52 : decode cX9_marks 52 = .ok (.i2l, 1) := by decide +kernel
theorem dX9_marks_53 : decode cX9_marks 53 = .ok (.ldc2_w 157, 3) := by decide +kernel
theorem dX9_marks_56 : decode cX9_marks 56 = .ok (.ldc2_w 159, 3) := by decide +kernel
theorem dX9_marks_59 : decode cX9_marks 59 = .ok (.invokestatic 117, 3) := by decide +kernel
theorem dX9_marks_62 : decode cX9_marks 62 = .ok (.ifCond .eq 36, 3) := by decide +kernel
theorem dX9_marks_65 : decode cX9_marks 65 = .ok (.aload_n 0, 1) := by decide +kernel
theorem dX9_marks_66 : decode cX9_marks 66 = .ok (.getfield 124, 3) := by decide +kernel
theorem dX9_marks_69 : decode cX9_marks 69 = .ok (.iconst 1, 1) := by decide +kernel
theorem dX9_marks_70 : decode cX9_marks 70 = .ok (.iadd, 1) := by decide +kernel
theorem dX9_marks_71 : decode cX9_marks 71 = .ok (.aload_n 0, 1) := by decide +kernel
theorem dX9_marks_72 : decode cX9_marks 72 = .ok (.getfield 121, 3) := by decide +kernel
theorem dX9_marks_75 : decode cX9_marks 75 = .ok (.if_icmp .ge 23, 3) := by decide +kernel
theorem dX9_marks_78 : decode cX9_marks 78 = .ok (.aload_n 0, 1) := by decide +kernel
theorem dX9_marks_79 : decode cX9_marks 79 = .ok (.getfield 13, 3) := by decide +kernel
theorem dX9_marks_82 : decode cX9_marks 82 = .ok (.aload_n 0, 1) := by decide +kernel
theorem dX9_marks_83 : decode cX9_marks 83 = .ok (.getfield 124, 3) := by decide +kernel
theorem dX9_marks_86 : decode cX9_marks 86 = .ok (.iconst 1, 1) := by decide +kernel
theorem dX9_marks_87 : decode cX9_marks 87 = .ok (.iadd, 1) := by decide +kernel
theorem dX9_marks_88 : decode cX9_marks 88 = .ok (.iaload, 1) := by decide +kernel
theorem dX9_marks_89 : decode cX9_marks 89 = .ok (.bipush 58, 2) := by decide +kernel
theorem dX9_marks_91 : decode cX9_marks 91 = .ok (.if_icmp .ne 7, 3) := by decide +kernel
theorem dX9_marks_94 : decode cX9_marks 94 = .ok (.iconst 1, 1) := by decide +kernel
theorem dX9_marks_95 : decode cX9_marks 95 = .ok (.goto 4, 3) := by decide +kernel
theorem dX9_marks_98 : decode cX9_marks 98 = .ok (.iconst 0, 1) := by decide +kernel
theorem dX9_marks_99 : decode cX9_marks 99 = .ok (.istore_n 2, 1) := by decide +kernel
theorem dX9_marks_100 : decode cX9_marks 100 = .ok (.iload_n 2, 1) := by decide +kernel
theorem dX9_marks_101 : decode cX9_marks 101 = .ok (.ifCond .eq 26, 3) := by decide +kernel
theorem dX9_marks_104 : decode cX9_marks 104 = .ok (.aload_n 0, 1) := by decide +kernel
theorem dX9_marks_105 : decode cX9_marks 105 = .ok (.getfield 26, 3) := by decide +kernel
theorem dX9_marks_108 : decode cX9_marks 108 = .ok (.iload_n 1, 1) := by decide +kernel
theorem dX9_marks_109 : decode cX9_marks 109 = .ok (.aload_n 0, 1) := by decide +kernel
theorem dX9_marks_110 : decode cX9_marks 110 = .ok (.invokevirtual 134, 3) := by decide +kernel
theorem dX9_marks_113 : decode cX9_marks 113 = .ok (.bipush 97, 2) := by decide +kernel
theorem dX9_marks_115 : decode cX9_marks 115 = .ok (.isub, 1) := by decide +kernel
theorem dX9_marks_116 : decode cX9_marks 116 = .ok (.iastore, 1) := by decide +kernel
theorem dX9_marks_117 : decode cX9_marks 117 = .ok (.aload_n 0, 1) := by decide +kernel
theorem dX9_marks_118 : decode cX9_marks 118 = .ok (.dup, 1) := by decide +kernel
theorem dX9_marks_119 : decode cX9_marks 119 = .ok (.getfield 124, 3) := by decide +kernel
theorem dX9_marks_122 : decode cX9_marks 122 = .ok (.iconst 2, 1) := by decide +kernel
theorem dX9_marks_123 : decode cX9_marks 123 = .ok (.iadd, 1) := by decide +kernel
theorem dX9_marks_124 : decode cX9_marks 124 = .ok (.putfield 124, 3) := by decide +kernel
theorem dX9_marks_127 : decode cX9_marks 127 = .ok (.return_, 1) := by decide +kernel
theorem dX9_core_0 : decode cX9_core 0 = .ok (.aload_n 0, 1) := by decide +kernel
theorem dX9_core_1 : decode cX9_core 1 = .ok (.invokevirtual 134, 3) := by decide +kernel
theorem dX9_core_4 : decode cX9_core 4 = .ok (.istore_n 3, 1) := by decide +kernel
theorem dX9_core_5 : decode cX9_core 5 = .ok (.iload_n 3, 1) := by decide +kernel
theorem dX9_core_6 : decode cX9_core 6 = .ok (.bipush 40, 2) := by decide +kernel
theorem dX9_core_8 : decode cX9_core 8 = .ok (.if_icmp .ne 61, 3) := by decide +kernel
theorem dX9_core_11 : decode cX9_core 11 = .ok (.iload_n 2, 1) := by decide +kernel
theorem dX9_core_12 : decode cX9_core 12 = .ok (.iconst 5, 1) := by decide +kernel
theorem dX9_core_13 : decode cX9_core 13 = .ok (.if_icmp .ge 16, 3) := by decide +kernel
theorem dX9_core_16 : decode cX9_core 16 = .ok (.aload_n 0, 1) := by decide +kernel
theorem dX9_core_17 : decode cX9_core 17 = .ok (.getfield 131, 3) := by decide +kernel
theorem dX9_core_20 : decode cX9_core 20 = .ok (.bipush 25, 2) := by decide +kernel
theorem dX9_core_22 : decode cX9_core 22 = .ok (.if_icmp .ge 7, 3) := by decide +kernel
theorem dX9_core_25 : decode cX9_core 25 = .ok (.iconst 1, 1) := by decide +kernel
theorem dX9_core_26 : decode cX9_core 26 = .ok (.goto 4, 3) := by decide +kernel
theorem dX9_core_29 : decode cX9_core 29 = .ok (.iconst 0, 1) := by decide +kernel
theorem dX9_core_30 : decode cX9_core 30 = .ok (.istore 4, 2) := by decide +kernel
theorem dX9_core_32 : decode cX9_core 32 = .ok (.aload_n 0, 1) := by decide +kernel
theorem dX9_core_33 : decode cX9_core 33 = .ok (.dup, 1) := by decide +kernel
theorem dX9_core_34 : decode cX9_core 34 = .ok (.getfield 124, 3) := by decide +kernel
theorem dX9_core_37 : decode cX9_core 37 = .ok (.iload 4, 2) := by decide +kernel
theorem dX9_core_39 : decode cX9_core 39 = .ok (.ifCond .eq 7, 3) := by decide +kernel
theorem dX9_core_42 : decode cX9_core 42 = .ok (.iconst 1, 1) := by decide +kernel
theorem dX9_core_43 : decode cX9_core 43 = .ok (.goto 4, 3) := by decide +kernel
theorem dX9_core_46 : decode cX9_core 46 = .ok (.iconst 0, 1) := by decide +kernel
theorem dX9_core_47 : decode cX9_core 47 = .ok (.iadd, 1) := by decide +kernel
theorem dX9_core_48 : decode cX9_core 48 = .ok (.putfield 124, 3) := by decide +kernel
theorem dX9_core_51 : decode cX9_core 51 = .ok (.iload 4, 2) := by decide +kernel
theorem dX9_core_53 : decode cX9_core 53 = .ok (.ifCond .ne 10, 3) := by decide +kernel
theorem dX9_core_56 : decode cX9_core 56 = .ok (.aload_n 0, 1) := by decide +kernel
theorem dX9_core_57 : decode cX9_core 57 = .ok (.invokevirtual 142, 3) := by decide +kernel
theorem dX9_core_60 : decode cX9_core 60 = .ok (.ifCond .eq 7, 3) := by decide +kernel
theorem dX9_core_63 : decode cX9_core 63 = .ok (.iconst 1, 1) := by decide +kernel
theorem dX9_core_64 : decode cX9_core 64 = .ok (.goto 4, 3) := by decide +kernel
theorem dX9_core_67 : decode cX9_core 67 = .ok (.iconst 0, 1) := by decide +kernel
theorem dX9_core_68 : decode cX9_core 68 = .ok (.ireturn, 1) := by decide +kernel
theorem dX9_core_69 : decode cX9_core 69 = .ok (.iload_n 3, 1) := by decide +kernel
theorem dX9_core_70 : decode cX9_core 70 = .ok (.invokestatic 138, 3) := by decide +kernel
theorem dX9_core_73 : decode cX9_core 73 = .ok (.ifCond .ne 15, 3) := by decide +kernel
theorem dX9_core_76 : decode cX9_core 76 = .ok (.iload_n 3, 1) := by decide +kernel
theorem dX9_core_77 : decode cX9_core 77 = .ok (.bipush 63, 2) := by decide +kernel
theorem dX9_core_79 : decode cX9_core 79 = .ok (.if_icmp .eq 9, 3) := by decide +kernel
theorem dX9_core_82 : decode cX9_core 82 = .ok (.iload_n 3, 1) := by decide +kernel
theorem dX9_core_83 : decode cX9_core 83 = .ok (.bipush 42, 2) := by decide +kernel
theorem dX9_core_85 : decode cX9_core 85 = .ok (.if_icmp .ne 11, 3) := by decide +kernel
theorem dX9_core_88 : decode cX9_core 88 = .ok (.aload_n 0, 1) := by decide +kernel
theorem dX9_core_89 : decode cX9_core 89 = .ok (.iload_n 1, 1) := by decide +kernel
theorem dX9_core_90 : decode cX9_core 90 = .ok (.invokevirtual 161, 3) := by decide +kernel
theorem dX9_core_93 : decode cX9_core 93 = .ok (.goto 41, 3) := by decide +kernel
theorem dX9_core_96 : decode cX9_core 96 = .ok (.iload_n 3, 1) := by decide +kernel
theorem dX9_core_97 : decode cX9_core 97 = .ok (.bipush 34, 2) := by decide +kernel
theorem dX9_core_99 : decode cX9_core 99 = .ok (.if_icmp .ne 11, 3) := by decide +kernel
theorem dX9_core_102 : decode cX9_core 102 = .ok (.aload_n 0, 1) := by decide +kernel
theorem dX9_core_103 : decode cX9_core 103 = .ok (.iload_n 1, 1) := by decide +kernel
theorem dX9_core_104 : decode cX9_core 104 = .ok (.invokevirtual 164, 3) := by decide +kernel
theorem dX9_core_107 : decode cX9_core 107 = .ok (.goto 27, 3) := by decide +kernel
theorem dX9_core_110 : decode cX9_core 110 = .ok (.iload_n 3, 1) := by decide +kernel
theorem dX9_core_111 : decode cX9_core 111 = .ok (.bipush 91, 2) := by decide +kernel
theorem dX9_core_113 : decode cX9_core 113 = .ok (.if_icmp .eq 9, 3) := by decide +kernel
theorem dX9_core_116 : decode cX9_core 116 = .ok (.iload_n 3, 1) := by decide +kernel
theorem dX9_core_117 : decode cX9_core 117 = .ok (.bipush 123, 2) := by decide +kernel
theorem dX9_core_119 : decode cX9_core 119 = .ok (.if_icmp .ne 11, 3) := by decide +kernel
theorem dX9_core_122 : decode cX9_core 122 = .ok (.aload_n 0, 1) := by decide +kernel
theorem dX9_core_123 : decode cX9_core 123 = .ok (.iload_n 1, 1) := by decide +kernel
theorem dX9_core_124 : decode cX9_core 124 = .ok (.invokevirtual 167, 3) := by decide +kernel
theorem dX9_core_127 : decode cX9_core 127 = .ok (.goto 7, 3) := by decide +kernel
theorem dX9_core_130 : decode cX9_core 130 = .ok (.aload_n 0, 1) := by decide +kernel
theorem dX9_core_131 : decode cX9_core 131 = .ok (.invokevirtual 142, 3) := by decide +kernel
theorem dX9_core_134 : decode cX9_core 134 = .ok (.istore 4, 2) := by decide +kernel
theorem dX9_core_136 : decode cX9_core 136 = .ok (.iload 4, 2) := by decide +kernel
theorem dX9_core_138 : decode cX9_core 138 = .ok (.ifCond .eq 15, 3) := by decide +kernel
theorem dX9_core_141 : decode cX9_core 141 = .ok (.aload_n 0, 1) := by decide +kernel
theorem dX9_core_142 : decode cX9_core 142 = .ok (.iload_n 1, 1) := by decide +kernel
theorem dX9_core_143 : decode cX9_core 143 = .ok (.invokevirtual 170, 3) := by decide +kernel
theorem dX9_core_146 : decode cX9_core 146 = .ok (.ifCond .eq 7, 3) := by decide +kernel
theorem dX9_core_149 : decode cX9_core 149 = .ok (.iconst 1, 1) := by decide +kernel
theorem dX9_core_150 : decode cX9_core 150 = .ok (.goto 4, 3) := by decide +kernel
theorem dX9_core_153 : decode cX9_core 153 = .ok (.iconst 0, 1) := by decide +kernel
theorem dX9_core_154 : decode cX9_core 154 = .ok (.ireturn, 1) := by decide +kernel
theorem dX9_goAlong_0 : decode cX9_goAlong 0 = .ok (.aload_n 0, 1) := by decide +kernel
theorem dX9_goAlong_1 : decode cX9_goAlong 1 = .ok (.iconst 0, 1) := by decide +kernel
theorem dX9_goAlong_2 : decode cX9_goAlong 2 = .ok (.putfield 124, 3) := by decide +kernel
theorem dX9_goAlong_5 : decode cX9_goAlong 5 = .ok (.aload_n 0, 1) := by decide +kernel
theorem dX9_goAlong_6 : decode cX9_goAlong 6 = .ok (.iconst 0, 1) := by decide +kernel
theorem dX9_goAlong_7 : decode cX9_goAlong 7 = .ok (.putfield 127, 3) := by decide +kernel
theorem dX9_goAlong_10 : decode cX9_goAlong 10 = .ok (.aload_n 0, 1) := by decide +kernel
theorem dX9_goAlong_11 : decode cX9_goAlong 11 = .ok (.iconst 0, 1) := by decide +kernel
theorem dX9_goAlong_12 : decode cX9_goAlong 12 = .ok (.putfield 131, 3) := by decide +kernel
theorem dX9_goAlong_15 : decode cX9_goAlong 15 = .ok (.aload_n 0, 1) := by decide +kernel
theorem dX9_goAlong_16 : decode cX9_goAlong 16 = .ok (.iconst (-1), 1) := by decide +kernel
theorem dX9_goAlong_17 : decode cX9_goAlong 17 = .ok (.invokevirtual 173, 3) := by decide +kernel
theorem dX9_goAlong_20 : decode cX9_goAlong 20 = .ok (.istore_n 1, 1) := by decide +kernel
theorem dX9_goAlong_21 : decode cX9_goAlong 21 = .ok (.iconst 0, 1) := by decide +kernel
theorem dX9_goAlong_22 : decode cX9_goAlong 22 = .ok (.istore_n 2, 1) := by decide +kernel
theorem dX9_goAlong_23 : decode cX9_goAlong 23 = .ok (.aload_n 0, 1) := by decide +kernel
theorem dX9_goAlong_24 : decode cX9_goAlong 24 = .ok (.getfield 127, 3) := by decide +kernel
theorem dX9_goAlong_27 : decode cX9_goAlong 27 = .ok (.ifCond .ne 308, 3) := by decide +kernel
theorem dX9_goAlong_30 : decode cX9_goAlong 30 = .ok (.aload_n 0, 1) := by decide +kernel
theorem dX9_goAlong_31 : decode cX9_goAlong 31 = .ok (.invokevirtual 134, 3) := by decide +kernel
theorem dX9_goAlong_34 : decode cX9_goAlong 34 = .ok (.bipush 32, 2) := by decide +kernel
theorem dX9_goAlong_36 : decode cX9_goAlong 36 = .ok (.if_icmp .ne 16, 3) := by decide +kernel
theorem dX9_goAlong_39 : decode cX9_goAlong 39 = .ok (.aload_n 0, 1) := by decide +kernel
theorem dX9_goAlong_40 : decode cX9_goAlong 40 = .ok (.dup, 1) := by decide +kernel
theorem dX9_goAlong_41 : decode cX9_goAlong 41 = .ok (.getfield 124, 3) := by decide +kernel
theorem dX9_goAlong_44 : decode cX9_goAlong 44 = .ok (.iconst 1, 1) := by decide +kernel
theorem dX9_goAlong_45 : decode cX9_goAlong 45 = .ok (.iadd, 1) := by decide +kernel
theorem dX9_goAlong_46 : decode cX9_goAlong 46 = .ok (.putfield 124, 3) := by decide +kernel
theorem dX9_goAlong_49 : decode cX9_goAlong 49 = .ok (.goto (-19), 3) := by decide +kernel
theorem dX9_goAlong_52 : decode cX9_goAlong 52 = .ok (.aload_n 0, 1) := by decide +kernel
theorem dX9_goAlong_53 : decode cX9_goAlong 53 = .ok (.invokevirtual 134, 3) := by decide +kernel
theorem dX9_goAlong_56 : decode cX9_goAlong 56 = .ok (.iconst (-1), 1) := by decide +kernel
theorem dX9_goAlong_57 : decode cX9_goAlong 57 = .ok (.if_icmp .ne 25, 3) := by decide +kernel
theorem dX9_goAlong_60 : decode cX9_goAlong 60 = .ok (.iload_n 2, 1) := by decide +kernel
theorem dX9_goAlong_61 : decode cX9_goAlong 61 = .ok (.ifCond .gt 12, 3) := by decide +kernel
theorem dX9_goAlong_64 : decode cX9_goAlong 64 = .ok (.aload_n 0, 1) := by decide +kernel
theorem dX9_goAlong_65 : decode cX9_goAlong 65 = .ok (.getfield 35, 3) := by decide +kernel
theorem dX9_goAlong_68 : decode cX9_goAlong 68 = .ok (.iconst 0, 1) := by decide +kernel
theorem dX9_goAlong_69 : decode cX9_goAlong 69 = .ok (.iaload, 1) := by decide +kernel
theorem dX9_goAlong_70 : decode cX9_goAlong 70 = .ok (.ifCond .ne 10, 3) := by decide +kernel
theorem dX9_goAlong_73 : decode cX9_goAlong 73 = .ok (.aload_n 0, 1) := by decide +kernel
theorem dX9_goAlong_74 : decode cX9_goAlong 74 = .ok (.getfield 121, 3) := by decide +kernel
theorem dX9_goAlong_77 : decode cX9_goAlong 77 = .ok (.goto 4, 3) := by decide +kernel
theorem dX9_goAlong_80 : decode cX9_goAlong 80 = .ok (.iconst (-1), 1) := by decide +kernel
theorem dX9_goAlong_81 : decode cX9_goAlong 81 = .ok (.ireturn, 1) := by decide +kernel
theorem dX9_goAlong_82 : decode cX9_goAlong 82 = .ok (.aload_n 0, 1) := by decide +kernel
theorem dX9_goAlong_83 : decode cX9_goAlong 83 = .ok (.invokevirtual 134, 3) := by decide +kernel
theorem dX9_goAlong_86 : decode cX9_goAlong 86 = .ok (.bipush 41, 2) := by decide +kernel
theorem dX9_goAlong_88 : decode cX9_goAlong 88 = .ok (.if_icmp .ne 74, 3) := by decide +kernel
theorem dX9_goAlong_91 : decode cX9_goAlong 91 = .ok (.iload_n 2, 1) := by decide +kernel
theorem dX9_goAlong_92 : decode cX9_goAlong 92 = .ok (.ifCond .eq 12, 3) := by decide +kernel
theorem dX9_goAlong_95 : decode cX9_goAlong 95 = .ok (.aload_n 0, 1) := by decide +kernel
theorem dX9_goAlong_96 : decode cX9_goAlong 96 = .ok (.getfield 35, 3) := by decide +kernel
theorem dX9_goAlong_99 : decode cX9_goAlong 99 = .ok (.iload_n 1, 1) := by decide +kernel
theorem dX9_goAlong_100 : decode cX9_goAlong 100 = .ok (.iaload, 1) := by decide +kernel
theorem dX9_goAlong_101 : decode cX9_goAlong 101 = .ok (.ifCond .ne 8, 3) := by decide +kernel
theorem dX9_goAlong_104 : decode cX9_goAlong 104 = .ok (.aload_n 0, 1) := by decide +kernel
theorem dX9_goAlong_105 : decode cX9_goAlong 105 = .ok (.getfield 124, 3) := by decide +kernel
theorem dX9_goAlong_108 : decode cX9_goAlong 108 = .ok (.ireturn, 1) := by decide +kernel
theorem dX9_goAlong_109 : decode cX9_goAlong 109 = .ok (.aload_n 0, 1) := by decide +kernel
theorem dX9_goAlong_110 : decode cX9_goAlong 110 = .ok (.dup, 1) := by decide +kernel
theorem dX9_goAlong_111 : decode cX9_goAlong 111 = .ok (.getfield 124, 3) := by decide +kernel
theorem dX9_goAlong_114 : decode cX9_goAlong 114 = .ok (.iconst 1, 1) := by decide +kernel
theorem dX9_goAlong_115 : decode cX9_goAlong 115 = .ok (.iadd, 1) := by decide +kernel
theorem dX9_goAlong_116 : decode cX9_goAlong 116 = .ok (.putfield 124, 3) := by decide +kernel
theorem dX9_goAlong_119 : decode cX9_goAlong 119 = .ok (.iinc 2 (-1), 3) := by decide +kernel
theorem dX9_goAlong_122 : decode cX9_goAlong 122 = .ok (.iload_n 1, 1) := by decide +kernel
theorem dX9_goAlong_123 : decode cX9_goAlong 123 = .ok (.istore_n 3, 1) := by decide +kernel
theorem dX9_goAlong_124 : decode cX9_goAlong 124 = .ok (.aload_n 0, 1) := by decide +kernel
theorem dX9_goAlong_125 : decode cX9_goAlong 125 = .ok (.getfield 32, 3) := by decide +kernel
theorem dX9_goAlong_128 : decode cX9_goAlong 128 = .ok (.iload_n 3, 1) := by decide +kernel
theorem dX9_goAlong_129 : decode cX9_goAlong 129 = .ok (.iaload, 1) := by decide +kernel
theorem dX9_goAlong_130 : decode cX9_goAlong 130 = .ok (.istore_n 1, 1) := by decide +kernel
theorem dX9_goAlong_131 : decode cX9_goAlong 131 = .ok (.aload_n 0, 1) := by decide +kernel
theorem dX9_goAlong_132 : decode cX9_goAlong 132 = .ok (.iload_n 3, 1) := by decide +kernel
theorem dX9_goAlong_133 : decode cX9_goAlong 133 = .ok (.bipush 64, 2) := by decide +kernel
theorem dX9_goAlong_135 : decode cX9_goAlong 135 = .ok (.iconst 1, 1) := by decide +kernel
theorem dX9_goAlong_136 : decode cX9_goAlong 136 = .ok (.bipush 9, 2) := by decide +kernel
theorem dX9_goAlong_138 : decode cX9_goAlong 138 = .ok (.invokevirtual 150, 3) := by decide +kernel
theorem dX9_goAlong_141 : decode cX9_goAlong 141 = .ok (.ifCond .eq 15, 3) := by decide +kernel
theorem dX9_goAlong_144 : decode cX9_goAlong 144 = .ok (.aload_n 0, 1) := by decide +kernel
theorem dX9_goAlong_145 : decode cX9_goAlong 145 = .ok (.iload_n 3, 1) := by decide +kernel
theorem dX9_goAlong_146 : decode cX9_goAlong 146 = .ok (.invokevirtual 170, 3) := by decide +kernel
theorem dX9_goAlong_149 : decode cX9_goAlong 149 = .ok (.ifCond .eq 7, 3) := by decide +kernel
theorem dX9_goAlong_152 : decode cX9_goAlong 152 = .ok (.iconst 1, 1) := by decide +kernel
theorem dX9_goAlong_153 : decode cX9_goAlong 153 = .ok (.goto 4, 3) := by decide +kernel
theorem dX9_goAlong_156 : decode cX9_goAlong 156 = .ok (.iconst 0, 1) := by decide +kernel
theorem dX9_goAlong_157 : decode cX9_goAlong 157 = .ok (.istore 4, 2) := by decide +kernel
theorem dX9_goAlong_159 : decode cX9_goAlong 159 = .ok (.goto (-136), 3) := by decide +kernel
theorem dX9_goAlong_162 : decode cX9_goAlong 162 = .ok (.aload_n 0, 1) := by decide +kernel
theorem dX9_goAlong_163 : decode cX9_goAlong 163 = .ok (.invokevirtual 134, 3) := by decide +kernel
theorem dX9_goAlong_166 : decode cX9_goAlong 166 = .ok (.bipush 43, 2) := by decide +kernel
theorem dX9_goAlong_168 : decode cX9_goAlong 168 = .ok (.if_icmp .eq 76, 3) := by decide +kernel
theorem dX9_goAlong_171 : decode cX9_goAlong 171 = .ok (.aload_n 0, 1) := by decide +kernel
theorem dX9_goAlong_172 : decode cX9_goAlong 172 = .ok (.invokevirtual 134, 3) := by decide +kernel
theorem dX9_goAlong_175 : decode cX9_goAlong 175 = .ok (.bipush 45, 2) := by decide +kernel
theorem dX9_goAlong_177 : decode cX9_goAlong 177 = .ok (.if_icmp .eq 67, 3) := by decide +kernel
theorem dX9_goAlong_180 : decode cX9_goAlong 180 = .ok (.aload_n 0, 1) := by decide +kernel
theorem dX9_goAlong_181 : decode cX9_goAlong 181 = .ok (.invokevirtual 134, 3) := by decide +kernel
theorem dX9_goAlong_184 : decode cX9_goAlong 184 = .ok (.bipush 34, 2) := by decide +kernel
theorem dX9_goAlong_186 : decode cX9_goAlong 186 = .ok (.if_icmp .eq 58, 3) := by decide +kernel
theorem dX9_goAlong_189 : decode cX9_goAlong 189 = .ok (.aload_n 0, 1) := by decide +kernel
theorem dX9_goAlong_190 : decode cX9_goAlong 190 = .ok (.invokevirtual 134, 3) := by decide +kernel
theorem dX9_goAlong_193 : decode cX9_goAlong 193 = .ok (.bipush 91, 2) := by decide +kernel
theorem dX9_goAlong_195 : decode cX9_goAlong 195 = .ok (.if_icmp .eq 49, 3) := by decide +kernel
theorem dX9_goAlong_198 : decode cX9_goAlong 198 = .ok (.aload_n 0, 1) := by decide +kernel
theorem dX9_goAlong_199 : decode cX9_goAlong 199 = .ok (.invokevirtual 134, 3) := by decide +kernel
theorem dX9_goAlong_202 : decode cX9_goAlong 202 = .ok (.bipush 123, 2) := by decide +kernel
theorem dX9_goAlong_204 : decode cX9_goAlong 204 = .ok (.if_icmp .eq 40, 3) := by decide +kernel
theorem dX9_goAlong_207 : decode cX9_goAlong 207 = .ok (.aload_n 0, 1) := by decide +kernel
theorem dX9_goAlong_208 : decode cX9_goAlong 208 = .ok (.invokevirtual 134, 3) := by decide +kernel
theorem dX9_goAlong_211 : decode cX9_goAlong 211 = .ok (.bipush 40, 2) := by decide +kernel
theorem dX9_goAlong_213 : decode cX9_goAlong 213 = .ok (.if_icmp .eq 31, 3) := by decide +kernel
theorem dX9_goAlong_216 : decode cX9_goAlong 216 = .ok (.aload_n 0, 1) := by decide +kernel
theorem dX9_goAlong_217 : decode cX9_goAlong 217 = .ok (.invokevirtual 134, 3) := by decide +kernel
theorem dX9_goAlong_220 : decode cX9_goAlong 220 = .ok (.bipush 63, 2) := by decide +kernel
theorem dX9_goAlong_222 : decode cX9_goAlong 222 = .ok (.if_icmp .eq 22, 3) := by decide +kernel
theorem dX9_goAlong_225 : decode cX9_goAlong 225 = .ok (.aload_n 0, 1) := by decide +kernel
theorem dX9_goAlong_226 : decode cX9_goAlong 226 = .ok (.invokevirtual 134, 3) := by decide +kernel
theorem dX9_goAlong_229 : decode cX9_goAlong 229 = .ok (.bipush 42, 2) := by decide +kernel
theorem dX9_goAlong_231 : decode cX9_goAlong 231 = .ok (.if_icmp .eq 13, 3) := by decide +kernel
theorem dX9_goAlong_234 : decode cX9_goAlong 234 = .ok (.aload_n 0, 1) := by decide +kernel
theorem dX9_goAlong_235 : decode cX9_goAlong 235 = .ok (.invokevirtual 134, 3) := by decide +kernel
theorem dX9_goAlong_238 : decode cX9_goAlong 238 = .ok (.invokestatic 138, 3) := by decide +kernel
theorem dX9_goAlong_241 : decode cX9_goAlong 241 = .ok (.ifCond .eq 7, 3) := by decide +kernel
theorem dX9_goAlong_244 : decode cX9_goAlong 244 = .ok (.iconst 1, 1) := by decide +kernel
theorem dX9_goAlong_245 : decode cX9_goAlong 245 = .ok (.goto 4, 3) := by decide +kernel
theorem dX9_goAlong_248 : decode cX9_goAlong 248 = .ok (.iconst 0, 1) := by decide +kernel
theorem dX9_goAlong_249 : decode cX9_goAlong 249 = .ok (.istore_n 3, 1) := by decide +kernel
theorem dX9_goAlong_250 : decode cX9_goAlong 250 = .ok (.aload_n 0, 1) := by decide +kernel
theorem dX9_goAlong_251 : decode cX9_goAlong 251 = .ok (.getfield 131, 3) := by decide +kernel
theorem dX9_goAlong_254 : decode cX9_goAlong 254 = .ok (.bipush 25, 2) := by decide +kernel
theorem dX9_goAlong_256 : decode cX9_goAlong 256 = .ok (.if_icmp .eq 7, 3) := by decide +kernel
theorem dX9_goAlong_259 : decode cX9_goAlong 259 = .ok (.iload_n 3, 1) := by decide +kernel
theorem dX9_goAlong_260 : decode cX9_goAlong 260 = .ok (.ifCond .ne 8, 3) := by decide +kernel
theorem dX9_goAlong_263 : decode cX9_goAlong 263 = .ok (.aload_n 0, 1) := by decide +kernel
theorem dX9_goAlong_264 : decode cX9_goAlong 264 = .ok (.getfield 124, 3) := by decide +kernel
theorem dX9_goAlong_267 : decode cX9_goAlong 267 = .ok (.ireturn, 1) := by decide +kernel
theorem dX9_goAlong_268 : decode cX9_goAlong 268 = .ok (.aload_n 0, 1) := by decide +kernel
theorem dX9_goAlong_269 : decode cX9_goAlong 269 = .ok (.iload_n 1, 1) := by decide +kernel
theorem dX9_goAlong_270 : decode cX9_goAlong 270 = .ok (.invokevirtual 173, 3) := by decide +kernel
theorem dX9_goAlong_273 : decode cX9_goAlong 273 = .ok (.istore 4, 2) := by decide +kernel
theorem dX9_goAlong_275 : decode cX9_goAlong 275 = .ok (.aload_n 0, 1) := by decide +kernel
theorem dX9_goAlong_276 : decode cX9_goAlong 276 = .ok (.getfield 35, 3) := by decide +kernel
theorem dX9_goAlong_279 : decode cX9_goAlong 279 = .ok (.iload_n 1, 1) := by decide +kernel
theorem dX9_goAlong_280 : decode cX9_goAlong 280 = .ok (.dup2, 1) := by decide +kernel
theorem dX9_goAlong_281 : decode cX9_goAlong 281 = .ok (.iaload, 1) := by decide +kernel
theorem dX9_goAlong_282 : decode cX9_goAlong 282 = .ok (.iconst 1, 1) := by decide +kernel
theorem dX9_goAlong_283 : decode cX9_goAlong 283 = .ok (.iadd, 1) := by decide +kernel
theorem dX9_goAlong_284 : decode cX9_goAlong 284 = .ok (.iastore, 1) := by decide +kernel
theorem dX9_goAlong_285 : decode cX9_goAlong 285 = .ok (.aload_n 0, 1) := by decide +kernel
theorem dX9_goAlong_286 : decode cX9_goAlong 286 = .ok (.iload 4, 2) := by decide +kernel
theorem dX9_goAlong_288 : decode cX9_goAlong 288 = .ok (.invokevirtual 177, 3) := by decide +kernel
theorem dX9_goAlong_291 : decode cX9_goAlong 291 = .ok (.aload_n 0, 1) := by decide +kernel
theorem dX9_goAlong_292 : decode cX9_goAlong 292 = .ok (.invokevirtual 134, 3) := by decide +kernel
theorem dX9_goAlong_295 : decode cX9_goAlong 295 = .ok (.bipush 40, 2) := by decide +kernel
theorem dX9_goAlong_297 : decode cX9_goAlong 297 = .ok (.if_icmp .ne 7, 3) := by decide +kernel
theorem dX9_goAlong_300 : decode cX9_goAlong 300 = .ok (.iconst 1, 1) := by decide +kernel
theorem dX9_goAlong_301 : decode cX9_goAlong 301 = .ok (.goto 4, 3) := by decide +kernel
theorem dX9_goAlong_304 : decode cX9_goAlong 304 = .ok (.iconst 0, 1) := by decide +kernel
theorem dX9_goAlong_305 : decode cX9_goAlong 305 = .ok (.istore 5, 2) := by decide +kernel
theorem dX9_goAlong_307 : decode cX9_goAlong 307 = .ok (.aload_n 0, 1) := by decide +kernel
theorem dX9_goAlong_308 : decode cX9_goAlong 308 = .ok (.iload 4, 2) := by decide +kernel
theorem dX9_goAlong_310 : decode cX9_goAlong 310 = .ok (.iload_n 2, 1) := by decide +kernel
theorem dX9_goAlong_311 : decode cX9_goAlong 311 = .ok (.invokevirtual 181, 3) := by decide +kernel
theorem dX9_goAlong_314 : decode cX9_goAlong 314 = .ok (.istore 6, 2) := by decide +kernel
theorem dX9_goAlong_316 : decode cX9_goAlong 316 = .ok (.iload 6, 2) := by decide +kernel
theorem dX9_goAlong_318 : decode cX9_goAlong 318 = .ok (.ifCond .eq 14, 3) := by decide +kernel
theorem dX9_goAlong_321 : decode cX9_goAlong 321 = .ok (.iload 5, 2) := by decide +kernel
theorem dX9_goAlong_323 : decode cX9_goAlong 323 = .ok (.ifCond .eq 9, 3) := by decide +kernel
theorem dX9_goAlong_326 : decode cX9_goAlong 326 = .ok (.iload 4, 2) := by decide +kernel
theorem dX9_goAlong_328 : decode cX9_goAlong 328 = .ok (.istore_n 1, 1) := by decide +kernel
theorem dX9_goAlong_329 : decode cX9_goAlong 329 = .ok (.iinc 2 1, 3) := by decide +kernel
theorem dX9_goAlong_332 : decode cX9_goAlong 332 = .ok (.goto (-309), 3) := by decide +kernel
theorem dX9_goAlong_335 : decode cX9_goAlong 335 = .ok (.aload_n 0, 1) := by decide +kernel
theorem dX9_goAlong_336 : decode cX9_goAlong 336 = .ok (.getfield 124, 3) := by decide +kernel
theorem dX9_goAlong_339 : decode cX9_goAlong 339 = .ok (.ireturn, 1) := by decide +kernel
theorem dX9_become_0 : decode cX9_become 0 = .ok (.aload_n 0, 1) := by decide +kernel
theorem dX9_become_1 : decode cX9_become 1 = .ok (.aload_n 0, 1) := by decide +kernel
theorem dX9_become_2 : decode cX9_become 2 = .ok (.getfield 131, 3) := by decide +kernel
theorem dX9_become_5 : decode cX9_become 5 = .ok (.putfield 112, 3) := by decide +kernel
theorem dX9_become_8 : decode cX9_become 8 = .ok (.iconst 0, 1) := by decide +kernel
theorem dX9_become_9 : decode cX9_become 9 = .ok (.istore_n 1, 1) := by decide +kernel
theorem dX9_become_10 : decode cX9_become 10 = .ok (.iload_n 1, 1) := by decide +kernel
theorem dX9_become_11 : decode cX9_become 11 = .ok (.aload_n 0, 1) := by decide +kernel
theorem dX9_become_12 : decode cX9_become 12 = .ok (.getfield 131, 3) := by decide +kernel
theorem dX9_become_15 : decode cX9_become 15 = .ok (.if_icmp .ge 93, 3) := by decide +kernel
theorem dX9_become_18 : decode cX9_become 18 = .ok (.aload_n 0, 1) := by decide +kernel
theorem dX9_become_19 : decode cX9_become 19 = .ok (.getfield 44, 3) := by decide +kernel
theorem dX9_become_22 : decode cX9_become 22 = .ok (.iload_n 1, 1) := by decide +kernel
theorem dX9_become_23 : decode cX9_become 23 = .ok (.aload_n 0, 1) := by decide +kernel
theorem dX9_become_24 : decode cX9_become 24 = .ok (.getfield 17, 3) := by decide +kernel
theorem dX9_become_27 : decode cX9_become 27 = .ok (.iload_n 1, 1) := by decide +kernel
theorem dX9_become_28 : decode cX9_become 28 = .ok (.iaload, 1) := by decide +kernel
theorem dX9_become_29 : decode cX9_become 29 = .ok (.iastore, 1) := by decide +kernel
theorem dX9_become_30 : decode cX9_become 30 = .ok (.aload_n 0, 1) := by decide +kernel
theorem dX9_become_31 : decode cX9_become 31 = .ok (.getfield 47, 3) := by decide +kernel
theorem dX9_become_34 : decode cX9_become 34 = .ok (.iload_n 1, 1) := by decide +kernel
theorem dX9_become_35 : decode cX9_become 35 = .ok (.aload_n 0, 1) := by decide +kernel
theorem dX9_become_36 : decode cX9_become 36 = .ok (.getfield 20, 3) := by decide +kernel
theorem dX9_become_39 : decode cX9_become 39 = .ok (.iload_n 1, 1) := by decide +kernel
theorem dX9_become_40 : decode cX9_become 40 = .ok (.iaload, 1) := by decide +kernel
theorem dX9_become_41 : decode cX9_become 41 = .ok (.iastore, 1) := by decide +kernel
theorem dX9_become_42 : decode cX9_become 42 = .ok (.aload_n 0, 1) := by decide +kernel
theorem dX9_become_43 : decode cX9_become 43 = .ok (.getfield 50, 3) := by decide +kernel
theorem dX9_become_46 : decode cX9_become 46 = .ok (.iload_n 1, 1) := by decide +kernel
theorem dX9_become_47 : decode cX9_become 47 = .ok (.aload_n 0, 1) := by decide +kernel
theorem dX9_become_48 : decode cX9_become 48 = .ok (.getfield 23, 3) := by decide +kernel
theorem dX9_become_51 : decode cX9_become 51 = .ok (.iload_n 1, 1) := by decide +kernel
theorem dX9_become_52 : decode cX9_become 52 = .ok (.iaload, 1) := by decide +kernel
theorem dX9_become_53 : decode cX9_become 53 = .ok (.iastore, 1) := by decide +kernel
theorem dX9_become_54 : decode cX9_become 54 = .ok (.aload_n 0, 1) := by decide +kernel
theorem dX9_become_55 : decode cX9_become 55 = .ok (.getfield 53, 3) := by decide +kernel
theorem dX9_become_58 : decode cX9_become 58 = .ok (.iload_n 1, 1) := by decide +kernel
theorem dX9_become_59 : decode cX9_become 59 = .ok (.aload_n 0, 1) := by decide +kernel
theorem dX9_become_60 : decode cX9_become 60 = .ok (.getfield 26, 3) := by decide +kernel
theorem dX9_become_63 : decode cX9_become 63 = .ok (.iload_n 1, 1) := by decide +kernel
theorem dX9_become_64 : decode cX9_become 64 = .ok (.iaload, 1) := by decide +kernel
theorem dX9_become_65 : decode cX9_become 65 = .ok (.iastore, 1) := by decide +kernel
theorem dX9_become_66 : decode cX9_become 66 = .ok (.aload_n 0, 1) := by decide +kernel
theorem dX9_become_67 : decode cX9_become 67 = .ok (.getfield 56, 3) := by decide +kernel
theorem dX9_become_70 : decode cX9_become 70 = .ok (.iload_n 1, 1) := by decide +kernel
theorem dX9_become_71 : decode cX9_become 71 = .ok (.aload_n 0, 1) := by decide +kernel
theorem dX9_become_72 : decode cX9_become 72 = .ok (.getfield 29, 3) := by decide +kernel
theorem dX9_become_75 : decode cX9_become 75 = .ok (.iload_n 1, 1) := by decide +kernel
theorem dX9_become_76 : decode cX9_become 76 = .ok (.iaload, 1) := by decide +kernel
theorem dX9_become_77 : decode cX9_become 77 = .ok (.iastore, 1) := by decide +kernel
theorem dX9_become_78 : decode cX9_become 78 = .ok (.aload_n 0, 1) := by decide +kernel
theorem dX9_become_79 : decode cX9_become 79 = .ok (.getfield 59, 3) := by decide +kernel
theorem dX9_become_82 : decode cX9_become 82 = .ok (.iload_n 1, 1) := by decide +kernel
theorem dX9_become_83 : decode cX9_become 83 = .ok (.aload_n 0, 1) := by decide +kernel
theorem dX9_become_84 : decode cX9_become 84 = .ok (.getfield 32, 3) := by decide +kernel
theorem dX9_become_87 : decode cX9_become 87 = .ok (.iload_n 1, 1) := by decide +kernel
theorem dX9_become_88 : decode cX9_become 88 = .ok (.iaload, 1) := by decide +kernel
theorem dX9_become_89 : decode cX9_become 89 = .ok (.iastore, 1) := by decide +kernel
theorem dX9_become_90 : decode cX9_become 90 = .ok (.aload_n 0, 1) := by decide +kernel
theorem dX9_become_91 : decode cX9_become 91 = .ok (.getfield 62, 3) := by decide +kernel
theorem dX9_become_94 : decode cX9_become 94 = .ok (.iload_n 1, 1) := by decide +kernel
theorem dX9_become_95 : decode cX9_become 95 = .ok (.aload_n 0, 1) := by decide +kernel
theorem dX9_become_96 : decode cX9_become 96 = .ok (.getfield 35, 3) := by decide +kernel
theorem dX9_become_99 : decode cX9_become 99 = .ok (.iload_n 1, 1) := by decide +kernel
theorem dX9_become_100 : decode cX9_become 100 = .ok (.iaload, 1) := by decide +kernel
theorem dX9_become_101 : decode cX9_become 101 = .ok (.iastore, 1) := by decide +kernel
theorem dX9_become_102 : decode cX9_become 102 = .ok (.iinc 1 1, 3) := by decide +kernel
theorem dX9_become_105 : decode cX9_become 105 = .ok (.goto (-95), 3) := by decide +kernel
theorem dX9_become_108 : decode cX9_become 108 = .ok (.iconst 0, 1) := by decide +kernel
theorem dX9_become_109 : decode cX9_become 109 = .ok (.istore_n 1, 1) := by decide +kernel
theorem dX9_become_110 : decode cX9_become 110 = .ok (.iload_n 1, 1) := by decide +kernel
theorem dX9_become_111 : decode cX9_become 111 = .ok (.bipush 125, 2) := by decide +kernel
theorem dX9_become_113 : decode cX9_become 113 = .ok (.if_icmp .ge 21, 3) := by decide +kernel
theorem dX9_become_116 : decode cX9_become 116 = .ok (.aload_n 0, 1) := by decide +kernel
theorem dX9_become_117 : decode cX9_become 117 = .ok (.getfield 65, 3) := by decide +kernel
theorem dX9_become_120 : decode cX9_become 120 = .ok (.iload_n 1, 1) := by decide +kernel
theorem dX9_become_121 : decode cX9_become 121 = .ok (.aload_n 0, 1) := by decide +kernel
theorem dX9_become_122 : decode cX9_become 122 = .ok (.getfield 38, 3) := by decide +kernel
theorem dX9_become_125 : decode cX9_become 125 = .ok (.iload_n 1, 1) := by decide +kernel
theorem dX9_become_126 : decode cX9_become 126 = .ok (.iaload, 1) := by decide +kernel
theorem dX9_become_127 : decode cX9_become 127 = .ok (.iastore, 1) := by decide +kernel
theorem dX9_become_128 : decode cX9_become 128 = .ok (.iinc 1 1, 3) := by decide +kernel
theorem dX9_become_131 : decode cX9_become 131 = .ok (.goto (-21), 3) := by decide +kernel
theorem dX9_become_134 : decode cX9_become 134 = .ok (.iconst 0, 1) := by decide +kernel
theorem dX9_become_135 : decode cX9_become 135 = .ok (.istore_n 1, 1) := by decide +kernel
theorem dX9_become_136 : decode cX9_become 136 = .ok (.iload_n 1, 1) := by decide +kernel
theorem dX9_become_137 : decode cX9_become 137 = .ok (.sipush 1000, 3) := by decide +kernel
theorem dX9_become_140 : decode cX9_become 140 = .ok (.if_icmp .ge 21, 3) := by decide +kernel
theorem dX9_become_143 : decode cX9_become 143 = .ok (.aload_n 0, 1) := by decide +kernel
theorem dX9_become_144 : decode cX9_become 144 = .ok (.getfield 68, 3) := by decide +kernel
theorem dX9_become_147 : decode cX9_become 147 = .ok (.iload_n 1, 1) := by decide +kernel
theorem dX9_become_148 : decode cX9_become 148 = .ok (.aload_n 0, 1) := by decide +kernel
theorem dX9_become_149 : decode cX9_become 149 = .ok (.getfield 41, 3) := by decide +kernel
theorem dX9_become_152 : decode cX9_become 152 = .ok (.iload_n 1, 1) := by decide +kernel
theorem dX9_become_153 : decode cX9_become 153 = .ok (.iaload, 1) := by decide +kernel
theorem dX9_become_154 : decode cX9_become 154 = .ok (.iastore, 1) := by decide +kernel
theorem dX9_become_155 : decode cX9_become 155 = .ok (.iinc 1 1, 3) := by decide +kernel
theorem dX9_become_158 : decode cX9_become 158 = .ok (.goto (-22), 3) := by decide +kernel
theorem dX9_become_161 : decode cX9_become 161 = .ok (.return_, 1) := by decide +kernel
theorem dX9_read_0 : decode cX9_read 0 = .ok (.aload_n 0, 1) := by decide +kernel
theorem dX9_read_1 : decode cX9_read 1 = .ok (.iconst 0, 1) := by decide +kernel
theorem dX9_read_2 : decode cX9_read 2 = .ok (.putfield 1, 3) := by decide +kernel
theorem dX9_read_5 : decode cX9_read 5 = .ok (.aload_n 0, 1) := by decide +kernel
theorem dX9_read_6 : decode cX9_read 6 = .ok (.invokevirtual 184, 3) := by decide +kernel
theorem dX9_read_9 : decode cX9_read 9 = .ok (.istore_n 1, 1) := by decide +kernel
theorem dX9_read_10 : decode cX9_read 10 = .ok (.aload_n 0, 1) := by decide +kernel
theorem dX9_read_11 : decode cX9_read 11 = .ok (.iconst 0, 1) := by decide +kernel
theorem dX9_read_12 : decode cX9_read 12 = .ok (.putfield 121, 3) := by decide +kernel
theorem dX9_read_15 : decode cX9_read 15 = .ok (.iload_n 1, 1) := by decide +kernel
theorem dX9_read_16 : decode cX9_read 16 = .ok (.iconst (-1), 1) := by decide +kernel
theorem dX9_read_17 : decode cX9_read 17 = .ok (.if_icmp .eq 9, 3) := by decide +kernel
theorem dX9_read_20 : decode cX9_read 20 = .ok (.sipush (-200), 3) := by decide +kernel
theorem dX9_read_23 : decode cX9_read 23 = .ok (.iload_n 1, 1) := by decide +kernel
theorem dX9_read_24 : decode cX9_read 24 = .ok (.isub, 1) := by decide +kernel
theorem dX9_read_25 : decode cX9_read 25 = .ok (.ireturn, 1) := by decide +kernel
theorem dX9_read_26 : decode cX9_read 26 = .ok (.aload_n 0, 1) := by decide +kernel
theorem dX9_read_27 : decode cX9_read 27 = .ok (.invokevirtual 187, 3) := by decide +kernel
theorem dX9_read_30 : decode cX9_read 30 = .ok (.aload_n 0, 1) := by decide +kernel
theorem dX9_read_31 : decode cX9_read 31 = .ok (.getfield 112, 3) := by decide +kernel
theorem dX9_read_34 : decode cX9_read 34 = .ok (.ireturn, 1) := by decide +kernel
theorem dX9_lenient_0 : decode cX9_lenient 0 = .ok (.aload_n 0, 1) := by decide +kernel
theorem dX9_lenient_1 : decode cX9_lenient 1 = .ok (.iconst 0, 1) := by decide +kernel
theorem dX9_lenient_2 : decode cX9_lenient 2 = .ok (.putfield 1, 3) := by decide +kernel
theorem dX9_lenient_5 : decode cX9_lenient 5 = .ok (.aload_n 0, 1) := by decide +kernel
theorem dX9_lenient_6 : decode cX9_lenient 6 = .ok (.iconst 0, 1) := by decide +kernel
theorem dX9_lenient_7 : decode cX9_lenient 7 = .ok (.putfield 190, 3) := by decide +kernel
theorem dX9_lenient_10 : decode cX9_lenient 10 = .ok (.iconst 0, 1) := by decide +kernel
theorem dX9_lenient_11 : decode cX9_lenient 11 = .ok (.istore_n 1, 1) := by decide +kernel
theorem dX9_lenient_12 : decode cX9_lenient 12 = .ok (.iload_n 1, 1) := by decide +kernel
theorem dX9_lenient_13 : decode cX9_lenient 13 = .ok (.aload_n 0, 1) := by decide +kernel
theorem dX9_lenient_14 : decode cX9_lenient 14 = .ok (.getfield 121, 3) := by decide +kernel
theorem dX9_lenient_17 : decode cX9_lenient 17 = .ok (.if_icmp .ge 16, 3) := by decide +kernel
theorem dX9_lenient_20 : decode cX9_lenient 20 = .ok (.aload_n 0, 1) := by decide +kernel
theorem dX9_lenient_21 : decode cX9_lenient 21 = .ok (.getfield 71, 3) := by decide +kernel
theorem dX9_lenient_24 : decode cX9_lenient 24 = .ok (.iload_n 1, 1) := by decide +kernel
theorem dX9_lenient_25 : decode cX9_lenient 25 = .ok (.iload_n 1, 1) := by decide +kernel
theorem dX9_lenient_26 : decode cX9_lenient 26 = .ok (.iastore, 1) := by decide +kernel
theorem dX9_lenient_27 : decode cX9_lenient 27 = .ok (.iinc 1 1, 3) := by decide +kernel
theorem dX9_lenient_30 : decode cX9_lenient 30 = .ok (.goto (-18), 3) := by decide +kernel
theorem dX9_lenient_33 : decode cX9_lenient 33 = .ok (.aload_n 0, 1) := by decide +kernel
theorem dX9_lenient_34 : decode cX9_lenient 34 = .ok (.invokevirtual 184, 3) := by decide +kernel
theorem dX9_lenient_37 : decode cX9_lenient 37 = .ok (.istore_n 1, 1) := by decide +kernel
theorem dX9_lenient_38 : decode cX9_lenient 38 = .ok (.iload_n 1, 1) := by decide +kernel
theorem dX9_lenient_39 : decode cX9_lenient 39 = .ok (.iconst (-1), 1) := by decide +kernel
theorem dX9_lenient_40 : decode cX9_lenient 40 = .ok (.if_icmp .eq 116, 3) := by decide +kernel
theorem dX9_lenient_43 : decode cX9_lenient 43 = .ok (.aload_n 0, 1) := by decide +kernel
theorem dX9_lenient_44 : decode cX9_lenient 44 = .ok (.getfield 121, 3) := by decide +kernel
theorem dX9_lenient_47 : decode cX9_lenient 47 = .ok (.ifCond .le 109, 3) := by decide +kernel
theorem dX9_lenient_50 : decode cX9_lenient 50 = .ok (.iload_n 1, 1) := by decide +kernel
theorem dX9_lenient_51 : decode cX9_lenient 51 = .ok (.aload_n 0, 1) := by decide +kernel
theorem dX9_lenient_52 : decode cX9_lenient 52 = .ok (.getfield 121, 3) := by decide +kernel
theorem dX9_lenient_55 : decode cX9_lenient 55 = .ok (.if_icmp .ge 7, 3) := by decide +kernel
theorem dX9_lenient_58 : decode cX9_lenient 58 = .ok (.iload_n 1, 1) := by decide +kernel
theorem dX9_lenient_59 : decode cX9_lenient 59 = .ok (.goto 9, 3) := by decide +kernel
theorem dX9_lenient_62 : decode cX9_lenient 62 = .ok (.aload_n 0, 1) := by decide +kernel
theorem dX9_lenient_63 : decode cX9_lenient 63 = .ok (.getfield 121, 3) := by decide +kernel
theorem dX9_lenient_66 : decode cX9_lenient 66 = .ok (.iconst 1, 1) := by decide +kernel
theorem dX9_lenient_67 : decode cX9_lenient 67 = .ok (.isub, 1) := by decide +kernel
theorem dX9_lenient_68 : decode cX9_lenient 68 = .ok (.istore_n 2, 1) := by decide +kernel
theorem dX9_lenient_69 : decode cX9_lenient 69 = .ok (.aload_n 0, 1) := by decide +kernel
theorem dX9_lenient_70 : decode cX9_lenient 70 = .ok (.getfield 74, 3) := by decide +kernel
theorem dX9_lenient_73 : decode cX9_lenient 73 = .ok (.aload_n 0, 1) := by decide +kernel
theorem dX9_lenient_74 : decode cX9_lenient 74 = .ok (.getfield 190, 3) := by decide +kernel
theorem dX9_lenient_77 : decode cX9_lenient 77 = .ok (.aload_n 0, 1) := by decide +kernel
theorem dX9_lenient_78 : decode cX9_lenient 78 = .ok (.getfield 71, 3) := by decide +kernel
theorem dX9_lenient_81 : decode cX9_lenient 81 = .ok (.iload_n 2, 1) := by decide +kernel
theorem dX9_lenient_82 : decode cX9_lenient 82 = .ok (.iaload, 1) := by decide +kernel
theorem dX9_lenient_83 : decode cX9_lenient 83 = .ok (.iastore, 1) := by decide +kernel
theorem dX9_lenient_84 : decode cX9_lenient 84 = .ok (.aload_n 0, 1) := by decide +kernel
theorem dX9_lenient_85 : decode cX9_lenient 85 = .ok (.dup, 1) := by decide +kernel
theorem dX9_lenient_86 : decode cX9_lenient 86 = .ok (.getfield 190, 3) := by decide +kernel
theorem dX9_lenient_89 : decode cX9_lenient 89 = .ok (.iconst 1, 1) := by decide +kernel
theorem dX9_lenient_90 : decode cX9_lenient 90 = .ok (.iadd, 1) := by decide +kernel
theorem dX9_lenient_91 : decode cX9_lenient 91 = .ok (.putfield 190, 3) := by decide +kernel
theorem dX9_lenient_94 : decode cX9_lenient 94 = .ok (.aload_n 0, 1) := by decide +kernel
theorem dX9_lenient_95 : decode cX9_lenient 95 = .ok (.dup, 1) := by decide +kernel
theorem dX9_lenient_96 : decode cX9_lenient 96 = .ok (.getfield 121, 3) := by decide +kernel
theorem dX9_lenient_99 : decode cX9_lenient 99 = .ok (.iconst 1, 1) := by decide +kernel
theorem dX9_lenient_100 : decode cX9_lenient 100 = .ok (.isub, 1) := by decide +kernel
theorem dX9_lenient_101 : decode cX9_lenient 101 = .ok (.putfield 121, 3) := by decide +kernel
theorem dX9_lenient_104 : decode cX9_lenient 104 = .ok (.iload_n 2, 1) := by decide +kernel
theorem dX9_lenient_105 : decode cX9_lenient 105 = .ok (.istore_n 3, 1) := by decide +kernel
theorem dX9_lenient_106 : decode cX9_lenient 106 = .ok (.iload_n 3, 1) := by decide +kernel
theorem dX9_lenient_107 : decode cX9_lenient 107 = .ok (.aload_n 0, 1) := by decide +kernel
theorem dX9_lenient_108 : decode cX9_lenient 108 = .ok (.getfield 121, 3) := by decide +kernel
theorem dX9_lenient_111 : decode cX9_lenient 111 = .ok (.if_icmp .ge 37, 3) := by decide +kernel
theorem dX9_lenient_114 : decode cX9_lenient 114 = .ok (.aload_n 0, 1) := by decide +kernel
theorem dX9_lenient_115 : decode cX9_lenient 115 = .ok (.getfield 13, 3) := by decide +kernel
theorem dX9_lenient_118 : decode cX9_lenient 118 = .ok (.iload_n 3, 1) := by decide +kernel
theorem dX9_lenient_119 : decode cX9_lenient 119 = .ok (.aload_n 0, 1) := by decide +kernel
theorem dX9_lenient_120 : decode cX9_lenient 120 = .ok (.getfield 13, 3) := by decide +kernel
theorem dX9_lenient_123 : decode cX9_lenient 123 = .ok (.iload_n 3, 1) := by decide +kernel
theorem dX9_lenient_124 : decode cX9_lenient 124 = .ok (.iconst 1, 1) := by decide +kernel
theorem dX9_lenient_125 : decode cX9_lenient 125 = .ok (.iadd, 1) := by decide +kernel
theorem dX9_lenient_126 : decode cX9_lenient 126 = .ok (.iaload, 1) := by decide +kernel
theorem dX9_lenient_127 : decode cX9_lenient 127 = .ok (.iastore, 1) := by decide +kernel
theorem dX9_lenient_128 : decode cX9_lenient 128 = .ok (.aload_n 0, 1) := by decide +kernel
theorem dX9_lenient_129 : decode cX9_lenient 129 = .ok (.getfield 71, 3) := by decide +kernel
theorem dX9_lenient_132 : decode cX9_lenient 132 = .ok (.iload_n 3, 1) := by decide +kernel
theorem dX9_lenient_133 : decode cX9_lenient 133 = .ok (.aload_n 0, 1) := by decide +kernel
theorem dX9_lenient_134 : decode cX9_lenient 134 = .ok (.getfield 71, 3) := by decide +kernel
theorem dX9_lenient_137 : decode cX9_lenient 137 = .ok (.iload_n 3, 1) := by decide +kernel
theorem dX9_lenient_138 : decode cX9_lenient 138 = .ok (.iconst 1, 1) := by decide +kernel
theorem dX9_lenient_139 : decode cX9_lenient 139 = .ok (.iadd, 1) := by decide +kernel
theorem dX9_lenient_140 : decode cX9_lenient 140 = .ok (.iaload, 1) := by decide +kernel
theorem dX9_lenient_141 : decode cX9_lenient 141 = .ok (.iastore, 1) := by decide +kernel
theorem dX9_lenient_142 : decode cX9_lenient 142 = .ok (.iinc 3 1, 3) := by decide +kernel
theorem dX9_lenient_145 : decode cX9_lenient 145 = .ok (.goto (-39), 3) := by decide +kernel
theorem dX9_lenient_148 : decode cX9_lenient 148 = .ok (.aload_n 0, 1) := by decide +kernel
theorem dX9_lenient_149 : decode cX9_lenient 149 = .ok (.invokevirtual 184, 3) := by decide +kernel
theorem dX9_lenient_152 : decode cX9_lenient 152 = .ok (.istore_n 1, 1) := by decide +kernel
theorem dX9_lenient_153 : decode cX9_lenient 153 = .ok (.goto (-115), 3) := by decide +kernel
theorem dX9_lenient_156 : decode cX9_lenient 156 = .ok (.aload_n 0, 1) := by decide +kernel
theorem dX9_lenient_157 : decode cX9_lenient 157 = .ok (.iconst 0, 1) := by decide +kernel
theorem dX9_lenient_158 : decode cX9_lenient 158 = .ok (.putfield 121, 3) := by decide +kernel
theorem dX9_lenient_161 : decode cX9_lenient 161 = .ok (.iload_n 1, 1) := by decide +kernel
theorem dX9_lenient_162 : decode cX9_lenient 162 = .ok (.iconst (-1), 1) := by decide +kernel
theorem dX9_lenient_163 : decode cX9_lenient 163 = .ok (.if_icmp .eq 5, 3) := by decide +kernel
theorem dX9_lenient_166 : decode cX9_lenient 166 = .ok (.iconst (-1), 1) := by decide +kernel
theorem dX9_lenient_167 : decode cX9_lenient 167 = .ok (.ireturn, 1) := by decide +kernel
theorem dX9_lenient_168 : decode cX9_lenient 168 = .ok (.aload_n 0, 1) := by decide +kernel
theorem dX9_lenient_169 : decode cX9_lenient 169 = .ok (.invokevirtual 187, 3) := by decide +kernel
theorem dX9_lenient_172 : decode cX9_lenient 172 = .ok (.aload_n 0, 1) := by decide +kernel
theorem dX9_lenient_173 : decode cX9_lenient 173 = .ok (.getfield 112, 3) := by decide +kernel
theorem dX9_lenient_176 : decode cX9_lenient 176 = .ok (.ireturn, 1) := by decide +kernel
theorem dX9_dropped_0 : decode cX9_dropped 0 = .ok (.aload_n 0, 1) := by decide +kernel
theorem dX9_dropped_1 : decode cX9_dropped 1 = .ok (.iconst 0, 1) := by decide +kernel
theorem dX9_dropped_2 : decode cX9_dropped 2 = .ok (.putfield 1, 3) := by decide +kernel
theorem dX9_dropped_5 : decode cX9_dropped 5 = .ok (.iload_n 1, 1) := by decide +kernel
theorem dX9_dropped_6 : decode cX9_dropped 6 = .ok (.i2l, 1) := by decide +kernel
theorem dX9_dropped_7 : decode cX9_dropped 7 = .ok (.lconst 0, 1) := by decide +kernel
theorem dX9_dropped_8 : decode cX9_dropped 8 = .ok (.aload_n 0, 1) := by decide +kernel
theorem dX9_dropped_9 : decode cX9_dropped 9 = .ok (.getfield 190, 3) := by decide +kernel
theorem dX9_dropped_12 : decode cX9_dropped 12 = .ok (.iconst 1, 1) := by decide +kernel
theorem dX9_dropped_13 : decode cX9_dropped 13 = .ok (.isub, 1) := by decide +kernel
theorem dX9_dropped_14 : decode cX9_dropped 14 = .ok (.i2l, 1) := by decide +kernel
theorem dX9_dropped_15 : decode cX9_dropped 15 = .ok (.invokestatic 117, 3) := by decide +kernel
theorem dX9_dropped_18 : decode cX9_dropped 18 = .ok (.ifCond .eq 12, 3) := by decide +kernel
theorem dX9_dropped_21 : decode cX9_dropped 21 = .ok (.aload_n 0, 1) := by decide +kernel
theorem dX9_dropped_22 : decode cX9_dropped 22 = .ok (.getfield 74, 3) := by decide +kernel
theorem dX9_dropped_25 : decode cX9_dropped 25 = .ok (.iload_n 1, 1) := by decide +kernel
theorem dX9_dropped_26 : decode cX9_dropped 26 = .ok (.iaload, 1) := by decide +kernel
theorem dX9_dropped_27 : decode cX9_dropped 27 = .ok (.goto 4, 3) := by decide +kernel
theorem dX9_dropped_30 : decode cX9_dropped 30 = .ok (.iconst (-1), 1) := by decide +kernel
theorem dX9_dropped_31 : decode cX9_dropped 31 = .ok (.ireturn, 1) := by decide +kernel
theorem dX9_isNode_0 : decode cX9_isNode 0 = .ok (.iload_n 1, 1) := by decide +kernel
theorem dX9_isNode_1 : decode cX9_isNode 1 = .ok (.i2l, 1) := by decide +kernel
theorem dX9_isNode_2 : decode cX9_isNode 2 = .ok (.lconst 0, 1) := by decide +kernel
theorem dX9_isNode_3 : decode cX9_isNode 3 = .ok (.aload_n 0, 1) := by decide +kernel
theorem dX9_isNode_4 : decode cX9_isNode 4 = .ok (.getfield 112, 3) := by decide +kernel
theorem dX9_isNode_7 : decode cX9_isNode 7 = .ok (.iconst 1, 1) := by decide +kernel
theorem dX9_isNode_8 : decode cX9_isNode 8 = .ok (.isub, 1) := by decide +kernel
theorem dX9_isNode_9 : decode cX9_isNode 9 = .ok (.i2l, 1) := by decide +kernel
theorem dX9_isNode_10 : decode cX9_isNode 10 = .ok (.invokestatic 117, 3) := by decide +kernel
theorem dX9_isNode_13 : decode cX9_isNode 13 = .ok (.ireturn, 1) := by decide +kernel
theorem dX9_node_0 : decode cX9_node 0 = .ok (.aload_n 0, 1) := by decide +kernel
theorem dX9_node_1 : decode cX9_node 1 = .ok (.aload_n 0, 1) := by decide +kernel
theorem dX9_node_2 : decode cX9_node 2 = .ok (.iload_n 1, 1) := by decide +kernel
theorem dX9_node_3 : decode cX9_node 3 = .ok (.invokevirtual 193, 3) := by decide +kernel
theorem dX9_node_6 : decode cX9_node 6 = .ok (.ifCond .eq 7, 3) := by decide +kernel
theorem dX9_node_9 : decode cX9_node 9 = .ok (.iconst 0, 1) := by decide +kernel
theorem dX9_node_10 : decode cX9_node 10 = .ok (.goto 4, 3) := by decide +kernel
theorem dX9_node_13 : decode cX9_node 13 = .ok (.iconst 1, 1) := by decide +kernel
theorem dX9_node_14 : decode cX9_node 14 = .ok (.putfield 1, 3) := by decide +kernel
theorem dX9_node_17 : decode cX9_node 17 = .ok (.aload_n 0, 1) := by decide +kernel
theorem dX9_node_18 : decode cX9_node 18 = .ok (.getfield 1, 3) := by decide +kernel
theorem dX9_node_21 : decode cX9_node 21 = .ok (.ifCond .le 5, 3) := by decide +kernel
theorem dX9_node_24 : decode cX9_node 24 = .ok (.iconst 0, 1) := by decide +kernel
theorem dX9_node_25 : decode cX9_node 25 = .ok (.ireturn, 1) := by decide +kernel
theorem dX9_node_26 : decode cX9_node 26 = .ok (.iload_n 2, 1) := by decide +kernel
theorem dX9_node_27 : decode cX9_node 27 = .ok (.tableswitch 110 0 6 #[41, 48, 55, 62, 69, 76, 103], 41) := by decide +kernel
theorem dX9_node_68 : decode cX9_node 68 = .ok (.aload_n 0, 1) := by decide +kernel
theorem dX9_node_69 : decode cX9_node 69 = .ok (.getfield 44, 3) := by decide +kernel
theorem dX9_node_72 : decode cX9_node 72 = .ok (.iload_n 1, 1) := by decide +kernel
theorem dX9_node_73 : decode cX9_node 73 = .ok (.iaload, 1) := by decide +kernel
theorem dX9_node_74 : decode cX9_node 74 = .ok (.ireturn, 1) := by decide +kernel
theorem dX9_node_75 : decode cX9_node 75 = .ok (.aload_n 0, 1) := by decide +kernel
theorem dX9_node_76 : decode cX9_node 76 = .ok (.getfield 47, 3) := by decide +kernel
theorem dX9_node_79 : decode cX9_node 79 = .ok (.iload_n 1, 1) := by decide +kernel
theorem dX9_node_80 : decode cX9_node 80 = .ok (.iaload, 1) := by decide +kernel
theorem dX9_node_81 : decode cX9_node 81 = .ok (.ireturn, 1) := by decide +kernel
theorem dX9_node_82 : decode cX9_node 82 = .ok (.aload_n 0, 1) := by decide +kernel
theorem dX9_node_83 : decode cX9_node 83 = .ok (.getfield 50, 3) := by decide +kernel
theorem dX9_node_86 : decode cX9_node 86 = .ok (.iload_n 1, 1) := by decide +kernel
theorem dX9_node_87 : decode cX9_node 87 = .ok (.iaload, 1) := by decide +kernel
theorem dX9_node_88 : decode cX9_node 88 = .ok (.ireturn, 1) := by decide +kernel
theorem dX9_node_89 : decode cX9_node 89 = .ok (.aload_n 0, 1) := by decide +kernel
theorem dX9_node_90 : decode cX9_node 90 = .ok (.getfield 53, 3) := by decide +kernel
theorem dX9_node_93 : decode cX9_node 93 = .ok (.iload_n 1, 1) := by decide +kernel
theorem dX9_node_94 : decode cX9_node 94 = .ok (.iaload, 1) := by decide +kernel
theorem dX9_node_95 : decode cX9_node 95 = .ok (.ireturn, 1) := by decide +kernel
theorem dX9_node_96 : decode cX9_node 96 = .ok (.aload_n 0, 1) := by decide +kernel
theorem dX9_node_97 : decode cX9_node 97 = .ok (.getfield 56, 3) := by decide +kernel
theorem dX9_node_100 : decode cX9_node 100 = .ok (.iload_n 1, 1) := by decide +kernel
theorem dX9_node_101 : decode cX9_node 101 = .ok (.iaload, 1) := by decide +kernel
theorem dX9_node_102 : decode cX9_node 102 = .ok (.ireturn, 1) := by decide +kernel
theorem dX9_node_103 : decode cX9_node 103 = .ok (.aload_n 0, 1) := by decide +kernel
theorem dX9_node_104 : decode cX9_node 104 = .ok (.getfield 44, 3) := by decide +kernel
theorem dX9_node_107 : decode cX9_node 107 = .ok (.iload_n 1, 1) := by decide +kernel
theorem dX9_node_108 : decode cX9_node 108 = .ok (.iaload, 1) := by decide +kernel
theorem dX9_node_109 : decode cX9_node 109 = .ok (.ifCond .ne 14, 3) := by decide +kernel
theorem dX9_node_112 : decode cX9_node 112 = .ok (.aload_n 0, 1) := by decide +kernel
theorem dX9_node_113 : decode cX9_node 113 = .ok (.getfield 65, 3) := by decide +kernel
theorem dX9_node_116 : decode cX9_node 116 = .ok (.iconst 5, 1) := by decide +kernel
theorem dX9_node_117 : decode cX9_node 117 = .ok (.iload_n 1, 1) := by decide +kernel
theorem dX9_node_118 : decode cX9_node 118 = .ok (.imul, 1) := by decide +kernel
theorem dX9_node_119 : decode cX9_node 119 = .ok (.iaload, 1) := by decide +kernel
theorem dX9_node_120 : decode cX9_node 120 = .ok (.goto 9, 3) := by decide +kernel
theorem dX9_node_123 : decode cX9_node 123 = .ok (.aload_n 0, 1) := by decide +kernel
theorem dX9_node_124 : decode cX9_node 124 = .ok (.getfield 62, 3) := by decide +kernel
theorem dX9_node_127 : decode cX9_node 127 = .ok (.iload_n 1, 1) := by decide +kernel
theorem dX9_node_128 : decode cX9_node 128 = .ok (.iaload, 1) := by decide +kernel
theorem dX9_node_129 : decode cX9_node 129 = .ok (.ireturn, 1) := by decide +kernel
theorem dX9_node_130 : decode cX9_node 130 = .ok (.aload_n 0, 1) := by decide +kernel
theorem dX9_node_131 : decode cX9_node 131 = .ok (.getfield 59, 3) := by decide +kernel
theorem dX9_node_134 : decode cX9_node 134 = .ok (.iload_n 1, 1) := by decide +kernel
theorem dX9_node_135 : decode cX9_node 135 = .ok (.iaload, 1) := by decide +kernel
theorem dX9_node_136 : decode cX9_node 136 = .ok (.ireturn, 1) := by decide +kernel
theorem dX9_node_137 : decode cX9_node 137 = .ok (.bipush (-102), 2) := by decide +kernel
theorem dX9_node_139 : decode cX9_node 139 = .ok (.ireturn, 1) := by decide +kernel
theorem dX9_sign_0 : decode cX9_sign 0 = .ok (.aload_n 0, 1) := by decide +kernel
theorem dX9_sign_1 : decode cX9_sign 1 = .ok (.aload_n 0, 1) := by decide +kernel
theorem dX9_sign_2 : decode cX9_sign 2 = .ok (.iload_n 1, 1) := by decide +kernel
theorem dX9_sign_3 : decode cX9_sign 3 = .ok (.invokevirtual 193, 3) := by decide +kernel
theorem dX9_sign_6 : decode cX9_sign 6 = .ok (.ifCond .ne 7, 3) := by decide +kernel
theorem dX9_sign_9 : decode cX9_sign 9 = .ok (.iconst 1, 1) := by decide +kernel
theorem dX9_sign_10 : decode cX9_sign 10 = .ok (.goto 62, 3) := by decide +kernel
theorem dX9_sign_13 : decode cX9_sign 13 = .ok (.aload_n 0, 1) := by decide +kernel
theorem dX9_sign_14 : decode cX9_sign 14 = .ok (.getfield 44, 3) := by decide +kernel
theorem dX9_sign_17 : decode cX9_sign 17 = .ok (.iload_n 1, 1) := by decide +kernel
theorem dX9_sign_18 : decode cX9_sign 18 = .ok (.iaload, 1) := by decide +kernel
theorem dX9_sign_19 : decode cX9_sign 19 = .ok (.iconst 3, 1) := by decide +kernel
theorem dX9_sign_20 : decode cX9_sign 20 = .ok (.if_icmp .ne 7, 3) := by decide +kernel
theorem dX9_sign_23 : decode cX9_sign 23 = .ok (.iconst 2, 1) := by decide +kernel
theorem dX9_sign_24 : decode cX9_sign 24 = .ok (.goto 48, 3) := by decide +kernel
theorem dX9_sign_27 : decode cX9_sign 27 = .ok (.iload_n 2, 1) := by decide +kernel
theorem dX9_sign_28 : decode cX9_sign 28 = .ok (.i2l, 1) := by decide +kernel
theorem dX9_sign_29 : decode cX9_sign 29 = .ok (.lconst 0, 1) := by decide +kernel
theorem dX9_sign_30 : decode cX9_sign 30 = .ok (.aload_n 0, 1) := by decide +kernel
theorem dX9_sign_31 : decode cX9_sign 31 = .ok (.getfield 62, 3) := by decide +kernel
theorem dX9_sign_34 : decode cX9_sign 34 = .ok (.iload_n 1, 1) := by decide +kernel
theorem dX9_sign_35 : decode cX9_sign 35 = .ok (.iaload, 1) := by decide +kernel
theorem dX9_sign_36 : decode cX9_sign 36 = .ok (.iconst 1, 1) := by decide +kernel
theorem dX9_sign_37 : decode cX9_sign 37 = .ok (.isub, 1) := by decide +kernel
theorem dX9_sign_38 : decode cX9_sign 38 = .ok (.i2l, 1) := by decide +kernel
theorem dX9_sign_39 : decode cX9_sign 39 = .ok (.invokestatic 117, 3) := by decide +kernel
theorem dX9_sign_42 : decode cX9_sign 42 = .ok (.ifCond .eq 25, 3) := by decide +kernel
theorem dX9_sign_45 : decode cX9_sign 45 = .ok (.iload_n 3, 1) := by decide +kernel
theorem dX9_sign_46 : decode cX9_sign 46 = .ok (.i2l, 1) := by decide +kernel
theorem dX9_sign_47 : decode cX9_sign 47 = .ok (.lconst 0, 1) := by decide +kernel
theorem dX9_sign_48 : decode cX9_sign 48 = .ok (.aload_n 0, 1) := by decide +kernel
theorem dX9_sign_49 : decode cX9_sign 49 = .ok (.getfield 65, 3) := by decide +kernel
theorem dX9_sign_52 : decode cX9_sign 52 = .ok (.iconst 5, 1) := by decide +kernel
theorem dX9_sign_53 : decode cX9_sign 53 = .ok (.iload_n 1, 1) := by decide +kernel
theorem dX9_sign_54 : decode cX9_sign 54 = .ok (.imul, 1) := by decide +kernel
theorem dX9_sign_55 : decode cX9_sign 55 = .ok (.iload_n 2, 1) := by decide +kernel
theorem dX9_sign_56 : decode cX9_sign 56 = .ok (.iadd, 1) := by decide +kernel
theorem dX9_sign_57 : decode cX9_sign 57 = .ok (.iaload, 1) := by decide +kernel
theorem dX9_sign_58 : decode cX9_sign 58 = .ok (.iconst 1, 1) := by decide +kernel
theorem dX9_sign_59 : decode cX9_sign 59 = .ok (.isub, 1) := by decide +kernel
theorem dX9_sign_60 : decode cX9_sign 60 = .ok (.i2l, 1) := by decide +kernel
theorem dX9_sign_61 : decode cX9_sign 61 = .ok (.invokestatic 117, 3) := by decide +kernel
theorem dX9_sign_64 : decode cX9_sign 64 = .ok (.ifCond .ne 7, 3) := by decide +kernel
theorem dX9_sign_67 : decode cX9_sign 67 = .ok (.iconst 1, 1) := by decide +kernel
theorem dX9_sign_68 : decode cX9_sign 68 = .ok (.goto 4, 3) := by decide +kernel
theorem dX9_sign_71 : decode cX9_sign 71 = .ok (.iconst 0, 1) := by decide +kernel
theorem dX9_sign_72 : decode cX9_sign 72 = .ok (.putfield 1, 3) := by decide +kernel
theorem dX9_sign_75 : decode cX9_sign 75 = .ok (.aload_n 0, 1) := by decide +kernel
theorem dX9_sign_76 : decode cX9_sign 76 = .ok (.getfield 1, 3) := by decide +kernel
theorem dX9_sign_79 : decode cX9_sign 79 = .ok (.ifCond .le 7, 3) := by decide +kernel
theorem dX9_sign_82 : decode cX9_sign 82 = .ok (.iconst 0, 1) := by decide +kernel
theorem dX9_sign_83 : decode cX9_sign 83 = .ok (.goto 19, 3) := by decide +kernel
theorem dX9_sign_86 : decode cX9_sign 86 = .ok (.aload_n 0, 1) := by decide +kernel
theorem dX9_sign_87 : decode cX9_sign 87 = .ok (.getfield 68, 3) := by decide +kernel
theorem dX9_sign_90 : decode cX9_sign 90 = .ok (.bipush 40, 2) := by decide +kernel
theorem dX9_sign_92 : decode cX9_sign 92 = .ok (.iload_n 1, 1) := by decide +kernel
theorem dX9_sign_93 : decode cX9_sign 93 = .ok (.imul, 1) := by decide +kernel
theorem dX9_sign_94 : decode cX9_sign 94 = .ok (.bipush 8, 2) := by decide +kernel
theorem dX9_sign_96 : decode cX9_sign 96 = .ok (.iload_n 2, 1) := by decide +kernel
theorem dX9_sign_97 : decode cX9_sign 97 = .ok (.imul, 1) := by decide +kernel
theorem dX9_sign_98 : decode cX9_sign 98 = .ok (.iadd, 1) := by decide +kernel
theorem dX9_sign_99 : decode cX9_sign 99 = .ok (.iload_n 3, 1) := by decide +kernel
theorem dX9_sign_100 : decode cX9_sign 100 = .ok (.iadd, 1) := by decide +kernel
theorem dX9_sign_101 : decode cX9_sign 101 = .ok (.iaload, 1) := by decide +kernel
theorem dX9_sign_102 : decode cX9_sign 102 = .ok (.ireturn, 1) := by decide +kernel
theorem dX9_put_0 : decode cX9_put 0 = .ok (.aload_n 0, 1) := by decide +kernel
theorem dX9_put_1 : decode cX9_put 1 = .ok (.getfield 77, 3) := by decide +kernel
theorem dX9_put_4 : decode cX9_put 4 = .ok (.aload_n 0, 1) := by decide +kernel
theorem dX9_put_5 : decode cX9_put 5 = .ok (.getfield 80, 3) := by decide +kernel
theorem dX9_put_8 : decode cX9_put 8 = .ok (.iload_n 1, 1) := by decide +kernel
theorem dX9_put_9 : decode cX9_put 9 = .ok (.iastore, 1) := by decide +kernel
theorem dX9_put_10 : decode cX9_put 10 = .ok (.aload_n 0, 1) := by decide +kernel
theorem dX9_put_11 : decode cX9_put 11 = .ok (.dup, 1) := by decide +kernel
theorem dX9_put_12 : decode cX9_put 12 = .ok (.getfield 80, 3) := by decide +kernel
theorem dX9_put_15 : decode cX9_put 15 = .ok (.iconst 1, 1) := by decide +kernel
theorem dX9_put_16 : decode cX9_put 16 = .ok (.iadd, 1) := by decide +kernel
theorem dX9_put_17 : decode cX9_put 17 = .ok (.putfield 80, 3) := by decide +kernel
theorem dX9_put_20 : decode cX9_put 20 = .ok (.return_, 1) := by decide +kernel
theorem dX9_putWord_0 : decode cX9_putWord 0 = .ok (.iconst 0, 1) := by decide +kernel
theorem dX9_putWord_1 : decode cX9_putWord 1 = .ok (.istore_n 3, 1) := by decide +kernel
theorem dX9_putWord_2 : decode cX9_putWord 2 = .ok (.iload_n 3, 1) := by decide +kernel
theorem dX9_putWord_3 : decode cX9_putWord 3 = .ok (.aload_n 0, 1) := by decide +kernel
theorem dX9_putWord_4 : decode cX9_putWord 4 = .ok (.getfield 65, 3) := by decide +kernel
theorem dX9_putWord_7 : decode cX9_putWord 7 = .ok (.iconst 5, 1) := by decide +kernel
theorem dX9_putWord_8 : decode cX9_putWord 8 = .ok (.iload_n 1, 1) := by decide +kernel
theorem dX9_putWord_9 : decode cX9_putWord 9 = .ok (.imul, 1) := by decide +kernel
theorem dX9_putWord_10 : decode cX9_putWord 10 = .ok (.iload_n 2, 1) := by decide +kernel
theorem dX9_putWord_11 : decode cX9_putWord 11 = .ok (.iadd, 1) := by decide +kernel
theorem dX9_putWord_12 : decode cX9_putWord 12 = .ok (.iaload, 1) := by decide +kernel
theorem dX9_putWord_13 : decode cX9_putWord 13 = .ok (.if_icmp .ge 29, 3) := by decide +kernel
theorem dX9_putWord_16 : decode cX9_putWord 16 = .ok (.aload_n 0, 1) := by decide +kernel
theorem dX9_putWord_17 : decode cX9_putWord 17 = .ok (.aload_n 0, 1) := by decide +kernel
theorem dX9_putWord_18 : decode cX9_putWord 18 = .ok (.getfield 68, 3) := by decide +kernel
theorem dX9_putWord_21 : decode cX9_putWord 21 = .ok (.bipush 40, 2) := by decide +kernel
theorem dX9_putWord_23 : decode cX9_putWord 23 = .ok (.iload_n 1, 1) := by decide +kernel
theorem dX9_putWord_24 : decode cX9_putWord 24 = .ok (.imul, 1) := by decide +kernel
theorem dX9_putWord_25 : decode cX9_putWord 25 = .ok (.bipush 8, 2) := by decide +kernel
theorem dX9_putWord_27 : decode cX9_putWord 27 = .ok (.iload_n 2, 1) := by decide +kernel
theorem dX9_putWord_28 : decode cX9_putWord 28 = .ok (.imul, 1) := by decide +kernel
theorem dX9_putWord_29 : decode cX9_putWord 29 = .ok (.iadd, 1) := by decide +kernel
theorem dX9_putWord_30 : decode cX9_putWord 30 = .ok (.iload_n 3, 1) := by decide +kernel
theorem dX9_putWord_31 : decode cX9_putWord 31 = .ok (.iadd, 1) := by decide +kernel
theorem dX9_putWord_32 : decode cX9_putWord 32 = .ok (.iaload, 1) := by decide +kernel
theorem dX9_putWord_33 : decode cX9_putWord 33 = .ok (.invokevirtual 196, 3) := by decide +kernel
theorem dX9_putWord_36 : decode cX9_putWord 36 = .ok (.iinc 3 1, 3) := by decide +kernel
theorem dX9_putWord_39 : decode cX9_putWord 39 = .ok (.goto (-37), 3) := by decide +kernel
theorem dX9_putWord_42 : decode cX9_putWord 42 = .ok (.return_, 1) := by decide +kernel
theorem dX9_putBoost_0 : decode cX9_putBoost 0 = .ok (.aload_n 0, 1) := by decide +kernel
theorem dX9_putBoost_1 : decode cX9_putBoost 1 = .ok (.getfield 50, 3) := by decide +kernel
theorem dX9_putBoost_4 : decode cX9_putBoost 4 = .ok (.iload_n 1, 1) := by decide +kernel
theorem dX9_putBoost_5 : decode cX9_putBoost 5 = .ok (.iaload, 1) := by decide +kernel
theorem dX9_putBoost_6 : decode cX9_putBoost 6 = .ok (.iconst 1, 1) := by decide +kernel
theorem dX9_putBoost_7 : decode cX9_putBoost 7 = .ok (.if_icmp .eq 52, 3) := by decide +kernel
theorem dX9_putBoost_10 : decode cX9_putBoost 10 = .ok (.aload_n 0, 1) := by decide +kernel
theorem dX9_putBoost_11 : decode cX9_putBoost 11 = .ok (.bipush 94, 2) := by decide +kernel
theorem dX9_putBoost_13 : decode cX9_putBoost 13 = .ok (.invokevirtual 196, 3) := by decide +kernel
theorem dX9_putBoost_16 : decode cX9_putBoost 16 = .ok (.aload_n 0, 1) := by decide +kernel
theorem dX9_putBoost_17 : decode cX9_putBoost 17 = .ok (.getfield 50, 3) := by decide +kernel
theorem dX9_putBoost_20 : decode cX9_putBoost 20 = .ok (.iload_n 1, 1) := by decide +kernel
theorem dX9_putBoost_21 : decode cX9_putBoost 21 = .ok (.iaload, 1) := by decide +kernel
theorem dX9_putBoost_22 : decode cX9_putBoost 22 = .ok (.bipush 9, 2) := by decide +kernel
theorem dX9_putBoost_24 : decode cX9_putBoost 24 = .ok (.if_icmp .le 19, 3) := by decide +kernel
theorem dX9_putBoost_27 : decode cX9_putBoost 27 = .ok (.aload_n 0, 1) := by decide +kernel
theorem dX9_putBoost_28 : decode cX9_putBoost 28 = .ok (.bipush 48, 2) := by decide +kernel
theorem dX9_putBoost_30 : decode cX9_putBoost 30 = .ok (.aload_n 0, 1) := by decide +kernel
theorem dX9_putBoost_31 : decode cX9_putBoost 31 = .ok (.getfield 50, 3) := by decide +kernel
theorem dX9_putBoost_34 : decode cX9_putBoost 34 = .ok (.iload_n 1, 1) := by decide +kernel
theorem dX9_putBoost_35 : decode cX9_putBoost 35 = .ok (.iaload, 1) := by decide +kernel
theorem dX9_putBoost_36 : decode cX9_putBoost 36 = .ok (.bipush 10, 2) := by decide +kernel
theorem dX9_putBoost_38 : decode cX9_putBoost 38 = .ok (.idiv, 1) := by decide +kernel
theorem dX9_putBoost_39 : decode cX9_putBoost 39 = .ok (.iadd, 1) := by decide +kernel
theorem dX9_putBoost_40 : decode cX9_putBoost 40 = .ok (.invokevirtual 196, 3) := by decide +kernel
theorem dX9_putBoost_43 : decode cX9_putBoost 43 = .ok (.aload_n 0, 1) := by decide +kernel
theorem dX9_putBoost_44 : decode cX9_putBoost 44 = .ok (.bipush 48, 2) := by decide +kernel
theorem dX9_putBoost_46 : decode cX9_putBoost 46 = .ok (.aload_n 0, 1) := by decide +kernel
theorem dX9_putBoost_47 : decode cX9_putBoost 47 = .ok (.getfield 50, 3) := by decide +kernel
theorem dX9_putBoost_50 : decode cX9_putBoost 50 = .ok (.iload_n 1, 1) := by decide +kernel
theorem dX9_putBoost_51 : decode cX9_putBoost 51 = .ok (.iaload, 1) := by decide +kernel
theorem dX9_putBoost_52 : decode cX9_putBoost 52 = .ok (.bipush 10, 2) := by decide +kernel
theorem dX9_putBoost_54 : decode cX9_putBoost 54 = .ok (.irem, 1) := by decide +kernel
theorem dX9_putBoost_55 : decode cX9_putBoost 55 = .ok (.iadd, 1) := by decide +kernel
theorem dX9_putBoost_56 : decode cX9_putBoost 56 = .ok (.invokevirtual 196, 3) := by decide +kernel
theorem dX9_putBoost_59 : decode cX9_putBoost 59 = .ok (.return_, 1) := by decide +kernel
theorem dX9_putCore_0 : decode cX9_putCore 0 = .ok (.aload_n 0, 1) := by decide +kernel
theorem dX9_putCore_1 : decode cX9_putCore 1 = .ok (.getfield 44, 3) := by decide +kernel
theorem dX9_putCore_4 : decode cX9_putCore 4 = .ok (.iload_n 1, 1) := by decide +kernel
theorem dX9_putCore_5 : decode cX9_putCore 5 = .ok (.iaload, 1) := by decide +kernel
theorem dX9_putCore_6 : decode cX9_putCore 6 = .ok (.ifCond .ne 12, 3) := by decide +kernel
theorem dX9_putCore_9 : decode cX9_putCore 9 = .ok (.aload_n 0, 1) := by decide +kernel
theorem dX9_putCore_10 : decode cX9_putCore 10 = .ok (.iload_n 1, 1) := by decide +kernel
theorem dX9_putCore_11 : decode cX9_putCore 11 = .ok (.iconst 0, 1) := by decide +kernel
theorem dX9_putCore_12 : decode cX9_putCore 12 = .ok (.invokevirtual 199, 3) := by decide +kernel
theorem dX9_putCore_15 : decode cX9_putCore 15 = .ok (.goto 127, 3) := by decide +kernel
theorem dX9_putCore_18 : decode cX9_putCore 18 = .ok (.aload_n 0, 1) := by decide +kernel
theorem dX9_putCore_19 : decode cX9_putCore 19 = .ok (.getfield 44, 3) := by decide +kernel
theorem dX9_putCore_22 : decode cX9_putCore 22 = .ok (.iload_n 1, 1) := by decide +kernel
theorem dX9_putCore_23 : decode cX9_putCore 23 = .ok (.iaload, 1) := by decide +kernel
theorem dX9_putCore_24 : decode cX9_putCore 24 = .ok (.iconst 1, 1) := by decide +kernel
theorem dX9_putCore_25 : decode cX9_putCore 25 = .ok (.if_icmp .ne 51, 3) := by decide +kernel
theorem dX9_putCore_28 : decode cX9_putCore 28 = .ok (.iconst 0, 1) := by decide +kernel
theorem dX9_putCore_29 : decode cX9_putCore 29 = .ok (.istore_n 2, 1) := by decide +kernel
theorem dX9_putCore_30 : decode cX9_putCore 30 = .ok (.iload_n 2, 1) := by decide +kernel
theorem dX9_putCore_31 : decode cX9_putCore 31 = .ok (.aload_n 0, 1) := by decide +kernel
theorem dX9_putCore_32 : decode cX9_putCore 32 = .ok (.getfield 62, 3) := by decide +kernel
theorem dX9_putCore_35 : decode cX9_putCore 35 = .ok (.iload_n 1, 1) := by decide +kernel
theorem dX9_putCore_36 : decode cX9_putCore 36 = .ok (.iaload, 1) := by decide +kernel
theorem dX9_putCore_37 : decode cX9_putCore 37 = .ok (.if_icmp .ge 30, 3) := by decide +kernel
theorem dX9_putCore_40 : decode cX9_putCore 40 = .ok (.aload_n 0, 1) := by decide +kernel
theorem dX9_putCore_41 : decode cX9_putCore 41 = .ok (.iload_n 2, 1) := by decide +kernel
theorem dX9_putCore_42 : decode cX9_putCore 42 = .ok (.ifCond .ne 8, 3) := by decide +kernel
theorem dX9_putCore_45 : decode cX9_putCore 45 = .ok (.bipush 34, 2) := by decide +kernel
theorem dX9_putCore_47 : decode cX9_putCore 47 = .ok (.goto 5, 3) := by decide +kernel
theorem dX9_putCore_50 : decode cX9_putCore 50 = .ok (.bipush 32, 2) := by decide +kernel
theorem dX9_putCore_52 : decode cX9_putCore 52 = .ok (.invokevirtual 196, 3) := by decide +kernel
theorem dX9_putCore_55 : decode cX9_putCore 55 = .ok (.aload_n 0, 1) := by decide +kernel
theorem dX9_putCore_56 : decode cX9_putCore 56 = .ok (.iload_n 1, 1) := by decide +kernel
theorem dX9_putCore_57 : decode cX9_putCore 57 = .ok (.iload_n 2, 1) := by decide +kernel
theorem dX9_putCore_58 : decode cX9_putCore 58 = .ok (.invokevirtual 199, 3) := by decide +kernel
theorem dX9_putCore_61 : decode cX9_putCore 61 = .ok (.iinc 2 1, 3) := by decide +kernel
theorem dX9_putCore_64 : decode cX9_putCore 64 = .ok (.goto (-34), 3) := by decide +kernel
theorem dX9_putCore_67 : decode cX9_putCore 67 = .ok (.aload_n 0, 1) := by decide +kernel
theorem dX9_putCore_68 : decode cX9_putCore 68 = .ok (.bipush 34, 2) := by decide +kernel
theorem dX9_putCore_70 : decode cX9_putCore 70 = .ok (.invokevirtual 196, 3) := by decide +kernel
theorem dX9_putCore_73 : decode cX9_putCore 73 = .ok (.goto 69, 3) := by decide +kernel
theorem dX9_putCore_76 : decode cX9_putCore 76 = .ok (.aload_n 0, 1) := by decide +kernel
theorem dX9_putCore_77 : decode cX9_putCore 77 = .ok (.aload_n 0, 1) := by decide +kernel
theorem dX9_putCore_78 : decode cX9_putCore 78 = .ok (.getfield 56, 3) := by decide +kernel
theorem dX9_putCore_81 : decode cX9_putCore 81 = .ok (.iload_n 1, 1) := by decide +kernel
theorem dX9_putCore_82 : decode cX9_putCore 82 = .ok (.iaload, 1) := by decide +kernel
theorem dX9_putCore_83 : decode cX9_putCore 83 = .ok (.iconst 1, 1) := by decide +kernel
theorem dX9_putCore_84 : decode cX9_putCore 84 = .ok (.if_icmp .ne 8, 3) := by decide +kernel
theorem dX9_putCore_87 : decode cX9_putCore 87 = .ok (.bipush 123, 2) := by decide +kernel
theorem dX9_putCore_89 : decode cX9_putCore 89 = .ok (.goto 5, 3) := by decide +kernel
theorem dX9_putCore_92 : decode cX9_putCore 92 = .ok (.bipush 91, 2) := by decide +kernel
theorem dX9_putCore_94 : decode cX9_putCore 94 = .ok (.invokevirtual 196, 3) := by decide +kernel
theorem dX9_putCore_97 : decode cX9_putCore 97 = .ok (.aload_n 0, 1) := by decide +kernel
theorem dX9_putCore_98 : decode cX9_putCore 98 = .ok (.iload_n 1, 1) := by decide +kernel
theorem dX9_putCore_99 : decode cX9_putCore 99 = .ok (.iconst 0, 1) := by decide +kernel
theorem dX9_putCore_100 : decode cX9_putCore 100 = .ok (.invokevirtual 199, 3) := by decide +kernel
theorem dX9_putCore_103 : decode cX9_putCore 103 = .ok (.aload_n 0, 1) := by decide +kernel
theorem dX9_putCore_104 : decode cX9_putCore 104 = .ok (.bipush 46, 2) := by decide +kernel
theorem dX9_putCore_106 : decode cX9_putCore 106 = .ok (.invokevirtual 196, 3) := by decide +kernel
theorem dX9_putCore_109 : decode cX9_putCore 109 = .ok (.aload_n 0, 1) := by decide +kernel
theorem dX9_putCore_110 : decode cX9_putCore 110 = .ok (.bipush 46, 2) := by decide +kernel
theorem dX9_putCore_112 : decode cX9_putCore 112 = .ok (.invokevirtual 196, 3) := by decide +kernel
theorem dX9_putCore_115 : decode cX9_putCore 115 = .ok (.aload_n 0, 1) := by decide +kernel
theorem dX9_putCore_116 : decode cX9_putCore 116 = .ok (.iload_n 1, 1) := by decide +kernel
theorem dX9_putCore_117 : decode cX9_putCore 117 = .ok (.iconst 1, 1) := by decide +kernel
theorem dX9_putCore_118 : decode cX9_putCore 118 = .ok (.invokevirtual 199, 3) := by decide +kernel
theorem dX9_putCore_121 : decode cX9_putCore 121 = .ok (.aload_n 0, 1) := by decide +kernel
theorem dX9_putCore_122 : decode cX9_putCore 122 = .ok (.aload_n 0, 1) := by decide +kernel
theorem dX9_putCore_123 : decode cX9_putCore 123 = .ok (.getfield 56, 3) := by decide +kernel
theorem dX9_putCore_126 : decode cX9_putCore 126 = .ok (.iload_n 1, 1) := by decide +kernel
theorem dX9_putCore_127 : decode cX9_putCore 127 = .ok (.iaload, 1) := by decide +kernel
theorem dX9_putCore_128 : decode cX9_putCore 128 = .ok (.iconst 1, 1) := by decide +kernel
theorem dX9_putCore_129 : decode cX9_putCore 129 = .ok (.if_icmp .ne 8, 3) := by decide +kernel
theorem dX9_putCore_132 : decode cX9_putCore 132 = .ok (.bipush 125, 2) := by decide +kernel
theorem dX9_putCore_134 : decode cX9_putCore 134 = .ok (.goto 5, 3) := by decide +kernel
theorem dX9_putCore_137 : decode cX9_putCore 137 = .ok (.bipush 93, 2) := by decide +kernel
theorem dX9_putCore_139 : decode cX9_putCore 139 = .ok (.invokevirtual 196, 3) := by decide +kernel
theorem dX9_putCore_142 : decode cX9_putCore 142 = .ok (.aload_n 0, 1) := by decide +kernel
theorem dX9_putCore_143 : decode cX9_putCore 143 = .ok (.getfield 44, 3) := by decide +kernel
theorem dX9_putCore_146 : decode cX9_putCore 146 = .ok (.iload_n 1, 1) := by decide +kernel
theorem dX9_putCore_147 : decode cX9_putCore 147 = .ok (.iaload, 1) := by decide +kernel
theorem dX9_putCore_148 : decode cX9_putCore 148 = .ok (.iconst 2, 1) := by decide +kernel
theorem dX9_putCore_149 : decode cX9_putCore 149 = .ok (.if_icmp .eq 31, 3) := by decide +kernel
theorem dX9_putCore_152 : decode cX9_putCore 152 = .ok (.aload_n 0, 1) := by decide +kernel
theorem dX9_putCore_153 : decode cX9_putCore 153 = .ok (.getfield 56, 3) := by decide +kernel
theorem dX9_putCore_156 : decode cX9_putCore 156 = .ok (.iload_n 1, 1) := by decide +kernel
theorem dX9_putCore_157 : decode cX9_putCore 157 = .ok (.iaload, 1) := by decide +kernel
theorem dX9_putCore_158 : decode cX9_putCore 158 = .ok (.ifCond .eq 22, 3) := by decide +kernel
theorem dX9_putCore_161 : decode cX9_putCore 161 = .ok (.aload_n 0, 1) := by decide +kernel
theorem dX9_putCore_162 : decode cX9_putCore 162 = .ok (.bipush 126, 2) := by decide +kernel
theorem dX9_putCore_164 : decode cX9_putCore 164 = .ok (.invokevirtual 196, 3) := by decide +kernel
theorem dX9_putCore_167 : decode cX9_putCore 167 = .ok (.aload_n 0, 1) := by decide +kernel
theorem dX9_putCore_168 : decode cX9_putCore 168 = .ok (.bipush 48, 2) := by decide +kernel
theorem dX9_putCore_170 : decode cX9_putCore 170 = .ok (.aload_n 0, 1) := by decide +kernel
theorem dX9_putCore_171 : decode cX9_putCore 171 = .ok (.getfield 56, 3) := by decide +kernel
theorem dX9_putCore_174 : decode cX9_putCore 174 = .ok (.iload_n 1, 1) := by decide +kernel
theorem dX9_putCore_175 : decode cX9_putCore 175 = .ok (.iaload, 1) := by decide +kernel
theorem dX9_putCore_176 : decode cX9_putCore 176 = .ok (.iadd, 1) := by decide +kernel
theorem dX9_putCore_177 : decode cX9_putCore 177 = .ok (.invokevirtual 196, 3) := by decide +kernel
theorem dX9_putCore_180 : decode cX9_putCore 180 = .ok (.aload_n 0, 1) := by decide +kernel
theorem dX9_putCore_181 : decode cX9_putCore 181 = .ok (.iload_n 1, 1) := by decide +kernel
theorem dX9_putCore_182 : decode cX9_putCore 182 = .ok (.invokevirtual 203, 3) := by decide +kernel
theorem dX9_putCore_185 : decode cX9_putCore 185 = .ok (.return_, 1) := by decide +kernel
theorem dX9_closes_0 : decode cX9_closes 0 = .ok (.aload_n 0, 1) := by decide +kernel
theorem dX9_closes_1 : decode cX9_closes 1 = .ok (.bipush 41, 2) := by decide +kernel
theorem dX9_closes_3 : decode cX9_closes 3 = .ok (.invokevirtual 196, 3) := by decide +kernel
theorem dX9_closes_6 : decode cX9_closes 6 = .ok (.aload_n 0, 1) := by decide +kernel
theorem dX9_closes_7 : decode cX9_closes 7 = .ok (.getfield 56, 3) := by decide +kernel
theorem dX9_closes_10 : decode cX9_closes 10 = .ok (.iload_n 1, 1) := by decide +kernel
theorem dX9_closes_11 : decode cX9_closes 11 = .ok (.iaload, 1) := by decide +kernel
theorem dX9_closes_12 : decode cX9_closes 12 = .ok (.iconst (-1), 1) := by decide +kernel
theorem dX9_closes_13 : decode cX9_closes 13 = .ok (.if_icmp .eq 22, 3) := by decide +kernel
theorem dX9_closes_16 : decode cX9_closes 16 = .ok (.aload_n 0, 1) := by decide +kernel
theorem dX9_closes_17 : decode cX9_closes 17 = .ok (.bipush 64, 2) := by decide +kernel
theorem dX9_closes_19 : decode cX9_closes 19 = .ok (.invokevirtual 196, 3) := by decide +kernel
theorem dX9_closes_22 : decode cX9_closes 22 = .ok (.aload_n 0, 1) := by decide +kernel
theorem dX9_closes_23 : decode cX9_closes 23 = .ok (.bipush 48, 2) := by decide +kernel
theorem dX9_closes_25 : decode cX9_closes 25 = .ok (.aload_n 0, 1) := by decide +kernel
theorem dX9_closes_26 : decode cX9_closes 26 = .ok (.getfield 56, 3) := by decide +kernel
theorem dX9_closes_29 : decode cX9_closes 29 = .ok (.iload_n 1, 1) := by decide +kernel
theorem dX9_closes_30 : decode cX9_closes 30 = .ok (.iaload, 1) := by decide +kernel
theorem dX9_closes_31 : decode cX9_closes 31 = .ok (.iadd, 1) := by decide +kernel
theorem dX9_closes_32 : decode cX9_closes 32 = .ok (.invokevirtual 196, 3) := by decide +kernel
theorem dX9_closes_35 : decode cX9_closes 35 = .ok (.aload_n 0, 1) := by decide +kernel
theorem dX9_closes_36 : decode cX9_closes 36 = .ok (.iload_n 1, 1) := by decide +kernel
theorem dX9_closes_37 : decode cX9_closes 37 = .ok (.invokevirtual 203, 3) := by decide +kernel
theorem dX9_closes_40 : decode cX9_closes 40 = .ok (.return_, 1) := by decide +kernel
theorem dX9_print_0 : decode cX9_print 0 = .ok (.aload_n 0, 1) := by decide +kernel
theorem dX9_print_1 : decode cX9_print 1 = .ok (.iconst 0, 1) := by decide +kernel
theorem dX9_print_2 : decode cX9_print 2 = .ok (.putfield 1, 3) := by decide +kernel
theorem dX9_print_5 : decode cX9_print 5 = .ok (.aload_n 0, 1) := by decide +kernel
theorem dX9_print_6 : decode cX9_print 6 = .ok (.getfield 112, 3) := by decide +kernel
theorem dX9_print_9 : decode cX9_print 9 = .ok (.ifCond .ne 6, 3) := by decide +kernel
theorem dX9_print_12 : decode cX9_print 12 = .ok (.bipush (-104), 2) := by decide +kernel
theorem dX9_print_14 : decode cX9_print 14 = .ok (.ireturn, 1) := by decide +kernel
theorem dX9_print_15 : decode cX9_print 15 = .ok (.aload_n 0, 1) := by decide +kernel
theorem dX9_print_16 : decode cX9_print 16 = .ok (.iconst 0, 1) := by decide +kernel
theorem dX9_print_17 : decode cX9_print 17 = .ok (.putfield 80, 3) := by decide +kernel
theorem dX9_print_20 : decode cX9_print 20 = .ok (.iconst 0, 1) := by decide +kernel
theorem dX9_print_21 : decode cX9_print 21 = .ok (.istore_n 1, 1) := by decide +kernel
theorem dX9_print_22 : decode cX9_print 22 = .ok (.iconst 1, 1) := by decide +kernel
theorem dX9_print_23 : decode cX9_print 23 = .ok (.istore_n 2, 1) := by decide +kernel
theorem dX9_print_24 : decode cX9_print 24 = .ok (.iconst 1, 1) := by decide +kernel
theorem dX9_print_25 : decode cX9_print 25 = .ok (.istore_n 3, 1) := by decide +kernel
theorem dX9_print_26 : decode cX9_print 26 = .ok (.iload_n 3, 1) := by decide +kernel
theorem dX9_print_27 : decode cX9_print 27 = .ok (.aload_n 0, 1) := by decide +kernel
theorem dX9_print_28 : decode cX9_print 28 = .ok (.getfield 112, 3) := by decide +kernel
theorem dX9_print_31 : decode cX9_print 31 = .ok (.if_icmp .ge 141, 3) := by decide +kernel
theorem dX9_print_34 : decode cX9_print 34 = .ok (.aload_n 0, 1) := by decide +kernel
theorem dX9_print_35 : decode cX9_print 35 = .ok (.getfield 59, 3) := by decide +kernel
theorem dX9_print_38 : decode cX9_print 38 = .ok (.iload_n 3, 1) := by decide +kernel
theorem dX9_print_39 : decode cX9_print 39 = .ok (.iaload, 1) := by decide +kernel
theorem dX9_print_40 : decode cX9_print 40 = .ok (.iload_n 1, 1) := by decide +kernel
theorem dX9_print_41 : decode cX9_print 41 = .ok (.if_icmp .eq 20, 3) := by decide +kernel
theorem dX9_print_44 : decode cX9_print 44 = .ok (.aload_n 0, 1) := by decide +kernel
theorem dX9_print_45 : decode cX9_print 45 = .ok (.iload_n 1, 1) := by decide +kernel
theorem dX9_print_46 : decode cX9_print 46 = .ok (.invokevirtual 206, 3) := by decide +kernel
theorem dX9_print_49 : decode cX9_print 49 = .ok (.aload_n 0, 1) := by decide +kernel
theorem dX9_print_50 : decode cX9_print 50 = .ok (.getfield 59, 3) := by decide +kernel
theorem dX9_print_53 : decode cX9_print 53 = .ok (.iload_n 1, 1) := by decide +kernel
theorem dX9_print_54 : decode cX9_print 54 = .ok (.iaload, 1) := by decide +kernel
theorem dX9_print_55 : decode cX9_print 55 = .ok (.istore_n 1, 1) := by decide +kernel
theorem dX9_print_56 : decode cX9_print 56 = .ok (.iconst 0, 1) := by decide +kernel
theorem dX9_print_57 : decode cX9_print 57 = .ok (.istore_n 2, 1) := by decide +kernel
theorem dX9_print_58 : decode cX9_print 58 = .ok (.goto (-24), 3) := by decide +kernel
theorem dX9_print_61 : decode cX9_print 61 = .ok (.iload_n 2, 1) := by decide +kernel
theorem dX9_print_62 : decode cX9_print 62 = .ok (.ifCond .ne 9, 3) := by decide +kernel
theorem dX9_print_65 : decode cX9_print 65 = .ok (.aload_n 0, 1) := by decide +kernel
theorem dX9_print_66 : decode cX9_print 66 = .ok (.bipush 32, 2) := by decide +kernel
theorem dX9_print_68 : decode cX9_print 68 = .ok (.invokevirtual 196, 3) := by decide +kernel
theorem dX9_print_71 : decode cX9_print 71 = .ok (.aload_n 0, 1) := by decide +kernel
theorem dX9_print_72 : decode cX9_print 72 = .ok (.getfield 47, 3) := by decide +kernel
theorem dX9_print_75 : decode cX9_print 75 = .ok (.iload_n 3, 1) := by decide +kernel
theorem dX9_print_76 : decode cX9_print 76 = .ok (.iaload, 1) := by decide +kernel
theorem dX9_print_77 : decode cX9_print 77 = .ok (.ifCond .eq 24, 3) := by decide +kernel
theorem dX9_print_80 : decode cX9_print 80 = .ok (.aload_n 0, 1) := by decide +kernel
theorem dX9_print_81 : decode cX9_print 81 = .ok (.aload_n 0, 1) := by decide +kernel
theorem dX9_print_82 : decode cX9_print 82 = .ok (.getfield 47, 3) := by decide +kernel
theorem dX9_print_85 : decode cX9_print 85 = .ok (.iload_n 3, 1) := by decide +kernel
theorem dX9_print_86 : decode cX9_print 86 = .ok (.iaload, 1) := by decide +kernel
theorem dX9_print_87 : decode cX9_print 87 = .ok (.iconst 1, 1) := by decide +kernel
theorem dX9_print_88 : decode cX9_print 88 = .ok (.if_icmp .ne 8, 3) := by decide +kernel
theorem dX9_print_91 : decode cX9_print 91 = .ok (.bipush 43, 2) := by decide +kernel
theorem dX9_print_93 : decode cX9_print 93 = .ok (.goto 5, 3) := by decide +kernel
theorem dX9_print_96 : decode cX9_print 96 = .ok (.bipush 45, 2) := by decide +kernel
theorem dX9_print_98 : decode cX9_print 98 = .ok (.invokevirtual 196, 3) := by decide +kernel
theorem dX9_print_101 : decode cX9_print 101 = .ok (.aload_n 0, 1) := by decide +kernel
theorem dX9_print_102 : decode cX9_print 102 = .ok (.getfield 53, 3) := by decide +kernel
theorem dX9_print_105 : decode cX9_print 105 = .ok (.iload_n 3, 1) := by decide +kernel
theorem dX9_print_106 : decode cX9_print 106 = .ok (.iaload, 1) := by decide +kernel
theorem dX9_print_107 : decode cX9_print 107 = .ok (.iconst (-1), 1) := by decide +kernel
theorem dX9_print_108 : decode cX9_print 108 = .ok (.if_icmp .eq 22, 3) := by decide +kernel
theorem dX9_print_111 : decode cX9_print 111 = .ok (.aload_n 0, 1) := by decide +kernel
theorem dX9_print_112 : decode cX9_print 112 = .ok (.bipush 97, 2) := by decide +kernel
theorem dX9_print_114 : decode cX9_print 114 = .ok (.aload_n 0, 1) := by decide +kernel
theorem dX9_print_115 : decode cX9_print 115 = .ok (.getfield 53, 3) := by decide +kernel
theorem dX9_print_118 : decode cX9_print 118 = .ok (.iload_n 3, 1) := by decide +kernel
theorem dX9_print_119 : decode cX9_print 119 = .ok (.iaload, 1) := by decide +kernel
theorem dX9_print_120 : decode cX9_print 120 = .ok (.iadd, 1) := by decide +kernel
theorem dX9_print_121 : decode cX9_print 121 = .ok (.invokevirtual 196, 3) := by decide +kernel
theorem dX9_print_124 : decode cX9_print 124 = .ok (.aload_n 0, 1) := by decide +kernel
theorem dX9_print_125 : decode cX9_print 125 = .ok (.bipush 58, 2) := by decide +kernel
theorem dX9_print_127 : decode cX9_print 127 = .ok (.invokevirtual 196, 3) := by decide +kernel
theorem dX9_print_130 : decode cX9_print 130 = .ok (.aload_n 0, 1) := by decide +kernel
theorem dX9_print_131 : decode cX9_print 131 = .ok (.getfield 44, 3) := by decide +kernel
theorem dX9_print_134 : decode cX9_print 134 = .ok (.iload_n 3, 1) := by decide +kernel
theorem dX9_print_135 : decode cX9_print 135 = .ok (.iaload, 1) := by decide +kernel
theorem dX9_print_136 : decode cX9_print 136 = .ok (.iconst 3, 1) := by decide +kernel
theorem dX9_print_137 : decode cX9_print 137 = .ok (.if_icmp .ne 7, 3) := by decide +kernel
theorem dX9_print_140 : decode cX9_print 140 = .ok (.iconst 1, 1) := by decide +kernel
theorem dX9_print_141 : decode cX9_print 141 = .ok (.goto 4, 3) := by decide +kernel
theorem dX9_print_144 : decode cX9_print 144 = .ok (.iconst 0, 1) := by decide +kernel
theorem dX9_print_145 : decode cX9_print 145 = .ok (.istore_n 2, 1) := by decide +kernel
theorem dX9_print_146 : decode cX9_print 146 = .ok (.iload_n 2, 1) := by decide +kernel
theorem dX9_print_147 : decode cX9_print 147 = .ok (.ifCond .eq 14, 3) := by decide +kernel
theorem dX9_print_150 : decode cX9_print 150 = .ok (.aload_n 0, 1) := by decide +kernel
theorem dX9_print_151 : decode cX9_print 151 = .ok (.bipush 40, 2) := by decide +kernel
theorem dX9_print_153 : decode cX9_print 153 = .ok (.invokevirtual 196, 3) := by decide +kernel
theorem dX9_print_156 : decode cX9_print 156 = .ok (.iload_n 3, 1) := by decide +kernel
theorem dX9_print_157 : decode cX9_print 157 = .ok (.istore_n 1, 1) := by decide +kernel
theorem dX9_print_158 : decode cX9_print 158 = .ok (.goto 8, 3) := by decide +kernel
theorem dX9_print_161 : decode cX9_print 161 = .ok (.aload_n 0, 1) := by decide +kernel
theorem dX9_print_162 : decode cX9_print 162 = .ok (.iload_n 3, 1) := by decide +kernel
theorem dX9_print_163 : decode cX9_print 163 = .ok (.invokevirtual 209, 3) := by decide +kernel
theorem dX9_print_166 : decode cX9_print 166 = .ok (.iinc 3 1, 3) := by decide +kernel
theorem dX9_print_169 : decode cX9_print 169 = .ok (.goto (-143), 3) := by decide +kernel
theorem dX9_print_172 : decode cX9_print 172 = .ok (.iload_n 1, 1) := by decide +kernel
theorem dX9_print_173 : decode cX9_print 173 = .ok (.ifCond .eq 18, 3) := by decide +kernel
theorem dX9_print_176 : decode cX9_print 176 = .ok (.aload_n 0, 1) := by decide +kernel
theorem dX9_print_177 : decode cX9_print 177 = .ok (.iload_n 1, 1) := by decide +kernel
theorem dX9_print_178 : decode cX9_print 178 = .ok (.invokevirtual 206, 3) := by decide +kernel
theorem dX9_print_181 : decode cX9_print 181 = .ok (.aload_n 0, 1) := by decide +kernel
theorem dX9_print_182 : decode cX9_print 182 = .ok (.getfield 59, 3) := by decide +kernel
theorem dX9_print_185 : decode cX9_print 185 = .ok (.iload_n 1, 1) := by decide +kernel
theorem dX9_print_186 : decode cX9_print 186 = .ok (.iaload, 1) := by decide +kernel
theorem dX9_print_187 : decode cX9_print 187 = .ok (.istore_n 1, 1) := by decide +kernel
theorem dX9_print_188 : decode cX9_print 188 = .ok (.goto (-16), 3) := by decide +kernel
theorem dX9_print_191 : decode cX9_print 191 = .ok (.aload_n 0, 1) := by decide +kernel
theorem dX9_print_192 : decode cX9_print 192 = .ok (.getfield 80, 3) := by decide +kernel
theorem dX9_print_195 : decode cX9_print 195 = .ok (.ireturn, 1) := by decide +kernel
theorem dX9_out_0 : decode cX9_out 0 = .ok (.aload_n 0, 1) := by decide +kernel
theorem dX9_out_1 : decode cX9_out 1 = .ok (.aload_n 0, 1) := by decide +kernel
theorem dX9_out_2 : decode cX9_out 2 = .ok (.getfield 80, 3) := by decide +kernel
theorem dX9_out_5 : decode cX9_out 5 = .ok (.iconst (-1), 1) := by decide +kernel
theorem dX9_out_6 : decode cX9_out 6 = .ok (.if_icmp .ne 7, 3) := by decide +kernel
theorem dX9_out_9 : decode cX9_out 9 = .ok (.iconst 1, 1) := by decide +kernel
theorem dX9_out_10 : decode cX9_out 10 = .ok (.goto 24, 3) := by decide +kernel
theorem dX9_out_13 : decode cX9_out 13 = .ok (.iload_n 1, 1) := by decide +kernel
theorem dX9_out_14 : decode cX9_out 14 = .ok (.i2l, 1) := by decide +kernel
theorem dX9_out_15 : decode cX9_out 15 = .ok (.lconst 0, 1) := by decide +kernel
theorem dX9_out_16 : decode cX9_out 16 = .ok (.aload_n 0, 1) := by decide +kernel
theorem dX9_out_17 : decode cX9_out 17 = .ok (.getfield 80, 3) := by decide +kernel
theorem dX9_out_20 : decode cX9_out 20 = .ok (.iconst 1, 1) := by decide +kernel
theorem dX9_out_21 : decode cX9_out 21 = .ok (.isub, 1) := by decide +kernel
theorem dX9_out_22 : decode cX9_out 22 = .ok (.i2l, 1) := by decide +kernel
theorem dX9_out_23 : decode cX9_out 23 = .ok (.invokestatic 117, 3) := by decide +kernel
theorem dX9_out_26 : decode cX9_out 26 = .ok (.ifCond .eq 7, 3) := by decide +kernel
theorem dX9_out_29 : decode cX9_out 29 = .ok (.iconst 0, 1) := by decide +kernel
theorem dX9_out_30 : decode cX9_out 30 = .ok (.goto 4, 3) := by decide +kernel
theorem dX9_out_33 : decode cX9_out 33 = .ok (.iconst 2, 1) := by decide +kernel
theorem dX9_out_34 : decode cX9_out 34 = .ok (.putfield 1, 3) := by decide +kernel
theorem dX9_out_37 : decode cX9_out 37 = .ok (.aload_n 0, 1) := by decide +kernel
theorem dX9_out_38 : decode cX9_out 38 = .ok (.getfield 1, 3) := by decide +kernel
theorem dX9_out_41 : decode cX9_out 41 = .ok (.ifCond .le 7, 3) := by decide +kernel
theorem dX9_out_44 : decode cX9_out 44 = .ok (.iconst 0, 1) := by decide +kernel
theorem dX9_out_45 : decode cX9_out 45 = .ok (.goto 9, 3) := by decide +kernel
theorem dX9_out_48 : decode cX9_out 48 = .ok (.aload_n 0, 1) := by decide +kernel
theorem dX9_out_49 : decode cX9_out 49 = .ok (.getfield 77, 3) := by decide +kernel
theorem dX9_out_52 : decode cX9_out 52 = .ok (.iload_n 1, 1) := by decide +kernel
theorem dX9_out_53 : decode cX9_out 53 = .ok (.iaload, 1) := by decide +kernel
theorem dX9_out_54 : decode cX9_out 54 = .ok (.ireturn, 1) := by decide +kernel
theorem dX9_isDocument_0 : decode cX9_isDocument 0 = .ok (.iload_n 0, 1) := by decide +kernel
theorem dX9_isDocument_1 : decode cX9_isDocument 1 = .ok (.i2l, 1) := by decide +kernel
theorem dX9_isDocument_2 : decode cX9_isDocument 2 = .ok (.lconst 0, 1) := by decide +kernel
theorem dX9_isDocument_3 : decode cX9_isDocument 3 = .ok (.ldc2_w 212, 3) := by decide +kernel
theorem dX9_isDocument_6 : decode cX9_isDocument 6 = .ok (.invokestatic 117, 3) := by decide +kernel
theorem dX9_isDocument_9 : decode cX9_isDocument 9 = .ok (.ireturn, 1) := by decide +kernel
theorem dX9_word__0 : decode cX9_word_ 0 = .ok (.aload_n 0, 1) := by decide +kernel
theorem dX9_word__1 : decode cX9_word_ 1 = .ok (.iconst 0, 1) := by decide +kernel
theorem dX9_word__2 : decode cX9_word_ 2 = .ok (.putfield 1, 3) := by decide +kernel
theorem dX9_word__5 : decode cX9_word_ 5 = .ok (.iload_n 1, 1) := by decide +kernel
theorem dX9_word__6 : decode cX9_word_ 6 = .ok (.invokestatic 214, 3) := by decide +kernel
theorem dX9_word__9 : decode cX9_word_ 9 = .ok (.ifCond .eq 15, 3) := by decide +kernel
theorem dX9_word__12 : decode cX9_word_ 12 = .ok (.iload_n 2, 1) := by decide +kernel
theorem dX9_word__13 : decode cX9_word_ 13 = .ok (.i2l, 1) := by decide +kernel
theorem dX9_word__14 : decode cX9_word_ 14 = .ok (.lconst 0, 1) := by decide +kernel
theorem dX9_word__15 : decode cX9_word_ 15 = .ok (.ldc2_w 217, 3) := by decide +kernel
theorem dX9_word__18 : decode cX9_word_ 18 = .ok (.invokestatic 117, 3) := by decide +kernel
theorem dX9_word__21 : decode cX9_word_ 21 = .ok (.ifCond .ne 6, 3) := by decide +kernel
theorem dX9_word__24 : decode cX9_word_ 24 = .ok (.bipush (-101), 2) := by decide +kernel
theorem dX9_word__26 : decode cX9_word_ 26 = .ok (.ireturn, 1) := by decide +kernel
theorem dX9_word__27 : decode cX9_word_ 27 = .ok (.iconst 0, 1) := by decide +kernel
theorem dX9_word__28 : decode cX9_word_ 28 = .ok (.istore 5, 2) := by decide +kernel
theorem dX9_word__30 : decode cX9_word_ 30 = .ok (.lload_n 3, 1) := by decide +kernel
theorem dX9_word__31 : decode cX9_word_ 31 = .ok (.lconst 0, 1) := by decide +kernel
theorem dX9_word__32 : decode cX9_word_ 32 = .ok (.lcmp, 1) := by decide +kernel
theorem dX9_word__33 : decode cX9_word_ 33 = .ok (.ifCond .eq 7, 3) := by decide +kernel
theorem dX9_word__36 : decode cX9_word_ 36 = .ok (.iconst 1, 1) := by decide +kernel
theorem dX9_word__37 : decode cX9_word_ 37 = .ok (.goto 4, 3) := by decide +kernel
theorem dX9_word__40 : decode cX9_word_ 40 = .ok (.iconst 0, 1) := by decide +kernel
theorem dX9_word__41 : decode cX9_word_ 41 = .ok (.istore 6, 2) := by decide +kernel
theorem dX9_word__43 : decode cX9_word_ 43 = .ok (.bipush 7, 2) := by decide +kernel
theorem dX9_word__45 : decode cX9_word_ 45 = .ok (.istore 7, 2) := by decide +kernel
theorem dX9_word__47 : decode cX9_word_ 47 = .ok (.iload 7, 2) := by decide +kernel
theorem dX9_word__49 : decode cX9_word_ 49 = .ok (.ifCond .lt 80, 3) := by decide +kernel
theorem dX9_word__52 : decode cX9_word_ 52 = .ok (.lload_n 3, 1) := by decide +kernel
theorem dX9_word__53 : decode cX9_word_ 53 = .ok (.bipush 8, 2) := by decide +kernel
theorem dX9_word__55 : decode cX9_word_ 55 = .ok (.iload 7, 2) := by decide +kernel
theorem dX9_word__57 : decode cX9_word_ 57 = .ok (.imul, 1) := by decide +kernel
theorem dX9_word__58 : decode cX9_word_ 58 = .ok (.lshr, 1) := by decide +kernel
theorem dX9_word__59 : decode cX9_word_ 59 = .ok (.l2i, 1) := by decide +kernel
theorem dX9_word__60 : decode cX9_word_ 60 = .ok (.sipush 255, 3) := by decide +kernel
theorem dX9_word__63 : decode cX9_word_ 63 = .ok (.iand, 1) := by decide +kernel
theorem dX9_word__64 : decode cX9_word_ 64 = .ok (.istore 8, 2) := by decide +kernel
theorem dX9_word__66 : decode cX9_word_ 66 = .ok (.iload 5, 2) := by decide +kernel
theorem dX9_word__68 : decode cX9_word_ 68 = .ok (.ifCond .gt 8, 3) := by decide +kernel
theorem dX9_word__71 : decode cX9_word_ 71 = .ok (.iload 8, 2) := by decide +kernel
theorem dX9_word__73 : decode cX9_word_ 73 = .ok (.ifCond .eq 7, 3) := by decide +kernel
theorem dX9_word__76 : decode cX9_word_ 76 = .ok (.iconst 1, 1) := by decide +kernel
theorem dX9_word__77 : decode cX9_word_ 77 = .ok (.goto 4, 3) := by decide +kernel
theorem dX9_word__80 : decode cX9_word_ 80 = .ok (.iconst 0, 1) := by decide +kernel
theorem dX9_word__81 : decode cX9_word_ 81 = .ok (.istore 9, 2) := by decide +kernel
theorem dX9_word__83 : decode cX9_word_ 83 = .ok (.iload 6, 2) := by decide +kernel
theorem dX9_word__85 : decode cX9_word_ 85 = .ok (.ifCond .eq 20, 3) := by decide +kernel
theorem dX9_word__88 : decode cX9_word_ 88 = .ok (.iload 9, 2) := by decide +kernel
theorem dX9_word__90 : decode cX9_word_ 90 = .ok (.ifCond .eq 11, 3) := by decide +kernel
theorem dX9_word__93 : decode cX9_word_ 93 = .ok (.iload 8, 2) := by decide +kernel
theorem dX9_word__95 : decode cX9_word_ 95 = .ok (.invokestatic 138, 3) := by decide +kernel
theorem dX9_word__98 : decode cX9_word_ 98 = .ok (.ifCond .eq 7, 3) := by decide +kernel
theorem dX9_word__101 : decode cX9_word_ 101 = .ok (.iconst 1, 1) := by decide +kernel
theorem dX9_word__102 : decode cX9_word_ 102 = .ok (.goto 4, 3) := by decide +kernel
theorem dX9_word__105 : decode cX9_word_ 105 = .ok (.iconst 0, 1) := by decide +kernel
theorem dX9_word__106 : decode cX9_word_ 106 = .ok (.istore 6, 2) := by decide +kernel
theorem dX9_word__108 : decode cX9_word_ 108 = .ok (.iload 5, 2) := by decide +kernel
theorem dX9_word__110 : decode cX9_word_ 110 = .ok (.iload 9, 2) := by decide +kernel
theorem dX9_word__112 : decode cX9_word_ 112 = .ok (.ifCond .eq 7, 3) := by decide +kernel
theorem dX9_word__115 : decode cX9_word_ 115 = .ok (.iconst 1, 1) := by decide +kernel
theorem dX9_word__116 : decode cX9_word_ 116 = .ok (.goto 4, 3) := by decide +kernel
theorem dX9_word__119 : decode cX9_word_ 119 = .ok (.iconst 0, 1) := by decide +kernel
theorem dX9_word__120 : decode cX9_word_ 120 = .ok (.iadd, 1) := by decide +kernel
theorem dX9_word__121 : decode cX9_word_ 121 = .ok (.istore 5, 2) := by decide +kernel
theorem dX9_word__123 : decode cX9_word_ 123 = .ok (.iinc 7 (-1), 3) := by decide +kernel
theorem dX9_word__126 : decode cX9_word_ 126 = .ok (.goto (-79), 3) := by decide +kernel
theorem dX9_word__129 : decode cX9_word_ 129 = .ok (.iload 6, 2) := by decide +kernel
theorem dX9_word__131 : decode cX9_word_ 131 = .ok (.ifCond .ne 6, 3) := by decide +kernel
theorem dX9_word__134 : decode cX9_word_ 134 = .ok (.bipush (-102), 2) := by decide +kernel
theorem dX9_word__136 : decode cX9_word_ 136 = .ok (.ireturn, 1) := by decide +kernel
theorem dX9_word__137 : decode cX9_word_ 137 = .ok (.aload_n 0, 1) := by decide +kernel
theorem dX9_word__138 : decode cX9_word_ 138 = .ok (.getfield 83, 3) := by decide +kernel
theorem dX9_word__141 : decode cX9_word_ 141 = .ok (.iconst 4, 1) := by decide +kernel
theorem dX9_word__142 : decode cX9_word_ 142 = .ok (.iload_n 1, 1) := by decide +kernel
theorem dX9_word__143 : decode cX9_word_ 143 = .ok (.imul, 1) := by decide +kernel
theorem dX9_word__144 : decode cX9_word_ 144 = .ok (.iload_n 2, 1) := by decide +kernel
theorem dX9_word__145 : decode cX9_word_ 145 = .ok (.iadd, 1) := by decide +kernel
theorem dX9_word__146 : decode cX9_word_ 146 = .ok (.iaload, 1) := by decide +kernel
theorem dX9_word__147 : decode cX9_word_ 147 = .ok (.bipush 12, 2) := by decide +kernel
theorem dX9_word__149 : decode cX9_word_ 149 = .ok (.if_icmp .ne 6, 3) := by decide +kernel
theorem dX9_word__152 : decode cX9_word_ 152 = .ok (.bipush (-103), 2) := by decide +kernel
theorem dX9_word__154 : decode cX9_word_ 154 = .ok (.ireturn, 1) := by decide +kernel
theorem dX9_word__155 : decode cX9_word_ 155 = .ok (.bipush 48, 2) := by decide +kernel
theorem dX9_word__157 : decode cX9_word_ 157 = .ok (.iload_n 1, 1) := by decide +kernel
theorem dX9_word__158 : decode cX9_word_ 158 = .ok (.imul, 1) := by decide +kernel
theorem dX9_word__159 : decode cX9_word_ 159 = .ok (.bipush 12, 2) := by decide +kernel
theorem dX9_word__161 : decode cX9_word_ 161 = .ok (.iload_n 2, 1) := by decide +kernel
theorem dX9_word__162 : decode cX9_word_ 162 = .ok (.imul, 1) := by decide +kernel
theorem dX9_word__163 : decode cX9_word_ 163 = .ok (.iadd, 1) := by decide +kernel
theorem dX9_word__164 : decode cX9_word_ 164 = .ok (.aload_n 0, 1) := by decide +kernel
theorem dX9_word__165 : decode cX9_word_ 165 = .ok (.getfield 83, 3) := by decide +kernel
theorem dX9_word__168 : decode cX9_word_ 168 = .ok (.iconst 4, 1) := by decide +kernel
theorem dX9_word__169 : decode cX9_word_ 169 = .ok (.iload_n 1, 1) := by decide +kernel
theorem dX9_word__170 : decode cX9_word_ 170 = .ok (.imul, 1) := by decide +kernel
theorem dX9_word__171 : decode cX9_word_ 171 = .ok (.iload_n 2, 1) := by decide +kernel
theorem dX9_word__172 : decode cX9_word_ 172 = .ok (.iadd, 1) := by decide +kernel
theorem dX9_word__173 : decode cX9_word_ 173 = .ok (.iaload, 1) := by decide +kernel
theorem dX9_word__174 : decode cX9_word_ 174 = .ok (.iadd, 1) := by decide +kernel
theorem dX9_word__175 : decode cX9_word_ 175 = .ok (.istore 7, 2) := by decide +kernel
theorem dX9_word__177 : decode cX9_word_ 177 = .ok (.aload_n 0, 1) := by decide +kernel
theorem dX9_word__178 : decode cX9_word_ 178 = .ok (.getfield 86, 3) := by decide +kernel
theorem dX9_word__181 : decode cX9_word_ 181 = .ok (.iload 7, 2) := by decide +kernel
theorem dX9_word__183 : decode cX9_word_ 183 = .ok (.iload 5, 2) := by decide +kernel
theorem dX9_word__185 : decode cX9_word_ 185 = .ok (.iastore, 1) := by decide +kernel
theorem dX9_word__186 : decode cX9_word_ 186 = .ok (.iconst 0, 1) := by decide +kernel
theorem dX9_word__187 : decode cX9_word_ 187 = .ok (.istore 8, 2) := by decide +kernel
theorem dX9_word__189 : decode cX9_word_ 189 = .ok (.iload 8, 2) := by decide +kernel
theorem dX9_word__191 : decode cX9_word_ 191 = .ok (.iload 5, 2) := by decide +kernel
theorem dX9_word__193 : decode cX9_word_ 193 = .ok (.if_icmp .ge 39, 3) := by decide +kernel
theorem dX9_word__196 : decode cX9_word_ 196 = .ok (.aload_n 0, 1) := by decide +kernel
theorem dX9_word__197 : decode cX9_word_ 197 = .ok (.getfield 89, 3) := by decide +kernel
theorem dX9_word__200 : decode cX9_word_ 200 = .ok (.bipush 8, 2) := by decide +kernel
theorem dX9_word__202 : decode cX9_word_ 202 = .ok (.iload 7, 2) := by decide +kernel
theorem dX9_word__204 : decode cX9_word_ 204 = .ok (.imul, 1) := by decide +kernel
theorem dX9_word__205 : decode cX9_word_ 205 = .ok (.iload 8, 2) := by decide +kernel
theorem dX9_word__207 : decode cX9_word_ 207 = .ok (.iadd, 1) := by decide +kernel
theorem dX9_word__208 : decode cX9_word_ 208 = .ok (.lload_n 3, 1) := by decide +kernel
theorem dX9_word__209 : decode cX9_word_ 209 = .ok (.bipush 8, 2) := by decide +kernel
theorem dX9_word__211 : decode cX9_word_ 211 = .ok (.iload 5, 2) := by decide +kernel
theorem dX9_word__213 : decode cX9_word_ 213 = .ok (.iconst 1, 1) := by decide +kernel
theorem dX9_word__214 : decode cX9_word_ 214 = .ok (.isub, 1) := by decide +kernel
theorem dX9_word__215 : decode cX9_word_ 215 = .ok (.iload 8, 2) := by decide +kernel
theorem dX9_word__217 : decode cX9_word_ 217 = .ok (.isub, 1) := by decide +kernel
theorem dX9_word__218 : decode cX9_word_ 218 = .ok (.imul, 1) := by decide +kernel
theorem dX9_word__219 : decode cX9_word_ 219 = .ok (.lshr, 1) := by decide +kernel
theorem dX9_word__220 : decode cX9_word_ 220 = .ok (.l2i, 1) := by decide +kernel
theorem dX9_word__221 : decode cX9_word_ 221 = .ok (.sipush 255, 3) := by decide +kernel
theorem dX9_word__224 : decode cX9_word_ 224 = .ok (.iand, 1) := by decide +kernel
theorem dX9_word__225 : decode cX9_word_ 225 = .ok (.iastore, 1) := by decide +kernel
theorem dX9_word__226 : decode cX9_word_ 226 = .ok (.iinc 8 1, 3) := by decide +kernel
theorem dX9_word__229 : decode cX9_word_ 229 = .ok (.goto (-40), 3) := by decide +kernel
theorem dX9_word__232 : decode cX9_word_ 232 = .ok (.aload_n 0, 1) := by decide +kernel
theorem dX9_word__233 : decode cX9_word_ 233 = .ok (.getfield 83, 3) := by decide +kernel
theorem dX9_word__236 : decode cX9_word_ 236 = .ok (.iconst 4, 1) := by decide +kernel
theorem dX9_word__237 : decode cX9_word_ 237 = .ok (.iload_n 1, 1) := by decide +kernel
theorem dX9_word__238 : decode cX9_word_ 238 = .ok (.imul, 1) := by decide +kernel
theorem dX9_word__239 : decode cX9_word_ 239 = .ok (.iload_n 2, 1) := by decide +kernel
theorem dX9_word__240 : decode cX9_word_ 240 = .ok (.iadd, 1) := by decide +kernel
theorem dX9_word__241 : decode cX9_word_ 241 = .ok (.dup2, 1) := by decide +kernel
theorem dX9_word__242 : decode cX9_word_ 242 = .ok (.iaload, 1) := by decide +kernel
theorem dX9_word__243 : decode cX9_word_ 243 = .ok (.iconst 1, 1) := by decide +kernel
theorem dX9_word__244 : decode cX9_word_ 244 = .ok (.iadd, 1) := by decide +kernel
theorem dX9_word__245 : decode cX9_word_ 245 = .ok (.iastore, 1) := by decide +kernel
theorem dX9_word__246 : decode cX9_word_ 246 = .ok (.aload_n 0, 1) := by decide +kernel
theorem dX9_word__247 : decode cX9_word_ 247 = .ok (.getfield 83, 3) := by decide +kernel
theorem dX9_word__250 : decode cX9_word_ 250 = .ok (.iconst 4, 1) := by decide +kernel
theorem dX9_word__251 : decode cX9_word_ 251 = .ok (.iload_n 1, 1) := by decide +kernel
theorem dX9_word__252 : decode cX9_word_ 252 = .ok (.imul, 1) := by decide +kernel
theorem dX9_word__253 : decode cX9_word_ 253 = .ok (.iload_n 2, 1) := by decide +kernel
theorem dX9_word__254 : decode cX9_word_ 254 = .ok (.iadd, 1) := by decide +kernel
theorem dX9_word__255 : decode cX9_word_ 255 = .ok (.iaload, 1) := by decide +kernel
theorem dX9_word__256 : decode cX9_word_ 256 = .ok (.ireturn, 1) := by decide +kernel
theorem dX9_clear_0 : decode cX9_clear 0 = .ok (.aload_n 0, 1) := by decide +kernel
theorem dX9_clear_1 : decode cX9_clear 1 = .ok (.iconst 0, 1) := by decide +kernel
theorem dX9_clear_2 : decode cX9_clear 2 = .ok (.putfield 1, 3) := by decide +kernel
theorem dX9_clear_5 : decode cX9_clear 5 = .ok (.iload_n 1, 1) := by decide +kernel
theorem dX9_clear_6 : decode cX9_clear 6 = .ok (.invokestatic 214, 3) := by decide +kernel
theorem dX9_clear_9 : decode cX9_clear 9 = .ok (.ifCond .ne 6, 3) := by decide +kernel
theorem dX9_clear_12 : decode cX9_clear 12 = .ok (.bipush (-101), 2) := by decide +kernel
theorem dX9_clear_14 : decode cX9_clear 14 = .ok (.ireturn, 1) := by decide +kernel
theorem dX9_clear_15 : decode cX9_clear 15 = .ok (.iconst 0, 1) := by decide +kernel
theorem dX9_clear_16 : decode cX9_clear 16 = .ok (.istore_n 2, 1) := by decide +kernel
theorem dX9_clear_17 : decode cX9_clear 17 = .ok (.iconst 0, 1) := by decide +kernel
theorem dX9_clear_18 : decode cX9_clear 18 = .ok (.istore_n 3, 1) := by decide +kernel
theorem dX9_clear_19 : decode cX9_clear 19 = .ok (.iload_n 3, 1) := by decide +kernel
theorem dX9_clear_20 : decode cX9_clear 20 = .ok (.iconst 4, 1) := by decide +kernel
theorem dX9_clear_21 : decode cX9_clear 21 = .ok (.if_icmp .ge 33, 3) := by decide +kernel
theorem dX9_clear_24 : decode cX9_clear 24 = .ok (.iload_n 2, 1) := by decide +kernel
theorem dX9_clear_25 : decode cX9_clear 25 = .ok (.aload_n 0, 1) := by decide +kernel
theorem dX9_clear_26 : decode cX9_clear 26 = .ok (.getfield 83, 3) := by decide +kernel
theorem dX9_clear_29 : decode cX9_clear 29 = .ok (.iconst 4, 1) := by decide +kernel
theorem dX9_clear_30 : decode cX9_clear 30 = .ok (.iload_n 1, 1) := by decide +kernel
theorem dX9_clear_31 : decode cX9_clear 31 = .ok (.imul, 1) := by decide +kernel
theorem dX9_clear_32 : decode cX9_clear 32 = .ok (.iload_n 3, 1) := by decide +kernel
theorem dX9_clear_33 : decode cX9_clear 33 = .ok (.iadd, 1) := by decide +kernel
theorem dX9_clear_34 : decode cX9_clear 34 = .ok (.iaload, 1) := by decide +kernel
theorem dX9_clear_35 : decode cX9_clear 35 = .ok (.iadd, 1) := by decide +kernel
theorem dX9_clear_36 : decode cX9_clear 36 = .ok (.istore_n 2, 1) := by decide +kernel
theorem dX9_clear_37 : decode cX9_clear 37 = .ok (.aload_n 0, 1) := by decide +kernel
theorem dX9_clear_38 : decode cX9_clear 38 = .ok (.getfield 83, 3) := by decide +kernel
theorem dX9_clear_41 : decode cX9_clear 41 = .ok (.iconst 4, 1) := by decide +kernel
theorem dX9_clear_42 : decode cX9_clear 42 = .ok (.iload_n 1, 1) := by decide +kernel
theorem dX9_clear_43 : decode cX9_clear 43 = .ok (.imul, 1) := by decide +kernel
theorem dX9_clear_44 : decode cX9_clear 44 = .ok (.iload_n 3, 1) := by decide +kernel
theorem dX9_clear_45 : decode cX9_clear 45 = .ok (.iadd, 1) := by decide +kernel
theorem dX9_clear_46 : decode cX9_clear 46 = .ok (.iconst 0, 1) := by decide +kernel
theorem dX9_clear_47 : decode cX9_clear 47 = .ok (.iastore, 1) := by decide +kernel
theorem dX9_clear_48 : decode cX9_clear 48 = .ok (.iinc 3 1, 3) := by decide +kernel
theorem dX9_clear_51 : decode cX9_clear 51 = .ok (.goto (-32), 3) := by decide +kernel
theorem dX9_clear_54 : decode cX9_clear 54 = .ok (.iload_n 2, 1) := by decide +kernel
theorem dX9_clear_55 : decode cX9_clear 55 = .ok (.ireturn, 1) := by decide +kernel
theorem dX9_against_0 : decode cX9_against 0 = .ok (.aload_n 0, 1) := by decide +kernel
theorem dX9_against_1 : decode cX9_against 1 = .ok (.getfield 86, 3) := by decide +kernel
theorem dX9_against_4 : decode cX9_against 4 = .ok (.iload_n 1, 1) := by decide +kernel
theorem dX9_against_5 : decode cX9_against 5 = .ok (.iaload, 1) := by decide +kernel
theorem dX9_against_6 : decode cX9_against 6 = .ok (.istore 4, 2) := by decide +kernel
theorem dX9_against_8 : decode cX9_against 8 = .ok (.aload_n 0, 1) := by decide +kernel
theorem dX9_against_9 : decode cX9_against 9 = .ok (.getfield 65, 3) := by decide +kernel
theorem dX9_against_12 : decode cX9_against 12 = .ok (.iconst 5, 1) := by decide +kernel
theorem dX9_against_13 : decode cX9_against 13 = .ok (.iload_n 2, 1) := by decide +kernel
theorem dX9_against_14 : decode cX9_against 14 = .ok (.imul, 1) := by decide +kernel
theorem dX9_against_15 : decode cX9_against 15 = .ok (.iload_n 3, 1) := by decide +kernel
theorem dX9_against_16 : decode cX9_against 16 = .ok (.iadd, 1) := by decide +kernel
theorem dX9_against_17 : decode cX9_against 17 = .ok (.iaload, 1) := by decide +kernel
theorem dX9_against_18 : decode cX9_against 18 = .ok (.istore 5, 2) := by decide +kernel
theorem dX9_against_20 : decode cX9_against 20 = .ok (.iconst 0, 1) := by decide +kernel
theorem dX9_against_21 : decode cX9_against 21 = .ok (.istore 6, 2) := by decide +kernel
theorem dX9_against_23 : decode cX9_against 23 = .ok (.iload 6, 2) := by decide +kernel
theorem dX9_against_25 : decode cX9_against 25 = .ok (.iload 4, 2) := by decide +kernel
theorem dX9_against_27 : decode cX9_against 27 = .ok (.if_icmp .ge 56, 3) := by decide +kernel
theorem dX9_against_30 : decode cX9_against 30 = .ok (.iload 6, 2) := by decide +kernel
theorem dX9_against_32 : decode cX9_against 32 = .ok (.iload 5, 2) := by decide +kernel
theorem dX9_against_34 : decode cX9_against 34 = .ok (.if_icmp .ge 49, 3) := by decide +kernel
theorem dX9_against_37 : decode cX9_against 37 = .ok (.aload_n 0, 1) := by decide +kernel
theorem dX9_against_38 : decode cX9_against 38 = .ok (.getfield 89, 3) := by decide +kernel
theorem dX9_against_41 : decode cX9_against 41 = .ok (.bipush 8, 2) := by decide +kernel
theorem dX9_against_43 : decode cX9_against 43 = .ok (.iload_n 1, 1) := by decide +kernel
theorem dX9_against_44 : decode cX9_against 44 = .ok (.imul, 1) := by decide +kernel
theorem dX9_against_45 : decode cX9_against 45 = .ok (.iload 6, 2) := by decide +kernel
theorem dX9_against_47 : decode cX9_against 47 = .ok (.iadd, 1) := by decide +kernel
theorem dX9_against_48 : decode cX9_against 48 = .ok (.iaload, 1) := by decide +kernel
theorem dX9_against_49 : decode cX9_against 49 = .ok (.aload_n 0, 1) := by decide +kernel
theorem dX9_against_50 : decode cX9_against 50 = .ok (.getfield 68, 3) := by decide +kernel
theorem dX9_against_53 : decode cX9_against 53 = .ok (.bipush 40, 2) := by decide +kernel
theorem dX9_against_55 : decode cX9_against 55 = .ok (.iload_n 2, 1) := by decide +kernel
theorem dX9_against_56 : decode cX9_against 56 = .ok (.imul, 1) := by decide +kernel
theorem dX9_against_57 : decode cX9_against 57 = .ok (.bipush 8, 2) := by decide +kernel
theorem dX9_against_59 : decode cX9_against 59 = .ok (.iload_n 3, 1) := by decide +kernel
theorem dX9_against_60 : decode cX9_against 60 = .ok (.imul, 1) := by decide +kernel
theorem dX9_against_61 : decode cX9_against 61 = .ok (.iadd, 1) := by decide +kernel
theorem dX9_against_62 : decode cX9_against 62 = .ok (.iload 6, 2) := by decide +kernel
theorem dX9_against_64 : decode cX9_against 64 = .ok (.iadd, 1) := by decide +kernel
theorem dX9_against_65 : decode cX9_against 65 = .ok (.iaload, 1) := by decide +kernel
theorem dX9_against_66 : decode cX9_against 66 = .ok (.isub, 1) := by decide +kernel
theorem dX9_against_67 : decode cX9_against 67 = .ok (.istore 7, 2) := by decide +kernel
theorem dX9_against_69 : decode cX9_against 69 = .ok (.iload 7, 2) := by decide +kernel
theorem dX9_against_71 : decode cX9_against 71 = .ok (.ifCond .eq 6, 3) := by decide +kernel
theorem dX9_against_74 : decode cX9_against 74 = .ok (.iload 7, 2) := by decide +kernel
theorem dX9_against_76 : decode cX9_against 76 = .ok (.ireturn, 1) := by decide +kernel
theorem dX9_against_77 : decode cX9_against 77 = .ok (.iinc 6 1, 3) := by decide +kernel
theorem dX9_against_80 : decode cX9_against 80 = .ok (.goto (-57), 3) := by decide +kernel
theorem dX9_against_83 : decode cX9_against 83 = .ok (.iload 4, 2) := by decide +kernel
theorem dX9_against_85 : decode cX9_against 85 = .ok (.iload 5, 2) := by decide +kernel
theorem dX9_against_87 : decode cX9_against 87 = .ok (.isub, 1) := by decide +kernel
theorem dX9_against_88 : decode cX9_against 88 = .ok (.ireturn, 1) := by decide +kernel
theorem dX9_least_0 : decode cX9_least 0 = .ok (.iload_n 0, 1) := by decide +kernel
theorem dX9_least_1 : decode cX9_least 1 = .ok (.iload_n 1, 1) := by decide +kernel
theorem dX9_least_2 : decode cX9_least 2 = .ok (.if_icmp .ge 7, 3) := by decide +kernel
theorem dX9_least_5 : decode cX9_least 5 = .ok (.iload_n 0, 1) := by decide +kernel
theorem dX9_least_6 : decode cX9_least 6 = .ok (.goto 4, 3) := by decide +kernel
theorem dX9_least_9 : decode cX9_least 9 = .ok (.iload_n 1, 1) := by decide +kernel
theorem dX9_least_10 : decode cX9_least 10 = .ok (.ireturn, 1) := by decide +kernel
theorem dX9_changes_0 : decode cX9_changes 0 = .ok (.aload_n 0, 1) := by decide +kernel
theorem dX9_changes_1 : decode cX9_changes 1 = .ok (.getfield 86, 3) := by decide +kernel
theorem dX9_changes_4 : decode cX9_changes 4 = .ok (.iload_n 1, 1) := by decide +kernel
theorem dX9_changes_5 : decode cX9_changes 5 = .ok (.iaload, 1) := by decide +kernel
theorem dX9_changes_6 : decode cX9_changes 6 = .ok (.istore_n 3, 1) := by decide +kernel
theorem dX9_changes_7 : decode cX9_changes 7 = .ok (.aload_n 0, 1) := by decide +kernel
theorem dX9_changes_8 : decode cX9_changes 8 = .ok (.getfield 65, 3) := by decide +kernel
theorem dX9_changes_11 : decode cX9_changes 11 = .ok (.iconst 5, 1) := by decide +kernel
theorem dX9_changes_12 : decode cX9_changes 12 = .ok (.iload_n 2, 1) := by decide +kernel
theorem dX9_changes_13 : decode cX9_changes 13 = .ok (.imul, 1) := by decide +kernel
theorem dX9_changes_14 : decode cX9_changes 14 = .ok (.iaload, 1) := by decide +kernel
theorem dX9_changes_15 : decode cX9_changes 15 = .ok (.istore 4, 2) := by decide +kernel
theorem dX9_changes_17 : decode cX9_changes 17 = .ok (.iconst 0, 1) := by decide +kernel
theorem dX9_changes_18 : decode cX9_changes 18 = .ok (.istore 5, 2) := by decide +kernel
theorem dX9_changes_20 : decode cX9_changes 20 = .ok (.iload 5, 2) := by decide +kernel
theorem dX9_changes_22 : decode cX9_changes 22 = .ok (.iload_n 3, 1) := by decide +kernel
theorem dX9_changes_23 : decode cX9_changes 23 = .ok (.if_icmp .gt 155, 3) := by decide +kernel
theorem dX9_changes_26 : decode cX9_changes 26 = .ok (.iconst 0, 1) := by decide +kernel
theorem dX9_changes_27 : decode cX9_changes 27 = .ok (.istore 6, 2) := by decide +kernel
theorem dX9_changes_29 : decode cX9_changes 29 = .ok (.iload 6, 2) := by decide +kernel
theorem dX9_changes_31 : decode cX9_changes 31 = .ok (.iload 4, 2) := by decide +kernel
theorem dX9_changes_33 : decode cX9_changes 33 = .ok (.if_icmp .gt 139, 3) := by decide +kernel
theorem dX9_changes_36 : decode cX9_changes 36 = .ok (.iload 5, 2) := by decide +kernel
theorem dX9_changes_38 : decode cX9_changes 38 = .ok (.iload 6, 2) := by decide +kernel
theorem dX9_changes_40 : decode cX9_changes 40 = .ok (.iadd, 1) := by decide +kernel
theorem dX9_changes_41 : decode cX9_changes 41 = .ok (.istore 7, 2) := by decide +kernel
theorem dX9_changes_43 : decode cX9_changes 43 = .ok (.iload 5, 2) := by decide +kernel
theorem dX9_changes_45 : decode cX9_changes 45 = .ok (.ifCond .le 106, 3) := by decide +kernel
theorem dX9_changes_48 : decode cX9_changes 48 = .ok (.iload 6, 2) := by decide +kernel
theorem dX9_changes_50 : decode cX9_changes 50 = .ok (.ifCond .le 101, 3) := by decide +kernel
theorem dX9_changes_53 : decode cX9_changes 53 = .ok (.aload_n 0, 1) := by decide +kernel
theorem dX9_changes_54 : decode cX9_changes 54 = .ok (.getfield 89, 3) := by decide +kernel
theorem dX9_changes_57 : decode cX9_changes 57 = .ok (.bipush 8, 2) := by decide +kernel
theorem dX9_changes_59 : decode cX9_changes 59 = .ok (.iload_n 1, 1) := by decide +kernel
theorem dX9_changes_60 : decode cX9_changes 60 = .ok (.imul, 1) := by decide +kernel
theorem dX9_changes_61 : decode cX9_changes 61 = .ok (.iload 5, 2) := by decide +kernel
theorem dX9_changes_63 : decode cX9_changes 63 = .ok (.iadd, 1) := by decide +kernel
theorem dX9_changes_64 : decode cX9_changes 64 = .ok (.iconst 1, 1) := by decide +kernel
theorem dX9_changes_65 : decode cX9_changes 65 = .ok (.isub, 1) := by decide +kernel
theorem dX9_changes_66 : decode cX9_changes 66 = .ok (.iaload, 1) := by decide +kernel
theorem dX9_changes_67 : decode cX9_changes 67 = .ok (.aload_n 0, 1) := by decide +kernel
theorem dX9_changes_68 : decode cX9_changes 68 = .ok (.getfield 68, 3) := by decide +kernel
theorem dX9_changes_71 : decode cX9_changes 71 = .ok (.bipush 40, 2) := by decide +kernel
theorem dX9_changes_73 : decode cX9_changes 73 = .ok (.iload_n 2, 1) := by decide +kernel
theorem dX9_changes_74 : decode cX9_changes 74 = .ok (.imul, 1) := by decide +kernel
theorem dX9_changes_75 : decode cX9_changes 75 = .ok (.iload 6, 2) := by decide +kernel
theorem dX9_changes_77 : decode cX9_changes 77 = .ok (.iadd, 1) := by decide +kernel
theorem dX9_changes_78 : decode cX9_changes 78 = .ok (.iconst 1, 1) := by decide +kernel
theorem dX9_changes_79 : decode cX9_changes 79 = .ok (.isub, 1) := by decide +kernel
theorem dX9_changes_80 : decode cX9_changes 80 = .ok (.iaload, 1) := by decide +kernel
theorem dX9_changes_81 : decode cX9_changes 81 = .ok (.if_icmp .ne 7, 3) := by decide +kernel
theorem dX9_changes_84 : decode cX9_changes 84 = .ok (.iconst 0, 1) := by decide +kernel
theorem dX9_changes_85 : decode cX9_changes 85 = .ok (.goto 4, 3) := by decide +kernel
theorem dX9_changes_88 : decode cX9_changes 88 = .ok (.iconst 1, 1) := by decide +kernel
theorem dX9_changes_89 : decode cX9_changes 89 = .ok (.istore 8, 2) := by decide +kernel
theorem dX9_changes_91 : decode cX9_changes 91 = .ok (.aload_n 0, 1) := by decide +kernel
theorem dX9_changes_92 : decode cX9_changes 92 = .ok (.getfield 92, 3) := by decide +kernel
theorem dX9_changes_95 : decode cX9_changes 95 = .ok (.bipush 9, 2) := by decide +kernel
theorem dX9_changes_97 : decode cX9_changes 97 = .ok (.iload 5, 2) := by decide +kernel
theorem dX9_changes_99 : decode cX9_changes 99 = .ok (.iconst 1, 1) := by decide +kernel
theorem dX9_changes_100 : decode cX9_changes 100 = .ok (.isub, 1) := by decide +kernel
theorem dX9_changes_101 : decode cX9_changes 101 = .ok (.imul, 1) := by decide +kernel
theorem dX9_changes_102 : decode cX9_changes 102 = .ok (.iload 6, 2) := by decide +kernel
theorem dX9_changes_104 : decode cX9_changes 104 = .ok (.iadd, 1) := by decide +kernel
theorem dX9_changes_105 : decode cX9_changes 105 = .ok (.iconst 1, 1) := by decide +kernel
theorem dX9_changes_106 : decode cX9_changes 106 = .ok (.isub, 1) := by decide +kernel
theorem dX9_changes_107 : decode cX9_changes 107 = .ok (.iaload, 1) := by decide +kernel
theorem dX9_changes_108 : decode cX9_changes 108 = .ok (.iload 8, 2) := by decide +kernel
theorem dX9_changes_110 : decode cX9_changes 110 = .ok (.iadd, 1) := by decide +kernel
theorem dX9_changes_111 : decode cX9_changes 111 = .ok (.iconst 1, 1) := by decide +kernel
theorem dX9_changes_112 : decode cX9_changes 112 = .ok (.aload_n 0, 1) := by decide +kernel
theorem dX9_changes_113 : decode cX9_changes 113 = .ok (.getfield 92, 3) := by decide +kernel
theorem dX9_changes_116 : decode cX9_changes 116 = .ok (.bipush 9, 2) := by decide +kernel
theorem dX9_changes_118 : decode cX9_changes 118 = .ok (.iload 5, 2) := by decide +kernel
theorem dX9_changes_120 : decode cX9_changes 120 = .ok (.iconst 1, 1) := by decide +kernel
theorem dX9_changes_121 : decode cX9_changes 121 = .ok (.isub, 1) := by decide +kernel
theorem dX9_changes_122 : decode cX9_changes 122 = .ok (.imul, 1) := by decide +kernel
theorem dX9_changes_123 : decode cX9_changes 123 = .ok (.iload 6, 2) := by decide +kernel
theorem dX9_changes_125 : decode cX9_changes 125 = .ok (.iadd, 1) := by decide +kernel
theorem dX9_changes_126 : decode cX9_changes 126 = .ok (.iaload, 1) := by decide +kernel
theorem dX9_changes_127 : decode cX9_changes 127 = .ok (.aload_n 0, 1) := by decide +kernel
theorem dX9_changes_128 : decode cX9_changes 128 = .ok (.getfield 92, 3) := by decide +kernel
theorem dX9_changes_131 : decode cX9_changes 131 = .ok (.bipush 9, 2) := by decide +kernel
theorem dX9_changes_133 : decode cX9_changes 133 = .ok (.iload 5, 2) := by decide +kernel
theorem dX9_changes_135 : decode cX9_changes 135 = .ok (.imul, 1) := by decide +kernel
theorem dX9_changes_136 : decode cX9_changes 136 = .ok (.iload 6, 2) := by decide +kernel
theorem dX9_changes_138 : decode cX9_changes 138 = .ok (.iadd, 1) := by decide +kernel
theorem dX9_changes_139 : decode cX9_changes 139 = .ok (.iconst 1, 1) := by decide +kernel
theorem dX9_changes_140 : decode cX9_changes 140 = .ok (.isub, 1) := by decide +kernel
theorem dX9_changes_141 : decode cX9_changes 141 = .ok (.iaload, 1) := by decide +kernel
theorem dX9_changes_142 : decode cX9_changes 142 = .ok (.invokestatic 219, 3) := by decide +kernel
theorem dX9_changes_145 : decode cX9_changes 145 = .ok (.iadd, 1) := by decide +kernel
theorem dX9_changes_146 : decode cX9_changes 146 = .ok (.invokestatic 219, 3) := by decide +kernel
theorem dX9_changes_149 : decode cX9_changes 149 = .ok (.istore 7, 2) := by decide +kernel
theorem dX9_changes_151 : decode cX9_changes 151 = .ok (.aload_n 0, 1) := by decide +kernel
theorem dX9_changes_152 : decode cX9_changes 152 = .ok (.getfield 92, 3) := by decide +kernel
theorem dX9_changes_155 : decode cX9_changes 155 = .ok (.bipush 9, 2) := by decide +kernel
theorem dX9_changes_157 : decode cX9_changes 157 = .ok (.iload 5, 2) := by decide +kernel
theorem dX9_changes_159 : decode cX9_changes 159 = .ok (.imul, 1) := by decide +kernel
theorem dX9_changes_160 : decode cX9_changes 160 = .ok (.iload 6, 2) := by decide +kernel
theorem dX9_changes_162 : decode cX9_changes 162 = .ok (.iadd, 1) := by decide +kernel
theorem dX9_changes_163 : decode cX9_changes 163 = .ok (.iload 7, 2) := by decide +kernel
theorem dX9_changes_165 : decode cX9_changes 165 = .ok (.iastore, 1) := by decide +kernel
theorem dX9_changes_166 : decode cX9_changes 166 = .ok (.iinc 6 1, 3) := by decide +kernel
theorem dX9_changes_169 : decode cX9_changes 169 = .ok (.goto (-140), 3) := by decide +kernel
theorem dX9_changes_172 : decode cX9_changes 172 = .ok (.iinc 5 1, 3) := by decide +kernel
theorem dX9_changes_175 : decode cX9_changes 175 = .ok (.goto (-155), 3) := by decide +kernel
theorem dX9_changes_178 : decode cX9_changes 178 = .ok (.aload_n 0, 1) := by decide +kernel
theorem dX9_changes_179 : decode cX9_changes 179 = .ok (.getfield 92, 3) := by decide +kernel
theorem dX9_changes_182 : decode cX9_changes 182 = .ok (.bipush 9, 2) := by decide +kernel
theorem dX9_changes_184 : decode cX9_changes 184 = .ok (.iload_n 3, 1) := by decide +kernel
theorem dX9_changes_185 : decode cX9_changes 185 = .ok (.imul, 1) := by decide +kernel
theorem dX9_changes_186 : decode cX9_changes 186 = .ok (.iload 4, 2) := by decide +kernel
theorem dX9_changes_188 : decode cX9_changes 188 = .ok (.iadd, 1) := by decide +kernel
theorem dX9_changes_189 : decode cX9_changes 189 = .ok (.iaload, 1) := by decide +kernel
theorem dX9_changes_190 : decode cX9_changes 190 = .ok (.ireturn, 1) := by decide +kernel
theorem dX9_fitsSigns_0 : decode cX9_fitsSigns 0 = .ok (.aload_n 0, 1) := by decide +kernel
theorem dX9_fitsSigns_1 : decode cX9_fitsSigns 1 = .ok (.getfield 86, 3) := by decide +kernel
theorem dX9_fitsSigns_4 : decode cX9_fitsSigns 4 = .ok (.iload_n 1, 1) := by decide +kernel
theorem dX9_fitsSigns_5 : decode cX9_fitsSigns 5 = .ok (.iaload, 1) := by decide +kernel
theorem dX9_fitsSigns_6 : decode cX9_fitsSigns 6 = .ok (.istore_n 3, 1) := by decide +kernel
theorem dX9_fitsSigns_7 : decode cX9_fitsSigns 7 = .ok (.aload_n 0, 1) := by decide +kernel
theorem dX9_fitsSigns_8 : decode cX9_fitsSigns 8 = .ok (.getfield 65, 3) := by decide +kernel
theorem dX9_fitsSigns_11 : decode cX9_fitsSigns 11 = .ok (.iconst 5, 1) := by decide +kernel
theorem dX9_fitsSigns_12 : decode cX9_fitsSigns 12 = .ok (.iload_n 2, 1) := by decide +kernel
theorem dX9_fitsSigns_13 : decode cX9_fitsSigns 13 = .ok (.imul, 1) := by decide +kernel
theorem dX9_fitsSigns_14 : decode cX9_fitsSigns 14 = .ok (.iaload, 1) := by decide +kernel
theorem dX9_fitsSigns_15 : decode cX9_fitsSigns 15 = .ok (.istore 4, 2) := by decide +kernel
theorem dX9_fitsSigns_17 : decode cX9_fitsSigns 17 = .ok (.iconst 0, 1) := by decide +kernel
theorem dX9_fitsSigns_18 : decode cX9_fitsSigns 18 = .ok (.istore 5, 2) := by decide +kernel
theorem dX9_fitsSigns_20 : decode cX9_fitsSigns 20 = .ok (.iload 5, 2) := by decide +kernel
theorem dX9_fitsSigns_22 : decode cX9_fitsSigns 22 = .ok (.iload 4, 2) := by decide +kernel
theorem dX9_fitsSigns_24 : decode cX9_fitsSigns 24 = .ok (.if_icmp .gt 211, 3) := by decide +kernel
theorem dX9_fitsSigns_27 : decode cX9_fitsSigns 27 = .ok (.iload 5, 2) := by decide +kernel
theorem dX9_fitsSigns_29 : decode cX9_fitsSigns 29 = .ok (.ifCond .le 20, 3) := by decide +kernel
theorem dX9_fitsSigns_32 : decode cX9_fitsSigns 32 = .ok (.aload_n 0, 1) := by decide +kernel
theorem dX9_fitsSigns_33 : decode cX9_fitsSigns 33 = .ok (.getfield 68, 3) := by decide +kernel
theorem dX9_fitsSigns_36 : decode cX9_fitsSigns 36 = .ok (.bipush 40, 2) := by decide +kernel
theorem dX9_fitsSigns_38 : decode cX9_fitsSigns 38 = .ok (.iload_n 2, 1) := by decide +kernel
theorem dX9_fitsSigns_39 : decode cX9_fitsSigns 39 = .ok (.imul, 1) := by decide +kernel
theorem dX9_fitsSigns_40 : decode cX9_fitsSigns 40 = .ok (.iload 5, 2) := by decide +kernel
theorem dX9_fitsSigns_42 : decode cX9_fitsSigns 42 = .ok (.iadd, 1) := by decide +kernel
theorem dX9_fitsSigns_43 : decode cX9_fitsSigns 43 = .ok (.iconst 1, 1) := by decide +kernel
theorem dX9_fitsSigns_44 : decode cX9_fitsSigns 44 = .ok (.isub, 1) := by decide +kernel
theorem dX9_fitsSigns_45 : decode cX9_fitsSigns 45 = .ok (.iaload, 1) := by decide +kernel
theorem dX9_fitsSigns_46 : decode cX9_fitsSigns 46 = .ok (.goto 4, 3) := by decide +kernel
theorem dX9_fitsSigns_49 : decode cX9_fitsSigns 49 = .ok (.iconst 0, 1) := by decide +kernel
theorem dX9_fitsSigns_50 : decode cX9_fitsSigns 50 = .ok (.istore 6, 2) := by decide +kernel
theorem dX9_fitsSigns_52 : decode cX9_fitsSigns 52 = .ok (.iconst 0, 1) := by decide +kernel
theorem dX9_fitsSigns_53 : decode cX9_fitsSigns 53 = .ok (.istore 7, 2) := by decide +kernel
theorem dX9_fitsSigns_55 : decode cX9_fitsSigns 55 = .ok (.iload 7, 2) := by decide +kernel
theorem dX9_fitsSigns_57 : decode cX9_fitsSigns 57 = .ok (.iload_n 3, 1) := by decide +kernel
theorem dX9_fitsSigns_58 : decode cX9_fitsSigns 58 = .ok (.if_icmp .gt 171, 3) := by decide +kernel
theorem dX9_fitsSigns_61 : decode cX9_fitsSigns 61 = .ok (.iload 5, 2) := by decide +kernel
theorem dX9_fitsSigns_63 : decode cX9_fitsSigns 63 = .ok (.ifCond .ne 18, 3) := by decide +kernel
theorem dX9_fitsSigns_66 : decode cX9_fitsSigns 66 = .ok (.iload 7, 2) := by decide +kernel
theorem dX9_fitsSigns_68 : decode cX9_fitsSigns 68 = .ok (.ifCond .ne 7, 3) := by decide +kernel
