theorem dX8_init_0 : decode cX8_init 0 = .ok (.aload_n 0, 1) := by decide +kernel
theorem dX8_init_1 : decode cX8_init 1 = .ok (.invokespecial 1, 3) := by decide +kernel
theorem dX8_init_4 : decode cX8_init 4 = .ok (.aload_n 0, 1) := by decide +kernel
theorem dX8_init_5 : decode cX8_init 5 = .ok (.bipush 8, 2) := by decide +kernel
theorem dX8_init_7 : decode cX8_init 7 = .ok (.newarray .int, 2) := by decide +kernel
theorem dX8_init_9 : decode cX8_init 9 = .ok (.dup, 1) := by decide +kernel
theorem dX8_init_10 : decode cX8_init 10 = .ok (.iconst 0, 1) := by decide +kernel
theorem dX8_init_11 : decode cX8_init 11 = .ok (.iconst 1, 1) := by decide +kernel
theorem dX8_init_12 : decode cX8_init 12 = .ok (.iastore, 1) := by decide +kernel
theorem dX8_init_13 : decode cX8_init 13 = .ok (.dup, 1) := by decide +kernel
theorem dX8_init_14 : decode cX8_init 14 = .ok (.iconst 1, 1) := by decide +kernel
theorem dX8_init_15 : decode cX8_init 15 = .ok (.sipush 250, 3) := by decide +kernel
theorem dX8_init_18 : decode cX8_init 18 = .ok (.iastore, 1) := by decide +kernel
theorem dX8_init_19 : decode cX8_init 19 = .ok (.dup, 1) := by decide +kernel
theorem dX8_init_20 : decode cX8_init 20 = .ok (.iconst 2, 1) := by decide +kernel
theorem dX8_init_21 : decode cX8_init 21 = .ok (.sipush 244, 3) := by decide +kernel
theorem dX8_init_24 : decode cX8_init 24 = .ok (.iastore, 1) := by decide +kernel
theorem dX8_init_25 : decode cX8_init 25 = .ok (.dup, 1) := by decide +kernel
theorem dX8_init_26 : decode cX8_init 26 = .ok (.iconst 3, 1) := by decide +kernel
theorem dX8_init_27 : decode cX8_init 27 = .ok (.sipush 248, 3) := by decide +kernel
theorem dX8_init_30 : decode cX8_init 30 = .ok (.iastore, 1) := by decide +kernel
theorem dX8_init_31 : decode cX8_init 31 = .ok (.dup, 1) := by decide +kernel
theorem dX8_init_32 : decode cX8_init 32 = .ok (.iconst 4, 1) := by decide +kernel
theorem dX8_init_33 : decode cX8_init 33 = .ok (.sipush 240, 3) := by decide +kernel
theorem dX8_init_36 : decode cX8_init 36 = .ok (.iastore, 1) := by decide +kernel
theorem dX8_init_37 : decode cX8_init 37 = .ok (.dup, 1) := by decide +kernel
theorem dX8_init_38 : decode cX8_init 38 = .ok (.iconst 5, 1) := by decide +kernel
theorem dX8_init_39 : decode cX8_init 39 = .ok (.sipush 224, 3) := by decide +kernel
theorem dX8_init_42 : decode cX8_init 42 = .ok (.iastore, 1) := by decide +kernel
theorem dX8_init_43 : decode cX8_init 43 = .ok (.dup, 1) := by decide +kernel
theorem dX8_init_44 : decode cX8_init 44 = .ok (.bipush 6, 2) := by decide +kernel
theorem dX8_init_46 : decode cX8_init 46 = .ok (.sipush 192, 3) := by decide +kernel
theorem dX8_init_49 : decode cX8_init 49 = .ok (.iastore, 1) := by decide +kernel
theorem dX8_init_50 : decode cX8_init 50 = .ok (.dup, 1) := by decide +kernel
theorem dX8_init_51 : decode cX8_init 51 = .ok (.bipush 7, 2) := by decide +kernel
theorem dX8_init_53 : decode cX8_init 53 = .ok (.sipush 128, 3) := by decide +kernel
theorem dX8_init_56 : decode cX8_init 56 = .ok (.iastore, 1) := by decide +kernel
theorem dX8_init_57 : decode cX8_init 57 = .ok (.putfield 7, 3) := by decide +kernel
theorem dX8_init_60 : decode cX8_init 60 = .ok (.aload_n 0, 1) := by decide +kernel
theorem dX8_init_61 : decode cX8_init 61 = .ok (.sipush 513, 3) := by decide +kernel
theorem dX8_init_64 : decode cX8_init 64 = .ok (.newarray .int, 2) := by decide +kernel
theorem dX8_init_66 : decode cX8_init 66 = .ok (.putfield 13, 3) := by decide +kernel
theorem dX8_init_69 : decode cX8_init 69 = .ok (.aload_n 0, 1) := by decide +kernel
theorem dX8_init_70 : decode cX8_init 70 = .ok (.sipush 513, 3) := by decide +kernel
theorem dX8_init_73 : decode cX8_init 73 = .ok (.newarray .int, 2) := by decide +kernel
theorem dX8_init_75 : decode cX8_init 75 = .ok (.putfield 16, 3) := by decide +kernel
theorem dX8_init_78 : decode cX8_init 78 = .ok (.aload_n 0, 1) := by decide +kernel
theorem dX8_init_79 : decode cX8_init 79 = .ok (.sipush 513, 3) := by decide +kernel
theorem dX8_init_82 : decode cX8_init 82 = .ok (.newarray .int, 2) := by decide +kernel
theorem dX8_init_84 : decode cX8_init 84 = .ok (.putfield 19, 3) := by decide +kernel
theorem dX8_init_87 : decode cX8_init 87 = .ok (.aload_n 0, 1) := by decide +kernel
theorem dX8_init_88 : decode cX8_init 88 = .ok (.sipush 12312, 3) := by decide +kernel
theorem dX8_init_91 : decode cX8_init 91 = .ok (.newarray .long, 2) := by decide +kernel
theorem dX8_init_93 : decode cX8_init 93 = .ok (.putfield 22, 3) := by decide +kernel
theorem dX8_init_96 : decode cX8_init 96 = .ok (.aload_n 0, 1) := by decide +kernel
theorem dX8_init_97 : decode cX8_init 97 = .ok (.sipush 12312, 3) := by decide +kernel
theorem dX8_init_100 : decode cX8_init 100 = .ok (.newarray .double, 2) := by decide +kernel
theorem dX8_init_102 : decode cX8_init 102 = .ok (.putfield 26, 3) := by decide +kernel
theorem dX8_init_105 : decode cX8_init 105 = .ok (.aload_n 0, 1) := by decide +kernel
theorem dX8_init_106 : decode cX8_init 106 = .ok (.bipush 12, 2) := by decide +kernel
theorem dX8_init_108 : decode cX8_init 108 = .ok (.newarray .int, 2) := by decide +kernel
theorem dX8_init_110 : decode cX8_init 110 = .ok (.putfield 30, 3) := by decide +kernel
theorem dX8_init_113 : decode cX8_init 113 = .ok (.aload_n 0, 1) := by decide +kernel
theorem dX8_init_114 : decode cX8_init 114 = .ok (.bipush 24, 2) := by decide +kernel
theorem dX8_init_116 : decode cX8_init 116 = .ok (.newarray .int, 2) := by decide +kernel
theorem dX8_init_118 : decode cX8_init 118 = .ok (.putfield 33, 3) := by decide +kernel
theorem dX8_init_121 : decode cX8_init 121 = .ok (.aload_n 0, 1) := by decide +kernel
theorem dX8_init_122 : decode cX8_init 122 = .ok (.bipush 24, 2) := by decide +kernel
theorem dX8_init_124 : decode cX8_init 124 = .ok (.newarray .long, 2) := by decide +kernel
theorem dX8_init_126 : decode cX8_init 126 = .ok (.putfield 36, 3) := by decide +kernel
theorem dX8_init_129 : decode cX8_init 129 = .ok (.aload_n 0, 1) := by decide +kernel
theorem dX8_init_130 : decode cX8_init 130 = .ok (.bipush 24, 2) := by decide +kernel
theorem dX8_init_132 : decode cX8_init 132 = .ok (.newarray .double, 2) := by decide +kernel
theorem dX8_init_134 : decode cX8_init 134 = .ok (.putfield 39, 3) := by decide +kernel
theorem dX8_init_137 : decode cX8_init 137 = .ok (.aload_n 0, 1) := by decide +kernel
theorem dX8_init_138 : decode cX8_init 138 = .ok (.bipush 24, 2) := by decide +kernel
theorem dX8_init_140 : decode cX8_init 140 = .ok (.newarray .int, 2) := by decide +kernel
theorem dX8_init_142 : decode cX8_init 142 = .ok (.putfield 42, 3) := by decide +kernel
theorem dX8_init_145 : decode cX8_init 145 = .ok (.aload_n 0, 1) := by decide +kernel
theorem dX8_init_146 : decode cX8_init 146 = .ok (.bipush 24, 2) := by decide +kernel
theorem dX8_init_148 : decode cX8_init 148 = .ok (.newarray .int, 2) := by decide +kernel
theorem dX8_init_150 : decode cX8_init 150 = .ok (.putfield 45, 3) := by decide +kernel
theorem dX8_init_153 : decode cX8_init 153 = .ok (.return_, 1) := by decide +kernel
theorem dX8_refuse_0 : decode cX8_refuse 0 = .ok (.aload_n 0, 1) := by decide +kernel
theorem dX8_refuse_1 : decode cX8_refuse 1 = .ok (.iload_n 1, 1) := by decide +kernel
theorem dX8_refuse_2 : decode cX8_refuse 2 = .ok (.putfield 48, 3) := by decide +kernel
theorem dX8_refuse_5 : decode cX8_refuse 5 = .ok (.iconst 0, 1) := by decide +kernel
theorem dX8_refuse_6 : decode cX8_refuse 6 = .ok (.ireturn, 1) := by decide +kernel
theorem dX8_isIn_0 : decode cX8_isIn 0 = .ok (.iload_n 0, 1) := by decide +kernel
theorem dX8_isIn_1 : decode cX8_isIn 1 = .ok (.iload_n 1, 1) := by decide +kernel
theorem dX8_isIn_2 : decode cX8_isIn 2 = .ok (.if_icmp .lt 12, 3) := by decide +kernel
theorem dX8_isIn_5 : decode cX8_isIn 5 = .ok (.iload_n 0, 1) := by decide +kernel
theorem dX8_isIn_6 : decode cX8_isIn 6 = .ok (.iload_n 2, 1) := by decide +kernel
theorem dX8_isIn_7 : decode cX8_isIn 7 = .ok (.if_icmp .gt 7, 3) := by decide +kernel
theorem dX8_isIn_10 : decode cX8_isIn 10 = .ok (.iconst 1, 1) := by decide +kernel
theorem dX8_isIn_11 : decode cX8_isIn 11 = .ok (.goto 4, 3) := by decide +kernel
theorem dX8_isIn_14 : decode cX8_isIn 14 = .ok (.iconst 0, 1) := by decide +kernel
theorem dX8_isIn_15 : decode cX8_isIn 15 = .ok (.ireturn, 1) := by decide +kernel
theorem dX8_isColumn_0 : decode cX8_isColumn 0 = .ok (.iload_n 0, 1) := by decide +kernel
theorem dX8_isColumn_1 : decode cX8_isColumn 1 = .ok (.iconst 0, 1) := by decide +kernel
theorem dX8_isColumn_2 : decode cX8_isColumn 2 = .ok (.bipush 11, 2) := by decide +kernel
theorem dX8_isColumn_4 : decode cX8_isColumn 4 = .ok (.invokestatic 52, 3) := by decide +kernel
theorem dX8_isColumn_7 : decode cX8_isColumn 7 = .ok (.ireturn, 1) := by decide +kernel
theorem dX8_in_0 : decode cX8_in 0 = .ok (.aload_n 0, 1) := by decide +kernel
theorem dX8_in_1 : decode cX8_in 1 = .ok (.getfield 30, 3) := by decide +kernel
theorem dX8_in_4 : decode cX8_in 4 = .ok (.iload_n 1, 1) := by decide +kernel
theorem dX8_in_5 : decode cX8_in 5 = .ok (.iaload, 1) := by decide +kernel
theorem dX8_in_6 : decode cX8_in 6 = .ok (.iconst 1, 1) := by decide +kernel
theorem dX8_in_7 : decode cX8_in 7 = .ok (.isub, 1) := by decide +kernel
theorem dX8_in_8 : decode cX8_in 8 = .ok (.ireturn, 1) := by decide +kernel
theorem dX8_isRow_0 : decode cX8_isRow 0 = .ok (.aload_n 0, 1) := by decide +kernel
theorem dX8_isRow_1 : decode cX8_isRow 1 = .ok (.getfield 13, 3) := by decide +kernel
theorem dX8_isRow_4 : decode cX8_isRow 4 = .ok (.iload_n 1, 1) := by decide +kernel
theorem dX8_isRow_5 : decode cX8_isRow 5 = .ok (.iaload, 1) := by decide +kernel
theorem dX8_isRow_6 : decode cX8_isRow 6 = .ok (.bipush 12, 2) := by decide +kernel
theorem dX8_isRow_8 : decode cX8_isRow 8 = .ok (.if_icmp .ge 7, 3) := by decide +kernel
theorem dX8_isRow_11 : decode cX8_isRow 11 = .ok (.iconst 1, 1) := by decide +kernel
theorem dX8_isRow_12 : decode cX8_isRow 12 = .ok (.goto 4, 3) := by decide +kernel
theorem dX8_isRow_15 : decode cX8_isRow 15 = .ok (.iconst 0, 1) := by decide +kernel
theorem dX8_isRow_16 : decode cX8_isRow 16 = .ok (.ireturn, 1) := by decide +kernel
theorem dX8_isPlain_0 : decode cX8_isPlain 0 = .ok (.aload_n 0, 1) := by decide +kernel
theorem dX8_isPlain_1 : decode cX8_isPlain 1 = .ok (.getfield 13, 3) := by decide +kernel
theorem dX8_isPlain_4 : decode cX8_isPlain 4 = .ok (.iload_n 1, 1) := by decide +kernel
theorem dX8_isPlain_5 : decode cX8_isPlain 5 = .ok (.iaload, 1) := by decide +kernel
theorem dX8_isPlain_6 : decode cX8_isPlain 6 = .ok (.bipush 8, 2) := by decide +kernel
theorem dX8_isPlain_8 : decode cX8_isPlain 8 = .ok (.if_icmp .ge 7, 3) := by decide +kernel
theorem dX8_isPlain_11 : decode cX8_isPlain 11 = .ok (.iconst 1, 1) := by decide +kernel
theorem dX8_isPlain_12 : decode cX8_isPlain 12 = .ok (.goto 4, 3) := by decide +kernel
theorem dX8_isPlain_15 : decode cX8_isPlain 15 = .ok (.iconst 0, 1) := by decide +kernel
theorem dX8_isPlain_16 : decode cX8_isPlain 16 = .ok (.ireturn, 1) := by decide +kernel
theorem dX8_hasPlace_0 : decode cX8_hasPlace 0 = .ok (.iload_n 2, 1) := by decide +kernel
theorem dX8_hasPlace_1 : decode cX8_hasPlace 1 = .ok (.ifCond .lt 17, 3) := by decide +kernel
theorem dX8_hasPlace_4 : decode cX8_hasPlace 4 = .ok (.iload_n 2, 1) := by decide +kernel
theorem dX8_hasPlace_5 : decode cX8_hasPlace 5 = .ok (.aload_n 0, 1) := by decide +kernel
theorem dX8_hasPlace_6 : decode cX8_hasPlace 6 = .ok (.getfield 16, 3) := by decide +kernel
theorem dX8_hasPlace_9 : decode cX8_hasPlace 9 = .ok (.iload_n 1, 1) := by decide +kernel
theorem dX8_hasPlace_10 : decode cX8_hasPlace 10 = .ok (.iaload, 1) := by decide +kernel
theorem dX8_hasPlace_11 : decode cX8_hasPlace 11 = .ok (.if_icmp .ge 7, 3) := by decide +kernel
theorem dX8_hasPlace_14 : decode cX8_hasPlace 14 = .ok (.iconst 1, 1) := by decide +kernel
theorem dX8_hasPlace_15 : decode cX8_hasPlace 15 = .ok (.goto 4, 3) := by decide +kernel
theorem dX8_hasPlace_18 : decode cX8_hasPlace 18 = .ok (.iconst 0, 1) := by decide +kernel
theorem dX8_hasPlace_19 : decode cX8_hasPlace 19 = .ok (.ireturn, 1) := by decide +kernel
theorem dX8_reasonOfRow_0 : decode cX8_reasonOfRow 0 = .ok (.aload_n 0, 1) := by decide +kernel
theorem dX8_reasonOfRow_1 : decode cX8_reasonOfRow 1 = .ok (.iload_n 1, 1) := by decide +kernel
theorem dX8_reasonOfRow_2 : decode cX8_reasonOfRow 2 = .ok (.invokevirtual 56, 3) := by decide +kernel
theorem dX8_reasonOfRow_5 : decode cX8_reasonOfRow 5 = .ok (.ifCond .ge 5, 3) := by decide +kernel
theorem dX8_reasonOfRow_8 : decode cX8_reasonOfRow 8 = .ok (.iconst 2, 1) := by decide +kernel
theorem dX8_reasonOfRow_9 : decode cX8_reasonOfRow 9 = .ok (.ireturn, 1) := by decide +kernel
theorem dX8_reasonOfRow_10 : decode cX8_reasonOfRow 10 = .ok (.aload_n 0, 1) := by decide +kernel
theorem dX8_reasonOfRow_11 : decode cX8_reasonOfRow 11 = .ok (.aload_n 0, 1) := by decide +kernel
theorem dX8_reasonOfRow_12 : decode cX8_reasonOfRow 12 = .ok (.iload_n 1, 1) := by decide +kernel
theorem dX8_reasonOfRow_13 : decode cX8_reasonOfRow 13 = .ok (.invokevirtual 56, 3) := by decide +kernel
theorem dX8_reasonOfRow_16 : decode cX8_reasonOfRow 16 = .ok (.invokevirtual 60, 3) := by decide +kernel
theorem dX8_reasonOfRow_19 : decode cX8_reasonOfRow 19 = .ok (.ifCond .eq 7, 3) := by decide +kernel
theorem dX8_reasonOfRow_22 : decode cX8_reasonOfRow 22 = .ok (.iconst 0, 1) := by decide +kernel
theorem dX8_reasonOfRow_23 : decode cX8_reasonOfRow 23 = .ok (.goto 4, 3) := by decide +kernel
theorem dX8_reasonOfRow_26 : decode cX8_reasonOfRow 26 = .ok (.iconst 3, 1) := by decide +kernel
theorem dX8_reasonOfRow_27 : decode cX8_reasonOfRow 27 = .ok (.ireturn, 1) := by decide +kernel
theorem dX8_reasonOfRows_0 : decode cX8_reasonOfRows 0 = .ok (.aload_n 0, 1) := by decide +kernel
theorem dX8_reasonOfRows_1 : decode cX8_reasonOfRows 1 = .ok (.iload_n 1, 1) := by decide +kernel
theorem dX8_reasonOfRows_2 : decode cX8_reasonOfRows 2 = .ok (.invokevirtual 56, 3) := by decide +kernel
theorem dX8_reasonOfRows_5 : decode cX8_reasonOfRows 5 = .ok (.ifCond .lt 19, 3) := by decide +kernel
theorem dX8_reasonOfRows_8 : decode cX8_reasonOfRows 8 = .ok (.aload_n 0, 1) := by decide +kernel
theorem dX8_reasonOfRows_9 : decode cX8_reasonOfRows 9 = .ok (.iload_n 2, 1) := by decide +kernel
theorem dX8_reasonOfRows_10 : decode cX8_reasonOfRows 10 = .ok (.invokevirtual 56, 3) := by decide +kernel
theorem dX8_reasonOfRows_13 : decode cX8_reasonOfRows 13 = .ok (.ifCond .lt 11, 3) := by decide +kernel
theorem dX8_reasonOfRows_16 : decode cX8_reasonOfRows 16 = .ok (.aload_n 0, 1) := by decide +kernel
theorem dX8_reasonOfRows_17 : decode cX8_reasonOfRows 17 = .ok (.iload_n 3, 1) := by decide +kernel
theorem dX8_reasonOfRows_18 : decode cX8_reasonOfRows 18 = .ok (.invokevirtual 56, 3) := by decide +kernel
theorem dX8_reasonOfRows_21 : decode cX8_reasonOfRows 21 = .ok (.ifCond .ge 5, 3) := by decide +kernel
theorem dX8_reasonOfRows_24 : decode cX8_reasonOfRows 24 = .ok (.iconst 2, 1) := by decide +kernel
theorem dX8_reasonOfRows_25 : decode cX8_reasonOfRows 25 = .ok (.ireturn, 1) := by decide +kernel
theorem dX8_reasonOfRows_26 : decode cX8_reasonOfRows 26 = .ok (.aload_n 0, 1) := by decide +kernel
theorem dX8_reasonOfRows_27 : decode cX8_reasonOfRows 27 = .ok (.aload_n 0, 1) := by decide +kernel
theorem dX8_reasonOfRows_28 : decode cX8_reasonOfRows 28 = .ok (.iload_n 1, 1) := by decide +kernel
theorem dX8_reasonOfRows_29 : decode cX8_reasonOfRows 29 = .ok (.invokevirtual 56, 3) := by decide +kernel
theorem dX8_reasonOfRows_32 : decode cX8_reasonOfRows 32 = .ok (.invokevirtual 60, 3) := by decide +kernel
theorem dX8_reasonOfRows_35 : decode cX8_reasonOfRows 35 = .ok (.ifCond .eq 31, 3) := by decide +kernel
theorem dX8_reasonOfRows_38 : decode cX8_reasonOfRows 38 = .ok (.aload_n 0, 1) := by decide +kernel
theorem dX8_reasonOfRows_39 : decode cX8_reasonOfRows 39 = .ok (.aload_n 0, 1) := by decide +kernel
theorem dX8_reasonOfRows_40 : decode cX8_reasonOfRows 40 = .ok (.iload_n 2, 1) := by decide +kernel
theorem dX8_reasonOfRows_41 : decode cX8_reasonOfRows 41 = .ok (.invokevirtual 56, 3) := by decide +kernel
theorem dX8_reasonOfRows_44 : decode cX8_reasonOfRows 44 = .ok (.invokevirtual 60, 3) := by decide +kernel
theorem dX8_reasonOfRows_47 : decode cX8_reasonOfRows 47 = .ok (.ifCond .eq 19, 3) := by decide +kernel
theorem dX8_reasonOfRows_50 : decode cX8_reasonOfRows 50 = .ok (.aload_n 0, 1) := by decide +kernel
theorem dX8_reasonOfRows_51 : decode cX8_reasonOfRows 51 = .ok (.aload_n 0, 1) := by decide +kernel
theorem dX8_reasonOfRows_52 : decode cX8_reasonOfRows 52 = .ok (.iload_n 3, 1) := by decide +kernel
theorem dX8_reasonOfRows_53 : decode cX8_reasonOfRows 53 = .ok (.invokevirtual 56, 3) := by decide +kernel
theorem dX8_reasonOfRows_56 : decode cX8_reasonOfRows 56 = .ok (.invokevirtual 60, 3) := by decide +kernel
theorem dX8_reasonOfRows_59 : decode cX8_reasonOfRows 59 = .ok (.ifCond .eq 7, 3) := by decide +kernel
theorem dX8_reasonOfRows_62 : decode cX8_reasonOfRows 62 = .ok (.iconst 0, 1) := by decide +kernel
theorem dX8_reasonOfRows_63 : decode cX8_reasonOfRows 63 = .ok (.goto 4, 3) := by decide +kernel
theorem dX8_reasonOfRows_66 : decode cX8_reasonOfRows 66 = .ok (.iconst 3, 1) := by decide +kernel
theorem dX8_reasonOfRows_67 : decode cX8_reasonOfRows 67 = .ok (.ireturn, 1) := by decide +kernel
theorem dX8_tell_0 : decode cX8_tell 0 = .ok (.iload_n 2, 1) := by decide +kernel
theorem dX8_tell_1 : decode cX8_tell 1 = .ok (.i2l, 1) := by decide +kernel
theorem dX8_tell_2 : decode cX8_tell 2 = .ok (.bipush 32, 2) := by decide +kernel
theorem dX8_tell_4 : decode cX8_tell 4 = .ok (.lshl, 1) := by decide +kernel
theorem dX8_tell_5 : decode cX8_tell 5 = .ok (.iload_n 3, 1) := by decide +kernel
theorem dX8_tell_6 : decode cX8_tell 6 = .ok (.i2l, 1) := by decide +kernel
theorem dX8_tell_7 : decode cX8_tell 7 = .ok (.ldc2_w 64, 3) := by decide +kernel
theorem dX8_tell_10 : decode cX8_tell 10 = .ok (.land, 1) := by decide +kernel
theorem dX8_tell_11 : decode cX8_tell 11 = .ok (.lor, 1) := by decide +kernel
theorem dX8_tell_12 : decode cX8_tell 12 = .ok (.lstore 4, 2) := by decide +kernel
theorem dX8_tell_14 : decode cX8_tell 14 = .ok (.aload_n 0, 1) := by decide +kernel
theorem dX8_tell_15 : decode cX8_tell 15 = .ok (.iload_n 1, 1) := by decide +kernel
theorem dX8_tell_16 : decode cX8_tell 16 = .ok (.putfield 66, 3) := by decide +kernel
theorem dX8_tell_19 : decode cX8_tell 19 = .ok (.aload_n 0, 1) := by decide +kernel
theorem dX8_tell_20 : decode cX8_tell 20 = .ok (.lconst 0, 1) := by decide +kernel
theorem dX8_tell_21 : decode cX8_tell 21 = .ok (.putfield 69, 3) := by decide +kernel
theorem dX8_tell_24 : decode cX8_tell 24 = .ok (.aload_n 0, 1) := by decide +kernel
theorem dX8_tell_25 : decode cX8_tell 25 = .ok (.dconst 0, 1) := by decide +kernel
theorem dX8_tell_26 : decode cX8_tell 26 = .ok (.putfield 73, 3) := by decide +kernel
theorem dX8_tell_29 : decode cX8_tell 29 = .ok (.iload_n 1, 1) := by decide +kernel
theorem dX8_tell_30 : decode cX8_tell 30 = .ok (.tableswitch 123 0 6 #[42, 53, 65, 77, 89, 100, 109], 42) := by decide +kernel
theorem dX8_tell_72 : decode cX8_tell 72 = .ok (.aload_n 0, 1) := by decide +kernel
theorem dX8_tell_73 : decode cX8_tell 73 = .ok (.lload 4, 2) := by decide +kernel
theorem dX8_tell_75 : decode cX8_tell 75 = .ok (.lconst 1, 1) := by decide +kernel
theorem dX8_tell_76 : decode cX8_tell 76 = .ok (.land, 1) := by decide +kernel
theorem dX8_tell_77 : decode cX8_tell 77 = .ok (.putfield 69, 3) := by decide +kernel
theorem dX8_tell_80 : decode cX8_tell 80 = .ok (.goto 84, 3) := by decide +kernel
theorem dX8_tell_83 : decode cX8_tell 83 = .ok (.aload_n 0, 1) := by decide +kernel
theorem dX8_tell_84 : decode cX8_tell 84 = .ok (.lload 4, 2) := by decide +kernel
theorem dX8_tell_86 : decode cX8_tell 86 = .ok (.l2i, 1) := by decide +kernel
theorem dX8_tell_87 : decode cX8_tell 87 = .ok (.i2b, 1) := by decide +kernel
theorem dX8_tell_88 : decode cX8_tell 88 = .ok (.i2l, 1) := by decide +kernel
theorem dX8_tell_89 : decode cX8_tell 89 = .ok (.putfield 69, 3) := by decide +kernel
theorem dX8_tell_92 : decode cX8_tell 92 = .ok (.goto 72, 3) := by decide +kernel
theorem dX8_tell_95 : decode cX8_tell 95 = .ok (.aload_n 0, 1) := by decide +kernel
theorem dX8_tell_96 : decode cX8_tell 96 = .ok (.lload 4, 2) := by decide +kernel
theorem dX8_tell_98 : decode cX8_tell 98 = .ok (.l2i, 1) := by decide +kernel
theorem dX8_tell_99 : decode cX8_tell 99 = .ok (.i2c, 1) := by decide +kernel
theorem dX8_tell_100 : decode cX8_tell 100 = .ok (.i2l, 1) := by decide +kernel
theorem dX8_tell_101 : decode cX8_tell 101 = .ok (.putfield 69, 3) := by decide +kernel
theorem dX8_tell_104 : decode cX8_tell 104 = .ok (.goto 60, 3) := by decide +kernel
theorem dX8_tell_107 : decode cX8_tell 107 = .ok (.aload_n 0, 1) := by decide +kernel
theorem dX8_tell_108 : decode cX8_tell 108 = .ok (.lload 4, 2) := by decide +kernel
theorem dX8_tell_110 : decode cX8_tell 110 = .ok (.l2i, 1) := by decide +kernel
theorem dX8_tell_111 : decode cX8_tell 111 = .ok (.i2s, 1) := by decide +kernel
theorem dX8_tell_112 : decode cX8_tell 112 = .ok (.i2l, 1) := by decide +kernel
theorem dX8_tell_113 : decode cX8_tell 113 = .ok (.putfield 69, 3) := by decide +kernel
theorem dX8_tell_116 : decode cX8_tell 116 = .ok (.goto 48, 3) := by decide +kernel
theorem dX8_tell_119 : decode cX8_tell 119 = .ok (.aload_n 0, 1) := by decide +kernel
theorem dX8_tell_120 : decode cX8_tell 120 = .ok (.lload 4, 2) := by decide +kernel
theorem dX8_tell_122 : decode cX8_tell 122 = .ok (.l2i, 1) := by decide +kernel
theorem dX8_tell_123 : decode cX8_tell 123 = .ok (.i2l, 1) := by decide +kernel
theorem dX8_tell_124 : decode cX8_tell 124 = .ok (.putfield 69, 3) := by decide +kernel
theorem dX8_tell_127 : decode cX8_tell 127 = .ok (.goto 37, 3) := by decide +kernel
theorem dX8_tell_130 : decode cX8_tell 130 = .ok (.aload_n 0, 1) := by decide +kernel
theorem dX8_tell_131 : decode cX8_tell 131 = .ok (.lload 4, 2) := by decide +kernel
theorem dX8_tell_133 : decode cX8_tell 133 = .ok (.putfield 69, 3) := by decide +kernel
theorem dX8_tell_136 : decode cX8_tell 136 = .ok (.goto 28, 3) := by decide +kernel
theorem dX8_tell_139 : decode cX8_tell 139 = .ok (.aload_n 0, 1) := by decide +kernel
theorem dX8_tell_140 : decode cX8_tell 140 = .ok (.lload 4, 2) := by decide +kernel
theorem dX8_tell_142 : decode cX8_tell 142 = .ok (.l2f, 1) := by decide +kernel
theorem dX8_tell_143 : decode cX8_tell 143 = .ok (.ldc 77, 2) := by decide +kernel
theorem dX8_tell_145 : decode cX8_tell 145 = .ok (.fdiv, 1) := by decide +kernel
theorem dX8_tell_146 : decode cX8_tell 146 = .ok (.f2d, 1) := by decide +kernel
theorem dX8_tell_147 : decode cX8_tell 147 = .ok (.putfield 73, 3) := by decide +kernel
theorem dX8_tell_150 : decode cX8_tell 150 = .ok (.goto 14, 3) := by decide +kernel
theorem dX8_tell_153 : decode cX8_tell 153 = .ok (.aload_n 0, 1) := by decide +kernel
theorem dX8_tell_154 : decode cX8_tell 154 = .ok (.lload 4, 2) := by decide +kernel
theorem dX8_tell_156 : decode cX8_tell 156 = .ok (.l2d, 1) := by decide +kernel
theorem dX8_tell_157 : decode cX8_tell 157 = .ok (.ldc2_w 78, 3) := by decide +kernel
theorem dX8_tell_160 : decode cX8_tell 160 = .ok (.ddiv, 1) := by decide +kernel
theorem dX8_tell_161 : decode cX8_tell 161 = .ok (.putfield 73, 3) := by decide +kernel
theorem dX8_tell_164 : decode cX8_tell 164 = .ok (.return_, 1) := by decide +kernel
theorem dX8_get_0 : decode cX8_get 0 = .ok (.aload_n 0, 1) := by decide +kernel
theorem dX8_get_1 : decode cX8_get 1 = .ok (.aload_n 0, 1) := by decide +kernel
theorem dX8_get_2 : decode cX8_get 2 = .ok (.getfield 13, 3) := by decide +kernel
theorem dX8_get_5 : decode cX8_get 5 = .ok (.iload_n 1, 1) := by decide +kernel
theorem dX8_get_6 : decode cX8_get 6 = .ok (.iaload, 1) := by decide +kernel
theorem dX8_get_7 : decode cX8_get 7 = .ok (.putfield 66, 3) := by decide +kernel
theorem dX8_get_10 : decode cX8_get 10 = .ok (.aload_n 0, 1) := by decide +kernel
theorem dX8_get_11 : decode cX8_get 11 = .ok (.aload_n 0, 1) := by decide +kernel
theorem dX8_get_12 : decode cX8_get 12 = .ok (.getfield 22, 3) := by decide +kernel
theorem dX8_get_15 : decode cX8_get 15 = .ok (.bipush 24, 2) := by decide +kernel
theorem dX8_get_17 : decode cX8_get 17 = .ok (.iload_n 1, 1) := by decide +kernel
theorem dX8_get_18 : decode cX8_get 18 = .ok (.imul, 1) := by decide +kernel
theorem dX8_get_19 : decode cX8_get 19 = .ok (.iload_n 2, 1) := by decide +kernel
theorem dX8_get_20 : decode cX8_get 20 = .ok (.iadd, 1) := by decide +kernel
theorem dX8_get_21 : decode cX8_get 21 = .ok (.laload, 1) := by decide +kernel
theorem dX8_get_22 : decode cX8_get 22 = .ok (.putfield 69, 3) := by decide +kernel
theorem dX8_get_25 : decode cX8_get 25 = .ok (.aload_n 0, 1) := by decide +kernel
theorem dX8_get_26 : decode cX8_get 26 = .ok (.aload_n 0, 1) := by decide +kernel
theorem dX8_get_27 : decode cX8_get 27 = .ok (.getfield 26, 3) := by decide +kernel
theorem dX8_get_30 : decode cX8_get 30 = .ok (.bipush 24, 2) := by decide +kernel
theorem dX8_get_32 : decode cX8_get 32 = .ok (.iload_n 1, 1) := by decide +kernel
theorem dX8_get_33 : decode cX8_get 33 = .ok (.imul, 1) := by decide +kernel
theorem dX8_get_34 : decode cX8_get 34 = .ok (.iload_n 2, 1) := by decide +kernel
theorem dX8_get_35 : decode cX8_get 35 = .ok (.iadd, 1) := by decide +kernel
theorem dX8_get_36 : decode cX8_get 36 = .ok (.daload, 1) := by decide +kernel
theorem dX8_get_37 : decode cX8_get 37 = .ok (.putfield 73, 3) := by decide +kernel
theorem dX8_get_40 : decode cX8_get 40 = .ok (.return_, 1) := by decide +kernel
theorem dX8_goesInto_0 : decode cX8_goesInto 0 = .ok (.aload_n 0, 1) := by decide +kernel
theorem dX8_goesInto_1 : decode cX8_goesInto 1 = .ok (.getfield 7, 3) := by decide +kernel
theorem dX8_goesInto_4 : decode cX8_goesInto 4 = .ok (.iload_n 1, 1) := by decide +kernel
theorem dX8_goesInto_5 : decode cX8_goesInto 5 = .ok (.iaload, 1) := by decide +kernel
theorem dX8_goesInto_6 : decode cX8_goesInto 6 = .ok (.iload_n 2, 1) := by decide +kernel
theorem dX8_goesInto_7 : decode cX8_goesInto 7 = .ok (.ishr, 1) := by decide +kernel
theorem dX8_goesInto_8 : decode cX8_goesInto 8 = .ok (.iconst 1, 1) := by decide +kernel
theorem dX8_goesInto_9 : decode cX8_goesInto 9 = .ok (.iand, 1) := by decide +kernel
theorem dX8_goesInto_10 : decode cX8_goesInto 10 = .ok (.iconst 1, 1) := by decide +kernel
theorem dX8_goesInto_11 : decode cX8_goesInto 11 = .ok (.if_icmp .ne 7, 3) := by decide +kernel
theorem dX8_goesInto_14 : decode cX8_goesInto 14 = .ok (.iconst 1, 1) := by decide +kernel
theorem dX8_goesInto_15 : decode cX8_goesInto 15 = .ok (.goto 4, 3) := by decide +kernel
theorem dX8_goesInto_18 : decode cX8_goesInto 18 = .ok (.iconst 0, 1) := by decide +kernel
theorem dX8_goesInto_19 : decode cX8_goesInto 19 = .ok (.ireturn, 1) := by decide +kernel
theorem dX8_widen_0 : decode cX8_widen 0 = .ok (.iload_n 1, 1) := by decide +kernel
theorem dX8_widen_1 : decode cX8_widen 1 = .ok (.bipush 6, 2) := by decide +kernel
theorem dX8_widen_3 : decode cX8_widen 3 = .ok (.if_icmp .lt 40, 3) := by decide +kernel
theorem dX8_widen_6 : decode cX8_widen 6 = .ok (.aload_n 0, 1) := by decide +kernel
theorem dX8_widen_7 : decode cX8_widen 7 = .ok (.getfield 66, 3) := by decide +kernel
theorem dX8_widen_10 : decode cX8_widen 10 = .ok (.iconst 5, 1) := by decide +kernel
theorem dX8_widen_11 : decode cX8_widen 11 = .ok (.if_icmp .gt 32, 3) := by decide +kernel
theorem dX8_widen_14 : decode cX8_widen 14 = .ok (.aload_n 0, 1) := by decide +kernel
theorem dX8_widen_15 : decode cX8_widen 15 = .ok (.iload_n 1, 1) := by decide +kernel
theorem dX8_widen_16 : decode cX8_widen 16 = .ok (.bipush 6, 2) := by decide +kernel
theorem dX8_widen_18 : decode cX8_widen 18 = .ok (.if_icmp .ne 12, 3) := by decide +kernel
theorem dX8_widen_21 : decode cX8_widen 21 = .ok (.aload_n 0, 1) := by decide +kernel
theorem dX8_widen_22 : decode cX8_widen 22 = .ok (.getfield 69, 3) := by decide +kernel
theorem dX8_widen_25 : decode cX8_widen 25 = .ok (.l2f, 1) := by decide +kernel
theorem dX8_widen_26 : decode cX8_widen 26 = .ok (.f2d, 1) := by decide +kernel
theorem dX8_widen_27 : decode cX8_widen 27 = .ok (.goto 8, 3) := by decide +kernel
theorem dX8_widen_30 : decode cX8_widen 30 = .ok (.aload_n 0, 1) := by decide +kernel
theorem dX8_widen_31 : decode cX8_widen 31 = .ok (.getfield 69, 3) := by decide +kernel
theorem dX8_widen_34 : decode cX8_widen 34 = .ok (.l2d, 1) := by decide +kernel
theorem dX8_widen_35 : decode cX8_widen 35 = .ok (.putfield 73, 3) := by decide +kernel
theorem dX8_widen_38 : decode cX8_widen 38 = .ok (.aload_n 0, 1) := by decide +kernel
theorem dX8_widen_39 : decode cX8_widen 39 = .ok (.lconst 0, 1) := by decide +kernel
theorem dX8_widen_40 : decode cX8_widen 40 = .ok (.putfield 69, 3) := by decide +kernel
theorem dX8_widen_43 : decode cX8_widen 43 = .ok (.aload_n 0, 1) := by decide +kernel
theorem dX8_widen_44 : decode cX8_widen 44 = .ok (.iload_n 1, 1) := by decide +kernel
theorem dX8_widen_45 : decode cX8_widen 45 = .ok (.putfield 66, 3) := by decide +kernel
theorem dX8_widen_48 : decode cX8_widen 48 = .ok (.return_, 1) := by decide +kernel
theorem dX8_set_0 : decode cX8_set 0 = .ok (.aload_n 0, 1) := by decide +kernel
theorem dX8_set_1 : decode cX8_set 1 = .ok (.getfield 22, 3) := by decide +kernel
theorem dX8_set_4 : decode cX8_set 4 = .ok (.bipush 24, 2) := by decide +kernel
theorem dX8_set_6 : decode cX8_set 6 = .ok (.iload_n 1, 1) := by decide +kernel
theorem dX8_set_7 : decode cX8_set 7 = .ok (.imul, 1) := by decide +kernel
theorem dX8_set_8 : decode cX8_set 8 = .ok (.iload_n 2, 1) := by decide +kernel
theorem dX8_set_9 : decode cX8_set 9 = .ok (.iadd, 1) := by decide +kernel
theorem dX8_set_10 : decode cX8_set 10 = .ok (.aload_n 0, 1) := by decide +kernel
theorem dX8_set_11 : decode cX8_set 11 = .ok (.getfield 69, 3) := by decide +kernel
theorem dX8_set_14 : decode cX8_set 14 = .ok (.lastore, 1) := by decide +kernel
theorem dX8_set_15 : decode cX8_set 15 = .ok (.aload_n 0, 1) := by decide +kernel
theorem dX8_set_16 : decode cX8_set 16 = .ok (.getfield 26, 3) := by decide +kernel
theorem dX8_set_19 : decode cX8_set 19 = .ok (.bipush 24, 2) := by decide +kernel
theorem dX8_set_21 : decode cX8_set 21 = .ok (.iload_n 1, 1) := by decide +kernel
theorem dX8_set_22 : decode cX8_set 22 = .ok (.imul, 1) := by decide +kernel
theorem dX8_set_23 : decode cX8_set 23 = .ok (.iload_n 2, 1) := by decide +kernel
theorem dX8_set_24 : decode cX8_set 24 = .ok (.iadd, 1) := by decide +kernel
theorem dX8_set_25 : decode cX8_set 25 = .ok (.aload_n 0, 1) := by decide +kernel
theorem dX8_set_26 : decode cX8_set 26 = .ok (.getfield 73, 3) := by decide +kernel
theorem dX8_set_29 : decode cX8_set 29 = .ok (.dastore, 1) := by decide +kernel
theorem dX8_set_30 : decode cX8_set 30 = .ok (.return_, 1) := by decide +kernel
theorem dX8_isFloating_0 : decode cX8_isFloating 0 = .ok (.iload_n 0, 1) := by decide +kernel
theorem dX8_isFloating_1 : decode cX8_isFloating 1 = .ok (.bipush 6, 2) := by decide +kernel
theorem dX8_isFloating_3 : decode cX8_isFloating 3 = .ok (.if_icmp .lt 7, 3) := by decide +kernel
theorem dX8_isFloating_6 : decode cX8_isFloating 6 = .ok (.iconst 1, 1) := by decide +kernel
theorem dX8_isFloating_7 : decode cX8_isFloating 7 = .ok (.goto 4, 3) := by decide +kernel
theorem dX8_isFloating_10 : decode cX8_isFloating 10 = .ok (.iconst 0, 1) := by decide +kernel
theorem dX8_isFloating_11 : decode cX8_isFloating 11 = .ok (.ireturn, 1) := by decide +kernel
theorem dX8_doubleOf_0 : decode cX8_doubleOf 0 = .ok (.iload_n 0, 1) := by decide +kernel
theorem dX8_doubleOf_1 : decode cX8_doubleOf 1 = .ok (.iconst 5, 1) := by decide +kernel
theorem dX8_doubleOf_2 : decode cX8_doubleOf 2 = .ok (.if_icmp .gt 8, 3) := by decide +kernel
theorem dX8_doubleOf_5 : decode cX8_doubleOf 5 = .ok (.lload_n 1, 1) := by decide +kernel
theorem dX8_doubleOf_6 : decode cX8_doubleOf 6 = .ok (.l2d, 1) := by decide +kernel
theorem dX8_doubleOf_7 : decode cX8_doubleOf 7 = .ok (.goto 4, 3) := by decide +kernel
theorem dX8_doubleOf_10 : decode cX8_doubleOf 10 = .ok (.dload_n 3, 1) := by decide +kernel
theorem dX8_doubleOf_11 : decode cX8_doubleOf 11 = .ok (.dreturn, 1) := by decide +kernel
theorem dX8_order_0 : decode cX8_order 0 = .ok (.iload_n 0, 1) := by decide +kernel
theorem dX8_order_1 : decode cX8_order 1 = .ok (.ifCond .ne 7, 3) := by decide +kernel
theorem dX8_order_4 : decode cX8_order 4 = .ok (.iconst 1, 1) := by decide +kernel
theorem dX8_order_5 : decode cX8_order 5 = .ok (.goto 4, 3) := by decide +kernel
theorem dX8_order_8 : decode cX8_order 8 = .ok (.iconst 0, 1) := by decide +kernel
theorem dX8_order_9 : decode cX8_order 9 = .ok (.iload_n 3, 1) := by decide +kernel
theorem dX8_order_10 : decode cX8_order 10 = .ok (.ifCond .ne 7, 3) := by decide +kernel
theorem dX8_order_13 : decode cX8_order 13 = .ok (.iconst 1, 1) := by decide +kernel
theorem dX8_order_14 : decode cX8_order 14 = .ok (.goto 4, 3) := by decide +kernel
theorem dX8_order_17 : decode cX8_order 17 = .ok (.iconst 0, 1) := by decide +kernel
theorem dX8_order_18 : decode cX8_order 18 = .ok (.if_icmp .eq 5, 3) := by decide +kernel
theorem dX8_order_21 : decode cX8_order 21 = .ok (.iconst 2, 1) := by decide +kernel
theorem dX8_order_22 : decode cX8_order 22 = .ok (.ireturn, 1) := by decide +kernel
theorem dX8_order_23 : decode cX8_order 23 = .ok (.lload_n 1, 1) := by decide +kernel
theorem dX8_order_24 : decode cX8_order 24 = .ok (.lload 4, 2) := by decide +kernel
theorem dX8_order_26 : decode cX8_order 26 = .ok (.lcmp, 1) := by decide +kernel
theorem dX8_order_27 : decode cX8_order 27 = .ok (.ifCond .ge 7, 3) := by decide +kernel
theorem dX8_order_30 : decode cX8_order 30 = .ok (.iconst (-1), 1) := by decide +kernel
theorem dX8_order_31 : decode cX8_order 31 = .ok (.goto 15, 3) := by decide +kernel
theorem dX8_order_34 : decode cX8_order 34 = .ok (.lload_n 1, 1) := by decide +kernel
theorem dX8_order_35 : decode cX8_order 35 = .ok (.lload 4, 2) := by decide +kernel
theorem dX8_order_37 : decode cX8_order 37 = .ok (.lcmp, 1) := by decide +kernel
theorem dX8_order_38 : decode cX8_order 38 = .ok (.ifCond .le 7, 3) := by decide +kernel
theorem dX8_order_41 : decode cX8_order 41 = .ok (.iconst 1, 1) := by decide +kernel
theorem dX8_order_42 : decode cX8_order 42 = .ok (.goto 4, 3) := by decide +kernel
theorem dX8_order_45 : decode cX8_order 45 = .ok (.iconst 0, 1) := by decide +kernel
theorem dX8_order_46 : decode cX8_order 46 = .ok (.ireturn, 1) := by decide +kernel
theorem dX8_against_0 : decode cX8_against 0 = .ok (.aload_n 0, 1) := by decide +kernel
theorem dX8_against_1 : decode cX8_against 1 = .ok (.getfield 66, 3) := by decide +kernel
theorem dX8_against_4 : decode cX8_against 4 = .ok (.ifCond .eq 76, 3) := by decide +kernel
theorem dX8_against_7 : decode cX8_against 7 = .ok (.iload_n 1, 1) := by decide +kernel
theorem dX8_against_8 : decode cX8_against 8 = .ok (.ifCond .eq 72, 3) := by decide +kernel
theorem dX8_against_11 : decode cX8_against 11 = .ok (.aload_n 0, 1) := by decide +kernel
theorem dX8_against_12 : decode cX8_against 12 = .ok (.getfield 66, 3) := by decide +kernel
theorem dX8_against_15 : decode cX8_against 15 = .ok (.invokestatic 80, 3) := by decide +kernel
theorem dX8_against_18 : decode cX8_against 18 = .ok (.ifCond .ne 10, 3) := by decide +kernel
theorem dX8_against_21 : decode cX8_against 21 = .ok (.iload_n 1, 1) := by decide +kernel
theorem dX8_against_22 : decode cX8_against 22 = .ok (.invokestatic 80, 3) := by decide +kernel
theorem dX8_against_25 : decode cX8_against 25 = .ok (.ifCond .eq 55, 3) := by decide +kernel
theorem dX8_against_28 : decode cX8_against 28 = .ok (.aload_n 0, 1) := by decide +kernel
theorem dX8_against_29 : decode cX8_against 29 = .ok (.getfield 66, 3) := by decide +kernel
theorem dX8_against_32 : decode cX8_against 32 = .ok (.aload_n 0, 1) := by decide +kernel
theorem dX8_against_33 : decode cX8_against 33 = .ok (.getfield 69, 3) := by decide +kernel
theorem dX8_against_36 : decode cX8_against 36 = .ok (.aload_n 0, 1) := by decide +kernel
theorem dX8_against_37 : decode cX8_against 37 = .ok (.getfield 73, 3) := by decide +kernel
theorem dX8_against_40 : decode cX8_against 40 = .ok (.invokestatic 83, 3) := by decide +kernel
theorem dX8_against_43 : decode cX8_against 43 = .ok (.dstore 6, 2) := by decide +kernel
theorem dX8_against_45 : decode cX8_against 45 = .ok (.iload_n 1, 1) := by decide +kernel
theorem dX8_against_46 : decode cX8_against 46 = .ok (.lload_n 2, 1) := by decide +kernel
theorem dX8_against_47 : decode cX8_against 47 = .ok (.dload 4, 2) := by decide +kernel
theorem dX8_against_49 : decode cX8_against 49 = .ok (.invokestatic 83, 3) := by decide +kernel
theorem dX8_against_52 : decode cX8_against 52 = .ok (.dstore 8, 2) := by decide +kernel
theorem dX8_against_54 : decode cX8_against 54 = .ok (.dload 6, 2) := by decide +kernel
theorem dX8_against_56 : decode cX8_against 56 = .ok (.dload 8, 2) := by decide +kernel
theorem dX8_against_58 : decode cX8_against 58 = .ok (.dcmp .g, 1) := by decide +kernel
theorem dX8_against_59 : decode cX8_against 59 = .ok (.ifCond .ge 7, 3) := by decide +kernel
theorem dX8_against_62 : decode cX8_against 62 = .ok (.iconst (-1), 1) := by decide +kernel
theorem dX8_against_63 : decode cX8_against 63 = .ok (.goto 16, 3) := by decide +kernel
theorem dX8_against_66 : decode cX8_against 66 = .ok (.dload 6, 2) := by decide +kernel
theorem dX8_against_68 : decode cX8_against 68 = .ok (.dload 8, 2) := by decide +kernel
theorem dX8_against_70 : decode cX8_against 70 = .ok (.dcmp .l, 1) := by decide +kernel
theorem dX8_against_71 : decode cX8_against 71 = .ok (.ifCond .le 7, 3) := by decide +kernel
theorem dX8_against_74 : decode cX8_against 74 = .ok (.iconst 1, 1) := by decide +kernel
theorem dX8_against_75 : decode cX8_against 75 = .ok (.goto 4, 3) := by decide +kernel
theorem dX8_against_78 : decode cX8_against 78 = .ok (.iconst 0, 1) := by decide +kernel
theorem dX8_against_79 : decode cX8_against 79 = .ok (.ireturn, 1) := by decide +kernel
theorem dX8_against_80 : decode cX8_against 80 = .ok (.aload_n 0, 1) := by decide +kernel
theorem dX8_against_81 : decode cX8_against 81 = .ok (.getfield 66, 3) := by decide +kernel
theorem dX8_against_84 : decode cX8_against 84 = .ok (.aload_n 0, 1) := by decide +kernel
theorem dX8_against_85 : decode cX8_against 85 = .ok (.getfield 69, 3) := by decide +kernel
theorem dX8_against_88 : decode cX8_against 88 = .ok (.iload_n 1, 1) := by decide +kernel
theorem dX8_against_89 : decode cX8_against 89 = .ok (.lload_n 2, 1) := by decide +kernel
theorem dX8_against_90 : decode cX8_against 90 = .ok (.invokestatic 87, 3) := by decide +kernel
theorem dX8_against_93 : decode cX8_against 93 = .ok (.ireturn, 1) := by decide +kernel
theorem dX8_fits_0 : decode cX8_fits 0 = .ok (.lload_n 2, 1) := by decide +kernel
theorem dX8_fits_1 : decode cX8_fits 1 = .ok (.lconst 0, 1) := by decide +kernel
theorem dX8_fits_2 : decode cX8_fits 2 = .ok (.lcmp, 1) := by decide +kernel
theorem dX8_fits_3 : decode cX8_fits 3 = .ok (.ifCond .ne 5, 3) := by decide +kernel
theorem dX8_fits_6 : decode cX8_fits 6 = .ok (.iconst 1, 1) := by decide +kernel
theorem dX8_fits_7 : decode cX8_fits 7 = .ok (.ireturn, 1) := by decide +kernel
theorem dX8_fits_8 : decode cX8_fits 8 = .ok (.aload_n 0, 1) := by decide +kernel
theorem dX8_fits_9 : decode cX8_fits 9 = .ok (.getfield 13, 3) := by decide +kernel
theorem dX8_fits_12 : decode cX8_fits 12 = .ok (.lload_n 2, 1) := by decide +kernel
theorem dX8_fits_13 : decode cX8_fits 13 = .ok (.l2i, 1) := by decide +kernel
theorem dX8_fits_14 : decode cX8_fits 14 = .ok (.iconst 1, 1) := by decide +kernel
theorem dX8_fits_15 : decode cX8_fits 15 = .ok (.isub, 1) := by decide +kernel
theorem dX8_fits_16 : decode cX8_fits 16 = .ok (.iaload, 1) := by decide +kernel
theorem dX8_fits_17 : decode cX8_fits 17 = .ok (.istore 4, 2) := by decide +kernel
theorem dX8_fits_19 : decode cX8_fits 19 = .ok (.aload_n 0, 1) := by decide +kernel
theorem dX8_fits_20 : decode cX8_fits 20 = .ok (.getfield 13, 3) := by decide +kernel
theorem dX8_fits_23 : decode cX8_fits 23 = .ok (.iload_n 1, 1) := by decide +kernel
theorem dX8_fits_24 : decode cX8_fits 24 = .ok (.iaload, 1) := by decide +kernel
theorem dX8_fits_25 : decode cX8_fits 25 = .ok (.tableswitch 65 8 10 #[27, 40, 53], 27) := by decide +kernel
theorem dX8_fits_52 : decode cX8_fits 52 = .ok (.iload 4, 2) := by decide +kernel
theorem dX8_fits_54 : decode cX8_fits 54 = .ok (.bipush 12, 2) := by decide +kernel
theorem dX8_fits_56 : decode cX8_fits 56 = .ok (.if_icmp .lt 7, 3) := by decide +kernel
theorem dX8_fits_59 : decode cX8_fits 59 = .ok (.iconst 1, 1) := by decide +kernel
theorem dX8_fits_60 : decode cX8_fits 60 = .ok (.goto 4, 3) := by decide +kernel
theorem dX8_fits_63 : decode cX8_fits 63 = .ok (.iconst 0, 1) := by decide +kernel
theorem dX8_fits_64 : decode cX8_fits 64 = .ok (.ireturn, 1) := by decide +kernel
theorem dX8_fits_65 : decode cX8_fits 65 = .ok (.iload 4, 2) := by decide +kernel
theorem dX8_fits_67 : decode cX8_fits 67 = .ok (.bipush 14, 2) := by decide +kernel
theorem dX8_fits_69 : decode cX8_fits 69 = .ok (.if_icmp .ne 7, 3) := by decide +kernel
theorem dX8_fits_72 : decode cX8_fits 72 = .ok (.iconst 1, 1) := by decide +kernel
theorem dX8_fits_73 : decode cX8_fits 73 = .ok (.goto 4, 3) := by decide +kernel
theorem dX8_fits_76 : decode cX8_fits 76 = .ok (.iconst 0, 1) := by decide +kernel
theorem dX8_fits_77 : decode cX8_fits 77 = .ok (.ireturn, 1) := by decide +kernel
theorem dX8_fits_78 : decode cX8_fits 78 = .ok (.iload 4, 2) := by decide +kernel
theorem dX8_fits_80 : decode cX8_fits 80 = .ok (.iconst 4, 1) := by decide +kernel
theorem dX8_fits_81 : decode cX8_fits 81 = .ok (.if_icmp .ne 7, 3) := by decide +kernel
theorem dX8_fits_84 : decode cX8_fits 84 = .ok (.iconst 1, 1) := by decide +kernel
theorem dX8_fits_85 : decode cX8_fits 85 = .ok (.goto 4, 3) := by decide +kernel
theorem dX8_fits_88 : decode cX8_fits 88 = .ok (.iconst 0, 1) := by decide +kernel
theorem dX8_fits_89 : decode cX8_fits 89 = .ok (.ireturn, 1) := by decide +kernel
theorem dX8_fits_90 : decode cX8_fits 90 = .ok (.iload 4, 2) := by decide +kernel
theorem dX8_fits_92 : decode cX8_fits 92 = .ok (.bipush 8, 2) := by decide +kernel
theorem dX8_fits_94 : decode cX8_fits 94 = .ok (.if_icmp .eq 10, 3) := by decide +kernel
theorem dX8_fits_97 : decode cX8_fits 97 = .ok (.iload 4, 2) := by decide +kernel
theorem dX8_fits_99 : decode cX8_fits 99 = .ok (.bipush 9, 2) := by decide +kernel
theorem dX8_fits_101 : decode cX8_fits 101 = .ok (.if_icmp .ne 7, 3) := by decide +kernel
theorem dX8_fits_104 : decode cX8_fits 104 = .ok (.iconst 1, 1) := by decide +kernel
theorem dX8_fits_105 : decode cX8_fits 105 = .ok (.goto 4, 3) := by decide +kernel
theorem dX8_fits_108 : decode cX8_fits 108 = .ok (.iconst 0, 1) := by decide +kernel
theorem dX8_fits_109 : decode cX8_fits 109 = .ok (.ireturn, 1) := by decide +kernel
theorem dX8_goesIn_0 : decode cX8_goesIn 0 = .ok (.aload_n 0, 1) := by decide +kernel
theorem dX8_goesIn_1 : decode cX8_goesIn 1 = .ok (.getfield 66, 3) := by decide +kernel
theorem dX8_goesIn_4 : decode cX8_goesIn 4 = .ok (.bipush 8, 2) := by decide +kernel
theorem dX8_goesIn_6 : decode cX8_goesIn 6 = .ok (.if_icmp .ge 7, 3) := by decide +kernel
theorem dX8_goesIn_9 : decode cX8_goesIn 9 = .ok (.iconst 1, 1) := by decide +kernel
theorem dX8_goesIn_10 : decode cX8_goesIn 10 = .ok (.goto 4, 3) := by decide +kernel
theorem dX8_goesIn_13 : decode cX8_goesIn 13 = .ok (.iconst 0, 1) := by decide +kernel
theorem dX8_goesIn_14 : decode cX8_goesIn 14 = .ok (.istore_n 2, 1) := by decide +kernel
theorem dX8_goesIn_15 : decode cX8_goesIn 15 = .ok (.iload_n 2, 1) := by decide +kernel
theorem dX8_goesIn_16 : decode cX8_goesIn 16 = .ok (.aload_n 0, 1) := by decide +kernel
theorem dX8_goesIn_17 : decode cX8_goesIn 17 = .ok (.iload_n 1, 1) := by decide +kernel
theorem dX8_goesIn_18 : decode cX8_goesIn 18 = .ok (.invokevirtual 91, 3) := by decide +kernel
theorem dX8_goesIn_21 : decode cX8_goesIn 21 = .ok (.if_icmp .eq 5, 3) := by decide +kernel
theorem dX8_goesIn_24 : decode cX8_goesIn 24 = .ok (.iconst 0, 1) := by decide +kernel
theorem dX8_goesIn_25 : decode cX8_goesIn 25 = .ok (.ireturn, 1) := by decide +kernel
theorem dX8_goesIn_26 : decode cX8_goesIn 26 = .ok (.iload_n 2, 1) := by decide +kernel
theorem dX8_goesIn_27 : decode cX8_goesIn 27 = .ok (.ifCond .eq 20, 3) := by decide +kernel
theorem dX8_goesIn_30 : decode cX8_goesIn 30 = .ok (.aload_n 0, 1) := by decide +kernel
theorem dX8_goesIn_31 : decode cX8_goesIn 31 = .ok (.aload_n 0, 1) := by decide +kernel
theorem dX8_goesIn_32 : decode cX8_goesIn 32 = .ok (.getfield 66, 3) := by decide +kernel
theorem dX8_goesIn_35 : decode cX8_goesIn 35 = .ok (.aload_n 0, 1) := by decide +kernel
theorem dX8_goesIn_36 : decode cX8_goesIn 36 = .ok (.getfield 13, 3) := by decide +kernel
theorem dX8_goesIn_39 : decode cX8_goesIn 39 = .ok (.iload_n 1, 1) := by decide +kernel
theorem dX8_goesIn_40 : decode cX8_goesIn 40 = .ok (.iaload, 1) := by decide +kernel
theorem dX8_goesIn_41 : decode cX8_goesIn 41 = .ok (.invokevirtual 94, 3) := by decide +kernel
theorem dX8_goesIn_44 : decode cX8_goesIn 44 = .ok (.goto 12, 3) := by decide +kernel
theorem dX8_goesIn_47 : decode cX8_goesIn 47 = .ok (.aload_n 0, 1) := by decide +kernel
theorem dX8_goesIn_48 : decode cX8_goesIn 48 = .ok (.iload_n 1, 1) := by decide +kernel
theorem dX8_goesIn_49 : decode cX8_goesIn 49 = .ok (.aload_n 0, 1) := by decide +kernel
theorem dX8_goesIn_50 : decode cX8_goesIn 50 = .ok (.getfield 69, 3) := by decide +kernel
theorem dX8_goesIn_53 : decode cX8_goesIn 53 = .ok (.invokevirtual 98, 3) := by decide +kernel
theorem dX8_goesIn_56 : decode cX8_goesIn 56 = .ok (.ireturn, 1) := by decide +kernel
theorem dX8_make_0 : decode cX8_make 0 = .ok (.aload_n 0, 1) := by decide +kernel
theorem dX8_make_1 : decode cX8_make 1 = .ok (.iconst 0, 1) := by decide +kernel
theorem dX8_make_2 : decode cX8_make 2 = .ok (.putfield 48, 3) := by decide +kernel
theorem dX8_make_5 : decode cX8_make 5 = .ok (.iload_n 1, 1) := by decide +kernel
theorem dX8_make_6 : decode cX8_make 6 = .ok (.invokestatic 102, 3) := by decide +kernel
theorem dX8_make_9 : decode cX8_make 9 = .ok (.ifCond .eq 29, 3) := by decide +kernel
theorem dX8_make_12 : decode cX8_make 12 = .ok (.iload_n 2, 1) := by decide +kernel
theorem dX8_make_13 : decode cX8_make 13 = .ok (.iconst 0, 1) := by decide +kernel
theorem dX8_make_14 : decode cX8_make 14 = .ok (.bipush 14, 2) := by decide +kernel
theorem dX8_make_16 : decode cX8_make 16 = .ok (.invokestatic 52, 3) := by decide +kernel
theorem dX8_make_19 : decode cX8_make 19 = .ok (.ifCond .eq 19, 3) := by decide +kernel
theorem dX8_make_22 : decode cX8_make 22 = .ok (.iload_n 2, 1) := by decide +kernel
theorem dX8_make_23 : decode cX8_make 23 = .ok (.bipush 12, 2) := by decide +kernel
theorem dX8_make_25 : decode cX8_make 25 = .ok (.if_icmp .ge 19, 3) := by decide +kernel
theorem dX8_make_28 : decode cX8_make 28 = .ok (.iload_n 3, 1) := by decide +kernel
theorem dX8_make_29 : decode cX8_make 29 = .ok (.iconst 0, 1) := by decide +kernel
theorem dX8_make_30 : decode cX8_make 30 = .ok (.bipush 24, 2) := by decide +kernel
theorem dX8_make_32 : decode cX8_make 32 = .ok (.invokestatic 52, 3) := by decide +kernel
theorem dX8_make_35 : decode cX8_make 35 = .ok (.ifCond .ne 9, 3) := by decide +kernel
theorem dX8_make_38 : decode cX8_make 38 = .ok (.aload_n 0, 1) := by decide +kernel
theorem dX8_make_39 : decode cX8_make 39 = .ok (.iconst 1, 1) := by decide +kernel
theorem dX8_make_40 : decode cX8_make 40 = .ok (.invokevirtual 105, 3) := by decide +kernel
theorem dX8_make_43 : decode cX8_make 43 = .ok (.ireturn, 1) := by decide +kernel
theorem dX8_make_44 : decode cX8_make 44 = .ok (.aload_n 0, 1) := by decide +kernel
theorem dX8_make_45 : decode cX8_make 45 = .ok (.getfield 13, 3) := by decide +kernel
theorem dX8_make_48 : decode cX8_make 48 = .ok (.aload_n 0, 1) := by decide +kernel
theorem dX8_make_49 : decode cX8_make 49 = .ok (.getfield 108, 3) := by decide +kernel
theorem dX8_make_52 : decode cX8_make 52 = .ok (.iload_n 2, 1) := by decide +kernel
theorem dX8_make_53 : decode cX8_make 53 = .ok (.iastore, 1) := by decide +kernel
theorem dX8_make_54 : decode cX8_make 54 = .ok (.aload_n 0, 1) := by decide +kernel
theorem dX8_make_55 : decode cX8_make 55 = .ok (.getfield 16, 3) := by decide +kernel
theorem dX8_make_58 : decode cX8_make 58 = .ok (.aload_n 0, 1) := by decide +kernel
theorem dX8_make_59 : decode cX8_make 59 = .ok (.getfield 108, 3) := by decide +kernel
theorem dX8_make_62 : decode cX8_make 62 = .ok (.iload_n 2, 1) := by decide +kernel
theorem dX8_make_63 : decode cX8_make 63 = .ok (.bipush 12, 2) := by decide +kernel
theorem dX8_make_65 : decode cX8_make 65 = .ok (.if_icmp .ge 7, 3) := by decide +kernel
theorem dX8_make_68 : decode cX8_make 68 = .ok (.iload_n 3, 1) := by decide +kernel
theorem dX8_make_69 : decode cX8_make 69 = .ok (.goto 4, 3) := by decide +kernel
theorem dX8_make_72 : decode cX8_make 72 = .ok (.iconst 0, 1) := by decide +kernel
theorem dX8_make_73 : decode cX8_make 73 = .ok (.iastore, 1) := by decide +kernel
theorem dX8_make_74 : decode cX8_make 74 = .ok (.aload_n 0, 1) := by decide +kernel
theorem dX8_make_75 : decode cX8_make 75 = .ok (.getfield 19, 3) := by decide +kernel
theorem dX8_make_78 : decode cX8_make 78 = .ok (.aload_n 0, 1) := by decide +kernel
theorem dX8_make_79 : decode cX8_make 79 = .ok (.getfield 108, 3) := by decide +kernel
theorem dX8_make_82 : decode cX8_make 82 = .ok (.iload_n 3, 1) := by decide +kernel
theorem dX8_make_83 : decode cX8_make 83 = .ok (.iastore, 1) := by decide +kernel
theorem dX8_make_84 : decode cX8_make 84 = .ok (.aload_n 0, 1) := by decide +kernel
theorem dX8_make_85 : decode cX8_make 85 = .ok (.dup, 1) := by decide +kernel
theorem dX8_make_86 : decode cX8_make 86 = .ok (.getfield 108, 3) := by decide +kernel
theorem dX8_make_89 : decode cX8_make 89 = .ok (.iconst 1, 1) := by decide +kernel
theorem dX8_make_90 : decode cX8_make 90 = .ok (.iadd, 1) := by decide +kernel
theorem dX8_make_91 : decode cX8_make 91 = .ok (.putfield 108, 3) := by decide +kernel
theorem dX8_make_94 : decode cX8_make 94 = .ok (.aload_n 0, 1) := by decide +kernel
theorem dX8_make_95 : decode cX8_make 95 = .ok (.getfield 30, 3) := by decide +kernel
theorem dX8_make_98 : decode cX8_make 98 = .ok (.iload_n 1, 1) := by decide +kernel
theorem dX8_make_99 : decode cX8_make 99 = .ok (.aload_n 0, 1) := by decide +kernel
theorem dX8_make_100 : decode cX8_make 100 = .ok (.getfield 108, 3) := by decide +kernel
theorem dX8_make_103 : decode cX8_make 103 = .ok (.iastore, 1) := by decide +kernel
theorem dX8_make_104 : decode cX8_make 104 = .ok (.iconst 1, 1) := by decide +kernel
theorem dX8_make_105 : decode cX8_make 105 = .ok (.ireturn, 1) := by decide +kernel
theorem dX8_lay_0 : decode cX8_lay 0 = .ok (.aload_n 0, 1) := by decide +kernel
theorem dX8_lay_1 : decode cX8_lay 1 = .ok (.iconst 0, 1) := by decide +kernel
theorem dX8_lay_2 : decode cX8_lay 2 = .ok (.putfield 48, 3) := by decide +kernel
theorem dX8_lay_5 : decode cX8_lay 5 = .ok (.iload_n 1, 1) := by decide +kernel
theorem dX8_lay_6 : decode cX8_lay 6 = .ok (.invokestatic 102, 3) := by decide +kernel
theorem dX8_lay_9 : decode cX8_lay 9 = .ok (.ifCond .eq 10, 3) := by decide +kernel
theorem dX8_lay_12 : decode cX8_lay 12 = .ok (.iload_n 2, 1) := by decide +kernel
theorem dX8_lay_13 : decode cX8_lay 13 = .ok (.invokestatic 102, 3) := by decide +kernel
theorem dX8_lay_16 : decode cX8_lay 16 = .ok (.ifCond .ne 9, 3) := by decide +kernel
theorem dX8_lay_19 : decode cX8_lay 19 = .ok (.aload_n 0, 1) := by decide +kernel
theorem dX8_lay_20 : decode cX8_lay 20 = .ok (.iconst 1, 1) := by decide +kernel
theorem dX8_lay_21 : decode cX8_lay 21 = .ok (.invokevirtual 105, 3) := by decide +kernel
theorem dX8_lay_24 : decode cX8_lay 24 = .ok (.ireturn, 1) := by decide +kernel
theorem dX8_lay_25 : decode cX8_lay 25 = .ok (.aload_n 0, 1) := by decide +kernel
theorem dX8_lay_26 : decode cX8_lay 26 = .ok (.getfield 30, 3) := by decide +kernel
theorem dX8_lay_29 : decode cX8_lay 29 = .ok (.iload_n 2, 1) := by decide +kernel
theorem dX8_lay_30 : decode cX8_lay 30 = .ok (.aload_n 0, 1) := by decide +kernel
theorem dX8_lay_31 : decode cX8_lay 31 = .ok (.getfield 30, 3) := by decide +kernel
theorem dX8_lay_34 : decode cX8_lay 34 = .ok (.iload_n 1, 1) := by decide +kernel
theorem dX8_lay_35 : decode cX8_lay 35 = .ok (.iaload, 1) := by decide +kernel
theorem dX8_lay_36 : decode cX8_lay 36 = .ok (.iastore, 1) := by decide +kernel
theorem dX8_lay_37 : decode cX8_lay 37 = .ok (.aload_n 0, 1) := by decide +kernel
theorem dX8_lay_38 : decode cX8_lay 38 = .ok (.getfield 30, 3) := by decide +kernel
theorem dX8_lay_41 : decode cX8_lay 41 = .ok (.iload_n 2, 1) := by decide +kernel
theorem dX8_lay_42 : decode cX8_lay 42 = .ok (.iaload, 1) := by decide +kernel
theorem dX8_lay_43 : decode cX8_lay 43 = .ok (.ifCond .le 7, 3) := by decide +kernel
theorem dX8_lay_46 : decode cX8_lay 46 = .ok (.iconst 1, 1) := by decide +kernel
theorem dX8_lay_47 : decode cX8_lay 47 = .ok (.goto 4, 3) := by decide +kernel
theorem dX8_lay_50 : decode cX8_lay 50 = .ok (.iconst 0, 1) := by decide +kernel
theorem dX8_lay_51 : decode cX8_lay 51 = .ok (.ireturn, 1) := by decide +kernel
theorem dX8_places_0 : decode cX8_places 0 = .ok (.aload_n 0, 1) := by decide +kernel
theorem dX8_places_1 : decode cX8_places 1 = .ok (.iconst 0, 1) := by decide +kernel
theorem dX8_places_2 : decode cX8_places 2 = .ok (.putfield 48, 3) := by decide +kernel
theorem dX8_places_5 : decode cX8_places 5 = .ok (.iload_n 1, 1) := by decide +kernel
theorem dX8_places_6 : decode cX8_places 6 = .ok (.invokestatic 102, 3) := by decide +kernel
theorem dX8_places_9 : decode cX8_places 9 = .ok (.ifCond .ne 9, 3) := by decide +kernel
theorem dX8_places_12 : decode cX8_places 12 = .ok (.aload_n 0, 1) := by decide +kernel
theorem dX8_places_13 : decode cX8_places 13 = .ok (.iconst 1, 1) := by decide +kernel
theorem dX8_places_14 : decode cX8_places 14 = .ok (.invokevirtual 105, 3) := by decide +kernel
theorem dX8_places_17 : decode cX8_places 17 = .ok (.ireturn, 1) := by decide +kernel
theorem dX8_places_18 : decode cX8_places 18 = .ok (.aload_n 0, 1) := by decide +kernel
theorem dX8_places_19 : decode cX8_places 19 = .ok (.iload_n 1, 1) := by decide +kernel
theorem dX8_places_20 : decode cX8_places 20 = .ok (.invokevirtual 111, 3) := by decide +kernel
theorem dX8_places_23 : decode cX8_places 23 = .ok (.istore_n 2, 1) := by decide +kernel
theorem dX8_places_24 : decode cX8_places 24 = .ok (.iload_n 2, 1) := by decide +kernel
theorem dX8_places_25 : decode cX8_places 25 = .ok (.ifCond .le 11, 3) := by decide +kernel
theorem dX8_places_28 : decode cX8_places 28 = .ok (.aload_n 0, 1) := by decide +kernel
theorem dX8_places_29 : decode cX8_places 29 = .ok (.iload_n 2, 1) := by decide +kernel
theorem dX8_places_30 : decode cX8_places 30 = .ok (.invokevirtual 105, 3) := by decide +kernel
theorem dX8_places_33 : decode cX8_places 33 = .ok (.goto 13, 3) := by decide +kernel
theorem dX8_places_36 : decode cX8_places 36 = .ok (.aload_n 0, 1) := by decide +kernel
theorem dX8_places_37 : decode cX8_places 37 = .ok (.getfield 16, 3) := by decide +kernel
theorem dX8_places_40 : decode cX8_places 40 = .ok (.aload_n 0, 1) := by decide +kernel
theorem dX8_places_41 : decode cX8_places 41 = .ok (.iload_n 1, 1) := by decide +kernel
theorem dX8_places_42 : decode cX8_places 42 = .ok (.invokevirtual 56, 3) := by decide +kernel
theorem dX8_places_45 : decode cX8_places 45 = .ok (.iaload, 1) := by decide +kernel
theorem dX8_places_46 : decode cX8_places 46 = .ok (.ireturn, 1) := by decide +kernel
theorem dX8_kind_0 : decode cX8_kind 0 = .ok (.aload_n 0, 1) := by decide +kernel
theorem dX8_kind_1 : decode cX8_kind 1 = .ok (.iconst 0, 1) := by decide +kernel
theorem dX8_kind_2 : decode cX8_kind 2 = .ok (.putfield 48, 3) := by decide +kernel
theorem dX8_kind_5 : decode cX8_kind 5 = .ok (.iload_n 1, 1) := by decide +kernel
theorem dX8_kind_6 : decode cX8_kind 6 = .ok (.invokestatic 102, 3) := by decide +kernel
theorem dX8_kind_9 : decode cX8_kind 9 = .ok (.ifCond .ne 9, 3) := by decide +kernel
theorem dX8_kind_12 : decode cX8_kind 12 = .ok (.aload_n 0, 1) := by decide +kernel
theorem dX8_kind_13 : decode cX8_kind 13 = .ok (.iconst 1, 1) := by decide +kernel
theorem dX8_kind_14 : decode cX8_kind 14 = .ok (.invokevirtual 105, 3) := by decide +kernel
theorem dX8_kind_17 : decode cX8_kind 17 = .ok (.ireturn, 1) := by decide +kernel
theorem dX8_kind_18 : decode cX8_kind 18 = .ok (.aload_n 0, 1) := by decide +kernel
theorem dX8_kind_19 : decode cX8_kind 19 = .ok (.iload_n 1, 1) := by decide +kernel
theorem dX8_kind_20 : decode cX8_kind 20 = .ok (.invokevirtual 56, 3) := by decide +kernel
theorem dX8_kind_23 : decode cX8_kind 23 = .ok (.ifCond .ge 7, 3) := by decide +kernel
theorem dX8_kind_26 : decode cX8_kind 26 = .ok (.iconst (-1), 1) := by decide +kernel
theorem dX8_kind_27 : decode cX8_kind 27 = .ok (.goto 13, 3) := by decide +kernel
theorem dX8_kind_30 : decode cX8_kind 30 = .ok (.aload_n 0, 1) := by decide +kernel
theorem dX8_kind_31 : decode cX8_kind 31 = .ok (.getfield 13, 3) := by decide +kernel
theorem dX8_kind_34 : decode cX8_kind 34 = .ok (.aload_n 0, 1) := by decide +kernel
theorem dX8_kind_35 : decode cX8_kind 35 = .ok (.iload_n 1, 1) := by decide +kernel
theorem dX8_kind_36 : decode cX8_kind 36 = .ok (.invokevirtual 56, 3) := by decide +kernel
theorem dX8_kind_39 : decode cX8_kind 39 = .ok (.iaload, 1) := by decide +kernel
theorem dX8_kind_40 : decode cX8_kind 40 = .ok (.ireturn, 1) := by decide +kernel
theorem dX8_isCard_0 : decode cX8_isCard 0 = .ok (.aload_n 0, 1) := by decide +kernel
theorem dX8_isCard_1 : decode cX8_isCard 1 = .ok (.iload_n 1, 1) := by decide +kernel
theorem dX8_isCard_2 : decode cX8_isCard 2 = .ok (.invokevirtual 56, 3) := by decide +kernel
theorem dX8_isCard_5 : decode cX8_isCard 5 = .ok (.ifCond .lt 19, 3) := by decide +kernel
theorem dX8_isCard_8 : decode cX8_isCard 8 = .ok (.aload_n 0, 1) := by decide +kernel
theorem dX8_isCard_9 : decode cX8_isCard 9 = .ok (.aload_n 0, 1) := by decide +kernel
theorem dX8_isCard_10 : decode cX8_isCard 10 = .ok (.iload_n 1, 1) := by decide +kernel
theorem dX8_isCard_11 : decode cX8_isCard 11 = .ok (.invokevirtual 56, 3) := by decide +kernel
theorem dX8_isCard_14 : decode cX8_isCard 14 = .ok (.invokevirtual 60, 3) := by decide +kernel
theorem dX8_isCard_17 : decode cX8_isCard 17 = .ok (.ifCond .ne 7, 3) := by decide +kernel
theorem dX8_isCard_20 : decode cX8_isCard 20 = .ok (.iconst 1, 1) := by decide +kernel
theorem dX8_isCard_21 : decode cX8_isCard 21 = .ok (.goto 4, 3) := by decide +kernel
theorem dX8_isCard_24 : decode cX8_isCard 24 = .ok (.iconst 0, 1) := by decide +kernel
theorem dX8_isCard_25 : decode cX8_isCard 25 = .ok (.ireturn, 1) := by decide +kernel
theorem dX8_tag_0 : decode cX8_tag 0 = .ok (.aload_n 0, 1) := by decide +kernel
theorem dX8_tag_1 : decode cX8_tag 1 = .ok (.iconst 0, 1) := by decide +kernel
theorem dX8_tag_2 : decode cX8_tag 2 = .ok (.putfield 48, 3) := by decide +kernel
theorem dX8_tag_5 : decode cX8_tag 5 = .ok (.iload_n 1, 1) := by decide +kernel
theorem dX8_tag_6 : decode cX8_tag 6 = .ok (.invokestatic 102, 3) := by decide +kernel
theorem dX8_tag_9 : decode cX8_tag 9 = .ok (.ifCond .ne 9, 3) := by decide +kernel
theorem dX8_tag_12 : decode cX8_tag 12 = .ok (.aload_n 0, 1) := by decide +kernel
theorem dX8_tag_13 : decode cX8_tag 13 = .ok (.iconst 1, 1) := by decide +kernel
theorem dX8_tag_14 : decode cX8_tag 14 = .ok (.invokevirtual 105, 3) := by decide +kernel
theorem dX8_tag_17 : decode cX8_tag 17 = .ok (.ireturn, 1) := by decide +kernel
theorem dX8_tag_18 : decode cX8_tag 18 = .ok (.aload_n 0, 1) := by decide +kernel
theorem dX8_tag_19 : decode cX8_tag 19 = .ok (.iload_n 1, 1) := by decide +kernel
theorem dX8_tag_20 : decode cX8_tag 20 = .ok (.invokevirtual 114, 3) := by decide +kernel
theorem dX8_tag_23 : decode cX8_tag 23 = .ok (.ifCond .eq 16, 3) := by decide +kernel
theorem dX8_tag_26 : decode cX8_tag 26 = .ok (.aload_n 0, 1) := by decide +kernel
theorem dX8_tag_27 : decode cX8_tag 27 = .ok (.getfield 19, 3) := by decide +kernel
theorem dX8_tag_30 : decode cX8_tag 30 = .ok (.aload_n 0, 1) := by decide +kernel
theorem dX8_tag_31 : decode cX8_tag 31 = .ok (.iload_n 1, 1) := by decide +kernel
theorem dX8_tag_32 : decode cX8_tag 32 = .ok (.invokevirtual 56, 3) := by decide +kernel
theorem dX8_tag_35 : decode cX8_tag 35 = .ok (.iaload, 1) := by decide +kernel
theorem dX8_tag_36 : decode cX8_tag 36 = .ok (.goto 8, 3) := by decide +kernel
theorem dX8_tag_39 : decode cX8_tag 39 = .ok (.aload_n 0, 1) := by decide +kernel
theorem dX8_tag_40 : decode cX8_tag 40 = .ok (.iconst 5, 1) := by decide +kernel
theorem dX8_tag_41 : decode cX8_tag 41 = .ok (.invokevirtual 105, 3) := by decide +kernel
theorem dX8_tag_44 : decode cX8_tag 44 = .ok (.ireturn, 1) := by decide +kernel
theorem dX8_load_0 : decode cX8_load 0 = .ok (.aload_n 0, 1) := by decide +kernel
theorem dX8_load_1 : decode cX8_load 1 = .ok (.iconst 0, 1) := by decide +kernel
theorem dX8_load_2 : decode cX8_load 2 = .ok (.putfield 48, 3) := by decide +kernel
theorem dX8_load_5 : decode cX8_load 5 = .ok (.iload_n 1, 1) := by decide +kernel
theorem dX8_load_6 : decode cX8_load 6 = .ok (.invokestatic 102, 3) := by decide +kernel
theorem dX8_load_9 : decode cX8_load 9 = .ok (.ifCond .ne 9, 3) := by decide +kernel
theorem dX8_load_12 : decode cX8_load 12 = .ok (.aload_n 0, 1) := by decide +kernel
theorem dX8_load_13 : decode cX8_load 13 = .ok (.iconst 1, 1) := by decide +kernel
theorem dX8_load_14 : decode cX8_load 14 = .ok (.invokevirtual 105, 3) := by decide +kernel
theorem dX8_load_17 : decode cX8_load 17 = .ok (.ireturn, 1) := by decide +kernel
theorem dX8_load_18 : decode cX8_load 18 = .ok (.aload_n 0, 1) := by decide +kernel
theorem dX8_load_19 : decode cX8_load 19 = .ok (.iload_n 1, 1) := by decide +kernel
theorem dX8_load_20 : decode cX8_load 20 = .ok (.invokevirtual 114, 3) := by decide +kernel
theorem dX8_load_23 : decode cX8_load 23 = .ok (.ifCond .ne 9, 3) := by decide +kernel
theorem dX8_load_26 : decode cX8_load 26 = .ok (.aload_n 0, 1) := by decide +kernel
theorem dX8_load_27 : decode cX8_load 27 = .ok (.iconst 5, 1) := by decide +kernel
theorem dX8_load_28 : decode cX8_load 28 = .ok (.invokevirtual 105, 3) := by decide +kernel
theorem dX8_load_31 : decode cX8_load 31 = .ok (.ireturn, 1) := by decide +kernel
theorem dX8_load_32 : decode cX8_load 32 = .ok (.aload_n 0, 1) := by decide +kernel
theorem dX8_load_33 : decode cX8_load 33 = .ok (.getfield 13, 3) := by decide +kernel
theorem dX8_load_36 : decode cX8_load 36 = .ok (.aload_n 0, 1) := by decide +kernel
theorem dX8_load_37 : decode cX8_load 37 = .ok (.iload_n 1, 1) := by decide +kernel
theorem dX8_load_38 : decode cX8_load 38 = .ok (.invokevirtual 56, 3) := by decide +kernel
theorem dX8_load_41 : decode cX8_load 41 = .ok (.iaload, 1) := by decide +kernel
theorem dX8_load_42 : decode cX8_load 42 = .ok (.bipush 14, 2) := by decide +kernel
theorem dX8_load_44 : decode cX8_load 44 = .ok (.if_icmp .ne 20, 3) := by decide +kernel
theorem dX8_load_47 : decode cX8_load 47 = .ok (.iconst 2, 1) := by decide +kernel
theorem dX8_load_48 : decode cX8_load 48 = .ok (.aload_n 0, 1) := by decide +kernel
theorem dX8_load_49 : decode cX8_load 49 = .ok (.getfield 19, 3) := by decide +kernel
theorem dX8_load_52 : decode cX8_load 52 = .ok (.aload_n 0, 1) := by decide +kernel
theorem dX8_load_53 : decode cX8_load 53 = .ok (.iload_n 1, 1) := by decide +kernel
theorem dX8_load_54 : decode cX8_load 54 = .ok (.invokevirtual 56, 3) := by decide +kernel
theorem dX8_load_57 : decode cX8_load 57 = .ok (.iaload, 1) := by decide +kernel
theorem dX8_load_58 : decode cX8_load 58 = .ok (.imul, 1) := by decide +kernel
theorem dX8_load_59 : decode cX8_load 59 = .ok (.iconst 1, 1) := by decide +kernel
theorem dX8_load_60 : decode cX8_load 60 = .ok (.iadd, 1) := by decide +kernel
theorem dX8_load_61 : decode cX8_load 61 = .ok (.goto 13, 3) := by decide +kernel
theorem dX8_load_64 : decode cX8_load 64 = .ok (.aload_n 0, 1) := by decide +kernel
theorem dX8_load_65 : decode cX8_load 65 = .ok (.getfield 19, 3) := by decide +kernel
theorem dX8_load_68 : decode cX8_load 68 = .ok (.aload_n 0, 1) := by decide +kernel
theorem dX8_load_69 : decode cX8_load 69 = .ok (.iload_n 1, 1) := by decide +kernel
theorem dX8_load_70 : decode cX8_load 70 = .ok (.invokevirtual 56, 3) := by decide +kernel
theorem dX8_load_73 : decode cX8_load 73 = .ok (.iaload, 1) := by decide +kernel
theorem dX8_load_74 : decode cX8_load 74 = .ok (.ireturn, 1) := by decide +kernel
theorem dX8_reasonOfPlace_0 : decode cX8_reasonOfPlace 0 = .ok (.aload_n 0, 1) := by decide +kernel
theorem dX8_reasonOfPlace_1 : decode cX8_reasonOfPlace 1 = .ok (.iload_n 1, 1) := by decide +kernel
theorem dX8_reasonOfPlace_2 : decode cX8_reasonOfPlace 2 = .ok (.invokevirtual 111, 3) := by decide +kernel
theorem dX8_reasonOfPlace_5 : decode cX8_reasonOfPlace 5 = .ok (.istore_n 3, 1) := by decide +kernel
theorem dX8_reasonOfPlace_6 : decode cX8_reasonOfPlace 6 = .ok (.iload_n 3, 1) := by decide +kernel
theorem dX8_reasonOfPlace_7 : decode cX8_reasonOfPlace 7 = .ok (.ifCond .le 5, 3) := by decide +kernel
theorem dX8_reasonOfPlace_10 : decode cX8_reasonOfPlace 10 = .ok (.iload_n 3, 1) := by decide +kernel
theorem dX8_reasonOfPlace_11 : decode cX8_reasonOfPlace 11 = .ok (.ireturn, 1) := by decide +kernel
theorem dX8_reasonOfPlace_12 : decode cX8_reasonOfPlace 12 = .ok (.aload_n 0, 1) := by decide +kernel
theorem dX8_reasonOfPlace_13 : decode cX8_reasonOfPlace 13 = .ok (.aload_n 0, 1) := by decide +kernel
theorem dX8_reasonOfPlace_14 : decode cX8_reasonOfPlace 14 = .ok (.iload_n 1, 1) := by decide +kernel
theorem dX8_reasonOfPlace_15 : decode cX8_reasonOfPlace 15 = .ok (.invokevirtual 56, 3) := by decide +kernel
theorem dX8_reasonOfPlace_18 : decode cX8_reasonOfPlace 18 = .ok (.iload_n 2, 1) := by decide +kernel
theorem dX8_reasonOfPlace_19 : decode cX8_reasonOfPlace 19 = .ok (.invokevirtual 117, 3) := by decide +kernel
theorem dX8_reasonOfPlace_22 : decode cX8_reasonOfPlace 22 = .ok (.ifCond .eq 7, 3) := by decide +kernel
theorem dX8_reasonOfPlace_25 : decode cX8_reasonOfPlace 25 = .ok (.iconst 0, 1) := by decide +kernel
theorem dX8_reasonOfPlace_26 : decode cX8_reasonOfPlace 26 = .ok (.goto 4, 3) := by decide +kernel
theorem dX8_reasonOfPlace_29 : decode cX8_reasonOfPlace 29 = .ok (.iconst 4, 1) := by decide +kernel
theorem dX8_reasonOfPlace_30 : decode cX8_reasonOfPlace 30 = .ok (.ireturn, 1) := by decide +kernel
theorem dX8_put_0 : decode cX8_put 0 = .ok (.aload_n 0, 1) := by decide +kernel
theorem dX8_put_1 : decode cX8_put 1 = .ok (.iconst 0, 1) := by decide +kernel
theorem dX8_put_2 : decode cX8_put 2 = .ok (.putfield 48, 3) := by decide +kernel
theorem dX8_put_5 : decode cX8_put 5 = .ok (.iload_n 1, 1) := by decide +kernel
theorem dX8_put_6 : decode cX8_put 6 = .ok (.invokestatic 102, 3) := by decide +kernel
theorem dX8_put_9 : decode cX8_put 9 = .ok (.ifCond .eq 13, 3) := by decide +kernel
theorem dX8_put_12 : decode cX8_put 12 = .ok (.iload_n 3, 1) := by decide +kernel
theorem dX8_put_13 : decode cX8_put 13 = .ok (.iconst 0, 1) := by decide +kernel
theorem dX8_put_14 : decode cX8_put 14 = .ok (.bipush 7, 2) := by decide +kernel
theorem dX8_put_16 : decode cX8_put 16 = .ok (.invokestatic 52, 3) := by decide +kernel
theorem dX8_put_19 : decode cX8_put 19 = .ok (.ifCond .ne 9, 3) := by decide +kernel
theorem dX8_put_22 : decode cX8_put 22 = .ok (.aload_n 0, 1) := by decide +kernel
theorem dX8_put_23 : decode cX8_put 23 = .ok (.iconst 1, 1) := by decide +kernel
theorem dX8_put_24 : decode cX8_put 24 = .ok (.invokevirtual 105, 3) := by decide +kernel
theorem dX8_put_27 : decode cX8_put 27 = .ok (.ireturn, 1) := by decide +kernel
theorem dX8_put_28 : decode cX8_put 28 = .ok (.aload_n 0, 1) := by decide +kernel
theorem dX8_put_29 : decode cX8_put 29 = .ok (.iload_n 1, 1) := by decide +kernel
theorem dX8_put_30 : decode cX8_put 30 = .ok (.iload_n 2, 1) := by decide +kernel
theorem dX8_put_31 : decode cX8_put 31 = .ok (.invokevirtual 120, 3) := by decide +kernel
theorem dX8_put_34 : decode cX8_put 34 = .ok (.istore 6, 2) := by decide +kernel
theorem dX8_put_36 : decode cX8_put 36 = .ok (.iload 6, 2) := by decide +kernel
theorem dX8_put_38 : decode cX8_put 38 = .ok (.ifCond .le 10, 3) := by decide +kernel
theorem dX8_put_41 : decode cX8_put 41 = .ok (.aload_n 0, 1) := by decide +kernel
theorem dX8_put_42 : decode cX8_put 42 = .ok (.iload 6, 2) := by decide +kernel
theorem dX8_put_44 : decode cX8_put 44 = .ok (.invokevirtual 105, 3) := by decide +kernel
theorem dX8_put_47 : decode cX8_put 47 = .ok (.ireturn, 1) := by decide +kernel
theorem dX8_put_48 : decode cX8_put 48 = .ok (.aload_n 0, 1) := by decide +kernel
theorem dX8_put_49 : decode cX8_put 49 = .ok (.iload_n 3, 1) := by decide +kernel
theorem dX8_put_50 : decode cX8_put 50 = .ok (.iload 4, 2) := by decide +kernel
theorem dX8_put_52 : decode cX8_put 52 = .ok (.iload 5, 2) := by decide +kernel
theorem dX8_put_54 : decode cX8_put 54 = .ok (.invokevirtual 124, 3) := by decide +kernel
theorem dX8_put_57 : decode cX8_put 57 = .ok (.aload_n 0, 1) := by decide +kernel
theorem dX8_put_58 : decode cX8_put 58 = .ok (.aload_n 0, 1) := by decide +kernel
theorem dX8_put_59 : decode cX8_put 59 = .ok (.iload_n 1, 1) := by decide +kernel
theorem dX8_put_60 : decode cX8_put 60 = .ok (.invokevirtual 56, 3) := by decide +kernel
theorem dX8_put_63 : decode cX8_put 63 = .ok (.invokevirtual 128, 3) := by decide +kernel
theorem dX8_put_66 : decode cX8_put 66 = .ok (.ifCond .ne 9, 3) := by decide +kernel
theorem dX8_put_69 : decode cX8_put 69 = .ok (.aload_n 0, 1) := by decide +kernel
theorem dX8_put_70 : decode cX8_put 70 = .ok (.iconst 5, 1) := by decide +kernel
theorem dX8_put_71 : decode cX8_put 71 = .ok (.invokevirtual 105, 3) := by decide +kernel
theorem dX8_put_74 : decode cX8_put 74 = .ok (.ireturn, 1) := by decide +kernel
theorem dX8_put_75 : decode cX8_put 75 = .ok (.aload_n 0, 1) := by decide +kernel
theorem dX8_put_76 : decode cX8_put 76 = .ok (.aload_n 0, 1) := by decide +kernel
theorem dX8_put_77 : decode cX8_put 77 = .ok (.getfield 13, 3) := by decide +kernel
theorem dX8_put_80 : decode cX8_put 80 = .ok (.aload_n 0, 1) := by decide +kernel
theorem dX8_put_81 : decode cX8_put 81 = .ok (.iload_n 1, 1) := by decide +kernel
theorem dX8_put_82 : decode cX8_put 82 = .ok (.invokevirtual 56, 3) := by decide +kernel
theorem dX8_put_85 : decode cX8_put 85 = .ok (.iaload, 1) := by decide +kernel
theorem dX8_put_86 : decode cX8_put 86 = .ok (.invokevirtual 131, 3) := by decide +kernel
theorem dX8_put_89 : decode cX8_put 89 = .ok (.aload_n 0, 1) := by decide +kernel
theorem dX8_put_90 : decode cX8_put 90 = .ok (.aload_n 0, 1) := by decide +kernel
theorem dX8_put_91 : decode cX8_put 91 = .ok (.iload_n 1, 1) := by decide +kernel
theorem dX8_put_92 : decode cX8_put 92 = .ok (.invokevirtual 56, 3) := by decide +kernel
theorem dX8_put_95 : decode cX8_put 95 = .ok (.iload_n 2, 1) := by decide +kernel
theorem dX8_put_96 : decode cX8_put 96 = .ok (.invokevirtual 135, 3) := by decide +kernel
theorem dX8_put_99 : decode cX8_put 99 = .ok (.iconst 1, 1) := by decide +kernel
theorem dX8_put_100 : decode cX8_put 100 = .ok (.ireturn, 1) := by decide +kernel
theorem dX8_putBoxed_0 : decode cX8_putBoxed 0 = .ok (.aload_n 0, 1) := by decide +kernel
theorem dX8_putBoxed_1 : decode cX8_putBoxed 1 = .ok (.iload_n 1, 1) := by decide +kernel
theorem dX8_putBoxed_2 : decode cX8_putBoxed 2 = .ok (.iload_n 2, 1) := by decide +kernel
theorem dX8_putBoxed_3 : decode cX8_putBoxed 3 = .ok (.iload_n 3, 1) := by decide +kernel
theorem dX8_putBoxed_4 : decode cX8_putBoxed 4 = .ok (.iload 4, 2) := by decide +kernel
theorem dX8_putBoxed_6 : decode cX8_putBoxed 6 = .ok (.iload 5, 2) := by decide +kernel
theorem dX8_putBoxed_8 : decode cX8_putBoxed 8 = .ok (.invokevirtual 139, 3) := by decide +kernel
theorem dX8_putBoxed_11 : decode cX8_putBoxed 11 = .ok (.ireturn, 1) := by decide +kernel
theorem dX8_putThing_0 : decode cX8_putThing 0 = .ok (.aload_n 0, 1) := by decide +kernel
theorem dX8_putThing_1 : decode cX8_putThing 1 = .ok (.iconst 0, 1) := by decide +kernel
theorem dX8_putThing_2 : decode cX8_putThing 2 = .ok (.putfield 48, 3) := by decide +kernel
theorem dX8_putThing_5 : decode cX8_putThing 5 = .ok (.iload_n 1, 1) := by decide +kernel
theorem dX8_putThing_6 : decode cX8_putThing 6 = .ok (.invokestatic 102, 3) := by decide +kernel
theorem dX8_putThing_9 : decode cX8_putThing 9 = .ok (.ifCond .eq 10, 3) := by decide +kernel
theorem dX8_putThing_12 : decode cX8_putThing 12 = .ok (.iload_n 3, 1) := by decide +kernel
theorem dX8_putThing_13 : decode cX8_putThing 13 = .ok (.invokestatic 102, 3) := by decide +kernel
theorem dX8_putThing_16 : decode cX8_putThing 16 = .ok (.ifCond .ne 9, 3) := by decide +kernel
theorem dX8_putThing_19 : decode cX8_putThing 19 = .ok (.aload_n 0, 1) := by decide +kernel
theorem dX8_putThing_20 : decode cX8_putThing 20 = .ok (.iconst 1, 1) := by decide +kernel
theorem dX8_putThing_21 : decode cX8_putThing 21 = .ok (.invokevirtual 105, 3) := by decide +kernel
theorem dX8_putThing_24 : decode cX8_putThing 24 = .ok (.ireturn, 1) := by decide +kernel
theorem dX8_putThing_25 : decode cX8_putThing 25 = .ok (.aload_n 0, 1) := by decide +kernel
theorem dX8_putThing_26 : decode cX8_putThing 26 = .ok (.iload_n 1, 1) := by decide +kernel
theorem dX8_putThing_27 : decode cX8_putThing 27 = .ok (.iload_n 2, 1) := by decide +kernel
theorem dX8_putThing_28 : decode cX8_putThing 28 = .ok (.invokevirtual 120, 3) := by decide +kernel
theorem dX8_putThing_31 : decode cX8_putThing 31 = .ok (.istore 4, 2) := by decide +kernel
theorem dX8_putThing_33 : decode cX8_putThing 33 = .ok (.iload 4, 2) := by decide +kernel
theorem dX8_putThing_35 : decode cX8_putThing 35 = .ok (.ifCond .le 10, 3) := by decide +kernel
theorem dX8_putThing_38 : decode cX8_putThing 38 = .ok (.aload_n 0, 1) := by decide +kernel
theorem dX8_putThing_39 : decode cX8_putThing 39 = .ok (.iload 4, 2) := by decide +kernel
theorem dX8_putThing_41 : decode cX8_putThing 41 = .ok (.invokevirtual 105, 3) := by decide +kernel
theorem dX8_putThing_44 : decode cX8_putThing 44 = .ok (.ireturn, 1) := by decide +kernel
theorem dX8_putThing_45 : decode cX8_putThing 45 = .ok (.aload_n 0, 1) := by decide +kernel
theorem dX8_putThing_46 : decode cX8_putThing 46 = .ok (.aload_n 0, 1) := by decide +kernel
theorem dX8_putThing_47 : decode cX8_putThing 47 = .ok (.iload_n 1, 1) := by decide +kernel
theorem dX8_putThing_48 : decode cX8_putThing 48 = .ok (.invokevirtual 56, 3) := by decide +kernel
theorem dX8_putThing_51 : decode cX8_putThing 51 = .ok (.invokevirtual 91, 3) := by decide +kernel
theorem dX8_putThing_54 : decode cX8_putThing 54 = .ok (.ifCond .ne 22, 3) := by decide +kernel
theorem dX8_putThing_57 : decode cX8_putThing 57 = .ok (.aload_n 0, 1) := by decide +kernel
theorem dX8_putThing_58 : decode cX8_putThing 58 = .ok (.aload_n 0, 1) := by decide +kernel
theorem dX8_putThing_59 : decode cX8_putThing 59 = .ok (.iload_n 1, 1) := by decide +kernel
theorem dX8_putThing_60 : decode cX8_putThing 60 = .ok (.invokevirtual 56, 3) := by decide +kernel
theorem dX8_putThing_63 : decode cX8_putThing 63 = .ok (.aload_n 0, 1) := by decide +kernel
theorem dX8_putThing_64 : decode cX8_putThing 64 = .ok (.getfield 30, 3) := by decide +kernel
theorem dX8_putThing_67 : decode cX8_putThing 67 = .ok (.iload_n 3, 1) := by decide +kernel
theorem dX8_putThing_68 : decode cX8_putThing 68 = .ok (.iaload, 1) := by decide +kernel
theorem dX8_putThing_69 : decode cX8_putThing 69 = .ok (.i2l, 1) := by decide +kernel
theorem dX8_putThing_70 : decode cX8_putThing 70 = .ok (.invokevirtual 98, 3) := by decide +kernel
theorem dX8_putThing_73 : decode cX8_putThing 73 = .ok (.ifCond .ne 9, 3) := by decide +kernel
theorem dX8_putThing_76 : decode cX8_putThing 76 = .ok (.aload_n 0, 1) := by decide +kernel
theorem dX8_putThing_77 : decode cX8_putThing 77 = .ok (.iconst 5, 1) := by decide +kernel
theorem dX8_putThing_78 : decode cX8_putThing 78 = .ok (.invokevirtual 105, 3) := by decide +kernel
theorem dX8_putThing_81 : decode cX8_putThing 81 = .ok (.ireturn, 1) := by decide +kernel
theorem dX8_putThing_82 : decode cX8_putThing 82 = .ok (.aload_n 0, 1) := by decide +kernel
theorem dX8_putThing_83 : decode cX8_putThing 83 = .ok (.getfield 22, 3) := by decide +kernel
theorem dX8_putThing_86 : decode cX8_putThing 86 = .ok (.bipush 24, 2) := by decide +kernel
theorem dX8_putThing_88 : decode cX8_putThing 88 = .ok (.aload_n 0, 1) := by decide +kernel
theorem dX8_putThing_89 : decode cX8_putThing 89 = .ok (.iload_n 1, 1) := by decide +kernel
theorem dX8_putThing_90 : decode cX8_putThing 90 = .ok (.invokevirtual 56, 3) := by decide +kernel
theorem dX8_putThing_93 : decode cX8_putThing 93 = .ok (.imul, 1) := by decide +kernel
theorem dX8_putThing_94 : decode cX8_putThing 94 = .ok (.iload_n 2, 1) := by decide +kernel
theorem dX8_putThing_95 : decode cX8_putThing 95 = .ok (.iadd, 1) := by decide +kernel
theorem dX8_putThing_96 : decode cX8_putThing 96 = .ok (.aload_n 0, 1) := by decide +kernel
theorem dX8_putThing_97 : decode cX8_putThing 97 = .ok (.getfield 30, 3) := by decide +kernel
theorem dX8_putThing_100 : decode cX8_putThing 100 = .ok (.iload_n 3, 1) := by decide +kernel
theorem dX8_putThing_101 : decode cX8_putThing 101 = .ok (.iaload, 1) := by decide +kernel
theorem dX8_putThing_102 : decode cX8_putThing 102 = .ok (.i2l, 1) := by decide +kernel
theorem dX8_putThing_103 : decode cX8_putThing 103 = .ok (.lastore, 1) := by decide +kernel
theorem dX8_putThing_104 : decode cX8_putThing 104 = .ok (.aload_n 0, 1) := by decide +kernel
theorem dX8_putThing_105 : decode cX8_putThing 105 = .ok (.getfield 30, 3) := by decide +kernel
theorem dX8_putThing_108 : decode cX8_putThing 108 = .ok (.iload_n 3, 1) := by decide +kernel
theorem dX8_putThing_109 : decode cX8_putThing 109 = .ok (.iaload, 1) := by decide +kernel
theorem dX8_putThing_110 : decode cX8_putThing 110 = .ok (.ifCond .le 7, 3) := by decide +kernel
theorem dX8_putThing_113 : decode cX8_putThing 113 = .ok (.iconst 1, 1) := by decide +kernel
theorem dX8_putThing_114 : decode cX8_putThing 114 = .ok (.goto 4, 3) := by decide +kernel
theorem dX8_putThing_117 : decode cX8_putThing 117 = .ok (.iconst 0, 1) := by decide +kernel
theorem dX8_putThing_118 : decode cX8_putThing 118 = .ok (.ireturn, 1) := by decide +kernel
theorem dX8_reasonOfValue_0 : decode cX8_reasonOfValue 0 = .ok (.aload_n 0, 1) := by decide +kernel
theorem dX8_reasonOfValue_1 : decode cX8_reasonOfValue 1 = .ok (.iload_n 1, 1) := by decide +kernel
theorem dX8_reasonOfValue_2 : decode cX8_reasonOfValue 2 = .ok (.iload_n 2, 1) := by decide +kernel
theorem dX8_reasonOfValue_3 : decode cX8_reasonOfValue 3 = .ok (.invokevirtual 120, 3) := by decide +kernel
theorem dX8_reasonOfValue_6 : decode cX8_reasonOfValue 6 = .ok (.istore 4, 2) := by decide +kernel
theorem dX8_reasonOfValue_8 : decode cX8_reasonOfValue 8 = .ok (.iload 4, 2) := by decide +kernel
theorem dX8_reasonOfValue_10 : decode cX8_reasonOfValue 10 = .ok (.ifCond .le 6, 3) := by decide +kernel
theorem dX8_reasonOfValue_13 : decode cX8_reasonOfValue 13 = .ok (.iload 4, 2) := by decide +kernel
theorem dX8_reasonOfValue_15 : decode cX8_reasonOfValue 15 = .ok (.ireturn, 1) := by decide +kernel
theorem dX8_reasonOfValue_16 : decode cX8_reasonOfValue 16 = .ok (.aload_n 0, 1) := by decide +kernel
theorem dX8_reasonOfValue_17 : decode cX8_reasonOfValue 17 = .ok (.aload_n 0, 1) := by decide +kernel
theorem dX8_reasonOfValue_18 : decode cX8_reasonOfValue 18 = .ok (.iload_n 1, 1) := by decide +kernel
theorem dX8_reasonOfValue_19 : decode cX8_reasonOfValue 19 = .ok (.invokevirtual 56, 3) := by decide +kernel
theorem dX8_reasonOfValue_22 : decode cX8_reasonOfValue 22 = .ok (.invokevirtual 91, 3) := by decide +kernel
theorem dX8_reasonOfValue_25 : decode cX8_reasonOfValue 25 = .ok (.ifCond .eq 21, 3) := by decide +kernel
theorem dX8_reasonOfValue_28 : decode cX8_reasonOfValue 28 = .ok (.aload_n 0, 1) := by decide +kernel
theorem dX8_reasonOfValue_29 : decode cX8_reasonOfValue 29 = .ok (.aload_n 0, 1) := by decide +kernel
theorem dX8_reasonOfValue_30 : decode cX8_reasonOfValue 30 = .ok (.getfield 13, 3) := by decide +kernel
theorem dX8_reasonOfValue_33 : decode cX8_reasonOfValue 33 = .ok (.aload_n 0, 1) := by decide +kernel
theorem dX8_reasonOfValue_34 : decode cX8_reasonOfValue 34 = .ok (.iload_n 1, 1) := by decide +kernel
theorem dX8_reasonOfValue_35 : decode cX8_reasonOfValue 35 = .ok (.invokevirtual 56, 3) := by decide +kernel
theorem dX8_reasonOfValue_38 : decode cX8_reasonOfValue 38 = .ok (.iaload, 1) := by decide +kernel
theorem dX8_reasonOfValue_39 : decode cX8_reasonOfValue 39 = .ok (.iload_n 3, 1) := by decide +kernel
theorem dX8_reasonOfValue_40 : decode cX8_reasonOfValue 40 = .ok (.invokevirtual 94, 3) := by decide +kernel
theorem dX8_reasonOfValue_43 : decode cX8_reasonOfValue 43 = .ok (.ifCond .ne 5, 3) := by decide +kernel
theorem dX8_reasonOfValue_46 : decode cX8_reasonOfValue 46 = .ok (.iconst 5, 1) := by decide +kernel
theorem dX8_reasonOfValue_47 : decode cX8_reasonOfValue 47 = .ok (.ireturn, 1) := by decide +kernel
theorem dX8_reasonOfValue_48 : decode cX8_reasonOfValue 48 = .ok (.aload_n 0, 1) := by decide +kernel
theorem dX8_reasonOfValue_49 : decode cX8_reasonOfValue 49 = .ok (.aload_n 0, 1) := by decide +kernel
theorem dX8_reasonOfValue_50 : decode cX8_reasonOfValue 50 = .ok (.iload_n 1, 1) := by decide +kernel
theorem dX8_reasonOfValue_51 : decode cX8_reasonOfValue 51 = .ok (.invokevirtual 56, 3) := by decide +kernel
theorem dX8_reasonOfValue_54 : decode cX8_reasonOfValue 54 = .ok (.iload_n 2, 1) := by decide +kernel
theorem dX8_reasonOfValue_55 : decode cX8_reasonOfValue 55 = .ok (.invokevirtual 143, 3) := by decide +kernel
theorem dX8_reasonOfValue_58 : decode cX8_reasonOfValue 58 = .ok (.aload_n 0, 1) := by decide +kernel
theorem dX8_reasonOfValue_59 : decode cX8_reasonOfValue 59 = .ok (.iload_n 3, 1) := by decide +kernel
theorem dX8_reasonOfValue_60 : decode cX8_reasonOfValue 60 = .ok (.invokevirtual 131, 3) := by decide +kernel
theorem dX8_reasonOfValue_63 : decode cX8_reasonOfValue 63 = .ok (.iconst 0, 1) := by decide +kernel
theorem dX8_reasonOfValue_64 : decode cX8_reasonOfValue 64 = .ok (.ireturn, 1) := by decide +kernel
theorem dX8_number_0 : decode cX8_number 0 = .ok (.aload_n 0, 1) := by decide +kernel
theorem dX8_number_1 : decode cX8_number 1 = .ok (.iconst 0, 1) := by decide +kernel
theorem dX8_number_2 : decode cX8_number 2 = .ok (.putfield 48, 3) := by decide +kernel
theorem dX8_number_5 : decode cX8_number 5 = .ok (.iload_n 1, 1) := by decide +kernel
theorem dX8_number_6 : decode cX8_number 6 = .ok (.invokestatic 102, 3) := by decide +kernel
theorem dX8_number_9 : decode cX8_number 9 = .ok (.ifCond .eq 12, 3) := by decide +kernel
theorem dX8_number_12 : decode cX8_number 12 = .ok (.iload_n 3, 1) := by decide +kernel
theorem dX8_number_13 : decode cX8_number 13 = .ok (.iconst 0, 1) := by decide +kernel
theorem dX8_number_14 : decode cX8_number 14 = .ok (.iconst 5, 1) := by decide +kernel
theorem dX8_number_15 : decode cX8_number 15 = .ok (.invokestatic 52, 3) := by decide +kernel
theorem dX8_number_18 : decode cX8_number 18 = .ok (.ifCond .ne 10, 3) := by decide +kernel
theorem dX8_number_21 : decode cX8_number 21 = .ok (.aload_n 0, 1) := by decide +kernel
theorem dX8_number_22 : decode cX8_number 22 = .ok (.iconst 1, 1) := by decide +kernel
theorem dX8_number_23 : decode cX8_number 23 = .ok (.invokevirtual 105, 3) := by decide +kernel
theorem dX8_number_26 : decode cX8_number 26 = .ok (.i2l, 1) := by decide +kernel
theorem dX8_number_27 : decode cX8_number 27 = .ok (.lreturn, 1) := by decide +kernel
theorem dX8_number_28 : decode cX8_number 28 = .ok (.aload_n 0, 1) := by decide +kernel
theorem dX8_number_29 : decode cX8_number 29 = .ok (.iload_n 1, 1) := by decide +kernel
theorem dX8_number_30 : decode cX8_number 30 = .ok (.iload_n 2, 1) := by decide +kernel
theorem dX8_number_31 : decode cX8_number 31 = .ok (.iload_n 3, 1) := by decide +kernel
theorem dX8_number_32 : decode cX8_number 32 = .ok (.invokevirtual 146, 3) := by decide +kernel
theorem dX8_number_35 : decode cX8_number 35 = .ok (.istore 4, 2) := by decide +kernel
theorem dX8_number_37 : decode cX8_number 37 = .ok (.iload 4, 2) := by decide +kernel
theorem dX8_number_39 : decode cX8_number 39 = .ok (.ifCond .le 13, 3) := by decide +kernel
theorem dX8_number_42 : decode cX8_number 42 = .ok (.aload_n 0, 1) := by decide +kernel
theorem dX8_number_43 : decode cX8_number 43 = .ok (.iload 4, 2) := by decide +kernel
theorem dX8_number_45 : decode cX8_number 45 = .ok (.invokevirtual 105, 3) := by decide +kernel
theorem dX8_number_48 : decode cX8_number 48 = .ok (.i2l, 1) := by decide +kernel
theorem dX8_number_49 : decode cX8_number 49 = .ok (.goto 7, 3) := by decide +kernel
theorem dX8_number_52 : decode cX8_number 52 = .ok (.aload_n 0, 1) := by decide +kernel
theorem dX8_number_53 : decode cX8_number 53 = .ok (.getfield 69, 3) := by decide +kernel
theorem dX8_number_56 : decode cX8_number 56 = .ok (.lreturn, 1) := by decide +kernel
theorem dX8_point_0 : decode cX8_point 0 = .ok (.aload_n 0, 1) := by decide +kernel
theorem dX8_point_1 : decode cX8_point 1 = .ok (.iconst 0, 1) := by decide +kernel
theorem dX8_point_2 : decode cX8_point 2 = .ok (.putfield 48, 3) := by decide +kernel
theorem dX8_point_5 : decode cX8_point 5 = .ok (.iload_n 1, 1) := by decide +kernel
theorem dX8_point_6 : decode cX8_point 6 = .ok (.invokestatic 102, 3) := by decide +kernel
theorem dX8_point_9 : decode cX8_point 9 = .ok (.ifCond .eq 14, 3) := by decide +kernel
theorem dX8_point_12 : decode cX8_point 12 = .ok (.iload_n 3, 1) := by decide +kernel
theorem dX8_point_13 : decode cX8_point 13 = .ok (.bipush 6, 2) := by decide +kernel
theorem dX8_point_15 : decode cX8_point 15 = .ok (.bipush 7, 2) := by decide +kernel
theorem dX8_point_17 : decode cX8_point 17 = .ok (.invokestatic 52, 3) := by decide +kernel
theorem dX8_point_20 : decode cX8_point 20 = .ok (.ifCond .ne 10, 3) := by decide +kernel
theorem dX8_point_23 : decode cX8_point 23 = .ok (.aload_n 0, 1) := by decide +kernel
theorem dX8_point_24 : decode cX8_point 24 = .ok (.iconst 1, 1) := by decide +kernel
theorem dX8_point_25 : decode cX8_point 25 = .ok (.invokevirtual 105, 3) := by decide +kernel
theorem dX8_point_28 : decode cX8_point 28 = .ok (.i2d, 1) := by decide +kernel
theorem dX8_point_29 : decode cX8_point 29 = .ok (.dreturn, 1) := by decide +kernel
theorem dX8_point_30 : decode cX8_point 30 = .ok (.aload_n 0, 1) := by decide +kernel
theorem dX8_point_31 : decode cX8_point 31 = .ok (.iload_n 1, 1) := by decide +kernel
theorem dX8_point_32 : decode cX8_point 32 = .ok (.iload_n 2, 1) := by decide +kernel
theorem dX8_point_33 : decode cX8_point 33 = .ok (.iload_n 3, 1) := by decide +kernel
theorem dX8_point_34 : decode cX8_point 34 = .ok (.invokevirtual 146, 3) := by decide +kernel
theorem dX8_point_37 : decode cX8_point 37 = .ok (.istore 4, 2) := by decide +kernel
theorem dX8_point_39 : decode cX8_point 39 = .ok (.iload 4, 2) := by decide +kernel
theorem dX8_point_41 : decode cX8_point 41 = .ok (.ifCond .le 13, 3) := by decide +kernel
theorem dX8_point_44 : decode cX8_point 44 = .ok (.aload_n 0, 1) := by decide +kernel
theorem dX8_point_45 : decode cX8_point 45 = .ok (.iload 4, 2) := by decide +kernel
theorem dX8_point_47 : decode cX8_point 47 = .ok (.invokevirtual 105, 3) := by decide +kernel
theorem dX8_point_50 : decode cX8_point 50 = .ok (.i2d, 1) := by decide +kernel
theorem dX8_point_51 : decode cX8_point 51 = .ok (.goto 7, 3) := by decide +kernel
theorem dX8_point_54 : decode cX8_point 54 = .ok (.aload_n 0, 1) := by decide +kernel
theorem dX8_point_55 : decode cX8_point 55 = .ok (.getfield 73, 3) := by decide +kernel
theorem dX8_point_58 : decode cX8_point 58 = .ok (.dreturn, 1) := by decide +kernel
theorem dX8_kindOf_0 : decode cX8_kindOf 0 = .ok (.lload_n 1, 1) := by decide +kernel
theorem dX8_kindOf_1 : decode cX8_kindOf 1 = .ok (.lconst 0, 1) := by decide +kernel
theorem dX8_kindOf_2 : decode cX8_kindOf 2 = .ok (.lcmp, 1) := by decide +kernel
theorem dX8_kindOf_3 : decode cX8_kindOf 3 = .ok (.ifCond .ne 7, 3) := by decide +kernel
theorem dX8_kindOf_6 : decode cX8_kindOf 6 = .ok (.iconst (-1), 1) := by decide +kernel
theorem dX8_kindOf_7 : decode cX8_kindOf 7 = .ok (.goto 12, 3) := by decide +kernel
theorem dX8_kindOf_10 : decode cX8_kindOf 10 = .ok (.aload_n 0, 1) := by decide +kernel
theorem dX8_kindOf_11 : decode cX8_kindOf 11 = .ok (.getfield 13, 3) := by decide +kernel
theorem dX8_kindOf_14 : decode cX8_kindOf 14 = .ok (.lload_n 1, 1) := by decide +kernel
theorem dX8_kindOf_15 : decode cX8_kindOf 15 = .ok (.l2i, 1) := by decide +kernel
theorem dX8_kindOf_16 : decode cX8_kindOf 16 = .ok (.iconst 1, 1) := by decide +kernel
theorem dX8_kindOf_17 : decode cX8_kindOf 17 = .ok (.isub, 1) := by decide +kernel
theorem dX8_kindOf_18 : decode cX8_kindOf 18 = .ok (.iaload, 1) := by decide +kernel
theorem dX8_kindOf_19 : decode cX8_kindOf 19 = .ok (.ireturn, 1) := by decide +kernel
theorem dX8_what_0 : decode cX8_what 0 = .ok (.aload_n 0, 1) := by decide +kernel
theorem dX8_what_1 : decode cX8_what 1 = .ok (.iconst 0, 1) := by decide +kernel
theorem dX8_what_2 : decode cX8_what 2 = .ok (.putfield 48, 3) := by decide +kernel
theorem dX8_what_5 : decode cX8_what 5 = .ok (.iload_n 1, 1) := by decide +kernel
theorem dX8_what_6 : decode cX8_what 6 = .ok (.invokestatic 102, 3) := by decide +kernel
theorem dX8_what_9 : decode cX8_what 9 = .ok (.ifCond .ne 9, 3) := by decide +kernel
theorem dX8_what_12 : decode cX8_what 12 = .ok (.aload_n 0, 1) := by decide +kernel
theorem dX8_what_13 : decode cX8_what 13 = .ok (.iconst 1, 1) := by decide +kernel
theorem dX8_what_14 : decode cX8_what 14 = .ok (.invokevirtual 105, 3) := by decide +kernel
theorem dX8_what_17 : decode cX8_what 17 = .ok (.ireturn, 1) := by decide +kernel
theorem dX8_what_18 : decode cX8_what 18 = .ok (.aload_n 0, 1) := by decide +kernel
theorem dX8_what_19 : decode cX8_what 19 = .ok (.iload_n 1, 1) := by decide +kernel
theorem dX8_what_20 : decode cX8_what 20 = .ok (.iload_n 2, 1) := by decide +kernel
theorem dX8_what_21 : decode cX8_what 21 = .ok (.invokevirtual 120, 3) := by decide +kernel
theorem dX8_what_24 : decode cX8_what 24 = .ok (.istore_n 3, 1) := by decide +kernel
theorem dX8_what_25 : decode cX8_what 25 = .ok (.iload_n 3, 1) := by decide +kernel
theorem dX8_what_26 : decode cX8_what 26 = .ok (.ifCond .le 9, 3) := by decide +kernel
theorem dX8_what_29 : decode cX8_what 29 = .ok (.aload_n 0, 1) := by decide +kernel
theorem dX8_what_30 : decode cX8_what 30 = .ok (.iload_n 3, 1) := by decide +kernel
theorem dX8_what_31 : decode cX8_what 31 = .ok (.invokevirtual 105, 3) := by decide +kernel
theorem dX8_what_34 : decode cX8_what 34 = .ok (.ireturn, 1) := by decide +kernel
theorem dX8_what_35 : decode cX8_what 35 = .ok (.aload_n 0, 1) := by decide +kernel
theorem dX8_what_36 : decode cX8_what 36 = .ok (.aload_n 0, 1) := by decide +kernel
theorem dX8_what_37 : decode cX8_what 37 = .ok (.iload_n 1, 1) := by decide +kernel
theorem dX8_what_38 : decode cX8_what 38 = .ok (.invokevirtual 56, 3) := by decide +kernel
theorem dX8_what_41 : decode cX8_what 41 = .ok (.invokevirtual 91, 3) := by decide +kernel
theorem dX8_what_44 : decode cX8_what 44 = .ok (.ifCond .eq 16, 3) := by decide +kernel
theorem dX8_what_47 : decode cX8_what 47 = .ok (.aload_n 0, 1) := by decide +kernel
theorem dX8_what_48 : decode cX8_what 48 = .ok (.getfield 13, 3) := by decide +kernel
theorem dX8_what_51 : decode cX8_what 51 = .ok (.aload_n 0, 1) := by decide +kernel
theorem dX8_what_52 : decode cX8_what 52 = .ok (.iload_n 1, 1) := by decide +kernel
theorem dX8_what_53 : decode cX8_what 53 = .ok (.invokevirtual 56, 3) := by decide +kernel
theorem dX8_what_56 : decode cX8_what 56 = .ok (.iaload, 1) := by decide +kernel
theorem dX8_what_57 : decode cX8_what 57 = .ok (.goto 22, 3) := by decide +kernel
theorem dX8_what_60 : decode cX8_what 60 = .ok (.aload_n 0, 1) := by decide +kernel
theorem dX8_what_61 : decode cX8_what 61 = .ok (.aload_n 0, 1) := by decide +kernel
theorem dX8_what_62 : decode cX8_what 62 = .ok (.getfield 22, 3) := by decide +kernel
theorem dX8_what_65 : decode cX8_what 65 = .ok (.bipush 24, 2) := by decide +kernel
theorem dX8_what_67 : decode cX8_what 67 = .ok (.aload_n 0, 1) := by decide +kernel
theorem dX8_what_68 : decode cX8_what 68 = .ok (.iload_n 1, 1) := by decide +kernel
theorem dX8_what_69 : decode cX8_what 69 = .ok (.invokevirtual 56, 3) := by decide +kernel
theorem dX8_what_72 : decode cX8_what 72 = .ok (.imul, 1) := by decide +kernel
theorem dX8_what_73 : decode cX8_what 73 = .ok (.iload_n 2, 1) := by decide +kernel
theorem dX8_what_74 : decode cX8_what 74 = .ok (.iadd, 1) := by decide +kernel
theorem dX8_what_75 : decode cX8_what 75 = .ok (.laload, 1) := by decide +kernel
theorem dX8_what_76 : decode cX8_what 76 = .ok (.invokevirtual 150, 3) := by decide +kernel
theorem dX8_what_79 : decode cX8_what 79 = .ok (.ireturn, 1) := by decide +kernel
theorem dX8_take_0 : decode cX8_take 0 = .ok (.aload_n 0, 1) := by decide +kernel
theorem dX8_take_1 : decode cX8_take 1 = .ok (.iconst 0, 1) := by decide +kernel
theorem dX8_take_2 : decode cX8_take 2 = .ok (.putfield 48, 3) := by decide +kernel
theorem dX8_take_5 : decode cX8_take 5 = .ok (.iload_n 1, 1) := by decide +kernel
theorem dX8_take_6 : decode cX8_take 6 = .ok (.invokestatic 102, 3) := by decide +kernel
theorem dX8_take_9 : decode cX8_take 9 = .ok (.ifCond .eq 10, 3) := by decide +kernel
theorem dX8_take_12 : decode cX8_take 12 = .ok (.iload_n 3, 1) := by decide +kernel
theorem dX8_take_13 : decode cX8_take 13 = .ok (.invokestatic 102, 3) := by decide +kernel
theorem dX8_take_16 : decode cX8_take 16 = .ok (.ifCond .ne 9, 3) := by decide +kernel
theorem dX8_take_19 : decode cX8_take 19 = .ok (.aload_n 0, 1) := by decide +kernel
theorem dX8_take_20 : decode cX8_take 20 = .ok (.iconst 1, 1) := by decide +kernel
theorem dX8_take_21 : decode cX8_take 21 = .ok (.invokevirtual 105, 3) := by decide +kernel
theorem dX8_take_24 : decode cX8_take 24 = .ok (.ireturn, 1) := by decide +kernel
theorem dX8_take_25 : decode cX8_take 25 = .ok (.aload_n 0, 1) := by decide +kernel
theorem dX8_take_26 : decode cX8_take 26 = .ok (.iload_n 1, 1) := by decide +kernel
theorem dX8_take_27 : decode cX8_take 27 = .ok (.invokevirtual 111, 3) := by decide +kernel
theorem dX8_take_30 : decode cX8_take 30 = .ok (.istore 4, 2) := by decide +kernel
theorem dX8_take_32 : decode cX8_take 32 = .ok (.iload 4, 2) := by decide +kernel
theorem dX8_take_34 : decode cX8_take 34 = .ok (.ifCond .le 10, 3) := by decide +kernel
theorem dX8_take_37 : decode cX8_take 37 = .ok (.aload_n 0, 1) := by decide +kernel
theorem dX8_take_38 : decode cX8_take 38 = .ok (.iload 4, 2) := by decide +kernel
theorem dX8_take_40 : decode cX8_take 40 = .ok (.invokevirtual 105, 3) := by decide +kernel
theorem dX8_take_43 : decode cX8_take 43 = .ok (.ireturn, 1) := by decide +kernel
theorem dX8_take_44 : decode cX8_take 44 = .ok (.aload_n 0, 1) := by decide +kernel
theorem dX8_take_45 : decode cX8_take 45 = .ok (.aload_n 0, 1) := by decide +kernel
theorem dX8_take_46 : decode cX8_take 46 = .ok (.iload_n 1, 1) := by decide +kernel
theorem dX8_take_47 : decode cX8_take 47 = .ok (.invokevirtual 56, 3) := by decide +kernel
theorem dX8_take_50 : decode cX8_take 50 = .ok (.invokevirtual 91, 3) := by decide +kernel
theorem dX8_take_53 : decode cX8_take 53 = .ok (.ifCond .eq 10, 3) := by decide +kernel
theorem dX8_take_56 : decode cX8_take 56 = .ok (.aload_n 0, 1) := by decide +kernel
theorem dX8_take_57 : decode cX8_take 57 = .ok (.bipush 6, 2) := by decide +kernel
theorem dX8_take_59 : decode cX8_take 59 = .ok (.invokevirtual 105, 3) := by decide +kernel
theorem dX8_take_62 : decode cX8_take 62 = .ok (.ireturn, 1) := by decide +kernel
theorem dX8_take_63 : decode cX8_take 63 = .ok (.aload_n 0, 1) := by decide +kernel
theorem dX8_take_64 : decode cX8_take 64 = .ok (.aload_n 0, 1) := by decide +kernel
theorem dX8_take_65 : decode cX8_take 65 = .ok (.iload_n 1, 1) := by decide +kernel
theorem dX8_take_66 : decode cX8_take 66 = .ok (.invokevirtual 56, 3) := by decide +kernel
theorem dX8_take_69 : decode cX8_take 69 = .ok (.iload_n 2, 1) := by decide +kernel
theorem dX8_take_70 : decode cX8_take 70 = .ok (.invokevirtual 117, 3) := by decide +kernel
theorem dX8_take_73 : decode cX8_take 73 = .ok (.ifCond .ne 9, 3) := by decide +kernel
theorem dX8_take_76 : decode cX8_take 76 = .ok (.aload_n 0, 1) := by decide +kernel
theorem dX8_take_77 : decode cX8_take 77 = .ok (.iconst 4, 1) := by decide +kernel
theorem dX8_take_78 : decode cX8_take 78 = .ok (.invokevirtual 105, 3) := by decide +kernel
theorem dX8_take_81 : decode cX8_take 81 = .ok (.ireturn, 1) := by decide +kernel
theorem dX8_take_82 : decode cX8_take 82 = .ok (.aload_n 0, 1) := by decide +kernel
theorem dX8_take_83 : decode cX8_take 83 = .ok (.getfield 30, 3) := by decide +kernel
theorem dX8_take_86 : decode cX8_take 86 = .ok (.iload_n 3, 1) := by decide +kernel
theorem dX8_take_87 : decode cX8_take 87 = .ok (.aload_n 0, 1) := by decide +kernel
theorem dX8_take_88 : decode cX8_take 88 = .ok (.getfield 22, 3) := by decide +kernel
theorem dX8_take_91 : decode cX8_take 91 = .ok (.bipush 24, 2) := by decide +kernel
theorem dX8_take_93 : decode cX8_take 93 = .ok (.aload_n 0, 1) := by decide +kernel
theorem dX8_take_94 : decode cX8_take 94 = .ok (.iload_n 1, 1) := by decide +kernel
theorem dX8_take_95 : decode cX8_take 95 = .ok (.invokevirtual 56, 3) := by decide +kernel
theorem dX8_take_98 : decode cX8_take 98 = .ok (.imul, 1) := by decide +kernel
theorem dX8_take_99 : decode cX8_take 99 = .ok (.iload_n 2, 1) := by decide +kernel
theorem dX8_take_100 : decode cX8_take 100 = .ok (.iadd, 1) := by decide +kernel
theorem dX8_take_101 : decode cX8_take 101 = .ok (.laload, 1) := by decide +kernel
theorem dX8_take_102 : decode cX8_take 102 = .ok (.l2i, 1) := by decide +kernel
theorem dX8_take_103 : decode cX8_take 103 = .ok (.iastore, 1) := by decide +kernel
theorem dX8_take_104 : decode cX8_take 104 = .ok (.aload_n 0, 1) := by decide +kernel
theorem dX8_take_105 : decode cX8_take 105 = .ok (.getfield 30, 3) := by decide +kernel
theorem dX8_take_108 : decode cX8_take 108 = .ok (.iload_n 3, 1) := by decide +kernel
theorem dX8_take_109 : decode cX8_take 109 = .ok (.iaload, 1) := by decide +kernel
theorem dX8_take_110 : decode cX8_take 110 = .ok (.ifCond .le 7, 3) := by decide +kernel
theorem dX8_take_113 : decode cX8_take 113 = .ok (.iconst 1, 1) := by decide +kernel
theorem dX8_take_114 : decode cX8_take 114 = .ok (.goto 4, 3) := by decide +kernel
theorem dX8_take_117 : decode cX8_take 117 = .ok (.iconst 0, 1) := by decide +kernel
theorem dX8_take_118 : decode cX8_take 118 = .ok (.ireturn, 1) := by decide +kernel
theorem dX8_carry_0 : decode cX8_carry 0 = .ok (.iconst 0, 1) := by decide +kernel
theorem dX8_carry_1 : decode cX8_carry 1 = .ok (.istore 4, 2) := by decide +kernel
theorem dX8_carry_3 : decode cX8_carry 3 = .ok (.iload 4, 2) := by decide +kernel
theorem dX8_carry_5 : decode cX8_carry 5 = .ok (.iload_n 3, 1) := by decide +kernel
theorem dX8_carry_6 : decode cX8_carry 6 = .ok (.if_icmp .ge 112, 3) := by decide +kernel
theorem dX8_carry_9 : decode cX8_carry 9 = .ok (.aload_n 0, 1) := by decide +kernel
theorem dX8_carry_10 : decode cX8_carry 10 = .ok (.iload_n 1, 1) := by decide +kernel
theorem dX8_carry_11 : decode cX8_carry 11 = .ok (.aload_n 0, 1) := by decide +kernel
theorem dX8_carry_12 : decode cX8_carry 12 = .ok (.getfield 42, 3) := by decide +kernel
theorem dX8_carry_15 : decode cX8_carry 15 = .ok (.iload 4, 2) := by decide +kernel
theorem dX8_carry_17 : decode cX8_carry 17 = .ok (.iaload, 1) := by decide +kernel
theorem dX8_carry_18 : decode cX8_carry 18 = .ok (.invokevirtual 117, 3) := by decide +kernel
theorem dX8_carry_21 : decode cX8_carry 21 = .ok (.ifCond .eq 18, 3) := by decide +kernel
theorem dX8_carry_24 : decode cX8_carry 24 = .ok (.aload_n 0, 1) := by decide +kernel
theorem dX8_carry_25 : decode cX8_carry 25 = .ok (.iload_n 2, 1) := by decide +kernel
theorem dX8_carry_26 : decode cX8_carry 26 = .ok (.aload_n 0, 1) := by decide +kernel
theorem dX8_carry_27 : decode cX8_carry 27 = .ok (.getfield 45, 3) := by decide +kernel
theorem dX8_carry_30 : decode cX8_carry 30 = .ok (.iload 4, 2) := by decide +kernel
theorem dX8_carry_32 : decode cX8_carry 32 = .ok (.iaload, 1) := by decide +kernel
theorem dX8_carry_33 : decode cX8_carry 33 = .ok (.invokevirtual 117, 3) := by decide +kernel
theorem dX8_carry_36 : decode cX8_carry 36 = .ok (.ifCond .ne 9, 3) := by decide +kernel
theorem dX8_carry_39 : decode cX8_carry 39 = .ok (.aload_n 0, 1) := by decide +kernel
theorem dX8_carry_40 : decode cX8_carry 40 = .ok (.iconst 4, 1) := by decide +kernel
theorem dX8_carry_41 : decode cX8_carry 41 = .ok (.invokevirtual 105, 3) := by decide +kernel
theorem dX8_carry_44 : decode cX8_carry 44 = .ok (.ireturn, 1) := by decide +kernel
theorem dX8_carry_45 : decode cX8_carry 45 = .ok (.aload_n 0, 1) := by decide +kernel
theorem dX8_carry_46 : decode cX8_carry 46 = .ok (.iload_n 1, 1) := by decide +kernel
theorem dX8_carry_47 : decode cX8_carry 47 = .ok (.aload_n 0, 1) := by decide +kernel
theorem dX8_carry_48 : decode cX8_carry 48 = .ok (.getfield 42, 3) := by decide +kernel
theorem dX8_carry_51 : decode cX8_carry 51 = .ok (.iload 4, 2) := by decide +kernel
theorem dX8_carry_53 : decode cX8_carry 53 = .ok (.iaload, 1) := by decide +kernel
theorem dX8_carry_54 : decode cX8_carry 54 = .ok (.invokevirtual 143, 3) := by decide +kernel
theorem dX8_carry_57 : decode cX8_carry 57 = .ok (.aload_n 0, 1) := by decide +kernel
theorem dX8_carry_58 : decode cX8_carry 58 = .ok (.iload_n 2, 1) := by decide +kernel
theorem dX8_carry_59 : decode cX8_carry 59 = .ok (.invokevirtual 128, 3) := by decide +kernel
theorem dX8_carry_62 : decode cX8_carry 62 = .ok (.ifCond .ne 9, 3) := by decide +kernel
theorem dX8_carry_65 : decode cX8_carry 65 = .ok (.aload_n 0, 1) := by decide +kernel
theorem dX8_carry_66 : decode cX8_carry 66 = .ok (.iconst 5, 1) := by decide +kernel
theorem dX8_carry_67 : decode cX8_carry 67 = .ok (.invokevirtual 105, 3) := by decide +kernel
theorem dX8_carry_70 : decode cX8_carry 70 = .ok (.ireturn, 1) := by decide +kernel
theorem dX8_carry_71 : decode cX8_carry 71 = .ok (.aload_n 0, 1) := by decide +kernel
theorem dX8_carry_72 : decode cX8_carry 72 = .ok (.getfield 66, 3) := by decide +kernel
theorem dX8_carry_75 : decode cX8_carry 75 = .ok (.bipush 8, 2) := by decide +kernel
theorem dX8_carry_77 : decode cX8_carry 77 = .ok (.if_icmp .ge 13, 3) := by decide +kernel
theorem dX8_carry_80 : decode cX8_carry 80 = .ok (.aload_n 0, 1) := by decide +kernel
theorem dX8_carry_81 : decode cX8_carry 81 = .ok (.aload_n 0, 1) := by decide +kernel
theorem dX8_carry_82 : decode cX8_carry 82 = .ok (.getfield 13, 3) := by decide +kernel
theorem dX8_carry_85 : decode cX8_carry 85 = .ok (.iload_n 2, 1) := by decide +kernel
theorem dX8_carry_86 : decode cX8_carry 86 = .ok (.iaload, 1) := by decide +kernel
theorem dX8_carry_87 : decode cX8_carry 87 = .ok (.invokevirtual 131, 3) := by decide +kernel
theorem dX8_carry_90 : decode cX8_carry 90 = .ok (.aload_n 0, 1) := by decide +kernel
theorem dX8_carry_91 : decode cX8_carry 91 = .ok (.getfield 36, 3) := by decide +kernel
theorem dX8_carry_94 : decode cX8_carry 94 = .ok (.iload 4, 2) := by decide +kernel
theorem dX8_carry_96 : decode cX8_carry 96 = .ok (.aload_n 0, 1) := by decide +kernel
theorem dX8_carry_97 : decode cX8_carry 97 = .ok (.getfield 69, 3) := by decide +kernel
theorem dX8_carry_100 : decode cX8_carry 100 = .ok (.lastore, 1) := by decide +kernel
theorem dX8_carry_101 : decode cX8_carry 101 = .ok (.aload_n 0, 1) := by decide +kernel
theorem dX8_carry_102 : decode cX8_carry 102 = .ok (.getfield 39, 3) := by decide +kernel
theorem dX8_carry_105 : decode cX8_carry 105 = .ok (.iload 4, 2) := by decide +kernel
theorem dX8_carry_107 : decode cX8_carry 107 = .ok (.aload_n 0, 1) := by decide +kernel
theorem dX8_carry_108 : decode cX8_carry 108 = .ok (.getfield 73, 3) := by decide +kernel
theorem dX8_carry_111 : decode cX8_carry 111 = .ok (.dastore, 1) := by decide +kernel
theorem dX8_carry_112 : decode cX8_carry 112 = .ok (.iinc 4 1, 3) := by decide +kernel
theorem dX8_carry_115 : decode cX8_carry 115 = .ok (.goto (-112), 3) := by decide +kernel
theorem dX8_carry_118 : decode cX8_carry 118 = .ok (.iconst 0, 1) := by decide +kernel
theorem dX8_carry_119 : decode cX8_carry 119 = .ok (.istore 4, 2) := by decide +kernel
theorem dX8_carry_121 : decode cX8_carry 121 = .ok (.iload 4, 2) := by decide +kernel
theorem dX8_carry_123 : decode cX8_carry 123 = .ok (.iload_n 3, 1) := by decide +kernel
theorem dX8_carry_124 : decode cX8_carry 124 = .ok (.if_icmp .ge 57, 3) := by decide +kernel
theorem dX8_carry_127 : decode cX8_carry 127 = .ok (.aload_n 0, 1) := by decide +kernel
theorem dX8_carry_128 : decode cX8_carry 128 = .ok (.getfield 22, 3) := by decide +kernel
theorem dX8_carry_131 : decode cX8_carry 131 = .ok (.bipush 24, 2) := by decide +kernel
theorem dX8_carry_133 : decode cX8_carry 133 = .ok (.iload_n 2, 1) := by decide +kernel
theorem dX8_carry_134 : decode cX8_carry 134 = .ok (.imul, 1) := by decide +kernel
theorem dX8_carry_135 : decode cX8_carry 135 = .ok (.aload_n 0, 1) := by decide +kernel
theorem dX8_carry_136 : decode cX8_carry 136 = .ok (.getfield 45, 3) := by decide +kernel
theorem dX8_carry_139 : decode cX8_carry 139 = .ok (.iload 4, 2) := by decide +kernel
theorem dX8_carry_141 : decode cX8_carry 141 = .ok (.iaload, 1) := by decide +kernel
theorem dX8_carry_142 : decode cX8_carry 142 = .ok (.iadd, 1) := by decide +kernel
theorem dX8_carry_143 : decode cX8_carry 143 = .ok (.aload_n 0, 1) := by decide +kernel
theorem dX8_carry_144 : decode cX8_carry 144 = .ok (.getfield 36, 3) := by decide +kernel
theorem dX8_carry_147 : decode cX8_carry 147 = .ok (.iload 4, 2) := by decide +kernel
theorem dX8_carry_149 : decode cX8_carry 149 = .ok (.laload, 1) := by decide +kernel
theorem dX8_carry_150 : decode cX8_carry 150 = .ok (.lastore, 1) := by decide +kernel
theorem dX8_carry_151 : decode cX8_carry 151 = .ok (.aload_n 0, 1) := by decide +kernel
theorem dX8_carry_152 : decode cX8_carry 152 = .ok (.getfield 26, 3) := by decide +kernel
theorem dX8_carry_155 : decode cX8_carry 155 = .ok (.bipush 24, 2) := by decide +kernel
theorem dX8_carry_157 : decode cX8_carry 157 = .ok (.iload_n 2, 1) := by decide +kernel
theorem dX8_carry_158 : decode cX8_carry 158 = .ok (.imul, 1) := by decide +kernel
theorem dX8_carry_159 : decode cX8_carry 159 = .ok (.aload_n 0, 1) := by decide +kernel
theorem dX8_carry_160 : decode cX8_carry 160 = .ok (.getfield 45, 3) := by decide +kernel
theorem dX8_carry_163 : decode cX8_carry 163 = .ok (.iload 4, 2) := by decide +kernel
theorem dX8_carry_165 : decode cX8_carry 165 = .ok (.iaload, 1) := by decide +kernel
theorem dX8_carry_166 : decode cX8_carry 166 = .ok (.iadd, 1) := by decide +kernel
theorem dX8_carry_167 : decode cX8_carry 167 = .ok (.aload_n 0, 1) := by decide +kernel
theorem dX8_carry_168 : decode cX8_carry 168 = .ok (.getfield 39, 3) := by decide +kernel
theorem dX8_carry_171 : decode cX8_carry 171 = .ok (.iload 4, 2) := by decide +kernel
theorem dX8_carry_173 : decode cX8_carry 173 = .ok (.daload, 1) := by decide +kernel
theorem dX8_carry_174 : decode cX8_carry 174 = .ok (.dastore, 1) := by decide +kernel
theorem dX8_carry_175 : decode cX8_carry 175 = .ok (.iinc 4 1, 3) := by decide +kernel
theorem dX8_carry_178 : decode cX8_carry 178 = .ok (.goto (-57), 3) := by decide +kernel
theorem dX8_carry_181 : decode cX8_carry 181 = .ok (.iload_n 3, 1) := by decide +kernel
theorem dX8_carry_182 : decode cX8_carry 182 = .ok (.ireturn, 1) := by decide +kernel
theorem dX8_copy_0 : decode cX8_copy 0 = .ok (.aload_n 0, 1) := by decide +kernel
theorem dX8_copy_1 : decode cX8_copy 1 = .ok (.iconst 0, 1) := by decide +kernel
theorem dX8_copy_2 : decode cX8_copy 2 = .ok (.putfield 48, 3) := by decide +kernel
theorem dX8_copy_5 : decode cX8_copy 5 = .ok (.iload_n 1, 1) := by decide +kernel
theorem dX8_copy_6 : decode cX8_copy 6 = .ok (.invokestatic 102, 3) := by decide +kernel
theorem dX8_copy_9 : decode cX8_copy 9 = .ok (.ifCond .eq 10, 3) := by decide +kernel
theorem dX8_copy_12 : decode cX8_copy 12 = .ok (.iload_n 2, 1) := by decide +kernel
theorem dX8_copy_13 : decode cX8_copy 13 = .ok (.invokestatic 102, 3) := by decide +kernel
theorem dX8_copy_16 : decode cX8_copy 16 = .ok (.ifCond .ne 9, 3) := by decide +kernel
theorem dX8_copy_19 : decode cX8_copy 19 = .ok (.aload_n 0, 1) := by decide +kernel
theorem dX8_copy_20 : decode cX8_copy 20 = .ok (.iconst 1, 1) := by decide +kernel
theorem dX8_copy_21 : decode cX8_copy 21 = .ok (.invokevirtual 105, 3) := by decide +kernel
theorem dX8_copy_24 : decode cX8_copy 24 = .ok (.ireturn, 1) := by decide +kernel
theorem dX8_copy_25 : decode cX8_copy 25 = .ok (.aload_n 0, 1) := by decide +kernel
theorem dX8_copy_26 : decode cX8_copy 26 = .ok (.iload_n 1, 1) := by decide +kernel
theorem dX8_copy_27 : decode cX8_copy 27 = .ok (.iload_n 2, 1) := by decide +kernel
theorem dX8_copy_28 : decode cX8_copy 28 = .ok (.iload_n 2, 1) := by decide +kernel
theorem dX8_copy_29 : decode cX8_copy 29 = .ok (.invokevirtual 154, 3) := by decide +kernel
theorem dX8_copy_32 : decode cX8_copy 32 = .ok (.istore_n 3, 1) := by decide +kernel
theorem dX8_copy_33 : decode cX8_copy 33 = .ok (.iload_n 3, 1) := by decide +kernel
theorem dX8_copy_34 : decode cX8_copy 34 = .ok (.ifCond .le 9, 3) := by decide +kernel
theorem dX8_copy_37 : decode cX8_copy 37 = .ok (.aload_n 0, 1) := by decide +kernel
theorem dX8_copy_38 : decode cX8_copy 38 = .ok (.iload_n 3, 1) := by decide +kernel
theorem dX8_copy_39 : decode cX8_copy 39 = .ok (.invokevirtual 105, 3) := by decide +kernel
theorem dX8_copy_42 : decode cX8_copy 42 = .ok (.ireturn, 1) := by decide +kernel
theorem dX8_copy_43 : decode cX8_copy 43 = .ok (.aload_n 0, 1) := by decide +kernel
theorem dX8_copy_44 : decode cX8_copy 44 = .ok (.getfield 16, 3) := by decide +kernel
theorem dX8_copy_47 : decode cX8_copy 47 = .ok (.aload_n 0, 1) := by decide +kernel
theorem dX8_copy_48 : decode cX8_copy 48 = .ok (.iload_n 1, 1) := by decide +kernel
theorem dX8_copy_49 : decode cX8_copy 49 = .ok (.invokevirtual 56, 3) := by decide +kernel
theorem dX8_copy_52 : decode cX8_copy 52 = .ok (.iaload, 1) := by decide +kernel
theorem dX8_copy_53 : decode cX8_copy 53 = .ok (.istore 4, 2) := by decide +kernel
theorem dX8_copy_55 : decode cX8_copy 55 = .ok (.iload 4, 2) := by decide +kernel
theorem dX8_copy_57 : decode cX8_copy 57 = .ok (.aload_n 0, 1) := by decide +kernel
theorem dX8_copy_58 : decode cX8_copy 58 = .ok (.getfield 16, 3) := by decide +kernel
theorem dX8_copy_61 : decode cX8_copy 61 = .ok (.aload_n 0, 1) := by decide +kernel
theorem dX8_copy_62 : decode cX8_copy 62 = .ok (.iload_n 2, 1) := by decide +kernel
theorem dX8_copy_63 : decode cX8_copy 63 = .ok (.invokevirtual 56, 3) := by decide +kernel
theorem dX8_copy_66 : decode cX8_copy 66 = .ok (.iaload, 1) := by decide +kernel
theorem dX8_copy_67 : decode cX8_copy 67 = .ok (.if_icmp .eq 9, 3) := by decide +kernel
theorem dX8_copy_70 : decode cX8_copy 70 = .ok (.aload_n 0, 1) := by decide +kernel
theorem dX8_copy_71 : decode cX8_copy 71 = .ok (.iconst 4, 1) := by decide +kernel
theorem dX8_copy_72 : decode cX8_copy 72 = .ok (.invokevirtual 105, 3) := by decide +kernel
theorem dX8_copy_75 : decode cX8_copy 75 = .ok (.ireturn, 1) := by decide +kernel
theorem dX8_copy_76 : decode cX8_copy 76 = .ok (.iconst 0, 1) := by decide +kernel
theorem dX8_copy_77 : decode cX8_copy 77 = .ok (.istore 5, 2) := by decide +kernel
theorem dX8_copy_79 : decode cX8_copy 79 = .ok (.iload 5, 2) := by decide +kernel
theorem dX8_copy_81 : decode cX8_copy 81 = .ok (.iload 4, 2) := by decide +kernel
theorem dX8_copy_83 : decode cX8_copy 83 = .ok (.if_icmp .ge 27, 3) := by decide +kernel
theorem dX8_copy_86 : decode cX8_copy 86 = .ok (.aload_n 0, 1) := by decide +kernel
theorem dX8_copy_87 : decode cX8_copy 87 = .ok (.getfield 42, 3) := by decide +kernel
theorem dX8_copy_90 : decode cX8_copy 90 = .ok (.iload 5, 2) := by decide +kernel
theorem dX8_copy_92 : decode cX8_copy 92 = .ok (.iload 5, 2) := by decide +kernel
theorem dX8_copy_94 : decode cX8_copy 94 = .ok (.iastore, 1) := by decide +kernel
theorem dX8_copy_95 : decode cX8_copy 95 = .ok (.aload_n 0, 1) := by decide +kernel
theorem dX8_copy_96 : decode cX8_copy 96 = .ok (.getfield 45, 3) := by decide +kernel
theorem dX8_copy_99 : decode cX8_copy 99 = .ok (.iload 5, 2) := by decide +kernel
theorem dX8_copy_101 : decode cX8_copy 101 = .ok (.iload 5, 2) := by decide +kernel
theorem dX8_copy_103 : decode cX8_copy 103 = .ok (.iastore, 1) := by decide +kernel
theorem dX8_copy_104 : decode cX8_copy 104 = .ok (.iinc 5 1, 3) := by decide +kernel
theorem dX8_copy_107 : decode cX8_copy 107 = .ok (.goto (-28), 3) := by decide +kernel
theorem dX8_copy_110 : decode cX8_copy 110 = .ok (.aload_n 0, 1) := by decide +kernel
theorem dX8_copy_111 : decode cX8_copy 111 = .ok (.aload_n 0, 1) := by decide +kernel
theorem dX8_copy_112 : decode cX8_copy 112 = .ok (.iload_n 1, 1) := by decide +kernel
theorem dX8_copy_113 : decode cX8_copy 113 = .ok (.invokevirtual 56, 3) := by decide +kernel
theorem dX8_copy_116 : decode cX8_copy 116 = .ok (.aload_n 0, 1) := by decide +kernel
theorem dX8_copy_117 : decode cX8_copy 117 = .ok (.iload_n 2, 1) := by decide +kernel
theorem dX8_copy_118 : decode cX8_copy 118 = .ok (.invokevirtual 56, 3) := by decide +kernel
theorem dX8_copy_121 : decode cX8_copy 121 = .ok (.iload 4, 2) := by decide +kernel
theorem dX8_copy_123 : decode cX8_copy 123 = .ok (.invokevirtual 157, 3) := by decide +kernel
theorem dX8_copy_126 : decode cX8_copy 126 = .ok (.ireturn, 1) := by decide +kernel
theorem dX8_tellsPlaces_0 : decode cX8_tellsPlaces 0 = .ok (.aload_n 0, 1) := by decide +kernel
theorem dX8_tellsPlaces_1 : decode cX8_tellsPlaces 1 = .ok (.iload_n 1, 1) := by decide +kernel
theorem dX8_tellsPlaces_2 : decode cX8_tellsPlaces 2 = .ok (.invokevirtual 91, 3) := by decide +kernel
theorem dX8_tellsPlaces_5 : decode cX8_tellsPlaces 5 = .ok (.ifCond .eq 21, 3) := by decide +kernel
theorem dX8_tellsPlaces_8 : decode cX8_tellsPlaces 8 = .ok (.aload_n 0, 1) := by decide +kernel
theorem dX8_tellsPlaces_9 : decode cX8_tellsPlaces 9 = .ok (.aload_n 0, 1) := by decide +kernel
theorem dX8_tellsPlaces_10 : decode cX8_tellsPlaces 10 = .ok (.getfield 13, 3) := by decide +kernel
theorem dX8_tellsPlaces_13 : decode cX8_tellsPlaces 13 = .ok (.iload_n 1, 1) := by decide +kernel
theorem dX8_tellsPlaces_14 : decode cX8_tellsPlaces 14 = .ok (.iaload, 1) := by decide +kernel
theorem dX8_tellsPlaces_15 : decode cX8_tellsPlaces 15 = .ok (.iconst 4, 1) := by decide +kernel
theorem dX8_tellsPlaces_16 : decode cX8_tellsPlaces 16 = .ok (.invokevirtual 94, 3) := by decide +kernel
theorem dX8_tellsPlaces_19 : decode cX8_tellsPlaces 19 = .ok (.ifCond .eq 7, 3) := by decide +kernel
theorem dX8_tellsPlaces_22 : decode cX8_tellsPlaces 22 = .ok (.iconst 1, 1) := by decide +kernel
theorem dX8_tellsPlaces_23 : decode cX8_tellsPlaces 23 = .ok (.goto 4, 3) := by decide +kernel
theorem dX8_tellsPlaces_26 : decode cX8_tellsPlaces 26 = .ok (.iconst 0, 1) := by decide +kernel
theorem dX8_tellsPlaces_27 : decode cX8_tellsPlaces 27 = .ok (.ireturn, 1) := by decide +kernel
theorem dX8_gather_0 : decode cX8_gather 0 = .ok (.aload_n 0, 1) := by decide +kernel
theorem dX8_gather_1 : decode cX8_gather 1 = .ok (.iconst 0, 1) := by decide +kernel
theorem dX8_gather_2 : decode cX8_gather 2 = .ok (.putfield 48, 3) := by decide +kernel
theorem dX8_gather_5 : decode cX8_gather 5 = .ok (.iload_n 1, 1) := by decide +kernel
theorem dX8_gather_6 : decode cX8_gather 6 = .ok (.invokestatic 102, 3) := by decide +kernel
theorem dX8_gather_9 : decode cX8_gather 9 = .ok (.ifCond .eq 17, 3) := by decide +kernel
theorem dX8_gather_12 : decode cX8_gather 12 = .ok (.iload_n 2, 1) := by decide +kernel
theorem dX8_gather_13 : decode cX8_gather 13 = .ok (.invokestatic 102, 3) := by decide +kernel
theorem dX8_gather_16 : decode cX8_gather 16 = .ok (.ifCond .eq 10, 3) := by decide +kernel
theorem dX8_gather_19 : decode cX8_gather 19 = .ok (.iload_n 3, 1) := by decide +kernel
theorem dX8_gather_20 : decode cX8_gather 20 = .ok (.invokestatic 102, 3) := by decide +kernel
theorem dX8_gather_23 : decode cX8_gather 23 = .ok (.ifCond .ne 9, 3) := by decide +kernel
theorem dX8_gather_26 : decode cX8_gather 26 = .ok (.aload_n 0, 1) := by decide +kernel
theorem dX8_gather_27 : decode cX8_gather 27 = .ok (.iconst 1, 1) := by decide +kernel
theorem dX8_gather_28 : decode cX8_gather 28 = .ok (.invokevirtual 105, 3) := by decide +kernel
theorem dX8_gather_31 : decode cX8_gather 31 = .ok (.ireturn, 1) := by decide +kernel
theorem dX8_gather_32 : decode cX8_gather 32 = .ok (.aload_n 0, 1) := by decide +kernel
theorem dX8_gather_33 : decode cX8_gather 33 = .ok (.iload_n 1, 1) := by decide +kernel
theorem dX8_gather_34 : decode cX8_gather 34 = .ok (.iload_n 2, 1) := by decide +kernel
theorem dX8_gather_35 : decode cX8_gather 35 = .ok (.iload_n 3, 1) := by decide +kernel
theorem dX8_gather_36 : decode cX8_gather 36 = .ok (.invokevirtual 154, 3) := by decide +kernel
theorem dX8_gather_39 : decode cX8_gather 39 = .ok (.istore 4, 2) := by decide +kernel
theorem dX8_gather_41 : decode cX8_gather 41 = .ok (.iload 4, 2) := by decide +kernel
theorem dX8_gather_43 : decode cX8_gather 43 = .ok (.ifCond .le 10, 3) := by decide +kernel
theorem dX8_gather_46 : decode cX8_gather 46 = .ok (.aload_n 0, 1) := by decide +kernel
theorem dX8_gather_47 : decode cX8_gather 47 = .ok (.iload 4, 2) := by decide +kernel
theorem dX8_gather_49 : decode cX8_gather 49 = .ok (.invokevirtual 105, 3) := by decide +kernel
theorem dX8_gather_52 : decode cX8_gather 52 = .ok (.ireturn, 1) := by decide +kernel
theorem dX8_gather_53 : decode cX8_gather 53 = .ok (.aload_n 0, 1) := by decide +kernel
theorem dX8_gather_54 : decode cX8_gather 54 = .ok (.aload_n 0, 1) := by decide +kernel
theorem dX8_gather_55 : decode cX8_gather 55 = .ok (.iload_n 2, 1) := by decide +kernel
theorem dX8_gather_56 : decode cX8_gather 56 = .ok (.invokevirtual 56, 3) := by decide +kernel
theorem dX8_gather_59 : decode cX8_gather 59 = .ok (.invokevirtual 160, 3) := by decide +kernel
theorem dX8_gather_62 : decode cX8_gather 62 = .ok (.ifCond .ne 10, 3) := by decide +kernel
theorem dX8_gather_65 : decode cX8_gather 65 = .ok (.aload_n 0, 1) := by decide +kernel
theorem dX8_gather_66 : decode cX8_gather 66 = .ok (.bipush 6, 2) := by decide +kernel
theorem dX8_gather_68 : decode cX8_gather 68 = .ok (.invokevirtual 105, 3) := by decide +kernel
theorem dX8_gather_71 : decode cX8_gather 71 = .ok (.ireturn, 1) := by decide +kernel
theorem dX8_gather_72 : decode cX8_gather 72 = .ok (.aload_n 0, 1) := by decide +kernel
theorem dX8_gather_73 : decode cX8_gather 73 = .ok (.getfield 16, 3) := by decide +kernel
theorem dX8_gather_76 : decode cX8_gather 76 = .ok (.aload_n 0, 1) := by decide +kernel
theorem dX8_gather_77 : decode cX8_gather 77 = .ok (.iload_n 2, 1) := by decide +kernel
theorem dX8_gather_78 : decode cX8_gather 78 = .ok (.invokevirtual 56, 3) := by decide +kernel
theorem dX8_gather_81 : decode cX8_gather 81 = .ok (.iaload, 1) := by decide +kernel
theorem dX8_gather_82 : decode cX8_gather 82 = .ok (.istore 5, 2) := by decide +kernel
theorem dX8_gather_84 : decode cX8_gather 84 = .ok (.iload 5, 2) := by decide +kernel
theorem dX8_gather_86 : decode cX8_gather 86 = .ok (.aload_n 0, 1) := by decide +kernel
theorem dX8_gather_87 : decode cX8_gather 87 = .ok (.getfield 16, 3) := by decide +kernel
theorem dX8_gather_90 : decode cX8_gather 90 = .ok (.aload_n 0, 1) := by decide +kernel
theorem dX8_gather_91 : decode cX8_gather 91 = .ok (.iload_n 3, 1) := by decide +kernel
theorem dX8_gather_92 : decode cX8_gather 92 = .ok (.invokevirtual 56, 3) := by decide +kernel
theorem dX8_gather_95 : decode cX8_gather 95 = .ok (.iaload, 1) := by decide +kernel
theorem dX8_gather_96 : decode cX8_gather 96 = .ok (.if_icmp .eq 9, 3) := by decide +kernel
theorem dX8_gather_99 : decode cX8_gather 99 = .ok (.aload_n 0, 1) := by decide +kernel
theorem dX8_gather_100 : decode cX8_gather 100 = .ok (.iconst 4, 1) := by decide +kernel
theorem dX8_gather_101 : decode cX8_gather 101 = .ok (.invokevirtual 105, 3) := by decide +kernel
theorem dX8_gather_104 : decode cX8_gather 104 = .ok (.ireturn, 1) := by decide +kernel
theorem dX8_gather_105 : decode cX8_gather 105 = .ok (.iconst 0, 1) := by decide +kernel
theorem dX8_gather_106 : decode cX8_gather 106 = .ok (.istore 6, 2) := by decide +kernel
theorem dX8_gather_108 : decode cX8_gather 108 = .ok (.iload 6, 2) := by decide +kernel
theorem dX8_gather_110 : decode cX8_gather 110 = .ok (.iload 5, 2) := by decide +kernel
theorem dX8_gather_112 : decode cX8_gather 112 = .ok (.if_icmp .ge 42, 3) := by decide +kernel
theorem dX8_gather_115 : decode cX8_gather 115 = .ok (.aload_n 0, 1) := by decide +kernel
theorem dX8_gather_116 : decode cX8_gather 116 = .ok (.getfield 42, 3) := by decide +kernel
theorem dX8_gather_119 : decode cX8_gather 119 = .ok (.iload 6, 2) := by decide +kernel
theorem dX8_gather_121 : decode cX8_gather 121 = .ok (.aload_n 0, 1) := by decide +kernel
theorem dX8_gather_122 : decode cX8_gather 122 = .ok (.getfield 22, 3) := by decide +kernel
theorem dX8_gather_125 : decode cX8_gather 125 = .ok (.bipush 24, 2) := by decide +kernel
theorem dX8_gather_127 : decode cX8_gather 127 = .ok (.aload_n 0, 1) := by decide +kernel
theorem dX8_gather_128 : decode cX8_gather 128 = .ok (.iload_n 2, 1) := by decide +kernel
theorem dX8_gather_129 : decode cX8_gather 129 = .ok (.invokevirtual 56, 3) := by decide +kernel
theorem dX8_gather_132 : decode cX8_gather 132 = .ok (.imul, 1) := by decide +kernel
theorem dX8_gather_133 : decode cX8_gather 133 = .ok (.iload 6, 2) := by decide +kernel
theorem dX8_gather_135 : decode cX8_gather 135 = .ok (.iadd, 1) := by decide +kernel
theorem dX8_gather_136 : decode cX8_gather 136 = .ok (.laload, 1) := by decide +kernel
theorem dX8_gather_137 : decode cX8_gather 137 = .ok (.l2i, 1) := by decide +kernel
theorem dX8_gather_138 : decode cX8_gather 138 = .ok (.iastore, 1) := by decide +kernel
theorem dX8_gather_139 : decode cX8_gather 139 = .ok (.aload_n 0, 1) := by decide +kernel
theorem dX8_gather_140 : decode cX8_gather 140 = .ok (.getfield 45, 3) := by decide +kernel
theorem dX8_gather_143 : decode cX8_gather 143 = .ok (.iload 6, 2) := by decide +kernel
theorem dX8_gather_145 : decode cX8_gather 145 = .ok (.iload 6, 2) := by decide +kernel
theorem dX8_gather_147 : decode cX8_gather 147 = .ok (.iastore, 1) := by decide +kernel
theorem dX8_gather_148 : decode cX8_gather 148 = .ok (.iinc 6 1, 3) := by decide +kernel
theorem dX8_gather_151 : decode cX8_gather 151 = .ok (.goto (-43), 3) := by decide +kernel
theorem dX8_gather_154 : decode cX8_gather 154 = .ok (.aload_n 0, 1) := by decide +kernel
theorem dX8_gather_155 : decode cX8_gather 155 = .ok (.aload_n 0, 1) := by decide +kernel
theorem dX8_gather_156 : decode cX8_gather 156 = .ok (.iload_n 1, 1) := by decide +kernel
theorem dX8_gather_157 : decode cX8_gather 157 = .ok (.invokevirtual 56, 3) := by decide +kernel
theorem dX8_gather_160 : decode cX8_gather 160 = .ok (.aload_n 0, 1) := by decide +kernel
theorem dX8_gather_161 : decode cX8_gather 161 = .ok (.iload_n 3, 1) := by decide +kernel
theorem dX8_gather_162 : decode cX8_gather 162 = .ok (.invokevirtual 56, 3) := by decide +kernel
theorem dX8_gather_165 : decode cX8_gather 165 = .ok (.iload 5, 2) := by decide +kernel
theorem dX8_gather_167 : decode cX8_gather 167 = .ok (.invokevirtual 157, 3) := by decide +kernel
theorem dX8_gather_170 : decode cX8_gather 170 = .ok (.ireturn, 1) := by decide +kernel
theorem dX8_scatter_0 : decode cX8_scatter 0 = .ok (.aload_n 0, 1) := by decide +kernel
theorem dX8_scatter_1 : decode cX8_scatter 1 = .ok (.iconst 0, 1) := by decide +kernel
theorem dX8_scatter_2 : decode cX8_scatter 2 = .ok (.putfield 48, 3) := by decide +kernel
theorem dX8_scatter_5 : decode cX8_scatter 5 = .ok (.iload_n 1, 1) := by decide +kernel
theorem dX8_scatter_6 : decode cX8_scatter 6 = .ok (.invokestatic 102, 3) := by decide +kernel
theorem dX8_scatter_9 : decode cX8_scatter 9 = .ok (.ifCond .eq 17, 3) := by decide +kernel
theorem dX8_scatter_12 : decode cX8_scatter 12 = .ok (.iload_n 2, 1) := by decide +kernel
theorem dX8_scatter_13 : decode cX8_scatter 13 = .ok (.invokestatic 102, 3) := by decide +kernel
theorem dX8_scatter_16 : decode cX8_scatter 16 = .ok (.ifCond .eq 10, 3) := by decide +kernel
theorem dX8_scatter_19 : decode cX8_scatter 19 = .ok (.iload_n 3, 1) := by decide +kernel
theorem dX8_scatter_20 : decode cX8_scatter 20 = .ok (.invokestatic 102, 3) := by decide +kernel
theorem dX8_scatter_23 : decode cX8_scatter 23 = .ok (.ifCond .ne 9, 3) := by decide +kernel
theorem dX8_scatter_26 : decode cX8_scatter 26 = .ok (.aload_n 0, 1) := by decide +kernel
theorem dX8_scatter_27 : decode cX8_scatter 27 = .ok (.iconst 1, 1) := by decide +kernel
theorem dX8_scatter_28 : decode cX8_scatter 28 = .ok (.invokevirtual 105, 3) := by decide +kernel
theorem dX8_scatter_31 : decode cX8_scatter 31 = .ok (.ireturn, 1) := by decide +kernel
theorem dX8_scatter_32 : decode cX8_scatter 32 = .ok (.aload_n 0, 1) := by decide +kernel
theorem dX8_scatter_33 : decode cX8_scatter 33 = .ok (.iload_n 1, 1) := by decide +kernel
theorem dX8_scatter_34 : decode cX8_scatter 34 = .ok (.iload_n 2, 1) := by decide +kernel
theorem dX8_scatter_35 : decode cX8_scatter 35 = .ok (.iload_n 3, 1) := by decide +kernel
theorem dX8_scatter_36 : decode cX8_scatter 36 = .ok (.invokevirtual 154, 3) := by decide +kernel
theorem dX8_scatter_39 : decode cX8_scatter 39 = .ok (.istore 4, 2) := by decide +kernel
theorem dX8_scatter_41 : decode cX8_scatter 41 = .ok (.iload 4, 2) := by decide +kernel
theorem dX8_scatter_43 : decode cX8_scatter 43 = .ok (.ifCond .le 10, 3) := by decide +kernel
theorem dX8_scatter_46 : decode cX8_scatter 46 = .ok (.aload_n 0, 1) := by decide +kernel
theorem dX8_scatter_47 : decode cX8_scatter 47 = .ok (.iload 4, 2) := by decide +kernel
theorem dX8_scatter_49 : decode cX8_scatter 49 = .ok (.invokevirtual 105, 3) := by decide +kernel
theorem dX8_scatter_52 : decode cX8_scatter 52 = .ok (.ireturn, 1) := by decide +kernel
theorem dX8_scatter_53 : decode cX8_scatter 53 = .ok (.aload_n 0, 1) := by decide +kernel
theorem dX8_scatter_54 : decode cX8_scatter 54 = .ok (.aload_n 0, 1) := by decide +kernel
theorem dX8_scatter_55 : decode cX8_scatter 55 = .ok (.iload_n 2, 1) := by decide +kernel
theorem dX8_scatter_56 : decode cX8_scatter 56 = .ok (.invokevirtual 56, 3) := by decide +kernel
theorem dX8_scatter_59 : decode cX8_scatter 59 = .ok (.invokevirtual 160, 3) := by decide +kernel
theorem dX8_scatter_62 : decode cX8_scatter 62 = .ok (.ifCond .ne 10, 3) := by decide +kernel
theorem dX8_scatter_65 : decode cX8_scatter 65 = .ok (.aload_n 0, 1) := by decide +kernel
theorem dX8_scatter_66 : decode cX8_scatter 66 = .ok (.bipush 6, 2) := by decide +kernel
theorem dX8_scatter_68 : decode cX8_scatter 68 = .ok (.invokevirtual 105, 3) := by decide +kernel
theorem dX8_scatter_71 : decode cX8_scatter 71 = .ok (.ireturn, 1) := by decide +kernel
theorem dX8_scatter_72 : decode cX8_scatter 72 = .ok (.aload_n 0, 1) := by decide +kernel
theorem dX8_scatter_73 : decode cX8_scatter 73 = .ok (.getfield 16, 3) := by decide +kernel
theorem dX8_scatter_76 : decode cX8_scatter 76 = .ok (.aload_n 0, 1) := by decide +kernel
theorem dX8_scatter_77 : decode cX8_scatter 77 = .ok (.iload_n 2, 1) := by decide +kernel
theorem dX8_scatter_78 : decode cX8_scatter 78 = .ok (.invokevirtual 56, 3) := by decide +kernel
theorem dX8_scatter_81 : decode cX8_scatter 81 = .ok (.iaload, 1) := by decide +kernel
theorem dX8_scatter_82 : decode cX8_scatter 82 = .ok (.istore 5, 2) := by decide +kernel
theorem dX8_scatter_84 : decode cX8_scatter 84 = .ok (.iload 5, 2) := by decide +kernel
theorem dX8_scatter_86 : decode cX8_scatter 86 = .ok (.aload_n 0, 1) := by decide +kernel
theorem dX8_scatter_87 : decode cX8_scatter 87 = .ok (.getfield 16, 3) := by decide +kernel
theorem dX8_scatter_90 : decode cX8_scatter 90 = .ok (.aload_n 0, 1) := by decide +kernel
theorem dX8_scatter_91 : decode cX8_scatter 91 = .ok (.iload_n 1, 1) := by decide +kernel
theorem dX8_scatter_92 : decode cX8_scatter 92 = .ok (.invokevirtual 56, 3) := by decide +kernel
theorem dX8_scatter_95 : decode cX8_scatter 95 = .ok (.iaload, 1) := by decide +kernel
theorem dX8_scatter_96 : decode cX8_scatter 96 = .ok (.if_icmp .eq 9, 3) := by decide +kernel
theorem dX8_scatter_99 : decode cX8_scatter 99 = .ok (.aload_n 0, 1) := by decide +kernel
theorem dX8_scatter_100 : decode cX8_scatter 100 = .ok (.iconst 4, 1) := by decide +kernel
theorem dX8_scatter_101 : decode cX8_scatter 101 = .ok (.invokevirtual 105, 3) := by decide +kernel
theorem dX8_scatter_104 : decode cX8_scatter 104 = .ok (.ireturn, 1) := by decide +kernel
theorem dX8_scatter_105 : decode cX8_scatter 105 = .ok (.iconst 0, 1) := by decide +kernel
theorem dX8_scatter_106 : decode cX8_scatter 106 = .ok (.istore 6, 2) := by decide +kernel
theorem dX8_scatter_108 : decode cX8_scatter 108 = .ok (.iload 6, 2) := by decide +kernel
theorem dX8_scatter_110 : decode cX8_scatter 110 = .ok (.iload 5, 2) := by decide +kernel
theorem dX8_scatter_112 : decode cX8_scatter 112 = .ok (.if_icmp .ge 42, 3) := by decide +kernel
theorem dX8_scatter_115 : decode cX8_scatter 115 = .ok (.aload_n 0, 1) := by decide +kernel
theorem dX8_scatter_116 : decode cX8_scatter 116 = .ok (.getfield 42, 3) := by decide +kernel
theorem dX8_scatter_119 : decode cX8_scatter 119 = .ok (.iload 6, 2) := by decide +kernel
theorem dX8_scatter_121 : decode cX8_scatter 121 = .ok (.iload 6, 2) := by decide +kernel
theorem dX8_scatter_123 : decode cX8_scatter 123 = .ok (.iastore, 1) := by decide +kernel
theorem dX8_scatter_124 : decode cX8_scatter 124 = .ok (.aload_n 0, 1) := by decide +kernel
theorem dX8_scatter_125 : decode cX8_scatter 125 = .ok (.getfield 45, 3) := by decide +kernel
theorem dX8_scatter_128 : decode cX8_scatter 128 = .ok (.iload 6, 2) := by decide +kernel
theorem dX8_scatter_130 : decode cX8_scatter 130 = .ok (.aload_n 0, 1) := by decide +kernel
theorem dX8_scatter_131 : decode cX8_scatter 131 = .ok (.getfield 22, 3) := by decide +kernel
theorem dX8_scatter_134 : decode cX8_scatter 134 = .ok (.bipush 24, 2) := by decide +kernel
theorem dX8_scatter_136 : decode cX8_scatter 136 = .ok (.aload_n 0, 1) := by decide +kernel
theorem dX8_scatter_137 : decode cX8_scatter 137 = .ok (.iload_n 2, 1) := by decide +kernel
theorem dX8_scatter_138 : decode cX8_scatter 138 = .ok (.invokevirtual 56, 3) := by decide +kernel
theorem dX8_scatter_141 : decode cX8_scatter 141 = .ok (.imul, 1) := by decide +kernel
theorem dX8_scatter_142 : decode cX8_scatter 142 = .ok (.iload 6, 2) := by decide +kernel
theorem dX8_scatter_144 : decode cX8_scatter 144 = .ok (.iadd, 1) := by decide +kernel
theorem dX8_scatter_145 : decode cX8_scatter 145 = .ok (.laload, 1) := by decide +kernel
theorem dX8_scatter_146 : decode cX8_scatter 146 = .ok (.l2i, 1) := by decide +kernel
theorem dX8_scatter_147 : decode cX8_scatter 147 = .ok (.iastore, 1) := by decide +kernel
theorem dX8_scatter_148 : decode cX8_scatter 148 = .ok (.iinc 6 1, 3) := by decide +kernel
theorem dX8_scatter_151 : decode cX8_scatter 151 = .ok (.goto (-43), 3) := by decide +kernel
theorem dX8_scatter_154 : decode cX8_scatter 154 = .ok (.aload_n 0, 1) := by decide +kernel
theorem dX8_scatter_155 : decode cX8_scatter 155 = .ok (.aload_n 0, 1) := by decide +kernel
theorem dX8_scatter_156 : decode cX8_scatter 156 = .ok (.iload_n 1, 1) := by decide +kernel
theorem dX8_scatter_157 : decode cX8_scatter 157 = .ok (.invokevirtual 56, 3) := by decide +kernel
theorem dX8_scatter_160 : decode cX8_scatter 160 = .ok (.aload_n 0, 1) := by decide +kernel
theorem dX8_scatter_161 : decode cX8_scatter 161 = .ok (.iload_n 3, 1) := by decide +kernel
theorem dX8_scatter_162 : decode cX8_scatter 162 = .ok (.invokevirtual 56, 3) := by decide +kernel
theorem dX8_scatter_165 : decode cX8_scatter 165 = .ok (.iload 5, 2) := by decide +kernel
theorem dX8_scatter_167 : decode cX8_scatter 167 = .ok (.invokevirtual 157, 3) := by decide +kernel
theorem dX8_scatter_170 : decode cX8_scatter 170 = .ok (.ireturn, 1) := by decide +kernel
theorem dX8_mergeAll_0 : decode cX8_mergeAll 0 = .ok (.iconst 0, 1) := by decide +kernel
theorem dX8_mergeAll_1 : decode cX8_mergeAll 1 = .ok (.istore_n 3, 1) := by decide +kernel
theorem dX8_mergeAll_2 : decode cX8_mergeAll 2 = .ok (.iconst 0, 1) := by decide +kernel
theorem dX8_mergeAll_3 : decode cX8_mergeAll 3 = .ok (.istore 4, 2) := by decide +kernel
theorem dX8_mergeAll_5 : decode cX8_mergeAll 5 = .ok (.iload_n 3, 1) := by decide +kernel
theorem dX8_mergeAll_6 : decode cX8_mergeAll 6 = .ok (.aload_n 0, 1) := by decide +kernel
theorem dX8_mergeAll_7 : decode cX8_mergeAll 7 = .ok (.getfield 16, 3) := by decide +kernel
theorem dX8_mergeAll_10 : decode cX8_mergeAll 10 = .ok (.iload_n 1, 1) := by decide +kernel
theorem dX8_mergeAll_11 : decode cX8_mergeAll 11 = .ok (.iaload, 1) := by decide +kernel
theorem dX8_mergeAll_12 : decode cX8_mergeAll 12 = .ok (.if_icmp .lt 14, 3) := by decide +kernel
theorem dX8_mergeAll_15 : decode cX8_mergeAll 15 = .ok (.iload 4, 2) := by decide +kernel
theorem dX8_mergeAll_17 : decode cX8_mergeAll 17 = .ok (.aload_n 0, 1) := by decide +kernel
theorem dX8_mergeAll_18 : decode cX8_mergeAll 18 = .ok (.getfield 16, 3) := by decide +kernel
theorem dX8_mergeAll_21 : decode cX8_mergeAll 21 = .ok (.iload_n 2, 1) := by decide +kernel
theorem dX8_mergeAll_22 : decode cX8_mergeAll 22 = .ok (.iaload, 1) := by decide +kernel
theorem dX8_mergeAll_23 : decode cX8_mergeAll 23 = .ok (.if_icmp .ge 177, 3) := by decide +kernel
theorem dX8_mergeAll_26 : decode cX8_mergeAll 26 = .ok (.iload_n 3, 1) := by decide +kernel
theorem dX8_mergeAll_27 : decode cX8_mergeAll 27 = .ok (.aload_n 0, 1) := by decide +kernel
theorem dX8_mergeAll_28 : decode cX8_mergeAll 28 = .ok (.getfield 16, 3) := by decide +kernel
theorem dX8_mergeAll_31 : decode cX8_mergeAll 31 = .ok (.iload_n 1, 1) := by decide +kernel
theorem dX8_mergeAll_32 : decode cX8_mergeAll 32 = .ok (.iaload, 1) := by decide +kernel
theorem dX8_mergeAll_33 : decode cX8_mergeAll 33 = .ok (.if_icmp .ne 7, 3) := by decide +kernel
theorem dX8_mergeAll_36 : decode cX8_mergeAll 36 = .ok (.iconst 1, 1) := by decide +kernel
theorem dX8_mergeAll_37 : decode cX8_mergeAll 37 = .ok (.goto 4, 3) := by decide +kernel
theorem dX8_mergeAll_40 : decode cX8_mergeAll 40 = .ok (.iconst 0, 1) := by decide +kernel
theorem dX8_mergeAll_41 : decode cX8_mergeAll 41 = .ok (.istore 5, 2) := by decide +kernel
theorem dX8_mergeAll_43 : decode cX8_mergeAll 43 = .ok (.iload 5, 2) := by decide +kernel
theorem dX8_mergeAll_45 : decode cX8_mergeAll 45 = .ok (.ifCond .ne 64, 3) := by decide +kernel
theorem dX8_mergeAll_48 : decode cX8_mergeAll 48 = .ok (.iload 4, 2) := by decide +kernel
theorem dX8_mergeAll_50 : decode cX8_mergeAll 50 = .ok (.aload_n 0, 1) := by decide +kernel
theorem dX8_mergeAll_51 : decode cX8_mergeAll 51 = .ok (.getfield 16, 3) := by decide +kernel
theorem dX8_mergeAll_54 : decode cX8_mergeAll 54 = .ok (.iload_n 2, 1) := by decide +kernel
theorem dX8_mergeAll_55 : decode cX8_mergeAll 55 = .ok (.iaload, 1) := by decide +kernel
theorem dX8_mergeAll_56 : decode cX8_mergeAll 56 = .ok (.if_icmp .ge 53, 3) := by decide +kernel
theorem dX8_mergeAll_59 : decode cX8_mergeAll 59 = .ok (.aload_n 0, 1) := by decide +kernel
theorem dX8_mergeAll_60 : decode cX8_mergeAll 60 = .ok (.iload_n 2, 1) := by decide +kernel
theorem dX8_mergeAll_61 : decode cX8_mergeAll 61 = .ok (.iload 4, 2) := by decide +kernel
theorem dX8_mergeAll_63 : decode cX8_mergeAll 63 = .ok (.invokevirtual 143, 3) := by decide +kernel
theorem dX8_mergeAll_66 : decode cX8_mergeAll 66 = .ok (.aload_n 0, 1) := by decide +kernel
theorem dX8_mergeAll_67 : decode cX8_mergeAll 67 = .ok (.aload_n 0, 1) := by decide +kernel
theorem dX8_mergeAll_68 : decode cX8_mergeAll 68 = .ok (.getfield 13, 3) := by decide +kernel
theorem dX8_mergeAll_71 : decode cX8_mergeAll 71 = .ok (.iload_n 1, 1) := by decide +kernel
theorem dX8_mergeAll_72 : decode cX8_mergeAll 72 = .ok (.iaload, 1) := by decide +kernel
theorem dX8_mergeAll_73 : decode cX8_mergeAll 73 = .ok (.aload_n 0, 1) := by decide +kernel
theorem dX8_mergeAll_74 : decode cX8_mergeAll 74 = .ok (.getfield 22, 3) := by decide +kernel
theorem dX8_mergeAll_77 : decode cX8_mergeAll 77 = .ok (.bipush 24, 2) := by decide +kernel
theorem dX8_mergeAll_79 : decode cX8_mergeAll 79 = .ok (.iload_n 1, 1) := by decide +kernel
theorem dX8_mergeAll_80 : decode cX8_mergeAll 80 = .ok (.imul, 1) := by decide +kernel
theorem dX8_mergeAll_81 : decode cX8_mergeAll 81 = .ok (.iload_n 3, 1) := by decide +kernel
theorem dX8_mergeAll_82 : decode cX8_mergeAll 82 = .ok (.iadd, 1) := by decide +kernel
theorem dX8_mergeAll_83 : decode cX8_mergeAll 83 = .ok (.laload, 1) := by decide +kernel
theorem dX8_mergeAll_84 : decode cX8_mergeAll 84 = .ok (.aload_n 0, 1) := by decide +kernel
theorem dX8_mergeAll_85 : decode cX8_mergeAll 85 = .ok (.getfield 26, 3) := by decide +kernel
theorem dX8_mergeAll_88 : decode cX8_mergeAll 88 = .ok (.bipush 24, 2) := by decide +kernel
theorem dX8_mergeAll_90 : decode cX8_mergeAll 90 = .ok (.iload_n 1, 1) := by decide +kernel
theorem dX8_mergeAll_91 : decode cX8_mergeAll 91 = .ok (.imul, 1) := by decide +kernel
theorem dX8_mergeAll_92 : decode cX8_mergeAll 92 = .ok (.iload_n 3, 1) := by decide +kernel
theorem dX8_mergeAll_93 : decode cX8_mergeAll 93 = .ok (.iadd, 1) := by decide +kernel
theorem dX8_mergeAll_94 : decode cX8_mergeAll 94 = .ok (.daload, 1) := by decide +kernel
theorem dX8_mergeAll_95 : decode cX8_mergeAll 95 = .ok (.invokevirtual 163, 3) := by decide +kernel
theorem dX8_mergeAll_98 : decode cX8_mergeAll 98 = .ok (.iconst (-1), 1) := by decide +kernel
theorem dX8_mergeAll_99 : decode cX8_mergeAll 99 = .ok (.if_icmp .ne 7, 3) := by decide +kernel
theorem dX8_mergeAll_102 : decode cX8_mergeAll 102 = .ok (.iconst 1, 1) := by decide +kernel
theorem dX8_mergeAll_103 : decode cX8_mergeAll 103 = .ok (.goto 4, 3) := by decide +kernel
theorem dX8_mergeAll_106 : decode cX8_mergeAll 106 = .ok (.iconst 0, 1) := by decide +kernel
theorem dX8_mergeAll_107 : decode cX8_mergeAll 107 = .ok (.istore 5, 2) := by decide +kernel
theorem dX8_mergeAll_109 : decode cX8_mergeAll 109 = .ok (.iload 5, 2) := by decide +kernel
theorem dX8_mergeAll_111 : decode cX8_mergeAll 111 = .ok (.ifCond .eq 13, 3) := by decide +kernel
theorem dX8_mergeAll_114 : decode cX8_mergeAll 114 = .ok (.aload_n 0, 1) := by decide +kernel
theorem dX8_mergeAll_115 : decode cX8_mergeAll 115 = .ok (.iload_n 2, 1) := by decide +kernel
theorem dX8_mergeAll_116 : decode cX8_mergeAll 116 = .ok (.iload 4, 2) := by decide +kernel
theorem dX8_mergeAll_118 : decode cX8_mergeAll 118 = .ok (.invokevirtual 143, 3) := by decide +kernel
theorem dX8_mergeAll_121 : decode cX8_mergeAll 121 = .ok (.goto 9, 3) := by decide +kernel
theorem dX8_mergeAll_124 : decode cX8_mergeAll 124 = .ok (.aload_n 0, 1) := by decide +kernel
theorem dX8_mergeAll_125 : decode cX8_mergeAll 125 = .ok (.iload_n 1, 1) := by decide +kernel
theorem dX8_mergeAll_126 : decode cX8_mergeAll 126 = .ok (.iload_n 3, 1) := by decide +kernel
theorem dX8_mergeAll_127 : decode cX8_mergeAll 127 = .ok (.invokevirtual 143, 3) := by decide +kernel
theorem dX8_mergeAll_130 : decode cX8_mergeAll 130 = .ok (.aload_n 0, 1) := by decide +kernel
theorem dX8_mergeAll_131 : decode cX8_mergeAll 131 = .ok (.getfield 33, 3) := by decide +kernel
theorem dX8_mergeAll_134 : decode cX8_mergeAll 134 = .ok (.iload_n 3, 1) := by decide +kernel
theorem dX8_mergeAll_135 : decode cX8_mergeAll 135 = .ok (.iload 4, 2) := by decide +kernel
theorem dX8_mergeAll_137 : decode cX8_mergeAll 137 = .ok (.iadd, 1) := by decide +kernel
theorem dX8_mergeAll_138 : decode cX8_mergeAll 138 = .ok (.aload_n 0, 1) := by decide +kernel
theorem dX8_mergeAll_139 : decode cX8_mergeAll 139 = .ok (.getfield 66, 3) := by decide +kernel
theorem dX8_mergeAll_142 : decode cX8_mergeAll 142 = .ok (.iastore, 1) := by decide +kernel
theorem dX8_mergeAll_143 : decode cX8_mergeAll 143 = .ok (.aload_n 0, 1) := by decide +kernel
theorem dX8_mergeAll_144 : decode cX8_mergeAll 144 = .ok (.getfield 36, 3) := by decide +kernel
theorem dX8_mergeAll_147 : decode cX8_mergeAll 147 = .ok (.iload_n 3, 1) := by decide +kernel
theorem dX8_mergeAll_148 : decode cX8_mergeAll 148 = .ok (.iload 4, 2) := by decide +kernel
theorem dX8_mergeAll_150 : decode cX8_mergeAll 150 = .ok (.iadd, 1) := by decide +kernel
theorem dX8_mergeAll_151 : decode cX8_mergeAll 151 = .ok (.aload_n 0, 1) := by decide +kernel
theorem dX8_mergeAll_152 : decode cX8_mergeAll 152 = .ok (.getfield 69, 3) := by decide +kernel
theorem dX8_mergeAll_155 : decode cX8_mergeAll 155 = .ok (.lastore, 1) := by decide +kernel
theorem dX8_mergeAll_156 : decode cX8_mergeAll 156 = .ok (.aload_n 0, 1) := by decide +kernel
theorem dX8_mergeAll_157 : decode cX8_mergeAll 157 = .ok (.getfield 39, 3) := by decide +kernel
theorem dX8_mergeAll_160 : decode cX8_mergeAll 160 = .ok (.iload_n 3, 1) := by decide +kernel
theorem dX8_mergeAll_161 : decode cX8_mergeAll 161 = .ok (.iload 4, 2) := by decide +kernel
theorem dX8_mergeAll_163 : decode cX8_mergeAll 163 = .ok (.iadd, 1) := by decide +kernel
theorem dX8_mergeAll_164 : decode cX8_mergeAll 164 = .ok (.aload_n 0, 1) := by decide +kernel
theorem dX8_mergeAll_165 : decode cX8_mergeAll 165 = .ok (.getfield 73, 3) := by decide +kernel
theorem dX8_mergeAll_168 : decode cX8_mergeAll 168 = .ok (.dastore, 1) := by decide +kernel
theorem dX8_mergeAll_169 : decode cX8_mergeAll 169 = .ok (.iload_n 3, 1) := by decide +kernel
theorem dX8_mergeAll_170 : decode cX8_mergeAll 170 = .ok (.iload 5, 2) := by decide +kernel
theorem dX8_mergeAll_172 : decode cX8_mergeAll 172 = .ok (.ifCond .eq 7, 3) := by decide +kernel
theorem dX8_mergeAll_175 : decode cX8_mergeAll 175 = .ok (.iconst 0, 1) := by decide +kernel
theorem dX8_mergeAll_176 : decode cX8_mergeAll 176 = .ok (.goto 4, 3) := by decide +kernel
theorem dX8_mergeAll_179 : decode cX8_mergeAll 179 = .ok (.iconst 1, 1) := by decide +kernel
theorem dX8_mergeAll_180 : decode cX8_mergeAll 180 = .ok (.iadd, 1) := by decide +kernel
theorem dX8_mergeAll_181 : decode cX8_mergeAll 181 = .ok (.istore_n 3, 1) := by decide +kernel
theorem dX8_mergeAll_182 : decode cX8_mergeAll 182 = .ok (.iload 4, 2) := by decide +kernel
theorem dX8_mergeAll_184 : decode cX8_mergeAll 184 = .ok (.iload 5, 2) := by decide +kernel
theorem dX8_mergeAll_186 : decode cX8_mergeAll 186 = .ok (.ifCond .eq 7, 3) := by decide +kernel
theorem dX8_mergeAll_189 : decode cX8_mergeAll 189 = .ok (.iconst 1, 1) := by decide +kernel
theorem dX8_mergeAll_190 : decode cX8_mergeAll 190 = .ok (.goto 4, 3) := by decide +kernel
theorem dX8_mergeAll_193 : decode cX8_mergeAll 193 = .ok (.iconst 0, 1) := by decide +kernel
theorem dX8_mergeAll_194 : decode cX8_mergeAll 194 = .ok (.iadd, 1) := by decide +kernel
theorem dX8_mergeAll_195 : decode cX8_mergeAll 195 = .ok (.istore 4, 2) := by decide +kernel
theorem dX8_mergeAll_197 : decode cX8_mergeAll 197 = .ok (.goto (-192), 3) := by decide +kernel
theorem dX8_mergeAll_200 : decode cX8_mergeAll 200 = .ok (.return_, 1) := by decide +kernel
theorem dX8_merge_0 : decode cX8_merge 0 = .ok (.aload_n 0, 1) := by decide +kernel
theorem dX8_merge_1 : decode cX8_merge 1 = .ok (.iconst 0, 1) := by decide +kernel
theorem dX8_merge_2 : decode cX8_merge 2 = .ok (.putfield 48, 3) := by decide +kernel
theorem dX8_merge_5 : decode cX8_merge 5 = .ok (.iload_n 1, 1) := by decide +kernel
theorem dX8_merge_6 : decode cX8_merge 6 = .ok (.invokestatic 102, 3) := by decide +kernel
theorem dX8_merge_9 : decode cX8_merge 9 = .ok (.ifCond .eq 17, 3) := by decide +kernel
theorem dX8_merge_12 : decode cX8_merge 12 = .ok (.iload_n 2, 1) := by decide +kernel
theorem dX8_merge_13 : decode cX8_merge 13 = .ok (.invokestatic 102, 3) := by decide +kernel
theorem dX8_merge_16 : decode cX8_merge 16 = .ok (.ifCond .eq 10, 3) := by decide +kernel
theorem dX8_merge_19 : decode cX8_merge 19 = .ok (.iload_n 3, 1) := by decide +kernel
theorem dX8_merge_20 : decode cX8_merge 20 = .ok (.invokestatic 102, 3) := by decide +kernel
theorem dX8_merge_23 : decode cX8_merge 23 = .ok (.ifCond .ne 9, 3) := by decide +kernel
theorem dX8_merge_26 : decode cX8_merge 26 = .ok (.aload_n 0, 1) := by decide +kernel
theorem dX8_merge_27 : decode cX8_merge 27 = .ok (.iconst 1, 1) := by decide +kernel
theorem dX8_merge_28 : decode cX8_merge 28 = .ok (.invokevirtual 105, 3) := by decide +kernel
theorem dX8_merge_31 : decode cX8_merge 31 = .ok (.ireturn, 1) := by decide +kernel
theorem dX8_merge_32 : decode cX8_merge 32 = .ok (.aload_n 0, 1) := by decide +kernel
theorem dX8_merge_33 : decode cX8_merge 33 = .ok (.iload_n 1, 1) := by decide +kernel
theorem dX8_merge_34 : decode cX8_merge 34 = .ok (.iload_n 2, 1) := by decide +kernel
theorem dX8_merge_35 : decode cX8_merge 35 = .ok (.iload_n 3, 1) := by decide +kernel
theorem dX8_merge_36 : decode cX8_merge 36 = .ok (.invokevirtual 154, 3) := by decide +kernel
theorem dX8_merge_39 : decode cX8_merge 39 = .ok (.istore 4, 2) := by decide +kernel
theorem dX8_merge_41 : decode cX8_merge 41 = .ok (.iload 4, 2) := by decide +kernel
theorem dX8_merge_43 : decode cX8_merge 43 = .ok (.ifCond .le 10, 3) := by decide +kernel
theorem dX8_merge_46 : decode cX8_merge 46 = .ok (.aload_n 0, 1) := by decide +kernel
theorem dX8_merge_47 : decode cX8_merge 47 = .ok (.iload 4, 2) := by decide +kernel
theorem dX8_merge_49 : decode cX8_merge 49 = .ok (.invokevirtual 105, 3) := by decide +kernel
theorem dX8_merge_52 : decode cX8_merge 52 = .ok (.ireturn, 1) := by decide +kernel
theorem dX8_merge_53 : decode cX8_merge 53 = .ok (.aload_n 0, 1) := by decide +kernel
theorem dX8_merge_54 : decode cX8_merge 54 = .ok (.iload_n 1, 1) := by decide +kernel
theorem dX8_merge_55 : decode cX8_merge 55 = .ok (.invokevirtual 56, 3) := by decide +kernel
theorem dX8_merge_58 : decode cX8_merge 58 = .ok (.istore 5, 2) := by decide +kernel
theorem dX8_merge_60 : decode cX8_merge 60 = .ok (.aload_n 0, 1) := by decide +kernel
theorem dX8_merge_61 : decode cX8_merge 61 = .ok (.iload_n 2, 1) := by decide +kernel
theorem dX8_merge_62 : decode cX8_merge 62 = .ok (.invokevirtual 56, 3) := by decide +kernel
theorem dX8_merge_65 : decode cX8_merge 65 = .ok (.istore 6, 2) := by decide +kernel
theorem dX8_merge_67 : decode cX8_merge 67 = .ok (.aload_n 0, 1) := by decide +kernel
theorem dX8_merge_68 : decode cX8_merge 68 = .ok (.iload_n 3, 1) := by decide +kernel
theorem dX8_merge_69 : decode cX8_merge 69 = .ok (.invokevirtual 56, 3) := by decide +kernel
theorem dX8_merge_72 : decode cX8_merge 72 = .ok (.istore 7, 2) := by decide +kernel
theorem dX8_merge_74 : decode cX8_merge 74 = .ok (.aload_n 0, 1) := by decide +kernel
theorem dX8_merge_75 : decode cX8_merge 75 = .ok (.iload 5, 2) := by decide +kernel
theorem dX8_merge_77 : decode cX8_merge 77 = .ok (.invokevirtual 91, 3) := by decide +kernel
theorem dX8_merge_80 : decode cX8_merge 80 = .ok (.ifCond .eq 54, 3) := by decide +kernel
theorem dX8_merge_83 : decode cX8_merge 83 = .ok (.aload_n 0, 1) := by decide +kernel
theorem dX8_merge_84 : decode cX8_merge 84 = .ok (.iload 6, 2) := by decide +kernel
theorem dX8_merge_86 : decode cX8_merge 86 = .ok (.invokevirtual 91, 3) := by decide +kernel
theorem dX8_merge_89 : decode cX8_merge 89 = .ok (.ifCond .eq 45, 3) := by decide +kernel
theorem dX8_merge_92 : decode cX8_merge 92 = .ok (.aload_n 0, 1) := by decide +kernel
theorem dX8_merge_93 : decode cX8_merge 93 = .ok (.iload 7, 2) := by decide +kernel
theorem dX8_merge_95 : decode cX8_merge 95 = .ok (.invokevirtual 91, 3) := by decide +kernel
theorem dX8_merge_98 : decode cX8_merge 98 = .ok (.ifCond .eq 36, 3) := by decide +kernel
theorem dX8_merge_101 : decode cX8_merge 101 = .ok (.aload_n 0, 1) := by decide +kernel
theorem dX8_merge_102 : decode cX8_merge 102 = .ok (.getfield 13, 3) := by decide +kernel
theorem dX8_merge_105 : decode cX8_merge 105 = .ok (.iload 5, 2) := by decide +kernel
theorem dX8_merge_107 : decode cX8_merge 107 = .ok (.iaload, 1) := by decide +kernel
theorem dX8_merge_108 : decode cX8_merge 108 = .ok (.ifCond .ne 7, 3) := by decide +kernel
theorem dX8_merge_111 : decode cX8_merge 111 = .ok (.iconst 1, 1) := by decide +kernel
theorem dX8_merge_112 : decode cX8_merge 112 = .ok (.goto 4, 3) := by decide +kernel
theorem dX8_merge_115 : decode cX8_merge 115 = .ok (.iconst 0, 1) := by decide +kernel
theorem dX8_merge_116 : decode cX8_merge 116 = .ok (.aload_n 0, 1) := by decide +kernel
theorem dX8_merge_117 : decode cX8_merge 117 = .ok (.getfield 13, 3) := by decide +kernel
theorem dX8_merge_120 : decode cX8_merge 120 = .ok (.iload 6, 2) := by decide +kernel
theorem dX8_merge_122 : decode cX8_merge 122 = .ok (.iaload, 1) := by decide +kernel
theorem dX8_merge_123 : decode cX8_merge 123 = .ok (.ifCond .ne 7, 3) := by decide +kernel
theorem dX8_merge_126 : decode cX8_merge 126 = .ok (.iconst 1, 1) := by decide +kernel
theorem dX8_merge_127 : decode cX8_merge 127 = .ok (.goto 4, 3) := by decide +kernel
theorem dX8_merge_130 : decode cX8_merge 130 = .ok (.iconst 0, 1) := by decide +kernel
theorem dX8_merge_131 : decode cX8_merge 131 = .ok (.if_icmp .eq 10, 3) := by decide +kernel
theorem dX8_merge_134 : decode cX8_merge 134 = .ok (.aload_n 0, 1) := by decide +kernel
theorem dX8_merge_135 : decode cX8_merge 135 = .ok (.bipush 6, 2) := by decide +kernel
theorem dX8_merge_137 : decode cX8_merge 137 = .ok (.invokevirtual 105, 3) := by decide +kernel
theorem dX8_merge_140 : decode cX8_merge 140 = .ok (.ireturn, 1) := by decide +kernel
theorem dX8_merge_141 : decode cX8_merge 141 = .ok (.aload_n 0, 1) := by decide +kernel
theorem dX8_merge_142 : decode cX8_merge 142 = .ok (.getfield 16, 3) := by decide +kernel
theorem dX8_merge_145 : decode cX8_merge 145 = .ok (.iload 7, 2) := by decide +kernel
theorem dX8_merge_147 : decode cX8_merge 147 = .ok (.iaload, 1) := by decide +kernel
theorem dX8_merge_148 : decode cX8_merge 148 = .ok (.istore 8, 2) := by decide +kernel
theorem dX8_merge_150 : decode cX8_merge 150 = .ok (.iload 8, 2) := by decide +kernel
theorem dX8_merge_152 : decode cX8_merge 152 = .ok (.aload_n 0, 1) := by decide +kernel
theorem dX8_merge_153 : decode cX8_merge 153 = .ok (.getfield 16, 3) := by decide +kernel
theorem dX8_merge_156 : decode cX8_merge 156 = .ok (.iload 5, 2) := by decide +kernel
theorem dX8_merge_158 : decode cX8_merge 158 = .ok (.iaload, 1) := by decide +kernel
theorem dX8_merge_159 : decode cX8_merge 159 = .ok (.aload_n 0, 1) := by decide +kernel
theorem dX8_merge_160 : decode cX8_merge 160 = .ok (.getfield 16, 3) := by decide +kernel
theorem dX8_merge_163 : decode cX8_merge 163 = .ok (.iload 6, 2) := by decide +kernel
theorem dX8_merge_165 : decode cX8_merge 165 = .ok (.iaload, 1) := by decide +kernel
theorem dX8_merge_166 : decode cX8_merge 166 = .ok (.iadd, 1) := by decide +kernel
theorem dX8_merge_167 : decode cX8_merge 167 = .ok (.if_icmp .eq 9, 3) := by decide +kernel
theorem dX8_merge_170 : decode cX8_merge 170 = .ok (.aload_n 0, 1) := by decide +kernel
theorem dX8_merge_171 : decode cX8_merge 171 = .ok (.iconst 4, 1) := by decide +kernel
theorem dX8_merge_172 : decode cX8_merge 172 = .ok (.invokevirtual 105, 3) := by decide +kernel
theorem dX8_merge_175 : decode cX8_merge 175 = .ok (.ireturn, 1) := by decide +kernel
theorem dX8_merge_176 : decode cX8_merge 176 = .ok (.aload_n 0, 1) := by decide +kernel
theorem dX8_merge_177 : decode cX8_merge 177 = .ok (.iload 5, 2) := by decide +kernel
theorem dX8_merge_179 : decode cX8_merge 179 = .ok (.iload 6, 2) := by decide +kernel
theorem dX8_merge_181 : decode cX8_merge 181 = .ok (.invokevirtual 167, 3) := by decide +kernel
theorem dX8_merge_184 : decode cX8_merge 184 = .ok (.iconst 0, 1) := by decide +kernel
theorem dX8_merge_185 : decode cX8_merge 185 = .ok (.istore 9, 2) := by decide +kernel
theorem dX8_merge_187 : decode cX8_merge 187 = .ok (.iload 9, 2) := by decide +kernel
theorem dX8_merge_189 : decode cX8_merge 189 = .ok (.iload 8, 2) := by decide +kernel
theorem dX8_merge_191 : decode cX8_merge 191 = .ok (.if_icmp .ge 36, 3) := by decide +kernel
theorem dX8_merge_194 : decode cX8_merge 194 = .ok (.aload_n 0, 1) := by decide +kernel
theorem dX8_merge_195 : decode cX8_merge 195 = .ok (.aload_n 0, 1) := by decide +kernel
theorem dX8_merge_196 : decode cX8_merge 196 = .ok (.getfield 33, 3) := by decide +kernel
theorem dX8_merge_199 : decode cX8_merge 199 = .ok (.iload 9, 2) := by decide +kernel
theorem dX8_merge_201 : decode cX8_merge 201 = .ok (.iaload, 1) := by decide +kernel
theorem dX8_merge_202 : decode cX8_merge 202 = .ok (.aload_n 0, 1) := by decide +kernel
theorem dX8_merge_203 : decode cX8_merge 203 = .ok (.getfield 13, 3) := by decide +kernel
theorem dX8_merge_206 : decode cX8_merge 206 = .ok (.iload 7, 2) := by decide +kernel
theorem dX8_merge_208 : decode cX8_merge 208 = .ok (.iaload, 1) := by decide +kernel
theorem dX8_merge_209 : decode cX8_merge 209 = .ok (.invokevirtual 94, 3) := by decide +kernel
theorem dX8_merge_212 : decode cX8_merge 212 = .ok (.ifCond .ne 9, 3) := by decide +kernel
theorem dX8_merge_215 : decode cX8_merge 215 = .ok (.aload_n 0, 1) := by decide +kernel
theorem dX8_merge_216 : decode cX8_merge 216 = .ok (.iconst 5, 1) := by decide +kernel
theorem dX8_merge_217 : decode cX8_merge 217 = .ok (.invokevirtual 105, 3) := by decide +kernel
theorem dX8_merge_220 : decode cX8_merge 220 = .ok (.ireturn, 1) := by decide +kernel
theorem dX8_merge_221 : decode cX8_merge 221 = .ok (.iinc 9 1, 3) := by decide +kernel
theorem dX8_merge_224 : decode cX8_merge 224 = .ok (.goto (-37), 3) := by decide +kernel
theorem dX8_merge_227 : decode cX8_merge 227 = .ok (.iconst 0, 1) := by decide +kernel
theorem dX8_merge_228 : decode cX8_merge 228 = .ok (.istore 9, 2) := by decide +kernel
theorem dX8_merge_230 : decode cX8_merge 230 = .ok (.iload 9, 2) := by decide +kernel
theorem dX8_merge_232 : decode cX8_merge 232 = .ok (.iload 8, 2) := by decide +kernel
theorem dX8_merge_234 : decode cX8_merge 234 = .ok (.if_icmp .ge 61, 3) := by decide +kernel
theorem dX8_merge_237 : decode cX8_merge 237 = .ok (.aload_n 0, 1) := by decide +kernel
theorem dX8_merge_238 : decode cX8_merge 238 = .ok (.aload_n 0, 1) := by decide +kernel
theorem dX8_merge_239 : decode cX8_merge 239 = .ok (.getfield 33, 3) := by decide +kernel
theorem dX8_merge_242 : decode cX8_merge 242 = .ok (.iload 9, 2) := by decide +kernel
theorem dX8_merge_244 : decode cX8_merge 244 = .ok (.iaload, 1) := by decide +kernel
theorem dX8_merge_245 : decode cX8_merge 245 = .ok (.putfield 66, 3) := by decide +kernel
theorem dX8_merge_248 : decode cX8_merge 248 = .ok (.aload_n 0, 1) := by decide +kernel
theorem dX8_merge_249 : decode cX8_merge 249 = .ok (.aload_n 0, 1) := by decide +kernel
theorem dX8_merge_250 : decode cX8_merge 250 = .ok (.getfield 36, 3) := by decide +kernel
theorem dX8_merge_253 : decode cX8_merge 253 = .ok (.iload 9, 2) := by decide +kernel
theorem dX8_merge_255 : decode cX8_merge 255 = .ok (.laload, 1) := by decide +kernel
theorem dX8_merge_256 : decode cX8_merge 256 = .ok (.putfield 69, 3) := by decide +kernel
theorem dX8_merge_259 : decode cX8_merge 259 = .ok (.aload_n 0, 1) := by decide +kernel
theorem dX8_merge_260 : decode cX8_merge 260 = .ok (.aload_n 0, 1) := by decide +kernel
theorem dX8_merge_261 : decode cX8_merge 261 = .ok (.getfield 39, 3) := by decide +kernel
theorem dX8_merge_264 : decode cX8_merge 264 = .ok (.iload 9, 2) := by decide +kernel
theorem dX8_merge_266 : decode cX8_merge 266 = .ok (.daload, 1) := by decide +kernel
theorem dX8_merge_267 : decode cX8_merge 267 = .ok (.putfield 73, 3) := by decide +kernel
theorem dX8_merge_270 : decode cX8_merge 270 = .ok (.aload_n 0, 1) := by decide +kernel
theorem dX8_merge_271 : decode cX8_merge 271 = .ok (.aload_n 0, 1) := by decide +kernel
theorem dX8_merge_272 : decode cX8_merge 272 = .ok (.getfield 13, 3) := by decide +kernel
theorem dX8_merge_275 : decode cX8_merge 275 = .ok (.iload 7, 2) := by decide +kernel
theorem dX8_merge_277 : decode cX8_merge 277 = .ok (.iaload, 1) := by decide +kernel
theorem dX8_merge_278 : decode cX8_merge 278 = .ok (.invokevirtual 131, 3) := by decide +kernel
theorem dX8_merge_281 : decode cX8_merge 281 = .ok (.aload_n 0, 1) := by decide +kernel
theorem dX8_merge_282 : decode cX8_merge 282 = .ok (.iload 7, 2) := by decide +kernel
theorem dX8_merge_284 : decode cX8_merge 284 = .ok (.iload 9, 2) := by decide +kernel
theorem dX8_merge_286 : decode cX8_merge 286 = .ok (.invokevirtual 135, 3) := by decide +kernel
theorem dX8_merge_289 : decode cX8_merge 289 = .ok (.iinc 9 1, 3) := by decide +kernel
theorem dX8_merge_292 : decode cX8_merge 292 = .ok (.goto (-62), 3) := by decide +kernel
theorem dX8_merge_295 : decode cX8_merge 295 = .ok (.iload 8, 2) := by decide +kernel
theorem dX8_merge_297 : decode cX8_merge 297 = .ok (.ireturn, 1) := by decide +kernel
theorem dX8_rankOf_0 : decode cX8_rankOf 0 = .ok (.lload_n 1, 1) := by decide +kernel
theorem dX8_rankOf_1 : decode cX8_rankOf 1 = .ok (.lconst 0, 1) := by decide +kernel
theorem dX8_rankOf_2 : decode cX8_rankOf 2 = .ok (.lcmp, 1) := by decide +kernel
theorem dX8_rankOf_3 : decode cX8_rankOf 3 = .ok (.ifCond .ne 7, 3) := by decide +kernel
theorem dX8_rankOf_6 : decode cX8_rankOf 6 = .ok (.ldc2_w 170, 3) := by decide +kernel
theorem dX8_rankOf_9 : decode cX8_rankOf 9 = .ok (.lreturn, 1) := by decide +kernel
theorem dX8_rankOf_10 : decode cX8_rankOf 10 = .ok (.lload_n 1, 1) := by decide +kernel
theorem dX8_rankOf_11 : decode cX8_rankOf 11 = .ok (.l2i, 1) := by decide +kernel
theorem dX8_rankOf_12 : decode cX8_rankOf 12 = .ok (.iconst 1, 1) := by decide +kernel
theorem dX8_rankOf_13 : decode cX8_rankOf 13 = .ok (.isub, 1) := by decide +kernel
theorem dX8_rankOf_14 : decode cX8_rankOf 14 = .ok (.istore_n 3, 1) := by decide +kernel
theorem dX8_rankOf_15 : decode cX8_rankOf 15 = .ok (.aload_n 0, 1) := by decide +kernel
theorem dX8_rankOf_16 : decode cX8_rankOf 16 = .ok (.iload_n 3, 1) := by decide +kernel
theorem dX8_rankOf_17 : decode cX8_rankOf 17 = .ok (.invokevirtual 60, 3) := by decide +kernel
theorem dX8_rankOf_20 : decode cX8_rankOf 20 = .ok (.ifCond .eq 13, 3) := by decide +kernel
theorem dX8_rankOf_23 : decode cX8_rankOf 23 = .ok (.aload_n 0, 1) := by decide +kernel
theorem dX8_rankOf_24 : decode cX8_rankOf 24 = .ok (.getfield 16, 3) := by decide +kernel
theorem dX8_rankOf_27 : decode cX8_rankOf 27 = .ok (.iload_n 3, 1) := by decide +kernel
theorem dX8_rankOf_28 : decode cX8_rankOf 28 = .ok (.iaload, 1) := by decide +kernel
theorem dX8_rankOf_29 : decode cX8_rankOf 29 = .ok (.i2l, 1) := by decide +kernel
theorem dX8_rankOf_30 : decode cX8_rankOf 30 = .ok (.goto 10, 3) := by decide +kernel
theorem dX8_rankOf_33 : decode cX8_rankOf 33 = .ok (.aload_n 0, 1) := by decide +kernel
theorem dX8_rankOf_34 : decode cX8_rankOf 34 = .ok (.getfield 19, 3) := by decide +kernel
theorem dX8_rankOf_37 : decode cX8_rankOf 37 = .ok (.iload_n 3, 1) := by decide +kernel
theorem dX8_rankOf_38 : decode cX8_rankOf 38 = .ok (.iaload, 1) := by decide +kernel
theorem dX8_rankOf_39 : decode cX8_rankOf 39 = .ok (.i2l, 1) := by decide +kernel
theorem dX8_rankOf_40 : decode cX8_rankOf 40 = .ok (.lreturn, 1) := by decide +kernel
theorem dX8_isBefore_0 : decode cX8_isBefore 0 = .ok (.aload_n 0, 1) := by decide +kernel
theorem dX8_isBefore_1 : decode cX8_isBefore 1 = .ok (.iload_n 1, 1) := by decide +kernel
theorem dX8_isBefore_2 : decode cX8_isBefore 2 = .ok (.invokevirtual 91, 3) := by decide +kernel
theorem dX8_isBefore_5 : decode cX8_isBefore 5 = .ok (.ifCond .ne 43, 3) := by decide +kernel
theorem dX8_isBefore_8 : decode cX8_isBefore 8 = .ok (.aload_n 0, 1) := by decide +kernel
theorem dX8_isBefore_9 : decode cX8_isBefore 9 = .ok (.aload_n 0, 1) := by decide +kernel
theorem dX8_isBefore_10 : decode cX8_isBefore 10 = .ok (.getfield 22, 3) := by decide +kernel
theorem dX8_isBefore_13 : decode cX8_isBefore 13 = .ok (.bipush 24, 2) := by decide +kernel
theorem dX8_isBefore_15 : decode cX8_isBefore 15 = .ok (.iload_n 1, 1) := by decide +kernel
theorem dX8_isBefore_16 : decode cX8_isBefore 16 = .ok (.imul, 1) := by decide +kernel
theorem dX8_isBefore_17 : decode cX8_isBefore 17 = .ok (.iload_n 2, 1) := by decide +kernel
theorem dX8_isBefore_18 : decode cX8_isBefore 18 = .ok (.iadd, 1) := by decide +kernel
theorem dX8_isBefore_19 : decode cX8_isBefore 19 = .ok (.laload, 1) := by decide +kernel
theorem dX8_isBefore_20 : decode cX8_isBefore 20 = .ok (.invokevirtual 172, 3) := by decide +kernel
theorem dX8_isBefore_23 : decode cX8_isBefore 23 = .ok (.aload_n 0, 1) := by decide +kernel
theorem dX8_isBefore_24 : decode cX8_isBefore 24 = .ok (.aload_n 0, 1) := by decide +kernel
theorem dX8_isBefore_25 : decode cX8_isBefore 25 = .ok (.getfield 22, 3) := by decide +kernel
theorem dX8_isBefore_28 : decode cX8_isBefore 28 = .ok (.bipush 24, 2) := by decide +kernel
theorem dX8_isBefore_30 : decode cX8_isBefore 30 = .ok (.iload_n 1, 1) := by decide +kernel
theorem dX8_isBefore_31 : decode cX8_isBefore 31 = .ok (.imul, 1) := by decide +kernel
theorem dX8_isBefore_32 : decode cX8_isBefore 32 = .ok (.iload_n 3, 1) := by decide +kernel
theorem dX8_isBefore_33 : decode cX8_isBefore 33 = .ok (.iadd, 1) := by decide +kernel
theorem dX8_isBefore_34 : decode cX8_isBefore 34 = .ok (.laload, 1) := by decide +kernel
theorem dX8_isBefore_35 : decode cX8_isBefore 35 = .ok (.invokevirtual 172, 3) := by decide +kernel
theorem dX8_isBefore_38 : decode cX8_isBefore 38 = .ok (.lcmp, 1) := by decide +kernel
theorem dX8_isBefore_39 : decode cX8_isBefore 39 = .ok (.ifCond .ge 7, 3) := by decide +kernel
theorem dX8_isBefore_42 : decode cX8_isBefore 42 = .ok (.iconst 1, 1) := by decide +kernel
theorem dX8_isBefore_43 : decode cX8_isBefore 43 = .ok (.goto 4, 3) := by decide +kernel
theorem dX8_isBefore_46 : decode cX8_isBefore 46 = .ok (.iconst 0, 1) := by decide +kernel
theorem dX8_isBefore_47 : decode cX8_isBefore 47 = .ok (.ireturn, 1) := by decide +kernel
theorem dX8_isBefore_48 : decode cX8_isBefore 48 = .ok (.aload_n 0, 1) := by decide +kernel
theorem dX8_isBefore_49 : decode cX8_isBefore 49 = .ok (.iload_n 1, 1) := by decide +kernel
theorem dX8_isBefore_50 : decode cX8_isBefore 50 = .ok (.iload_n 2, 1) := by decide +kernel
theorem dX8_isBefore_51 : decode cX8_isBefore 51 = .ok (.invokevirtual 143, 3) := by decide +kernel
theorem dX8_isBefore_54 : decode cX8_isBefore 54 = .ok (.aload_n 0, 1) := by decide +kernel
theorem dX8_isBefore_55 : decode cX8_isBefore 55 = .ok (.aload_n 0, 1) := by decide +kernel
theorem dX8_isBefore_56 : decode cX8_isBefore 56 = .ok (.getfield 13, 3) := by decide +kernel
theorem dX8_isBefore_59 : decode cX8_isBefore 59 = .ok (.iload_n 1, 1) := by decide +kernel
theorem dX8_isBefore_60 : decode cX8_isBefore 60 = .ok (.iaload, 1) := by decide +kernel
theorem dX8_isBefore_61 : decode cX8_isBefore 61 = .ok (.aload_n 0, 1) := by decide +kernel
theorem dX8_isBefore_62 : decode cX8_isBefore 62 = .ok (.getfield 22, 3) := by decide +kernel
theorem dX8_isBefore_65 : decode cX8_isBefore 65 = .ok (.bipush 24, 2) := by decide +kernel
theorem dX8_isBefore_67 : decode cX8_isBefore 67 = .ok (.iload_n 1, 1) := by decide +kernel
theorem dX8_isBefore_68 : decode cX8_isBefore 68 = .ok (.imul, 1) := by decide +kernel
theorem dX8_isBefore_69 : decode cX8_isBefore 69 = .ok (.iload_n 3, 1) := by decide +kernel
theorem dX8_isBefore_70 : decode cX8_isBefore 70 = .ok (.iadd, 1) := by decide +kernel
theorem dX8_isBefore_71 : decode cX8_isBefore 71 = .ok (.laload, 1) := by decide +kernel
theorem dX8_isBefore_72 : decode cX8_isBefore 72 = .ok (.aload_n 0, 1) := by decide +kernel
theorem dX8_isBefore_73 : decode cX8_isBefore 73 = .ok (.getfield 26, 3) := by decide +kernel
theorem dX8_isBefore_76 : decode cX8_isBefore 76 = .ok (.bipush 24, 2) := by decide +kernel
theorem dX8_isBefore_78 : decode cX8_isBefore 78 = .ok (.iload_n 1, 1) := by decide +kernel
theorem dX8_isBefore_79 : decode cX8_isBefore 79 = .ok (.imul, 1) := by decide +kernel
theorem dX8_isBefore_80 : decode cX8_isBefore 80 = .ok (.iload_n 3, 1) := by decide +kernel
theorem dX8_isBefore_81 : decode cX8_isBefore 81 = .ok (.iadd, 1) := by decide +kernel
theorem dX8_isBefore_82 : decode cX8_isBefore 82 = .ok (.daload, 1) := by decide +kernel
theorem dX8_isBefore_83 : decode cX8_isBefore 83 = .ok (.invokevirtual 163, 3) := by decide +kernel
theorem dX8_isBefore_86 : decode cX8_isBefore 86 = .ok (.iconst (-1), 1) := by decide +kernel
theorem dX8_isBefore_87 : decode cX8_isBefore 87 = .ok (.if_icmp .ne 7, 3) := by decide +kernel
theorem dX8_isBefore_90 : decode cX8_isBefore 90 = .ok (.iconst 1, 1) := by decide +kernel
theorem dX8_isBefore_91 : decode cX8_isBefore 91 = .ok (.goto 4, 3) := by decide +kernel
theorem dX8_isBefore_94 : decode cX8_isBefore 94 = .ok (.iconst 0, 1) := by decide +kernel
theorem dX8_isBefore_95 : decode cX8_isBefore 95 = .ok (.ireturn, 1) := by decide +kernel
theorem dX8_swap_0 : decode cX8_swap 0 = .ok (.aload_n 0, 1) := by decide +kernel
theorem dX8_swap_1 : decode cX8_swap 1 = .ok (.iload_n 1, 1) := by decide +kernel
theorem dX8_swap_2 : decode cX8_swap 2 = .ok (.iload_n 2, 1) := by decide +kernel
theorem dX8_swap_3 : decode cX8_swap 3 = .ok (.invokevirtual 143, 3) := by decide +kernel
theorem dX8_swap_6 : decode cX8_swap 6 = .ok (.aload_n 0, 1) := by decide +kernel
theorem dX8_swap_7 : decode cX8_swap 7 = .ok (.getfield 22, 3) := by decide +kernel
theorem dX8_swap_10 : decode cX8_swap 10 = .ok (.bipush 24, 2) := by decide +kernel
theorem dX8_swap_12 : decode cX8_swap 12 = .ok (.iload_n 1, 1) := by decide +kernel
theorem dX8_swap_13 : decode cX8_swap 13 = .ok (.imul, 1) := by decide +kernel
theorem dX8_swap_14 : decode cX8_swap 14 = .ok (.iload_n 2, 1) := by decide +kernel
theorem dX8_swap_15 : decode cX8_swap 15 = .ok (.iadd, 1) := by decide +kernel
theorem dX8_swap_16 : decode cX8_swap 16 = .ok (.aload_n 0, 1) := by decide +kernel
theorem dX8_swap_17 : decode cX8_swap 17 = .ok (.getfield 22, 3) := by decide +kernel
theorem dX8_swap_20 : decode cX8_swap 20 = .ok (.bipush 24, 2) := by decide +kernel
theorem dX8_swap_22 : decode cX8_swap 22 = .ok (.iload_n 1, 1) := by decide +kernel
theorem dX8_swap_23 : decode cX8_swap 23 = .ok (.imul, 1) := by decide +kernel
theorem dX8_swap_24 : decode cX8_swap 24 = .ok (.iload_n 3, 1) := by decide +kernel
theorem dX8_swap_25 : decode cX8_swap 25 = .ok (.iadd, 1) := by decide +kernel
theorem dX8_swap_26 : decode cX8_swap 26 = .ok (.laload, 1) := by decide +kernel
theorem dX8_swap_27 : decode cX8_swap 27 = .ok (.lastore, 1) := by decide +kernel
theorem dX8_swap_28 : decode cX8_swap 28 = .ok (.aload_n 0, 1) := by decide +kernel
theorem dX8_swap_29 : decode cX8_swap 29 = .ok (.getfield 26, 3) := by decide +kernel
theorem dX8_swap_32 : decode cX8_swap 32 = .ok (.bipush 24, 2) := by decide +kernel
theorem dX8_swap_34 : decode cX8_swap 34 = .ok (.iload_n 1, 1) := by decide +kernel
theorem dX8_swap_35 : decode cX8_swap 35 = .ok (.imul, 1) := by decide +kernel
theorem dX8_swap_36 : decode cX8_swap 36 = .ok (.iload_n 2, 1) := by decide +kernel
theorem dX8_swap_37 : decode cX8_swap 37 = .ok (.iadd, 1) := by decide +kernel
theorem dX8_swap_38 : decode cX8_swap 38 = .ok (.aload_n 0, 1) := by decide +kernel
theorem dX8_swap_39 : decode cX8_swap 39 = .ok (.getfield 26, 3) := by decide +kernel
theorem dX8_swap_42 : decode cX8_swap 42 = .ok (.bipush 24, 2) := by decide +kernel
theorem dX8_swap_44 : decode cX8_swap 44 = .ok (.iload_n 1, 1) := by decide +kernel
theorem dX8_swap_45 : decode cX8_swap 45 = .ok (.imul, 1) := by decide +kernel
theorem dX8_swap_46 : decode cX8_swap 46 = .ok (.iload_n 3, 1) := by decide +kernel
theorem dX8_swap_47 : decode cX8_swap 47 = .ok (.iadd, 1) := by decide +kernel
theorem dX8_swap_48 : decode cX8_swap 48 = .ok (.daload, 1) := by decide +kernel
theorem dX8_swap_49 : decode cX8_swap 49 = .ok (.dastore, 1) := by decide +kernel
theorem dX8_swap_50 : decode cX8_swap 50 = .ok (.aload_n 0, 1) := by decide +kernel
theorem dX8_swap_51 : decode cX8_swap 51 = .ok (.iload_n 1, 1) := by decide +kernel
theorem dX8_swap_52 : decode cX8_swap 52 = .ok (.iload_n 3, 1) := by decide +kernel
theorem dX8_swap_53 : decode cX8_swap 53 = .ok (.invokevirtual 135, 3) := by decide +kernel
theorem dX8_swap_56 : decode cX8_swap 56 = .ok (.return_, 1) := by decide +kernel
theorem dX8_hasMinus_0 : decode cX8_hasMinus 0 = .ok (.dload_n 0, 1) := by decide +kernel
theorem dX8_hasMinus_1 : decode cX8_hasMinus 1 = .ok (.dconst 0, 1) := by decide +kernel
theorem dX8_hasMinus_2 : decode cX8_hasMinus 2 = .ok (.dcmp .g, 1) := by decide +kernel
theorem dX8_hasMinus_3 : decode cX8_hasMinus 3 = .ok (.ifCond .lt 17, 3) := by decide +kernel
theorem dX8_hasMinus_6 : decode cX8_hasMinus 6 = .ok (.dload_n 0, 1) := by decide +kernel
theorem dX8_hasMinus_7 : decode cX8_hasMinus 7 = .ok (.dconst 0, 1) := by decide +kernel
theorem dX8_hasMinus_8 : decode cX8_hasMinus 8 = .ok (.dcmp .l, 1) := by decide +kernel
theorem dX8_hasMinus_9 : decode cX8_hasMinus 9 = .ok (.ifCond .ne 15, 3) := by decide +kernel
theorem dX8_hasMinus_12 : decode cX8_hasMinus 12 = .ok (.dconst 1, 1) := by decide +kernel
theorem dX8_hasMinus_13 : decode cX8_hasMinus 13 = .ok (.dload_n 0, 1) := by decide +kernel
theorem dX8_hasMinus_14 : decode cX8_hasMinus 14 = .ok (.ddiv, 1) := by decide +kernel
theorem dX8_hasMinus_15 : decode cX8_hasMinus 15 = .ok (.dconst 0, 1) := by decide +kernel
theorem dX8_hasMinus_16 : decode cX8_hasMinus 16 = .ok (.dcmp .g, 1) := by decide +kernel
theorem dX8_hasMinus_17 : decode cX8_hasMinus 17 = .ok (.ifCond .ge 7, 3) := by decide +kernel
theorem dX8_hasMinus_20 : decode cX8_hasMinus 20 = .ok (.iconst 1, 1) := by decide +kernel
theorem dX8_hasMinus_21 : decode cX8_hasMinus 21 = .ok (.goto 4, 3) := by decide +kernel
theorem dX8_hasMinus_24 : decode cX8_hasMinus 24 = .ok (.iconst 0, 1) := by decide +kernel
theorem dX8_hasMinus_25 : decode cX8_hasMinus 25 = .ok (.ireturn, 1) := by decide +kernel
theorem dX8_others_0 : decode cX8_others 0 = .ok (.iconst 0, 1) := by decide +kernel
theorem dX8_others_1 : decode cX8_others 1 = .ok (.istore_n 2, 1) := by decide +kernel
theorem dX8_others_2 : decode cX8_others 2 = .ok (.iconst 0, 1) := by decide +kernel
theorem dX8_others_3 : decode cX8_others 3 = .ok (.istore_n 3, 1) := by decide +kernel
theorem dX8_others_4 : decode cX8_others 4 = .ok (.iload_n 3, 1) := by decide +kernel
theorem dX8_others_5 : decode cX8_others 5 = .ok (.aload_n 0, 1) := by decide +kernel
theorem dX8_others_6 : decode cX8_others 6 = .ok (.getfield 16, 3) := by decide +kernel
theorem dX8_others_9 : decode cX8_others 9 = .ok (.iload_n 1, 1) := by decide +kernel
theorem dX8_others_10 : decode cX8_others 10 = .ok (.iaload, 1) := by decide +kernel
theorem dX8_others_11 : decode cX8_others 11 = .ok (.if_icmp .ge 80, 3) := by decide +kernel
theorem dX8_others_14 : decode cX8_others 14 = .ok (.aload_n 0, 1) := by decide +kernel
theorem dX8_others_15 : decode cX8_others 15 = .ok (.getfield 26, 3) := by decide +kernel
theorem dX8_others_18 : decode cX8_others 18 = .ok (.bipush 24, 2) := by decide +kernel
theorem dX8_others_20 : decode cX8_others 20 = .ok (.iload_n 1, 1) := by decide +kernel
theorem dX8_others_21 : decode cX8_others 21 = .ok (.imul, 1) := by decide +kernel
theorem dX8_others_22 : decode cX8_others 22 = .ok (.iload_n 3, 1) := by decide +kernel
theorem dX8_others_23 : decode cX8_others 23 = .ok (.iadd, 1) := by decide +kernel
theorem dX8_others_24 : decode cX8_others 24 = .ok (.daload, 1) := by decide +kernel
theorem dX8_others_25 : decode cX8_others 25 = .ok (.dstore 4, 2) := by decide +kernel
theorem dX8_others_27 : decode cX8_others 27 = .ok (.aload_n 0, 1) := by decide +kernel
theorem dX8_others_28 : decode cX8_others 28 = .ok (.getfield 39, 3) := by decide +kernel
theorem dX8_others_31 : decode cX8_others 31 = .ok (.iload_n 3, 1) := by decide +kernel
theorem dX8_others_32 : decode cX8_others 32 = .ok (.daload, 1) := by decide +kernel
theorem dX8_others_33 : decode cX8_others 33 = .ok (.dstore 6, 2) := by decide +kernel
theorem dX8_others_35 : decode cX8_others 35 = .ok (.iload_n 2, 1) := by decide +kernel
theorem dX8_others_36 : decode cX8_others 36 = .ok (.aload_n 0, 1) := by decide +kernel
theorem dX8_others_37 : decode cX8_others 37 = .ok (.getfield 22, 3) := by decide +kernel
theorem dX8_others_40 : decode cX8_others 40 = .ok (.bipush 24, 2) := by decide +kernel
theorem dX8_others_42 : decode cX8_others 42 = .ok (.iload_n 1, 1) := by decide +kernel
theorem dX8_others_43 : decode cX8_others 43 = .ok (.imul, 1) := by decide +kernel
theorem dX8_others_44 : decode cX8_others 44 = .ok (.iload_n 3, 1) := by decide +kernel
theorem dX8_others_45 : decode cX8_others 45 = .ok (.iadd, 1) := by decide +kernel
theorem dX8_others_46 : decode cX8_others 46 = .ok (.laload, 1) := by decide +kernel
theorem dX8_others_47 : decode cX8_others 47 = .ok (.aload_n 0, 1) := by decide +kernel
theorem dX8_others_48 : decode cX8_others 48 = .ok (.getfield 36, 3) := by decide +kernel
theorem dX8_others_51 : decode cX8_others 51 = .ok (.iload_n 3, 1) := by decide +kernel
theorem dX8_others_52 : decode cX8_others 52 = .ok (.laload, 1) := by decide +kernel
theorem dX8_others_53 : decode cX8_others 53 = .ok (.lcmp, 1) := by decide +kernel
theorem dX8_others_54 : decode cX8_others 54 = .ok (.ifCond .ne 24, 3) := by decide +kernel
theorem dX8_others_57 : decode cX8_others 57 = .ok (.dload 4, 2) := by decide +kernel
theorem dX8_others_59 : decode cX8_others 59 = .ok (.dload 6, 2) := by decide +kernel
theorem dX8_others_61 : decode cX8_others 61 = .ok (.dcmp .l, 1) := by decide +kernel
theorem dX8_others_62 : decode cX8_others 62 = .ok (.ifCond .ne 16, 3) := by decide +kernel
theorem dX8_others_65 : decode cX8_others 65 = .ok (.dload 4, 2) := by decide +kernel
theorem dX8_others_67 : decode cX8_others 67 = .ok (.invokestatic 176, 3) := by decide +kernel
theorem dX8_others_70 : decode cX8_others 70 = .ok (.dload 6, 2) := by decide +kernel
theorem dX8_others_72 : decode cX8_others 72 = .ok (.invokestatic 176, 3) := by decide +kernel
theorem dX8_others_75 : decode cX8_others 75 = .ok (.if_icmp .eq 7, 3) := by decide +kernel
theorem dX8_others_78 : decode cX8_others 78 = .ok (.iconst 1, 1) := by decide +kernel
theorem dX8_others_79 : decode cX8_others 79 = .ok (.goto 4, 3) := by decide +kernel
theorem dX8_others_82 : decode cX8_others 82 = .ok (.iconst 0, 1) := by decide +kernel
theorem dX8_others_83 : decode cX8_others 83 = .ok (.iadd, 1) := by decide +kernel
theorem dX8_others_84 : decode cX8_others 84 = .ok (.istore_n 2, 1) := by decide +kernel
theorem dX8_others_85 : decode cX8_others 85 = .ok (.iinc 3 1, 3) := by decide +kernel
theorem dX8_others_88 : decode cX8_others 88 = .ok (.goto (-84), 3) := by decide +kernel
theorem dX8_others_91 : decode cX8_others 91 = .ok (.iload_n 2, 1) := by decide +kernel
theorem dX8_others_92 : decode cX8_others 92 = .ok (.ireturn, 1) := by decide +kernel
theorem dX8_takeOut_0 : decode cX8_takeOut 0 = .ok (.iconst 0, 1) := by decide +kernel
theorem dX8_takeOut_1 : decode cX8_takeOut 1 = .ok (.istore_n 2, 1) := by decide +kernel
theorem dX8_takeOut_2 : decode cX8_takeOut 2 = .ok (.iload_n 2, 1) := by decide +kernel
theorem dX8_takeOut_3 : decode cX8_takeOut 3 = .ok (.aload_n 0, 1) := by decide +kernel
theorem dX8_takeOut_4 : decode cX8_takeOut 4 = .ok (.getfield 16, 3) := by decide +kernel
theorem dX8_takeOut_7 : decode cX8_takeOut 7 = .ok (.iload_n 1, 1) := by decide +kernel
theorem dX8_takeOut_8 : decode cX8_takeOut 8 = .ok (.iaload, 1) := by decide +kernel
theorem dX8_takeOut_9 : decode cX8_takeOut 9 = .ok (.if_icmp .ge 43, 3) := by decide +kernel
theorem dX8_takeOut_12 : decode cX8_takeOut 12 = .ok (.aload_n 0, 1) := by decide +kernel
theorem dX8_takeOut_13 : decode cX8_takeOut 13 = .ok (.getfield 36, 3) := by decide +kernel
theorem dX8_takeOut_16 : decode cX8_takeOut 16 = .ok (.iload_n 2, 1) := by decide +kernel
theorem dX8_takeOut_17 : decode cX8_takeOut 17 = .ok (.aload_n 0, 1) := by decide +kernel
theorem dX8_takeOut_18 : decode cX8_takeOut 18 = .ok (.getfield 22, 3) := by decide +kernel
theorem dX8_takeOut_21 : decode cX8_takeOut 21 = .ok (.bipush 24, 2) := by decide +kernel
theorem dX8_takeOut_23 : decode cX8_takeOut 23 = .ok (.iload_n 1, 1) := by decide +kernel
theorem dX8_takeOut_24 : decode cX8_takeOut 24 = .ok (.imul, 1) := by decide +kernel
theorem dX8_takeOut_25 : decode cX8_takeOut 25 = .ok (.iload_n 2, 1) := by decide +kernel
theorem dX8_takeOut_26 : decode cX8_takeOut 26 = .ok (.iadd, 1) := by decide +kernel
theorem dX8_takeOut_27 : decode cX8_takeOut 27 = .ok (.laload, 1) := by decide +kernel
theorem dX8_takeOut_28 : decode cX8_takeOut 28 = .ok (.lastore, 1) := by decide +kernel
theorem dX8_takeOut_29 : decode cX8_takeOut 29 = .ok (.aload_n 0, 1) := by decide +kernel
theorem dX8_takeOut_30 : decode cX8_takeOut 30 = .ok (.getfield 39, 3) := by decide +kernel
theorem dX8_takeOut_33 : decode cX8_takeOut 33 = .ok (.iload_n 2, 1) := by decide +kernel
theorem dX8_takeOut_34 : decode cX8_takeOut 34 = .ok (.aload_n 0, 1) := by decide +kernel
theorem dX8_takeOut_35 : decode cX8_takeOut 35 = .ok (.getfield 26, 3) := by decide +kernel
theorem dX8_takeOut_38 : decode cX8_takeOut 38 = .ok (.bipush 24, 2) := by decide +kernel
theorem dX8_takeOut_40 : decode cX8_takeOut 40 = .ok (.iload_n 1, 1) := by decide +kernel
theorem dX8_takeOut_41 : decode cX8_takeOut 41 = .ok (.imul, 1) := by decide +kernel
theorem dX8_takeOut_42 : decode cX8_takeOut 42 = .ok (.iload_n 2, 1) := by decide +kernel
theorem dX8_takeOut_43 : decode cX8_takeOut 43 = .ok (.iadd, 1) := by decide +kernel
theorem dX8_takeOut_44 : decode cX8_takeOut 44 = .ok (.daload, 1) := by decide +kernel
theorem dX8_takeOut_45 : decode cX8_takeOut 45 = .ok (.dastore, 1) := by decide +kernel
theorem dX8_takeOut_46 : decode cX8_takeOut 46 = .ok (.iinc 2 1, 3) := by decide +kernel
theorem dX8_takeOut_49 : decode cX8_takeOut 49 = .ok (.goto (-47), 3) := by decide +kernel
theorem dX8_takeOut_52 : decode cX8_takeOut 52 = .ok (.return_, 1) := by decide +kernel
theorem dX8_sort_0 : decode cX8_sort 0 = .ok (.aload_n 0, 1) := by decide +kernel
theorem dX8_sort_1 : decode cX8_sort 1 = .ok (.iconst 0, 1) := by decide +kernel
theorem dX8_sort_2 : decode cX8_sort 2 = .ok (.putfield 48, 3) := by decide +kernel
theorem dX8_sort_5 : decode cX8_sort 5 = .ok (.iload_n 1, 1) := by decide +kernel
theorem dX8_sort_6 : decode cX8_sort 6 = .ok (.invokestatic 102, 3) := by decide +kernel
theorem dX8_sort_9 : decode cX8_sort 9 = .ok (.ifCond .ne 9, 3) := by decide +kernel
theorem dX8_sort_12 : decode cX8_sort 12 = .ok (.aload_n 0, 1) := by decide +kernel
theorem dX8_sort_13 : decode cX8_sort 13 = .ok (.iconst 1, 1) := by decide +kernel
theorem dX8_sort_14 : decode cX8_sort 14 = .ok (.invokevirtual 105, 3) := by decide +kernel
theorem dX8_sort_17 : decode cX8_sort 17 = .ok (.ireturn, 1) := by decide +kernel
theorem dX8_sort_18 : decode cX8_sort 18 = .ok (.aload_n 0, 1) := by decide +kernel
theorem dX8_sort_19 : decode cX8_sort 19 = .ok (.iload_n 1, 1) := by decide +kernel
theorem dX8_sort_20 : decode cX8_sort 20 = .ok (.invokevirtual 111, 3) := by decide +kernel
theorem dX8_sort_23 : decode cX8_sort 23 = .ok (.istore_n 2, 1) := by decide +kernel
theorem dX8_sort_24 : decode cX8_sort 24 = .ok (.iload_n 2, 1) := by decide +kernel
theorem dX8_sort_25 : decode cX8_sort 25 = .ok (.ifCond .le 9, 3) := by decide +kernel
theorem dX8_sort_28 : decode cX8_sort 28 = .ok (.aload_n 0, 1) := by decide +kernel
theorem dX8_sort_29 : decode cX8_sort 29 = .ok (.iload_n 2, 1) := by decide +kernel
theorem dX8_sort_30 : decode cX8_sort 30 = .ok (.invokevirtual 105, 3) := by decide +kernel
theorem dX8_sort_33 : decode cX8_sort 33 = .ok (.ireturn, 1) := by decide +kernel
theorem dX8_sort_34 : decode cX8_sort 34 = .ok (.aload_n 0, 1) := by decide +kernel
theorem dX8_sort_35 : decode cX8_sort 35 = .ok (.iload_n 1, 1) := by decide +kernel
theorem dX8_sort_36 : decode cX8_sort 36 = .ok (.invokevirtual 56, 3) := by decide +kernel
theorem dX8_sort_39 : decode cX8_sort 39 = .ok (.istore_n 3, 1) := by decide +kernel
theorem dX8_sort_40 : decode cX8_sort 40 = .ok (.aload_n 0, 1) := by decide +kernel
theorem dX8_sort_41 : decode cX8_sort 41 = .ok (.iload_n 3, 1) := by decide +kernel
theorem dX8_sort_42 : decode cX8_sort 42 = .ok (.invokevirtual 180, 3) := by decide +kernel
theorem dX8_sort_45 : decode cX8_sort 45 = .ok (.iconst 1, 1) := by decide +kernel
theorem dX8_sort_46 : decode cX8_sort 46 = .ok (.istore 4, 2) := by decide +kernel
theorem dX8_sort_48 : decode cX8_sort 48 = .ok (.iload 4, 2) := by decide +kernel
theorem dX8_sort_50 : decode cX8_sort 50 = .ok (.aload_n 0, 1) := by decide +kernel
theorem dX8_sort_51 : decode cX8_sort 51 = .ok (.getfield 16, 3) := by decide +kernel
theorem dX8_sort_54 : decode cX8_sort 54 = .ok (.iload_n 3, 1) := by decide +kernel
theorem dX8_sort_55 : decode cX8_sort 55 = .ok (.iaload, 1) := by decide +kernel
theorem dX8_sort_56 : decode cX8_sort 56 = .ok (.if_icmp .ge 54, 3) := by decide +kernel
theorem dX8_sort_59 : decode cX8_sort 59 = .ok (.iconst 1, 1) := by decide +kernel
theorem dX8_sort_60 : decode cX8_sort 60 = .ok (.istore 5, 2) := by decide +kernel
theorem dX8_sort_62 : decode cX8_sort 62 = .ok (.iload 5, 2) := by decide +kernel
theorem dX8_sort_64 : decode cX8_sort 64 = .ok (.aload_n 0, 1) := by decide +kernel
theorem dX8_sort_65 : decode cX8_sort 65 = .ok (.getfield 16, 3) := by decide +kernel
theorem dX8_sort_68 : decode cX8_sort 68 = .ok (.iload_n 3, 1) := by decide +kernel
theorem dX8_sort_69 : decode cX8_sort 69 = .ok (.iaload, 1) := by decide +kernel
theorem dX8_sort_70 : decode cX8_sort 70 = .ok (.if_icmp .ge 34, 3) := by decide +kernel
theorem dX8_sort_73 : decode cX8_sort 73 = .ok (.aload_n 0, 1) := by decide +kernel
theorem dX8_sort_74 : decode cX8_sort 74 = .ok (.iload_n 3, 1) := by decide +kernel
theorem dX8_sort_75 : decode cX8_sort 75 = .ok (.iload 5, 2) := by decide +kernel
theorem dX8_sort_77 : decode cX8_sort 77 = .ok (.iload 5, 2) := by decide +kernel
theorem dX8_sort_79 : decode cX8_sort 79 = .ok (.iconst 1, 1) := by decide +kernel
theorem dX8_sort_80 : decode cX8_sort 80 = .ok (.isub, 1) := by decide +kernel
theorem dX8_sort_81 : decode cX8_sort 81 = .ok (.invokevirtual 183, 3) := by decide +kernel
theorem dX8_sort_84 : decode cX8_sort 84 = .ok (.ifCond .eq 14, 3) := by decide +kernel
theorem dX8_sort_87 : decode cX8_sort 87 = .ok (.aload_n 0, 1) := by decide +kernel
theorem dX8_sort_88 : decode cX8_sort 88 = .ok (.iload_n 3, 1) := by decide +kernel
theorem dX8_sort_89 : decode cX8_sort 89 = .ok (.iload 5, 2) := by decide +kernel
theorem dX8_sort_91 : decode cX8_sort 91 = .ok (.iload 5, 2) := by decide +kernel
theorem dX8_sort_93 : decode cX8_sort 93 = .ok (.iconst 1, 1) := by decide +kernel
theorem dX8_sort_94 : decode cX8_sort 94 = .ok (.isub, 1) := by decide +kernel
theorem dX8_sort_95 : decode cX8_sort 95 = .ok (.invokevirtual 186, 3) := by decide +kernel
theorem dX8_sort_98 : decode cX8_sort 98 = .ok (.iinc 5 1, 3) := by decide +kernel
theorem dX8_sort_101 : decode cX8_sort 101 = .ok (.goto (-39), 3) := by decide +kernel
theorem dX8_sort_104 : decode cX8_sort 104 = .ok (.iinc 4 1, 3) := by decide +kernel
theorem dX8_sort_107 : decode cX8_sort 107 = .ok (.goto (-59), 3) := by decide +kernel
theorem dX8_sort_110 : decode cX8_sort 110 = .ok (.aload_n 0, 1) := by decide +kernel
theorem dX8_sort_111 : decode cX8_sort 111 = .ok (.iload_n 3, 1) := by decide +kernel
theorem dX8_sort_112 : decode cX8_sort 112 = .ok (.invokevirtual 189, 3) := by decide +kernel
theorem dX8_sort_115 : decode cX8_sort 115 = .ok (.ireturn, 1) := by decide +kernel
theorem dX8_turn_0 : decode cX8_turn 0 = .ok (.aload_n 0, 1) := by decide +kernel
theorem dX8_turn_1 : decode cX8_turn 1 = .ok (.iconst 0, 1) := by decide +kernel
theorem dX8_turn_2 : decode cX8_turn 2 = .ok (.putfield 48, 3) := by decide +kernel
theorem dX8_turn_5 : decode cX8_turn 5 = .ok (.iload_n 1, 1) := by decide +kernel
theorem dX8_turn_6 : decode cX8_turn 6 = .ok (.invokestatic 102, 3) := by decide +kernel
theorem dX8_turn_9 : decode cX8_turn 9 = .ok (.ifCond .ne 9, 3) := by decide +kernel
theorem dX8_turn_12 : decode cX8_turn 12 = .ok (.aload_n 0, 1) := by decide +kernel
theorem dX8_turn_13 : decode cX8_turn 13 = .ok (.iconst 1, 1) := by decide +kernel
theorem dX8_turn_14 : decode cX8_turn 14 = .ok (.invokevirtual 105, 3) := by decide +kernel
theorem dX8_turn_17 : decode cX8_turn 17 = .ok (.ireturn, 1) := by decide +kernel
theorem dX8_turn_18 : decode cX8_turn 18 = .ok (.aload_n 0, 1) := by decide +kernel
theorem dX8_turn_19 : decode cX8_turn 19 = .ok (.iload_n 1, 1) := by decide +kernel
theorem dX8_turn_20 : decode cX8_turn 20 = .ok (.invokevirtual 111, 3) := by decide +kernel
theorem dX8_turn_23 : decode cX8_turn 23 = .ok (.istore_n 3, 1) := by decide +kernel
theorem dX8_turn_24 : decode cX8_turn 24 = .ok (.iload_n 3, 1) := by decide +kernel
theorem dX8_turn_25 : decode cX8_turn 25 = .ok (.ifCond .le 9, 3) := by decide +kernel
theorem dX8_turn_28 : decode cX8_turn 28 = .ok (.aload_n 0, 1) := by decide +kernel
theorem dX8_turn_29 : decode cX8_turn 29 = .ok (.iload_n 3, 1) := by decide +kernel
theorem dX8_turn_30 : decode cX8_turn 30 = .ok (.invokevirtual 105, 3) := by decide +kernel
theorem dX8_turn_33 : decode cX8_turn 33 = .ok (.ireturn, 1) := by decide +kernel
theorem dX8_turn_34 : decode cX8_turn 34 = .ok (.aload_n 0, 1) := by decide +kernel
theorem dX8_turn_35 : decode cX8_turn 35 = .ok (.iload_n 1, 1) := by decide +kernel
theorem dX8_turn_36 : decode cX8_turn 36 = .ok (.invokevirtual 56, 3) := by decide +kernel
theorem dX8_turn_39 : decode cX8_turn 39 = .ok (.istore 4, 2) := by decide +kernel
theorem dX8_turn_41 : decode cX8_turn 41 = .ok (.aload_n 0, 1) := by decide +kernel
theorem dX8_turn_42 : decode cX8_turn 42 = .ok (.getfield 16, 3) := by decide +kernel
theorem dX8_turn_45 : decode cX8_turn 45 = .ok (.iload 4, 2) := by decide +kernel
theorem dX8_turn_47 : decode cX8_turn 47 = .ok (.iaload, 1) := by decide +kernel
theorem dX8_turn_48 : decode cX8_turn 48 = .ok (.istore 5, 2) := by decide +kernel
theorem dX8_turn_50 : decode cX8_turn 50 = .ok (.aload_n 0, 1) := by decide +kernel
theorem dX8_turn_51 : decode cX8_turn 51 = .ok (.iload 4, 2) := by decide +kernel
theorem dX8_turn_53 : decode cX8_turn 53 = .ok (.invokevirtual 180, 3) := by decide +kernel
theorem dX8_turn_56 : decode cX8_turn 56 = .ok (.iconst 0, 1) := by decide +kernel
theorem dX8_turn_57 : decode cX8_turn 57 = .ok (.istore 6, 2) := by decide +kernel
theorem dX8_turn_59 : decode cX8_turn 59 = .ok (.iload 6, 2) := by decide +kernel
theorem dX8_turn_61 : decode cX8_turn 61 = .ok (.iload 5, 2) := by decide +kernel
theorem dX8_turn_63 : decode cX8_turn 63 = .ok (.if_icmp .ge 64, 3) := by decide +kernel
theorem dX8_turn_66 : decode cX8_turn 66 = .ok (.iload 6, 2) := by decide +kernel
theorem dX8_turn_68 : decode cX8_turn 68 = .ok (.iload_n 2, 1) := by decide +kernel
theorem dX8_turn_69 : decode cX8_turn 69 = .ok (.iload 5, 2) := by decide +kernel
theorem dX8_turn_71 : decode cX8_turn 71 = .ok (.irem, 1) := by decide +kernel
theorem dX8_turn_72 : decode cX8_turn 72 = .ok (.iadd, 1) := by decide +kernel
theorem dX8_turn_73 : decode cX8_turn 73 = .ok (.iload 5, 2) := by decide +kernel
theorem dX8_turn_75 : decode cX8_turn 75 = .ok (.iadd, 1) := by decide +kernel
theorem dX8_turn_76 : decode cX8_turn 76 = .ok (.iload 5, 2) := by decide +kernel
theorem dX8_turn_78 : decode cX8_turn 78 = .ok (.irem, 1) := by decide +kernel
theorem dX8_turn_79 : decode cX8_turn 79 = .ok (.istore 7, 2) := by decide +kernel
theorem dX8_turn_81 : decode cX8_turn 81 = .ok (.aload_n 0, 1) := by decide +kernel
theorem dX8_turn_82 : decode cX8_turn 82 = .ok (.getfield 22, 3) := by decide +kernel
theorem dX8_turn_85 : decode cX8_turn 85 = .ok (.bipush 24, 2) := by decide +kernel
theorem dX8_turn_87 : decode cX8_turn 87 = .ok (.iload 4, 2) := by decide +kernel
theorem dX8_turn_89 : decode cX8_turn 89 = .ok (.imul, 1) := by decide +kernel
theorem dX8_turn_90 : decode cX8_turn 90 = .ok (.iload 7, 2) := by decide +kernel
theorem dX8_turn_92 : decode cX8_turn 92 = .ok (.iadd, 1) := by decide +kernel
theorem dX8_turn_93 : decode cX8_turn 93 = .ok (.aload_n 0, 1) := by decide +kernel
theorem dX8_turn_94 : decode cX8_turn 94 = .ok (.getfield 36, 3) := by decide +kernel
theorem dX8_turn_97 : decode cX8_turn 97 = .ok (.iload 6, 2) := by decide +kernel
theorem dX8_turn_99 : decode cX8_turn 99 = .ok (.laload, 1) := by decide +kernel
theorem dX8_turn_100 : decode cX8_turn 100 = .ok (.lastore, 1) := by decide +kernel
theorem dX8_turn_101 : decode cX8_turn 101 = .ok (.aload_n 0, 1) := by decide +kernel
theorem dX8_turn_102 : decode cX8_turn 102 = .ok (.getfield 26, 3) := by decide +kernel
theorem dX8_turn_105 : decode cX8_turn 105 = .ok (.bipush 24, 2) := by decide +kernel
theorem dX8_turn_107 : decode cX8_turn 107 = .ok (.iload 4, 2) := by decide +kernel
theorem dX8_turn_109 : decode cX8_turn 109 = .ok (.imul, 1) := by decide +kernel
theorem dX8_turn_110 : decode cX8_turn 110 = .ok (.iload 7, 2) := by decide +kernel
theorem dX8_turn_112 : decode cX8_turn 112 = .ok (.iadd, 1) := by decide +kernel
theorem dX8_turn_113 : decode cX8_turn 113 = .ok (.aload_n 0, 1) := by decide +kernel
theorem dX8_turn_114 : decode cX8_turn 114 = .ok (.getfield 39, 3) := by decide +kernel
theorem dX8_turn_117 : decode cX8_turn 117 = .ok (.iload 6, 2) := by decide +kernel
theorem dX8_turn_119 : decode cX8_turn 119 = .ok (.daload, 1) := by decide +kernel
theorem dX8_turn_120 : decode cX8_turn 120 = .ok (.dastore, 1) := by decide +kernel
theorem dX8_turn_121 : decode cX8_turn 121 = .ok (.iinc 6 1, 3) := by decide +kernel
theorem dX8_turn_124 : decode cX8_turn 124 = .ok (.goto (-65), 3) := by decide +kernel
theorem dX8_turn_127 : decode cX8_turn 127 = .ok (.iload 5, 2) := by decide +kernel
theorem dX8_turn_129 : decode cX8_turn 129 = .ok (.ireturn, 1) := by decide +kernel
theorem dX8_sum_0 : decode cX8_sum 0 = .ok (.aload_n 0, 1) := by decide +kernel
theorem dX8_sum_1 : decode cX8_sum 1 = .ok (.iconst 0, 1) := by decide +kernel
theorem dX8_sum_2 : decode cX8_sum 2 = .ok (.putfield 48, 3) := by decide +kernel
theorem dX8_sum_5 : decode cX8_sum 5 = .ok (.iload_n 1, 1) := by decide +kernel
theorem dX8_sum_6 : decode cX8_sum 6 = .ok (.invokestatic 102, 3) := by decide +kernel
theorem dX8_sum_9 : decode cX8_sum 9 = .ok (.ifCond .ne 10, 3) := by decide +kernel
theorem dX8_sum_12 : decode cX8_sum 12 = .ok (.aload_n 0, 1) := by decide +kernel
theorem dX8_sum_13 : decode cX8_sum 13 = .ok (.iconst 1, 1) := by decide +kernel
theorem dX8_sum_14 : decode cX8_sum 14 = .ok (.invokevirtual 105, 3) := by decide +kernel
theorem dX8_sum_17 : decode cX8_sum 17 = .ok (.i2l, 1) := by decide +kernel
theorem dX8_sum_18 : decode cX8_sum 18 = .ok (.lreturn, 1) := by decide +kernel
theorem dX8_sum_19 : decode cX8_sum 19 = .ok (.aload_n 0, 1) := by decide +kernel
theorem dX8_sum_20 : decode cX8_sum 20 = .ok (.iload_n 1, 1) := by decide +kernel
theorem dX8_sum_21 : decode cX8_sum 21 = .ok (.invokevirtual 111, 3) := by decide +kernel
theorem dX8_sum_24 : decode cX8_sum 24 = .ok (.istore_n 2, 1) := by decide +kernel
theorem dX8_sum_25 : decode cX8_sum 25 = .ok (.iload_n 2, 1) := by decide +kernel
theorem dX8_sum_26 : decode cX8_sum 26 = .ok (.ifCond .le 10, 3) := by decide +kernel
theorem dX8_sum_29 : decode cX8_sum 29 = .ok (.aload_n 0, 1) := by decide +kernel
theorem dX8_sum_30 : decode cX8_sum 30 = .ok (.iload_n 2, 1) := by decide +kernel
theorem dX8_sum_31 : decode cX8_sum 31 = .ok (.invokevirtual 105, 3) := by decide +kernel
theorem dX8_sum_34 : decode cX8_sum 34 = .ok (.i2l, 1) := by decide +kernel
theorem dX8_sum_35 : decode cX8_sum 35 = .ok (.lreturn, 1) := by decide +kernel
theorem dX8_sum_36 : decode cX8_sum 36 = .ok (.aload_n 0, 1) := by decide +kernel
theorem dX8_sum_37 : decode cX8_sum 37 = .ok (.iload_n 1, 1) := by decide +kernel
theorem dX8_sum_38 : decode cX8_sum 38 = .ok (.invokevirtual 56, 3) := by decide +kernel
theorem dX8_sum_41 : decode cX8_sum 41 = .ok (.istore_n 3, 1) := by decide +kernel
theorem dX8_sum_42 : decode cX8_sum 42 = .ok (.aload_n 0, 1) := by decide +kernel
theorem dX8_sum_43 : decode cX8_sum 43 = .ok (.getfield 13, 3) := by decide +kernel
theorem dX8_sum_46 : decode cX8_sum 46 = .ok (.iload_n 3, 1) := by decide +kernel
theorem dX8_sum_47 : decode cX8_sum 47 = .ok (.iaload, 1) := by decide +kernel
theorem dX8_sum_48 : decode cX8_sum 48 = .ok (.iconst 1, 1) := by decide +kernel
theorem dX8_sum_49 : decode cX8_sum 49 = .ok (.iconst 5, 1) := by decide +kernel
theorem dX8_sum_50 : decode cX8_sum 50 = .ok (.invokestatic 52, 3) := by decide +kernel
theorem dX8_sum_53 : decode cX8_sum 53 = .ok (.ifCond .ne 11, 3) := by decide +kernel
theorem dX8_sum_56 : decode cX8_sum 56 = .ok (.aload_n 0, 1) := by decide +kernel
theorem dX8_sum_57 : decode cX8_sum 57 = .ok (.bipush 6, 2) := by decide +kernel
theorem dX8_sum_59 : decode cX8_sum 59 = .ok (.invokevirtual 105, 3) := by decide +kernel
theorem dX8_sum_62 : decode cX8_sum 62 = .ok (.i2l, 1) := by decide +kernel
theorem dX8_sum_63 : decode cX8_sum 63 = .ok (.lreturn, 1) := by decide +kernel
theorem dX8_sum_64 : decode cX8_sum 64 = .ok (.lconst 0, 1) := by decide +kernel
theorem dX8_sum_65 : decode cX8_sum 65 = .ok (.lstore 4, 2) := by decide +kernel
theorem dX8_sum_67 : decode cX8_sum 67 = .ok (.iconst 0, 1) := by decide +kernel
theorem dX8_sum_68 : decode cX8_sum 68 = .ok (.istore 6, 2) := by decide +kernel
theorem dX8_sum_70 : decode cX8_sum 70 = .ok (.iload 6, 2) := by decide +kernel
theorem dX8_sum_72 : decode cX8_sum 72 = .ok (.aload_n 0, 1) := by decide +kernel
theorem dX8_sum_73 : decode cX8_sum 73 = .ok (.getfield 16, 3) := by decide +kernel
theorem dX8_sum_76 : decode cX8_sum 76 = .ok (.iload_n 3, 1) := by decide +kernel
theorem dX8_sum_77 : decode cX8_sum 77 = .ok (.iaload, 1) := by decide +kernel
theorem dX8_sum_78 : decode cX8_sum 78 = .ok (.if_icmp .ge 26, 3) := by decide +kernel
theorem dX8_sum_81 : decode cX8_sum 81 = .ok (.lload 4, 2) := by decide +kernel
theorem dX8_sum_83 : decode cX8_sum 83 = .ok (.aload_n 0, 1) := by decide +kernel
theorem dX8_sum_84 : decode cX8_sum 84 = .ok (.getfield 22, 3) := by decide +kernel
theorem dX8_sum_87 : decode cX8_sum 87 = .ok (.bipush 24, 2) := by decide +kernel
theorem dX8_sum_89 : decode cX8_sum 89 = .ok (.iload_n 3, 1) := by decide +kernel
theorem dX8_sum_90 : decode cX8_sum 90 = .ok (.imul, 1) := by decide +kernel
theorem dX8_sum_91 : decode cX8_sum 91 = .ok (.iload 6, 2) := by decide +kernel
theorem dX8_sum_93 : decode cX8_sum 93 = .ok (.iadd, 1) := by decide +kernel
theorem dX8_sum_94 : decode cX8_sum 94 = .ok (.laload, 1) := by decide +kernel
theorem dX8_sum_95 : decode cX8_sum 95 = .ok (.ladd, 1) := by decide +kernel
theorem dX8_sum_96 : decode cX8_sum 96 = .ok (.lstore 4, 2) := by decide +kernel
theorem dX8_sum_98 : decode cX8_sum 98 = .ok (.iinc 6 1, 3) := by decide +kernel
theorem dX8_sum_101 : decode cX8_sum 101 = .ok (.goto (-31), 3) := by decide +kernel
theorem dX8_sum_104 : decode cX8_sum 104 = .ok (.lload 4, 2) := by decide +kernel
theorem dX8_sum_106 : decode cX8_sum 106 = .ok (.lreturn, 1) := by decide +kernel
theorem dX8_total_0 : decode cX8_total 0 = .ok (.aload_n 0, 1) := by decide +kernel
theorem dX8_total_1 : decode cX8_total 1 = .ok (.iconst 0, 1) := by decide +kernel
theorem dX8_total_2 : decode cX8_total 2 = .ok (.putfield 48, 3) := by decide +kernel
theorem dX8_total_5 : decode cX8_total 5 = .ok (.iload_n 1, 1) := by decide +kernel
theorem dX8_total_6 : decode cX8_total 6 = .ok (.invokestatic 102, 3) := by decide +kernel
theorem dX8_total_9 : decode cX8_total 9 = .ok (.ifCond .ne 10, 3) := by decide +kernel
theorem dX8_total_12 : decode cX8_total 12 = .ok (.aload_n 0, 1) := by decide +kernel
theorem dX8_total_13 : decode cX8_total 13 = .ok (.iconst 1, 1) := by decide +kernel
theorem dX8_total_14 : decode cX8_total 14 = .ok (.invokevirtual 105, 3) := by decide +kernel
theorem dX8_total_17 : decode cX8_total 17 = .ok (.i2d, 1) := by decide +kernel
theorem dX8_total_18 : decode cX8_total 18 = .ok (.dreturn, 1) := by decide +kernel
theorem dX8_total_19 : decode cX8_total 19 = .ok (.aload_n 0, 1) := by decide +kernel
theorem dX8_total_20 : decode cX8_total 20 = .ok (.iload_n 1, 1) := by decide +kernel
theorem dX8_total_21 : decode cX8_total 21 = .ok (.invokevirtual 111, 3) := by decide +kernel
theorem dX8_total_24 : decode cX8_total 24 = .ok (.istore_n 2, 1) := by decide +kernel
theorem dX8_total_25 : decode cX8_total 25 = .ok (.iload_n 2, 1) := by decide +kernel
theorem dX8_total_26 : decode cX8_total 26 = .ok (.ifCond .le 10, 3) := by decide +kernel
theorem dX8_total_29 : decode cX8_total 29 = .ok (.aload_n 0, 1) := by decide +kernel
theorem dX8_total_30 : decode cX8_total 30 = .ok (.iload_n 2, 1) := by decide +kernel
theorem dX8_total_31 : decode cX8_total 31 = .ok (.invokevirtual 105, 3) := by decide +kernel
theorem dX8_total_34 : decode cX8_total 34 = .ok (.i2d, 1) := by decide +kernel
theorem dX8_total_35 : decode cX8_total 35 = .ok (.dreturn, 1) := by decide +kernel
theorem dX8_total_36 : decode cX8_total 36 = .ok (.aload_n 0, 1) := by decide +kernel
theorem dX8_total_37 : decode cX8_total 37 = .ok (.iload_n 1, 1) := by decide +kernel
theorem dX8_total_38 : decode cX8_total 38 = .ok (.invokevirtual 56, 3) := by decide +kernel
theorem dX8_total_41 : decode cX8_total 41 = .ok (.istore_n 3, 1) := by decide +kernel
theorem dX8_total_42 : decode cX8_total 42 = .ok (.aload_n 0, 1) := by decide +kernel
theorem dX8_total_43 : decode cX8_total 43 = .ok (.getfield 13, 3) := by decide +kernel
theorem dX8_total_46 : decode cX8_total 46 = .ok (.iload_n 3, 1) := by decide +kernel
theorem dX8_total_47 : decode cX8_total 47 = .ok (.iaload, 1) := by decide +kernel
theorem dX8_total_48 : decode cX8_total 48 = .ok (.iconst 1, 1) := by decide +kernel
theorem dX8_total_49 : decode cX8_total 49 = .ok (.bipush 7, 2) := by decide +kernel
theorem dX8_total_51 : decode cX8_total 51 = .ok (.invokestatic 52, 3) := by decide +kernel
theorem dX8_total_54 : decode cX8_total 54 = .ok (.ifCond .ne 11, 3) := by decide +kernel
theorem dX8_total_57 : decode cX8_total 57 = .ok (.aload_n 0, 1) := by decide +kernel
theorem dX8_total_58 : decode cX8_total 58 = .ok (.bipush 6, 2) := by decide +kernel
theorem dX8_total_60 : decode cX8_total 60 = .ok (.invokevirtual 105, 3) := by decide +kernel
theorem dX8_total_63 : decode cX8_total 63 = .ok (.i2d, 1) := by decide +kernel
theorem dX8_total_64 : decode cX8_total 64 = .ok (.dreturn, 1) := by decide +kernel
theorem dX8_total_65 : decode cX8_total 65 = .ok (.dconst 0, 1) := by decide +kernel
theorem dX8_total_66 : decode cX8_total 66 = .ok (.dstore 4, 2) := by decide +kernel
theorem dX8_total_68 : decode cX8_total 68 = .ok (.iconst 0, 1) := by decide +kernel
theorem dX8_total_69 : decode cX8_total 69 = .ok (.istore 6, 2) := by decide +kernel
theorem dX8_total_71 : decode cX8_total 71 = .ok (.iload 6, 2) := by decide +kernel
theorem dX8_total_73 : decode cX8_total 73 = .ok (.aload_n 0, 1) := by decide +kernel
theorem dX8_total_74 : decode cX8_total 74 = .ok (.getfield 16, 3) := by decide +kernel
theorem dX8_total_77 : decode cX8_total 77 = .ok (.iload_n 3, 1) := by decide +kernel
theorem dX8_total_78 : decode cX8_total 78 = .ok (.iaload, 1) := by decide +kernel
theorem dX8_total_79 : decode cX8_total 79 = .ok (.if_icmp .ge 47, 3) := by decide +kernel
theorem dX8_total_82 : decode cX8_total 82 = .ok (.dload 4, 2) := by decide +kernel
theorem dX8_total_84 : decode cX8_total 84 = .ok (.aload_n 0, 1) := by decide +kernel
theorem dX8_total_85 : decode cX8_total 85 = .ok (.getfield 13, 3) := by decide +kernel
theorem dX8_total_88 : decode cX8_total 88 = .ok (.iload_n 3, 1) := by decide +kernel
theorem dX8_total_89 : decode cX8_total 89 = .ok (.iaload, 1) := by decide +kernel
theorem dX8_total_90 : decode cX8_total 90 = .ok (.aload_n 0, 1) := by decide +kernel
theorem dX8_total_91 : decode cX8_total 91 = .ok (.getfield 22, 3) := by decide +kernel
theorem dX8_total_94 : decode cX8_total 94 = .ok (.bipush 24, 2) := by decide +kernel
theorem dX8_total_96 : decode cX8_total 96 = .ok (.iload_n 3, 1) := by decide +kernel
theorem dX8_total_97 : decode cX8_total 97 = .ok (.imul, 1) := by decide +kernel
theorem dX8_total_98 : decode cX8_total 98 = .ok (.iload 6, 2) := by decide +kernel
theorem dX8_total_100 : decode cX8_total 100 = .ok (.iadd, 1) := by decide +kernel
theorem dX8_total_101 : decode cX8_total 101 = .ok (.laload, 1) := by decide +kernel
theorem dX8_total_102 : decode cX8_total 102 = .ok (.aload_n 0, 1) := by decide +kernel
theorem dX8_total_103 : decode cX8_total 103 = .ok (.getfield 26, 3) := by decide +kernel
theorem dX8_total_106 : decode cX8_total 106 = .ok (.bipush 24, 2) := by decide +kernel
theorem dX8_total_108 : decode cX8_total 108 = .ok (.iload_n 3, 1) := by decide +kernel
theorem dX8_total_109 : decode cX8_total 109 = .ok (.imul, 1) := by decide +kernel
theorem dX8_total_110 : decode cX8_total 110 = .ok (.iload 6, 2) := by decide +kernel
theorem dX8_total_112 : decode cX8_total 112 = .ok (.iadd, 1) := by decide +kernel
theorem dX8_total_113 : decode cX8_total 113 = .ok (.daload, 1) := by decide +kernel
theorem dX8_total_114 : decode cX8_total 114 = .ok (.invokestatic 83, 3) := by decide +kernel
theorem dX8_total_117 : decode cX8_total 117 = .ok (.dadd, 1) := by decide +kernel
theorem dX8_total_118 : decode cX8_total 118 = .ok (.dstore 4, 2) := by decide +kernel
theorem dX8_total_120 : decode cX8_total 120 = .ok (.iinc 6 1, 3) := by decide +kernel
theorem dX8_total_123 : decode cX8_total 123 = .ok (.goto (-52), 3) := by decide +kernel
theorem dX8_total_126 : decode cX8_total 126 = .ok (.dload 4, 2) := by decide +kernel
theorem dX8_total_128 : decode cX8_total 128 = .ok (.dreturn, 1) := by decide +kernel
theorem dX8_find_0 : decode cX8_find 0 = .ok (.aload_n 0, 1) := by decide +kernel
theorem dX8_find_1 : decode cX8_find 1 = .ok (.iconst 0, 1) := by decide +kernel
theorem dX8_find_2 : decode cX8_find 2 = .ok (.putfield 48, 3) := by decide +kernel
theorem dX8_find_5 : decode cX8_find 5 = .ok (.iload_n 1, 1) := by decide +kernel
theorem dX8_find_6 : decode cX8_find 6 = .ok (.invokestatic 102, 3) := by decide +kernel
theorem dX8_find_9 : decode cX8_find 9 = .ok (.ifCond .eq 13, 3) := by decide +kernel
theorem dX8_find_12 : decode cX8_find 12 = .ok (.iload_n 3, 1) := by decide +kernel
theorem dX8_find_13 : decode cX8_find 13 = .ok (.iconst 0, 1) := by decide +kernel
theorem dX8_find_14 : decode cX8_find 14 = .ok (.bipush 7, 2) := by decide +kernel
theorem dX8_find_16 : decode cX8_find 16 = .ok (.invokestatic 52, 3) := by decide +kernel
theorem dX8_find_19 : decode cX8_find 19 = .ok (.ifCond .ne 9, 3) := by decide +kernel
theorem dX8_find_22 : decode cX8_find 22 = .ok (.aload_n 0, 1) := by decide +kernel
theorem dX8_find_23 : decode cX8_find 23 = .ok (.iconst 1, 1) := by decide +kernel
theorem dX8_find_24 : decode cX8_find 24 = .ok (.invokevirtual 105, 3) := by decide +kernel
theorem dX8_find_27 : decode cX8_find 27 = .ok (.ireturn, 1) := by decide +kernel
theorem dX8_find_28 : decode cX8_find 28 = .ok (.aload_n 0, 1) := by decide +kernel
theorem dX8_find_29 : decode cX8_find 29 = .ok (.iload_n 1, 1) := by decide +kernel
theorem dX8_find_30 : decode cX8_find 30 = .ok (.invokevirtual 111, 3) := by decide +kernel
theorem dX8_find_33 : decode cX8_find 33 = .ok (.istore 6, 2) := by decide +kernel
theorem dX8_find_35 : decode cX8_find 35 = .ok (.iload 6, 2) := by decide +kernel
theorem dX8_find_37 : decode cX8_find 37 = .ok (.ifCond .le 10, 3) := by decide +kernel
theorem dX8_find_40 : decode cX8_find 40 = .ok (.aload_n 0, 1) := by decide +kernel
theorem dX8_find_41 : decode cX8_find 41 = .ok (.iload 6, 2) := by decide +kernel
theorem dX8_find_43 : decode cX8_find 43 = .ok (.invokevirtual 105, 3) := by decide +kernel
theorem dX8_find_46 : decode cX8_find 46 = .ok (.ireturn, 1) := by decide +kernel
theorem dX8_find_47 : decode cX8_find 47 = .ok (.aload_n 0, 1) := by decide +kernel
theorem dX8_find_48 : decode cX8_find 48 = .ok (.iload_n 1, 1) := by decide +kernel
theorem dX8_find_49 : decode cX8_find 49 = .ok (.invokevirtual 56, 3) := by decide +kernel
theorem dX8_find_52 : decode cX8_find 52 = .ok (.istore 7, 2) := by decide +kernel
theorem dX8_find_54 : decode cX8_find 54 = .ok (.aload_n 0, 1) := by decide +kernel
theorem dX8_find_55 : decode cX8_find 55 = .ok (.iload 7, 2) := by decide +kernel
theorem dX8_find_57 : decode cX8_find 57 = .ok (.invokevirtual 91, 3) := by decide +kernel
theorem dX8_find_60 : decode cX8_find 60 = .ok (.ifCond .ne 10, 3) := by decide +kernel
theorem dX8_find_63 : decode cX8_find 63 = .ok (.aload_n 0, 1) := by decide +kernel
theorem dX8_find_64 : decode cX8_find 64 = .ok (.bipush 6, 2) := by decide +kernel
theorem dX8_find_66 : decode cX8_find 66 = .ok (.invokevirtual 105, 3) := by decide +kernel
theorem dX8_find_69 : decode cX8_find 69 = .ok (.ireturn, 1) := by decide +kernel
theorem dX8_find_70 : decode cX8_find 70 = .ok (.aload_n 0, 1) := by decide +kernel
theorem dX8_find_71 : decode cX8_find 71 = .ok (.iload_n 3, 1) := by decide +kernel
theorem dX8_find_72 : decode cX8_find 72 = .ok (.iload 4, 2) := by decide +kernel
theorem dX8_find_74 : decode cX8_find 74 = .ok (.iload 5, 2) := by decide +kernel
theorem dX8_find_76 : decode cX8_find 76 = .ok (.invokevirtual 124, 3) := by decide +kernel
theorem dX8_find_79 : decode cX8_find 79 = .ok (.iload_n 2, 1) := by decide +kernel
theorem dX8_find_80 : decode cX8_find 80 = .ok (.ifCond .ge 7, 3) := by decide +kernel
theorem dX8_find_83 : decode cX8_find 83 = .ok (.iconst 0, 1) := by decide +kernel
theorem dX8_find_84 : decode cX8_find 84 = .ok (.goto 4, 3) := by decide +kernel
theorem dX8_find_87 : decode cX8_find 87 = .ok (.iload_n 2, 1) := by decide +kernel
theorem dX8_find_88 : decode cX8_find 88 = .ok (.istore 8, 2) := by decide +kernel
theorem dX8_find_90 : decode cX8_find 90 = .ok (.iload 8, 2) := by decide +kernel
theorem dX8_find_92 : decode cX8_find 92 = .ok (.aload_n 0, 1) := by decide +kernel
theorem dX8_find_93 : decode cX8_find 93 = .ok (.getfield 16, 3) := by decide +kernel
theorem dX8_find_96 : decode cX8_find 96 = .ok (.iload 7, 2) := by decide +kernel
theorem dX8_find_98 : decode cX8_find 98 = .ok (.iaload, 1) := by decide +kernel
theorem dX8_find_99 : decode cX8_find 99 = .ok (.if_icmp .ge 52, 3) := by decide +kernel
theorem dX8_find_102 : decode cX8_find 102 = .ok (.aload_n 0, 1) := by decide +kernel
theorem dX8_find_103 : decode cX8_find 103 = .ok (.aload_n 0, 1) := by decide +kernel
theorem dX8_find_104 : decode cX8_find 104 = .ok (.getfield 13, 3) := by decide +kernel
theorem dX8_find_107 : decode cX8_find 107 = .ok (.iload 7, 2) := by decide +kernel
theorem dX8_find_109 : decode cX8_find 109 = .ok (.iaload, 1) := by decide +kernel
theorem dX8_find_110 : decode cX8_find 110 = .ok (.aload_n 0, 1) := by decide +kernel
theorem dX8_find_111 : decode cX8_find 111 = .ok (.getfield 22, 3) := by decide +kernel
theorem dX8_find_114 : decode cX8_find 114 = .ok (.bipush 24, 2) := by decide +kernel
theorem dX8_find_116 : decode cX8_find 116 = .ok (.iload 7, 2) := by decide +kernel
theorem dX8_find_118 : decode cX8_find 118 = .ok (.imul, 1) := by decide +kernel
theorem dX8_find_119 : decode cX8_find 119 = .ok (.iload 8, 2) := by decide +kernel
theorem dX8_find_121 : decode cX8_find 121 = .ok (.iadd, 1) := by decide +kernel
theorem dX8_find_122 : decode cX8_find 122 = .ok (.laload, 1) := by decide +kernel
theorem dX8_find_123 : decode cX8_find 123 = .ok (.aload_n 0, 1) := by decide +kernel
theorem dX8_find_124 : decode cX8_find 124 = .ok (.getfield 26, 3) := by decide +kernel
theorem dX8_find_127 : decode cX8_find 127 = .ok (.bipush 24, 2) := by decide +kernel
theorem dX8_find_129 : decode cX8_find 129 = .ok (.iload 7, 2) := by decide +kernel
theorem dX8_find_131 : decode cX8_find 131 = .ok (.imul, 1) := by decide +kernel
theorem dX8_find_132 : decode cX8_find 132 = .ok (.iload 8, 2) := by decide +kernel
theorem dX8_find_134 : decode cX8_find 134 = .ok (.iadd, 1) := by decide +kernel
theorem dX8_find_135 : decode cX8_find 135 = .ok (.daload, 1) := by decide +kernel
theorem dX8_find_136 : decode cX8_find 136 = .ok (.invokevirtual 163, 3) := by decide +kernel
theorem dX8_find_139 : decode cX8_find 139 = .ok (.ifCond .ne 6, 3) := by decide +kernel
theorem dX8_find_142 : decode cX8_find 142 = .ok (.iload 8, 2) := by decide +kernel
theorem dX8_find_144 : decode cX8_find 144 = .ok (.ireturn, 1) := by decide +kernel
theorem dX8_find_145 : decode cX8_find 145 = .ok (.iinc 8 1, 3) := by decide +kernel
theorem dX8_find_148 : decode cX8_find 148 = .ok (.goto (-58), 3) := by decide +kernel
theorem dX8_find_151 : decode cX8_find 151 = .ok (.iconst (-1), 1) := by decide +kernel
theorem dX8_find_152 : decode cX8_find 152 = .ok (.ireturn, 1) := by decide +kernel
theorem dX8_areAlike_0 : decode cX8_areAlike 0 = .ok (.aload_n 0, 1) := by decide +kernel
theorem dX8_areAlike_1 : decode cX8_areAlike 1 = .ok (.iload_n 1, 1) := by decide +kernel
theorem dX8_areAlike_2 : decode cX8_areAlike 2 = .ok (.invokevirtual 91, 3) := by decide +kernel
theorem dX8_areAlike_5 : decode cX8_areAlike 5 = .ok (.aload_n 0, 1) := by decide +kernel
theorem dX8_areAlike_6 : decode cX8_areAlike 6 = .ok (.iload_n 2, 1) := by decide +kernel
theorem dX8_areAlike_7 : decode cX8_areAlike 7 = .ok (.invokevirtual 91, 3) := by decide +kernel
theorem dX8_areAlike_10 : decode cX8_areAlike 10 = .ok (.if_icmp .eq 5, 3) := by decide +kernel
theorem dX8_areAlike_13 : decode cX8_areAlike 13 = .ok (.iconst 0, 1) := by decide +kernel
theorem dX8_areAlike_14 : decode cX8_areAlike 14 = .ok (.ireturn, 1) := by decide +kernel
theorem dX8_areAlike_15 : decode cX8_areAlike 15 = .ok (.aload_n 0, 1) := by decide +kernel
theorem dX8_areAlike_16 : decode cX8_areAlike 16 = .ok (.iload_n 1, 1) := by decide +kernel
theorem dX8_areAlike_17 : decode cX8_areAlike 17 = .ok (.invokevirtual 91, 3) := by decide +kernel
theorem dX8_areAlike_20 : decode cX8_areAlike 20 = .ok (.ifCond .ne 35, 3) := by decide +kernel
theorem dX8_areAlike_23 : decode cX8_areAlike 23 = .ok (.aload_n 0, 1) := by decide +kernel
theorem dX8_areAlike_24 : decode cX8_areAlike 24 = .ok (.getfield 22, 3) := by decide +kernel
theorem dX8_areAlike_27 : decode cX8_areAlike 27 = .ok (.bipush 24, 2) := by decide +kernel
theorem dX8_areAlike_29 : decode cX8_areAlike 29 = .ok (.iload_n 1, 1) := by decide +kernel
theorem dX8_areAlike_30 : decode cX8_areAlike 30 = .ok (.imul, 1) := by decide +kernel
theorem dX8_areAlike_31 : decode cX8_areAlike 31 = .ok (.iload_n 3, 1) := by decide +kernel
theorem dX8_areAlike_32 : decode cX8_areAlike 32 = .ok (.iadd, 1) := by decide +kernel
theorem dX8_areAlike_33 : decode cX8_areAlike 33 = .ok (.laload, 1) := by decide +kernel
theorem dX8_areAlike_34 : decode cX8_areAlike 34 = .ok (.aload_n 0, 1) := by decide +kernel
theorem dX8_areAlike_35 : decode cX8_areAlike 35 = .ok (.getfield 22, 3) := by decide +kernel
theorem dX8_areAlike_38 : decode cX8_areAlike 38 = .ok (.bipush 24, 2) := by decide +kernel
theorem dX8_areAlike_40 : decode cX8_areAlike 40 = .ok (.iload_n 2, 1) := by decide +kernel
theorem dX8_areAlike_41 : decode cX8_areAlike 41 = .ok (.imul, 1) := by decide +kernel
theorem dX8_areAlike_42 : decode cX8_areAlike 42 = .ok (.iload_n 3, 1) := by decide +kernel
theorem dX8_areAlike_43 : decode cX8_areAlike 43 = .ok (.iadd, 1) := by decide +kernel
theorem dX8_areAlike_44 : decode cX8_areAlike 44 = .ok (.laload, 1) := by decide +kernel
theorem dX8_areAlike_45 : decode cX8_areAlike 45 = .ok (.lcmp, 1) := by decide +kernel
theorem dX8_areAlike_46 : decode cX8_areAlike 46 = .ok (.ifCond .ne 7, 3) := by decide +kernel
theorem dX8_areAlike_49 : decode cX8_areAlike 49 = .ok (.iconst 1, 1) := by decide +kernel
theorem dX8_areAlike_50 : decode cX8_areAlike 50 = .ok (.goto 4, 3) := by decide +kernel
theorem dX8_areAlike_53 : decode cX8_areAlike 53 = .ok (.iconst 0, 1) := by decide +kernel
theorem dX8_areAlike_54 : decode cX8_areAlike 54 = .ok (.ireturn, 1) := by decide +kernel
theorem dX8_areAlike_55 : decode cX8_areAlike 55 = .ok (.aload_n 0, 1) := by decide +kernel
theorem dX8_areAlike_56 : decode cX8_areAlike 56 = .ok (.iload_n 1, 1) := by decide +kernel
theorem dX8_areAlike_57 : decode cX8_areAlike 57 = .ok (.iload_n 3, 1) := by decide +kernel
theorem dX8_areAlike_58 : decode cX8_areAlike 58 = .ok (.invokevirtual 143, 3) := by decide +kernel
theorem dX8_areAlike_61 : decode cX8_areAlike 61 = .ok (.aload_n 0, 1) := by decide +kernel
theorem dX8_areAlike_62 : decode cX8_areAlike 62 = .ok (.aload_n 0, 1) := by decide +kernel
theorem dX8_areAlike_63 : decode cX8_areAlike 63 = .ok (.getfield 13, 3) := by decide +kernel
theorem dX8_areAlike_66 : decode cX8_areAlike 66 = .ok (.iload_n 2, 1) := by decide +kernel
theorem dX8_areAlike_67 : decode cX8_areAlike 67 = .ok (.iaload, 1) := by decide +kernel
theorem dX8_areAlike_68 : decode cX8_areAlike 68 = .ok (.aload_n 0, 1) := by decide +kernel
theorem dX8_areAlike_69 : decode cX8_areAlike 69 = .ok (.getfield 22, 3) := by decide +kernel
theorem dX8_areAlike_72 : decode cX8_areAlike 72 = .ok (.bipush 24, 2) := by decide +kernel
theorem dX8_areAlike_74 : decode cX8_areAlike 74 = .ok (.iload_n 2, 1) := by decide +kernel
theorem dX8_areAlike_75 : decode cX8_areAlike 75 = .ok (.imul, 1) := by decide +kernel
theorem dX8_areAlike_76 : decode cX8_areAlike 76 = .ok (.iload_n 3, 1) := by decide +kernel
theorem dX8_areAlike_77 : decode cX8_areAlike 77 = .ok (.iadd, 1) := by decide +kernel
theorem dX8_areAlike_78 : decode cX8_areAlike 78 = .ok (.laload, 1) := by decide +kernel
theorem dX8_areAlike_79 : decode cX8_areAlike 79 = .ok (.aload_n 0, 1) := by decide +kernel
theorem dX8_areAlike_80 : decode cX8_areAlike 80 = .ok (.getfield 26, 3) := by decide +kernel
theorem dX8_areAlike_83 : decode cX8_areAlike 83 = .ok (.bipush 24, 2) := by decide +kernel
theorem dX8_areAlike_85 : decode cX8_areAlike 85 = .ok (.iload_n 2, 1) := by decide +kernel
theorem dX8_areAlike_86 : decode cX8_areAlike 86 = .ok (.imul, 1) := by decide +kernel
theorem dX8_areAlike_87 : decode cX8_areAlike 87 = .ok (.iload_n 3, 1) := by decide +kernel
theorem dX8_areAlike_88 : decode cX8_areAlike 88 = .ok (.iadd, 1) := by decide +kernel
theorem dX8_areAlike_89 : decode cX8_areAlike 89 = .ok (.daload, 1) := by decide +kernel
theorem dX8_areAlike_90 : decode cX8_areAlike 90 = .ok (.invokevirtual 163, 3) := by decide +kernel
theorem dX8_areAlike_93 : decode cX8_areAlike 93 = .ok (.ifCond .ne 7, 3) := by decide +kernel
theorem dX8_areAlike_96 : decode cX8_areAlike 96 = .ok (.iconst 1, 1) := by decide +kernel
theorem dX8_areAlike_97 : decode cX8_areAlike 97 = .ok (.goto 4, 3) := by decide +kernel
theorem dX8_areAlike_100 : decode cX8_areAlike 100 = .ok (.iconst 0, 1) := by decide +kernel
theorem dX8_areAlike_101 : decode cX8_areAlike 101 = .ok (.ireturn, 1) := by decide +kernel
theorem dX8_alike_0 : decode cX8_alike 0 = .ok (.aload_n 0, 1) := by decide +kernel
theorem dX8_alike_1 : decode cX8_alike 1 = .ok (.iconst 0, 1) := by decide +kernel
theorem dX8_alike_2 : decode cX8_alike 2 = .ok (.putfield 48, 3) := by decide +kernel
theorem dX8_alike_5 : decode cX8_alike 5 = .ok (.iload_n 1, 1) := by decide +kernel
theorem dX8_alike_6 : decode cX8_alike 6 = .ok (.invokestatic 102, 3) := by decide +kernel
theorem dX8_alike_9 : decode cX8_alike 9 = .ok (.ifCond .eq 10, 3) := by decide +kernel
theorem dX8_alike_12 : decode cX8_alike 12 = .ok (.iload_n 2, 1) := by decide +kernel
theorem dX8_alike_13 : decode cX8_alike 13 = .ok (.invokestatic 102, 3) := by decide +kernel
theorem dX8_alike_16 : decode cX8_alike 16 = .ok (.ifCond .ne 9, 3) := by decide +kernel
theorem dX8_alike_19 : decode cX8_alike 19 = .ok (.aload_n 0, 1) := by decide +kernel
theorem dX8_alike_20 : decode cX8_alike 20 = .ok (.iconst 1, 1) := by decide +kernel
theorem dX8_alike_21 : decode cX8_alike 21 = .ok (.invokevirtual 105, 3) := by decide +kernel
theorem dX8_alike_24 : decode cX8_alike 24 = .ok (.ireturn, 1) := by decide +kernel
theorem dX8_alike_25 : decode cX8_alike 25 = .ok (.aload_n 0, 1) := by decide +kernel
theorem dX8_alike_26 : decode cX8_alike 26 = .ok (.iload_n 1, 1) := by decide +kernel
theorem dX8_alike_27 : decode cX8_alike 27 = .ok (.iload_n 2, 1) := by decide +kernel
theorem dX8_alike_28 : decode cX8_alike 28 = .ok (.iload_n 2, 1) := by decide +kernel
theorem dX8_alike_29 : decode cX8_alike 29 = .ok (.invokevirtual 154, 3) := by decide +kernel
theorem dX8_alike_32 : decode cX8_alike 32 = .ok (.istore_n 3, 1) := by decide +kernel
theorem dX8_alike_33 : decode cX8_alike 33 = .ok (.iload_n 3, 1) := by decide +kernel
theorem dX8_alike_34 : decode cX8_alike 34 = .ok (.ifCond .le 9, 3) := by decide +kernel
theorem dX8_alike_37 : decode cX8_alike 37 = .ok (.aload_n 0, 1) := by decide +kernel
theorem dX8_alike_38 : decode cX8_alike 38 = .ok (.iload_n 3, 1) := by decide +kernel
theorem dX8_alike_39 : decode cX8_alike 39 = .ok (.invokevirtual 105, 3) := by decide +kernel
theorem dX8_alike_42 : decode cX8_alike 42 = .ok (.ireturn, 1) := by decide +kernel
theorem dX8_alike_43 : decode cX8_alike 43 = .ok (.aload_n 0, 1) := by decide +kernel
theorem dX8_alike_44 : decode cX8_alike 44 = .ok (.iload_n 1, 1) := by decide +kernel
theorem dX8_alike_45 : decode cX8_alike 45 = .ok (.invokevirtual 56, 3) := by decide +kernel
theorem dX8_alike_48 : decode cX8_alike 48 = .ok (.istore 4, 2) := by decide +kernel
theorem dX8_alike_50 : decode cX8_alike 50 = .ok (.aload_n 0, 1) := by decide +kernel
theorem dX8_alike_51 : decode cX8_alike 51 = .ok (.iload_n 2, 1) := by decide +kernel
theorem dX8_alike_52 : decode cX8_alike 52 = .ok (.invokevirtual 56, 3) := by decide +kernel
theorem dX8_alike_55 : decode cX8_alike 55 = .ok (.istore 5, 2) := by decide +kernel
theorem dX8_alike_57 : decode cX8_alike 57 = .ok (.aload_n 0, 1) := by decide +kernel
theorem dX8_alike_58 : decode cX8_alike 58 = .ok (.getfield 16, 3) := by decide +kernel
theorem dX8_alike_61 : decode cX8_alike 61 = .ok (.iload 4, 2) := by decide +kernel
theorem dX8_alike_63 : decode cX8_alike 63 = .ok (.iaload, 1) := by decide +kernel
theorem dX8_alike_64 : decode cX8_alike 64 = .ok (.aload_n 0, 1) := by decide +kernel
theorem dX8_alike_65 : decode cX8_alike 65 = .ok (.getfield 16, 3) := by decide +kernel
theorem dX8_alike_68 : decode cX8_alike 68 = .ok (.iload 5, 2) := by decide +kernel
theorem dX8_alike_70 : decode cX8_alike 70 = .ok (.iaload, 1) := by decide +kernel
theorem dX8_alike_71 : decode cX8_alike 71 = .ok (.if_icmp .eq 5, 3) := by decide +kernel
theorem dX8_alike_74 : decode cX8_alike 74 = .ok (.iconst 0, 1) := by decide +kernel
theorem dX8_alike_75 : decode cX8_alike 75 = .ok (.ireturn, 1) := by decide +kernel
theorem dX8_alike_76 : decode cX8_alike 76 = .ok (.iconst 0, 1) := by decide +kernel
theorem dX8_alike_77 : decode cX8_alike 77 = .ok (.istore 6, 2) := by decide +kernel
theorem dX8_alike_79 : decode cX8_alike 79 = .ok (.iload 6, 2) := by decide +kernel
theorem dX8_alike_81 : decode cX8_alike 81 = .ok (.aload_n 0, 1) := by decide +kernel
theorem dX8_alike_82 : decode cX8_alike 82 = .ok (.getfield 16, 3) := by decide +kernel
theorem dX8_alike_85 : decode cX8_alike 85 = .ok (.iload 4, 2) := by decide +kernel
theorem dX8_alike_87 : decode cX8_alike 87 = .ok (.iaload, 1) := by decide +kernel
theorem dX8_alike_88 : decode cX8_alike 88 = .ok (.if_icmp .ge 24, 3) := by decide +kernel
theorem dX8_alike_91 : decode cX8_alike 91 = .ok (.aload_n 0, 1) := by decide +kernel
theorem dX8_alike_92 : decode cX8_alike 92 = .ok (.iload 4, 2) := by decide +kernel
theorem dX8_alike_94 : decode cX8_alike 94 = .ok (.iload 5, 2) := by decide +kernel
theorem dX8_alike_96 : decode cX8_alike 96 = .ok (.iload 6, 2) := by decide +kernel
theorem dX8_alike_98 : decode cX8_alike 98 = .ok (.invokevirtual 192, 3) := by decide +kernel
theorem dX8_alike_101 : decode cX8_alike 101 = .ok (.ifCond .ne 5, 3) := by decide +kernel
theorem dX8_alike_104 : decode cX8_alike 104 = .ok (.iconst 0, 1) := by decide +kernel
theorem dX8_alike_105 : decode cX8_alike 105 = .ok (.ireturn, 1) := by decide +kernel
theorem dX8_alike_106 : decode cX8_alike 106 = .ok (.iinc 6 1, 3) := by decide +kernel
theorem dX8_alike_109 : decode cX8_alike 109 = .ok (.goto (-30), 3) := by decide +kernel
theorem dX8_alike_112 : decode cX8_alike 112 = .ok (.iconst 1, 1) := by decide +kernel
theorem dX8_alike_113 : decode cX8_alike 113 = .ok (.ireturn, 1) := by decide +kernel
theorem dX8_why_0 : decode cX8_why 0 = .ok (.aload_n 0, 1) := by decide +kernel
theorem dX8_why_1 : decode cX8_why 1 = .ok (.getfield 48, 3) := by decide +kernel
theorem dX8_why_4 : decode cX8_why 4 = .ok (.ireturn, 1) := by decide +kernel
