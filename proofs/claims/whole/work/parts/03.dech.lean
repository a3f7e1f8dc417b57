theorem dX0_init_0 : decode cX0_init 0 = .ok (.aload_n 0, 1) := by decide +kernel
theorem dX0_init_1 : decode cX0_init 1 = .ok (.iload_n 1, 1) := by decide +kernel
theorem dX0_init_2 : decode cX0_init 2 = .ok (.invokespecial 1, 3) := by decide +kernel
theorem dX0_init_5 : decode cX0_init 5 = .ok (.aload_n 0, 1) := by decide +kernel
theorem dX0_init_6 : decode cX0_init 6 = .ok (.iload_n 2, 1) := by decide +kernel
theorem dX0_init_7 : decode cX0_init 7 = .ok (.putfield 7, 3) := by decide +kernel
theorem dX0_init_10 : decode cX0_init 10 = .ok (.return_, 1) := by decide +kernel
theorem dX0_measure_0 : decode cX0_measure 0 = .ok (.aload_n 0, 1) := by decide +kernel
theorem dX0_measure_1 : decode cX0_measure 1 = .ok (.getfield 7, 3) := by decide +kernel
theorem dX0_measure_4 : decode cX0_measure 4 = .ok (.ireturn, 1) := by decide +kernel
theorem dX1_init_0 : decode cX1_init 0 = .ok (.aload_n 0, 1) := by decide +kernel
theorem dX1_init_1 : decode cX1_init 1 = .ok (.invokespecial 3, 3) := by decide +kernel
theorem dX1_init_4 : decode cX1_init 4 = .ok (.aload_n 0, 1) := by decide +kernel
theorem dX1_init_5 : decode cX1_init 5 = .ok (.iconst (-1), 1) := by decide +kernel
theorem dX1_init_6 : decode cX1_init 6 = .ok (.putfield 9, 3) := by decide +kernel
theorem dX1_init_9 : decode cX1_init 9 = .ok (.return_, 1) := by decide +kernel
theorem dX1_holdWhole_0 : decode cX1_holdWhole 0 = .ok (.aload_n 0, 1) := by decide +kernel
theorem dX1_holdWhole_1 : decode cX1_holdWhole 1 = .ok (.iload_n 1, 1) := by decide +kernel
theorem dX1_holdWhole_2 : decode cX1_holdWhole 2 = .ok (.putfield 9, 3) := by decide +kernel
theorem dX1_holdWhole_5 : decode cX1_holdWhole 5 = .ok (.aload_n 0, 1) := by decide +kernel
theorem dX1_holdWhole_6 : decode cX1_holdWhole 6 = .ok (.lload_n 2, 1) := by decide +kernel
theorem dX1_holdWhole_7 : decode cX1_holdWhole 7 = .ok (.putfield 15, 3) := by decide +kernel
theorem dX1_holdWhole_10 : decode cX1_holdWhole 10 = .ok (.return_, 1) := by decide +kernel
theorem dX1_holdPoint_0 : decode cX1_holdPoint 0 = .ok (.aload_n 0, 1) := by decide +kernel
theorem dX1_holdPoint_1 : decode cX1_holdPoint 1 = .ok (.iload_n 1, 1) := by decide +kernel
theorem dX1_holdPoint_2 : decode cX1_holdPoint 2 = .ok (.putfield 9, 3) := by decide +kernel
theorem dX1_holdPoint_5 : decode cX1_holdPoint 5 = .ok (.aload_n 0, 1) := by decide +kernel
theorem dX1_holdPoint_6 : decode cX1_holdPoint 6 = .ok (.dload_n 2, 1) := by decide +kernel
theorem dX1_holdPoint_7 : decode cX1_holdPoint 7 = .ok (.putfield 19, 3) := by decide +kernel
theorem dX1_holdPoint_10 : decode cX1_holdPoint 10 = .ok (.return_, 1) := by decide +kernel
theorem dX1_holdThing_0 : decode cX1_holdThing 0 = .ok (.aload_n 0, 1) := by decide +kernel
theorem dX1_holdThing_1 : decode cX1_holdThing 1 = .ok (.iconst (-1), 1) := by decide +kernel
theorem dX1_holdThing_2 : decode cX1_holdThing 2 = .ok (.putfield 9, 3) := by decide +kernel
theorem dX1_holdThing_5 : decode cX1_holdThing 5 = .ok (.aload_n 0, 1) := by decide +kernel
theorem dX1_holdThing_6 : decode cX1_holdThing 6 = .ok (.aload_n 1, 1) := by decide +kernel
theorem dX1_holdThing_7 : decode cX1_holdThing 7 = .ok (.putfield 23, 3) := by decide +kernel
theorem dX1_holdThing_10 : decode cX1_holdThing 10 = .ok (.return_, 1) := by decide +kernel
theorem dX1_holdTold_0 : decode cX1_holdTold 0 = .ok (.iload_n 2, 1) := by decide +kernel
theorem dX1_holdTold_1 : decode cX1_holdTold 1 = .ok (.i2l, 1) := by decide +kernel
theorem dX1_holdTold_2 : decode cX1_holdTold 2 = .ok (.bipush 32, 2) := by decide +kernel
theorem dX1_holdTold_4 : decode cX1_holdTold 4 = .ok (.lshl, 1) := by decide +kernel
theorem dX1_holdTold_5 : decode cX1_holdTold 5 = .ok (.iload_n 3, 1) := by decide +kernel
theorem dX1_holdTold_6 : decode cX1_holdTold 6 = .ok (.i2l, 1) := by decide +kernel
theorem dX1_holdTold_7 : decode cX1_holdTold 7 = .ok (.ldc2_w 27, 3) := by decide +kernel
theorem dX1_holdTold_10 : decode cX1_holdTold 10 = .ok (.land, 1) := by decide +kernel
theorem dX1_holdTold_11 : decode cX1_holdTold 11 = .ok (.lor, 1) := by decide +kernel
theorem dX1_holdTold_12 : decode cX1_holdTold 12 = .ok (.lstore 4, 2) := by decide +kernel
theorem dX1_holdTold_14 : decode cX1_holdTold 14 = .ok (.iload_n 1, 1) := by decide +kernel
theorem dX1_holdTold_15 : decode cX1_holdTold 15 = .ok (.tableswitch 138 0 7 #[45, 57, 70, 83, 96, 138, 108, 123], 45) := by decide +kernel
theorem dX1_holdTold_60 : decode cX1_holdTold 60 = .ok (.aload_n 0, 1) := by decide +kernel
theorem dX1_holdTold_61 : decode cX1_holdTold 61 = .ok (.iload_n 1, 1) := by decide +kernel
theorem dX1_holdTold_62 : decode cX1_holdTold 62 = .ok (.lload 4, 2) := by decide +kernel
theorem dX1_holdTold_64 : decode cX1_holdTold 64 = .ok (.lconst 1, 1) := by decide +kernel
theorem dX1_holdTold_65 : decode cX1_holdTold 65 = .ok (.land, 1) := by decide +kernel
theorem dX1_holdTold_66 : decode cX1_holdTold 66 = .ok (.invokevirtual 29, 3) := by decide +kernel
theorem dX1_holdTold_69 : decode cX1_holdTold 69 = .ok (.goto 91, 3) := by decide +kernel
theorem dX1_holdTold_72 : decode cX1_holdTold 72 = .ok (.aload_n 0, 1) := by decide +kernel
theorem dX1_holdTold_73 : decode cX1_holdTold 73 = .ok (.iload_n 1, 1) := by decide +kernel
theorem dX1_holdTold_74 : decode cX1_holdTold 74 = .ok (.lload 4, 2) := by decide +kernel
theorem dX1_holdTold_76 : decode cX1_holdTold 76 = .ok (.l2i, 1) := by decide +kernel
theorem dX1_holdTold_77 : decode cX1_holdTold 77 = .ok (.i2b, 1) := by decide +kernel
theorem dX1_holdTold_78 : decode cX1_holdTold 78 = .ok (.i2l, 1) := by decide +kernel
theorem dX1_holdTold_79 : decode cX1_holdTold 79 = .ok (.invokevirtual 29, 3) := by decide +kernel
theorem dX1_holdTold_82 : decode cX1_holdTold 82 = .ok (.goto 78, 3) := by decide +kernel
theorem dX1_holdTold_85 : decode cX1_holdTold 85 = .ok (.aload_n 0, 1) := by decide +kernel
theorem dX1_holdTold_86 : decode cX1_holdTold 86 = .ok (.iload_n 1, 1) := by decide +kernel
theorem dX1_holdTold_87 : decode cX1_holdTold 87 = .ok (.lload 4, 2) := by decide +kernel
theorem dX1_holdTold_89 : decode cX1_holdTold 89 = .ok (.l2i, 1) := by decide +kernel
theorem dX1_holdTold_90 : decode cX1_holdTold 90 = .ok (.i2c, 1) := by decide +kernel
theorem dX1_holdTold_91 : decode cX1_holdTold 91 = .ok (.i2l, 1) := by decide +kernel
theorem dX1_holdTold_92 : decode cX1_holdTold 92 = .ok (.invokevirtual 29, 3) := by decide +kernel
theorem dX1_holdTold_95 : decode cX1_holdTold 95 = .ok (.goto 65, 3) := by decide +kernel
theorem dX1_holdTold_98 : decode cX1_holdTold 98 = .ok (.aload_n 0, 1) := by decide +kernel
theorem dX1_holdTold_99 : decode cX1_holdTold 99 = .ok (.iload_n 1, 1) := by decide +kernel
theorem dX1_holdTold_100 : decode cX1_holdTold 100 = .ok (.lload 4, 2) := by decide +kernel
theorem dX1_holdTold_102 : decode cX1_holdTold 102 = .ok (.l2i, 1) := by decide +kernel
theorem dX1_holdTold_103 : decode cX1_holdTold 103 = .ok (.i2s, 1) := by decide +kernel
theorem dX1_holdTold_104 : decode cX1_holdTold 104 = .ok (.i2l, 1) := by decide +kernel
theorem dX1_holdTold_105 : decode cX1_holdTold 105 = .ok (.invokevirtual 29, 3) := by decide +kernel
theorem dX1_holdTold_108 : decode cX1_holdTold 108 = .ok (.goto 52, 3) := by decide +kernel
theorem dX1_holdTold_111 : decode cX1_holdTold 111 = .ok (.aload_n 0, 1) := by decide +kernel
theorem dX1_holdTold_112 : decode cX1_holdTold 112 = .ok (.iload_n 1, 1) := by decide +kernel
theorem dX1_holdTold_113 : decode cX1_holdTold 113 = .ok (.lload 4, 2) := by decide +kernel
theorem dX1_holdTold_115 : decode cX1_holdTold 115 = .ok (.l2i, 1) := by decide +kernel
theorem dX1_holdTold_116 : decode cX1_holdTold 116 = .ok (.i2l, 1) := by decide +kernel
theorem dX1_holdTold_117 : decode cX1_holdTold 117 = .ok (.invokevirtual 29, 3) := by decide +kernel
theorem dX1_holdTold_120 : decode cX1_holdTold 120 = .ok (.goto 40, 3) := by decide +kernel
theorem dX1_holdTold_123 : decode cX1_holdTold 123 = .ok (.aload_n 0, 1) := by decide +kernel
theorem dX1_holdTold_124 : decode cX1_holdTold 124 = .ok (.iload_n 1, 1) := by decide +kernel
theorem dX1_holdTold_125 : decode cX1_holdTold 125 = .ok (.lload 4, 2) := by decide +kernel
theorem dX1_holdTold_127 : decode cX1_holdTold 127 = .ok (.l2f, 1) := by decide +kernel
theorem dX1_holdTold_128 : decode cX1_holdTold 128 = .ok (.ldc 33, 2) := by decide +kernel
theorem dX1_holdTold_130 : decode cX1_holdTold 130 = .ok (.fdiv, 1) := by decide +kernel
theorem dX1_holdTold_131 : decode cX1_holdTold 131 = .ok (.f2d, 1) := by decide +kernel
theorem dX1_holdTold_132 : decode cX1_holdTold 132 = .ok (.invokevirtual 34, 3) := by decide +kernel
theorem dX1_holdTold_135 : decode cX1_holdTold 135 = .ok (.goto 25, 3) := by decide +kernel
theorem dX1_holdTold_138 : decode cX1_holdTold 138 = .ok (.aload_n 0, 1) := by decide +kernel
theorem dX1_holdTold_139 : decode cX1_holdTold 139 = .ok (.iload_n 1, 1) := by decide +kernel
theorem dX1_holdTold_140 : decode cX1_holdTold 140 = .ok (.lload 4, 2) := by decide +kernel
theorem dX1_holdTold_142 : decode cX1_holdTold 142 = .ok (.l2d, 1) := by decide +kernel
theorem dX1_holdTold_143 : decode cX1_holdTold 143 = .ok (.ldc2_w 38, 3) := by decide +kernel
theorem dX1_holdTold_146 : decode cX1_holdTold 146 = .ok (.ddiv, 1) := by decide +kernel
theorem dX1_holdTold_147 : decode cX1_holdTold 147 = .ok (.invokevirtual 34, 3) := by decide +kernel
theorem dX1_holdTold_150 : decode cX1_holdTold 150 = .ok (.goto 10, 3) := by decide +kernel
theorem dX1_holdTold_153 : decode cX1_holdTold 153 = .ok (.aload_n 0, 1) := by decide +kernel
theorem dX1_holdTold_154 : decode cX1_holdTold 154 = .ok (.iload_n 1, 1) := by decide +kernel
theorem dX1_holdTold_155 : decode cX1_holdTold 155 = .ok (.lload 4, 2) := by decide +kernel
theorem dX1_holdTold_157 : decode cX1_holdTold 157 = .ok (.invokevirtual 29, 3) := by decide +kernel
theorem dX1_holdTold_160 : decode cX1_holdTold 160 = .ok (.return_, 1) := by decide +kernel
theorem dX1_isValue_0 : decode cX1_isValue 0 = .ok (.aload_n 0, 1) := by decide +kernel
theorem dX1_isValue_1 : decode cX1_isValue 1 = .ok (.getfield 9, 3) := by decide +kernel
theorem dX1_isValue_4 : decode cX1_isValue 4 = .ok (.iconst (-1), 1) := by decide +kernel
theorem dX1_isValue_5 : decode cX1_isValue 5 = .ok (.if_icmp .eq 7, 3) := by decide +kernel
theorem dX1_isValue_8 : decode cX1_isValue 8 = .ok (.iconst 1, 1) := by decide +kernel
theorem dX1_isValue_9 : decode cX1_isValue 9 = .ok (.goto 4, 3) := by decide +kernel
theorem dX1_isValue_12 : decode cX1_isValue 12 = .ok (.iconst 0, 1) := by decide +kernel
theorem dX1_isValue_13 : decode cX1_isValue 13 = .ok (.ireturn, 1) := by decide +kernel
theorem dX1_isWhole_0 : decode cX1_isWhole 0 = .ok (.aload_n 0, 1) := by decide +kernel
theorem dX1_isWhole_1 : decode cX1_isWhole 1 = .ok (.getfield 9, 3) := by decide +kernel
theorem dX1_isWhole_4 : decode cX1_isWhole 4 = .ok (.ifCond .lt 15, 3) := by decide +kernel
theorem dX1_isWhole_7 : decode cX1_isWhole 7 = .ok (.aload_n 0, 1) := by decide +kernel
theorem dX1_isWhole_8 : decode cX1_isWhole 8 = .ok (.getfield 9, 3) := by decide +kernel
theorem dX1_isWhole_11 : decode cX1_isWhole 11 = .ok (.iconst 5, 1) := by decide +kernel
theorem dX1_isWhole_12 : decode cX1_isWhole 12 = .ok (.if_icmp .gt 7, 3) := by decide +kernel
theorem dX1_isWhole_15 : decode cX1_isWhole 15 = .ok (.iconst 1, 1) := by decide +kernel
theorem dX1_isWhole_16 : decode cX1_isWhole 16 = .ok (.goto 4, 3) := by decide +kernel
theorem dX1_isWhole_19 : decode cX1_isWhole 19 = .ok (.iconst 0, 1) := by decide +kernel
theorem dX1_isWhole_20 : decode cX1_isWhole 20 = .ok (.ireturn, 1) := by decide +kernel
theorem dX1_pointAs_0 : decode cX1_pointAs 0 = .ok (.aload_n 0, 1) := by decide +kernel
theorem dX1_pointAs_1 : decode cX1_pointAs 1 = .ok (.invokevirtual 40, 3) := by decide +kernel
theorem dX1_pointAs_4 : decode cX1_pointAs 4 = .ok (.ifCond .ne 8, 3) := by decide +kernel
theorem dX1_pointAs_7 : decode cX1_pointAs 7 = .ok (.aload_n 0, 1) := by decide +kernel
theorem dX1_pointAs_8 : decode cX1_pointAs 8 = .ok (.getfield 19, 3) := by decide +kernel
theorem dX1_pointAs_11 : decode cX1_pointAs 11 = .ok (.dreturn, 1) := by decide +kernel
theorem dX1_pointAs_12 : decode cX1_pointAs 12 = .ok (.iload_n 1, 1) := by decide +kernel
theorem dX1_pointAs_13 : decode cX1_pointAs 13 = .ok (.bipush 6, 2) := by decide +kernel
theorem dX1_pointAs_15 : decode cX1_pointAs 15 = .ok (.if_icmp .ne 12, 3) := by decide +kernel
theorem dX1_pointAs_18 : decode cX1_pointAs 18 = .ok (.aload_n 0, 1) := by decide +kernel
theorem dX1_pointAs_19 : decode cX1_pointAs 19 = .ok (.getfield 15, 3) := by decide +kernel
theorem dX1_pointAs_22 : decode cX1_pointAs 22 = .ok (.l2f, 1) := by decide +kernel
theorem dX1_pointAs_23 : decode cX1_pointAs 23 = .ok (.f2d, 1) := by decide +kernel
theorem dX1_pointAs_24 : decode cX1_pointAs 24 = .ok (.goto 8, 3) := by decide +kernel
theorem dX1_pointAs_27 : decode cX1_pointAs 27 = .ok (.aload_n 0, 1) := by decide +kernel
theorem dX1_pointAs_28 : decode cX1_pointAs 28 = .ok (.getfield 15, 3) := by decide +kernel
theorem dX1_pointAs_31 : decode cX1_pointAs 31 = .ok (.l2d, 1) := by decide +kernel
theorem dX1_pointAs_32 : decode cX1_pointAs 32 = .ok (.dreturn, 1) := by decide +kernel
theorem dX1_isLike_0 : decode cX1_isLike 0 = .ok (.aload_n 0, 1) := by decide +kernel
theorem dX1_isLike_1 : decode cX1_isLike 1 = .ok (.invokevirtual 44, 3) := by decide +kernel
theorem dX1_isLike_4 : decode cX1_isLike 4 = .ok (.ifCond .eq 10, 3) := by decide +kernel
theorem dX1_isLike_7 : decode cX1_isLike 7 = .ok (.aload_n 1, 1) := by decide +kernel
theorem dX1_isLike_8 : decode cX1_isLike 8 = .ok (.invokevirtual 44, 3) := by decide +kernel
theorem dX1_isLike_11 : decode cX1_isLike 11 = .ok (.ifCond .ne 31, 3) := by decide +kernel
theorem dX1_isLike_14 : decode cX1_isLike 14 = .ok (.aload_n 0, 1) := by decide +kernel
theorem dX1_isLike_15 : decode cX1_isLike 15 = .ok (.invokevirtual 44, 3) := by decide +kernel
theorem dX1_isLike_18 : decode cX1_isLike 18 = .ok (.aload_n 1, 1) := by decide +kernel
theorem dX1_isLike_19 : decode cX1_isLike 19 = .ok (.invokevirtual 44, 3) := by decide +kernel
theorem dX1_isLike_22 : decode cX1_isLike 22 = .ok (.if_icmp .ne 18, 3) := by decide +kernel
theorem dX1_isLike_25 : decode cX1_isLike 25 = .ok (.aload_n 0, 1) := by decide +kernel
theorem dX1_isLike_26 : decode cX1_isLike 26 = .ok (.getfield 23, 3) := by decide +kernel
theorem dX1_isLike_29 : decode cX1_isLike 29 = .ok (.aload_n 1, 1) := by decide +kernel
theorem dX1_isLike_30 : decode cX1_isLike 30 = .ok (.getfield 23, 3) := by decide +kernel
theorem dX1_isLike_33 : decode cX1_isLike 33 = .ok (.if_acmp .ne 7, 3) := by decide +kernel
theorem dX1_isLike_36 : decode cX1_isLike 36 = .ok (.iconst 1, 1) := by decide +kernel
theorem dX1_isLike_37 : decode cX1_isLike 37 = .ok (.goto 4, 3) := by decide +kernel
theorem dX1_isLike_40 : decode cX1_isLike 40 = .ok (.iconst 0, 1) := by decide +kernel
theorem dX1_isLike_41 : decode cX1_isLike 41 = .ok (.ireturn, 1) := by decide +kernel
theorem dX1_isLike_42 : decode cX1_isLike 42 = .ok (.aload_n 0, 1) := by decide +kernel
theorem dX1_isLike_43 : decode cX1_isLike 43 = .ok (.getfield 9, 3) := by decide +kernel
theorem dX1_isLike_46 : decode cX1_isLike 46 = .ok (.ifCond .ne 7, 3) := by decide +kernel
theorem dX1_isLike_49 : decode cX1_isLike 49 = .ok (.iconst 1, 1) := by decide +kernel
theorem dX1_isLike_50 : decode cX1_isLike 50 = .ok (.goto 4, 3) := by decide +kernel
theorem dX1_isLike_53 : decode cX1_isLike 53 = .ok (.iconst 0, 1) := by decide +kernel
theorem dX1_isLike_54 : decode cX1_isLike 54 = .ok (.aload_n 1, 1) := by decide +kernel
theorem dX1_isLike_55 : decode cX1_isLike 55 = .ok (.getfield 9, 3) := by decide +kernel
theorem dX1_isLike_58 : decode cX1_isLike 58 = .ok (.ifCond .ne 7, 3) := by decide +kernel
theorem dX1_isLike_61 : decode cX1_isLike 61 = .ok (.iconst 1, 1) := by decide +kernel
theorem dX1_isLike_62 : decode cX1_isLike 62 = .ok (.goto 4, 3) := by decide +kernel
theorem dX1_isLike_65 : decode cX1_isLike 65 = .ok (.iconst 0, 1) := by decide +kernel
theorem dX1_isLike_66 : decode cX1_isLike 66 = .ok (.if_icmp .eq 5, 3) := by decide +kernel
theorem dX1_isLike_69 : decode cX1_isLike 69 = .ok (.iconst 0, 1) := by decide +kernel
theorem dX1_isLike_70 : decode cX1_isLike 70 = .ok (.ireturn, 1) := by decide +kernel
theorem dX1_isLike_71 : decode cX1_isLike 71 = .ok (.aload_n 0, 1) := by decide +kernel
theorem dX1_isLike_72 : decode cX1_isLike 72 = .ok (.invokevirtual 40, 3) := by decide +kernel
theorem dX1_isLike_75 : decode cX1_isLike 75 = .ok (.ifCond .eq 28, 3) := by decide +kernel
theorem dX1_isLike_78 : decode cX1_isLike 78 = .ok (.aload_n 1, 1) := by decide +kernel
theorem dX1_isLike_79 : decode cX1_isLike 79 = .ok (.invokevirtual 40, 3) := by decide +kernel
theorem dX1_isLike_82 : decode cX1_isLike 82 = .ok (.ifCond .eq 21, 3) := by decide +kernel
theorem dX1_isLike_85 : decode cX1_isLike 85 = .ok (.aload_n 0, 1) := by decide +kernel
theorem dX1_isLike_86 : decode cX1_isLike 86 = .ok (.getfield 15, 3) := by decide +kernel
theorem dX1_isLike_89 : decode cX1_isLike 89 = .ok (.aload_n 1, 1) := by decide +kernel
theorem dX1_isLike_90 : decode cX1_isLike 90 = .ok (.getfield 15, 3) := by decide +kernel
theorem dX1_isLike_93 : decode cX1_isLike 93 = .ok (.lcmp, 1) := by decide +kernel
theorem dX1_isLike_94 : decode cX1_isLike 94 = .ok (.ifCond .ne 7, 3) := by decide +kernel
theorem dX1_isLike_97 : decode cX1_isLike 97 = .ok (.iconst 1, 1) := by decide +kernel
theorem dX1_isLike_98 : decode cX1_isLike 98 = .ok (.goto 4, 3) := by decide +kernel
theorem dX1_isLike_101 : decode cX1_isLike 101 = .ok (.iconst 0, 1) := by decide +kernel
theorem dX1_isLike_102 : decode cX1_isLike 102 = .ok (.ireturn, 1) := by decide +kernel
theorem dX1_isLike_103 : decode cX1_isLike 103 = .ok (.aload_n 0, 1) := by decide +kernel
theorem dX1_isLike_104 : decode cX1_isLike 104 = .ok (.bipush 7, 2) := by decide +kernel
theorem dX1_isLike_106 : decode cX1_isLike 106 = .ok (.invokevirtual 47, 3) := by decide +kernel
theorem dX1_isLike_109 : decode cX1_isLike 109 = .ok (.aload_n 1, 1) := by decide +kernel
theorem dX1_isLike_110 : decode cX1_isLike 110 = .ok (.bipush 7, 2) := by decide +kernel
theorem dX1_isLike_112 : decode cX1_isLike 112 = .ok (.invokevirtual 47, 3) := by decide +kernel
theorem dX1_isLike_115 : decode cX1_isLike 115 = .ok (.dcmp .l, 1) := by decide +kernel
theorem dX1_isLike_116 : decode cX1_isLike 116 = .ok (.ifCond .ne 7, 3) := by decide +kernel
theorem dX1_isLike_119 : decode cX1_isLike 119 = .ok (.iconst 1, 1) := by decide +kernel
theorem dX1_isLike_120 : decode cX1_isLike 120 = .ok (.goto 4, 3) := by decide +kernel
theorem dX1_isLike_123 : decode cX1_isLike 123 = .ok (.iconst 0, 1) := by decide +kernel
theorem dX1_isLike_124 : decode cX1_isLike 124 = .ok (.ireturn, 1) := by decide +kernel
theorem dX1_isLess_0 : decode cX1_isLess 0 = .ok (.aload_n 0, 1) := by decide +kernel
theorem dX1_isLess_1 : decode cX1_isLess 1 = .ok (.invokevirtual 40, 3) := by decide +kernel
theorem dX1_isLess_4 : decode cX1_isLess 4 = .ok (.ifCond .eq 28, 3) := by decide +kernel
theorem dX1_isLess_7 : decode cX1_isLess 7 = .ok (.aload_n 1, 1) := by decide +kernel
theorem dX1_isLess_8 : decode cX1_isLess 8 = .ok (.invokevirtual 40, 3) := by decide +kernel
theorem dX1_isLess_11 : decode cX1_isLess 11 = .ok (.ifCond .eq 21, 3) := by decide +kernel
theorem dX1_isLess_14 : decode cX1_isLess 14 = .ok (.aload_n 0, 1) := by decide +kernel
theorem dX1_isLess_15 : decode cX1_isLess 15 = .ok (.getfield 15, 3) := by decide +kernel
theorem dX1_isLess_18 : decode cX1_isLess 18 = .ok (.aload_n 1, 1) := by decide +kernel
theorem dX1_isLess_19 : decode cX1_isLess 19 = .ok (.getfield 15, 3) := by decide +kernel
theorem dX1_isLess_22 : decode cX1_isLess 22 = .ok (.lcmp, 1) := by decide +kernel
theorem dX1_isLess_23 : decode cX1_isLess 23 = .ok (.ifCond .ge 7, 3) := by decide +kernel
theorem dX1_isLess_26 : decode cX1_isLess 26 = .ok (.iconst 1, 1) := by decide +kernel
theorem dX1_isLess_27 : decode cX1_isLess 27 = .ok (.goto 4, 3) := by decide +kernel
theorem dX1_isLess_30 : decode cX1_isLess 30 = .ok (.iconst 0, 1) := by decide +kernel
theorem dX1_isLess_31 : decode cX1_isLess 31 = .ok (.ireturn, 1) := by decide +kernel
theorem dX1_isLess_32 : decode cX1_isLess 32 = .ok (.aload_n 0, 1) := by decide +kernel
theorem dX1_isLess_33 : decode cX1_isLess 33 = .ok (.bipush 7, 2) := by decide +kernel
theorem dX1_isLess_35 : decode cX1_isLess 35 = .ok (.invokevirtual 47, 3) := by decide +kernel
theorem dX1_isLess_38 : decode cX1_isLess 38 = .ok (.aload_n 1, 1) := by decide +kernel
theorem dX1_isLess_39 : decode cX1_isLess 39 = .ok (.bipush 7, 2) := by decide +kernel
theorem dX1_isLess_41 : decode cX1_isLess 41 = .ok (.invokevirtual 47, 3) := by decide +kernel
theorem dX1_isLess_44 : decode cX1_isLess 44 = .ok (.dcmp .g, 1) := by decide +kernel
theorem dX1_isLess_45 : decode cX1_isLess 45 = .ok (.ifCond .ge 7, 3) := by decide +kernel
theorem dX1_isLess_48 : decode cX1_isLess 48 = .ok (.iconst 1, 1) := by decide +kernel
theorem dX1_isLess_49 : decode cX1_isLess 49 = .ok (.goto 4, 3) := by decide +kernel
theorem dX1_isLess_52 : decode cX1_isLess 52 = .ok (.iconst 0, 1) := by decide +kernel
theorem dX1_isLess_53 : decode cX1_isLess 53 = .ok (.ireturn, 1) := by decide +kernel
theorem dX1_comesBefore_0 : decode cX1_comesBefore 0 = .ok (.aload_n 0, 1) := by decide +kernel
theorem dX1_comesBefore_1 : decode cX1_comesBefore 1 = .ok (.invokevirtual 44, 3) := by decide +kernel
theorem dX1_comesBefore_4 : decode cX1_comesBefore 4 = .ok (.ifCond .eq 9, 3) := by decide +kernel
theorem dX1_comesBefore_7 : decode cX1_comesBefore 7 = .ok (.aload_n 0, 1) := by decide +kernel
theorem dX1_comesBefore_8 : decode cX1_comesBefore 8 = .ok (.aload_n 1, 1) := by decide +kernel
theorem dX1_comesBefore_9 : decode cX1_comesBefore 9 = .ok (.invokevirtual 51, 3) := by decide +kernel
theorem dX1_comesBefore_12 : decode cX1_comesBefore 12 = .ok (.ireturn, 1) := by decide +kernel
theorem dX1_comesBefore_13 : decode cX1_comesBefore 13 = .ok (.aload_n 0, 1) := by decide +kernel
theorem dX1_comesBefore_14 : decode cX1_comesBefore 14 = .ok (.getfield 23, 3) := by decide +kernel
theorem dX1_comesBefore_17 : decode cX1_comesBefore 17 = .ok (.ifnull 10, 3) := by decide +kernel
theorem dX1_comesBefore_20 : decode cX1_comesBefore 20 = .ok (.aload_n 1, 1) := by decide +kernel
theorem dX1_comesBefore_21 : decode cX1_comesBefore 21 = .ok (.getfield 23, 3) := by decide +kernel
theorem dX1_comesBefore_24 : decode cX1_comesBefore 24 = .ok (.ifnonnull 23, 3) := by decide +kernel
theorem dX1_comesBefore_27 : decode cX1_comesBefore 27 = .ok (.aload_n 0, 1) := by decide +kernel
theorem dX1_comesBefore_28 : decode cX1_comesBefore 28 = .ok (.getfield 23, 3) := by decide +kernel
theorem dX1_comesBefore_31 : decode cX1_comesBefore 31 = .ok (.ifnonnull 14, 3) := by decide +kernel
theorem dX1_comesBefore_34 : decode cX1_comesBefore 34 = .ok (.aload_n 1, 1) := by decide +kernel
theorem dX1_comesBefore_35 : decode cX1_comesBefore 35 = .ok (.getfield 23, 3) := by decide +kernel
theorem dX1_comesBefore_38 : decode cX1_comesBefore 38 = .ok (.ifnull 7, 3) := by decide +kernel
theorem dX1_comesBefore_41 : decode cX1_comesBefore 41 = .ok (.iconst 1, 1) := by decide +kernel
theorem dX1_comesBefore_42 : decode cX1_comesBefore 42 = .ok (.goto 4, 3) := by decide +kernel
theorem dX1_comesBefore_45 : decode cX1_comesBefore 45 = .ok (.iconst 0, 1) := by decide +kernel
theorem dX1_comesBefore_46 : decode cX1_comesBefore 46 = .ok (.ireturn, 1) := by decide +kernel
theorem dX1_comesBefore_47 : decode cX1_comesBefore 47 = .ok (.aload_n 0, 1) := by decide +kernel
theorem dX1_comesBefore_48 : decode cX1_comesBefore 48 = .ok (.getfield 23, 3) := by decide +kernel
theorem dX1_comesBefore_51 : decode cX1_comesBefore 51 = .ok (.invokevirtual 55, 3) := by decide +kernel
theorem dX1_comesBefore_54 : decode cX1_comesBefore 54 = .ok (.aload_n 1, 1) := by decide +kernel
theorem dX1_comesBefore_55 : decode cX1_comesBefore 55 = .ok (.getfield 23, 3) := by decide +kernel
theorem dX1_comesBefore_58 : decode cX1_comesBefore 58 = .ok (.invokevirtual 55, 3) := by decide +kernel
theorem dX1_comesBefore_61 : decode cX1_comesBefore 61 = .ok (.if_icmp .ge 7, 3) := by decide +kernel
theorem dX1_comesBefore_64 : decode cX1_comesBefore 64 = .ok (.iconst 1, 1) := by decide +kernel
theorem dX1_comesBefore_65 : decode cX1_comesBefore 65 = .ok (.goto 4, 3) := by decide +kernel
theorem dX1_comesBefore_68 : decode cX1_comesBefore 68 = .ok (.iconst 0, 1) := by decide +kernel
theorem dX1_comesBefore_69 : decode cX1_comesBefore 69 = .ok (.ireturn, 1) := by decide +kernel
theorem dX2_init_0 : decode cX2_init 0 = .ok (.aload_n 0, 1) := by decide +kernel
theorem dX2_init_1 : decode cX2_init 1 = .ok (.iload_n 1, 1) := by decide +kernel
theorem dX2_init_2 : decode cX2_init 2 = .ok (.invokespecial 1, 3) := by decide +kernel
theorem dX2_init_5 : decode cX2_init 5 = .ok (.aload_n 0, 1) := by decide +kernel
theorem dX2_init_6 : decode cX2_init 6 = .ok (.iload_n 2, 1) := by decide +kernel
theorem dX2_init_7 : decode cX2_init 7 = .ok (.newarray .double, 2) := by decide +kernel
theorem dX2_init_9 : decode cX2_init 9 = .ok (.putfield 7, 3) := by decide +kernel
theorem dX2_init_12 : decode cX2_init 12 = .ok (.return_, 1) := by decide +kernel
theorem dX2_length_0 : decode cX2_length 0 = .ok (.aload_n 0, 1) := by decide +kernel
theorem dX2_length_1 : decode cX2_length 1 = .ok (.getfield 7, 3) := by decide +kernel
theorem dX2_length_4 : decode cX2_length 4 = .ok (.arraylength, 1) := by decide +kernel
theorem dX2_length_5 : decode cX2_length 5 = .ok (.ireturn, 1) := by decide +kernel
theorem dX2_read_0 : decode cX2_read 0 = .ok (.aload_n 2, 1) := by decide +kernel
theorem dX2_read_1 : decode cX2_read 1 = .ok (.aload_n 0, 1) := by decide +kernel
theorem dX2_read_2 : decode cX2_read 2 = .ok (.getfield 13, 3) := by decide +kernel
theorem dX2_read_5 : decode cX2_read 5 = .ok (.aload_n 0, 1) := by decide +kernel
theorem dX2_read_6 : decode cX2_read 6 = .ok (.getfield 7, 3) := by decide +kernel
theorem dX2_read_9 : decode cX2_read 9 = .ok (.iload_n 1, 1) := by decide +kernel
theorem dX2_read_10 : decode cX2_read 10 = .ok (.daload, 1) := by decide +kernel
theorem dX2_read_11 : decode cX2_read 11 = .ok (.invokevirtual 17, 3) := by decide +kernel
theorem dX2_read_14 : decode cX2_read 14 = .ok (.return_, 1) := by decide +kernel
theorem dX2_write_0 : decode cX2_write 0 = .ok (.aload_n 0, 1) := by decide +kernel
theorem dX2_write_1 : decode cX2_write 1 = .ok (.getfield 7, 3) := by decide +kernel
theorem dX2_write_4 : decode cX2_write 4 = .ok (.iload_n 1, 1) := by decide +kernel
theorem dX2_write_5 : decode cX2_write 5 = .ok (.aload_n 2, 1) := by decide +kernel
theorem dX2_write_6 : decode cX2_write 6 = .ok (.aload_n 0, 1) := by decide +kernel
theorem dX2_write_7 : decode cX2_write 7 = .ok (.getfield 13, 3) := by decide +kernel
theorem dX2_write_10 : decode cX2_write 10 = .ok (.invokevirtual 23, 3) := by decide +kernel
theorem dX2_write_13 : decode cX2_write 13 = .ok (.dastore, 1) := by decide +kernel
theorem dX2_write_14 : decode cX2_write 14 = .ok (.return_, 1) := by decide +kernel
theorem dX3_init_0 : decode cX3_init 0 = .ok (.aload_n 0, 1) := by decide +kernel
theorem dX3_init_1 : decode cX3_init 1 = .ok (.iload_n 1, 1) := by decide +kernel
theorem dX3_init_2 : decode cX3_init 2 = .ok (.invokespecial 3, 3) := by decide +kernel
theorem dX3_init_5 : decode cX3_init 5 = .ok (.return_, 1) := by decide +kernel
theorem dX3_measure_0 : decode cX3_measure 0 = .ok (.aload_n 0, 1) := by decide +kernel
theorem dX3_measure_1 : decode cX3_measure 1 = .ok (.invokevirtual 9, 3) := by decide +kernel
theorem dX3_measure_4 : decode cX3_measure 4 = .ok (.ireturn, 1) := by decide +kernel
theorem dX3_has_0 : decode cX3_has 0 = .ok (.iload_n 1, 1) := by decide +kernel
theorem dX3_has_1 : decode cX3_has 1 = .ok (.ifCond .lt 15, 3) := by decide +kernel
theorem dX3_has_4 : decode cX3_has 4 = .ok (.iload_n 1, 1) := by decide +kernel
theorem dX3_has_5 : decode cX3_has 5 = .ok (.aload_n 0, 1) := by decide +kernel
theorem dX3_has_6 : decode cX3_has 6 = .ok (.invokevirtual 9, 3) := by decide +kernel
theorem dX3_has_9 : decode cX3_has 9 = .ok (.if_icmp .ge 7, 3) := by decide +kernel
theorem dX3_has_12 : decode cX3_has 12 = .ok (.iconst 1, 1) := by decide +kernel
theorem dX3_has_13 : decode cX3_has 13 = .ok (.goto 4, 3) := by decide +kernel
theorem dX3_has_16 : decode cX3_has 16 = .ok (.iconst 0, 1) := by decide +kernel
theorem dX3_has_17 : decode cX3_has 17 = .ok (.ireturn, 1) := by decide +kernel
theorem dX3_isPlain_0 : decode cX3_isPlain 0 = .ok (.aload_n 0, 1) := by decide +kernel
theorem dX3_isPlain_1 : decode cX3_isPlain 1 = .ok (.getfield 15, 3) := by decide +kernel
theorem dX3_isPlain_4 : decode cX3_isPlain 4 = .ok (.bipush 7, 2) := by decide +kernel
theorem dX3_isPlain_6 : decode cX3_isPlain 6 = .ok (.if_icmp .gt 7, 3) := by decide +kernel
theorem dX3_isPlain_9 : decode cX3_isPlain 9 = .ok (.iconst 1, 1) := by decide +kernel
theorem dX3_isPlain_10 : decode cX3_isPlain 10 = .ok (.goto 4, 3) := by decide +kernel
theorem dX3_isPlain_13 : decode cX3_isPlain 13 = .ok (.iconst 0, 1) := by decide +kernel
theorem dX3_isPlain_14 : decode cX3_isPlain 14 = .ok (.ireturn, 1) := by decide +kernel
theorem dX3_goesAs_0 : decode cX3_goesAs 0 = .ok (.aload_n 0, 1) := by decide +kernel
theorem dX3_goesAs_1 : decode cX3_goesAs 1 = .ok (.invokevirtual 19, 3) := by decide +kernel
theorem dX3_goesAs_4 : decode cX3_goesAs 4 = .ok (.ifCond .eq 18, 3) := by decide +kernel
theorem dX3_goesAs_7 : decode cX3_goesAs 7 = .ok (.aload_n 0, 1) := by decide +kernel
theorem dX3_goesAs_8 : decode cX3_goesAs 8 = .ok (.getfield 15, 3) := by decide +kernel
theorem dX3_goesAs_11 : decode cX3_goesAs 11 = .ok (.iload_n 1, 1) := by decide +kernel
theorem dX3_goesAs_12 : decode cX3_goesAs 12 = .ok (.invokestatic 23, 3) := by decide +kernel
theorem dX3_goesAs_15 : decode cX3_goesAs 15 = .ok (.ifCond .eq 7, 3) := by decide +kernel
theorem dX3_goesAs_18 : decode cX3_goesAs 18 = .ok (.iconst 1, 1) := by decide +kernel
theorem dX3_goesAs_19 : decode cX3_goesAs 19 = .ok (.goto 4, 3) := by decide +kernel
theorem dX3_goesAs_22 : decode cX3_goesAs 22 = .ok (.iconst 0, 1) := by decide +kernel
theorem dX3_goesAs_23 : decode cX3_goesAs 23 = .ok (.ireturn, 1) := by decide +kernel
theorem dX3_takes_0 : decode cX3_takes 0 = .ok (.aload_n 1, 1) := by decide +kernel
theorem dX3_takes_1 : decode cX3_takes 1 = .ok (.invokevirtual 27, 3) := by decide +kernel
theorem dX3_takes_4 : decode cX3_takes 4 = .ok (.ifCond .eq 30, 3) := by decide +kernel
theorem dX3_takes_7 : decode cX3_takes 7 = .ok (.aload_n 0, 1) := by decide +kernel
theorem dX3_takes_8 : decode cX3_takes 8 = .ok (.invokevirtual 19, 3) := by decide +kernel
theorem dX3_takes_11 : decode cX3_takes 11 = .ok (.ifCond .eq 21, 3) := by decide +kernel
theorem dX3_takes_14 : decode cX3_takes 14 = .ok (.aload_n 1, 1) := by decide +kernel
theorem dX3_takes_15 : decode cX3_takes 15 = .ok (.getfield 32, 3) := by decide +kernel
theorem dX3_takes_18 : decode cX3_takes 18 = .ok (.aload_n 0, 1) := by decide +kernel
theorem dX3_takes_19 : decode cX3_takes 19 = .ok (.getfield 15, 3) := by decide +kernel
theorem dX3_takes_22 : decode cX3_takes 22 = .ok (.invokestatic 23, 3) := by decide +kernel
theorem dX3_takes_25 : decode cX3_takes 25 = .ok (.ifCond .eq 7, 3) := by decide +kernel
theorem dX3_takes_28 : decode cX3_takes 28 = .ok (.iconst 1, 1) := by decide +kernel
theorem dX3_takes_29 : decode cX3_takes 29 = .ok (.goto 4, 3) := by decide +kernel
theorem dX3_takes_32 : decode cX3_takes 32 = .ok (.iconst 0, 1) := by decide +kernel
theorem dX3_takes_33 : decode cX3_takes 33 = .ok (.ireturn, 1) := by decide +kernel
theorem dX3_takes_34 : decode cX3_takes 34 = .ok (.aload_n 0, 1) := by decide +kernel
theorem dX3_takes_35 : decode cX3_takes 35 = .ok (.invokevirtual 19, 3) := by decide +kernel
theorem dX3_takes_38 : decode cX3_takes 38 = .ok (.ifCond .ne 31, 3) := by decide +kernel
theorem dX3_takes_41 : decode cX3_takes 41 = .ok (.aload_n 1, 1) := by decide +kernel
theorem dX3_takes_42 : decode cX3_takes 42 = .ok (.getfield 35, 3) := by decide +kernel
theorem dX3_takes_45 : decode cX3_takes 45 = .ok (.ifnull 20, 3) := by decide +kernel
theorem dX3_takes_48 : decode cX3_takes 48 = .ok (.aload_n 1, 1) := by decide +kernel
theorem dX3_takes_49 : decode cX3_takes 49 = .ok (.getfield 35, 3) := by decide +kernel
theorem dX3_takes_52 : decode cX3_takes 52 = .ok (.getfield 39, 3) := by decide +kernel
theorem dX3_takes_55 : decode cX3_takes 55 = .ok (.aload_n 0, 1) := by decide +kernel
theorem dX3_takes_56 : decode cX3_takes 56 = .ok (.getfield 15, 3) := by decide +kernel
theorem dX3_takes_59 : decode cX3_takes 59 = .ok (.invokestatic 40, 3) := by decide +kernel
theorem dX3_takes_62 : decode cX3_takes 62 = .ok (.ifCond .eq 7, 3) := by decide +kernel
theorem dX3_takes_65 : decode cX3_takes 65 = .ok (.iconst 1, 1) := by decide +kernel
theorem dX3_takes_66 : decode cX3_takes 66 = .ok (.goto 4, 3) := by decide +kernel
theorem dX3_takes_69 : decode cX3_takes 69 = .ok (.iconst 0, 1) := by decide +kernel
theorem dX3_takes_70 : decode cX3_takes 70 = .ok (.ireturn, 1) := by decide +kernel
theorem dX4_init_0 : decode cX4_init 0 = .ok (.aload_n 0, 1) := by decide +kernel
theorem dX4_init_1 : decode cX4_init 1 = .ok (.invokespecial 1, 3) := by decide +kernel
theorem dX4_init_4 : decode cX4_init 4 = .ok (.aload_n 0, 1) := by decide +kernel
theorem dX4_init_5 : decode cX4_init 5 = .ok (.iload_n 1, 1) := by decide +kernel
theorem dX4_init_6 : decode cX4_init 6 = .ok (.putfield 7, 3) := by decide +kernel
theorem dX4_init_9 : decode cX4_init 9 = .ok (.return_, 1) := by decide +kernel
theorem dX5_init_0 : decode cX5_init 0 = .ok (.aload_n 0, 1) := by decide +kernel
theorem dX5_init_1 : decode cX5_init 1 = .ok (.iload_n 1, 1) := by decide +kernel
theorem dX5_init_2 : decode cX5_init 2 = .ok (.invokespecial 1, 3) := by decide +kernel
theorem dX5_init_5 : decode cX5_init 5 = .ok (.aload_n 0, 1) := by decide +kernel
theorem dX5_init_6 : decode cX5_init 6 = .ok (.iload_n 2, 1) := by decide +kernel
theorem dX5_init_7 : decode cX5_init 7 = .ok (.anewarray 7, 3) := by decide +kernel
theorem dX5_init_10 : decode cX5_init 10 = .ok (.putfield 9, 3) := by decide +kernel
theorem dX5_init_13 : decode cX5_init 13 = .ok (.return_, 1) := by decide +kernel
theorem dX5_length_0 : decode cX5_length 0 = .ok (.aload_n 0, 1) := by decide +kernel
theorem dX5_length_1 : decode cX5_length 1 = .ok (.getfield 9, 3) := by decide +kernel
theorem dX5_length_4 : decode cX5_length 4 = .ok (.arraylength, 1) := by decide +kernel
theorem dX5_length_5 : decode cX5_length 5 = .ok (.ireturn, 1) := by decide +kernel
theorem dX5_read_0 : decode cX5_read 0 = .ok (.aload_n 2, 1) := by decide +kernel
theorem dX5_read_1 : decode cX5_read 1 = .ok (.aload_n 0, 1) := by decide +kernel
theorem dX5_read_2 : decode cX5_read 2 = .ok (.getfield 9, 3) := by decide +kernel
theorem dX5_read_5 : decode cX5_read 5 = .ok (.iload_n 1, 1) := by decide +kernel
theorem dX5_read_6 : decode cX5_read 6 = .ok (.aaload, 1) := by decide +kernel
theorem dX5_read_7 : decode cX5_read 7 = .ok (.invokevirtual 15, 3) := by decide +kernel
theorem dX5_read_10 : decode cX5_read 10 = .ok (.return_, 1) := by decide +kernel
theorem dX5_write_0 : decode cX5_write 0 = .ok (.aload_n 0, 1) := by decide +kernel
theorem dX5_write_1 : decode cX5_write 1 = .ok (.getfield 9, 3) := by decide +kernel
theorem dX5_write_4 : decode cX5_write 4 = .ok (.iload_n 1, 1) := by decide +kernel
theorem dX5_write_5 : decode cX5_write 5 = .ok (.aload_n 2, 1) := by decide +kernel
theorem dX5_write_6 : decode cX5_write 6 = .ok (.getfield 21, 3) := by decide +kernel
theorem dX5_write_9 : decode cX5_write 9 = .ok (.aastore, 1) := by decide +kernel
theorem dX5_write_10 : decode cX5_write 10 = .ok (.return_, 1) := by decide +kernel
theorem dX6_init_0 : decode cX6_init 0 = .ok (.aload_n 0, 1) := by decide +kernel
theorem dX6_init_1 : decode cX6_init 1 = .ok (.iload_n 1, 1) := by decide +kernel
theorem dX6_init_2 : decode cX6_init 2 = .ok (.invokespecial 1, 3) := by decide +kernel
theorem dX6_init_5 : decode cX6_init 5 = .ok (.aload_n 0, 1) := by decide +kernel
theorem dX6_init_6 : decode cX6_init 6 = .ok (.iload_n 2, 1) := by decide +kernel
theorem dX6_init_7 : decode cX6_init 7 = .ok (.newarray .long, 2) := by decide +kernel
theorem dX6_init_9 : decode cX6_init 9 = .ok (.putfield 7, 3) := by decide +kernel
theorem dX6_init_12 : decode cX6_init 12 = .ok (.return_, 1) := by decide +kernel
theorem dX6_length_0 : decode cX6_length 0 = .ok (.aload_n 0, 1) := by decide +kernel
theorem dX6_length_1 : decode cX6_length 1 = .ok (.getfield 7, 3) := by decide +kernel
theorem dX6_length_4 : decode cX6_length 4 = .ok (.arraylength, 1) := by decide +kernel
theorem dX6_length_5 : decode cX6_length 5 = .ok (.ireturn, 1) := by decide +kernel
theorem dX6_read_0 : decode cX6_read 0 = .ok (.aload_n 2, 1) := by decide +kernel
theorem dX6_read_1 : decode cX6_read 1 = .ok (.aload_n 0, 1) := by decide +kernel
theorem dX6_read_2 : decode cX6_read 2 = .ok (.getfield 13, 3) := by decide +kernel
theorem dX6_read_5 : decode cX6_read 5 = .ok (.aload_n 0, 1) := by decide +kernel
theorem dX6_read_6 : decode cX6_read 6 = .ok (.getfield 7, 3) := by decide +kernel
theorem dX6_read_9 : decode cX6_read 9 = .ok (.iload_n 1, 1) := by decide +kernel
theorem dX6_read_10 : decode cX6_read 10 = .ok (.laload, 1) := by decide +kernel
theorem dX6_read_11 : decode cX6_read 11 = .ok (.invokevirtual 17, 3) := by decide +kernel
theorem dX6_read_14 : decode cX6_read 14 = .ok (.return_, 1) := by decide +kernel
theorem dX6_write_0 : decode cX6_write 0 = .ok (.aload_n 0, 1) := by decide +kernel
theorem dX6_write_1 : decode cX6_write 1 = .ok (.getfield 7, 3) := by decide +kernel
theorem dX6_write_4 : decode cX6_write 4 = .ok (.iload_n 1, 1) := by decide +kernel
theorem dX6_write_5 : decode cX6_write 5 = .ok (.aload_n 2, 1) := by decide +kernel
theorem dX6_write_6 : decode cX6_write 6 = .ok (.getfield 23, 3) := by decide +kernel
theorem dX6_write_9 : decode cX6_write 9 = .ok (.lastore, 1) := by decide +kernel
theorem dX6_write_10 : decode cX6_write 10 = .ok (.return_, 1) := by decide +kernel
theorem dX7_init_0 : decode cX7_init 0 = .ok (.aload_n 0, 1) := by decide +kernel
theorem dX7_init_1 : decode cX7_init 1 = .ok (.invokespecial 1, 3) := by decide +kernel
theorem dX7_init_4 : decode cX7_init 4 = .ok (.aload_n 0, 1) := by decide +kernel
theorem dX7_init_5 : decode cX7_init 5 = .ok (.bipush 12, 2) := by decide +kernel
theorem dX7_init_7 : decode cX7_init 7 = .ok (.anewarray 9, 3) := by decide +kernel
theorem dX7_init_10 : decode cX7_init 10 = .ok (.putfield 11, 3) := by decide +kernel
theorem dX7_init_13 : decode cX7_init 13 = .ok (.aload_n 0, 1) := by decide +kernel
theorem dX7_init_14 : decode cX7_init 14 = .ok (.bipush 24, 2) := by decide +kernel
theorem dX7_init_16 : decode cX7_init 16 = .ok (.anewarray 15, 3) := by decide +kernel
theorem dX7_init_19 : decode cX7_init 19 = .ok (.putfield 17, 3) := by decide +kernel
theorem dX7_init_22 : decode cX7_init 22 = .ok (.iconst 0, 1) := by decide +kernel
theorem dX7_init_23 : decode cX7_init 23 = .ok (.istore_n 1, 1) := by decide +kernel
theorem dX7_init_24 : decode cX7_init 24 = .ok (.iload_n 1, 1) := by decide +kernel
theorem dX7_init_25 : decode cX7_init 25 = .ok (.bipush 24, 2) := by decide +kernel
theorem dX7_init_27 : decode cX7_init 27 = .ok (.if_icmp .ge 22, 3) := by decide +kernel
theorem dX7_init_30 : decode cX7_init 30 = .ok (.aload_n 0, 1) := by decide +kernel
theorem dX7_init_31 : decode cX7_init 31 = .ok (.getfield 17, 3) := by decide +kernel
theorem dX7_init_34 : decode cX7_init 34 = .ok (.iload_n 1, 1) := by decide +kernel
theorem dX7_init_35 : decode cX7_init 35 = .ok (.new 15, 3) := by decide +kernel
theorem dX7_init_38 : decode cX7_init 38 = .ok (.dup, 1) := by decide +kernel
theorem dX7_init_39 : decode cX7_init 39 = .ok (.invokespecial 21, 3) := by decide +kernel
theorem dX7_init_42 : decode cX7_init 42 = .ok (.aastore, 1) := by decide +kernel
theorem dX7_init_43 : decode cX7_init 43 = .ok (.iinc 1 1, 3) := by decide +kernel
theorem dX7_init_46 : decode cX7_init 46 = .ok (.goto (-22), 3) := by decide +kernel
theorem dX7_init_49 : decode cX7_init 49 = .ok (.aload_n 0, 1) := by decide +kernel
theorem dX7_init_50 : decode cX7_init 50 = .ok (.bipush 24, 2) := by decide +kernel
theorem dX7_init_52 : decode cX7_init 52 = .ok (.newarray .int, 2) := by decide +kernel
theorem dX7_init_54 : decode cX7_init 54 = .ok (.putfield 22, 3) := by decide +kernel
theorem dX7_init_57 : decode cX7_init 57 = .ok (.aload_n 0, 1) := by decide +kernel
theorem dX7_init_58 : decode cX7_init 58 = .ok (.new 15, 3) := by decide +kernel
theorem dX7_init_61 : decode cX7_init 61 = .ok (.dup, 1) := by decide +kernel
theorem dX7_init_62 : decode cX7_init 62 = .ok (.invokespecial 21, 3) := by decide +kernel
theorem dX7_init_65 : decode cX7_init 65 = .ok (.putfield 26, 3) := by decide +kernel
theorem dX7_init_68 : decode cX7_init 68 = .ok (.aload_n 0, 1) := by decide +kernel
theorem dX7_init_69 : decode cX7_init 69 = .ok (.new 15, 3) := by decide +kernel
theorem dX7_init_72 : decode cX7_init 72 = .ok (.dup, 1) := by decide +kernel
theorem dX7_init_73 : decode cX7_init 73 = .ok (.invokespecial 21, 3) := by decide +kernel
theorem dX7_init_76 : decode cX7_init 76 = .ok (.putfield 30, 3) := by decide +kernel
theorem dX7_init_79 : decode cX7_init 79 = .ok (.aload_n 0, 1) := by decide +kernel
theorem dX7_init_80 : decode cX7_init 80 = .ok (.iconst 0, 1) := by decide +kernel
theorem dX7_init_81 : decode cX7_init 81 = .ok (.putfield 33, 3) := by decide +kernel
theorem dX7_init_84 : decode cX7_init 84 = .ok (.return_, 1) := by decide +kernel
theorem dX7_make_0 : decode cX7_make 0 = .ok (.iload_n 1, 1) := by decide +kernel
theorem dX7_make_1 : decode cX7_make 1 = .ok (.invokestatic 37, 3) := by decide +kernel
theorem dX7_make_4 : decode cX7_make 4 = .ok (.ifCond .eq 13, 3) := by decide +kernel
theorem dX7_make_7 : decode cX7_make 7 = .ok (.iload_n 2, 1) := by decide +kernel
theorem dX7_make_8 : decode cX7_make 8 = .ok (.ifCond .lt 9, 3) := by decide +kernel
theorem dX7_make_11 : decode cX7_make 11 = .ok (.iload_n 2, 1) := by decide +kernel
theorem dX7_make_12 : decode cX7_make 12 = .ok (.bipush 14, 2) := by decide +kernel
theorem dX7_make_14 : decode cX7_make 14 = .ok (.if_icmp .le 9, 3) := by decide +kernel
theorem dX7_make_17 : decode cX7_make 17 = .ok (.aload_n 0, 1) := by decide +kernel
theorem dX7_make_18 : decode cX7_make 18 = .ok (.iconst 1, 1) := by decide +kernel
theorem dX7_make_19 : decode cX7_make 19 = .ok (.invokevirtual 41, 3) := by decide +kernel
theorem dX7_make_22 : decode cX7_make 22 = .ok (.ireturn, 1) := by decide +kernel
theorem dX7_make_23 : decode cX7_make 23 = .ok (.iload_n 2, 1) := by decide +kernel
theorem dX7_make_24 : decode cX7_make 24 = .ok (.bipush 12, 2) := by decide +kernel
theorem dX7_make_26 : decode cX7_make 26 = .ok (.if_icmp .lt 24, 3) := by decide +kernel
theorem dX7_make_29 : decode cX7_make 29 = .ok (.aload_n 0, 1) := by decide +kernel
theorem dX7_make_30 : decode cX7_make 30 = .ok (.getfield 11, 3) := by decide +kernel
theorem dX7_make_33 : decode cX7_make 33 = .ok (.iload_n 1, 1) := by decide +kernel
theorem dX7_make_34 : decode cX7_make 34 = .ok (.new 45, 3) := by decide +kernel
theorem dX7_make_37 : decode cX7_make 37 = .ok (.dup, 1) := by decide +kernel
theorem dX7_make_38 : decode cX7_make 38 = .ok (.iload_n 2, 1) := by decide +kernel
theorem dX7_make_39 : decode cX7_make 39 = .ok (.iload_n 3, 1) := by decide +kernel
theorem dX7_make_40 : decode cX7_make 40 = .ok (.invokespecial 47, 3) := by decide +kernel
theorem dX7_make_43 : decode cX7_make 43 = .ok (.aastore, 1) := by decide +kernel
theorem dX7_make_44 : decode cX7_make 44 = .ok (.aload_n 0, 1) := by decide +kernel
theorem dX7_make_45 : decode cX7_make 45 = .ok (.iconst 1, 1) := by decide +kernel
theorem dX7_make_46 : decode cX7_make 46 = .ok (.invokevirtual 50, 3) := by decide +kernel
theorem dX7_make_49 : decode cX7_make 49 = .ok (.ireturn, 1) := by decide +kernel
theorem dX7_make_50 : decode cX7_make 50 = .ok (.iload_n 3, 1) := by decide +kernel
theorem dX7_make_51 : decode cX7_make 51 = .ok (.ifCond .lt 9, 3) := by decide +kernel
theorem dX7_make_54 : decode cX7_make 54 = .ok (.iload_n 3, 1) := by decide +kernel
theorem dX7_make_55 : decode cX7_make 55 = .ok (.bipush 24, 2) := by decide +kernel
theorem dX7_make_57 : decode cX7_make 57 = .ok (.if_icmp .le 9, 3) := by decide +kernel
theorem dX7_make_60 : decode cX7_make 60 = .ok (.aload_n 0, 1) := by decide +kernel
theorem dX7_make_61 : decode cX7_make 61 = .ok (.iconst 1, 1) := by decide +kernel
theorem dX7_make_62 : decode cX7_make 62 = .ok (.invokevirtual 41, 3) := by decide +kernel
theorem dX7_make_65 : decode cX7_make 65 = .ok (.ireturn, 1) := by decide +kernel
theorem dX7_make_66 : decode cX7_make 66 = .ok (.aload_n 0, 1) := by decide +kernel
theorem dX7_make_67 : decode cX7_make 67 = .ok (.getfield 11, 3) := by decide +kernel
theorem dX7_make_70 : decode cX7_make 70 = .ok (.iload_n 1, 1) := by decide +kernel
theorem dX7_make_71 : decode cX7_make 71 = .ok (.iload_n 2, 1) := by decide +kernel
theorem dX7_make_72 : decode cX7_make 72 = .ok (.iload_n 3, 1) := by decide +kernel
theorem dX7_make_73 : decode cX7_make 73 = .ok (.invokestatic 53, 3) := by decide +kernel
theorem dX7_make_76 : decode cX7_make 76 = .ok (.aastore, 1) := by decide +kernel
theorem dX7_make_77 : decode cX7_make 77 = .ok (.aload_n 0, 1) := by decide +kernel
theorem dX7_make_78 : decode cX7_make 78 = .ok (.iconst 1, 1) := by decide +kernel
theorem dX7_make_79 : decode cX7_make 79 = .ok (.invokevirtual 50, 3) := by decide +kernel
theorem dX7_make_82 : decode cX7_make 82 = .ok (.ireturn, 1) := by decide +kernel
theorem dX7_lay_0 : decode cX7_lay 0 = .ok (.iload_n 1, 1) := by decide +kernel
theorem dX7_lay_1 : decode cX7_lay 1 = .ok (.invokestatic 37, 3) := by decide +kernel
theorem dX7_lay_4 : decode cX7_lay 4 = .ok (.ifCond .eq 10, 3) := by decide +kernel
theorem dX7_lay_7 : decode cX7_lay 7 = .ok (.iload_n 2, 1) := by decide +kernel
theorem dX7_lay_8 : decode cX7_lay 8 = .ok (.invokestatic 37, 3) := by decide +kernel
theorem dX7_lay_11 : decode cX7_lay 11 = .ok (.ifCond .ne 9, 3) := by decide +kernel
theorem dX7_lay_14 : decode cX7_lay 14 = .ok (.aload_n 0, 1) := by decide +kernel
theorem dX7_lay_15 : decode cX7_lay 15 = .ok (.iconst 1, 1) := by decide +kernel
theorem dX7_lay_16 : decode cX7_lay 16 = .ok (.invokevirtual 41, 3) := by decide +kernel
theorem dX7_lay_19 : decode cX7_lay 19 = .ok (.ireturn, 1) := by decide +kernel
theorem dX7_lay_20 : decode cX7_lay 20 = .ok (.aload_n 0, 1) := by decide +kernel
theorem dX7_lay_21 : decode cX7_lay 21 = .ok (.getfield 11, 3) := by decide +kernel
theorem dX7_lay_24 : decode cX7_lay 24 = .ok (.iload_n 2, 1) := by decide +kernel
theorem dX7_lay_25 : decode cX7_lay 25 = .ok (.aload_n 0, 1) := by decide +kernel
theorem dX7_lay_26 : decode cX7_lay 26 = .ok (.getfield 11, 3) := by decide +kernel
theorem dX7_lay_29 : decode cX7_lay 29 = .ok (.iload_n 1, 1) := by decide +kernel
theorem dX7_lay_30 : decode cX7_lay 30 = .ok (.aaload, 1) := by decide +kernel
theorem dX7_lay_31 : decode cX7_lay 31 = .ok (.aastore, 1) := by decide +kernel
theorem dX7_lay_32 : decode cX7_lay 32 = .ok (.aload_n 0, 1) := by decide +kernel
theorem dX7_lay_33 : decode cX7_lay 33 = .ok (.aload_n 0, 1) := by decide +kernel
theorem dX7_lay_34 : decode cX7_lay 34 = .ok (.getfield 11, 3) := by decide +kernel
theorem dX7_lay_37 : decode cX7_lay 37 = .ok (.iload_n 2, 1) := by decide +kernel
theorem dX7_lay_38 : decode cX7_lay 38 = .ok (.aaload, 1) := by decide +kernel
theorem dX7_lay_39 : decode cX7_lay 39 = .ok (.invokestatic 57, 3) := by decide +kernel
theorem dX7_lay_42 : decode cX7_lay 42 = .ok (.invokevirtual 50, 3) := by decide +kernel
theorem dX7_lay_45 : decode cX7_lay 45 = .ok (.ireturn, 1) := by decide +kernel
theorem dX7_places_0 : decode cX7_places 0 = .ok (.aload_n 0, 1) := by decide +kernel
theorem dX7_places_1 : decode cX7_places 1 = .ok (.iload_n 1, 1) := by decide +kernel
theorem dX7_places_2 : decode cX7_places 2 = .ok (.invokevirtual 61, 3) := by decide +kernel
theorem dX7_places_5 : decode cX7_places 5 = .ok (.astore_n 2, 1) := by decide +kernel
theorem dX7_places_6 : decode cX7_places 6 = .ok (.aload_n 2, 1) := by decide +kernel
theorem dX7_places_7 : decode cX7_places 7 = .ok (.ifnonnull 13, 3) := by decide +kernel
theorem dX7_places_10 : decode cX7_places 10 = .ok (.aload_n 0, 1) := by decide +kernel
theorem dX7_places_11 : decode cX7_places 11 = .ok (.aload_n 0, 1) := by decide +kernel
theorem dX7_places_12 : decode cX7_places 12 = .ok (.iload_n 1, 1) := by decide +kernel
theorem dX7_places_13 : decode cX7_places 13 = .ok (.invokevirtual 65, 3) := by decide +kernel
theorem dX7_places_16 : decode cX7_places 16 = .ok (.invokevirtual 41, 3) := by decide +kernel
theorem dX7_places_19 : decode cX7_places 19 = .ok (.ireturn, 1) := by decide +kernel
theorem dX7_places_20 : decode cX7_places 20 = .ok (.aload_n 0, 1) := by decide +kernel
theorem dX7_places_21 : decode cX7_places 21 = .ok (.aload_n 2, 1) := by decide +kernel
theorem dX7_places_22 : decode cX7_places 22 = .ok (.invokevirtual 68, 3) := by decide +kernel
theorem dX7_places_25 : decode cX7_places 25 = .ok (.invokevirtual 50, 3) := by decide +kernel
theorem dX7_places_28 : decode cX7_places 28 = .ok (.ireturn, 1) := by decide +kernel
theorem dX7_kind_0 : decode cX7_kind 0 = .ok (.iload_n 1, 1) := by decide +kernel
theorem dX7_kind_1 : decode cX7_kind 1 = .ok (.invokestatic 37, 3) := by decide +kernel
theorem dX7_kind_4 : decode cX7_kind 4 = .ok (.ifCond .ne 9, 3) := by decide +kernel
theorem dX7_kind_7 : decode cX7_kind 7 = .ok (.aload_n 0, 1) := by decide +kernel
theorem dX7_kind_8 : decode cX7_kind 8 = .ok (.iconst 1, 1) := by decide +kernel
theorem dX7_kind_9 : decode cX7_kind 9 = .ok (.invokevirtual 41, 3) := by decide +kernel
theorem dX7_kind_12 : decode cX7_kind 12 = .ok (.ireturn, 1) := by decide +kernel
theorem dX7_kind_13 : decode cX7_kind 13 = .ok (.aload_n 0, 1) := by decide +kernel
theorem dX7_kind_14 : decode cX7_kind 14 = .ok (.aload_n 0, 1) := by decide +kernel
theorem dX7_kind_15 : decode cX7_kind 15 = .ok (.getfield 11, 3) := by decide +kernel
theorem dX7_kind_18 : decode cX7_kind 18 = .ok (.iload_n 1, 1) := by decide +kernel
theorem dX7_kind_19 : decode cX7_kind 19 = .ok (.aaload, 1) := by decide +kernel
theorem dX7_kind_20 : decode cX7_kind 20 = .ok (.invokestatic 74, 3) := by decide +kernel
theorem dX7_kind_23 : decode cX7_kind 23 = .ok (.invokevirtual 50, 3) := by decide +kernel
theorem dX7_kind_26 : decode cX7_kind 26 = .ok (.ireturn, 1) := by decide +kernel
theorem dX7_tag_0 : decode cX7_tag 0 = .ok (.aload_n 0, 1) := by decide +kernel
theorem dX7_tag_1 : decode cX7_tag 1 = .ok (.iload_n 1, 1) := by decide +kernel
theorem dX7_tag_2 : decode cX7_tag 2 = .ok (.invokevirtual 77, 3) := by decide +kernel
theorem dX7_tag_5 : decode cX7_tag 5 = .ok (.astore_n 2, 1) := by decide +kernel
theorem dX7_tag_6 : decode cX7_tag 6 = .ok (.aload_n 2, 1) := by decide +kernel
theorem dX7_tag_7 : decode cX7_tag 7 = .ok (.ifnonnull 12, 3) := by decide +kernel
theorem dX7_tag_10 : decode cX7_tag 10 = .ok (.aload_n 0, 1) := by decide +kernel
theorem dX7_tag_11 : decode cX7_tag 11 = .ok (.iload_n 1, 1) := by decide +kernel
theorem dX7_tag_12 : decode cX7_tag 12 = .ok (.invokestatic 81, 3) := by decide +kernel
theorem dX7_tag_15 : decode cX7_tag 15 = .ok (.invokevirtual 41, 3) := by decide +kernel
theorem dX7_tag_18 : decode cX7_tag 18 = .ok (.ireturn, 1) := by decide +kernel
theorem dX7_tag_19 : decode cX7_tag 19 = .ok (.aload_n 0, 1) := by decide +kernel
theorem dX7_tag_20 : decode cX7_tag 20 = .ok (.aload_n 2, 1) := by decide +kernel
theorem dX7_tag_21 : decode cX7_tag 21 = .ok (.getfield 84, 3) := by decide +kernel
theorem dX7_tag_24 : decode cX7_tag 24 = .ok (.invokevirtual 50, 3) := by decide +kernel
theorem dX7_tag_27 : decode cX7_tag 27 = .ok (.ireturn, 1) := by decide +kernel
theorem dX7_load_0 : decode cX7_load 0 = .ok (.aload_n 0, 1) := by decide +kernel
theorem dX7_load_1 : decode cX7_load 1 = .ok (.iload_n 1, 1) := by decide +kernel
theorem dX7_load_2 : decode cX7_load 2 = .ok (.invokevirtual 77, 3) := by decide +kernel
theorem dX7_load_5 : decode cX7_load 5 = .ok (.astore_n 2, 1) := by decide +kernel
theorem dX7_load_6 : decode cX7_load 6 = .ok (.aload_n 2, 1) := by decide +kernel
theorem dX7_load_7 : decode cX7_load 7 = .ok (.ifnonnull 12, 3) := by decide +kernel
theorem dX7_load_10 : decode cX7_load 10 = .ok (.aload_n 0, 1) := by decide +kernel
theorem dX7_load_11 : decode cX7_load 11 = .ok (.iload_n 1, 1) := by decide +kernel
theorem dX7_load_12 : decode cX7_load 12 = .ok (.invokestatic 81, 3) := by decide +kernel
theorem dX7_load_15 : decode cX7_load 15 = .ok (.invokevirtual 41, 3) := by decide +kernel
theorem dX7_load_18 : decode cX7_load 18 = .ok (.ireturn, 1) := by decide +kernel
theorem dX7_load_19 : decode cX7_load 19 = .ok (.aload_n 0, 1) := by decide +kernel
theorem dX7_load_20 : decode cX7_load 20 = .ok (.aload_n 2, 1) := by decide +kernel
theorem dX7_load_21 : decode cX7_load 21 = .ok (.getfield 87, 3) := by decide +kernel
theorem dX7_load_24 : decode cX7_load 24 = .ok (.bipush 14, 2) := by decide +kernel
theorem dX7_load_26 : decode cX7_load 26 = .ok (.if_icmp .ne 14, 3) := by decide +kernel
theorem dX7_load_29 : decode cX7_load 29 = .ok (.iconst 2, 1) := by decide +kernel
theorem dX7_load_30 : decode cX7_load 30 = .ok (.aload_n 2, 1) := by decide +kernel
theorem dX7_load_31 : decode cX7_load 31 = .ok (.getfield 84, 3) := by decide +kernel
theorem dX7_load_34 : decode cX7_load 34 = .ok (.imul, 1) := by decide +kernel
theorem dX7_load_35 : decode cX7_load 35 = .ok (.iconst 1, 1) := by decide +kernel
theorem dX7_load_36 : decode cX7_load 36 = .ok (.iadd, 1) := by decide +kernel
theorem dX7_load_37 : decode cX7_load 37 = .ok (.goto 7, 3) := by decide +kernel
theorem dX7_load_40 : decode cX7_load 40 = .ok (.aload_n 2, 1) := by decide +kernel
theorem dX7_load_41 : decode cX7_load 41 = .ok (.getfield 84, 3) := by decide +kernel
theorem dX7_load_44 : decode cX7_load 44 = .ok (.invokevirtual 50, 3) := by decide +kernel
theorem dX7_load_47 : decode cX7_load 47 = .ok (.ireturn, 1) := by decide +kernel
theorem dX7_put_0 : decode cX7_put 0 = .ok (.aload_n 0, 1) := by decide +kernel
theorem dX7_put_1 : decode cX7_put 1 = .ok (.iload_n 1, 1) := by decide +kernel
theorem dX7_put_2 : decode cX7_put 2 = .ok (.iload_n 2, 1) := by decide +kernel
theorem dX7_put_3 : decode cX7_put 3 = .ok (.iload_n 3, 1) := by decide +kernel
theorem dX7_put_4 : decode cX7_put 4 = .ok (.iload 4, 2) := by decide +kernel
theorem dX7_put_6 : decode cX7_put 6 = .ok (.iload 5, 2) := by decide +kernel
theorem dX7_put_8 : decode cX7_put 8 = .ok (.invokevirtual 90, 3) := by decide +kernel
theorem dX7_put_11 : decode cX7_put 11 = .ok (.ireturn, 1) := by decide +kernel
theorem dX7_putBoxed_0 : decode cX7_putBoxed 0 = .ok (.aload_n 0, 1) := by decide +kernel
theorem dX7_putBoxed_1 : decode cX7_putBoxed 1 = .ok (.iload_n 1, 1) := by decide +kernel
theorem dX7_putBoxed_2 : decode cX7_putBoxed 2 = .ok (.iload_n 2, 1) := by decide +kernel
theorem dX7_putBoxed_3 : decode cX7_putBoxed 3 = .ok (.iload_n 3, 1) := by decide +kernel
theorem dX7_putBoxed_4 : decode cX7_putBoxed 4 = .ok (.iload 4, 2) := by decide +kernel
theorem dX7_putBoxed_6 : decode cX7_putBoxed 6 = .ok (.iload 5, 2) := by decide +kernel
theorem dX7_putBoxed_8 : decode cX7_putBoxed 8 = .ok (.invokevirtual 90, 3) := by decide +kernel
theorem dX7_putBoxed_11 : decode cX7_putBoxed 11 = .ok (.ireturn, 1) := by decide +kernel
theorem dX7_putThing_0 : decode cX7_putThing 0 = .ok (.iload_n 3, 1) := by decide +kernel
theorem dX7_putThing_1 : decode cX7_putThing 1 = .ok (.invokestatic 37, 3) := by decide +kernel
theorem dX7_putThing_4 : decode cX7_putThing 4 = .ok (.ifCond .ne 9, 3) := by decide +kernel
theorem dX7_putThing_7 : decode cX7_putThing 7 = .ok (.aload_n 0, 1) := by decide +kernel
theorem dX7_putThing_8 : decode cX7_putThing 8 = .ok (.iconst 1, 1) := by decide +kernel
theorem dX7_putThing_9 : decode cX7_putThing 9 = .ok (.invokevirtual 41, 3) := by decide +kernel
theorem dX7_putThing_12 : decode cX7_putThing 12 = .ok (.ireturn, 1) := by decide +kernel
theorem dX7_putThing_13 : decode cX7_putThing 13 = .ok (.aload_n 0, 1) := by decide +kernel
theorem dX7_putThing_14 : decode cX7_putThing 14 = .ok (.iload_n 1, 1) := by decide +kernel
theorem dX7_putThing_15 : decode cX7_putThing 15 = .ok (.invokevirtual 61, 3) := by decide +kernel
theorem dX7_putThing_18 : decode cX7_putThing 18 = .ok (.astore 4, 2) := by decide +kernel
theorem dX7_putThing_20 : decode cX7_putThing 20 = .ok (.aload 4, 2) := by decide +kernel
theorem dX7_putThing_22 : decode cX7_putThing 22 = .ok (.ifnonnull 13, 3) := by decide +kernel
theorem dX7_putThing_25 : decode cX7_putThing 25 = .ok (.aload_n 0, 1) := by decide +kernel
theorem dX7_putThing_26 : decode cX7_putThing 26 = .ok (.aload_n 0, 1) := by decide +kernel
theorem dX7_putThing_27 : decode cX7_putThing 27 = .ok (.iload_n 1, 1) := by decide +kernel
theorem dX7_putThing_28 : decode cX7_putThing 28 = .ok (.invokevirtual 65, 3) := by decide +kernel
theorem dX7_putThing_31 : decode cX7_putThing 31 = .ok (.invokevirtual 41, 3) := by decide +kernel
theorem dX7_putThing_34 : decode cX7_putThing 34 = .ok (.ireturn, 1) := by decide +kernel
theorem dX7_putThing_35 : decode cX7_putThing 35 = .ok (.aload_n 0, 1) := by decide +kernel
theorem dX7_putThing_36 : decode cX7_putThing 36 = .ok (.getfield 26, 3) := by decide +kernel
theorem dX7_putThing_39 : decode cX7_putThing 39 = .ok (.aload_n 0, 1) := by decide +kernel
theorem dX7_putThing_40 : decode cX7_putThing 40 = .ok (.getfield 11, 3) := by decide +kernel
theorem dX7_putThing_43 : decode cX7_putThing 43 = .ok (.iload_n 3, 1) := by decide +kernel
theorem dX7_putThing_44 : decode cX7_putThing 44 = .ok (.aaload, 1) := by decide +kernel
theorem dX7_putThing_45 : decode cX7_putThing 45 = .ok (.invokevirtual 94, 3) := by decide +kernel
theorem dX7_putThing_48 : decode cX7_putThing 48 = .ok (.aload_n 0, 1) := by decide +kernel
theorem dX7_putThing_49 : decode cX7_putThing 49 = .ok (.aload 4, 2) := by decide +kernel
theorem dX7_putThing_51 : decode cX7_putThing 51 = .ok (.iload_n 2, 1) := by decide +kernel
theorem dX7_putThing_52 : decode cX7_putThing 52 = .ok (.aload_n 0, 1) := by decide +kernel
theorem dX7_putThing_53 : decode cX7_putThing 53 = .ok (.getfield 11, 3) := by decide +kernel
theorem dX7_putThing_56 : decode cX7_putThing 56 = .ok (.iload_n 3, 1) := by decide +kernel
theorem dX7_putThing_57 : decode cX7_putThing 57 = .ok (.aaload, 1) := by decide +kernel
theorem dX7_putThing_58 : decode cX7_putThing 58 = .ok (.invokestatic 57, 3) := by decide +kernel
theorem dX7_putThing_61 : decode cX7_putThing 61 = .ok (.invokevirtual 98, 3) := by decide +kernel
theorem dX7_putThing_64 : decode cX7_putThing 64 = .ok (.ireturn, 1) := by decide +kernel
theorem dX7_number_0 : decode cX7_number 0 = .ok (.iload_n 3, 1) := by decide +kernel
theorem dX7_number_1 : decode cX7_number 1 = .ok (.ifCond .lt 8, 3) := by decide +kernel
theorem dX7_number_4 : decode cX7_number 4 = .ok (.iload_n 3, 1) := by decide +kernel
theorem dX7_number_5 : decode cX7_number 5 = .ok (.iconst 5, 1) := by decide +kernel
theorem dX7_number_6 : decode cX7_number 6 = .ok (.if_icmp .le 10, 3) := by decide +kernel
theorem dX7_number_9 : decode cX7_number 9 = .ok (.aload_n 0, 1) := by decide +kernel
theorem dX7_number_10 : decode cX7_number 10 = .ok (.iconst 1, 1) := by decide +kernel
theorem dX7_number_11 : decode cX7_number 11 = .ok (.invokevirtual 41, 3) := by decide +kernel
theorem dX7_number_14 : decode cX7_number 14 = .ok (.i2l, 1) := by decide +kernel
theorem dX7_number_15 : decode cX7_number 15 = .ok (.lreturn, 1) := by decide +kernel
theorem dX7_number_16 : decode cX7_number 16 = .ok (.aload_n 0, 1) := by decide +kernel
theorem dX7_number_17 : decode cX7_number 17 = .ok (.iload_n 1, 1) := by decide +kernel
theorem dX7_number_18 : decode cX7_number 18 = .ok (.iload_n 2, 1) := by decide +kernel
theorem dX7_number_19 : decode cX7_number 19 = .ok (.iload_n 3, 1) := by decide +kernel
theorem dX7_number_20 : decode cX7_number 20 = .ok (.invokevirtual 102, 3) := by decide +kernel
theorem dX7_number_23 : decode cX7_number 23 = .ok (.ifCond .eq 13, 3) := by decide +kernel
theorem dX7_number_26 : decode cX7_number 26 = .ok (.aload_n 0, 1) := by decide +kernel
theorem dX7_number_27 : decode cX7_number 27 = .ok (.getfield 26, 3) := by decide +kernel
theorem dX7_number_30 : decode cX7_number 30 = .ok (.getfield 106, 3) := by decide +kernel
theorem dX7_number_33 : decode cX7_number 33 = .ok (.goto 4, 3) := by decide +kernel
theorem dX7_number_36 : decode cX7_number 36 = .ok (.lconst 0, 1) := by decide +kernel
theorem dX7_number_37 : decode cX7_number 37 = .ok (.lreturn, 1) := by decide +kernel
theorem dX7_point_0 : decode cX7_point 0 = .ok (.iload_n 3, 1) := by decide +kernel
theorem dX7_point_1 : decode cX7_point 1 = .ok (.bipush 6, 2) := by decide +kernel
theorem dX7_point_3 : decode cX7_point 3 = .ok (.if_icmp .eq 16, 3) := by decide +kernel
theorem dX7_point_6 : decode cX7_point 6 = .ok (.iload_n 3, 1) := by decide +kernel
theorem dX7_point_7 : decode cX7_point 7 = .ok (.bipush 7, 2) := by decide +kernel
theorem dX7_point_9 : decode cX7_point 9 = .ok (.if_icmp .eq 10, 3) := by decide +kernel
theorem dX7_point_12 : decode cX7_point 12 = .ok (.aload_n 0, 1) := by decide +kernel
theorem dX7_point_13 : decode cX7_point 13 = .ok (.iconst 1, 1) := by decide +kernel
theorem dX7_point_14 : decode cX7_point 14 = .ok (.invokevirtual 41, 3) := by decide +kernel
theorem dX7_point_17 : decode cX7_point 17 = .ok (.i2d, 1) := by decide +kernel
theorem dX7_point_18 : decode cX7_point 18 = .ok (.dreturn, 1) := by decide +kernel
theorem dX7_point_19 : decode cX7_point 19 = .ok (.aload_n 0, 1) := by decide +kernel
theorem dX7_point_20 : decode cX7_point 20 = .ok (.iload_n 1, 1) := by decide +kernel
theorem dX7_point_21 : decode cX7_point 21 = .ok (.iload_n 2, 1) := by decide +kernel
theorem dX7_point_22 : decode cX7_point 22 = .ok (.iload_n 3, 1) := by decide +kernel
theorem dX7_point_23 : decode cX7_point 23 = .ok (.invokevirtual 102, 3) := by decide +kernel
theorem dX7_point_26 : decode cX7_point 26 = .ok (.ifCond .eq 14, 3) := by decide +kernel
theorem dX7_point_29 : decode cX7_point 29 = .ok (.aload_n 0, 1) := by decide +kernel
theorem dX7_point_30 : decode cX7_point 30 = .ok (.getfield 26, 3) := by decide +kernel
theorem dX7_point_33 : decode cX7_point 33 = .ok (.iload_n 3, 1) := by decide +kernel
theorem dX7_point_34 : decode cX7_point 34 = .ok (.invokevirtual 110, 3) := by decide +kernel
theorem dX7_point_37 : decode cX7_point 37 = .ok (.goto 4, 3) := by decide +kernel
theorem dX7_point_40 : decode cX7_point 40 = .ok (.dconst 0, 1) := by decide +kernel
theorem dX7_point_41 : decode cX7_point 41 = .ok (.dreturn, 1) := by decide +kernel
theorem dX7_what_0 : decode cX7_what 0 = .ok (.aload_n 0, 1) := by decide +kernel
theorem dX7_what_1 : decode cX7_what 1 = .ok (.iload_n 1, 1) := by decide +kernel
theorem dX7_what_2 : decode cX7_what 2 = .ok (.invokevirtual 61, 3) := by decide +kernel
theorem dX7_what_5 : decode cX7_what 5 = .ok (.astore_n 3, 1) := by decide +kernel
theorem dX7_what_6 : decode cX7_what 6 = .ok (.aload_n 3, 1) := by decide +kernel
theorem dX7_what_7 : decode cX7_what 7 = .ok (.ifnonnull 13, 3) := by decide +kernel
theorem dX7_what_10 : decode cX7_what 10 = .ok (.aload_n 0, 1) := by decide +kernel
theorem dX7_what_11 : decode cX7_what 11 = .ok (.aload_n 0, 1) := by decide +kernel
theorem dX7_what_12 : decode cX7_what 12 = .ok (.iload_n 1, 1) := by decide +kernel
theorem dX7_what_13 : decode cX7_what 13 = .ok (.invokevirtual 65, 3) := by decide +kernel
theorem dX7_what_16 : decode cX7_what 16 = .ok (.invokevirtual 41, 3) := by decide +kernel
theorem dX7_what_19 : decode cX7_what 19 = .ok (.ireturn, 1) := by decide +kernel
theorem dX7_what_20 : decode cX7_what 20 = .ok (.aload_n 3, 1) := by decide +kernel
theorem dX7_what_21 : decode cX7_what 21 = .ok (.iload_n 2, 1) := by decide +kernel
theorem dX7_what_22 : decode cX7_what 22 = .ok (.invokevirtual 114, 3) := by decide +kernel
theorem dX7_what_25 : decode cX7_what 25 = .ok (.ifCond .ne 9, 3) := by decide +kernel
theorem dX7_what_28 : decode cX7_what 28 = .ok (.aload_n 0, 1) := by decide +kernel
theorem dX7_what_29 : decode cX7_what 29 = .ok (.iconst 4, 1) := by decide +kernel
theorem dX7_what_30 : decode cX7_what 30 = .ok (.invokevirtual 41, 3) := by decide +kernel
theorem dX7_what_33 : decode cX7_what 33 = .ok (.ireturn, 1) := by decide +kernel
theorem dX7_what_34 : decode cX7_what 34 = .ok (.aload_n 3, 1) := by decide +kernel
theorem dX7_what_35 : decode cX7_what 35 = .ok (.iload_n 2, 1) := by decide +kernel
theorem dX7_what_36 : decode cX7_what 36 = .ok (.aload_n 0, 1) := by decide +kernel
theorem dX7_what_37 : decode cX7_what 37 = .ok (.getfield 26, 3) := by decide +kernel
theorem dX7_what_40 : decode cX7_what 40 = .ok (.invokevirtual 117, 3) := by decide +kernel
theorem dX7_what_43 : decode cX7_what 43 = .ok (.aload_n 0, 1) := by decide +kernel
theorem dX7_what_44 : decode cX7_what 44 = .ok (.aload_n 0, 1) := by decide +kernel
theorem dX7_what_45 : decode cX7_what 45 = .ok (.getfield 26, 3) := by decide +kernel
theorem dX7_what_48 : decode cX7_what 48 = .ok (.invokevirtual 121, 3) := by decide +kernel
theorem dX7_what_51 : decode cX7_what 51 = .ok (.ifCond .eq 13, 3) := by decide +kernel
theorem dX7_what_54 : decode cX7_what 54 = .ok (.aload_n 0, 1) := by decide +kernel
theorem dX7_what_55 : decode cX7_what 55 = .ok (.getfield 26, 3) := by decide +kernel
theorem dX7_what_58 : decode cX7_what 58 = .ok (.getfield 125, 3) := by decide +kernel
theorem dX7_what_61 : decode cX7_what 61 = .ok (.goto 13, 3) := by decide +kernel
theorem dX7_what_64 : decode cX7_what 64 = .ok (.aload_n 0, 1) := by decide +kernel
theorem dX7_what_65 : decode cX7_what 65 = .ok (.getfield 26, 3) := by decide +kernel
theorem dX7_what_68 : decode cX7_what 68 = .ok (.getfield 128, 3) := by decide +kernel
theorem dX7_what_71 : decode cX7_what 71 = .ok (.invokestatic 74, 3) := by decide +kernel
theorem dX7_what_74 : decode cX7_what 74 = .ok (.invokevirtual 50, 3) := by decide +kernel
theorem dX7_what_77 : decode cX7_what 77 = .ok (.ireturn, 1) := by decide +kernel
theorem dX7_take_0 : decode cX7_take 0 = .ok (.iload_n 3, 1) := by decide +kernel
theorem dX7_take_1 : decode cX7_take 1 = .ok (.invokestatic 37, 3) := by decide +kernel
theorem dX7_take_4 : decode cX7_take 4 = .ok (.ifCond .ne 9, 3) := by decide +kernel
theorem dX7_take_7 : decode cX7_take 7 = .ok (.aload_n 0, 1) := by decide +kernel
theorem dX7_take_8 : decode cX7_take 8 = .ok (.iconst 1, 1) := by decide +kernel
theorem dX7_take_9 : decode cX7_take 9 = .ok (.invokevirtual 41, 3) := by decide +kernel
theorem dX7_take_12 : decode cX7_take 12 = .ok (.ireturn, 1) := by decide +kernel
theorem dX7_take_13 : decode cX7_take 13 = .ok (.aload_n 0, 1) := by decide +kernel
theorem dX7_take_14 : decode cX7_take 14 = .ok (.iload_n 1, 1) := by decide +kernel
theorem dX7_take_15 : decode cX7_take 15 = .ok (.invokevirtual 61, 3) := by decide +kernel
theorem dX7_take_18 : decode cX7_take 18 = .ok (.astore 4, 2) := by decide +kernel
theorem dX7_take_20 : decode cX7_take 20 = .ok (.aload 4, 2) := by decide +kernel
theorem dX7_take_22 : decode cX7_take 22 = .ok (.ifnonnull 13, 3) := by decide +kernel
theorem dX7_take_25 : decode cX7_take 25 = .ok (.aload_n 0, 1) := by decide +kernel
theorem dX7_take_26 : decode cX7_take 26 = .ok (.aload_n 0, 1) := by decide +kernel
theorem dX7_take_27 : decode cX7_take 27 = .ok (.iload_n 1, 1) := by decide +kernel
theorem dX7_take_28 : decode cX7_take 28 = .ok (.invokevirtual 65, 3) := by decide +kernel
theorem dX7_take_31 : decode cX7_take 31 = .ok (.invokevirtual 41, 3) := by decide +kernel
theorem dX7_take_34 : decode cX7_take 34 = .ok (.ireturn, 1) := by decide +kernel
theorem dX7_take_35 : decode cX7_take 35 = .ok (.aload 4, 2) := by decide +kernel
theorem dX7_take_37 : decode cX7_take 37 = .ok (.invokevirtual 132, 3) := by decide +kernel
theorem dX7_take_40 : decode cX7_take 40 = .ok (.ifCond .eq 10, 3) := by decide +kernel
theorem dX7_take_43 : decode cX7_take 43 = .ok (.aload_n 0, 1) := by decide +kernel
theorem dX7_take_44 : decode cX7_take 44 = .ok (.bipush 6, 2) := by decide +kernel
theorem dX7_take_46 : decode cX7_take 46 = .ok (.invokevirtual 41, 3) := by decide +kernel
theorem dX7_take_49 : decode cX7_take 49 = .ok (.ireturn, 1) := by decide +kernel
theorem dX7_take_50 : decode cX7_take 50 = .ok (.aload 4, 2) := by decide +kernel
theorem dX7_take_52 : decode cX7_take 52 = .ok (.iload_n 2, 1) := by decide +kernel
theorem dX7_take_53 : decode cX7_take 53 = .ok (.invokevirtual 114, 3) := by decide +kernel
theorem dX7_take_56 : decode cX7_take 56 = .ok (.ifCond .ne 9, 3) := by decide +kernel
theorem dX7_take_59 : decode cX7_take 59 = .ok (.aload_n 0, 1) := by decide +kernel
theorem dX7_take_60 : decode cX7_take 60 = .ok (.iconst 4, 1) := by decide +kernel
theorem dX7_take_61 : decode cX7_take 61 = .ok (.invokevirtual 41, 3) := by decide +kernel
theorem dX7_take_64 : decode cX7_take 64 = .ok (.ireturn, 1) := by decide +kernel
theorem dX7_take_65 : decode cX7_take 65 = .ok (.aload 4, 2) := by decide +kernel
theorem dX7_take_67 : decode cX7_take 67 = .ok (.iload_n 2, 1) := by decide +kernel
theorem dX7_take_68 : decode cX7_take 68 = .ok (.aload_n 0, 1) := by decide +kernel
theorem dX7_take_69 : decode cX7_take 69 = .ok (.getfield 26, 3) := by decide +kernel
theorem dX7_take_72 : decode cX7_take 72 = .ok (.invokevirtual 117, 3) := by decide +kernel
theorem dX7_take_75 : decode cX7_take 75 = .ok (.aload_n 0, 1) := by decide +kernel
theorem dX7_take_76 : decode cX7_take 76 = .ok (.getfield 11, 3) := by decide +kernel
theorem dX7_take_79 : decode cX7_take 79 = .ok (.iload_n 3, 1) := by decide +kernel
theorem dX7_take_80 : decode cX7_take 80 = .ok (.aload_n 0, 1) := by decide +kernel
theorem dX7_take_81 : decode cX7_take 81 = .ok (.getfield 26, 3) := by decide +kernel
theorem dX7_take_84 : decode cX7_take 84 = .ok (.getfield 128, 3) := by decide +kernel
theorem dX7_take_87 : decode cX7_take 87 = .ok (.aastore, 1) := by decide +kernel
theorem dX7_take_88 : decode cX7_take 88 = .ok (.aload_n 0, 1) := by decide +kernel
theorem dX7_take_89 : decode cX7_take 89 = .ok (.aload_n 0, 1) := by decide +kernel
theorem dX7_take_90 : decode cX7_take 90 = .ok (.getfield 26, 3) := by decide +kernel
theorem dX7_take_93 : decode cX7_take 93 = .ok (.getfield 128, 3) := by decide +kernel
theorem dX7_take_96 : decode cX7_take 96 = .ok (.invokestatic 57, 3) := by decide +kernel
theorem dX7_take_99 : decode cX7_take 99 = .ok (.invokevirtual 50, 3) := by decide +kernel
theorem dX7_take_102 : decode cX7_take 102 = .ok (.ireturn, 1) := by decide +kernel
theorem dX7_copy_0 : decode cX7_copy 0 = .ok (.aload_n 0, 1) := by decide +kernel
theorem dX7_copy_1 : decode cX7_copy 1 = .ok (.iload_n 1, 1) := by decide +kernel
theorem dX7_copy_2 : decode cX7_copy 2 = .ok (.invokevirtual 61, 3) := by decide +kernel
theorem dX7_copy_5 : decode cX7_copy 5 = .ok (.astore_n 3, 1) := by decide +kernel
theorem dX7_copy_6 : decode cX7_copy 6 = .ok (.aload_n 0, 1) := by decide +kernel
theorem dX7_copy_7 : decode cX7_copy 7 = .ok (.iload_n 2, 1) := by decide +kernel
theorem dX7_copy_8 : decode cX7_copy 8 = .ok (.invokevirtual 61, 3) := by decide +kernel
theorem dX7_copy_11 : decode cX7_copy 11 = .ok (.astore 4, 2) := by decide +kernel
theorem dX7_copy_13 : decode cX7_copy 13 = .ok (.aload_n 3, 1) := by decide +kernel
theorem dX7_copy_14 : decode cX7_copy 14 = .ok (.ifnull 8, 3) := by decide +kernel
theorem dX7_copy_17 : decode cX7_copy 17 = .ok (.aload 4, 2) := by decide +kernel
theorem dX7_copy_19 : decode cX7_copy 19 = .ok (.ifnonnull 21, 3) := by decide +kernel
theorem dX7_copy_22 : decode cX7_copy 22 = .ok (.aload_n 0, 1) := by decide +kernel
theorem dX7_copy_23 : decode cX7_copy 23 = .ok (.aload_n 0, 1) := by decide +kernel
theorem dX7_copy_24 : decode cX7_copy 24 = .ok (.iload_n 1, 1) := by decide +kernel
theorem dX7_copy_25 : decode cX7_copy 25 = .ok (.invokevirtual 65, 3) := by decide +kernel
theorem dX7_copy_28 : decode cX7_copy 28 = .ok (.aload_n 0, 1) := by decide +kernel
theorem dX7_copy_29 : decode cX7_copy 29 = .ok (.iload_n 2, 1) := by decide +kernel
theorem dX7_copy_30 : decode cX7_copy 30 = .ok (.invokevirtual 65, 3) := by decide +kernel
theorem dX7_copy_33 : decode cX7_copy 33 = .ok (.invokestatic 135, 3) := by decide +kernel
theorem dX7_copy_36 : decode cX7_copy 36 = .ok (.invokevirtual 41, 3) := by decide +kernel
theorem dX7_copy_39 : decode cX7_copy 39 = .ok (.ireturn, 1) := by decide +kernel
theorem dX7_copy_40 : decode cX7_copy 40 = .ok (.aload_n 3, 1) := by decide +kernel
theorem dX7_copy_41 : decode cX7_copy 41 = .ok (.invokevirtual 68, 3) := by decide +kernel
theorem dX7_copy_44 : decode cX7_copy 44 = .ok (.aload 4, 2) := by decide +kernel
theorem dX7_copy_46 : decode cX7_copy 46 = .ok (.invokevirtual 68, 3) := by decide +kernel
theorem dX7_copy_49 : decode cX7_copy 49 = .ok (.if_icmp .eq 9, 3) := by decide +kernel
theorem dX7_copy_52 : decode cX7_copy 52 = .ok (.aload_n 0, 1) := by decide +kernel
theorem dX7_copy_53 : decode cX7_copy 53 = .ok (.iconst 4, 1) := by decide +kernel
theorem dX7_copy_54 : decode cX7_copy 54 = .ok (.invokevirtual 41, 3) := by decide +kernel
theorem dX7_copy_57 : decode cX7_copy 57 = .ok (.ireturn, 1) := by decide +kernel
theorem dX7_copy_58 : decode cX7_copy 58 = .ok (.iconst 0, 1) := by decide +kernel
theorem dX7_copy_59 : decode cX7_copy 59 = .ok (.istore 5, 2) := by decide +kernel
theorem dX7_copy_61 : decode cX7_copy 61 = .ok (.iload 5, 2) := by decide +kernel
theorem dX7_copy_63 : decode cX7_copy 63 = .ok (.aload_n 3, 1) := by decide +kernel
theorem dX7_copy_64 : decode cX7_copy 64 = .ok (.invokevirtual 68, 3) := by decide +kernel
theorem dX7_copy_67 : decode cX7_copy 67 = .ok (.if_icmp .ge 43, 3) := by decide +kernel
theorem dX7_copy_70 : decode cX7_copy 70 = .ok (.aload_n 3, 1) := by decide +kernel
theorem dX7_copy_71 : decode cX7_copy 71 = .ok (.iload 5, 2) := by decide +kernel
theorem dX7_copy_73 : decode cX7_copy 73 = .ok (.aload_n 0, 1) := by decide +kernel
theorem dX7_copy_74 : decode cX7_copy 74 = .ok (.getfield 17, 3) := by decide +kernel
theorem dX7_copy_77 : decode cX7_copy 77 = .ok (.iload 5, 2) := by decide +kernel
theorem dX7_copy_79 : decode cX7_copy 79 = .ok (.aaload, 1) := by decide +kernel
theorem dX7_copy_80 : decode cX7_copy 80 = .ok (.invokevirtual 117, 3) := by decide +kernel
theorem dX7_copy_83 : decode cX7_copy 83 = .ok (.aload 4, 2) := by decide +kernel
theorem dX7_copy_85 : decode cX7_copy 85 = .ok (.aload_n 0, 1) := by decide +kernel
theorem dX7_copy_86 : decode cX7_copy 86 = .ok (.getfield 17, 3) := by decide +kernel
theorem dX7_copy_89 : decode cX7_copy 89 = .ok (.iload 5, 2) := by decide +kernel
theorem dX7_copy_91 : decode cX7_copy 91 = .ok (.aaload, 1) := by decide +kernel
theorem dX7_copy_92 : decode cX7_copy 92 = .ok (.invokevirtual 139, 3) := by decide +kernel
theorem dX7_copy_95 : decode cX7_copy 95 = .ok (.ifCond .ne 9, 3) := by decide +kernel
theorem dX7_copy_98 : decode cX7_copy 98 = .ok (.aload_n 0, 1) := by decide +kernel
theorem dX7_copy_99 : decode cX7_copy 99 = .ok (.iconst 5, 1) := by decide +kernel
theorem dX7_copy_100 : decode cX7_copy 100 = .ok (.invokevirtual 41, 3) := by decide +kernel
theorem dX7_copy_103 : decode cX7_copy 103 = .ok (.ireturn, 1) := by decide +kernel
theorem dX7_copy_104 : decode cX7_copy 104 = .ok (.iinc 5 1, 3) := by decide +kernel
theorem dX7_copy_107 : decode cX7_copy 107 = .ok (.goto (-46), 3) := by decide +kernel
theorem dX7_copy_110 : decode cX7_copy 110 = .ok (.aload_n 0, 1) := by decide +kernel
theorem dX7_copy_111 : decode cX7_copy 111 = .ok (.aload_n 0, 1) := by decide +kernel
theorem dX7_copy_112 : decode cX7_copy 112 = .ok (.aload 4, 2) := by decide +kernel
theorem dX7_copy_114 : decode cX7_copy 114 = .ok (.invokevirtual 143, 3) := by decide +kernel
theorem dX7_copy_117 : decode cX7_copy 117 = .ok (.invokevirtual 50, 3) := by decide +kernel
theorem dX7_copy_120 : decode cX7_copy 120 = .ok (.ireturn, 1) := by decide +kernel
theorem dX7_gather_0 : decode cX7_gather 0 = .ok (.aload_n 0, 1) := by decide +kernel
theorem dX7_gather_1 : decode cX7_gather 1 = .ok (.iload_n 1, 1) := by decide +kernel
theorem dX7_gather_2 : decode cX7_gather 2 = .ok (.iload_n 2, 1) := by decide +kernel
theorem dX7_gather_3 : decode cX7_gather 3 = .ok (.iload_n 3, 1) := by decide +kernel
theorem dX7_gather_4 : decode cX7_gather 4 = .ok (.iconst 1, 1) := by decide +kernel
theorem dX7_gather_5 : decode cX7_gather 5 = .ok (.invokevirtual 147, 3) := by decide +kernel
theorem dX7_gather_8 : decode cX7_gather 8 = .ok (.ireturn, 1) := by decide +kernel
theorem dX7_scatter_0 : decode cX7_scatter 0 = .ok (.aload_n 0, 1) := by decide +kernel
theorem dX7_scatter_1 : decode cX7_scatter 1 = .ok (.iload_n 1, 1) := by decide +kernel
theorem dX7_scatter_2 : decode cX7_scatter 2 = .ok (.iload_n 2, 1) := by decide +kernel
theorem dX7_scatter_3 : decode cX7_scatter 3 = .ok (.iload_n 3, 1) := by decide +kernel
theorem dX7_scatter_4 : decode cX7_scatter 4 = .ok (.iconst 0, 1) := by decide +kernel
theorem dX7_scatter_5 : decode cX7_scatter 5 = .ok (.invokevirtual 147, 3) := by decide +kernel
theorem dX7_scatter_8 : decode cX7_scatter 8 = .ok (.ireturn, 1) := by decide +kernel
theorem dX7_merge_0 : decode cX7_merge 0 = .ok (.aload_n 0, 1) := by decide +kernel
theorem dX7_merge_1 : decode cX7_merge 1 = .ok (.iload_n 1, 1) := by decide +kernel
theorem dX7_merge_2 : decode cX7_merge 2 = .ok (.invokevirtual 61, 3) := by decide +kernel
theorem dX7_merge_5 : decode cX7_merge 5 = .ok (.astore 4, 2) := by decide +kernel
theorem dX7_merge_7 : decode cX7_merge 7 = .ok (.aload_n 0, 1) := by decide +kernel
theorem dX7_merge_8 : decode cX7_merge 8 = .ok (.iload_n 2, 1) := by decide +kernel
theorem dX7_merge_9 : decode cX7_merge 9 = .ok (.invokevirtual 61, 3) := by decide +kernel
theorem dX7_merge_12 : decode cX7_merge 12 = .ok (.astore 5, 2) := by decide +kernel
theorem dX7_merge_14 : decode cX7_merge 14 = .ok (.aload_n 0, 1) := by decide +kernel
theorem dX7_merge_15 : decode cX7_merge 15 = .ok (.iload_n 3, 1) := by decide +kernel
theorem dX7_merge_16 : decode cX7_merge 16 = .ok (.invokevirtual 61, 3) := by decide +kernel
theorem dX7_merge_19 : decode cX7_merge 19 = .ok (.astore 6, 2) := by decide +kernel
theorem dX7_merge_21 : decode cX7_merge 21 = .ok (.aload 4, 2) := by decide +kernel
theorem dX7_merge_23 : decode cX7_merge 23 = .ok (.ifnull 13, 3) := by decide +kernel
theorem dX7_merge_26 : decode cX7_merge 26 = .ok (.aload 5, 2) := by decide +kernel
theorem dX7_merge_28 : decode cX7_merge 28 = .ok (.ifnull 8, 3) := by decide +kernel
theorem dX7_merge_31 : decode cX7_merge 31 = .ok (.aload 6, 2) := by decide +kernel
theorem dX7_merge_33 : decode cX7_merge 33 = .ok (.ifnonnull 15, 3) := by decide +kernel
theorem dX7_merge_36 : decode cX7_merge 36 = .ok (.aload_n 0, 1) := by decide +kernel
theorem dX7_merge_37 : decode cX7_merge 37 = .ok (.aload_n 0, 1) := by decide +kernel
theorem dX7_merge_38 : decode cX7_merge 38 = .ok (.iload_n 1, 1) := by decide +kernel
theorem dX7_merge_39 : decode cX7_merge 39 = .ok (.iload_n 2, 1) := by decide +kernel
theorem dX7_merge_40 : decode cX7_merge 40 = .ok (.iload_n 3, 1) := by decide +kernel
theorem dX7_merge_41 : decode cX7_merge 41 = .ok (.invokevirtual 151, 3) := by decide +kernel
theorem dX7_merge_44 : decode cX7_merge 44 = .ok (.invokevirtual 41, 3) := by decide +kernel
theorem dX7_merge_47 : decode cX7_merge 47 = .ok (.ireturn, 1) := by decide +kernel
theorem dX7_merge_48 : decode cX7_merge 48 = .ok (.aload 4, 2) := by decide +kernel
theorem dX7_merge_50 : decode cX7_merge 50 = .ok (.invokevirtual 132, 3) := by decide +kernel
theorem dX7_merge_53 : decode cX7_merge 53 = .ok (.ifCond .eq 19, 3) := by decide +kernel
theorem dX7_merge_56 : decode cX7_merge 56 = .ok (.aload 5, 2) := by decide +kernel
theorem dX7_merge_58 : decode cX7_merge 58 = .ok (.invokevirtual 132, 3) := by decide +kernel
theorem dX7_merge_61 : decode cX7_merge 61 = .ok (.ifCond .eq 11, 3) := by decide +kernel
theorem dX7_merge_64 : decode cX7_merge 64 = .ok (.aload 6, 2) := by decide +kernel
theorem dX7_merge_66 : decode cX7_merge 66 = .ok (.invokevirtual 132, 3) := by decide +kernel
theorem dX7_merge_69 : decode cX7_merge 69 = .ok (.ifCond .ne 10, 3) := by decide +kernel
theorem dX7_merge_72 : decode cX7_merge 72 = .ok (.aload_n 0, 1) := by decide +kernel
theorem dX7_merge_73 : decode cX7_merge 73 = .ok (.bipush 6, 2) := by decide +kernel
theorem dX7_merge_75 : decode cX7_merge 75 = .ok (.invokevirtual 41, 3) := by decide +kernel
theorem dX7_merge_78 : decode cX7_merge 78 = .ok (.ireturn, 1) := by decide +kernel
theorem dX7_merge_79 : decode cX7_merge 79 = .ok (.aload 4, 2) := by decide +kernel
theorem dX7_merge_81 : decode cX7_merge 81 = .ok (.getfield 155, 3) := by decide +kernel
theorem dX7_merge_84 : decode cX7_merge 84 = .ok (.ifCond .ne 7, 3) := by decide +kernel
theorem dX7_merge_87 : decode cX7_merge 87 = .ok (.iconst 1, 1) := by decide +kernel
theorem dX7_merge_88 : decode cX7_merge 88 = .ok (.goto 4, 3) := by decide +kernel
theorem dX7_merge_91 : decode cX7_merge 91 = .ok (.iconst 0, 1) := by decide +kernel
theorem dX7_merge_92 : decode cX7_merge 92 = .ok (.aload 5, 2) := by decide +kernel
theorem dX7_merge_94 : decode cX7_merge 94 = .ok (.getfield 155, 3) := by decide +kernel
theorem dX7_merge_97 : decode cX7_merge 97 = .ok (.ifCond .ne 7, 3) := by decide +kernel
theorem dX7_merge_100 : decode cX7_merge 100 = .ok (.iconst 1, 1) := by decide +kernel
theorem dX7_merge_101 : decode cX7_merge 101 = .ok (.goto 4, 3) := by decide +kernel
theorem dX7_merge_104 : decode cX7_merge 104 = .ok (.iconst 0, 1) := by decide +kernel
theorem dX7_merge_105 : decode cX7_merge 105 = .ok (.if_icmp .eq 10, 3) := by decide +kernel
theorem dX7_merge_108 : decode cX7_merge 108 = .ok (.aload_n 0, 1) := by decide +kernel
theorem dX7_merge_109 : decode cX7_merge 109 = .ok (.bipush 6, 2) := by decide +kernel
theorem dX7_merge_111 : decode cX7_merge 111 = .ok (.invokevirtual 41, 3) := by decide +kernel
theorem dX7_merge_114 : decode cX7_merge 114 = .ok (.ireturn, 1) := by decide +kernel
theorem dX7_merge_115 : decode cX7_merge 115 = .ok (.aload 6, 2) := by decide +kernel
theorem dX7_merge_117 : decode cX7_merge 117 = .ok (.invokevirtual 68, 3) := by decide +kernel
theorem dX7_merge_120 : decode cX7_merge 120 = .ok (.aload 4, 2) := by decide +kernel
theorem dX7_merge_122 : decode cX7_merge 122 = .ok (.invokevirtual 68, 3) := by decide +kernel
theorem dX7_merge_125 : decode cX7_merge 125 = .ok (.aload 5, 2) := by decide +kernel
theorem dX7_merge_127 : decode cX7_merge 127 = .ok (.invokevirtual 68, 3) := by decide +kernel
theorem dX7_merge_130 : decode cX7_merge 130 = .ok (.iadd, 1) := by decide +kernel
theorem dX7_merge_131 : decode cX7_merge 131 = .ok (.if_icmp .eq 9, 3) := by decide +kernel
theorem dX7_merge_134 : decode cX7_merge 134 = .ok (.aload_n 0, 1) := by decide +kernel
theorem dX7_merge_135 : decode cX7_merge 135 = .ok (.iconst 4, 1) := by decide +kernel
theorem dX7_merge_136 : decode cX7_merge 136 = .ok (.invokevirtual 41, 3) := by decide +kernel
theorem dX7_merge_139 : decode cX7_merge 139 = .ok (.ireturn, 1) := by decide +kernel
theorem dX7_merge_140 : decode cX7_merge 140 = .ok (.iconst 0, 1) := by decide +kernel
theorem dX7_merge_141 : decode cX7_merge 141 = .ok (.istore 7, 2) := by decide +kernel
theorem dX7_merge_143 : decode cX7_merge 143 = .ok (.iconst 0, 1) := by decide +kernel
theorem dX7_merge_144 : decode cX7_merge 144 = .ok (.istore 8, 2) := by decide +kernel
theorem dX7_merge_146 : decode cX7_merge 146 = .ok (.iload 8, 2) := by decide +kernel
theorem dX7_merge_148 : decode cX7_merge 148 = .ok (.aload 6, 2) := by decide +kernel
theorem dX7_merge_150 : decode cX7_merge 150 = .ok (.invokevirtual 68, 3) := by decide +kernel
theorem dX7_merge_153 : decode cX7_merge 153 = .ok (.if_icmp .ge 86, 3) := by decide +kernel
theorem dX7_merge_156 : decode cX7_merge 156 = .ok (.iload 8, 2) := by decide +kernel
theorem dX7_merge_158 : decode cX7_merge 158 = .ok (.iload 7, 2) := by decide +kernel
theorem dX7_merge_160 : decode cX7_merge 160 = .ok (.isub, 1) := by decide +kernel
theorem dX7_merge_161 : decode cX7_merge 161 = .ok (.istore 9, 2) := by decide +kernel
theorem dX7_merge_163 : decode cX7_merge 163 = .ok (.aload_n 0, 1) := by decide +kernel
theorem dX7_merge_164 : decode cX7_merge 164 = .ok (.aload 4, 2) := by decide +kernel
theorem dX7_merge_166 : decode cX7_merge 166 = .ok (.iload 7, 2) := by decide +kernel
theorem dX7_merge_168 : decode cX7_merge 168 = .ok (.aload 5, 2) := by decide +kernel
theorem dX7_merge_170 : decode cX7_merge 170 = .ok (.iload 9, 2) := by decide +kernel
theorem dX7_merge_172 : decode cX7_merge 172 = .ok (.invokevirtual 156, 3) := by decide +kernel
theorem dX7_merge_175 : decode cX7_merge 175 = .ok (.ifCond .eq 20, 3) := by decide +kernel
theorem dX7_merge_178 : decode cX7_merge 178 = .ok (.aload 5, 2) := by decide +kernel
theorem dX7_merge_180 : decode cX7_merge 180 = .ok (.iload 9, 2) := by decide +kernel
theorem dX7_merge_182 : decode cX7_merge 182 = .ok (.aload_n 0, 1) := by decide +kernel
theorem dX7_merge_183 : decode cX7_merge 183 = .ok (.getfield 17, 3) := by decide +kernel
theorem dX7_merge_186 : decode cX7_merge 186 = .ok (.iload 8, 2) := by decide +kernel
theorem dX7_merge_188 : decode cX7_merge 188 = .ok (.aaload, 1) := by decide +kernel
theorem dX7_merge_189 : decode cX7_merge 189 = .ok (.invokevirtual 117, 3) := by decide +kernel
theorem dX7_merge_192 : decode cX7_merge 192 = .ok (.goto 20, 3) := by decide +kernel
theorem dX7_merge_195 : decode cX7_merge 195 = .ok (.aload 4, 2) := by decide +kernel
theorem dX7_merge_197 : decode cX7_merge 197 = .ok (.iload 7, 2) := by decide +kernel
theorem dX7_merge_199 : decode cX7_merge 199 = .ok (.aload_n 0, 1) := by decide +kernel
theorem dX7_merge_200 : decode cX7_merge 200 = .ok (.getfield 17, 3) := by decide +kernel
theorem dX7_merge_203 : decode cX7_merge 203 = .ok (.iload 8, 2) := by decide +kernel
theorem dX7_merge_205 : decode cX7_merge 205 = .ok (.aaload, 1) := by decide +kernel
theorem dX7_merge_206 : decode cX7_merge 206 = .ok (.invokevirtual 117, 3) := by decide +kernel
theorem dX7_merge_209 : decode cX7_merge 209 = .ok (.iinc 7 1, 3) := by decide +kernel
theorem dX7_merge_212 : decode cX7_merge 212 = .ok (.aload 6, 2) := by decide +kernel
theorem dX7_merge_214 : decode cX7_merge 214 = .ok (.aload_n 0, 1) := by decide +kernel
theorem dX7_merge_215 : decode cX7_merge 215 = .ok (.getfield 17, 3) := by decide +kernel
theorem dX7_merge_218 : decode cX7_merge 218 = .ok (.iload 8, 2) := by decide +kernel
theorem dX7_merge_220 : decode cX7_merge 220 = .ok (.aaload, 1) := by decide +kernel
theorem dX7_merge_221 : decode cX7_merge 221 = .ok (.invokevirtual 139, 3) := by decide +kernel
theorem dX7_merge_224 : decode cX7_merge 224 = .ok (.ifCond .ne 9, 3) := by decide +kernel
theorem dX7_merge_227 : decode cX7_merge 227 = .ok (.aload_n 0, 1) := by decide +kernel
theorem dX7_merge_228 : decode cX7_merge 228 = .ok (.iconst 5, 1) := by decide +kernel
theorem dX7_merge_229 : decode cX7_merge 229 = .ok (.invokevirtual 41, 3) := by decide +kernel
theorem dX7_merge_232 : decode cX7_merge 232 = .ok (.ireturn, 1) := by decide +kernel
theorem dX7_merge_233 : decode cX7_merge 233 = .ok (.iinc 8 1, 3) := by decide +kernel
theorem dX7_merge_236 : decode cX7_merge 236 = .ok (.goto (-90), 3) := by decide +kernel
theorem dX7_merge_239 : decode cX7_merge 239 = .ok (.aload_n 0, 1) := by decide +kernel
theorem dX7_merge_240 : decode cX7_merge 240 = .ok (.aload_n 0, 1) := by decide +kernel
theorem dX7_merge_241 : decode cX7_merge 241 = .ok (.aload 6, 2) := by decide +kernel
theorem dX7_merge_243 : decode cX7_merge 243 = .ok (.invokevirtual 143, 3) := by decide +kernel
theorem dX7_merge_246 : decode cX7_merge 246 = .ok (.invokevirtual 50, 3) := by decide +kernel
theorem dX7_merge_249 : decode cX7_merge 249 = .ok (.ireturn, 1) := by decide +kernel
theorem dX7_sort_0 : decode cX7_sort 0 = .ok (.aload_n 0, 1) := by decide +kernel
theorem dX7_sort_1 : decode cX7_sort 1 = .ok (.iload_n 1, 1) := by decide +kernel
theorem dX7_sort_2 : decode cX7_sort 2 = .ok (.invokevirtual 61, 3) := by decide +kernel
theorem dX7_sort_5 : decode cX7_sort 5 = .ok (.astore_n 2, 1) := by decide +kernel
theorem dX7_sort_6 : decode cX7_sort 6 = .ok (.aload_n 2, 1) := by decide +kernel
theorem dX7_sort_7 : decode cX7_sort 7 = .ok (.ifnonnull 13, 3) := by decide +kernel
theorem dX7_sort_10 : decode cX7_sort 10 = .ok (.aload_n 0, 1) := by decide +kernel
theorem dX7_sort_11 : decode cX7_sort 11 = .ok (.aload_n 0, 1) := by decide +kernel
theorem dX7_sort_12 : decode cX7_sort 12 = .ok (.iload_n 1, 1) := by decide +kernel
theorem dX7_sort_13 : decode cX7_sort 13 = .ok (.invokevirtual 65, 3) := by decide +kernel
theorem dX7_sort_16 : decode cX7_sort 16 = .ok (.invokevirtual 41, 3) := by decide +kernel
theorem dX7_sort_19 : decode cX7_sort 19 = .ok (.ireturn, 1) := by decide +kernel
theorem dX7_sort_20 : decode cX7_sort 20 = .ok (.iconst 0, 1) := by decide +kernel
theorem dX7_sort_21 : decode cX7_sort 21 = .ok (.istore_n 3, 1) := by decide +kernel
theorem dX7_sort_22 : decode cX7_sort 22 = .ok (.iload_n 3, 1) := by decide +kernel
theorem dX7_sort_23 : decode cX7_sort 23 = .ok (.aload_n 2, 1) := by decide +kernel
theorem dX7_sort_24 : decode cX7_sort 24 = .ok (.invokevirtual 68, 3) := by decide +kernel
theorem dX7_sort_27 : decode cX7_sort 27 = .ok (.if_icmp .ge 25, 3) := by decide +kernel
theorem dX7_sort_30 : decode cX7_sort 30 = .ok (.aload_n 2, 1) := by decide +kernel
theorem dX7_sort_31 : decode cX7_sort 31 = .ok (.iload_n 3, 1) := by decide +kernel
theorem dX7_sort_32 : decode cX7_sort 32 = .ok (.aload_n 0, 1) := by decide +kernel
theorem dX7_sort_33 : decode cX7_sort 33 = .ok (.getfield 17, 3) := by decide +kernel
theorem dX7_sort_36 : decode cX7_sort 36 = .ok (.iload_n 3, 1) := by decide +kernel
theorem dX7_sort_37 : decode cX7_sort 37 = .ok (.aaload, 1) := by decide +kernel
theorem dX7_sort_38 : decode cX7_sort 38 = .ok (.invokevirtual 117, 3) := by decide +kernel
theorem dX7_sort_41 : decode cX7_sort 41 = .ok (.aload_n 0, 1) := by decide +kernel
theorem dX7_sort_42 : decode cX7_sort 42 = .ok (.iload_n 3, 1) := by decide +kernel
theorem dX7_sort_43 : decode cX7_sort 43 = .ok (.invokevirtual 160, 3) := by decide +kernel
theorem dX7_sort_46 : decode cX7_sort 46 = .ok (.iinc 3 1, 3) := by decide +kernel
theorem dX7_sort_49 : decode cX7_sort 49 = .ok (.goto (-27), 3) := by decide +kernel
theorem dX7_sort_52 : decode cX7_sort 52 = .ok (.aload_n 0, 1) := by decide +kernel
theorem dX7_sort_53 : decode cX7_sort 53 = .ok (.aload_n 2, 1) := by decide +kernel
theorem dX7_sort_54 : decode cX7_sort 54 = .ok (.invokevirtual 164, 3) := by decide +kernel
theorem dX7_sort_57 : decode cX7_sort 57 = .ok (.istore_n 3, 1) := by decide +kernel
theorem dX7_sort_58 : decode cX7_sort 58 = .ok (.aload_n 0, 1) := by decide +kernel
theorem dX7_sort_59 : decode cX7_sort 59 = .ok (.aload_n 2, 1) := by decide +kernel
theorem dX7_sort_60 : decode cX7_sort 60 = .ok (.invokevirtual 143, 3) := by decide +kernel
theorem dX7_sort_63 : decode cX7_sort 63 = .ok (.pop, 1) := by decide +kernel
theorem dX7_sort_64 : decode cX7_sort 64 = .ok (.aload_n 0, 1) := by decide +kernel
theorem dX7_sort_65 : decode cX7_sort 65 = .ok (.iload_n 3, 1) := by decide +kernel
theorem dX7_sort_66 : decode cX7_sort 66 = .ok (.invokevirtual 50, 3) := by decide +kernel
theorem dX7_sort_69 : decode cX7_sort 69 = .ok (.ireturn, 1) := by decide +kernel
theorem dX7_turn_0 : decode cX7_turn 0 = .ok (.aload_n 0, 1) := by decide +kernel
theorem dX7_turn_1 : decode cX7_turn 1 = .ok (.iload_n 1, 1) := by decide +kernel
theorem dX7_turn_2 : decode cX7_turn 2 = .ok (.invokevirtual 61, 3) := by decide +kernel
theorem dX7_turn_5 : decode cX7_turn 5 = .ok (.astore_n 3, 1) := by decide +kernel
theorem dX7_turn_6 : decode cX7_turn 6 = .ok (.aload_n 3, 1) := by decide +kernel
theorem dX7_turn_7 : decode cX7_turn 7 = .ok (.ifnonnull 13, 3) := by decide +kernel
theorem dX7_turn_10 : decode cX7_turn 10 = .ok (.aload_n 0, 1) := by decide +kernel
theorem dX7_turn_11 : decode cX7_turn 11 = .ok (.aload_n 0, 1) := by decide +kernel
theorem dX7_turn_12 : decode cX7_turn 12 = .ok (.iload_n 1, 1) := by decide +kernel
theorem dX7_turn_13 : decode cX7_turn 13 = .ok (.invokevirtual 65, 3) := by decide +kernel
theorem dX7_turn_16 : decode cX7_turn 16 = .ok (.invokevirtual 41, 3) := by decide +kernel
theorem dX7_turn_19 : decode cX7_turn 19 = .ok (.ireturn, 1) := by decide +kernel
theorem dX7_turn_20 : decode cX7_turn 20 = .ok (.aload_n 3, 1) := by decide +kernel
theorem dX7_turn_21 : decode cX7_turn 21 = .ok (.invokevirtual 68, 3) := by decide +kernel
theorem dX7_turn_24 : decode cX7_turn 24 = .ok (.istore 4, 2) := by decide +kernel
theorem dX7_turn_26 : decode cX7_turn 26 = .ok (.iload 4, 2) := by decide +kernel
theorem dX7_turn_28 : decode cX7_turn 28 = .ok (.ifCond .ne 9, 3) := by decide +kernel
theorem dX7_turn_31 : decode cX7_turn 31 = .ok (.aload_n 0, 1) := by decide +kernel
theorem dX7_turn_32 : decode cX7_turn 32 = .ok (.iconst 0, 1) := by decide +kernel
theorem dX7_turn_33 : decode cX7_turn 33 = .ok (.invokevirtual 50, 3) := by decide +kernel
theorem dX7_turn_36 : decode cX7_turn 36 = .ok (.ireturn, 1) := by decide +kernel
theorem dX7_turn_37 : decode cX7_turn 37 = .ok (.iload_n 2, 1) := by decide +kernel
theorem dX7_turn_38 : decode cX7_turn 38 = .ok (.iload 4, 2) := by decide +kernel
theorem dX7_turn_40 : decode cX7_turn 40 = .ok (.invokestatic 167, 3) := by decide +kernel
theorem dX7_turn_43 : decode cX7_turn 43 = .ok (.istore 5, 2) := by decide +kernel
theorem dX7_turn_45 : decode cX7_turn 45 = .ok (.iconst 0, 1) := by decide +kernel
theorem dX7_turn_46 : decode cX7_turn 46 = .ok (.istore 6, 2) := by decide +kernel
theorem dX7_turn_48 : decode cX7_turn 48 = .ok (.iload 6, 2) := by decide +kernel
theorem dX7_turn_50 : decode cX7_turn 50 = .ok (.iload 4, 2) := by decide +kernel
theorem dX7_turn_52 : decode cX7_turn 52 = .ok (.if_icmp .ge 44, 3) := by decide +kernel
theorem dX7_turn_55 : decode cX7_turn 55 = .ok (.iload 6, 2) := by decide +kernel
theorem dX7_turn_57 : decode cX7_turn 57 = .ok (.iload 5, 2) := by decide +kernel
theorem dX7_turn_59 : decode cX7_turn 59 = .ok (.iadd, 1) := by decide +kernel
theorem dX7_turn_60 : decode cX7_turn 60 = .ok (.istore 7, 2) := by decide +kernel
theorem dX7_turn_62 : decode cX7_turn 62 = .ok (.aload_n 3, 1) := by decide +kernel
theorem dX7_turn_63 : decode cX7_turn 63 = .ok (.iload 6, 2) := by decide +kernel
theorem dX7_turn_65 : decode cX7_turn 65 = .ok (.aload_n 0, 1) := by decide +kernel
theorem dX7_turn_66 : decode cX7_turn 66 = .ok (.getfield 17, 3) := by decide +kernel
theorem dX7_turn_69 : decode cX7_turn 69 = .ok (.iload 7, 2) := by decide +kernel
theorem dX7_turn_71 : decode cX7_turn 71 = .ok (.iload 4, 2) := by decide +kernel
theorem dX7_turn_73 : decode cX7_turn 73 = .ok (.if_icmp .ge 8, 3) := by decide +kernel
theorem dX7_turn_76 : decode cX7_turn 76 = .ok (.iload 7, 2) := by decide +kernel
theorem dX7_turn_78 : decode cX7_turn 78 = .ok (.goto 8, 3) := by decide +kernel
theorem dX7_turn_81 : decode cX7_turn 81 = .ok (.iload 7, 2) := by decide +kernel
theorem dX7_turn_83 : decode cX7_turn 83 = .ok (.iload 4, 2) := by decide +kernel
theorem dX7_turn_85 : decode cX7_turn 85 = .ok (.isub, 1) := by decide +kernel
theorem dX7_turn_86 : decode cX7_turn 86 = .ok (.aaload, 1) := by decide +kernel
theorem dX7_turn_87 : decode cX7_turn 87 = .ok (.invokevirtual 117, 3) := by decide +kernel
theorem dX7_turn_90 : decode cX7_turn 90 = .ok (.iinc 6 1, 3) := by decide +kernel
theorem dX7_turn_93 : decode cX7_turn 93 = .ok (.goto (-45), 3) := by decide +kernel
theorem dX7_turn_96 : decode cX7_turn 96 = .ok (.aload_n 0, 1) := by decide +kernel
theorem dX7_turn_97 : decode cX7_turn 97 = .ok (.aload_n 0, 1) := by decide +kernel
theorem dX7_turn_98 : decode cX7_turn 98 = .ok (.aload_n 3, 1) := by decide +kernel
theorem dX7_turn_99 : decode cX7_turn 99 = .ok (.invokevirtual 143, 3) := by decide +kernel
theorem dX7_turn_102 : decode cX7_turn 102 = .ok (.invokevirtual 50, 3) := by decide +kernel
theorem dX7_turn_105 : decode cX7_turn 105 = .ok (.ireturn, 1) := by decide +kernel
theorem dX7_sum_0 : decode cX7_sum 0 = .ok (.aload_n 0, 1) := by decide +kernel
theorem dX7_sum_1 : decode cX7_sum 1 = .ok (.iload_n 1, 1) := by decide +kernel
theorem dX7_sum_2 : decode cX7_sum 2 = .ok (.invokevirtual 61, 3) := by decide +kernel
theorem dX7_sum_5 : decode cX7_sum 5 = .ok (.astore_n 2, 1) := by decide +kernel
theorem dX7_sum_6 : decode cX7_sum 6 = .ok (.aload_n 2, 1) := by decide +kernel
theorem dX7_sum_7 : decode cX7_sum 7 = .ok (.ifnonnull 14, 3) := by decide +kernel
theorem dX7_sum_10 : decode cX7_sum 10 = .ok (.aload_n 0, 1) := by decide +kernel
theorem dX7_sum_11 : decode cX7_sum 11 = .ok (.aload_n 0, 1) := by decide +kernel
theorem dX7_sum_12 : decode cX7_sum 12 = .ok (.iload_n 1, 1) := by decide +kernel
theorem dX7_sum_13 : decode cX7_sum 13 = .ok (.invokevirtual 65, 3) := by decide +kernel
theorem dX7_sum_16 : decode cX7_sum 16 = .ok (.invokevirtual 41, 3) := by decide +kernel
theorem dX7_sum_19 : decode cX7_sum 19 = .ok (.i2l, 1) := by decide +kernel
theorem dX7_sum_20 : decode cX7_sum 20 = .ok (.lreturn, 1) := by decide +kernel
theorem dX7_sum_21 : decode cX7_sum 21 = .ok (.aload_n 2, 1) := by decide +kernel
theorem dX7_sum_22 : decode cX7_sum 22 = .ok (.getfield 155, 3) := by decide +kernel
theorem dX7_sum_25 : decode cX7_sum 25 = .ok (.iconst 1, 1) := by decide +kernel
theorem dX7_sum_26 : decode cX7_sum 26 = .ok (.if_icmp .lt 11, 3) := by decide +kernel
theorem dX7_sum_29 : decode cX7_sum 29 = .ok (.aload_n 2, 1) := by decide +kernel
theorem dX7_sum_30 : decode cX7_sum 30 = .ok (.getfield 155, 3) := by decide +kernel
theorem dX7_sum_33 : decode cX7_sum 33 = .ok (.iconst 5, 1) := by decide +kernel
theorem dX7_sum_34 : decode cX7_sum 34 = .ok (.if_icmp .le 11, 3) := by decide +kernel
theorem dX7_sum_37 : decode cX7_sum 37 = .ok (.aload_n 0, 1) := by decide +kernel
theorem dX7_sum_38 : decode cX7_sum 38 = .ok (.bipush 6, 2) := by decide +kernel
theorem dX7_sum_40 : decode cX7_sum 40 = .ok (.invokevirtual 41, 3) := by decide +kernel
theorem dX7_sum_43 : decode cX7_sum 43 = .ok (.i2l, 1) := by decide +kernel
theorem dX7_sum_44 : decode cX7_sum 44 = .ok (.lreturn, 1) := by decide +kernel
theorem dX7_sum_45 : decode cX7_sum 45 = .ok (.lconst 0, 1) := by decide +kernel
theorem dX7_sum_46 : decode cX7_sum 46 = .ok (.lstore_n 3, 1) := by decide +kernel
theorem dX7_sum_47 : decode cX7_sum 47 = .ok (.iconst 0, 1) := by decide +kernel
theorem dX7_sum_48 : decode cX7_sum 48 = .ok (.istore 5, 2) := by decide +kernel
theorem dX7_sum_50 : decode cX7_sum 50 = .ok (.iload 5, 2) := by decide +kernel
theorem dX7_sum_52 : decode cX7_sum 52 = .ok (.aload_n 2, 1) := by decide +kernel
theorem dX7_sum_53 : decode cX7_sum 53 = .ok (.invokevirtual 68, 3) := by decide +kernel
theorem dX7_sum_56 : decode cX7_sum 56 = .ok (.if_icmp .ge 29, 3) := by decide +kernel
theorem dX7_sum_59 : decode cX7_sum 59 = .ok (.aload_n 2, 1) := by decide +kernel
theorem dX7_sum_60 : decode cX7_sum 60 = .ok (.iload 5, 2) := by decide +kernel
theorem dX7_sum_62 : decode cX7_sum 62 = .ok (.aload_n 0, 1) := by decide +kernel
theorem dX7_sum_63 : decode cX7_sum 63 = .ok (.getfield 26, 3) := by decide +kernel
theorem dX7_sum_66 : decode cX7_sum 66 = .ok (.invokevirtual 117, 3) := by decide +kernel
theorem dX7_sum_69 : decode cX7_sum 69 = .ok (.lload_n 3, 1) := by decide +kernel
theorem dX7_sum_70 : decode cX7_sum 70 = .ok (.aload_n 0, 1) := by decide +kernel
theorem dX7_sum_71 : decode cX7_sum 71 = .ok (.getfield 26, 3) := by decide +kernel
theorem dX7_sum_74 : decode cX7_sum 74 = .ok (.getfield 106, 3) := by decide +kernel
theorem dX7_sum_77 : decode cX7_sum 77 = .ok (.ladd, 1) := by decide +kernel
theorem dX7_sum_78 : decode cX7_sum 78 = .ok (.lstore_n 3, 1) := by decide +kernel
theorem dX7_sum_79 : decode cX7_sum 79 = .ok (.iinc 5 1, 3) := by decide +kernel
theorem dX7_sum_82 : decode cX7_sum 82 = .ok (.goto (-32), 3) := by decide +kernel
theorem dX7_sum_85 : decode cX7_sum 85 = .ok (.aload_n 0, 1) := by decide +kernel
theorem dX7_sum_86 : decode cX7_sum 86 = .ok (.iconst 0, 1) := by decide +kernel
theorem dX7_sum_87 : decode cX7_sum 87 = .ok (.putfield 33, 3) := by decide +kernel
theorem dX7_sum_90 : decode cX7_sum 90 = .ok (.lload_n 3, 1) := by decide +kernel
theorem dX7_sum_91 : decode cX7_sum 91 = .ok (.lreturn, 1) := by decide +kernel
theorem dX7_total_0 : decode cX7_total 0 = .ok (.aload_n 0, 1) := by decide +kernel
theorem dX7_total_1 : decode cX7_total 1 = .ok (.iload_n 1, 1) := by decide +kernel
theorem dX7_total_2 : decode cX7_total 2 = .ok (.invokevirtual 61, 3) := by decide +kernel
theorem dX7_total_5 : decode cX7_total 5 = .ok (.astore_n 2, 1) := by decide +kernel
theorem dX7_total_6 : decode cX7_total 6 = .ok (.aload_n 2, 1) := by decide +kernel
theorem dX7_total_7 : decode cX7_total 7 = .ok (.ifnonnull 14, 3) := by decide +kernel
theorem dX7_total_10 : decode cX7_total 10 = .ok (.aload_n 0, 1) := by decide +kernel
theorem dX7_total_11 : decode cX7_total 11 = .ok (.aload_n 0, 1) := by decide +kernel
theorem dX7_total_12 : decode cX7_total 12 = .ok (.iload_n 1, 1) := by decide +kernel
theorem dX7_total_13 : decode cX7_total 13 = .ok (.invokevirtual 65, 3) := by decide +kernel
theorem dX7_total_16 : decode cX7_total 16 = .ok (.invokevirtual 41, 3) := by decide +kernel
theorem dX7_total_19 : decode cX7_total 19 = .ok (.i2d, 1) := by decide +kernel
theorem dX7_total_20 : decode cX7_total 20 = .ok (.dreturn, 1) := by decide +kernel
theorem dX7_total_21 : decode cX7_total 21 = .ok (.aload_n 2, 1) := by decide +kernel
theorem dX7_total_22 : decode cX7_total 22 = .ok (.invokevirtual 132, 3) := by decide +kernel
theorem dX7_total_25 : decode cX7_total 25 = .ok (.ifCond .eq 10, 3) := by decide +kernel
theorem dX7_total_28 : decode cX7_total 28 = .ok (.aload_n 2, 1) := by decide +kernel
theorem dX7_total_29 : decode cX7_total 29 = .ok (.getfield 155, 3) := by decide +kernel
theorem dX7_total_32 : decode cX7_total 32 = .ok (.ifCond .ne 11, 3) := by decide +kernel
theorem dX7_total_35 : decode cX7_total 35 = .ok (.aload_n 0, 1) := by decide +kernel
theorem dX7_total_36 : decode cX7_total 36 = .ok (.bipush 6, 2) := by decide +kernel
theorem dX7_total_38 : decode cX7_total 38 = .ok (.invokevirtual 41, 3) := by decide +kernel
theorem dX7_total_41 : decode cX7_total 41 = .ok (.i2d, 1) := by decide +kernel
theorem dX7_total_42 : decode cX7_total 42 = .ok (.dreturn, 1) := by decide +kernel
theorem dX7_total_43 : decode cX7_total 43 = .ok (.dconst 0, 1) := by decide +kernel
theorem dX7_total_44 : decode cX7_total 44 = .ok (.dstore_n 3, 1) := by decide +kernel
theorem dX7_total_45 : decode cX7_total 45 = .ok (.iconst 0, 1) := by decide +kernel
theorem dX7_total_46 : decode cX7_total 46 = .ok (.istore 5, 2) := by decide +kernel
theorem dX7_total_48 : decode cX7_total 48 = .ok (.iload 5, 2) := by decide +kernel
theorem dX7_total_50 : decode cX7_total 50 = .ok (.aload_n 2, 1) := by decide +kernel
theorem dX7_total_51 : decode cX7_total 51 = .ok (.invokevirtual 68, 3) := by decide +kernel
theorem dX7_total_54 : decode cX7_total 54 = .ok (.if_icmp .ge 31, 3) := by decide +kernel
theorem dX7_total_57 : decode cX7_total 57 = .ok (.aload_n 2, 1) := by decide +kernel
theorem dX7_total_58 : decode cX7_total 58 = .ok (.iload 5, 2) := by decide +kernel
theorem dX7_total_60 : decode cX7_total 60 = .ok (.aload_n 0, 1) := by decide +kernel
theorem dX7_total_61 : decode cX7_total 61 = .ok (.getfield 26, 3) := by decide +kernel
theorem dX7_total_64 : decode cX7_total 64 = .ok (.invokevirtual 117, 3) := by decide +kernel
theorem dX7_total_67 : decode cX7_total 67 = .ok (.dload_n 3, 1) := by decide +kernel
theorem dX7_total_68 : decode cX7_total 68 = .ok (.aload_n 0, 1) := by decide +kernel
theorem dX7_total_69 : decode cX7_total 69 = .ok (.getfield 26, 3) := by decide +kernel
theorem dX7_total_72 : decode cX7_total 72 = .ok (.bipush 7, 2) := by decide +kernel
theorem dX7_total_74 : decode cX7_total 74 = .ok (.invokevirtual 110, 3) := by decide +kernel
theorem dX7_total_77 : decode cX7_total 77 = .ok (.dadd, 1) := by decide +kernel
theorem dX7_total_78 : decode cX7_total 78 = .ok (.dstore_n 3, 1) := by decide +kernel
theorem dX7_total_79 : decode cX7_total 79 = .ok (.iinc 5 1, 3) := by decide +kernel
theorem dX7_total_82 : decode cX7_total 82 = .ok (.goto (-34), 3) := by decide +kernel
theorem dX7_total_85 : decode cX7_total 85 = .ok (.aload_n 0, 1) := by decide +kernel
theorem dX7_total_86 : decode cX7_total 86 = .ok (.iconst 0, 1) := by decide +kernel
theorem dX7_total_87 : decode cX7_total 87 = .ok (.putfield 33, 3) := by decide +kernel
theorem dX7_total_90 : decode cX7_total 90 = .ok (.dload_n 3, 1) := by decide +kernel
theorem dX7_total_91 : decode cX7_total 91 = .ok (.dreturn, 1) := by decide +kernel
theorem dX7_find_0 : decode cX7_find 0 = .ok (.iload_n 3, 1) := by decide +kernel
theorem dX7_find_1 : decode cX7_find 1 = .ok (.invokestatic 172, 3) := by decide +kernel
theorem dX7_find_4 : decode cX7_find 4 = .ok (.ifCond .ne 9, 3) := by decide +kernel
theorem dX7_find_7 : decode cX7_find 7 = .ok (.aload_n 0, 1) := by decide +kernel
theorem dX7_find_8 : decode cX7_find 8 = .ok (.iconst 1, 1) := by decide +kernel
theorem dX7_find_9 : decode cX7_find 9 = .ok (.invokevirtual 41, 3) := by decide +kernel
theorem dX7_find_12 : decode cX7_find 12 = .ok (.ireturn, 1) := by decide +kernel
theorem dX7_find_13 : decode cX7_find 13 = .ok (.aload_n 0, 1) := by decide +kernel
theorem dX7_find_14 : decode cX7_find 14 = .ok (.iload_n 1, 1) := by decide +kernel
theorem dX7_find_15 : decode cX7_find 15 = .ok (.invokevirtual 61, 3) := by decide +kernel
theorem dX7_find_18 : decode cX7_find 18 = .ok (.astore 6, 2) := by decide +kernel
theorem dX7_find_20 : decode cX7_find 20 = .ok (.aload 6, 2) := by decide +kernel
theorem dX7_find_22 : decode cX7_find 22 = .ok (.ifnonnull 13, 3) := by decide +kernel
theorem dX7_find_25 : decode cX7_find 25 = .ok (.aload_n 0, 1) := by decide +kernel
theorem dX7_find_26 : decode cX7_find 26 = .ok (.aload_n 0, 1) := by decide +kernel
theorem dX7_find_27 : decode cX7_find 27 = .ok (.iload_n 1, 1) := by decide +kernel
theorem dX7_find_28 : decode cX7_find 28 = .ok (.invokevirtual 65, 3) := by decide +kernel
theorem dX7_find_31 : decode cX7_find 31 = .ok (.invokevirtual 41, 3) := by decide +kernel
theorem dX7_find_34 : decode cX7_find 34 = .ok (.ireturn, 1) := by decide +kernel
theorem dX7_find_35 : decode cX7_find 35 = .ok (.aload 6, 2) := by decide +kernel
theorem dX7_find_37 : decode cX7_find 37 = .ok (.invokevirtual 132, 3) := by decide +kernel
theorem dX7_find_40 : decode cX7_find 40 = .ok (.ifCond .ne 10, 3) := by decide +kernel
theorem dX7_find_43 : decode cX7_find 43 = .ok (.aload_n 0, 1) := by decide +kernel
theorem dX7_find_44 : decode cX7_find 44 = .ok (.bipush 6, 2) := by decide +kernel
theorem dX7_find_46 : decode cX7_find 46 = .ok (.invokevirtual 41, 3) := by decide +kernel
theorem dX7_find_49 : decode cX7_find 49 = .ok (.ireturn, 1) := by decide +kernel
theorem dX7_find_50 : decode cX7_find 50 = .ok (.aload_n 0, 1) := by decide +kernel
theorem dX7_find_51 : decode cX7_find 51 = .ok (.getfield 26, 3) := by decide +kernel
theorem dX7_find_54 : decode cX7_find 54 = .ok (.iload_n 3, 1) := by decide +kernel
theorem dX7_find_55 : decode cX7_find 55 = .ok (.iload 4, 2) := by decide +kernel
theorem dX7_find_57 : decode cX7_find 57 = .ok (.iload 5, 2) := by decide +kernel
theorem dX7_find_59 : decode cX7_find 59 = .ok (.invokevirtual 175, 3) := by decide +kernel
theorem dX7_find_62 : decode cX7_find 62 = .ok (.iload_n 2, 1) := by decide +kernel
theorem dX7_find_63 : decode cX7_find 63 = .ok (.iconst 0, 1) := by decide +kernel
theorem dX7_find_64 : decode cX7_find 64 = .ok (.invokestatic 179, 3) := by decide +kernel
theorem dX7_find_67 : decode cX7_find 67 = .ok (.istore 7, 2) := by decide +kernel
theorem dX7_find_69 : decode cX7_find 69 = .ok (.iload 7, 2) := by decide +kernel
theorem dX7_find_71 : decode cX7_find 71 = .ok (.aload 6, 2) := by decide +kernel
theorem dX7_find_73 : decode cX7_find 73 = .ok (.invokevirtual 68, 3) := by decide +kernel
theorem dX7_find_76 : decode cX7_find 76 = .ok (.if_icmp .ge 41, 3) := by decide +kernel
theorem dX7_find_79 : decode cX7_find 79 = .ok (.aload 6, 2) := by decide +kernel
theorem dX7_find_81 : decode cX7_find 81 = .ok (.iload 7, 2) := by decide +kernel
theorem dX7_find_83 : decode cX7_find 83 = .ok (.aload_n 0, 1) := by decide +kernel
theorem dX7_find_84 : decode cX7_find 84 = .ok (.getfield 30, 3) := by decide +kernel
theorem dX7_find_87 : decode cX7_find 87 = .ok (.invokevirtual 117, 3) := by decide +kernel
theorem dX7_find_90 : decode cX7_find 90 = .ok (.aload_n 0, 1) := by decide +kernel
theorem dX7_find_91 : decode cX7_find 91 = .ok (.getfield 30, 3) := by decide +kernel
theorem dX7_find_94 : decode cX7_find 94 = .ok (.aload_n 0, 1) := by decide +kernel
theorem dX7_find_95 : decode cX7_find 95 = .ok (.getfield 26, 3) := by decide +kernel
theorem dX7_find_98 : decode cX7_find 98 = .ok (.invokevirtual 182, 3) := by decide +kernel
theorem dX7_find_101 : decode cX7_find 101 = .ok (.ifCond .eq 10, 3) := by decide +kernel
theorem dX7_find_104 : decode cX7_find 104 = .ok (.aload_n 0, 1) := by decide +kernel
theorem dX7_find_105 : decode cX7_find 105 = .ok (.iload 7, 2) := by decide +kernel
theorem dX7_find_107 : decode cX7_find 107 = .ok (.invokevirtual 50, 3) := by decide +kernel
theorem dX7_find_110 : decode cX7_find 110 = .ok (.ireturn, 1) := by decide +kernel
theorem dX7_find_111 : decode cX7_find 111 = .ok (.iinc 7 1, 3) := by decide +kernel
theorem dX7_find_114 : decode cX7_find 114 = .ok (.goto (-45), 3) := by decide +kernel
theorem dX7_find_117 : decode cX7_find 117 = .ok (.aload_n 0, 1) := by decide +kernel
theorem dX7_find_118 : decode cX7_find 118 = .ok (.iconst (-1), 1) := by decide +kernel
theorem dX7_find_119 : decode cX7_find 119 = .ok (.invokevirtual 50, 3) := by decide +kernel
theorem dX7_find_122 : decode cX7_find 122 = .ok (.ireturn, 1) := by decide +kernel
theorem dX7_alike_0 : decode cX7_alike 0 = .ok (.aload_n 0, 1) := by decide +kernel
theorem dX7_alike_1 : decode cX7_alike 1 = .ok (.iload_n 1, 1) := by decide +kernel
theorem dX7_alike_2 : decode cX7_alike 2 = .ok (.invokevirtual 61, 3) := by decide +kernel
theorem dX7_alike_5 : decode cX7_alike 5 = .ok (.astore_n 3, 1) := by decide +kernel
theorem dX7_alike_6 : decode cX7_alike 6 = .ok (.aload_n 0, 1) := by decide +kernel
theorem dX7_alike_7 : decode cX7_alike 7 = .ok (.iload_n 2, 1) := by decide +kernel
theorem dX7_alike_8 : decode cX7_alike 8 = .ok (.invokevirtual 61, 3) := by decide +kernel
theorem dX7_alike_11 : decode cX7_alike 11 = .ok (.astore 4, 2) := by decide +kernel
theorem dX7_alike_13 : decode cX7_alike 13 = .ok (.aload_n 3, 1) := by decide +kernel
theorem dX7_alike_14 : decode cX7_alike 14 = .ok (.ifnull 8, 3) := by decide +kernel
theorem dX7_alike_17 : decode cX7_alike 17 = .ok (.aload 4, 2) := by decide +kernel
theorem dX7_alike_19 : decode cX7_alike 19 = .ok (.ifnonnull 21, 3) := by decide +kernel
theorem dX7_alike_22 : decode cX7_alike 22 = .ok (.aload_n 0, 1) := by decide +kernel
theorem dX7_alike_23 : decode cX7_alike 23 = .ok (.aload_n 0, 1) := by decide +kernel
theorem dX7_alike_24 : decode cX7_alike 24 = .ok (.iload_n 1, 1) := by decide +kernel
theorem dX7_alike_25 : decode cX7_alike 25 = .ok (.invokevirtual 65, 3) := by decide +kernel
theorem dX7_alike_28 : decode cX7_alike 28 = .ok (.aload_n 0, 1) := by decide +kernel
theorem dX7_alike_29 : decode cX7_alike 29 = .ok (.iload_n 2, 1) := by decide +kernel
theorem dX7_alike_30 : decode cX7_alike 30 = .ok (.invokevirtual 65, 3) := by decide +kernel
theorem dX7_alike_33 : decode cX7_alike 33 = .ok (.invokestatic 135, 3) := by decide +kernel
theorem dX7_alike_36 : decode cX7_alike 36 = .ok (.invokevirtual 41, 3) := by decide +kernel
theorem dX7_alike_39 : decode cX7_alike 39 = .ok (.ireturn, 1) := by decide +kernel
theorem dX7_alike_40 : decode cX7_alike 40 = .ok (.aload_n 3, 1) := by decide +kernel
theorem dX7_alike_41 : decode cX7_alike 41 = .ok (.invokevirtual 68, 3) := by decide +kernel
theorem dX7_alike_44 : decode cX7_alike 44 = .ok (.aload 4, 2) := by decide +kernel
theorem dX7_alike_46 : decode cX7_alike 46 = .ok (.invokevirtual 68, 3) := by decide +kernel
theorem dX7_alike_49 : decode cX7_alike 49 = .ok (.if_icmp .eq 9, 3) := by decide +kernel
theorem dX7_alike_52 : decode cX7_alike 52 = .ok (.aload_n 0, 1) := by decide +kernel
theorem dX7_alike_53 : decode cX7_alike 53 = .ok (.iconst 0, 1) := by decide +kernel
theorem dX7_alike_54 : decode cX7_alike 54 = .ok (.invokevirtual 50, 3) := by decide +kernel
theorem dX7_alike_57 : decode cX7_alike 57 = .ok (.ireturn, 1) := by decide +kernel
theorem dX7_alike_58 : decode cX7_alike 58 = .ok (.iconst 0, 1) := by decide +kernel
theorem dX7_alike_59 : decode cX7_alike 59 = .ok (.istore 5, 2) := by decide +kernel
theorem dX7_alike_61 : decode cX7_alike 61 = .ok (.iload 5, 2) := by decide +kernel
theorem dX7_alike_63 : decode cX7_alike 63 = .ok (.aload_n 3, 1) := by decide +kernel
theorem dX7_alike_64 : decode cX7_alike 64 = .ok (.invokevirtual 68, 3) := by decide +kernel
theorem dX7_alike_67 : decode cX7_alike 67 = .ok (.if_icmp .ge 50, 3) := by decide +kernel
theorem dX7_alike_70 : decode cX7_alike 70 = .ok (.aload_n 3, 1) := by decide +kernel
theorem dX7_alike_71 : decode cX7_alike 71 = .ok (.iload 5, 2) := by decide +kernel
theorem dX7_alike_73 : decode cX7_alike 73 = .ok (.aload_n 0, 1) := by decide +kernel
theorem dX7_alike_74 : decode cX7_alike 74 = .ok (.getfield 26, 3) := by decide +kernel
theorem dX7_alike_77 : decode cX7_alike 77 = .ok (.invokevirtual 117, 3) := by decide +kernel
theorem dX7_alike_80 : decode cX7_alike 80 = .ok (.aload 4, 2) := by decide +kernel
theorem dX7_alike_82 : decode cX7_alike 82 = .ok (.iload 5, 2) := by decide +kernel
theorem dX7_alike_84 : decode cX7_alike 84 = .ok (.aload_n 0, 1) := by decide +kernel
theorem dX7_alike_85 : decode cX7_alike 85 = .ok (.getfield 30, 3) := by decide +kernel
theorem dX7_alike_88 : decode cX7_alike 88 = .ok (.invokevirtual 117, 3) := by decide +kernel
theorem dX7_alike_91 : decode cX7_alike 91 = .ok (.aload_n 0, 1) := by decide +kernel
theorem dX7_alike_92 : decode cX7_alike 92 = .ok (.getfield 26, 3) := by decide +kernel
theorem dX7_alike_95 : decode cX7_alike 95 = .ok (.aload_n 0, 1) := by decide +kernel
theorem dX7_alike_96 : decode cX7_alike 96 = .ok (.getfield 30, 3) := by decide +kernel
theorem dX7_alike_99 : decode cX7_alike 99 = .ok (.invokevirtual 182, 3) := by decide +kernel
theorem dX7_alike_102 : decode cX7_alike 102 = .ok (.ifCond .ne 9, 3) := by decide +kernel
theorem dX7_alike_105 : decode cX7_alike 105 = .ok (.aload_n 0, 1) := by decide +kernel
theorem dX7_alike_106 : decode cX7_alike 106 = .ok (.iconst 0, 1) := by decide +kernel
theorem dX7_alike_107 : decode cX7_alike 107 = .ok (.invokevirtual 50, 3) := by decide +kernel
theorem dX7_alike_110 : decode cX7_alike 110 = .ok (.ireturn, 1) := by decide +kernel
theorem dX7_alike_111 : decode cX7_alike 111 = .ok (.iinc 5 1, 3) := by decide +kernel
theorem dX7_alike_114 : decode cX7_alike 114 = .ok (.goto (-53), 3) := by decide +kernel
theorem dX7_alike_117 : decode cX7_alike 117 = .ok (.aload_n 0, 1) := by decide +kernel
theorem dX7_alike_118 : decode cX7_alike 118 = .ok (.iconst 1, 1) := by decide +kernel
theorem dX7_alike_119 : decode cX7_alike 119 = .ok (.invokevirtual 50, 3) := by decide +kernel
theorem dX7_alike_122 : decode cX7_alike 122 = .ok (.ireturn, 1) := by decide +kernel
theorem dX7_why_0 : decode cX7_why 0 = .ok (.aload_n 0, 1) := by decide +kernel
theorem dX7_why_1 : decode cX7_why 1 = .ok (.getfield 33, 3) := by decide +kernel
theorem dX7_why_4 : decode cX7_why 4 = .ok (.ireturn, 1) := by decide +kernel
theorem dX7_done_0 : decode cX7_done 0 = .ok (.aload_n 0, 1) := by decide +kernel
theorem dX7_done_1 : decode cX7_done 1 = .ok (.iconst 0, 1) := by decide +kernel
theorem dX7_done_2 : decode cX7_done 2 = .ok (.putfield 33, 3) := by decide +kernel
theorem dX7_done_5 : decode cX7_done 5 = .ok (.iload_n 1, 1) := by decide +kernel
theorem dX7_done_6 : decode cX7_done 6 = .ok (.ireturn, 1) := by decide +kernel
theorem dX7_refuse_0 : decode cX7_refuse 0 = .ok (.aload_n 0, 1) := by decide +kernel
theorem dX7_refuse_1 : decode cX7_refuse 1 = .ok (.iload_n 1, 1) := by decide +kernel
theorem dX7_refuse_2 : decode cX7_refuse 2 = .ok (.putfield 33, 3) := by decide +kernel
theorem dX7_refuse_5 : decode cX7_refuse 5 = .ok (.iconst 0, 1) := by decide +kernel
theorem dX7_refuse_6 : decode cX7_refuse 6 = .ok (.ireturn, 1) := by decide +kernel
theorem dX7_isColumn_0 : decode cX7_isColumn 0 = .ok (.iload_n 0, 1) := by decide +kernel
theorem dX7_isColumn_1 : decode cX7_isColumn 1 = .ok (.ifCond .lt 13, 3) := by decide +kernel
theorem dX7_isColumn_4 : decode cX7_isColumn 4 = .ok (.iload_n 0, 1) := by decide +kernel
theorem dX7_isColumn_5 : decode cX7_isColumn 5 = .ok (.bipush 12, 2) := by decide +kernel
theorem dX7_isColumn_7 : decode cX7_isColumn 7 = .ok (.if_icmp .ge 7, 3) := by decide +kernel
theorem dX7_isColumn_10 : decode cX7_isColumn 10 = .ok (.iconst 1, 1) := by decide +kernel
theorem dX7_isColumn_11 : decode cX7_isColumn 11 = .ok (.goto 4, 3) := by decide +kernel
theorem dX7_isColumn_14 : decode cX7_isColumn 14 = .ok (.iconst 0, 1) := by decide +kernel
theorem dX7_isColumn_15 : decode cX7_isColumn 15 = .ok (.ireturn, 1) := by decide +kernel
theorem dX7_isSort_0 : decode cX7_isSort 0 = .ok (.iload_n 0, 1) := by decide +kernel
theorem dX7_isSort_1 : decode cX7_isSort 1 = .ok (.ifCond .lt 13, 3) := by decide +kernel
theorem dX7_isSort_4 : decode cX7_isSort 4 = .ok (.iload_n 0, 1) := by decide +kernel
theorem dX7_isSort_5 : decode cX7_isSort 5 = .ok (.bipush 7, 2) := by decide +kernel
theorem dX7_isSort_7 : decode cX7_isSort 7 = .ok (.if_icmp .gt 7, 3) := by decide +kernel
theorem dX7_isSort_10 : decode cX7_isSort 10 = .ok (.iconst 1, 1) := by decide +kernel
theorem dX7_isSort_11 : decode cX7_isSort 11 = .ok (.goto 4, 3) := by decide +kernel
theorem dX7_isSort_14 : decode cX7_isSort 14 = .ok (.iconst 0, 1) := by decide +kernel
theorem dX7_isSort_15 : decode cX7_isSort 15 = .ok (.ireturn, 1) := by decide +kernel
theorem dX7_kindOf_0 : decode cX7_kindOf 0 = .ok (.aload_n 0, 1) := by decide +kernel
theorem dX7_kindOf_1 : decode cX7_kindOf 1 = .ok (.ifnonnull 7, 3) := by decide +kernel
theorem dX7_kindOf_4 : decode cX7_kindOf 4 = .ok (.iconst (-1), 1) := by decide +kernel
theorem dX7_kindOf_5 : decode cX7_kindOf 5 = .ok (.goto 7, 3) := by decide +kernel
theorem dX7_kindOf_8 : decode cX7_kindOf 8 = .ok (.aload_n 0, 1) := by decide +kernel
theorem dX7_kindOf_9 : decode cX7_kindOf 9 = .ok (.getfield 185, 3) := by decide +kernel
theorem dX7_kindOf_12 : decode cX7_kindOf 12 = .ok (.ireturn, 1) := by decide +kernel
theorem dX7_oneIfThing_0 : decode cX7_oneIfThing 0 = .ok (.aload_n 0, 1) := by decide +kernel
theorem dX7_oneIfThing_1 : decode cX7_oneIfThing 1 = .ok (.ifnonnull 7, 3) := by decide +kernel
theorem dX7_oneIfThing_4 : decode cX7_oneIfThing 4 = .ok (.iconst 0, 1) := by decide +kernel
theorem dX7_oneIfThing_5 : decode cX7_oneIfThing 5 = .ok (.goto 4, 3) := by decide +kernel
theorem dX7_oneIfThing_8 : decode cX7_oneIfThing 8 = .ok (.iconst 1, 1) := by decide +kernel
theorem dX7_oneIfThing_9 : decode cX7_oneIfThing 9 = .ok (.ireturn, 1) := by decide +kernel
theorem dX7_newRow_0 : decode cX7_newRow 0 = .ok (.iload_n 0, 1) := by decide +kernel
theorem dX7_newRow_1 : decode cX7_newRow 1 = .ok (.iconst 5, 1) := by decide +kernel
theorem dX7_newRow_2 : decode cX7_newRow 2 = .ok (.if_icmp .gt 13, 3) := by decide +kernel
theorem dX7_newRow_5 : decode cX7_newRow 5 = .ok (.new 186, 3) := by decide +kernel
theorem dX7_newRow_8 : decode cX7_newRow 8 = .ok (.dup, 1) := by decide +kernel
theorem dX7_newRow_9 : decode cX7_newRow 9 = .ok (.iload_n 0, 1) := by decide +kernel
theorem dX7_newRow_10 : decode cX7_newRow 10 = .ok (.iload_n 1, 1) := by decide +kernel
theorem dX7_newRow_11 : decode cX7_newRow 11 = .ok (.invokespecial 188, 3) := by decide +kernel
theorem dX7_newRow_14 : decode cX7_newRow 14 = .ok (.areturn, 1) := by decide +kernel
theorem dX7_newRow_15 : decode cX7_newRow 15 = .ok (.iload_n 0, 1) := by decide +kernel
theorem dX7_newRow_16 : decode cX7_newRow 16 = .ok (.bipush 7, 2) := by decide +kernel
theorem dX7_newRow_18 : decode cX7_newRow 18 = .ok (.if_icmp .gt 13, 3) := by decide +kernel
theorem dX7_newRow_21 : decode cX7_newRow 21 = .ok (.new 189, 3) := by decide +kernel
theorem dX7_newRow_24 : decode cX7_newRow 24 = .ok (.dup, 1) := by decide +kernel
theorem dX7_newRow_25 : decode cX7_newRow 25 = .ok (.iload_n 0, 1) := by decide +kernel
theorem dX7_newRow_26 : decode cX7_newRow 26 = .ok (.iload_n 1, 1) := by decide +kernel
theorem dX7_newRow_27 : decode cX7_newRow 27 = .ok (.invokespecial 191, 3) := by decide +kernel
theorem dX7_newRow_30 : decode cX7_newRow 30 = .ok (.areturn, 1) := by decide +kernel
theorem dX7_newRow_31 : decode cX7_newRow 31 = .ok (.new 192, 3) := by decide +kernel
theorem dX7_newRow_34 : decode cX7_newRow 34 = .ok (.dup, 1) := by decide +kernel
theorem dX7_newRow_35 : decode cX7_newRow 35 = .ok (.iload_n 0, 1) := by decide +kernel
theorem dX7_newRow_36 : decode cX7_newRow 36 = .ok (.iload_n 1, 1) := by decide +kernel
theorem dX7_newRow_37 : decode cX7_newRow 37 = .ok (.invokespecial 194, 3) := by decide +kernel
theorem dX7_newRow_40 : decode cX7_newRow 40 = .ok (.areturn, 1) := by decide +kernel
theorem dX7_rowIn_0 : decode cX7_rowIn 0 = .ok (.iload_n 1, 1) := by decide +kernel
theorem dX7_rowIn_1 : decode cX7_rowIn 1 = .ok (.invokestatic 37, 3) := by decide +kernel
theorem dX7_rowIn_4 : decode cX7_rowIn 4 = .ok (.ifCond .eq 24, 3) := by decide +kernel
theorem dX7_rowIn_7 : decode cX7_rowIn 7 = .ok (.aload_n 0, 1) := by decide +kernel
theorem dX7_rowIn_8 : decode cX7_rowIn 8 = .ok (.getfield 11, 3) := by decide +kernel
theorem dX7_rowIn_11 : decode cX7_rowIn 11 = .ok (.iload_n 1, 1) := by decide +kernel
theorem dX7_rowIn_12 : decode cX7_rowIn 12 = .ok (.aaload, 1) := by decide +kernel
theorem dX7_rowIn_13 : decode cX7_rowIn 13 = .ok (.astore_n 3, 1) := by decide +kernel
theorem dX7_rowIn_14 : decode cX7_rowIn 14 = .ok (.aload_n 3, 1) := by decide +kernel
theorem dX7_rowIn_15 : decode cX7_rowIn 15 = .ok (.instanceof 69, 3) := by decide +kernel
theorem dX7_rowIn_18 : decode cX7_rowIn 18 = .ok (.ifCond .eq 10, 3) := by decide +kernel
theorem dX7_rowIn_21 : decode cX7_rowIn 21 = .ok (.aload_n 3, 1) := by decide +kernel
theorem dX7_rowIn_22 : decode cX7_rowIn 22 = .ok (.checkcast 69, 3) := by decide +kernel
theorem dX7_rowIn_25 : decode cX7_rowIn 25 = .ok (.astore_n 2, 1) := by decide +kernel
theorem dX7_rowIn_26 : decode cX7_rowIn 26 = .ok (.aload_n 2, 1) := by decide +kernel
theorem dX7_rowIn_27 : decode cX7_rowIn 27 = .ok (.areturn, 1) := by decide +kernel
theorem dX7_rowIn_28 : decode cX7_rowIn 28 = .ok (.aconst_null, 1) := by decide +kernel
theorem dX7_rowIn_29 : decode cX7_rowIn 29 = .ok (.areturn, 1) := by decide +kernel
theorem dX7_rowAmiss_0 : decode cX7_rowAmiss 0 = .ok (.iload_n 1, 1) := by decide +kernel
theorem dX7_rowAmiss_1 : decode cX7_rowAmiss 1 = .ok (.invokestatic 37, 3) := by decide +kernel
theorem dX7_rowAmiss_4 : decode cX7_rowAmiss 4 = .ok (.ifCond .ne 5, 3) := by decide +kernel
theorem dX7_rowAmiss_7 : decode cX7_rowAmiss 7 = .ok (.iconst 1, 1) := by decide +kernel
theorem dX7_rowAmiss_8 : decode cX7_rowAmiss 8 = .ok (.ireturn, 1) := by decide +kernel
theorem dX7_rowAmiss_9 : decode cX7_rowAmiss 9 = .ok (.aload_n 0, 1) := by decide +kernel
theorem dX7_rowAmiss_10 : decode cX7_rowAmiss 10 = .ok (.getfield 11, 3) := by decide +kernel
theorem dX7_rowAmiss_13 : decode cX7_rowAmiss 13 = .ok (.iload_n 1, 1) := by decide +kernel
theorem dX7_rowAmiss_14 : decode cX7_rowAmiss 14 = .ok (.aaload, 1) := by decide +kernel
theorem dX7_rowAmiss_15 : decode cX7_rowAmiss 15 = .ok (.ifnonnull 5, 3) := by decide +kernel
theorem dX7_rowAmiss_18 : decode cX7_rowAmiss 18 = .ok (.iconst 2, 1) := by decide +kernel
theorem dX7_rowAmiss_19 : decode cX7_rowAmiss 19 = .ok (.ireturn, 1) := by decide +kernel
theorem dX7_rowAmiss_20 : decode cX7_rowAmiss 20 = .ok (.aload_n 0, 1) := by decide +kernel
theorem dX7_rowAmiss_21 : decode cX7_rowAmiss 21 = .ok (.getfield 11, 3) := by decide +kernel
theorem dX7_rowAmiss_24 : decode cX7_rowAmiss 24 = .ok (.iload_n 1, 1) := by decide +kernel
theorem dX7_rowAmiss_25 : decode cX7_rowAmiss 25 = .ok (.aaload, 1) := by decide +kernel
theorem dX7_rowAmiss_26 : decode cX7_rowAmiss 26 = .ok (.instanceof 69, 3) := by decide +kernel
theorem dX7_rowAmiss_29 : decode cX7_rowAmiss 29 = .ok (.ifCond .eq 7, 3) := by decide +kernel
theorem dX7_rowAmiss_32 : decode cX7_rowAmiss 32 = .ok (.iconst 0, 1) := by decide +kernel
theorem dX7_rowAmiss_33 : decode cX7_rowAmiss 33 = .ok (.goto 4, 3) := by decide +kernel
theorem dX7_rowAmiss_36 : decode cX7_rowAmiss 36 = .ok (.iconst 3, 1) := by decide +kernel
theorem dX7_rowAmiss_37 : decode cX7_rowAmiss 37 = .ok (.ireturn, 1) := by decide +kernel
theorem dX7_rowsAmiss_0 : decode cX7_rowsAmiss 0 = .ok (.aload_n 0, 1) := by decide +kernel
theorem dX7_rowsAmiss_1 : decode cX7_rowsAmiss 1 = .ok (.iload_n 1, 1) := by decide +kernel
theorem dX7_rowsAmiss_2 : decode cX7_rowsAmiss 2 = .ok (.invokevirtual 65, 3) := by decide +kernel
theorem dX7_rowsAmiss_5 : decode cX7_rowsAmiss 5 = .ok (.aload_n 0, 1) := by decide +kernel
theorem dX7_rowsAmiss_6 : decode cX7_rowsAmiss 6 = .ok (.iload_n 2, 1) := by decide +kernel
theorem dX7_rowsAmiss_7 : decode cX7_rowsAmiss 7 = .ok (.invokevirtual 65, 3) := by decide +kernel
theorem dX7_rowsAmiss_10 : decode cX7_rowsAmiss 10 = .ok (.aload_n 0, 1) := by decide +kernel
theorem dX7_rowsAmiss_11 : decode cX7_rowsAmiss 11 = .ok (.iload_n 3, 1) := by decide +kernel
theorem dX7_rowsAmiss_12 : decode cX7_rowsAmiss 12 = .ok (.invokevirtual 65, 3) := by decide +kernel
theorem dX7_rowsAmiss_15 : decode cX7_rowsAmiss 15 = .ok (.invokestatic 135, 3) := by decide +kernel
theorem dX7_rowsAmiss_18 : decode cX7_rowsAmiss 18 = .ok (.invokestatic 135, 3) := by decide +kernel
theorem dX7_rowsAmiss_21 : decode cX7_rowsAmiss 21 = .ok (.ireturn, 1) := by decide +kernel
theorem dX7_earlier_0 : decode cX7_earlier 0 = .ok (.iload_n 0, 1) := by decide +kernel
theorem dX7_earlier_1 : decode cX7_earlier 1 = .ok (.ifCond .ne 5, 3) := by decide +kernel
theorem dX7_earlier_4 : decode cX7_earlier 4 = .ok (.iload_n 1, 1) := by decide +kernel
theorem dX7_earlier_5 : decode cX7_earlier 5 = .ok (.ireturn, 1) := by decide +kernel
theorem dX7_earlier_6 : decode cX7_earlier 6 = .ok (.iload_n 1, 1) := by decide +kernel
theorem dX7_earlier_7 : decode cX7_earlier 7 = .ok (.ifCond .ne 7, 3) := by decide +kernel
theorem dX7_earlier_10 : decode cX7_earlier 10 = .ok (.iload_n 0, 1) := by decide +kernel
theorem dX7_earlier_11 : decode cX7_earlier 11 = .ok (.goto 8, 3) := by decide +kernel
theorem dX7_earlier_14 : decode cX7_earlier 14 = .ok (.iload_n 0, 1) := by decide +kernel
theorem dX7_earlier_15 : decode cX7_earlier 15 = .ok (.iload_n 1, 1) := by decide +kernel
theorem dX7_earlier_16 : decode cX7_earlier 16 = .ok (.invokestatic 195, 3) := by decide +kernel
theorem dX7_earlier_19 : decode cX7_earlier 19 = .ok (.ireturn, 1) := by decide +kernel
theorem dX7_cardIn_0 : decode cX7_cardIn 0 = .ok (.iload_n 1, 1) := by decide +kernel
theorem dX7_cardIn_1 : decode cX7_cardIn 1 = .ok (.invokestatic 37, 3) := by decide +kernel
theorem dX7_cardIn_4 : decode cX7_cardIn 4 = .ok (.ifCond .eq 24, 3) := by decide +kernel
theorem dX7_cardIn_7 : decode cX7_cardIn 7 = .ok (.aload_n 0, 1) := by decide +kernel
theorem dX7_cardIn_8 : decode cX7_cardIn 8 = .ok (.getfield 11, 3) := by decide +kernel
theorem dX7_cardIn_11 : decode cX7_cardIn 11 = .ok (.iload_n 1, 1) := by decide +kernel
theorem dX7_cardIn_12 : decode cX7_cardIn 12 = .ok (.aaload, 1) := by decide +kernel
theorem dX7_cardIn_13 : decode cX7_cardIn 13 = .ok (.astore_n 3, 1) := by decide +kernel
theorem dX7_cardIn_14 : decode cX7_cardIn 14 = .ok (.aload_n 3, 1) := by decide +kernel
theorem dX7_cardIn_15 : decode cX7_cardIn 15 = .ok (.instanceof 45, 3) := by decide +kernel
theorem dX7_cardIn_18 : decode cX7_cardIn 18 = .ok (.ifCond .eq 10, 3) := by decide +kernel
theorem dX7_cardIn_21 : decode cX7_cardIn 21 = .ok (.aload_n 3, 1) := by decide +kernel
theorem dX7_cardIn_22 : decode cX7_cardIn 22 = .ok (.checkcast 45, 3) := by decide +kernel
theorem dX7_cardIn_25 : decode cX7_cardIn 25 = .ok (.astore_n 2, 1) := by decide +kernel
theorem dX7_cardIn_26 : decode cX7_cardIn 26 = .ok (.aload_n 2, 1) := by decide +kernel
theorem dX7_cardIn_27 : decode cX7_cardIn 27 = .ok (.areturn, 1) := by decide +kernel
theorem dX7_cardIn_28 : decode cX7_cardIn 28 = .ok (.aconst_null, 1) := by decide +kernel
theorem dX7_cardIn_29 : decode cX7_cardIn 29 = .ok (.areturn, 1) := by decide +kernel
theorem dX7_cardAmiss_0 : decode cX7_cardAmiss 0 = .ok (.iload_n 0, 1) := by decide +kernel
theorem dX7_cardAmiss_1 : decode cX7_cardAmiss 1 = .ok (.invokestatic 37, 3) := by decide +kernel
theorem dX7_cardAmiss_4 : decode cX7_cardAmiss 4 = .ok (.ifCond .eq 7, 3) := by decide +kernel
theorem dX7_cardAmiss_7 : decode cX7_cardAmiss 7 = .ok (.iconst 5, 1) := by decide +kernel
theorem dX7_cardAmiss_8 : decode cX7_cardAmiss 8 = .ok (.goto 4, 3) := by decide +kernel
theorem dX7_cardAmiss_11 : decode cX7_cardAmiss 11 = .ok (.iconst 1, 1) := by decide +kernel
theorem dX7_cardAmiss_12 : decode cX7_cardAmiss 12 = .ok (.ireturn, 1) := by decide +kernel
theorem dX7_putTold_0 : decode cX7_putTold 0 = .ok (.iload_n 3, 1) := by decide +kernel
theorem dX7_putTold_1 : decode cX7_putTold 1 = .ok (.invokestatic 172, 3) := by decide +kernel
theorem dX7_putTold_4 : decode cX7_putTold 4 = .ok (.ifCond .ne 9, 3) := by decide +kernel
theorem dX7_putTold_7 : decode cX7_putTold 7 = .ok (.aload_n 0, 1) := by decide +kernel
theorem dX7_putTold_8 : decode cX7_putTold 8 = .ok (.iconst 1, 1) := by decide +kernel
theorem dX7_putTold_9 : decode cX7_putTold 9 = .ok (.invokevirtual 41, 3) := by decide +kernel
theorem dX7_putTold_12 : decode cX7_putTold 12 = .ok (.ireturn, 1) := by decide +kernel
theorem dX7_putTold_13 : decode cX7_putTold 13 = .ok (.aload_n 0, 1) := by decide +kernel
theorem dX7_putTold_14 : decode cX7_putTold 14 = .ok (.iload_n 1, 1) := by decide +kernel
theorem dX7_putTold_15 : decode cX7_putTold 15 = .ok (.invokevirtual 61, 3) := by decide +kernel
theorem dX7_putTold_18 : decode cX7_putTold 18 = .ok (.astore 6, 2) := by decide +kernel
theorem dX7_putTold_20 : decode cX7_putTold 20 = .ok (.aload 6, 2) := by decide +kernel
theorem dX7_putTold_22 : decode cX7_putTold 22 = .ok (.ifnonnull 13, 3) := by decide +kernel
theorem dX7_putTold_25 : decode cX7_putTold 25 = .ok (.aload_n 0, 1) := by decide +kernel
theorem dX7_putTold_26 : decode cX7_putTold 26 = .ok (.aload_n 0, 1) := by decide +kernel
theorem dX7_putTold_27 : decode cX7_putTold 27 = .ok (.iload_n 1, 1) := by decide +kernel
theorem dX7_putTold_28 : decode cX7_putTold 28 = .ok (.invokevirtual 65, 3) := by decide +kernel
theorem dX7_putTold_31 : decode cX7_putTold 31 = .ok (.invokevirtual 41, 3) := by decide +kernel
theorem dX7_putTold_34 : decode cX7_putTold 34 = .ok (.ireturn, 1) := by decide +kernel
theorem dX7_putTold_35 : decode cX7_putTold 35 = .ok (.aload_n 0, 1) := by decide +kernel
theorem dX7_putTold_36 : decode cX7_putTold 36 = .ok (.getfield 26, 3) := by decide +kernel
theorem dX7_putTold_39 : decode cX7_putTold 39 = .ok (.iload_n 3, 1) := by decide +kernel
theorem dX7_putTold_40 : decode cX7_putTold 40 = .ok (.iload 4, 2) := by decide +kernel
theorem dX7_putTold_42 : decode cX7_putTold 42 = .ok (.iload 5, 2) := by decide +kernel
theorem dX7_putTold_44 : decode cX7_putTold 44 = .ok (.invokevirtual 175, 3) := by decide +kernel
theorem dX7_putTold_47 : decode cX7_putTold 47 = .ok (.aload_n 0, 1) := by decide +kernel
theorem dX7_putTold_48 : decode cX7_putTold 48 = .ok (.aload 6, 2) := by decide +kernel
theorem dX7_putTold_50 : decode cX7_putTold 50 = .ok (.iload_n 2, 1) := by decide +kernel
theorem dX7_putTold_51 : decode cX7_putTold 51 = .ok (.iconst 1, 1) := by decide +kernel
theorem dX7_putTold_52 : decode cX7_putTold 52 = .ok (.invokevirtual 98, 3) := by decide +kernel
theorem dX7_putTold_55 : decode cX7_putTold 55 = .ok (.ireturn, 1) := by decide +kernel
theorem dX7_placeOne_0 : decode cX7_placeOne 0 = .ok (.aload_n 1, 1) := by decide +kernel
theorem dX7_placeOne_1 : decode cX7_placeOne 1 = .ok (.iload_n 2, 1) := by decide +kernel
theorem dX7_placeOne_2 : decode cX7_placeOne 2 = .ok (.invokevirtual 114, 3) := by decide +kernel
theorem dX7_placeOne_5 : decode cX7_placeOne 5 = .ok (.ifCond .ne 9, 3) := by decide +kernel
theorem dX7_placeOne_8 : decode cX7_placeOne 8 = .ok (.aload_n 0, 1) := by decide +kernel
theorem dX7_placeOne_9 : decode cX7_placeOne 9 = .ok (.iconst 4, 1) := by decide +kernel
theorem dX7_placeOne_10 : decode cX7_placeOne 10 = .ok (.invokevirtual 41, 3) := by decide +kernel
theorem dX7_placeOne_13 : decode cX7_placeOne 13 = .ok (.ireturn, 1) := by decide +kernel
theorem dX7_placeOne_14 : decode cX7_placeOne 14 = .ok (.aload_n 1, 1) := by decide +kernel
theorem dX7_placeOne_15 : decode cX7_placeOne 15 = .ok (.aload_n 0, 1) := by decide +kernel
theorem dX7_placeOne_16 : decode cX7_placeOne 16 = .ok (.getfield 26, 3) := by decide +kernel
theorem dX7_placeOne_19 : decode cX7_placeOne 19 = .ok (.invokevirtual 139, 3) := by decide +kernel
theorem dX7_placeOne_22 : decode cX7_placeOne 22 = .ok (.ifCond .ne 9, 3) := by decide +kernel
theorem dX7_placeOne_25 : decode cX7_placeOne 25 = .ok (.aload_n 0, 1) := by decide +kernel
theorem dX7_placeOne_26 : decode cX7_placeOne 26 = .ok (.iconst 5, 1) := by decide +kernel
theorem dX7_placeOne_27 : decode cX7_placeOne 27 = .ok (.invokevirtual 41, 3) := by decide +kernel
theorem dX7_placeOne_30 : decode cX7_placeOne 30 = .ok (.ireturn, 1) := by decide +kernel
theorem dX7_placeOne_31 : decode cX7_placeOne 31 = .ok (.aload_n 1, 1) := by decide +kernel
theorem dX7_placeOne_32 : decode cX7_placeOne 32 = .ok (.iload_n 2, 1) := by decide +kernel
theorem dX7_placeOne_33 : decode cX7_placeOne 33 = .ok (.aload_n 0, 1) := by decide +kernel
theorem dX7_placeOne_34 : decode cX7_placeOne 34 = .ok (.getfield 26, 3) := by decide +kernel
theorem dX7_placeOne_37 : decode cX7_placeOne 37 = .ok (.invokevirtual 198, 3) := by decide +kernel
theorem dX7_placeOne_40 : decode cX7_placeOne 40 = .ok (.aload_n 0, 1) := by decide +kernel
theorem dX7_placeOne_41 : decode cX7_placeOne 41 = .ok (.iload_n 3, 1) := by decide +kernel
theorem dX7_placeOne_42 : decode cX7_placeOne 42 = .ok (.invokevirtual 50, 3) := by decide +kernel
theorem dX7_placeOne_45 : decode cX7_placeOne 45 = .ok (.ireturn, 1) := by decide +kernel
theorem dX7_readOneAs_0 : decode cX7_readOneAs 0 = .ok (.aload_n 0, 1) := by decide +kernel
theorem dX7_readOneAs_1 : decode cX7_readOneAs 1 = .ok (.iload_n 1, 1) := by decide +kernel
theorem dX7_readOneAs_2 : decode cX7_readOneAs 2 = .ok (.invokevirtual 61, 3) := by decide +kernel
theorem dX7_readOneAs_5 : decode cX7_readOneAs 5 = .ok (.astore 4, 2) := by decide +kernel
theorem dX7_readOneAs_7 : decode cX7_readOneAs 7 = .ok (.aload 4, 2) := by decide +kernel
theorem dX7_readOneAs_9 : decode cX7_readOneAs 9 = .ok (.ifnonnull 14, 3) := by decide +kernel
theorem dX7_readOneAs_12 : decode cX7_readOneAs 12 = .ok (.aload_n 0, 1) := by decide +kernel
theorem dX7_readOneAs_13 : decode cX7_readOneAs 13 = .ok (.aload_n 0, 1) := by decide +kernel
theorem dX7_readOneAs_14 : decode cX7_readOneAs 14 = .ok (.iload_n 1, 1) := by decide +kernel
theorem dX7_readOneAs_15 : decode cX7_readOneAs 15 = .ok (.invokevirtual 65, 3) := by decide +kernel
theorem dX7_readOneAs_18 : decode cX7_readOneAs 18 = .ok (.putfield 33, 3) := by decide +kernel
theorem dX7_readOneAs_21 : decode cX7_readOneAs 21 = .ok (.iconst 0, 1) := by decide +kernel
theorem dX7_readOneAs_22 : decode cX7_readOneAs 22 = .ok (.ireturn, 1) := by decide +kernel
theorem dX7_readOneAs_23 : decode cX7_readOneAs 23 = .ok (.aload 4, 2) := by decide +kernel
theorem dX7_readOneAs_25 : decode cX7_readOneAs 25 = .ok (.iload_n 2, 1) := by decide +kernel
theorem dX7_readOneAs_26 : decode cX7_readOneAs 26 = .ok (.invokevirtual 114, 3) := by decide +kernel
theorem dX7_readOneAs_29 : decode cX7_readOneAs 29 = .ok (.ifCond .ne 10, 3) := by decide +kernel
theorem dX7_readOneAs_32 : decode cX7_readOneAs 32 = .ok (.aload_n 0, 1) := by decide +kernel
theorem dX7_readOneAs_33 : decode cX7_readOneAs 33 = .ok (.iconst 4, 1) := by decide +kernel
theorem dX7_readOneAs_34 : decode cX7_readOneAs 34 = .ok (.putfield 33, 3) := by decide +kernel
theorem dX7_readOneAs_37 : decode cX7_readOneAs 37 = .ok (.iconst 0, 1) := by decide +kernel
theorem dX7_readOneAs_38 : decode cX7_readOneAs 38 = .ok (.ireturn, 1) := by decide +kernel
theorem dX7_readOneAs_39 : decode cX7_readOneAs 39 = .ok (.aload 4, 2) := by decide +kernel
theorem dX7_readOneAs_41 : decode cX7_readOneAs 41 = .ok (.iload_n 3, 1) := by decide +kernel
theorem dX7_readOneAs_42 : decode cX7_readOneAs 42 = .ok (.invokevirtual 201, 3) := by decide +kernel
theorem dX7_readOneAs_45 : decode cX7_readOneAs 45 = .ok (.ifCond .ne 10, 3) := by decide +kernel
theorem dX7_readOneAs_48 : decode cX7_readOneAs 48 = .ok (.aload_n 0, 1) := by decide +kernel
theorem dX7_readOneAs_49 : decode cX7_readOneAs 49 = .ok (.iconst 5, 1) := by decide +kernel
theorem dX7_readOneAs_50 : decode cX7_readOneAs 50 = .ok (.putfield 33, 3) := by decide +kernel
theorem dX7_readOneAs_53 : decode cX7_readOneAs 53 = .ok (.iconst 0, 1) := by decide +kernel
theorem dX7_readOneAs_54 : decode cX7_readOneAs 54 = .ok (.ireturn, 1) := by decide +kernel
theorem dX7_readOneAs_55 : decode cX7_readOneAs 55 = .ok (.aload 4, 2) := by decide +kernel
theorem dX7_readOneAs_57 : decode cX7_readOneAs 57 = .ok (.iload_n 2, 1) := by decide +kernel
theorem dX7_readOneAs_58 : decode cX7_readOneAs 58 = .ok (.aload_n 0, 1) := by decide +kernel
theorem dX7_readOneAs_59 : decode cX7_readOneAs 59 = .ok (.getfield 26, 3) := by decide +kernel
theorem dX7_readOneAs_62 : decode cX7_readOneAs 62 = .ok (.invokevirtual 117, 3) := by decide +kernel
theorem dX7_readOneAs_65 : decode cX7_readOneAs 65 = .ok (.aload_n 0, 1) := by decide +kernel
theorem dX7_readOneAs_66 : decode cX7_readOneAs 66 = .ok (.iconst 0, 1) := by decide +kernel
theorem dX7_readOneAs_67 : decode cX7_readOneAs 67 = .ok (.putfield 33, 3) := by decide +kernel
theorem dX7_readOneAs_70 : decode cX7_readOneAs 70 = .ok (.iconst 1, 1) := by decide +kernel
theorem dX7_readOneAs_71 : decode cX7_readOneAs 71 = .ok (.ireturn, 1) := by decide +kernel
theorem dX7_moveByIndex_0 : decode cX7_moveByIndex 0 = .ok (.aload_n 0, 1) := by decide +kernel
theorem dX7_moveByIndex_1 : decode cX7_moveByIndex 1 = .ok (.iload_n 1, 1) := by decide +kernel
theorem dX7_moveByIndex_2 : decode cX7_moveByIndex 2 = .ok (.invokevirtual 61, 3) := by decide +kernel
theorem dX7_moveByIndex_5 : decode cX7_moveByIndex 5 = .ok (.astore 5, 2) := by decide +kernel
theorem dX7_moveByIndex_7 : decode cX7_moveByIndex 7 = .ok (.aload_n 0, 1) := by decide +kernel
theorem dX7_moveByIndex_8 : decode cX7_moveByIndex 8 = .ok (.iload_n 2, 1) := by decide +kernel
theorem dX7_moveByIndex_9 : decode cX7_moveByIndex 9 = .ok (.invokevirtual 61, 3) := by decide +kernel
theorem dX7_moveByIndex_12 : decode cX7_moveByIndex 12 = .ok (.astore 6, 2) := by decide +kernel
theorem dX7_moveByIndex_14 : decode cX7_moveByIndex 14 = .ok (.aload_n 0, 1) := by decide +kernel
theorem dX7_moveByIndex_15 : decode cX7_moveByIndex 15 = .ok (.iload_n 3, 1) := by decide +kernel
theorem dX7_moveByIndex_16 : decode cX7_moveByIndex 16 = .ok (.invokevirtual 61, 3) := by decide +kernel
theorem dX7_moveByIndex_19 : decode cX7_moveByIndex 19 = .ok (.astore 7, 2) := by decide +kernel
theorem dX7_moveByIndex_21 : decode cX7_moveByIndex 21 = .ok (.aload 5, 2) := by decide +kernel
theorem dX7_moveByIndex_23 : decode cX7_moveByIndex 23 = .ok (.ifnull 13, 3) := by decide +kernel
theorem dX7_moveByIndex_26 : decode cX7_moveByIndex 26 = .ok (.aload 6, 2) := by decide +kernel
theorem dX7_moveByIndex_28 : decode cX7_moveByIndex 28 = .ok (.ifnull 8, 3) := by decide +kernel
theorem dX7_moveByIndex_31 : decode cX7_moveByIndex 31 = .ok (.aload 7, 2) := by decide +kernel
theorem dX7_moveByIndex_33 : decode cX7_moveByIndex 33 = .ok (.ifnonnull 15, 3) := by decide +kernel
theorem dX7_moveByIndex_36 : decode cX7_moveByIndex 36 = .ok (.aload_n 0, 1) := by decide +kernel
theorem dX7_moveByIndex_37 : decode cX7_moveByIndex 37 = .ok (.aload_n 0, 1) := by decide +kernel
theorem dX7_moveByIndex_38 : decode cX7_moveByIndex 38 = .ok (.iload_n 1, 1) := by decide +kernel
theorem dX7_moveByIndex_39 : decode cX7_moveByIndex 39 = .ok (.iload_n 2, 1) := by decide +kernel
theorem dX7_moveByIndex_40 : decode cX7_moveByIndex 40 = .ok (.iload_n 3, 1) := by decide +kernel
theorem dX7_moveByIndex_41 : decode cX7_moveByIndex 41 = .ok (.invokevirtual 151, 3) := by decide +kernel
theorem dX7_moveByIndex_44 : decode cX7_moveByIndex 44 = .ok (.invokevirtual 41, 3) := by decide +kernel
theorem dX7_moveByIndex_47 : decode cX7_moveByIndex 47 = .ok (.ireturn, 1) := by decide +kernel
theorem dX7_moveByIndex_48 : decode cX7_moveByIndex 48 = .ok (.aload 6, 2) := by decide +kernel
theorem dX7_moveByIndex_50 : decode cX7_moveByIndex 50 = .ok (.iconst 4, 1) := by decide +kernel
theorem dX7_moveByIndex_51 : decode cX7_moveByIndex 51 = .ok (.invokevirtual 201, 3) := by decide +kernel
theorem dX7_moveByIndex_54 : decode cX7_moveByIndex 54 = .ok (.ifCond .ne 10, 3) := by decide +kernel
theorem dX7_moveByIndex_57 : decode cX7_moveByIndex 57 = .ok (.aload_n 0, 1) := by decide +kernel
theorem dX7_moveByIndex_58 : decode cX7_moveByIndex 58 = .ok (.bipush 6, 2) := by decide +kernel
theorem dX7_moveByIndex_60 : decode cX7_moveByIndex 60 = .ok (.invokevirtual 41, 3) := by decide +kernel
theorem dX7_moveByIndex_63 : decode cX7_moveByIndex 63 = .ok (.ireturn, 1) := by decide +kernel
theorem dX7_moveByIndex_64 : decode cX7_moveByIndex 64 = .ok (.aload 6, 2) := by decide +kernel
theorem dX7_moveByIndex_66 : decode cX7_moveByIndex 66 = .ok (.invokevirtual 68, 3) := by decide +kernel
theorem dX7_moveByIndex_69 : decode cX7_moveByIndex 69 = .ok (.istore 8, 2) := by decide +kernel
theorem dX7_moveByIndex_71 : decode cX7_moveByIndex 71 = .ok (.iload 8, 2) := by decide +kernel
theorem dX7_moveByIndex_73 : decode cX7_moveByIndex 73 = .ok (.iload 4, 2) := by decide +kernel
theorem dX7_moveByIndex_75 : decode cX7_moveByIndex 75 = .ok (.ifCond .eq 11, 3) := by decide +kernel
theorem dX7_moveByIndex_78 : decode cX7_moveByIndex 78 = .ok (.aload 7, 2) := by decide +kernel
theorem dX7_moveByIndex_80 : decode cX7_moveByIndex 80 = .ok (.invokevirtual 68, 3) := by decide +kernel
theorem dX7_moveByIndex_83 : decode cX7_moveByIndex 83 = .ok (.goto 8, 3) := by decide +kernel
theorem dX7_moveByIndex_86 : decode cX7_moveByIndex 86 = .ok (.aload 5, 2) := by decide +kernel
theorem dX7_moveByIndex_88 : decode cX7_moveByIndex 88 = .ok (.invokevirtual 68, 3) := by decide +kernel
theorem dX7_moveByIndex_91 : decode cX7_moveByIndex 91 = .ok (.if_icmp .eq 9, 3) := by decide +kernel
theorem dX7_moveByIndex_94 : decode cX7_moveByIndex 94 = .ok (.aload_n 0, 1) := by decide +kernel
theorem dX7_moveByIndex_95 : decode cX7_moveByIndex 95 = .ok (.iconst 4, 1) := by decide +kernel
theorem dX7_moveByIndex_96 : decode cX7_moveByIndex 96 = .ok (.invokevirtual 41, 3) := by decide +kernel
theorem dX7_moveByIndex_99 : decode cX7_moveByIndex 99 = .ok (.ireturn, 1) := by decide +kernel
theorem dX7_moveByIndex_100 : decode cX7_moveByIndex 100 = .ok (.iconst 0, 1) := by decide +kernel
theorem dX7_moveByIndex_101 : decode cX7_moveByIndex 101 = .ok (.istore 9, 2) := by decide +kernel
theorem dX7_moveByIndex_103 : decode cX7_moveByIndex 103 = .ok (.iload 9, 2) := by decide +kernel
theorem dX7_moveByIndex_105 : decode cX7_moveByIndex 105 = .ok (.iload 8, 2) := by decide +kernel
theorem dX7_moveByIndex_107 : decode cX7_moveByIndex 107 = .ok (.if_icmp .ge 74, 3) := by decide +kernel
theorem dX7_moveByIndex_110 : decode cX7_moveByIndex 110 = .ok (.aload_n 0, 1) := by decide +kernel
theorem dX7_moveByIndex_111 : decode cX7_moveByIndex 111 = .ok (.aload 6, 2) := by decide +kernel
theorem dX7_moveByIndex_113 : decode cX7_moveByIndex 113 = .ok (.iload 9, 2) := by decide +kernel
theorem dX7_moveByIndex_115 : decode cX7_moveByIndex 115 = .ok (.invokevirtual 204, 3) := by decide +kernel
theorem dX7_moveByIndex_118 : decode cX7_moveByIndex 118 = .ok (.istore 10, 2) := by decide +kernel
theorem dX7_moveByIndex_120 : decode cX7_moveByIndex 120 = .ok (.aload_n 0, 1) := by decide +kernel
theorem dX7_moveByIndex_121 : decode cX7_moveByIndex 121 = .ok (.getfield 22, 3) := by decide +kernel
theorem dX7_moveByIndex_124 : decode cX7_moveByIndex 124 = .ok (.iload 9, 2) := by decide +kernel
theorem dX7_moveByIndex_126 : decode cX7_moveByIndex 126 = .ok (.iload 4, 2) := by decide +kernel
theorem dX7_moveByIndex_128 : decode cX7_moveByIndex 128 = .ok (.ifCond .eq 8, 3) := by decide +kernel
theorem dX7_moveByIndex_131 : decode cX7_moveByIndex 131 = .ok (.iload 9, 2) := by decide +kernel
theorem dX7_moveByIndex_133 : decode cX7_moveByIndex 133 = .ok (.goto 5, 3) := by decide +kernel
theorem dX7_moveByIndex_136 : decode cX7_moveByIndex 136 = .ok (.iload 10, 2) := by decide +kernel
theorem dX7_moveByIndex_138 : decode cX7_moveByIndex 138 = .ok (.iastore, 1) := by decide +kernel
theorem dX7_moveByIndex_139 : decode cX7_moveByIndex 139 = .ok (.aload_n 0, 1) := by decide +kernel
theorem dX7_moveByIndex_140 : decode cX7_moveByIndex 140 = .ok (.aload 5, 2) := by decide +kernel
theorem dX7_moveByIndex_142 : decode cX7_moveByIndex 142 = .ok (.iload 4, 2) := by decide +kernel
theorem dX7_moveByIndex_144 : decode cX7_moveByIndex 144 = .ok (.ifCond .eq 8, 3) := by decide +kernel
theorem dX7_moveByIndex_147 : decode cX7_moveByIndex 147 = .ok (.iload 10, 2) := by decide +kernel
theorem dX7_moveByIndex_149 : decode cX7_moveByIndex 149 = .ok (.goto 5, 3) := by decide +kernel
theorem dX7_moveByIndex_152 : decode cX7_moveByIndex 152 = .ok (.iload 9, 2) := by decide +kernel
theorem dX7_moveByIndex_154 : decode cX7_moveByIndex 154 = .ok (.aload 7, 2) := by decide +kernel
theorem dX7_moveByIndex_156 : decode cX7_moveByIndex 156 = .ok (.iload 9, 2) := by decide +kernel
theorem dX7_moveByIndex_158 : decode cX7_moveByIndex 158 = .ok (.invokevirtual 208, 3) := by decide +kernel
theorem dX7_moveByIndex_161 : decode cX7_moveByIndex 161 = .ok (.istore 11, 2) := by decide +kernel
theorem dX7_moveByIndex_163 : decode cX7_moveByIndex 163 = .ok (.iload 11, 2) := by decide +kernel
theorem dX7_moveByIndex_165 : decode cX7_moveByIndex 165 = .ok (.ifCond .eq 10, 3) := by decide +kernel
theorem dX7_moveByIndex_168 : decode cX7_moveByIndex 168 = .ok (.aload_n 0, 1) := by decide +kernel
theorem dX7_moveByIndex_169 : decode cX7_moveByIndex 169 = .ok (.iload 11, 2) := by decide +kernel
theorem dX7_moveByIndex_171 : decode cX7_moveByIndex 171 = .ok (.invokevirtual 41, 3) := by decide +kernel
theorem dX7_moveByIndex_174 : decode cX7_moveByIndex 174 = .ok (.ireturn, 1) := by decide +kernel
theorem dX7_moveByIndex_175 : decode cX7_moveByIndex 175 = .ok (.iinc 9 1, 3) := by decide +kernel
theorem dX7_moveByIndex_178 : decode cX7_moveByIndex 178 = .ok (.goto (-75), 3) := by decide +kernel
theorem dX7_moveByIndex_181 : decode cX7_moveByIndex 181 = .ok (.iconst 0, 1) := by decide +kernel
theorem dX7_moveByIndex_182 : decode cX7_moveByIndex 182 = .ok (.istore 9, 2) := by decide +kernel
theorem dX7_moveByIndex_184 : decode cX7_moveByIndex 184 = .ok (.iload 9, 2) := by decide +kernel
theorem dX7_moveByIndex_186 : decode cX7_moveByIndex 186 = .ok (.iload 8, 2) := by decide +kernel
theorem dX7_moveByIndex_188 : decode cX7_moveByIndex 188 = .ok (.if_icmp .ge 28, 3) := by decide +kernel
theorem dX7_moveByIndex_191 : decode cX7_moveByIndex 191 = .ok (.aload 7, 2) := by decide +kernel
theorem dX7_moveByIndex_193 : decode cX7_moveByIndex 193 = .ok (.aload_n 0, 1) := by decide +kernel
theorem dX7_moveByIndex_194 : decode cX7_moveByIndex 194 = .ok (.getfield 22, 3) := by decide +kernel
theorem dX7_moveByIndex_197 : decode cX7_moveByIndex 197 = .ok (.iload 9, 2) := by decide +kernel
theorem dX7_moveByIndex_199 : decode cX7_moveByIndex 199 = .ok (.iaload, 1) := by decide +kernel
theorem dX7_moveByIndex_200 : decode cX7_moveByIndex 200 = .ok (.aload_n 0, 1) := by decide +kernel
theorem dX7_moveByIndex_201 : decode cX7_moveByIndex 201 = .ok (.getfield 17, 3) := by decide +kernel
theorem dX7_moveByIndex_204 : decode cX7_moveByIndex 204 = .ok (.iload 9, 2) := by decide +kernel
theorem dX7_moveByIndex_206 : decode cX7_moveByIndex 206 = .ok (.aaload, 1) := by decide +kernel
theorem dX7_moveByIndex_207 : decode cX7_moveByIndex 207 = .ok (.invokevirtual 198, 3) := by decide +kernel
theorem dX7_moveByIndex_210 : decode cX7_moveByIndex 210 = .ok (.iinc 9 1, 3) := by decide +kernel
theorem dX7_moveByIndex_213 : decode cX7_moveByIndex 213 = .ok (.goto (-29), 3) := by decide +kernel
theorem dX7_moveByIndex_216 : decode cX7_moveByIndex 216 = .ok (.aload_n 0, 1) := by decide +kernel
theorem dX7_moveByIndex_217 : decode cX7_moveByIndex 217 = .ok (.iload 8, 2) := by decide +kernel
theorem dX7_moveByIndex_219 : decode cX7_moveByIndex 219 = .ok (.invokevirtual 50, 3) := by decide +kernel
theorem dX7_moveByIndex_222 : decode cX7_moveByIndex 222 = .ok (.ireturn, 1) := by decide +kernel
theorem dX7_stageMove_0 : decode cX7_stageMove 0 = .ok (.aload_n 1, 1) := by decide +kernel
theorem dX7_stageMove_1 : decode cX7_stageMove 1 = .ok (.iload_n 2, 1) := by decide +kernel
theorem dX7_stageMove_2 : decode cX7_stageMove 2 = .ok (.invokevirtual 114, 3) := by decide +kernel
theorem dX7_stageMove_5 : decode cX7_stageMove 5 = .ok (.ifCond .eq 17, 3) := by decide +kernel
theorem dX7_stageMove_8 : decode cX7_stageMove 8 = .ok (.aload_n 3, 1) := by decide +kernel
theorem dX7_stageMove_9 : decode cX7_stageMove 9 = .ok (.aload_n 0, 1) := by decide +kernel
theorem dX7_stageMove_10 : decode cX7_stageMove 10 = .ok (.getfield 22, 3) := by decide +kernel
theorem dX7_stageMove_13 : decode cX7_stageMove 13 = .ok (.iload 4, 2) := by decide +kernel
theorem dX7_stageMove_15 : decode cX7_stageMove 15 = .ok (.iaload, 1) := by decide +kernel
theorem dX7_stageMove_16 : decode cX7_stageMove 16 = .ok (.invokevirtual 114, 3) := by decide +kernel
theorem dX7_stageMove_19 : decode cX7_stageMove 19 = .ok (.ifCond .ne 5, 3) := by decide +kernel
theorem dX7_stageMove_22 : decode cX7_stageMove 22 = .ok (.iconst 4, 1) := by decide +kernel
theorem dX7_stageMove_23 : decode cX7_stageMove 23 = .ok (.ireturn, 1) := by decide +kernel
theorem dX7_stageMove_24 : decode cX7_stageMove 24 = .ok (.aload_n 1, 1) := by decide +kernel
theorem dX7_stageMove_25 : decode cX7_stageMove 25 = .ok (.iload_n 2, 1) := by decide +kernel
theorem dX7_stageMove_26 : decode cX7_stageMove 26 = .ok (.aload_n 0, 1) := by decide +kernel
theorem dX7_stageMove_27 : decode cX7_stageMove 27 = .ok (.getfield 17, 3) := by decide +kernel
theorem dX7_stageMove_30 : decode cX7_stageMove 30 = .ok (.iload 4, 2) := by decide +kernel
theorem dX7_stageMove_32 : decode cX7_stageMove 32 = .ok (.aaload, 1) := by decide +kernel
theorem dX7_stageMove_33 : decode cX7_stageMove 33 = .ok (.invokevirtual 117, 3) := by decide +kernel
theorem dX7_stageMove_36 : decode cX7_stageMove 36 = .ok (.aload_n 3, 1) := by decide +kernel
theorem dX7_stageMove_37 : decode cX7_stageMove 37 = .ok (.aload_n 0, 1) := by decide +kernel
theorem dX7_stageMove_38 : decode cX7_stageMove 38 = .ok (.getfield 17, 3) := by decide +kernel
theorem dX7_stageMove_41 : decode cX7_stageMove 41 = .ok (.iload 4, 2) := by decide +kernel
theorem dX7_stageMove_43 : decode cX7_stageMove 43 = .ok (.aaload, 1) := by decide +kernel
theorem dX7_stageMove_44 : decode cX7_stageMove 44 = .ok (.invokevirtual 139, 3) := by decide +kernel
theorem dX7_stageMove_47 : decode cX7_stageMove 47 = .ok (.ifCond .eq 7, 3) := by decide +kernel
theorem dX7_stageMove_50 : decode cX7_stageMove 50 = .ok (.iconst 0, 1) := by decide +kernel
theorem dX7_stageMove_51 : decode cX7_stageMove 51 = .ok (.goto 4, 3) := by decide +kernel
theorem dX7_stageMove_54 : decode cX7_stageMove 54 = .ok (.iconst 5, 1) := by decide +kernel
theorem dX7_stageMove_55 : decode cX7_stageMove 55 = .ok (.ireturn, 1) := by decide +kernel
theorem dX7_indexAt_0 : decode cX7_indexAt 0 = .ok (.aload_n 1, 1) := by decide +kernel
theorem dX7_indexAt_1 : decode cX7_indexAt 1 = .ok (.iload_n 2, 1) := by decide +kernel
theorem dX7_indexAt_2 : decode cX7_indexAt 2 = .ok (.aload_n 0, 1) := by decide +kernel
theorem dX7_indexAt_3 : decode cX7_indexAt 3 = .ok (.getfield 26, 3) := by decide +kernel
theorem dX7_indexAt_6 : decode cX7_indexAt 6 = .ok (.invokevirtual 117, 3) := by decide +kernel
theorem dX7_indexAt_9 : decode cX7_indexAt 9 = .ok (.aload_n 0, 1) := by decide +kernel
theorem dX7_indexAt_10 : decode cX7_indexAt 10 = .ok (.getfield 26, 3) := by decide +kernel
theorem dX7_indexAt_13 : decode cX7_indexAt 13 = .ok (.getfield 106, 3) := by decide +kernel
theorem dX7_indexAt_16 : decode cX7_indexAt 16 = .ok (.l2i, 1) := by decide +kernel
theorem dX7_indexAt_17 : decode cX7_indexAt 17 = .ok (.ireturn, 1) := by decide +kernel
theorem dX7_writeStage_0 : decode cX7_writeStage 0 = .ok (.aload_n 1, 1) := by decide +kernel
theorem dX7_writeStage_1 : decode cX7_writeStage 1 = .ok (.invokevirtual 68, 3) := by decide +kernel
theorem dX7_writeStage_4 : decode cX7_writeStage 4 = .ok (.istore_n 2, 1) := by decide +kernel
theorem dX7_writeStage_5 : decode cX7_writeStage 5 = .ok (.iconst 0, 1) := by decide +kernel
theorem dX7_writeStage_6 : decode cX7_writeStage 6 = .ok (.istore_n 3, 1) := by decide +kernel
theorem dX7_writeStage_7 : decode cX7_writeStage 7 = .ok (.iload_n 3, 1) := by decide +kernel
theorem dX7_writeStage_8 : decode cX7_writeStage 8 = .ok (.iload_n 2, 1) := by decide +kernel
theorem dX7_writeStage_9 : decode cX7_writeStage 9 = .ok (.if_icmp .ge 20, 3) := by decide +kernel
theorem dX7_writeStage_12 : decode cX7_writeStage 12 = .ok (.aload_n 1, 1) := by decide +kernel
theorem dX7_writeStage_13 : decode cX7_writeStage 13 = .ok (.iload_n 3, 1) := by decide +kernel
theorem dX7_writeStage_14 : decode cX7_writeStage 14 = .ok (.aload_n 0, 1) := by decide +kernel
theorem dX7_writeStage_15 : decode cX7_writeStage 15 = .ok (.getfield 17, 3) := by decide +kernel
theorem dX7_writeStage_18 : decode cX7_writeStage 18 = .ok (.iload_n 3, 1) := by decide +kernel
theorem dX7_writeStage_19 : decode cX7_writeStage 19 = .ok (.aaload, 1) := by decide +kernel
theorem dX7_writeStage_20 : decode cX7_writeStage 20 = .ok (.invokevirtual 198, 3) := by decide +kernel
theorem dX7_writeStage_23 : decode cX7_writeStage 23 = .ok (.iinc 3 1, 3) := by decide +kernel
theorem dX7_writeStage_26 : decode cX7_writeStage 26 = .ok (.goto (-19), 3) := by decide +kernel
theorem dX7_writeStage_29 : decode cX7_writeStage 29 = .ok (.iload_n 2, 1) := by decide +kernel
theorem dX7_writeStage_30 : decode cX7_writeStage 30 = .ok (.ireturn, 1) := by decide +kernel
theorem dX7_comesFromRight_0 : decode cX7_comesFromRight 0 = .ok (.aload_n 1, 1) := by decide +kernel
theorem dX7_comesFromRight_1 : decode cX7_comesFromRight 1 = .ok (.iload_n 2, 1) := by decide +kernel
theorem dX7_comesFromRight_2 : decode cX7_comesFromRight 2 = .ok (.invokevirtual 114, 3) := by decide +kernel
theorem dX7_comesFromRight_5 : decode cX7_comesFromRight 5 = .ok (.ifCond .ne 5, 3) := by decide +kernel
theorem dX7_comesFromRight_8 : decode cX7_comesFromRight 8 = .ok (.iconst 1, 1) := by decide +kernel
theorem dX7_comesFromRight_9 : decode cX7_comesFromRight 9 = .ok (.ireturn, 1) := by decide +kernel
theorem dX7_comesFromRight_10 : decode cX7_comesFromRight 10 = .ok (.aload_n 3, 1) := by decide +kernel
theorem dX7_comesFromRight_11 : decode cX7_comesFromRight 11 = .ok (.iload 4, 2) := by decide +kernel
theorem dX7_comesFromRight_13 : decode cX7_comesFromRight 13 = .ok (.invokevirtual 114, 3) := by decide +kernel
theorem dX7_comesFromRight_16 : decode cX7_comesFromRight 16 = .ok (.ifCond .ne 5, 3) := by decide +kernel
theorem dX7_comesFromRight_19 : decode cX7_comesFromRight 19 = .ok (.iconst 0, 1) := by decide +kernel
theorem dX7_comesFromRight_20 : decode cX7_comesFromRight 20 = .ok (.ireturn, 1) := by decide +kernel
theorem dX7_comesFromRight_21 : decode cX7_comesFromRight 21 = .ok (.aload_n 1, 1) := by decide +kernel
theorem dX7_comesFromRight_22 : decode cX7_comesFromRight 22 = .ok (.iload_n 2, 1) := by decide +kernel
theorem dX7_comesFromRight_23 : decode cX7_comesFromRight 23 = .ok (.aload_n 0, 1) := by decide +kernel
theorem dX7_comesFromRight_24 : decode cX7_comesFromRight 24 = .ok (.getfield 26, 3) := by decide +kernel
theorem dX7_comesFromRight_27 : decode cX7_comesFromRight 27 = .ok (.invokevirtual 117, 3) := by decide +kernel
theorem dX7_comesFromRight_30 : decode cX7_comesFromRight 30 = .ok (.aload_n 3, 1) := by decide +kernel
theorem dX7_comesFromRight_31 : decode cX7_comesFromRight 31 = .ok (.iload 4, 2) := by decide +kernel
theorem dX7_comesFromRight_33 : decode cX7_comesFromRight 33 = .ok (.aload_n 0, 1) := by decide +kernel
theorem dX7_comesFromRight_34 : decode cX7_comesFromRight 34 = .ok (.getfield 30, 3) := by decide +kernel
theorem dX7_comesFromRight_37 : decode cX7_comesFromRight 37 = .ok (.invokevirtual 117, 3) := by decide +kernel
theorem dX7_comesFromRight_40 : decode cX7_comesFromRight 40 = .ok (.aload_n 0, 1) := by decide +kernel
theorem dX7_comesFromRight_41 : decode cX7_comesFromRight 41 = .ok (.getfield 30, 3) := by decide +kernel
theorem dX7_comesFromRight_44 : decode cX7_comesFromRight 44 = .ok (.aload_n 0, 1) := by decide +kernel
theorem dX7_comesFromRight_45 : decode cX7_comesFromRight 45 = .ok (.getfield 26, 3) := by decide +kernel
theorem dX7_comesFromRight_48 : decode cX7_comesFromRight 48 = .ok (.invokevirtual 212, 3) := by decide +kernel
theorem dX7_comesFromRight_51 : decode cX7_comesFromRight 51 = .ok (.ireturn, 1) := by decide +kernel
theorem dX7_sinkIntoOrder_0 : decode cX7_sinkIntoOrder 0 = .ok (.aload_n 0, 1) := by decide +kernel
theorem dX7_sinkIntoOrder_1 : decode cX7_sinkIntoOrder 1 = .ok (.getfield 17, 3) := by decide +kernel
theorem dX7_sinkIntoOrder_4 : decode cX7_sinkIntoOrder 4 = .ok (.iload_n 1, 1) := by decide +kernel
theorem dX7_sinkIntoOrder_5 : decode cX7_sinkIntoOrder 5 = .ok (.aaload, 1) := by decide +kernel
theorem dX7_sinkIntoOrder_6 : decode cX7_sinkIntoOrder 6 = .ok (.astore_n 2, 1) := by decide +kernel
theorem dX7_sinkIntoOrder_7 : decode cX7_sinkIntoOrder 7 = .ok (.iload_n 1, 1) := by decide +kernel
theorem dX7_sinkIntoOrder_8 : decode cX7_sinkIntoOrder 8 = .ok (.istore_n 3, 1) := by decide +kernel
theorem dX7_sinkIntoOrder_9 : decode cX7_sinkIntoOrder 9 = .ok (.iload_n 3, 1) := by decide +kernel
theorem dX7_sinkIntoOrder_10 : decode cX7_sinkIntoOrder 10 = .ok (.ifCond .le 38, 3) := by decide +kernel
theorem dX7_sinkIntoOrder_13 : decode cX7_sinkIntoOrder 13 = .ok (.aload_n 2, 1) := by decide +kernel
theorem dX7_sinkIntoOrder_14 : decode cX7_sinkIntoOrder 14 = .ok (.aload_n 0, 1) := by decide +kernel
theorem dX7_sinkIntoOrder_15 : decode cX7_sinkIntoOrder 15 = .ok (.getfield 17, 3) := by decide +kernel
theorem dX7_sinkIntoOrder_18 : decode cX7_sinkIntoOrder 18 = .ok (.iload_n 3, 1) := by decide +kernel
theorem dX7_sinkIntoOrder_19 : decode cX7_sinkIntoOrder 19 = .ok (.iconst 1, 1) := by decide +kernel
theorem dX7_sinkIntoOrder_20 : decode cX7_sinkIntoOrder 20 = .ok (.isub, 1) := by decide +kernel
theorem dX7_sinkIntoOrder_21 : decode cX7_sinkIntoOrder 21 = .ok (.aaload, 1) := by decide +kernel
theorem dX7_sinkIntoOrder_22 : decode cX7_sinkIntoOrder 22 = .ok (.invokevirtual 215, 3) := by decide +kernel
theorem dX7_sinkIntoOrder_25 : decode cX7_sinkIntoOrder 25 = .ok (.ifCond .eq 23, 3) := by decide +kernel
theorem dX7_sinkIntoOrder_28 : decode cX7_sinkIntoOrder 28 = .ok (.aload_n 0, 1) := by decide +kernel
theorem dX7_sinkIntoOrder_29 : decode cX7_sinkIntoOrder 29 = .ok (.getfield 17, 3) := by decide +kernel
theorem dX7_sinkIntoOrder_32 : decode cX7_sinkIntoOrder 32 = .ok (.iload_n 3, 1) := by decide +kernel
theorem dX7_sinkIntoOrder_33 : decode cX7_sinkIntoOrder 33 = .ok (.aload_n 0, 1) := by decide +kernel
theorem dX7_sinkIntoOrder_34 : decode cX7_sinkIntoOrder 34 = .ok (.getfield 17, 3) := by decide +kernel
theorem dX7_sinkIntoOrder_37 : decode cX7_sinkIntoOrder 37 = .ok (.iload_n 3, 1) := by decide +kernel
theorem dX7_sinkIntoOrder_38 : decode cX7_sinkIntoOrder 38 = .ok (.iconst 1, 1) := by decide +kernel
theorem dX7_sinkIntoOrder_39 : decode cX7_sinkIntoOrder 39 = .ok (.isub, 1) := by decide +kernel
theorem dX7_sinkIntoOrder_40 : decode cX7_sinkIntoOrder 40 = .ok (.aaload, 1) := by decide +kernel
theorem dX7_sinkIntoOrder_41 : decode cX7_sinkIntoOrder 41 = .ok (.aastore, 1) := by decide +kernel
theorem dX7_sinkIntoOrder_42 : decode cX7_sinkIntoOrder 42 = .ok (.iinc 3 (-1), 3) := by decide +kernel
theorem dX7_sinkIntoOrder_45 : decode cX7_sinkIntoOrder 45 = .ok (.goto (-36), 3) := by decide +kernel
theorem dX7_sinkIntoOrder_48 : decode cX7_sinkIntoOrder 48 = .ok (.aload_n 0, 1) := by decide +kernel
theorem dX7_sinkIntoOrder_49 : decode cX7_sinkIntoOrder 49 = .ok (.getfield 17, 3) := by decide +kernel
theorem dX7_sinkIntoOrder_52 : decode cX7_sinkIntoOrder 52 = .ok (.iload_n 3, 1) := by decide +kernel
theorem dX7_sinkIntoOrder_53 : decode cX7_sinkIntoOrder 53 = .ok (.aload_n 2, 1) := by decide +kernel
theorem dX7_sinkIntoOrder_54 : decode cX7_sinkIntoOrder 54 = .ok (.aastore, 1) := by decide +kernel
theorem dX7_sinkIntoOrder_55 : decode cX7_sinkIntoOrder 55 = .ok (.return_, 1) := by decide +kernel
theorem dX7_placesUnlikeStage_0 : decode cX7_placesUnlikeStage 0 = .ok (.iconst 0, 1) := by decide +kernel
theorem dX7_placesUnlikeStage_1 : decode cX7_placesUnlikeStage 1 = .ok (.istore_n 2, 1) := by decide +kernel
theorem dX7_placesUnlikeStage_2 : decode cX7_placesUnlikeStage 2 = .ok (.iconst 0, 1) := by decide +kernel
theorem dX7_placesUnlikeStage_3 : decode cX7_placesUnlikeStage 3 = .ok (.istore_n 3, 1) := by decide +kernel
theorem dX7_placesUnlikeStage_4 : decode cX7_placesUnlikeStage 4 = .ok (.iload_n 3, 1) := by decide +kernel
theorem dX7_placesUnlikeStage_5 : decode cX7_placesUnlikeStage 5 = .ok (.aload_n 1, 1) := by decide +kernel
theorem dX7_placesUnlikeStage_6 : decode cX7_placesUnlikeStage 6 = .ok (.invokevirtual 68, 3) := by decide +kernel
theorem dX7_placesUnlikeStage_9 : decode cX7_placesUnlikeStage 9 = .ok (.if_icmp .ge 37, 3) := by decide +kernel
theorem dX7_placesUnlikeStage_12 : decode cX7_placesUnlikeStage 12 = .ok (.aload_n 1, 1) := by decide +kernel
theorem dX7_placesUnlikeStage_13 : decode cX7_placesUnlikeStage 13 = .ok (.iload_n 3, 1) := by decide +kernel
theorem dX7_placesUnlikeStage_14 : decode cX7_placesUnlikeStage 14 = .ok (.aload_n 0, 1) := by decide +kernel
theorem dX7_placesUnlikeStage_15 : decode cX7_placesUnlikeStage 15 = .ok (.getfield 26, 3) := by decide +kernel
theorem dX7_placesUnlikeStage_18 : decode cX7_placesUnlikeStage 18 = .ok (.invokevirtual 117, 3) := by decide +kernel
theorem dX7_placesUnlikeStage_21 : decode cX7_placesUnlikeStage 21 = .ok (.aload_n 0, 1) := by decide +kernel
theorem dX7_placesUnlikeStage_22 : decode cX7_placesUnlikeStage 22 = .ok (.getfield 26, 3) := by decide +kernel
theorem dX7_placesUnlikeStage_25 : decode cX7_placesUnlikeStage 25 = .ok (.aload_n 0, 1) := by decide +kernel
theorem dX7_placesUnlikeStage_26 : decode cX7_placesUnlikeStage 26 = .ok (.getfield 17, 3) := by decide +kernel
theorem dX7_placesUnlikeStage_29 : decode cX7_placesUnlikeStage 29 = .ok (.iload_n 3, 1) := by decide +kernel
theorem dX7_placesUnlikeStage_30 : decode cX7_placesUnlikeStage 30 = .ok (.aaload, 1) := by decide +kernel
theorem dX7_placesUnlikeStage_31 : decode cX7_placesUnlikeStage 31 = .ok (.invokevirtual 182, 3) := by decide +kernel
theorem dX7_placesUnlikeStage_34 : decode cX7_placesUnlikeStage 34 = .ok (.ifCond .ne 6, 3) := by decide +kernel
theorem dX7_placesUnlikeStage_37 : decode cX7_placesUnlikeStage 37 = .ok (.iinc 2 1, 3) := by decide +kernel
theorem dX7_placesUnlikeStage_40 : decode cX7_placesUnlikeStage 40 = .ok (.iinc 3 1, 3) := by decide +kernel
theorem dX7_placesUnlikeStage_43 : decode cX7_placesUnlikeStage 43 = .ok (.goto (-39), 3) := by decide +kernel
theorem dX7_placesUnlikeStage_46 : decode cX7_placesUnlikeStage 46 = .ok (.iload_n 2, 1) := by decide +kernel
theorem dX7_placesUnlikeStage_47 : decode cX7_placesUnlikeStage 47 = .ok (.ireturn, 1) := by decide +kernel
theorem dX7_goesInto_0 : decode cX7_goesInto 0 = .ok (.iload_n 0, 1) := by decide +kernel
theorem dX7_goesInto_1 : decode cX7_goesInto 1 = .ok (.iload_n 1, 1) := by decide +kernel
theorem dX7_goesInto_2 : decode cX7_goesInto 2 = .ok (.if_icmp .ne 5, 3) := by decide +kernel
theorem dX7_goesInto_5 : decode cX7_goesInto 5 = .ok (.iconst 1, 1) := by decide +kernel
theorem dX7_goesInto_6 : decode cX7_goesInto 6 = .ok (.ireturn, 1) := by decide +kernel
theorem dX7_goesInto_7 : decode cX7_goesInto 7 = .ok (.iload_n 0, 1) := by decide +kernel
theorem dX7_goesInto_8 : decode cX7_goesInto 8 = .ok (.ifCond .eq 18, 3) := by decide +kernel
theorem dX7_goesInto_11 : decode cX7_goesInto 11 = .ok (.iload_n 1, 1) := by decide +kernel
theorem dX7_goesInto_12 : decode cX7_goesInto 12 = .ok (.iconst 2, 1) := by decide +kernel
theorem dX7_goesInto_13 : decode cX7_goesInto 13 = .ok (.if_icmp .eq 13, 3) := by decide +kernel
theorem dX7_goesInto_16 : decode cX7_goesInto 16 = .ok (.iload_n 0, 1) := by decide +kernel
theorem dX7_goesInto_17 : decode cX7_goesInto 17 = .ok (.iconst 2, 1) := by decide +kernel
theorem dX7_goesInto_18 : decode cX7_goesInto 18 = .ok (.if_icmp .ne 10, 3) := by decide +kernel
theorem dX7_goesInto_21 : decode cX7_goesInto 21 = .ok (.iload_n 1, 1) := by decide +kernel
theorem dX7_goesInto_22 : decode cX7_goesInto 22 = .ok (.iconst 3, 1) := by decide +kernel
theorem dX7_goesInto_23 : decode cX7_goesInto 23 = .ok (.if_icmp .ne 5, 3) := by decide +kernel
theorem dX7_goesInto_26 : decode cX7_goesInto 26 = .ok (.iconst 0, 1) := by decide +kernel
theorem dX7_goesInto_27 : decode cX7_goesInto 27 = .ok (.ireturn, 1) := by decide +kernel
theorem dX7_goesInto_28 : decode cX7_goesInto 28 = .ok (.iload_n 0, 1) := by decide +kernel
theorem dX7_goesInto_29 : decode cX7_goesInto 29 = .ok (.iload_n 1, 1) := by decide +kernel
theorem dX7_goesInto_30 : decode cX7_goesInto 30 = .ok (.if_icmp .ge 7, 3) := by decide +kernel
theorem dX7_goesInto_33 : decode cX7_goesInto 33 = .ok (.iconst 1, 1) := by decide +kernel
theorem dX7_goesInto_34 : decode cX7_goesInto 34 = .ok (.goto 4, 3) := by decide +kernel
theorem dX7_goesInto_37 : decode cX7_goesInto 37 = .ok (.iconst 0, 1) := by decide +kernel
theorem dX7_goesInto_38 : decode cX7_goesInto 38 = .ok (.ireturn, 1) := by decide +kernel
theorem dX7_fits_0 : decode cX7_fits 0 = .ok (.iload_n 1, 1) := by decide +kernel
theorem dX7_fits_1 : decode cX7_fits 1 = .ok (.tableswitch 84 8 11 #[31, 43, 55, 66], 31) := by decide +kernel
theorem dX7_fits_32 : decode cX7_fits 32 = .ok (.iload_n 0, 1) := by decide +kernel
theorem dX7_fits_33 : decode cX7_fits 33 = .ok (.bipush 12, 2) := by decide +kernel
theorem dX7_fits_35 : decode cX7_fits 35 = .ok (.if_icmp .lt 7, 3) := by decide +kernel
theorem dX7_fits_38 : decode cX7_fits 38 = .ok (.iconst 1, 1) := by decide +kernel
theorem dX7_fits_39 : decode cX7_fits 39 = .ok (.goto 4, 3) := by decide +kernel
theorem dX7_fits_42 : decode cX7_fits 42 = .ok (.iconst 0, 1) := by decide +kernel
theorem dX7_fits_43 : decode cX7_fits 43 = .ok (.ireturn, 1) := by decide +kernel
theorem dX7_fits_44 : decode cX7_fits 44 = .ok (.iload_n 0, 1) := by decide +kernel
theorem dX7_fits_45 : decode cX7_fits 45 = .ok (.bipush 14, 2) := by decide +kernel
theorem dX7_fits_47 : decode cX7_fits 47 = .ok (.if_icmp .ne 7, 3) := by decide +kernel
theorem dX7_fits_50 : decode cX7_fits 50 = .ok (.iconst 1, 1) := by decide +kernel
theorem dX7_fits_51 : decode cX7_fits 51 = .ok (.goto 4, 3) := by decide +kernel
theorem dX7_fits_54 : decode cX7_fits 54 = .ok (.iconst 0, 1) := by decide +kernel
theorem dX7_fits_55 : decode cX7_fits 55 = .ok (.ireturn, 1) := by decide +kernel
theorem dX7_fits_56 : decode cX7_fits 56 = .ok (.iload_n 0, 1) := by decide +kernel
theorem dX7_fits_57 : decode cX7_fits 57 = .ok (.iconst 4, 1) := by decide +kernel
theorem dX7_fits_58 : decode cX7_fits 58 = .ok (.if_icmp .ne 7, 3) := by decide +kernel
theorem dX7_fits_61 : decode cX7_fits 61 = .ok (.iconst 1, 1) := by decide +kernel
theorem dX7_fits_62 : decode cX7_fits 62 = .ok (.goto 4, 3) := by decide +kernel
theorem dX7_fits_65 : decode cX7_fits 65 = .ok (.iconst 0, 1) := by decide +kernel
theorem dX7_fits_66 : decode cX7_fits 66 = .ok (.ireturn, 1) := by decide +kernel
theorem dX7_fits_67 : decode cX7_fits 67 = .ok (.iload_n 0, 1) := by decide +kernel
theorem dX7_fits_68 : decode cX7_fits 68 = .ok (.bipush 8, 2) := by decide +kernel
theorem dX7_fits_70 : decode cX7_fits 70 = .ok (.if_icmp .eq 9, 3) := by decide +kernel
theorem dX7_fits_73 : decode cX7_fits 73 = .ok (.iload_n 0, 1) := by decide +kernel
theorem dX7_fits_74 : decode cX7_fits 74 = .ok (.bipush 9, 2) := by decide +kernel
theorem dX7_fits_76 : decode cX7_fits 76 = .ok (.if_icmp .ne 7, 3) := by decide +kernel
theorem dX7_fits_79 : decode cX7_fits 79 = .ok (.iconst 1, 1) := by decide +kernel
theorem dX7_fits_80 : decode cX7_fits 80 = .ok (.goto 4, 3) := by decide +kernel
theorem dX7_fits_83 : decode cX7_fits 83 = .ok (.iconst 0, 1) := by decide +kernel
theorem dX7_fits_84 : decode cX7_fits 84 = .ok (.ireturn, 1) := by decide +kernel
theorem dX7_fits_85 : decode cX7_fits 85 = .ok (.iconst 0, 1) := by decide +kernel
theorem dX7_fits_86 : decode cX7_fits 86 = .ok (.ireturn, 1) := by decide +kernel
theorem dJ9_floorMod_7cf53_0 : decode cJ9_floorMod_7cf53 0 = .ok (.iload_n 0, 1) := by decide +kernel
theorem dJ9_floorMod_7cf53_1 : decode cJ9_floorMod_7cf53 1 = .ok (.iload_n 1, 1) := by decide +kernel
theorem dJ9_floorMod_7cf53_2 : decode cJ9_floorMod_7cf53 2 = .ok (.irem, 1) := by decide +kernel
theorem dJ9_floorMod_7cf53_3 : decode cJ9_floorMod_7cf53 3 = .ok (.istore_n 2, 1) := by decide +kernel
theorem dJ9_floorMod_7cf53_4 : decode cJ9_floorMod_7cf53 4 = .ok (.iload_n 0, 1) := by decide +kernel
theorem dJ9_floorMod_7cf53_5 : decode cJ9_floorMod_7cf53 5 = .ok (.iload_n 1, 1) := by decide +kernel
theorem dJ9_floorMod_7cf53_6 : decode cJ9_floorMod_7cf53 6 = .ok (.ixor, 1) := by decide +kernel
theorem dJ9_floorMod_7cf53_7 : decode cJ9_floorMod_7cf53 7 = .ok (.ifCond .ge 11, 3) := by decide +kernel
theorem dJ9_floorMod_7cf53_10 : decode cJ9_floorMod_7cf53 10 = .ok (.iload_n 2, 1) := by decide +kernel
theorem dJ9_floorMod_7cf53_11 : decode cJ9_floorMod_7cf53 11 = .ok (.ifCond .eq 7, 3) := by decide +kernel
theorem dJ9_floorMod_7cf53_14 : decode cJ9_floorMod_7cf53 14 = .ok (.iload_n 2, 1) := by decide +kernel
theorem dJ9_floorMod_7cf53_15 : decode cJ9_floorMod_7cf53 15 = .ok (.iload_n 1, 1) := by decide +kernel
theorem dJ9_floorMod_7cf53_16 : decode cJ9_floorMod_7cf53 16 = .ok (.iadd, 1) := by decide +kernel
theorem dJ9_floorMod_7cf53_17 : decode cJ9_floorMod_7cf53 17 = .ok (.ireturn, 1) := by decide +kernel
theorem dJ9_floorMod_7cf53_18 : decode cJ9_floorMod_7cf53 18 = .ok (.iload_n 2, 1) := by decide +kernel
theorem dJ9_floorMod_7cf53_19 : decode cJ9_floorMod_7cf53 19 = .ok (.ireturn, 1) := by decide +kernel
theorem dJ9_max_7cf53_0 : decode cJ9_max_7cf53 0 = .ok (.iload_n 0, 1) := by decide +kernel
theorem dJ9_max_7cf53_1 : decode cJ9_max_7cf53 1 = .ok (.iload_n 1, 1) := by decide +kernel
theorem dJ9_max_7cf53_2 : decode cJ9_max_7cf53 2 = .ok (.if_icmp .lt 7, 3) := by decide +kernel
theorem dJ9_max_7cf53_5 : decode cJ9_max_7cf53 5 = .ok (.iload_n 0, 1) := by decide +kernel
theorem dJ9_max_7cf53_6 : decode cJ9_max_7cf53 6 = .ok (.goto 4, 3) := by decide +kernel
theorem dJ9_max_7cf53_9 : decode cJ9_max_7cf53 9 = .ok (.iload_n 1, 1) := by decide +kernel
theorem dJ9_max_7cf53_10 : decode cJ9_max_7cf53 10 = .ok (.ireturn, 1) := by decide +kernel
theorem dJ9_min_7cf53_0 : decode cJ9_min_7cf53 0 = .ok (.iload_n 0, 1) := by decide +kernel
theorem dJ9_min_7cf53_1 : decode cJ9_min_7cf53 1 = .ok (.iload_n 1, 1) := by decide +kernel
theorem dJ9_min_7cf53_2 : decode cJ9_min_7cf53 2 = .ok (.if_icmp .gt 7, 3) := by decide +kernel
theorem dJ9_min_7cf53_5 : decode cJ9_min_7cf53 5 = .ok (.iload_n 0, 1) := by decide +kernel
theorem dJ9_min_7cf53_6 : decode cJ9_min_7cf53 6 = .ok (.goto 4, 3) := by decide +kernel
theorem dJ9_min_7cf53_9 : decode cJ9_min_7cf53 9 = .ok (.iload_n 1, 1) := by decide +kernel
theorem dJ9_min_7cf53_10 : decode cJ9_min_7cf53 10 = .ok (.ireturn, 1) := by decide +kernel
