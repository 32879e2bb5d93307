theorem dX11_sews_117 : decode cX11_sews 117 = .ok (.iconst 3, 1) := by decide +kernel
theorem dX11_sews_118 : decode cX11_sews 118 = .ok (.iload_n 3, 1) := by decide +kernel
theorem dX11_sews_119 : decode cX11_sews 119 = .ok (.iadd, 1) := by decide +kernel
theorem dX11_sews_120 : decode cX11_sews 120 = .ok (.invokestatic 71, 3) := by decide +kernel
theorem dX11_sews_123 : decode cX11_sews 123 = .ok (.dup2, 1) := by decide +kernel
theorem dX11_sews_124 : decode cX11_sews 124 = .ok (.iaload, 1) := by decide +kernel
theorem dX11_sews_125 : decode cX11_sews 125 = .ok (.iconst 1, 1) := by decide +kernel
theorem dX11_sews_126 : decode cX11_sews 126 = .ok (.iadd, 1) := by decide +kernel
theorem dX11_sews_127 : decode cX11_sews 127 = .ok (.iastore, 1) := by decide +kernel
theorem dX11_sews_128 : decode cX11_sews 128 = .ok (.aload_n 0, 1) := by decide +kernel
theorem dX11_sews_129 : decode cX11_sews 129 = .ok (.getfield 7, 3) := by decide +kernel
theorem dX11_sews_132 : decode cX11_sews 132 = .ok (.iconst 5, 1) := by decide +kernel
theorem dX11_sews_133 : decode cX11_sews 133 = .ok (.iload_n 3, 1) := by decide +kernel
theorem dX11_sews_134 : decode cX11_sews 134 = .ok (.iadd, 1) := by decide +kernel
theorem dX11_sews_135 : decode cX11_sews 135 = .ok (.dup2, 1) := by decide +kernel
theorem dX11_sews_136 : decode cX11_sews 136 = .ok (.iaload, 1) := by decide +kernel
theorem dX11_sews_137 : decode cX11_sews 137 = .ok (.iconst 1, 1) := by decide +kernel
theorem dX11_sews_138 : decode cX11_sews 138 = .ok (.iadd, 1) := by decide +kernel
theorem dX11_sews_139 : decode cX11_sews 139 = .ok (.iastore, 1) := by decide +kernel
theorem dX11_sews_140 : decode cX11_sews 140 = .ok (.iinc 4 1, 3) := by decide +kernel
theorem dX11_sews_143 : decode cX11_sews 143 = .ok (.goto (-130), 3) := by decide +kernel
theorem dX11_sews_146 : decode cX11_sews 146 = .ok (.aload_n 0, 1) := by decide +kernel
theorem dX11_sews_147 : decode cX11_sews 147 = .ok (.getfield 7, 3) := by decide +kernel
theorem dX11_sews_150 : decode cX11_sews 150 = .ok (.iconst 1, 1) := by decide +kernel
theorem dX11_sews_151 : decode cX11_sews 151 = .ok (.iload_n 3, 1) := by decide +kernel
theorem dX11_sews_152 : decode cX11_sews 152 = .ok (.iconst 1, 1) := by decide +kernel
theorem dX11_sews_153 : decode cX11_sews 153 = .ok (.iadd, 1) := by decide +kernel
theorem dX11_sews_154 : decode cX11_sews 154 = .ok (.aload_n 0, 1) := by decide +kernel
theorem dX11_sews_155 : decode cX11_sews 155 = .ok (.getfield 7, 3) := by decide +kernel
theorem dX11_sews_158 : decode cX11_sews 158 = .ok (.iconst 0, 1) := by decide +kernel
theorem dX11_sews_159 : decode cX11_sews 159 = .ok (.iaload, 1) := by decide +kernel
theorem dX11_sews_160 : decode cX11_sews 160 = .ok (.irem, 1) := by decide +kernel
theorem dX11_sews_161 : decode cX11_sews 161 = .ok (.iastore, 1) := by decide +kernel
theorem dX11_sews_162 : decode cX11_sews 162 = .ok (.iload 4, 2) := by decide +kernel
theorem dX11_sews_164 : decode cX11_sews 164 = .ok (.ireturn, 1) := by decide +kernel
theorem dX11_sew_0 : decode cX11_sew 0 = .ok (.aload_n 0, 1) := by decide +kernel
theorem dX11_sew_1 : decode cX11_sew 1 = .ok (.iconst 0, 1) := by decide +kernel
theorem dX11_sew_2 : decode cX11_sew 2 = .ok (.putfield 56, 3) := by decide +kernel
theorem dX11_sew_5 : decode cX11_sew 5 = .ok (.iload_n 1, 1) := by decide +kernel
theorem dX11_sew_6 : decode cX11_sew 6 = .ok (.invokestatic 175, 3) := by decide +kernel
theorem dX11_sew_9 : decode cX11_sew 9 = .ok (.ifCond .ne 9, 3) := by decide +kernel
theorem dX11_sew_12 : decode cX11_sew 12 = .ok (.aload_n 0, 1) := by decide +kernel
theorem dX11_sew_13 : decode cX11_sew 13 = .ok (.iconst 1, 1) := by decide +kernel
theorem dX11_sew_14 : decode cX11_sew 14 = .ok (.invokevirtual 81, 3) := by decide +kernel
theorem dX11_sew_17 : decode cX11_sew 17 = .ok (.ireturn, 1) := by decide +kernel
theorem dX11_sew_18 : decode cX11_sew 18 = .ok (.iload_n 2, 1) := by decide +kernel
theorem dX11_sew_19 : decode cX11_sew 19 = .ok (.i2l, 1) := by decide +kernel
theorem dX11_sew_20 : decode cX11_sew 20 = .ok (.lconst 1, 1) := by decide +kernel
theorem dX11_sew_21 : decode cX11_sew 21 = .ok (.ldc2_w 203, 3) := by decide +kernel
theorem dX11_sew_24 : decode cX11_sew 24 = .ok (.invokestatic 63, 3) := by decide +kernel
theorem dX11_sew_27 : decode cX11_sew 27 = .ok (.ifCond .ne 9, 3) := by decide +kernel
theorem dX11_sew_30 : decode cX11_sew 30 = .ok (.aload_n 0, 1) := by decide +kernel
theorem dX11_sew_31 : decode cX11_sew 31 = .ok (.iconst 2, 1) := by decide +kernel
theorem dX11_sew_32 : decode cX11_sew 32 = .ok (.invokevirtual 81, 3) := by decide +kernel
theorem dX11_sew_35 : decode cX11_sew 35 = .ok (.ireturn, 1) := by decide +kernel
theorem dX11_sew_36 : decode cX11_sew 36 = .ok (.aload_n 0, 1) := by decide +kernel
theorem dX11_sew_37 : decode cX11_sew 37 = .ok (.iload_n 1, 1) := by decide +kernel
theorem dX11_sew_38 : decode cX11_sew 38 = .ok (.invokevirtual 215, 3) := by decide +kernel
theorem dX11_sew_41 : decode cX11_sew 41 = .ok (.ifCond .ne 9, 3) := by decide +kernel
theorem dX11_sew_44 : decode cX11_sew 44 = .ok (.aload_n 0, 1) := by decide +kernel
theorem dX11_sew_45 : decode cX11_sew 45 = .ok (.iconst 3, 1) := by decide +kernel
theorem dX11_sew_46 : decode cX11_sew 46 = .ok (.invokevirtual 81, 3) := by decide +kernel
theorem dX11_sew_49 : decode cX11_sew 49 = .ok (.ireturn, 1) := by decide +kernel
theorem dX11_sew_50 : decode cX11_sew 50 = .ok (.aload_n 0, 1) := by decide +kernel
theorem dX11_sew_51 : decode cX11_sew 51 = .ok (.invokevirtual 200, 3) := by decide +kernel
theorem dX11_sew_54 : decode cX11_sew 54 = .ok (.aload_n 0, 1) := by decide +kernel
theorem dX11_sew_55 : decode cX11_sew 55 = .ok (.iload_n 1, 1) := by decide +kernel
theorem dX11_sew_56 : decode cX11_sew 56 = .ok (.iload_n 2, 1) := by decide +kernel
theorem dX11_sew_57 : decode cX11_sew 57 = .ok (.invokevirtual 218, 3) := by decide +kernel
theorem dX11_sew_60 : decode cX11_sew 60 = .ok (.ireturn, 1) := by decide +kernel
theorem dX11_empties_0 : decode cX11_empties 0 = .ok (.iconst 0, 1) := by decide +kernel
theorem dX11_empties_1 : decode cX11_empties 1 = .ok (.istore_n 2, 1) := by decide +kernel
theorem dX11_empties_2 : decode cX11_empties 2 = .ok (.iload_n 2, 1) := by decide +kernel
theorem dX11_empties_3 : decode cX11_empties 3 = .ok (.sipush 264, 3) := by decide +kernel
theorem dX11_empties_6 : decode cX11_empties 6 = .ok (.if_icmp .ge 20, 3) := by decide +kernel
theorem dX11_empties_9 : decode cX11_empties 9 = .ok (.aload_n 0, 1) := by decide +kernel
theorem dX11_empties_10 : decode cX11_empties 10 = .ok (.getfield 7, 3) := by decide +kernel
theorem dX11_empties_13 : decode cX11_empties 13 = .ok (.iload_n 1, 1) := by decide +kernel
theorem dX11_empties_14 : decode cX11_empties 14 = .ok (.iload_n 2, 1) := by decide +kernel
theorem dX11_empties_15 : decode cX11_empties 15 = .ok (.invokestatic 71, 3) := by decide +kernel
theorem dX11_empties_18 : decode cX11_empties 18 = .ok (.iconst 0, 1) := by decide +kernel
theorem dX11_empties_19 : decode cX11_empties 19 = .ok (.iastore, 1) := by decide +kernel
theorem dX11_empties_20 : decode cX11_empties 20 = .ok (.iinc 2 1, 3) := by decide +kernel
theorem dX11_empties_23 : decode cX11_empties 23 = .ok (.goto (-21), 3) := by decide +kernel
theorem dX11_empties_26 : decode cX11_empties 26 = .ok (.return_, 1) := by decide +kernel
theorem dX11_takesApart_0 : decode cX11_takesApart 0 = .ok (.aload_n 0, 1) := by decide +kernel
theorem dX11_takesApart_1 : decode cX11_takesApart 1 = .ok (.getfield 7, 3) := by decide +kernel
theorem dX11_takesApart_4 : decode cX11_takesApart 4 = .ok (.iload_n 1, 1) := by decide +kernel
theorem dX11_takesApart_5 : decode cX11_takesApart 5 = .ok (.iconst 2, 1) := by decide +kernel
theorem dX11_takesApart_6 : decode cX11_takesApart 6 = .ok (.invokestatic 71, 3) := by decide +kernel
theorem dX11_takesApart_9 : decode cX11_takesApart 9 = .ok (.iaload, 1) := by decide +kernel
theorem dX11_takesApart_10 : decode cX11_takesApart 10 = .ok (.istore_n 2, 1) := by decide +kernel
theorem dX11_takesApart_11 : decode cX11_takesApart 11 = .ok (.iconst 0, 1) := by decide +kernel
theorem dX11_takesApart_12 : decode cX11_takesApart 12 = .ok (.istore_n 3, 1) := by decide +kernel
theorem dX11_takesApart_13 : decode cX11_takesApart 13 = .ok (.iload_n 3, 1) := by decide +kernel
theorem dX11_takesApart_14 : decode cX11_takesApart 14 = .ok (.iload_n 2, 1) := by decide +kernel
theorem dX11_takesApart_15 : decode cX11_takesApart 15 = .ok (.if_icmp .ge 27, 3) := by decide +kernel
theorem dX11_takesApart_18 : decode cX11_takesApart 18 = .ok (.aload_n 0, 1) := by decide +kernel
theorem dX11_takesApart_19 : decode cX11_takesApart 19 = .ok (.getfield 7, 3) := by decide +kernel
theorem dX11_takesApart_22 : decode cX11_takesApart 22 = .ok (.bipush 56, 2) := by decide +kernel
theorem dX11_takesApart_24 : decode cX11_takesApart 24 = .ok (.aload_n 0, 1) := by decide +kernel
theorem dX11_takesApart_25 : decode cX11_takesApart 25 = .ok (.iload_n 1, 1) := by decide +kernel
theorem dX11_takesApart_26 : decode cX11_takesApart 26 = .ok (.iload_n 3, 1) := by decide +kernel
theorem dX11_takesApart_27 : decode cX11_takesApart 27 = .ok (.invokevirtual 150, 3) := by decide +kernel
theorem dX11_takesApart_30 : decode cX11_takesApart 30 = .ok (.iadd, 1) := by decide +kernel
theorem dX11_takesApart_31 : decode cX11_takesApart 31 = .ok (.dup2, 1) := by decide +kernel
theorem dX11_takesApart_32 : decode cX11_takesApart 32 = .ok (.iaload, 1) := by decide +kernel
theorem dX11_takesApart_33 : decode cX11_takesApart 33 = .ok (.iconst 1, 1) := by decide +kernel
theorem dX11_takesApart_34 : decode cX11_takesApart 34 = .ok (.iadd, 1) := by decide +kernel
theorem dX11_takesApart_35 : decode cX11_takesApart 35 = .ok (.iastore, 1) := by decide +kernel
theorem dX11_takesApart_36 : decode cX11_takesApart 36 = .ok (.iinc 3 1, 3) := by decide +kernel
theorem dX11_takesApart_39 : decode cX11_takesApart 39 = .ok (.goto (-26), 3) := by decide +kernel
theorem dX11_takesApart_42 : decode cX11_takesApart 42 = .ok (.aload_n 0, 1) := by decide +kernel
theorem dX11_takesApart_43 : decode cX11_takesApart 43 = .ok (.iload_n 1, 1) := by decide +kernel
theorem dX11_takesApart_44 : decode cX11_takesApart 44 = .ok (.invokevirtual 221, 3) := by decide +kernel
theorem dX11_takesApart_47 : decode cX11_takesApart 47 = .ok (.iload_n 2, 1) := by decide +kernel
theorem dX11_takesApart_48 : decode cX11_takesApart 48 = .ok (.ireturn, 1) := by decide +kernel
theorem dX11_takeApart_0 : decode cX11_takeApart 0 = .ok (.aload_n 0, 1) := by decide +kernel
theorem dX11_takeApart_1 : decode cX11_takeApart 1 = .ok (.iconst 0, 1) := by decide +kernel
theorem dX11_takeApart_2 : decode cX11_takeApart 2 = .ok (.putfield 56, 3) := by decide +kernel
theorem dX11_takeApart_5 : decode cX11_takeApart 5 = .ok (.iload_n 1, 1) := by decide +kernel
theorem dX11_takeApart_6 : decode cX11_takeApart 6 = .ok (.invokestatic 175, 3) := by decide +kernel
theorem dX11_takeApart_9 : decode cX11_takeApart 9 = .ok (.ifCond .ne 9, 3) := by decide +kernel
theorem dX11_takeApart_12 : decode cX11_takeApart 12 = .ok (.aload_n 0, 1) := by decide +kernel
theorem dX11_takeApart_13 : decode cX11_takeApart 13 = .ok (.iconst 1, 1) := by decide +kernel
theorem dX11_takeApart_14 : decode cX11_takeApart 14 = .ok (.invokevirtual 81, 3) := by decide +kernel
theorem dX11_takeApart_17 : decode cX11_takeApart 17 = .ok (.ireturn, 1) := by decide +kernel
theorem dX11_takeApart_18 : decode cX11_takeApart 18 = .ok (.aload_n 0, 1) := by decide +kernel
theorem dX11_takeApart_19 : decode cX11_takeApart 19 = .ok (.iload_n 1, 1) := by decide +kernel
theorem dX11_takeApart_20 : decode cX11_takeApart 20 = .ok (.invokevirtual 75, 3) := by decide +kernel
theorem dX11_takeApart_23 : decode cX11_takeApart 23 = .ok (.ifCond .ne 9, 3) := by decide +kernel
theorem dX11_takeApart_26 : decode cX11_takeApart 26 = .ok (.aload_n 0, 1) := by decide +kernel
theorem dX11_takeApart_27 : decode cX11_takeApart 27 = .ok (.iconst 2, 1) := by decide +kernel
theorem dX11_takeApart_28 : decode cX11_takeApart 28 = .ok (.invokevirtual 81, 3) := by decide +kernel
theorem dX11_takeApart_31 : decode cX11_takeApart 31 = .ok (.ireturn, 1) := by decide +kernel
theorem dX11_takeApart_32 : decode cX11_takeApart 32 = .ok (.aload_n 0, 1) := by decide +kernel
theorem dX11_takeApart_33 : decode cX11_takeApart 33 = .ok (.invokevirtual 200, 3) := by decide +kernel
theorem dX11_takeApart_36 : decode cX11_takeApart 36 = .ok (.aload_n 0, 1) := by decide +kernel
theorem dX11_takeApart_37 : decode cX11_takeApart 37 = .ok (.iload_n 1, 1) := by decide +kernel
theorem dX11_takeApart_38 : decode cX11_takeApart 38 = .ok (.invokevirtual 224, 3) := by decide +kernel
theorem dX11_takeApart_41 : decode cX11_takeApart 41 = .ok (.ireturn, 1) := by decide +kernel
theorem dX11_rest_0 : decode cX11_rest 0 = .ok (.iload_n 3, 1) := by decide +kernel
theorem dX11_rest_1 : decode cX11_rest 1 = .ok (.aload_n 0, 1) := by decide +kernel
theorem dX11_rest_2 : decode cX11_rest 2 = .ok (.getfield 7, 3) := by decide +kernel
theorem dX11_rest_5 : decode cX11_rest 5 = .ok (.iload_n 1, 1) := by decide +kernel
theorem dX11_rest_6 : decode cX11_rest 6 = .ok (.iconst 3, 1) := by decide +kernel
theorem dX11_rest_7 : decode cX11_rest 7 = .ok (.iload_n 2, 1) := by decide +kernel
theorem dX11_rest_8 : decode cX11_rest 8 = .ok (.iadd, 1) := by decide +kernel
theorem dX11_rest_9 : decode cX11_rest 9 = .ok (.invokestatic 71, 3) := by decide +kernel
theorem dX11_rest_12 : decode cX11_rest 12 = .ok (.iaload, 1) := by decide +kernel
theorem dX11_rest_13 : decode cX11_rest 13 = .ok (.imul, 1) := by decide +kernel
theorem dX11_rest_14 : decode cX11_rest 14 = .ok (.aload_n 0, 1) := by decide +kernel
theorem dX11_rest_15 : decode cX11_rest 15 = .ok (.iload_n 1, 1) := by decide +kernel
theorem dX11_rest_16 : decode cX11_rest 16 = .ok (.invokevirtual 75, 3) := by decide +kernel
theorem dX11_rest_19 : decode cX11_rest 19 = .ok (.irem, 1) := by decide +kernel
theorem dX11_rest_20 : decode cX11_rest 20 = .ok (.ireturn, 1) := by decide +kernel
theorem dX11_splits_0 : decode cX11_splits 0 = .ok (.iload_n 2, 1) := by decide +kernel
theorem dX11_splits_1 : decode cX11_splits 1 = .ok (.istore_n 3, 1) := by decide +kernel
theorem dX11_splits_2 : decode cX11_splits 2 = .ok (.iconst 0, 1) := by decide +kernel
theorem dX11_splits_3 : decode cX11_splits 3 = .ok (.istore 4, 2) := by decide +kernel
theorem dX11_splits_5 : decode cX11_splits 5 = .ok (.iload 4, 2) := by decide +kernel
theorem dX11_splits_7 : decode cX11_splits 7 = .ok (.iconst 5, 1) := by decide +kernel
theorem dX11_splits_8 : decode cX11_splits 8 = .ok (.if_icmp .ge 47, 3) := by decide +kernel
theorem dX11_splits_11 : decode cX11_splits 11 = .ok (.aload_n 0, 1) := by decide +kernel
theorem dX11_splits_12 : decode cX11_splits 12 = .ok (.getfield 53, 3) := by decide +kernel
theorem dX11_splits_15 : decode cX11_splits 15 = .ok (.iload 4, 2) := by decide +kernel
theorem dX11_splits_17 : decode cX11_splits 17 = .ok (.iload_n 2, 1) := by decide +kernel
theorem dX11_splits_18 : decode cX11_splits 18 = .ok (.aload_n 0, 1) := by decide +kernel
theorem dX11_splits_19 : decode cX11_splits 19 = .ok (.getfield 7, 3) := by decide +kernel
theorem dX11_splits_22 : decode cX11_splits 22 = .ok (.iload_n 1, 1) := by decide +kernel
theorem dX11_splits_23 : decode cX11_splits 23 = .ok (.iconst 3, 1) := by decide +kernel
theorem dX11_splits_24 : decode cX11_splits 24 = .ok (.iload 4, 2) := by decide +kernel
theorem dX11_splits_26 : decode cX11_splits 26 = .ok (.iadd, 1) := by decide +kernel
theorem dX11_splits_27 : decode cX11_splits 27 = .ok (.invokestatic 71, 3) := by decide +kernel
theorem dX11_splits_30 : decode cX11_splits 30 = .ok (.iaload, 1) := by decide +kernel
theorem dX11_splits_31 : decode cX11_splits 31 = .ok (.imul, 1) := by decide +kernel
theorem dX11_splits_32 : decode cX11_splits 32 = .ok (.aload_n 0, 1) := by decide +kernel
theorem dX11_splits_33 : decode cX11_splits 33 = .ok (.iload_n 1, 1) := by decide +kernel
theorem dX11_splits_34 : decode cX11_splits 34 = .ok (.invokevirtual 75, 3) := by decide +kernel
theorem dX11_splits_37 : decode cX11_splits 37 = .ok (.idiv, 1) := by decide +kernel
theorem dX11_splits_38 : decode cX11_splits 38 = .ok (.iastore, 1) := by decide +kernel
theorem dX11_splits_39 : decode cX11_splits 39 = .ok (.iload_n 3, 1) := by decide +kernel
theorem dX11_splits_40 : decode cX11_splits 40 = .ok (.aload_n 0, 1) := by decide +kernel
theorem dX11_splits_41 : decode cX11_splits 41 = .ok (.getfield 53, 3) := by decide +kernel
theorem dX11_splits_44 : decode cX11_splits 44 = .ok (.iload 4, 2) := by decide +kernel
theorem dX11_splits_46 : decode cX11_splits 46 = .ok (.iaload, 1) := by decide +kernel
theorem dX11_splits_47 : decode cX11_splits 47 = .ok (.isub, 1) := by decide +kernel
theorem dX11_splits_48 : decode cX11_splits 48 = .ok (.istore_n 3, 1) := by decide +kernel
theorem dX11_splits_49 : decode cX11_splits 49 = .ok (.iinc 4 1, 3) := by decide +kernel
theorem dX11_splits_52 : decode cX11_splits 52 = .ok (.goto (-47), 3) := by decide +kernel
theorem dX11_splits_55 : decode cX11_splits 55 = .ok (.iconst 0, 1) := by decide +kernel
theorem dX11_splits_56 : decode cX11_splits 56 = .ok (.istore 4, 2) := by decide +kernel
theorem dX11_splits_58 : decode cX11_splits 58 = .ok (.iload 4, 2) := by decide +kernel
theorem dX11_splits_60 : decode cX11_splits 60 = .ok (.iconst 5, 1) := by decide +kernel
theorem dX11_splits_61 : decode cX11_splits 61 = .ok (.if_icmp .ge 103, 3) := by decide +kernel
theorem dX11_splits_64 : decode cX11_splits 64 = .ok (.iconst 0, 1) := by decide +kernel
theorem dX11_splits_65 : decode cX11_splits 65 = .ok (.istore 5, 2) := by decide +kernel
theorem dX11_splits_67 : decode cX11_splits 67 = .ok (.iconst 0, 1) := by decide +kernel
theorem dX11_splits_68 : decode cX11_splits 68 = .ok (.istore 6, 2) := by decide +kernel
theorem dX11_splits_70 : decode cX11_splits 70 = .ok (.iload 6, 2) := by decide +kernel
theorem dX11_splits_72 : decode cX11_splits 72 = .ok (.iconst 5, 1) := by decide +kernel
theorem dX11_splits_73 : decode cX11_splits 73 = .ok (.if_icmp .ge 64, 3) := by decide +kernel
theorem dX11_splits_76 : decode cX11_splits 76 = .ok (.iload 5, 2) := by decide +kernel
theorem dX11_splits_78 : decode cX11_splits 78 = .ok (.aload_n 0, 1) := by decide +kernel
theorem dX11_splits_79 : decode cX11_splits 79 = .ok (.iload_n 1, 1) := by decide +kernel
theorem dX11_splits_80 : decode cX11_splits 80 = .ok (.iload 6, 2) := by decide +kernel
theorem dX11_splits_82 : decode cX11_splits 82 = .ok (.iload_n 2, 1) := by decide +kernel
theorem dX11_splits_83 : decode cX11_splits 83 = .ok (.invokevirtual 227, 3) := by decide +kernel
theorem dX11_splits_86 : decode cX11_splits 86 = .ok (.aload_n 0, 1) := by decide +kernel
theorem dX11_splits_87 : decode cX11_splits 87 = .ok (.iload_n 1, 1) := by decide +kernel
theorem dX11_splits_88 : decode cX11_splits 88 = .ok (.iload 4, 2) := by decide +kernel
theorem dX11_splits_90 : decode cX11_splits 90 = .ok (.iload_n 2, 1) := by decide +kernel
theorem dX11_splits_91 : decode cX11_splits 91 = .ok (.invokevirtual 227, 3) := by decide +kernel
theorem dX11_splits_94 : decode cX11_splits 94 = .ok (.if_icmp .gt 29, 3) := by decide +kernel
theorem dX11_splits_97 : decode cX11_splits 97 = .ok (.iload 6, 2) := by decide +kernel
theorem dX11_splits_99 : decode cX11_splits 99 = .ok (.iload 4, 2) := by decide +kernel
theorem dX11_splits_101 : decode cX11_splits 101 = .ok (.if_icmp .ge 26, 3) := by decide +kernel
theorem dX11_splits_104 : decode cX11_splits 104 = .ok (.aload_n 0, 1) := by decide +kernel
theorem dX11_splits_105 : decode cX11_splits 105 = .ok (.iload_n 1, 1) := by decide +kernel
theorem dX11_splits_106 : decode cX11_splits 106 = .ok (.iload 6, 2) := by decide +kernel
theorem dX11_splits_108 : decode cX11_splits 108 = .ok (.iload_n 2, 1) := by decide +kernel
theorem dX11_splits_109 : decode cX11_splits 109 = .ok (.invokevirtual 227, 3) := by decide +kernel
theorem dX11_splits_112 : decode cX11_splits 112 = .ok (.aload_n 0, 1) := by decide +kernel
theorem dX11_splits_113 : decode cX11_splits 113 = .ok (.iload_n 1, 1) := by decide +kernel
theorem dX11_splits_114 : decode cX11_splits 114 = .ok (.iload 4, 2) := by decide +kernel
theorem dX11_splits_116 : decode cX11_splits 116 = .ok (.iload_n 2, 1) := by decide +kernel
theorem dX11_splits_117 : decode cX11_splits 117 = .ok (.invokevirtual 227, 3) := by decide +kernel
theorem dX11_splits_120 : decode cX11_splits 120 = .ok (.if_icmp .ne 7, 3) := by decide +kernel
theorem dX11_splits_123 : decode cX11_splits 123 = .ok (.iconst 1, 1) := by decide +kernel
theorem dX11_splits_124 : decode cX11_splits 124 = .ok (.goto 4, 3) := by decide +kernel
theorem dX11_splits_127 : decode cX11_splits 127 = .ok (.iconst 0, 1) := by decide +kernel
theorem dX11_splits_128 : decode cX11_splits 128 = .ok (.iadd, 1) := by decide +kernel
theorem dX11_splits_129 : decode cX11_splits 129 = .ok (.istore 5, 2) := by decide +kernel
theorem dX11_splits_131 : decode cX11_splits 131 = .ok (.iinc 6 1, 3) := by decide +kernel
theorem dX11_splits_134 : decode cX11_splits 134 = .ok (.goto (-64), 3) := by decide +kernel
theorem dX11_splits_137 : decode cX11_splits 137 = .ok (.aload_n 0, 1) := by decide +kernel
theorem dX11_splits_138 : decode cX11_splits 138 = .ok (.getfield 53, 3) := by decide +kernel
theorem dX11_splits_141 : decode cX11_splits 141 = .ok (.iload 4, 2) := by decide +kernel
theorem dX11_splits_143 : decode cX11_splits 143 = .ok (.dup2, 1) := by decide +kernel
theorem dX11_splits_144 : decode cX11_splits 144 = .ok (.iaload, 1) := by decide +kernel
theorem dX11_splits_145 : decode cX11_splits 145 = .ok (.iload 5, 2) := by decide +kernel
theorem dX11_splits_147 : decode cX11_splits 147 = .ok (.iload_n 3, 1) := by decide +kernel
theorem dX11_splits_148 : decode cX11_splits 148 = .ok (.if_icmp .ge 7, 3) := by decide +kernel
theorem dX11_splits_151 : decode cX11_splits 151 = .ok (.iconst 1, 1) := by decide +kernel
theorem dX11_splits_152 : decode cX11_splits 152 = .ok (.goto 4, 3) := by decide +kernel
theorem dX11_splits_155 : decode cX11_splits 155 = .ok (.iconst 0, 1) := by decide +kernel
theorem dX11_splits_156 : decode cX11_splits 156 = .ok (.iadd, 1) := by decide +kernel
theorem dX11_splits_157 : decode cX11_splits 157 = .ok (.iastore, 1) := by decide +kernel
theorem dX11_splits_158 : decode cX11_splits 158 = .ok (.iinc 4 1, 3) := by decide +kernel
theorem dX11_splits_161 : decode cX11_splits 161 = .ok (.goto (-103), 3) := by decide +kernel
theorem dX11_splits_164 : decode cX11_splits 164 = .ok (.return_, 1) := by decide +kernel
theorem dX11_raffles_0 : decode cX11_raffles 0 = .ok (.aload_n 0, 1) := by decide +kernel
theorem dX11_raffles_1 : decode cX11_raffles 1 = .ok (.iload_n 1, 1) := by decide +kernel
theorem dX11_raffles_2 : decode cX11_raffles 2 = .ok (.invokevirtual 75, 3) := by decide +kernel
theorem dX11_raffles_5 : decode cX11_raffles 5 = .ok (.istore_n 3, 1) := by decide +kernel
theorem dX11_raffles_6 : decode cX11_raffles 6 = .ok (.aload_n 0, 1) := by decide +kernel
theorem dX11_raffles_7 : decode cX11_raffles 7 = .ok (.iload_n 1, 1) := by decide +kernel
theorem dX11_raffles_8 : decode cX11_raffles 8 = .ok (.iload_n 2, 1) := by decide +kernel
theorem dX11_raffles_9 : decode cX11_raffles 9 = .ok (.invokevirtual 230, 3) := by decide +kernel
theorem dX11_raffles_12 : decode cX11_raffles 12 = .ok (.iconst 0, 1) := by decide +kernel
theorem dX11_raffles_13 : decode cX11_raffles 13 = .ok (.istore 4, 2) := by decide +kernel
theorem dX11_raffles_15 : decode cX11_raffles 15 = .ok (.iload 4, 2) := by decide +kernel
theorem dX11_raffles_17 : decode cX11_raffles 17 = .ok (.iconst 5, 1) := by decide +kernel
theorem dX11_raffles_18 : decode cX11_raffles 18 = .ok (.if_icmp .ge 29, 3) := by decide +kernel
theorem dX11_raffles_21 : decode cX11_raffles 21 = .ok (.aload_n 0, 1) := by decide +kernel
theorem dX11_raffles_22 : decode cX11_raffles 22 = .ok (.getfield 7, 3) := by decide +kernel
theorem dX11_raffles_25 : decode cX11_raffles 25 = .ok (.bipush 10, 2) := by decide +kernel
theorem dX11_raffles_27 : decode cX11_raffles 27 = .ok (.iload 4, 2) := by decide +kernel
theorem dX11_raffles_29 : decode cX11_raffles 29 = .ok (.iadd, 1) := by decide +kernel
theorem dX11_raffles_30 : decode cX11_raffles 30 = .ok (.dup2, 1) := by decide +kernel
theorem dX11_raffles_31 : decode cX11_raffles 31 = .ok (.iaload, 1) := by decide +kernel
theorem dX11_raffles_32 : decode cX11_raffles 32 = .ok (.aload_n 0, 1) := by decide +kernel
theorem dX11_raffles_33 : decode cX11_raffles 33 = .ok (.getfield 53, 3) := by decide +kernel
theorem dX11_raffles_36 : decode cX11_raffles 36 = .ok (.iload 4, 2) := by decide +kernel
theorem dX11_raffles_38 : decode cX11_raffles 38 = .ok (.iaload, 1) := by decide +kernel
theorem dX11_raffles_39 : decode cX11_raffles 39 = .ok (.iadd, 1) := by decide +kernel
theorem dX11_raffles_40 : decode cX11_raffles 40 = .ok (.iastore, 1) := by decide +kernel
theorem dX11_raffles_41 : decode cX11_raffles 41 = .ok (.iinc 4 1, 3) := by decide +kernel
theorem dX11_raffles_44 : decode cX11_raffles 44 = .ok (.goto (-29), 3) := by decide +kernel
theorem dX11_raffles_47 : decode cX11_raffles 47 = .ok (.iconst 0, 1) := by decide +kernel
theorem dX11_raffles_48 : decode cX11_raffles 48 = .ok (.istore 4, 2) := by decide +kernel
theorem dX11_raffles_50 : decode cX11_raffles 50 = .ok (.iload 4, 2) := by decide +kernel
theorem dX11_raffles_52 : decode cX11_raffles 52 = .ok (.iload_n 3, 1) := by decide +kernel
theorem dX11_raffles_53 : decode cX11_raffles 53 = .ok (.if_icmp .ge 28, 3) := by decide +kernel
theorem dX11_raffles_56 : decode cX11_raffles 56 = .ok (.aload_n 0, 1) := by decide +kernel
theorem dX11_raffles_57 : decode cX11_raffles 57 = .ok (.getfield 7, 3) := by decide +kernel
theorem dX11_raffles_60 : decode cX11_raffles 60 = .ok (.bipush 68, 2) := by decide +kernel
theorem dX11_raffles_62 : decode cX11_raffles 62 = .ok (.aload_n 0, 1) := by decide +kernel
theorem dX11_raffles_63 : decode cX11_raffles 63 = .ok (.iload_n 1, 1) := by decide +kernel
theorem dX11_raffles_64 : decode cX11_raffles 64 = .ok (.iload 4, 2) := by decide +kernel
theorem dX11_raffles_66 : decode cX11_raffles 66 = .ok (.invokevirtual 150, 3) := by decide +kernel
theorem dX11_raffles_69 : decode cX11_raffles 69 = .ok (.iadd, 1) := by decide +kernel
theorem dX11_raffles_70 : decode cX11_raffles 70 = .ok (.dup2, 1) := by decide +kernel
theorem dX11_raffles_71 : decode cX11_raffles 71 = .ok (.iaload, 1) := by decide +kernel
theorem dX11_raffles_72 : decode cX11_raffles 72 = .ok (.iconst 1, 1) := by decide +kernel
theorem dX11_raffles_73 : decode cX11_raffles 73 = .ok (.iadd, 1) := by decide +kernel
theorem dX11_raffles_74 : decode cX11_raffles 74 = .ok (.iastore, 1) := by decide +kernel
theorem dX11_raffles_75 : decode cX11_raffles 75 = .ok (.iinc 4 1, 3) := by decide +kernel
theorem dX11_raffles_78 : decode cX11_raffles 78 = .ok (.goto (-28), 3) := by decide +kernel
theorem dX11_raffles_81 : decode cX11_raffles 81 = .ok (.aload_n 0, 1) := by decide +kernel
theorem dX11_raffles_82 : decode cX11_raffles 82 = .ok (.getfield 7, 3) := by decide +kernel
theorem dX11_raffles_85 : decode cX11_raffles 85 = .ok (.iconst 2, 1) := by decide +kernel
theorem dX11_raffles_86 : decode cX11_raffles 86 = .ok (.dup2, 1) := by decide +kernel
theorem dX11_raffles_87 : decode cX11_raffles 87 = .ok (.iaload, 1) := by decide +kernel
theorem dX11_raffles_88 : decode cX11_raffles 88 = .ok (.iconst 1, 1) := by decide +kernel
theorem dX11_raffles_89 : decode cX11_raffles 89 = .ok (.iadd, 1) := by decide +kernel
theorem dX11_raffles_90 : decode cX11_raffles 90 = .ok (.iastore, 1) := by decide +kernel
theorem dX11_raffles_91 : decode cX11_raffles 91 = .ok (.aload_n 0, 1) := by decide +kernel
theorem dX11_raffles_92 : decode cX11_raffles 92 = .ok (.getfield 7, 3) := by decide +kernel
theorem dX11_raffles_95 : decode cX11_raffles 95 = .ok (.iconst 3, 1) := by decide +kernel
theorem dX11_raffles_96 : decode cX11_raffles 96 = .ok (.dup2, 1) := by decide +kernel
theorem dX11_raffles_97 : decode cX11_raffles 97 = .ok (.iaload, 1) := by decide +kernel
theorem dX11_raffles_98 : decode cX11_raffles 98 = .ok (.iload_n 3, 1) := by decide +kernel
theorem dX11_raffles_99 : decode cX11_raffles 99 = .ok (.iadd, 1) := by decide +kernel
theorem dX11_raffles_100 : decode cX11_raffles 100 = .ok (.iastore, 1) := by decide +kernel
theorem dX11_raffles_101 : decode cX11_raffles 101 = .ok (.aload_n 0, 1) := by decide +kernel
theorem dX11_raffles_102 : decode cX11_raffles 102 = .ok (.getfield 7, 3) := by decide +kernel
theorem dX11_raffles_105 : decode cX11_raffles 105 = .ok (.iconst 4, 1) := by decide +kernel
theorem dX11_raffles_106 : decode cX11_raffles 106 = .ok (.dup2, 1) := by decide +kernel
theorem dX11_raffles_107 : decode cX11_raffles 107 = .ok (.iaload, 1) := by decide +kernel
theorem dX11_raffles_108 : decode cX11_raffles 108 = .ok (.iload_n 2, 1) := by decide +kernel
theorem dX11_raffles_109 : decode cX11_raffles 109 = .ok (.iadd, 1) := by decide +kernel
theorem dX11_raffles_110 : decode cX11_raffles 110 = .ok (.iastore, 1) := by decide +kernel
theorem dX11_raffles_111 : decode cX11_raffles 111 = .ok (.aload_n 0, 1) := by decide +kernel
theorem dX11_raffles_112 : decode cX11_raffles 112 = .ok (.iload_n 1, 1) := by decide +kernel
theorem dX11_raffles_113 : decode cX11_raffles 113 = .ok (.invokevirtual 221, 3) := by decide +kernel
theorem dX11_raffles_116 : decode cX11_raffles 116 = .ok (.iload_n 3, 1) := by decide +kernel
theorem dX11_raffles_117 : decode cX11_raffles 117 = .ok (.ireturn, 1) := by decide +kernel
theorem dX11_raffle_0 : decode cX11_raffle 0 = .ok (.aload_n 0, 1) := by decide +kernel
theorem dX11_raffle_1 : decode cX11_raffle 1 = .ok (.iconst 0, 1) := by decide +kernel
theorem dX11_raffle_2 : decode cX11_raffle 2 = .ok (.putfield 56, 3) := by decide +kernel
theorem dX11_raffle_5 : decode cX11_raffle 5 = .ok (.iload_n 1, 1) := by decide +kernel
theorem dX11_raffle_6 : decode cX11_raffle 6 = .ok (.invokestatic 175, 3) := by decide +kernel
theorem dX11_raffle_9 : decode cX11_raffle 9 = .ok (.ifCond .ne 9, 3) := by decide +kernel
theorem dX11_raffle_12 : decode cX11_raffle 12 = .ok (.aload_n 0, 1) := by decide +kernel
theorem dX11_raffle_13 : decode cX11_raffle 13 = .ok (.iconst 1, 1) := by decide +kernel
theorem dX11_raffle_14 : decode cX11_raffle 14 = .ok (.invokevirtual 81, 3) := by decide +kernel
theorem dX11_raffle_17 : decode cX11_raffle 17 = .ok (.ireturn, 1) := by decide +kernel
theorem dX11_raffle_18 : decode cX11_raffle 18 = .ok (.iload_n 2, 1) := by decide +kernel
theorem dX11_raffle_19 : decode cX11_raffle 19 = .ok (.i2l, 1) := by decide +kernel
theorem dX11_raffle_20 : decode cX11_raffle 20 = .ok (.lconst 0, 1) := by decide +kernel
theorem dX11_raffle_21 : decode cX11_raffle 21 = .ok (.ldc2_w 233, 3) := by decide +kernel
theorem dX11_raffle_24 : decode cX11_raffle 24 = .ok (.invokestatic 63, 3) := by decide +kernel
theorem dX11_raffle_27 : decode cX11_raffle 27 = .ok (.ifCond .ne 9, 3) := by decide +kernel
theorem dX11_raffle_30 : decode cX11_raffle 30 = .ok (.aload_n 0, 1) := by decide +kernel
theorem dX11_raffle_31 : decode cX11_raffle 31 = .ok (.iconst 2, 1) := by decide +kernel
theorem dX11_raffle_32 : decode cX11_raffle 32 = .ok (.invokevirtual 81, 3) := by decide +kernel
theorem dX11_raffle_35 : decode cX11_raffle 35 = .ok (.ireturn, 1) := by decide +kernel
theorem dX11_raffle_36 : decode cX11_raffle 36 = .ok (.aload_n 0, 1) := by decide +kernel
theorem dX11_raffle_37 : decode cX11_raffle 37 = .ok (.iload_n 1, 1) := by decide +kernel
theorem dX11_raffle_38 : decode cX11_raffle 38 = .ok (.invokevirtual 235, 3) := by decide +kernel
theorem dX11_raffle_41 : decode cX11_raffle 41 = .ok (.ifCond .ne 9, 3) := by decide +kernel
theorem dX11_raffle_44 : decode cX11_raffle 44 = .ok (.aload_n 0, 1) := by decide +kernel
theorem dX11_raffle_45 : decode cX11_raffle 45 = .ok (.iconst 3, 1) := by decide +kernel
theorem dX11_raffle_46 : decode cX11_raffle 46 = .ok (.invokevirtual 81, 3) := by decide +kernel
theorem dX11_raffle_49 : decode cX11_raffle 49 = .ok (.ireturn, 1) := by decide +kernel
theorem dX11_raffle_50 : decode cX11_raffle 50 = .ok (.aload_n 0, 1) := by decide +kernel
theorem dX11_raffle_51 : decode cX11_raffle 51 = .ok (.invokevirtual 200, 3) := by decide +kernel
theorem dX11_raffle_54 : decode cX11_raffle 54 = .ok (.aload_n 0, 1) := by decide +kernel
theorem dX11_raffle_55 : decode cX11_raffle 55 = .ok (.iload_n 1, 1) := by decide +kernel
theorem dX11_raffle_56 : decode cX11_raffle 56 = .ok (.iload_n 2, 1) := by decide +kernel
theorem dX11_raffle_57 : decode cX11_raffle 57 = .ok (.invokevirtual 238, 3) := by decide +kernel
theorem dX11_raffle_60 : decode cX11_raffle 60 = .ok (.ireturn, 1) := by decide +kernel
theorem dX11_returns_0 : decode cX11_returns 0 = .ok (.iconst 0, 1) := by decide +kernel
theorem dX11_returns_1 : decode cX11_returns 1 = .ok (.istore_n 1, 1) := by decide +kernel
theorem dX11_returns_2 : decode cX11_returns 2 = .ok (.iconst 0, 1) := by decide +kernel
theorem dX11_returns_3 : decode cX11_returns 3 = .ok (.istore_n 2, 1) := by decide +kernel
theorem dX11_returns_4 : decode cX11_returns 4 = .ok (.iload_n 2, 1) := by decide +kernel
theorem dX11_returns_5 : decode cX11_returns 5 = .ok (.bipush 6, 2) := by decide +kernel
theorem dX11_returns_7 : decode cX11_returns 7 = .ok (.if_icmp .ge 151, 3) := by decide +kernel
theorem dX11_returns_10 : decode cX11_returns 10 = .ok (.aload_n 0, 1) := by decide +kernel
theorem dX11_returns_11 : decode cX11_returns 11 = .ok (.getfield 7, 3) := by decide +kernel
theorem dX11_returns_14 : decode cX11_returns 14 = .ok (.bipush 50, 2) := by decide +kernel
theorem dX11_returns_16 : decode cX11_returns 16 = .ok (.iload_n 2, 1) := by decide +kernel
theorem dX11_returns_17 : decode cX11_returns 17 = .ok (.iadd, 1) := by decide +kernel
theorem dX11_returns_18 : decode cX11_returns 18 = .ok (.iaload, 1) := by decide +kernel
theorem dX11_returns_19 : decode cX11_returns 19 = .ok (.istore_n 3, 1) := by decide +kernel
theorem dX11_returns_20 : decode cX11_returns 20 = .ok (.aload_n 0, 1) := by decide +kernel
theorem dX11_returns_21 : decode cX11_returns 21 = .ok (.iload_n 2, 1) := by decide +kernel
theorem dX11_returns_22 : decode cX11_returns 22 = .ok (.invokevirtual 162, 3) := by decide +kernel
theorem dX11_returns_25 : decode cX11_returns 25 = .ok (.istore 4, 2) := by decide +kernel
theorem dX11_returns_27 : decode cX11_returns 27 = .ok (.iconst 0, 1) := by decide +kernel
theorem dX11_returns_28 : decode cX11_returns 28 = .ok (.istore 5, 2) := by decide +kernel
theorem dX11_returns_30 : decode cX11_returns 30 = .ok (.iload 5, 2) := by decide +kernel
theorem dX11_returns_32 : decode cX11_returns 32 = .ok (.iconst 5, 1) := by decide +kernel
theorem dX11_returns_33 : decode cX11_returns 33 = .ok (.if_icmp .ge 88, 3) := by decide +kernel
theorem dX11_returns_36 : decode cX11_returns 36 = .ok (.iload 4, 2) := by decide +kernel
theorem dX11_returns_38 : decode cX11_returns 38 = .ok (.ifCond .le 83, 3) := by decide +kernel
theorem dX11_returns_41 : decode cX11_returns 41 = .ok (.iload_n 3, 1) := by decide +kernel
theorem dX11_returns_42 : decode cX11_returns 42 = .ok (.i2l, 1) := by decide +kernel
theorem dX11_returns_43 : decode cX11_returns 43 = .ok (.aload_n 0, 1) := by decide +kernel
theorem dX11_returns_44 : decode cX11_returns 44 = .ok (.getfield 7, 3) := by decide +kernel
theorem dX11_returns_47 : decode cX11_returns 47 = .ok (.bipush 15, 2) := by decide +kernel
theorem dX11_returns_49 : decode cX11_returns 49 = .ok (.bipush 6, 2) := by decide +kernel
theorem dX11_returns_51 : decode cX11_returns 51 = .ok (.iload 5, 2) := by decide +kernel
theorem dX11_returns_53 : decode cX11_returns 53 = .ok (.imul, 1) := by decide +kernel
theorem dX11_returns_54 : decode cX11_returns 54 = .ok (.iadd, 1) := by decide +kernel
theorem dX11_returns_55 : decode cX11_returns 55 = .ok (.iload_n 2, 1) := by decide +kernel
theorem dX11_returns_56 : decode cX11_returns 56 = .ok (.iadd, 1) := by decide +kernel
theorem dX11_returns_57 : decode cX11_returns 57 = .ok (.iaload, 1) := by decide +kernel
theorem dX11_returns_58 : decode cX11_returns 58 = .ok (.i2l, 1) := by decide +kernel
theorem dX11_returns_59 : decode cX11_returns 59 = .ok (.lmul, 1) := by decide +kernel
theorem dX11_returns_60 : decode cX11_returns 60 = .ok (.iload 4, 2) := by decide +kernel
theorem dX11_returns_62 : decode cX11_returns 62 = .ok (.i2l, 1) := by decide +kernel
theorem dX11_returns_63 : decode cX11_returns 63 = .ok (.ldiv, 1) := by decide +kernel
theorem dX11_returns_64 : decode cX11_returns 64 = .ok (.l2i, 1) := by decide +kernel
theorem dX11_returns_65 : decode cX11_returns 65 = .ok (.istore 6, 2) := by decide +kernel
theorem dX11_returns_67 : decode cX11_returns 67 = .ok (.aload_n 0, 1) := by decide +kernel
theorem dX11_returns_68 : decode cX11_returns 68 = .ok (.getfield 7, 3) := by decide +kernel
theorem dX11_returns_71 : decode cX11_returns 71 = .ok (.bipush 45, 2) := by decide +kernel
theorem dX11_returns_73 : decode cX11_returns 73 = .ok (.iload 5, 2) := by decide +kernel
theorem dX11_returns_75 : decode cX11_returns 75 = .ok (.iadd, 1) := by decide +kernel
theorem dX11_returns_76 : decode cX11_returns 76 = .ok (.dup2, 1) := by decide +kernel
theorem dX11_returns_77 : decode cX11_returns 77 = .ok (.iaload, 1) := by decide +kernel
theorem dX11_returns_78 : decode cX11_returns 78 = .ok (.iload 6, 2) := by decide +kernel
theorem dX11_returns_80 : decode cX11_returns 80 = .ok (.iadd, 1) := by decide +kernel
theorem dX11_returns_81 : decode cX11_returns 81 = .ok (.iastore, 1) := by decide +kernel
theorem dX11_returns_82 : decode cX11_returns 82 = .ok (.aload_n 0, 1) := by decide +kernel
theorem dX11_returns_83 : decode cX11_returns 83 = .ok (.getfield 7, 3) := by decide +kernel
theorem dX11_returns_86 : decode cX11_returns 86 = .ok (.bipush 62, 2) := by decide +kernel
theorem dX11_returns_88 : decode cX11_returns 88 = .ok (.iload_n 2, 1) := by decide +kernel
theorem dX11_returns_89 : decode cX11_returns 89 = .ok (.iadd, 1) := by decide +kernel
theorem dX11_returns_90 : decode cX11_returns 90 = .ok (.dup2, 1) := by decide +kernel
theorem dX11_returns_91 : decode cX11_returns 91 = .ok (.iaload, 1) := by decide +kernel
theorem dX11_returns_92 : decode cX11_returns 92 = .ok (.iload 6, 2) := by decide +kernel
theorem dX11_returns_94 : decode cX11_returns 94 = .ok (.iadd, 1) := by decide +kernel
theorem dX11_returns_95 : decode cX11_returns 95 = .ok (.iastore, 1) := by decide +kernel
theorem dX11_returns_96 : decode cX11_returns 96 = .ok (.aload_n 0, 1) := by decide +kernel
theorem dX11_returns_97 : decode cX11_returns 97 = .ok (.getfield 7, 3) := by decide +kernel
theorem dX11_returns_100 : decode cX11_returns 100 = .ok (.bipush 50, 2) := by decide +kernel
theorem dX11_returns_102 : decode cX11_returns 102 = .ok (.iload_n 2, 1) := by decide +kernel
theorem dX11_returns_103 : decode cX11_returns 103 = .ok (.iadd, 1) := by decide +kernel
theorem dX11_returns_104 : decode cX11_returns 104 = .ok (.dup2, 1) := by decide +kernel
theorem dX11_returns_105 : decode cX11_returns 105 = .ok (.iaload, 1) := by decide +kernel
theorem dX11_returns_106 : decode cX11_returns 106 = .ok (.iload 6, 2) := by decide +kernel
theorem dX11_returns_108 : decode cX11_returns 108 = .ok (.isub, 1) := by decide +kernel
theorem dX11_returns_109 : decode cX11_returns 109 = .ok (.iastore, 1) := by decide +kernel
theorem dX11_returns_110 : decode cX11_returns 110 = .ok (.iload_n 1, 1) := by decide +kernel
theorem dX11_returns_111 : decode cX11_returns 111 = .ok (.iload 6, 2) := by decide +kernel
theorem dX11_returns_113 : decode cX11_returns 113 = .ok (.iadd, 1) := by decide +kernel
theorem dX11_returns_114 : decode cX11_returns 114 = .ok (.istore_n 1, 1) := by decide +kernel
theorem dX11_returns_115 : decode cX11_returns 115 = .ok (.iinc 5 1, 3) := by decide +kernel
theorem dX11_returns_118 : decode cX11_returns 118 = .ok (.goto (-88), 3) := by decide +kernel
theorem dX11_returns_121 : decode cX11_returns 121 = .ok (.aload_n 0, 1) := by decide +kernel
theorem dX11_returns_122 : decode cX11_returns 122 = .ok (.getfield 7, 3) := by decide +kernel
theorem dX11_returns_125 : decode cX11_returns 125 = .ok (.bipush 56, 2) := by decide +kernel
theorem dX11_returns_127 : decode cX11_returns 127 = .ok (.iload_n 2, 1) := by decide +kernel
theorem dX11_returns_128 : decode cX11_returns 128 = .ok (.iadd, 1) := by decide +kernel
theorem dX11_returns_129 : decode cX11_returns 129 = .ok (.dup2, 1) := by decide +kernel
theorem dX11_returns_130 : decode cX11_returns 130 = .ok (.iaload, 1) := by decide +kernel
theorem dX11_returns_131 : decode cX11_returns 131 = .ok (.aload_n 0, 1) := by decide +kernel
theorem dX11_returns_132 : decode cX11_returns 132 = .ok (.getfield 7, 3) := by decide +kernel
theorem dX11_returns_135 : decode cX11_returns 135 = .ok (.bipush 50, 2) := by decide +kernel
theorem dX11_returns_137 : decode cX11_returns 137 = .ok (.iload_n 2, 1) := by decide +kernel
theorem dX11_returns_138 : decode cX11_returns 138 = .ok (.iadd, 1) := by decide +kernel
theorem dX11_returns_139 : decode cX11_returns 139 = .ok (.iaload, 1) := by decide +kernel
theorem dX11_returns_140 : decode cX11_returns 140 = .ok (.iadd, 1) := by decide +kernel
theorem dX11_returns_141 : decode cX11_returns 141 = .ok (.iastore, 1) := by decide +kernel
theorem dX11_returns_142 : decode cX11_returns 142 = .ok (.aload_n 0, 1) := by decide +kernel
theorem dX11_returns_143 : decode cX11_returns 143 = .ok (.getfield 7, 3) := by decide +kernel
theorem dX11_returns_146 : decode cX11_returns 146 = .ok (.bipush 50, 2) := by decide +kernel
theorem dX11_returns_148 : decode cX11_returns 148 = .ok (.iload_n 2, 1) := by decide +kernel
theorem dX11_returns_149 : decode cX11_returns 149 = .ok (.iadd, 1) := by decide +kernel
theorem dX11_returns_150 : decode cX11_returns 150 = .ok (.iconst 0, 1) := by decide +kernel
theorem dX11_returns_151 : decode cX11_returns 151 = .ok (.iastore, 1) := by decide +kernel
theorem dX11_returns_152 : decode cX11_returns 152 = .ok (.iinc 2 1, 3) := by decide +kernel
theorem dX11_returns_155 : decode cX11_returns 155 = .ok (.goto (-151), 3) := by decide +kernel
theorem dX11_returns_158 : decode cX11_returns 158 = .ok (.iload_n 1, 1) := by decide +kernel
theorem dX11_returns_159 : decode cX11_returns 159 = .ok (.ireturn, 1) := by decide +kernel
theorem dX11_returnCloth_0 : decode cX11_returnCloth 0 = .ok (.aload_n 0, 1) := by decide +kernel
theorem dX11_returnCloth_1 : decode cX11_returnCloth 1 = .ok (.iconst 0, 1) := by decide +kernel
theorem dX11_returnCloth_2 : decode cX11_returnCloth 2 = .ok (.putfield 56, 3) := by decide +kernel
theorem dX11_returnCloth_5 : decode cX11_returnCloth 5 = .ok (.aload_n 0, 1) := by decide +kernel
theorem dX11_returnCloth_6 : decode cX11_returnCloth 6 = .ok (.invokevirtual 200, 3) := by decide +kernel
theorem dX11_returnCloth_9 : decode cX11_returnCloth 9 = .ok (.aload_n 0, 1) := by decide +kernel
theorem dX11_returnCloth_10 : decode cX11_returnCloth 10 = .ok (.invokevirtual 241, 3) := by decide +kernel
theorem dX11_returnCloth_13 : decode cX11_returnCloth 13 = .ok (.ireturn, 1) := by decide +kernel
theorem dX11_undo_0 : decode cX11_undo 0 = .ok (.aload_n 0, 1) := by decide +kernel
theorem dX11_undo_1 : decode cX11_undo 1 = .ok (.iconst 0, 1) := by decide +kernel
theorem dX11_undo_2 : decode cX11_undo 2 = .ok (.putfield 56, 3) := by decide +kernel
theorem dX11_undo_5 : decode cX11_undo 5 = .ok (.aload_n 0, 1) := by decide +kernel
theorem dX11_undo_6 : decode cX11_undo 6 = .ok (.getfield 60, 3) := by decide +kernel
theorem dX11_undo_9 : decode cX11_undo 9 = .ok (.ifCond .ne 9, 3) := by decide +kernel
theorem dX11_undo_12 : decode cX11_undo 12 = .ok (.aload_n 0, 1) := by decide +kernel
theorem dX11_undo_13 : decode cX11_undo 13 = .ok (.iconst 1, 1) := by decide +kernel
theorem dX11_undo_14 : decode cX11_undo 14 = .ok (.invokevirtual 81, 3) := by decide +kernel
theorem dX11_undo_17 : decode cX11_undo 17 = .ok (.ireturn, 1) := by decide +kernel
theorem dX11_undo_18 : decode cX11_undo 18 = .ok (.aload_n 0, 1) := by decide +kernel
theorem dX11_undo_19 : decode cX11_undo 19 = .ok (.dup, 1) := by decide +kernel
theorem dX11_undo_20 : decode cX11_undo 20 = .ok (.getfield 60, 3) := by decide +kernel
theorem dX11_undo_23 : decode cX11_undo 23 = .ok (.iconst 1, 1) := by decide +kernel
theorem dX11_undo_24 : decode cX11_undo 24 = .ok (.isub, 1) := by decide +kernel
theorem dX11_undo_25 : decode cX11_undo 25 = .ok (.putfield 60, 3) := by decide +kernel
theorem dX11_undo_28 : decode cX11_undo 28 = .ok (.iconst 0, 1) := by decide +kernel
theorem dX11_undo_29 : decode cX11_undo 29 = .ok (.istore_n 1, 1) := by decide +kernel
theorem dX11_undo_30 : decode cX11_undo 30 = .ok (.iload_n 1, 1) := by decide +kernel
theorem dX11_undo_31 : decode cX11_undo 31 = .ok (.sipush 866, 3) := by decide +kernel
theorem dX11_undo_34 : decode cX11_undo 34 = .ok (.if_icmp .ge 30, 3) := by decide +kernel
theorem dX11_undo_37 : decode cX11_undo 37 = .ok (.aload_n 0, 1) := by decide +kernel
theorem dX11_undo_38 : decode cX11_undo 38 = .ok (.getfield 7, 3) := by decide +kernel
theorem dX11_undo_41 : decode cX11_undo 41 = .ok (.iload_n 1, 1) := by decide +kernel
theorem dX11_undo_42 : decode cX11_undo 42 = .ok (.aload_n 0, 1) := by decide +kernel
theorem dX11_undo_43 : decode cX11_undo 43 = .ok (.getfield 16, 3) := by decide +kernel
theorem dX11_undo_46 : decode cX11_undo 46 = .ok (.sipush 866, 3) := by decide +kernel
theorem dX11_undo_49 : decode cX11_undo 49 = .ok (.aload_n 0, 1) := by decide +kernel
theorem dX11_undo_50 : decode cX11_undo 50 = .ok (.getfield 60, 3) := by decide +kernel
theorem dX11_undo_53 : decode cX11_undo 53 = .ok (.imul, 1) := by decide +kernel
theorem dX11_undo_54 : decode cX11_undo 54 = .ok (.iload_n 1, 1) := by decide +kernel
theorem dX11_undo_55 : decode cX11_undo 55 = .ok (.iadd, 1) := by decide +kernel
theorem dX11_undo_56 : decode cX11_undo 56 = .ok (.iaload, 1) := by decide +kernel
theorem dX11_undo_57 : decode cX11_undo 57 = .ok (.iastore, 1) := by decide +kernel
theorem dX11_undo_58 : decode cX11_undo 58 = .ok (.iinc 1 1, 3) := by decide +kernel
theorem dX11_undo_61 : decode cX11_undo 61 = .ok (.goto (-31), 3) := by decide +kernel
theorem dX11_undo_64 : decode cX11_undo 64 = .ok (.aload_n 0, 1) := by decide +kernel
theorem dX11_undo_65 : decode cX11_undo 65 = .ok (.getfield 60, 3) := by decide +kernel
theorem dX11_undo_68 : decode cX11_undo 68 = .ok (.ireturn, 1) := by decide +kernel
theorem dX11_missing_0 : decode cX11_missing 0 = .ok (.aload_n 0, 1) := by decide +kernel
theorem dX11_missing_1 : decode cX11_missing 1 = .ok (.getfield 7, 3) := by decide +kernel
theorem dX11_missing_4 : decode cX11_missing 4 = .ok (.bipush 50, 2) := by decide +kernel
theorem dX11_missing_6 : decode cX11_missing 6 = .ok (.iload_n 2, 1) := by decide +kernel
theorem dX11_missing_7 : decode cX11_missing 7 = .ok (.iadd, 1) := by decide +kernel
theorem dX11_missing_8 : decode cX11_missing 8 = .ok (.iaload, 1) := by decide +kernel
theorem dX11_missing_9 : decode cX11_missing 9 = .ok (.ineg, 1) := by decide +kernel
theorem dX11_missing_10 : decode cX11_missing 10 = .ok (.istore_n 3, 1) := by decide +kernel
theorem dX11_missing_11 : decode cX11_missing 11 = .ok (.iconst 0, 1) := by decide +kernel
theorem dX11_missing_12 : decode cX11_missing 12 = .ok (.istore 4, 2) := by decide +kernel
theorem dX11_missing_14 : decode cX11_missing 14 = .ok (.iload 4, 2) := by decide +kernel
theorem dX11_missing_16 : decode cX11_missing 16 = .ok (.iconst 3, 1) := by decide +kernel
theorem dX11_missing_17 : decode cX11_missing 17 = .ok (.if_icmp .ge 50, 3) := by decide +kernel
theorem dX11_missing_20 : decode cX11_missing 20 = .ok (.iload_n 3, 1) := by decide +kernel
theorem dX11_missing_21 : decode cX11_missing 21 = .ok (.iload_n 1, 1) := by decide +kernel
theorem dX11_missing_22 : decode cX11_missing 22 = .ok (.iload 4, 2) := by decide +kernel
theorem dX11_missing_24 : decode cX11_missing 24 = .ok (.ishr, 1) := by decide +kernel
theorem dX11_missing_25 : decode cX11_missing 25 = .ok (.iconst 1, 1) := by decide +kernel
theorem dX11_missing_26 : decode cX11_missing 26 = .ok (.iand, 1) := by decide +kernel
theorem dX11_missing_27 : decode cX11_missing 27 = .ok (.iconst 1, 1) := by decide +kernel
theorem dX11_missing_28 : decode cX11_missing 28 = .ok (.if_icmp .ne 30, 3) := by decide +kernel
theorem dX11_missing_31 : decode cX11_missing 31 = .ok (.aload_n 0, 1) := by decide +kernel
theorem dX11_missing_32 : decode cX11_missing 32 = .ok (.iload 4, 2) := by decide +kernel
theorem dX11_missing_34 : decode cX11_missing 34 = .ok (.iload_n 2, 1) := by decide +kernel
theorem dX11_missing_35 : decode cX11_missing 35 = .ok (.aload_n 0, 1) := by decide +kernel
theorem dX11_missing_36 : decode cX11_missing 36 = .ok (.getfield 7, 3) := by decide +kernel
theorem dX11_missing_39 : decode cX11_missing 39 = .ok (.iload 4, 2) := by decide +kernel
theorem dX11_missing_41 : decode cX11_missing 41 = .ok (.iconst 2, 1) := by decide +kernel
theorem dX11_missing_42 : decode cX11_missing 42 = .ok (.invokestatic 71, 3) := by decide +kernel
theorem dX11_missing_45 : decode cX11_missing 45 = .ok (.iaload, 1) := by decide +kernel
theorem dX11_missing_46 : decode cX11_missing 46 = .ok (.aload_n 0, 1) := by decide +kernel
theorem dX11_missing_47 : decode cX11_missing 47 = .ok (.iload 4, 2) := by decide +kernel
theorem dX11_missing_49 : decode cX11_missing 49 = .ok (.invokevirtual 75, 3) := by decide +kernel
theorem dX11_missing_52 : decode cX11_missing 52 = .ok (.invokevirtual 158, 3) := by decide +kernel
theorem dX11_missing_55 : decode cX11_missing 55 = .ok (.goto 4, 3) := by decide +kernel
theorem dX11_missing_58 : decode cX11_missing 58 = .ok (.iconst 0, 1) := by decide +kernel
theorem dX11_missing_59 : decode cX11_missing 59 = .ok (.iadd, 1) := by decide +kernel
theorem dX11_missing_60 : decode cX11_missing 60 = .ok (.istore_n 3, 1) := by decide +kernel
theorem dX11_missing_61 : decode cX11_missing 61 = .ok (.iinc 4 1, 3) := by decide +kernel
theorem dX11_missing_64 : decode cX11_missing 64 = .ok (.goto (-50), 3) := by decide +kernel
theorem dX11_missing_67 : decode cX11_missing 67 = .ok (.iload_n 3, 1) := by decide +kernel
theorem dX11_missing_68 : decode cX11_missing 68 = .ok (.ifCond .le 7, 3) := by decide +kernel
theorem dX11_missing_71 : decode cX11_missing 71 = .ok (.iload_n 3, 1) := by decide +kernel
theorem dX11_missing_72 : decode cX11_missing 72 = .ok (.goto 4, 3) := by decide +kernel
theorem dX11_missing_75 : decode cX11_missing 75 = .ok (.iconst 0, 1) := by decide +kernel
theorem dX11_missing_76 : decode cX11_missing 76 = .ok (.ireturn, 1) := by decide +kernel
theorem dX11_lacks_0 : decode cX11_lacks 0 = .ok (.aload_n 0, 1) := by decide +kernel
theorem dX11_lacks_1 : decode cX11_lacks 1 = .ok (.iconst 0, 1) := by decide +kernel
theorem dX11_lacks_2 : decode cX11_lacks 2 = .ok (.putfield 56, 3) := by decide +kernel
theorem dX11_lacks_5 : decode cX11_lacks 5 = .ok (.iload_n 2, 1) := by decide +kernel
theorem dX11_lacks_6 : decode cX11_lacks 6 = .ok (.invokestatic 153, 3) := by decide +kernel
theorem dX11_lacks_9 : decode cX11_lacks 9 = .ok (.ifCond .ne 9, 3) := by decide +kernel
theorem dX11_lacks_12 : decode cX11_lacks 12 = .ok (.aload_n 0, 1) := by decide +kernel
theorem dX11_lacks_13 : decode cX11_lacks 13 = .ok (.iconst 1, 1) := by decide +kernel
theorem dX11_lacks_14 : decode cX11_lacks 14 = .ok (.invokevirtual 81, 3) := by decide +kernel
theorem dX11_lacks_17 : decode cX11_lacks 17 = .ok (.ireturn, 1) := by decide +kernel
theorem dX11_lacks_18 : decode cX11_lacks 18 = .ok (.iload_n 1, 1) := by decide +kernel
theorem dX11_lacks_19 : decode cX11_lacks 19 = .ok (.i2l, 1) := by decide +kernel
theorem dX11_lacks_20 : decode cX11_lacks 20 = .ok (.lconst 0, 1) := by decide +kernel
theorem dX11_lacks_21 : decode cX11_lacks 21 = .ok (.ldc2_w 244, 3) := by decide +kernel
theorem dX11_lacks_24 : decode cX11_lacks 24 = .ok (.invokestatic 63, 3) := by decide +kernel
theorem dX11_lacks_27 : decode cX11_lacks 27 = .ok (.ifCond .eq 12, 3) := by decide +kernel
theorem dX11_lacks_30 : decode cX11_lacks 30 = .ok (.aload_n 0, 1) := by decide +kernel
theorem dX11_lacks_31 : decode cX11_lacks 31 = .ok (.iload_n 1, 1) := by decide +kernel
theorem dX11_lacks_32 : decode cX11_lacks 32 = .ok (.iload_n 2, 1) := by decide +kernel
theorem dX11_lacks_33 : decode cX11_lacks 33 = .ok (.invokevirtual 246, 3) := by decide +kernel
theorem dX11_lacks_36 : decode cX11_lacks 36 = .ok (.goto 8, 3) := by decide +kernel
theorem dX11_lacks_39 : decode cX11_lacks 39 = .ok (.aload_n 0, 1) := by decide +kernel
theorem dX11_lacks_40 : decode cX11_lacks 40 = .ok (.iconst 2, 1) := by decide +kernel
theorem dX11_lacks_41 : decode cX11_lacks 41 = .ok (.invokevirtual 81, 3) := by decide +kernel
theorem dX11_lacks_44 : decode cX11_lacks 44 = .ok (.ireturn, 1) := by decide +kernel
theorem dX11_canFinish_0 : decode cX11_canFinish 0 = .ok (.aload_n 0, 1) := by decide +kernel
theorem dX11_canFinish_1 : decode cX11_canFinish 1 = .ok (.iconst 0, 1) := by decide +kernel
theorem dX11_canFinish_2 : decode cX11_canFinish 2 = .ok (.putfield 56, 3) := by decide +kernel
theorem dX11_canFinish_5 : decode cX11_canFinish 5 = .ok (.iconst 0, 1) := by decide +kernel
theorem dX11_canFinish_6 : decode cX11_canFinish 6 = .ok (.istore_n 1, 1) := by decide +kernel
theorem dX11_canFinish_7 : decode cX11_canFinish 7 = .ok (.iconst 0, 1) := by decide +kernel
theorem dX11_canFinish_8 : decode cX11_canFinish 8 = .ok (.istore_n 2, 1) := by decide +kernel
theorem dX11_canFinish_9 : decode cX11_canFinish 9 = .ok (.iconst 1, 1) := by decide +kernel
theorem dX11_canFinish_10 : decode cX11_canFinish 10 = .ok (.istore_n 3, 1) := by decide +kernel
theorem dX11_canFinish_11 : decode cX11_canFinish 11 = .ok (.iload_n 3, 1) := by decide +kernel
theorem dX11_canFinish_12 : decode cX11_canFinish 12 = .ok (.bipush 8, 2) := by decide +kernel
theorem dX11_canFinish_14 : decode cX11_canFinish 14 = .ok (.if_icmp .ge 161, 3) := by decide +kernel
theorem dX11_canFinish_17 : decode cX11_canFinish 17 = .ok (.iconst 0, 1) := by decide +kernel
theorem dX11_canFinish_18 : decode cX11_canFinish 18 = .ok (.istore 4, 2) := by decide +kernel
theorem dX11_canFinish_20 : decode cX11_canFinish 20 = .ok (.iconst 1, 1) := by decide +kernel
theorem dX11_canFinish_21 : decode cX11_canFinish 21 = .ok (.istore 5, 2) := by decide +kernel
theorem dX11_canFinish_23 : decode cX11_canFinish 23 = .ok (.iconst 0, 1) := by decide +kernel
theorem dX11_canFinish_24 : decode cX11_canFinish 24 = .ok (.istore 6, 2) := by decide +kernel
theorem dX11_canFinish_26 : decode cX11_canFinish 26 = .ok (.iload 6, 2) := by decide +kernel
theorem dX11_canFinish_28 : decode cX11_canFinish 28 = .ok (.iconst 3, 1) := by decide +kernel
theorem dX11_canFinish_29 : decode cX11_canFinish 29 = .ok (.if_icmp .ge 67, 3) := by decide +kernel
theorem dX11_canFinish_32 : decode cX11_canFinish 32 = .ok (.iload_n 3, 1) := by decide +kernel
theorem dX11_canFinish_33 : decode cX11_canFinish 33 = .ok (.iload 6, 2) := by decide +kernel
theorem dX11_canFinish_35 : decode cX11_canFinish 35 = .ok (.ishr, 1) := by decide +kernel
theorem dX11_canFinish_36 : decode cX11_canFinish 36 = .ok (.iconst 1, 1) := by decide +kernel
theorem dX11_canFinish_37 : decode cX11_canFinish 37 = .ok (.iand, 1) := by decide +kernel
theorem dX11_canFinish_38 : decode cX11_canFinish 38 = .ok (.iconst 1, 1) := by decide +kernel
theorem dX11_canFinish_39 : decode cX11_canFinish 39 = .ok (.if_icmp .ne 7, 3) := by decide +kernel
theorem dX11_canFinish_42 : decode cX11_canFinish 42 = .ok (.iconst 1, 1) := by decide +kernel
theorem dX11_canFinish_43 : decode cX11_canFinish 43 = .ok (.goto 4, 3) := by decide +kernel
theorem dX11_canFinish_46 : decode cX11_canFinish 46 = .ok (.iconst 0, 1) := by decide +kernel
theorem dX11_canFinish_47 : decode cX11_canFinish 47 = .ok (.istore 7, 2) := by decide +kernel
theorem dX11_canFinish_49 : decode cX11_canFinish 49 = .ok (.iload 4, 2) := by decide +kernel
theorem dX11_canFinish_51 : decode cX11_canFinish 51 = .ok (.iload 7, 2) := by decide +kernel
theorem dX11_canFinish_53 : decode cX11_canFinish 53 = .ok (.ifCond .eq 7, 3) := by decide +kernel
theorem dX11_canFinish_56 : decode cX11_canFinish 56 = .ok (.iconst 1, 1) := by decide +kernel
theorem dX11_canFinish_57 : decode cX11_canFinish 57 = .ok (.goto 4, 3) := by decide +kernel
theorem dX11_canFinish_60 : decode cX11_canFinish 60 = .ok (.iconst 0, 1) := by decide +kernel
theorem dX11_canFinish_61 : decode cX11_canFinish 61 = .ok (.iadd, 1) := by decide +kernel
theorem dX11_canFinish_62 : decode cX11_canFinish 62 = .ok (.istore 4, 2) := by decide +kernel
theorem dX11_canFinish_64 : decode cX11_canFinish 64 = .ok (.iload 5, 2) := by decide +kernel
theorem dX11_canFinish_66 : decode cX11_canFinish 66 = .ok (.ifCond .eq 21, 3) := by decide +kernel
theorem dX11_canFinish_69 : decode cX11_canFinish 69 = .ok (.iload 7, 2) := by decide +kernel
theorem dX11_canFinish_71 : decode cX11_canFinish 71 = .ok (.ifCond .eq 12, 3) := by decide +kernel
theorem dX11_canFinish_74 : decode cX11_canFinish 74 = .ok (.aload_n 0, 1) := by decide +kernel
theorem dX11_canFinish_75 : decode cX11_canFinish 75 = .ok (.iload 6, 2) := by decide +kernel
theorem dX11_canFinish_77 : decode cX11_canFinish 77 = .ok (.invokevirtual 75, 3) := by decide +kernel
theorem dX11_canFinish_80 : decode cX11_canFinish 80 = .ok (.ifCond .le 7, 3) := by decide +kernel
theorem dX11_canFinish_83 : decode cX11_canFinish 83 = .ok (.iconst 1, 1) := by decide +kernel
theorem dX11_canFinish_84 : decode cX11_canFinish 84 = .ok (.goto 4, 3) := by decide +kernel
theorem dX11_canFinish_87 : decode cX11_canFinish 87 = .ok (.iconst 0, 1) := by decide +kernel
theorem dX11_canFinish_88 : decode cX11_canFinish 88 = .ok (.istore 5, 2) := by decide +kernel
theorem dX11_canFinish_90 : decode cX11_canFinish 90 = .ok (.iinc 6 1, 3) := by decide +kernel
theorem dX11_canFinish_93 : decode cX11_canFinish 93 = .ok (.goto (-67), 3) := by decide +kernel
theorem dX11_canFinish_96 : decode cX11_canFinish 96 = .ok (.iconst 0, 1) := by decide +kernel
theorem dX11_canFinish_97 : decode cX11_canFinish 97 = .ok (.istore 6, 2) := by decide +kernel
theorem dX11_canFinish_99 : decode cX11_canFinish 99 = .ok (.iload 6, 2) := by decide +kernel
theorem dX11_canFinish_101 : decode cX11_canFinish 101 = .ok (.bipush 6, 2) := by decide +kernel
theorem dX11_canFinish_103 : decode cX11_canFinish 103 = .ok (.if_icmp .ge 31, 3) := by decide +kernel
theorem dX11_canFinish_106 : decode cX11_canFinish 106 = .ok (.iload 5, 2) := by decide +kernel
theorem dX11_canFinish_108 : decode cX11_canFinish 108 = .ok (.ifCond .eq 17, 3) := by decide +kernel
theorem dX11_canFinish_111 : decode cX11_canFinish 111 = .ok (.aload_n 0, 1) := by decide +kernel
theorem dX11_canFinish_112 : decode cX11_canFinish 112 = .ok (.iload_n 3, 1) := by decide +kernel
theorem dX11_canFinish_113 : decode cX11_canFinish 113 = .ok (.iload 6, 2) := by decide +kernel
theorem dX11_canFinish_115 : decode cX11_canFinish 115 = .ok (.invokevirtual 246, 3) := by decide +kernel
theorem dX11_canFinish_118 : decode cX11_canFinish 118 = .ok (.ifCond .ne 7, 3) := by decide +kernel
theorem dX11_canFinish_121 : decode cX11_canFinish 121 = .ok (.iconst 1, 1) := by decide +kernel
theorem dX11_canFinish_122 : decode cX11_canFinish 122 = .ok (.goto 4, 3) := by decide +kernel
theorem dX11_canFinish_125 : decode cX11_canFinish 125 = .ok (.iconst 0, 1) := by decide +kernel
theorem dX11_canFinish_126 : decode cX11_canFinish 126 = .ok (.istore 5, 2) := by decide +kernel
theorem dX11_canFinish_128 : decode cX11_canFinish 128 = .ok (.iinc 6 1, 3) := by decide +kernel
theorem dX11_canFinish_131 : decode cX11_canFinish 131 = .ok (.goto (-32), 3) := by decide +kernel
theorem dX11_canFinish_134 : decode cX11_canFinish 134 = .ok (.iload 5, 2) := by decide +kernel
theorem dX11_canFinish_136 : decode cX11_canFinish 136 = .ok (.ifCond .eq 13, 3) := by decide +kernel
theorem dX11_canFinish_139 : decode cX11_canFinish 139 = .ok (.iload 4, 2) := by decide +kernel
theorem dX11_canFinish_141 : decode cX11_canFinish 141 = .ok (.iload_n 2, 1) := by decide +kernel
theorem dX11_canFinish_142 : decode cX11_canFinish 142 = .ok (.if_icmp .le 7, 3) := by decide +kernel
theorem dX11_canFinish_145 : decode cX11_canFinish 145 = .ok (.iload_n 3, 1) := by decide +kernel
theorem dX11_canFinish_146 : decode cX11_canFinish 146 = .ok (.goto 4, 3) := by decide +kernel
theorem dX11_canFinish_149 : decode cX11_canFinish 149 = .ok (.iload_n 1, 1) := by decide +kernel
theorem dX11_canFinish_150 : decode cX11_canFinish 150 = .ok (.istore_n 1, 1) := by decide +kernel
theorem dX11_canFinish_151 : decode cX11_canFinish 151 = .ok (.iload 5, 2) := by decide +kernel
theorem dX11_canFinish_153 : decode cX11_canFinish 153 = .ok (.ifCond .eq 14, 3) := by decide +kernel
theorem dX11_canFinish_156 : decode cX11_canFinish 156 = .ok (.iload 4, 2) := by decide +kernel
theorem dX11_canFinish_158 : decode cX11_canFinish 158 = .ok (.iload_n 2, 1) := by decide +kernel
theorem dX11_canFinish_159 : decode cX11_canFinish 159 = .ok (.if_icmp .le 8, 3) := by decide +kernel
theorem dX11_canFinish_162 : decode cX11_canFinish 162 = .ok (.iload 4, 2) := by decide +kernel
theorem dX11_canFinish_164 : decode cX11_canFinish 164 = .ok (.goto 4, 3) := by decide +kernel
theorem dX11_canFinish_167 : decode cX11_canFinish 167 = .ok (.iload_n 2, 1) := by decide +kernel
theorem dX11_canFinish_168 : decode cX11_canFinish 168 = .ok (.istore_n 2, 1) := by decide +kernel
theorem dX11_canFinish_169 : decode cX11_canFinish 169 = .ok (.iinc 3 1, 3) := by decide +kernel
theorem dX11_canFinish_172 : decode cX11_canFinish 172 = .ok (.goto (-161), 3) := by decide +kernel
theorem dX11_canFinish_175 : decode cX11_canFinish 175 = .ok (.iload_n 1, 1) := by decide +kernel
theorem dX11_canFinish_176 : decode cX11_canFinish 176 = .ok (.ireturn, 1) := by decide +kernel
theorem dX11_wouldGet_0 : decode cX11_wouldGet 0 = .ok (.aload_n 0, 1) := by decide +kernel
theorem dX11_wouldGet_1 : decode cX11_wouldGet 1 = .ok (.iconst 0, 1) := by decide +kernel
theorem dX11_wouldGet_2 : decode cX11_wouldGet 2 = .ok (.putfield 56, 3) := by decide +kernel
theorem dX11_wouldGet_5 : decode cX11_wouldGet 5 = .ok (.iload_n 1, 1) := by decide +kernel
theorem dX11_wouldGet_6 : decode cX11_wouldGet 6 = .ok (.invokestatic 175, 3) := by decide +kernel
theorem dX11_wouldGet_9 : decode cX11_wouldGet 9 = .ok (.ifCond .eq 11, 3) := by decide +kernel
theorem dX11_wouldGet_12 : decode cX11_wouldGet 12 = .ok (.aload_n 0, 1) := by decide +kernel
theorem dX11_wouldGet_13 : decode cX11_wouldGet 13 = .ok (.iload_n 2, 1) := by decide +kernel
theorem dX11_wouldGet_14 : decode cX11_wouldGet 14 = .ok (.invokevirtual 145, 3) := by decide +kernel
theorem dX11_wouldGet_17 : decode cX11_wouldGet 17 = .ok (.ifCond .ne 9, 3) := by decide +kernel
theorem dX11_wouldGet_20 : decode cX11_wouldGet 20 = .ok (.aload_n 0, 1) := by decide +kernel
theorem dX11_wouldGet_21 : decode cX11_wouldGet 21 = .ok (.iconst 1, 1) := by decide +kernel
theorem dX11_wouldGet_22 : decode cX11_wouldGet 22 = .ok (.invokevirtual 81, 3) := by decide +kernel
theorem dX11_wouldGet_25 : decode cX11_wouldGet 25 = .ok (.ireturn, 1) := by decide +kernel
theorem dX11_wouldGet_26 : decode cX11_wouldGet 26 = .ok (.iload_n 3, 1) := by decide +kernel
theorem dX11_wouldGet_27 : decode cX11_wouldGet 27 = .ok (.i2l, 1) := by decide +kernel
theorem dX11_wouldGet_28 : decode cX11_wouldGet 28 = .ok (.lconst 0, 1) := by decide +kernel
theorem dX11_wouldGet_29 : decode cX11_wouldGet 29 = .ok (.ldc2_w 233, 3) := by decide +kernel
theorem dX11_wouldGet_32 : decode cX11_wouldGet 32 = .ok (.invokestatic 63, 3) := by decide +kernel
theorem dX11_wouldGet_35 : decode cX11_wouldGet 35 = .ok (.ifCond .ne 9, 3) := by decide +kernel
theorem dX11_wouldGet_38 : decode cX11_wouldGet 38 = .ok (.aload_n 0, 1) := by decide +kernel
theorem dX11_wouldGet_39 : decode cX11_wouldGet 39 = .ok (.iconst 2, 1) := by decide +kernel
theorem dX11_wouldGet_40 : decode cX11_wouldGet 40 = .ok (.invokevirtual 81, 3) := by decide +kernel
theorem dX11_wouldGet_43 : decode cX11_wouldGet 43 = .ok (.ireturn, 1) := by decide +kernel
theorem dX11_wouldGet_44 : decode cX11_wouldGet 44 = .ok (.aload_n 0, 1) := by decide +kernel
theorem dX11_wouldGet_45 : decode cX11_wouldGet 45 = .ok (.iload_n 1, 1) := by decide +kernel
theorem dX11_wouldGet_46 : decode cX11_wouldGet 46 = .ok (.invokevirtual 235, 3) := by decide +kernel
theorem dX11_wouldGet_49 : decode cX11_wouldGet 49 = .ok (.ifCond .ne 6, 3) := by decide +kernel
theorem dX11_wouldGet_52 : decode cX11_wouldGet 52 = .ok (.bipush (-9), 2) := by decide +kernel
theorem dX11_wouldGet_54 : decode cX11_wouldGet 54 = .ok (.ireturn, 1) := by decide +kernel
theorem dX11_wouldGet_55 : decode cX11_wouldGet 55 = .ok (.aload_n 0, 1) := by decide +kernel
theorem dX11_wouldGet_56 : decode cX11_wouldGet 56 = .ok (.iload_n 1, 1) := by decide +kernel
theorem dX11_wouldGet_57 : decode cX11_wouldGet 57 = .ok (.iload_n 3, 1) := by decide +kernel
theorem dX11_wouldGet_58 : decode cX11_wouldGet 58 = .ok (.invokevirtual 230, 3) := by decide +kernel
theorem dX11_wouldGet_61 : decode cX11_wouldGet 61 = .ok (.aload_n 0, 1) := by decide +kernel
theorem dX11_wouldGet_62 : decode cX11_wouldGet 62 = .ok (.getfield 53, 3) := by decide +kernel
theorem dX11_wouldGet_65 : decode cX11_wouldGet 65 = .ok (.iload_n 2, 1) := by decide +kernel
theorem dX11_wouldGet_66 : decode cX11_wouldGet 66 = .ok (.iaload, 1) := by decide +kernel
theorem dX11_wouldGet_67 : decode cX11_wouldGet 67 = .ok (.ireturn, 1) := by decide +kernel
theorem dX11_becomes_0 : decode cX11_becomes 0 = .ok (.aload_n 0, 1) := by decide +kernel
theorem dX11_becomes_1 : decode cX11_becomes 1 = .ok (.iconst 0, 1) := by decide +kernel
theorem dX11_becomes_2 : decode cX11_becomes 2 = .ok (.putfield 56, 3) := by decide +kernel
theorem dX11_becomes_5 : decode cX11_becomes 5 = .ok (.iload_n 1, 1) := by decide +kernel
theorem dX11_becomes_6 : decode cX11_becomes 6 = .ok (.invokestatic 175, 3) := by decide +kernel
theorem dX11_becomes_9 : decode cX11_becomes 9 = .ok (.ifCond .eq 10, 3) := by decide +kernel
theorem dX11_becomes_12 : decode cX11_becomes 12 = .ok (.iload_n 2, 1) := by decide +kernel
theorem dX11_becomes_13 : decode cX11_becomes 13 = .ok (.invokestatic 175, 3) := by decide +kernel
theorem dX11_becomes_16 : decode cX11_becomes 16 = .ok (.ifCond .ne 9, 3) := by decide +kernel
theorem dX11_becomes_19 : decode cX11_becomes 19 = .ok (.aload_n 0, 1) := by decide +kernel
theorem dX11_becomes_20 : decode cX11_becomes 20 = .ok (.iconst 1, 1) := by decide +kernel
theorem dX11_becomes_21 : decode cX11_becomes 21 = .ok (.invokevirtual 81, 3) := by decide +kernel
theorem dX11_becomes_24 : decode cX11_becomes 24 = .ok (.ireturn, 1) := by decide +kernel
theorem dX11_becomes_25 : decode cX11_becomes 25 = .ok (.iconst 0, 1) := by decide +kernel
theorem dX11_becomes_26 : decode cX11_becomes 26 = .ok (.istore_n 3, 1) := by decide +kernel
theorem dX11_becomes_27 : decode cX11_becomes 27 = .ok (.iload_n 3, 1) := by decide +kernel
theorem dX11_becomes_28 : decode cX11_becomes 28 = .ok (.bipush 8, 2) := by decide +kernel
theorem dX11_becomes_30 : decode cX11_becomes 30 = .ok (.if_icmp .ge 49, 3) := by decide +kernel
theorem dX11_becomes_33 : decode cX11_becomes 33 = .ok (.aload_n 0, 1) := by decide +kernel
theorem dX11_becomes_34 : decode cX11_becomes 34 = .ok (.iload_n 1, 1) := by decide +kernel
theorem dX11_becomes_35 : decode cX11_becomes 35 = .ok (.invokevirtual 75, 3) := by decide +kernel
theorem dX11_becomes_38 : decode cX11_becomes 38 = .ok (.ifCond .le 41, 3) := by decide +kernel
theorem dX11_becomes_41 : decode cX11_becomes 41 = .ok (.aload_n 0, 1) := by decide +kernel
theorem dX11_becomes_42 : decode cX11_becomes 42 = .ok (.iload_n 2, 1) := by decide +kernel
theorem dX11_becomes_43 : decode cX11_becomes 43 = .ok (.invokevirtual 75, 3) := by decide +kernel
theorem dX11_becomes_46 : decode cX11_becomes 46 = .ok (.ifCond .le 33, 3) := by decide +kernel
theorem dX11_becomes_49 : decode cX11_becomes 49 = .ok (.aload_n 0, 1) := by decide +kernel
theorem dX11_becomes_50 : decode cX11_becomes 50 = .ok (.iload_n 1, 1) := by decide +kernel
theorem dX11_becomes_51 : decode cX11_becomes 51 = .ok (.iload_n 2, 1) := by decide +kernel
theorem dX11_becomes_52 : decode cX11_becomes 52 = .ok (.iload_n 3, 1) := by decide +kernel
theorem dX11_becomes_53 : decode cX11_becomes 53 = .ok (.iconst 3, 1) := by decide +kernel
theorem dX11_becomes_54 : decode cX11_becomes 54 = .ok (.if_icmp .le 7, 3) := by decide +kernel
theorem dX11_becomes_57 : decode cX11_becomes 57 = .ok (.iconst 1, 1) := by decide +kernel
theorem dX11_becomes_58 : decode cX11_becomes 58 = .ok (.goto 4, 3) := by decide +kernel
theorem dX11_becomes_61 : decode cX11_becomes 61 = .ok (.iconst 0, 1) := by decide +kernel
theorem dX11_becomes_62 : decode cX11_becomes 62 = .ok (.iload_n 3, 1) := by decide +kernel
theorem dX11_becomes_63 : decode cX11_becomes 63 = .ok (.iconst 4, 1) := by decide +kernel
theorem dX11_becomes_64 : decode cX11_becomes 64 = .ok (.irem, 1) := by decide +kernel
theorem dX11_becomes_65 : decode cX11_becomes 65 = .ok (.invokevirtual 196, 3) := by decide +kernel
theorem dX11_becomes_68 : decode cX11_becomes 68 = .ok (.ifCond .eq 5, 3) := by decide +kernel
theorem dX11_becomes_71 : decode cX11_becomes 71 = .ok (.iload_n 3, 1) := by decide +kernel
theorem dX11_becomes_72 : decode cX11_becomes 72 = .ok (.ireturn, 1) := by decide +kernel
theorem dX11_becomes_73 : decode cX11_becomes 73 = .ok (.iinc 3 1, 3) := by decide +kernel
theorem dX11_becomes_76 : decode cX11_becomes 76 = .ok (.goto (-49), 3) := by decide +kernel
theorem dX11_becomes_79 : decode cX11_becomes 79 = .ok (.bipush (-9), 2) := by decide +kernel
theorem dX11_becomes_81 : decode cX11_becomes 81 = .ok (.ireturn, 1) := by decide +kernel
theorem dX11_acts_0 : decode cX11_acts 0 = .ok (.bipush 10, 2) := by decide +kernel
theorem dX11_acts_2 : decode cX11_acts 2 = .ok (.iload_n 3, 1) := by decide +kernel
theorem dX11_acts_3 : decode cX11_acts 3 = .ok (.imul, 1) := by decide +kernel
theorem dX11_acts_4 : decode cX11_acts 4 = .ok (.iload 4, 2) := by decide +kernel
theorem dX11_acts_6 : decode cX11_acts 6 = .ok (.iadd, 1) := by decide +kernel
theorem dX11_acts_7 : decode cX11_acts 7 = .ok (.istore 5, 2) := by decide +kernel
theorem dX11_acts_9 : decode cX11_acts 9 = .ok (.iload_n 1, 1) := by decide +kernel
theorem dX11_acts_10 : decode cX11_acts 10 = .ok (.tableswitch 172 1 5 #[34, 66, 99, 129, 156], 34) := by decide +kernel
theorem dX11_acts_44 : decode cX11_acts 44 = .ok (.iload_n 2, 1) := by decide +kernel
theorem dX11_acts_45 : decode cX11_acts 45 = .ok (.invokestatic 175, 3) := by decide +kernel
theorem dX11_acts_48 : decode cX11_acts 48 = .ok (.ifCond .eq 16, 3) := by decide +kernel
theorem dX11_acts_51 : decode cX11_acts 51 = .ok (.iload 5, 2) := by decide +kernel
theorem dX11_acts_53 : decode cX11_acts 53 = .ok (.ifCond .eq 11, 3) := by decide +kernel
theorem dX11_acts_56 : decode cX11_acts 56 = .ok (.aload_n 0, 1) := by decide +kernel
theorem dX11_acts_57 : decode cX11_acts 57 = .ok (.iload_n 2, 1) := by decide +kernel
theorem dX11_acts_58 : decode cX11_acts 58 = .ok (.invokevirtual 215, 3) := by decide +kernel
theorem dX11_acts_61 : decode cX11_acts 61 = .ok (.ifCond .ne 5, 3) := by decide +kernel
theorem dX11_acts_64 : decode cX11_acts 64 = .ok (.iconst 0, 1) := by decide +kernel
theorem dX11_acts_65 : decode cX11_acts 65 = .ok (.ireturn, 1) := by decide +kernel
theorem dX11_acts_66 : decode cX11_acts 66 = .ok (.aload_n 0, 1) := by decide +kernel
theorem dX11_acts_67 : decode cX11_acts 67 = .ok (.iload_n 2, 1) := by decide +kernel
theorem dX11_acts_68 : decode cX11_acts 68 = .ok (.iload 5, 2) := by decide +kernel
theorem dX11_acts_70 : decode cX11_acts 70 = .ok (.invokevirtual 218, 3) := by decide +kernel
theorem dX11_acts_73 : decode cX11_acts 73 = .ok (.pop, 1) := by decide +kernel
theorem dX11_acts_74 : decode cX11_acts 74 = .ok (.iconst 1, 1) := by decide +kernel
theorem dX11_acts_75 : decode cX11_acts 75 = .ok (.ireturn, 1) := by decide +kernel
theorem dX11_acts_76 : decode cX11_acts 76 = .ok (.aload_n 0, 1) := by decide +kernel
theorem dX11_acts_77 : decode cX11_acts 77 = .ok (.iload_n 2, 1) := by decide +kernel
theorem dX11_acts_78 : decode cX11_acts 78 = .ok (.invokevirtual 145, 3) := by decide +kernel
theorem dX11_acts_81 : decode cX11_acts 81 = .ok (.ifCond .eq 15, 3) := by decide +kernel
theorem dX11_acts_84 : decode cX11_acts 84 = .ok (.iload_n 3, 1) := by decide +kernel
theorem dX11_acts_85 : decode cX11_acts 85 = .ok (.invokestatic 153, 3) := by decide +kernel
theorem dX11_acts_88 : decode cX11_acts 88 = .ok (.ifCond .eq 8, 3) := by decide +kernel
theorem dX11_acts_91 : decode cX11_acts 91 = .ok (.iload 4, 2) := by decide +kernel
theorem dX11_acts_93 : decode cX11_acts 93 = .ok (.ifCond .ne 5, 3) := by decide +kernel
theorem dX11_acts_96 : decode cX11_acts 96 = .ok (.iconst 0, 1) := by decide +kernel
theorem dX11_acts_97 : decode cX11_acts 97 = .ok (.ireturn, 1) := by decide +kernel
theorem dX11_acts_98 : decode cX11_acts 98 = .ok (.aload_n 0, 1) := by decide +kernel
theorem dX11_acts_99 : decode cX11_acts 99 = .ok (.iload_n 2, 1) := by decide +kernel
theorem dX11_acts_100 : decode cX11_acts 100 = .ok (.iload_n 3, 1) := by decide +kernel
theorem dX11_acts_101 : decode cX11_acts 101 = .ok (.iload 4, 2) := by decide +kernel
theorem dX11_acts_103 : decode cX11_acts 103 = .ok (.invokevirtual 205, 3) := by decide +kernel
theorem dX11_acts_106 : decode cX11_acts 106 = .ok (.pop, 1) := by decide +kernel
theorem dX11_acts_107 : decode cX11_acts 107 = .ok (.iconst 1, 1) := by decide +kernel
theorem dX11_acts_108 : decode cX11_acts 108 = .ok (.ireturn, 1) := by decide +kernel
theorem dX11_acts_109 : decode cX11_acts 109 = .ok (.iload_n 2, 1) := by decide +kernel
theorem dX11_acts_110 : decode cX11_acts 110 = .ok (.invokestatic 175, 3) := by decide +kernel
theorem dX11_acts_113 : decode cX11_acts 113 = .ok (.ifCond .eq 16, 3) := by decide +kernel
theorem dX11_acts_116 : decode cX11_acts 116 = .ok (.aload_n 0, 1) := by decide +kernel
theorem dX11_acts_117 : decode cX11_acts 117 = .ok (.iload_n 2, 1) := by decide +kernel
theorem dX11_acts_118 : decode cX11_acts 118 = .ok (.invokevirtual 75, 3) := by decide +kernel
theorem dX11_acts_121 : decode cX11_acts 121 = .ok (.ifCond .eq 8, 3) := by decide +kernel
theorem dX11_acts_124 : decode cX11_acts 124 = .ok (.iload 5, 2) := by decide +kernel
theorem dX11_acts_126 : decode cX11_acts 126 = .ok (.ifCond .le 5, 3) := by decide +kernel
theorem dX11_acts_129 : decode cX11_acts 129 = .ok (.iconst 0, 1) := by decide +kernel
theorem dX11_acts_130 : decode cX11_acts 130 = .ok (.ireturn, 1) := by decide +kernel
theorem dX11_acts_131 : decode cX11_acts 131 = .ok (.aload_n 0, 1) := by decide +kernel
theorem dX11_acts_132 : decode cX11_acts 132 = .ok (.iload_n 2, 1) := by decide +kernel
theorem dX11_acts_133 : decode cX11_acts 133 = .ok (.invokevirtual 224, 3) := by decide +kernel
theorem dX11_acts_136 : decode cX11_acts 136 = .ok (.pop, 1) := by decide +kernel
theorem dX11_acts_137 : decode cX11_acts 137 = .ok (.iconst 1, 1) := by decide +kernel
theorem dX11_acts_138 : decode cX11_acts 138 = .ok (.ireturn, 1) := by decide +kernel
theorem dX11_acts_139 : decode cX11_acts 139 = .ok (.iload_n 2, 1) := by decide +kernel
theorem dX11_acts_140 : decode cX11_acts 140 = .ok (.invokestatic 175, 3) := by decide +kernel
theorem dX11_acts_143 : decode cX11_acts 143 = .ok (.ifCond .eq 11, 3) := by decide +kernel
theorem dX11_acts_146 : decode cX11_acts 146 = .ok (.aload_n 0, 1) := by decide +kernel
theorem dX11_acts_147 : decode cX11_acts 147 = .ok (.iload_n 2, 1) := by decide +kernel
theorem dX11_acts_148 : decode cX11_acts 148 = .ok (.invokevirtual 235, 3) := by decide +kernel
theorem dX11_acts_151 : decode cX11_acts 151 = .ok (.ifCond .ne 5, 3) := by decide +kernel
theorem dX11_acts_154 : decode cX11_acts 154 = .ok (.iconst 0, 1) := by decide +kernel
theorem dX11_acts_155 : decode cX11_acts 155 = .ok (.ireturn, 1) := by decide +kernel
theorem dX11_acts_156 : decode cX11_acts 156 = .ok (.aload_n 0, 1) := by decide +kernel
theorem dX11_acts_157 : decode cX11_acts 157 = .ok (.iload_n 2, 1) := by decide +kernel
theorem dX11_acts_158 : decode cX11_acts 158 = .ok (.iload 5, 2) := by decide +kernel
theorem dX11_acts_160 : decode cX11_acts 160 = .ok (.invokevirtual 238, 3) := by decide +kernel
theorem dX11_acts_163 : decode cX11_acts 163 = .ok (.pop, 1) := by decide +kernel
theorem dX11_acts_164 : decode cX11_acts 164 = .ok (.iconst 1, 1) := by decide +kernel
theorem dX11_acts_165 : decode cX11_acts 165 = .ok (.ireturn, 1) := by decide +kernel
theorem dX11_acts_166 : decode cX11_acts 166 = .ok (.iload_n 2, 1) := by decide +kernel
theorem dX11_acts_167 : decode cX11_acts 167 = .ok (.iload 5, 2) := by decide +kernel
theorem dX11_acts_169 : decode cX11_acts 169 = .ok (.iadd, 1) := by decide +kernel
theorem dX11_acts_170 : decode cX11_acts 170 = .ok (.ifCond .le 5, 3) := by decide +kernel
theorem dX11_acts_173 : decode cX11_acts 173 = .ok (.iconst 0, 1) := by decide +kernel
theorem dX11_acts_174 : decode cX11_acts 174 = .ok (.ireturn, 1) := by decide +kernel
theorem dX11_acts_175 : decode cX11_acts 175 = .ok (.aload_n 0, 1) := by decide +kernel
theorem dX11_acts_176 : decode cX11_acts 176 = .ok (.invokevirtual 241, 3) := by decide +kernel
theorem dX11_acts_179 : decode cX11_acts 179 = .ok (.pop, 1) := by decide +kernel
theorem dX11_acts_180 : decode cX11_acts 180 = .ok (.iconst 1, 1) := by decide +kernel
theorem dX11_acts_181 : decode cX11_acts 181 = .ok (.ireturn, 1) := by decide +kernel
theorem dX11_acts_182 : decode cX11_acts 182 = .ok (.iload_n 2, 1) := by decide +kernel
theorem dX11_acts_183 : decode cX11_acts 183 = .ok (.invokestatic 175, 3) := by decide +kernel
theorem dX11_acts_186 : decode cX11_acts 186 = .ok (.ifCond .eq 26, 3) := by decide +kernel
theorem dX11_acts_189 : decode cX11_acts 189 = .ok (.iload_n 3, 1) := by decide +kernel
theorem dX11_acts_190 : decode cX11_acts 190 = .ok (.invokestatic 153, 3) := by decide +kernel
theorem dX11_acts_193 : decode cX11_acts 193 = .ok (.ifCond .eq 19, 3) := by decide +kernel
theorem dX11_acts_196 : decode cX11_acts 196 = .ok (.iload 4, 2) := by decide +kernel
theorem dX11_acts_198 : decode cX11_acts 198 = .ok (.invokestatic 153, 3) := by decide +kernel
theorem dX11_acts_201 : decode cX11_acts 201 = .ok (.ifCond .eq 11, 3) := by decide +kernel
theorem dX11_acts_204 : decode cX11_acts 204 = .ok (.aload_n 0, 1) := by decide +kernel
theorem dX11_acts_205 : decode cX11_acts 205 = .ok (.iload_n 2, 1) := by decide +kernel
theorem dX11_acts_206 : decode cX11_acts 206 = .ok (.invokevirtual 209, 3) := by decide +kernel
theorem dX11_acts_209 : decode cX11_acts 209 = .ok (.ifCond .ne 5, 3) := by decide +kernel
theorem dX11_acts_212 : decode cX11_acts 212 = .ok (.iconst 0, 1) := by decide +kernel
theorem dX11_acts_213 : decode cX11_acts 213 = .ok (.ireturn, 1) := by decide +kernel
theorem dX11_acts_214 : decode cX11_acts 214 = .ok (.aload_n 0, 1) := by decide +kernel
theorem dX11_acts_215 : decode cX11_acts 215 = .ok (.iload_n 2, 1) := by decide +kernel
theorem dX11_acts_216 : decode cX11_acts 216 = .ok (.iload_n 3, 1) := by decide +kernel
theorem dX11_acts_217 : decode cX11_acts 217 = .ok (.iload 4, 2) := by decide +kernel
theorem dX11_acts_219 : decode cX11_acts 219 = .ok (.invokevirtual 212, 3) := by decide +kernel
theorem dX11_acts_222 : decode cX11_acts 222 = .ok (.pop, 1) := by decide +kernel
theorem dX11_acts_223 : decode cX11_acts 223 = .ok (.iconst 1, 1) := by decide +kernel
theorem dX11_acts_224 : decode cX11_acts 224 = .ok (.ireturn, 1) := by decide +kernel
theorem dX11_succeeds_0 : decode cX11_succeeds 0 = .ok (.iload_n 1, 1) := by decide +kernel
theorem dX11_succeeds_1 : decode cX11_succeeds 1 = .ok (.sipush 1000, 3) := by decide +kernel
theorem dX11_succeeds_4 : decode cX11_succeeds 4 = .ok (.idiv, 1) := by decide +kernel
theorem dX11_succeeds_5 : decode cX11_succeeds 5 = .ok (.istore_n 2, 1) := by decide +kernel
theorem dX11_succeeds_6 : decode cX11_succeeds 6 = .ok (.iload_n 1, 1) := by decide +kernel
theorem dX11_succeeds_7 : decode cX11_succeeds 7 = .ok (.bipush 100, 2) := by decide +kernel
theorem dX11_succeeds_9 : decode cX11_succeeds 9 = .ok (.idiv, 1) := by decide +kernel
theorem dX11_succeeds_10 : decode cX11_succeeds 10 = .ok (.bipush 10, 2) := by decide +kernel
theorem dX11_succeeds_12 : decode cX11_succeeds 12 = .ok (.irem, 1) := by decide +kernel
theorem dX11_succeeds_13 : decode cX11_succeeds 13 = .ok (.istore_n 3, 1) := by decide +kernel
theorem dX11_succeeds_14 : decode cX11_succeeds 14 = .ok (.iload_n 1, 1) := by decide +kernel
theorem dX11_succeeds_15 : decode cX11_succeeds 15 = .ok (.bipush 100, 2) := by decide +kernel
theorem dX11_succeeds_17 : decode cX11_succeeds 17 = .ok (.irem, 1) := by decide +kernel
theorem dX11_succeeds_18 : decode cX11_succeeds 18 = .ok (.istore 4, 2) := by decide +kernel
theorem dX11_succeeds_20 : decode cX11_succeeds 20 = .ok (.iload_n 2, 1) := by decide +kernel
theorem dX11_succeeds_21 : decode cX11_succeeds 21 = .ok (.i2l, 1) := by decide +kernel
theorem dX11_succeeds_22 : decode cX11_succeeds 22 = .ok (.lconst 1, 1) := by decide +kernel
theorem dX11_succeeds_23 : decode cX11_succeeds 23 = .ok (.ldc2_w 178, 3) := by decide +kernel
theorem dX11_succeeds_26 : decode cX11_succeeds 26 = .ok (.invokestatic 63, 3) := by decide +kernel
theorem dX11_succeeds_29 : decode cX11_succeeds 29 = .ok (.ifCond .eq 20, 3) := by decide +kernel
theorem dX11_succeeds_32 : decode cX11_succeeds 32 = .ok (.aload_n 0, 1) := by decide +kernel
theorem dX11_succeeds_33 : decode cX11_succeeds 33 = .ok (.iload_n 2, 1) := by decide +kernel
theorem dX11_succeeds_34 : decode cX11_succeeds 34 = .ok (.iload_n 3, 1) := by decide +kernel
theorem dX11_succeeds_35 : decode cX11_succeeds 35 = .ok (.iload 4, 2) := by decide +kernel
theorem dX11_succeeds_37 : decode cX11_succeeds 37 = .ok (.bipush 10, 2) := by decide +kernel
theorem dX11_succeeds_39 : decode cX11_succeeds 39 = .ok (.idiv, 1) := by decide +kernel
theorem dX11_succeeds_40 : decode cX11_succeeds 40 = .ok (.iload 4, 2) := by decide +kernel
theorem dX11_succeeds_42 : decode cX11_succeeds 42 = .ok (.bipush 10, 2) := by decide +kernel
theorem dX11_succeeds_44 : decode cX11_succeeds 44 = .ok (.irem, 1) := by decide +kernel
theorem dX11_succeeds_45 : decode cX11_succeeds 45 = .ok (.invokevirtual 249, 3) := by decide +kernel
theorem dX11_succeeds_48 : decode cX11_succeeds 48 = .ok (.ireturn, 1) := by decide +kernel
theorem dX11_succeeds_49 : decode cX11_succeeds 49 = .ok (.iload_n 2, 1) := by decide +kernel
theorem dX11_succeeds_50 : decode cX11_succeeds 50 = .ok (.bipush 7, 2) := by decide +kernel
theorem dX11_succeeds_52 : decode cX11_succeeds 52 = .ok (.if_icmp .ne 31, 3) := by decide +kernel
theorem dX11_succeeds_55 : decode cX11_succeeds 55 = .ok (.iload_n 3, 1) := by decide +kernel
theorem dX11_succeeds_56 : decode cX11_succeeds 56 = .ok (.invokestatic 175, 3) := by decide +kernel
theorem dX11_succeeds_59 : decode cX11_succeeds 59 = .ok (.ifCond .eq 22, 3) := by decide +kernel
theorem dX11_succeeds_62 : decode cX11_succeeds 62 = .ok (.aload_n 0, 1) := by decide +kernel
theorem dX11_succeeds_63 : decode cX11_succeeds 63 = .ok (.getfield 7, 3) := by decide +kernel
theorem dX11_succeeds_66 : decode cX11_succeeds 66 = .ok (.iload_n 3, 1) := by decide +kernel
theorem dX11_succeeds_67 : decode cX11_succeeds 67 = .ok (.iconst 2, 1) := by decide +kernel
theorem dX11_succeeds_68 : decode cX11_succeeds 68 = .ok (.invokestatic 71, 3) := by decide +kernel
theorem dX11_succeeds_71 : decode cX11_succeeds 71 = .ok (.iaload, 1) := by decide +kernel
theorem dX11_succeeds_72 : decode cX11_succeeds 72 = .ok (.iload 4, 2) := by decide +kernel
theorem dX11_succeeds_74 : decode cX11_succeeds 74 = .ok (.if_icmp .lt 7, 3) := by decide +kernel
theorem dX11_succeeds_77 : decode cX11_succeeds 77 = .ok (.iconst 1, 1) := by decide +kernel
theorem dX11_succeeds_78 : decode cX11_succeeds 78 = .ok (.goto 4, 3) := by decide +kernel
theorem dX11_succeeds_81 : decode cX11_succeeds 81 = .ok (.iconst 0, 1) := by decide +kernel
theorem dX11_succeeds_82 : decode cX11_succeeds 82 = .ok (.ireturn, 1) := by decide +kernel
theorem dX11_succeeds_83 : decode cX11_succeeds 83 = .ok (.iload_n 2, 1) := by decide +kernel
theorem dX11_succeeds_84 : decode cX11_succeeds 84 = .ok (.bipush 8, 2) := by decide +kernel
theorem dX11_succeeds_86 : decode cX11_succeeds 86 = .ok (.if_icmp .ne 30, 3) := by decide +kernel
theorem dX11_succeeds_89 : decode cX11_succeeds 89 = .ok (.iload_n 3, 1) := by decide +kernel
theorem dX11_succeeds_90 : decode cX11_succeeds 90 = .ok (.invokestatic 153, 3) := by decide +kernel
theorem dX11_succeeds_93 : decode cX11_succeeds 93 = .ok (.ifCond .eq 21, 3) := by decide +kernel
theorem dX11_succeeds_96 : decode cX11_succeeds 96 = .ok (.aload_n 0, 1) := by decide +kernel
theorem dX11_succeeds_97 : decode cX11_succeeds 97 = .ok (.getfield 7, 3) := by decide +kernel
theorem dX11_succeeds_100 : decode cX11_succeeds 100 = .ok (.bipush 50, 2) := by decide +kernel
theorem dX11_succeeds_102 : decode cX11_succeeds 102 = .ok (.iload_n 3, 1) := by decide +kernel
theorem dX11_succeeds_103 : decode cX11_succeeds 103 = .ok (.iadd, 1) := by decide +kernel
theorem dX11_succeeds_104 : decode cX11_succeeds 104 = .ok (.iaload, 1) := by decide +kernel
theorem dX11_succeeds_105 : decode cX11_succeeds 105 = .ok (.iload 4, 2) := by decide +kernel
theorem dX11_succeeds_107 : decode cX11_succeeds 107 = .ok (.if_icmp .lt 7, 3) := by decide +kernel
theorem dX11_succeeds_110 : decode cX11_succeeds 110 = .ok (.iconst 1, 1) := by decide +kernel
theorem dX11_succeeds_111 : decode cX11_succeeds 111 = .ok (.goto 4, 3) := by decide +kernel
theorem dX11_succeeds_114 : decode cX11_succeeds 114 = .ok (.iconst 0, 1) := by decide +kernel
theorem dX11_succeeds_115 : decode cX11_succeeds 115 = .ok (.ireturn, 1) := by decide +kernel
theorem dX11_succeeds_116 : decode cX11_succeeds 116 = .ok (.iload_n 2, 1) := by decide +kernel
theorem dX11_succeeds_117 : decode cX11_succeeds 117 = .ok (.bipush 9, 2) := by decide +kernel
theorem dX11_succeeds_119 : decode cX11_succeeds 119 = .ok (.if_icmp .ne 29, 3) := by decide +kernel
theorem dX11_succeeds_122 : decode cX11_succeeds 122 = .ok (.aload_n 0, 1) := by decide +kernel
theorem dX11_succeeds_123 : decode cX11_succeeds 123 = .ok (.iload_n 3, 1) := by decide +kernel
theorem dX11_succeeds_124 : decode cX11_succeeds 124 = .ok (.invokevirtual 145, 3) := by decide +kernel
theorem dX11_succeeds_127 : decode cX11_succeeds 127 = .ok (.ifCond .eq 21, 3) := by decide +kernel
theorem dX11_succeeds_130 : decode cX11_succeeds 130 = .ok (.aload_n 0, 1) := by decide +kernel
theorem dX11_succeeds_131 : decode cX11_succeeds 131 = .ok (.getfield 7, 3) := by decide +kernel
theorem dX11_succeeds_134 : decode cX11_succeeds 134 = .ok (.bipush 10, 2) := by decide +kernel
theorem dX11_succeeds_136 : decode cX11_succeeds 136 = .ok (.iload_n 3, 1) := by decide +kernel
theorem dX11_succeeds_137 : decode cX11_succeeds 137 = .ok (.iadd, 1) := by decide +kernel
theorem dX11_succeeds_138 : decode cX11_succeeds 138 = .ok (.iaload, 1) := by decide +kernel
theorem dX11_succeeds_139 : decode cX11_succeeds 139 = .ok (.iload 4, 2) := by decide +kernel
theorem dX11_succeeds_141 : decode cX11_succeeds 141 = .ok (.if_icmp .lt 7, 3) := by decide +kernel
theorem dX11_succeeds_144 : decode cX11_succeeds 144 = .ok (.iconst 1, 1) := by decide +kernel
theorem dX11_succeeds_145 : decode cX11_succeeds 145 = .ok (.goto 4, 3) := by decide +kernel
theorem dX11_succeeds_148 : decode cX11_succeeds 148 = .ok (.iconst 0, 1) := by decide +kernel
theorem dX11_succeeds_149 : decode cX11_succeeds 149 = .ok (.ireturn, 1) := by decide +kernel
theorem dX11_runScript_0 : decode cX11_runScript 0 = .ok (.aload_n 0, 1) := by decide +kernel
theorem dX11_runScript_1 : decode cX11_runScript 1 = .ok (.iconst 0, 1) := by decide +kernel
theorem dX11_runScript_2 : decode cX11_runScript 2 = .ok (.putfield 56, 3) := by decide +kernel
theorem dX11_runScript_5 : decode cX11_runScript 5 = .ok (.lconst 1, 1) := by decide +kernel
theorem dX11_runScript_6 : decode cX11_runScript 6 = .ok (.lstore 4, 2) := by decide +kernel
theorem dX11_runScript_8 : decode cX11_runScript 8 = .ok (.iconst 0, 1) := by decide +kernel
theorem dX11_runScript_9 : decode cX11_runScript 9 = .ok (.istore 6, 2) := by decide +kernel
theorem dX11_runScript_11 : decode cX11_runScript 11 = .ok (.iload 6, 2) := by decide +kernel
theorem dX11_runScript_13 : decode cX11_runScript 13 = .ok (.iload_n 1, 1) := by decide +kernel
theorem dX11_runScript_14 : decode cX11_runScript 14 = .ok (.if_icmp .ge 23, 3) := by decide +kernel
theorem dX11_runScript_17 : decode cX11_runScript 17 = .ok (.iload 6, 2) := by decide +kernel
theorem dX11_runScript_19 : decode cX11_runScript 19 = .ok (.iconst 4, 1) := by decide +kernel
theorem dX11_runScript_20 : decode cX11_runScript 20 = .ok (.if_icmp .ge 17, 3) := by decide +kernel
theorem dX11_runScript_23 : decode cX11_runScript 23 = .ok (.lload 4, 2) := by decide +kernel
theorem dX11_runScript_25 : decode cX11_runScript 25 = .ok (.ldc2_w 253, 3) := by decide +kernel
theorem dX11_runScript_28 : decode cX11_runScript 28 = .ok (.lmul, 1) := by decide +kernel
theorem dX11_runScript_29 : decode cX11_runScript 29 = .ok (.lstore 4, 2) := by decide +kernel
theorem dX11_runScript_31 : decode cX11_runScript 31 = .ok (.iinc 6 1, 3) := by decide +kernel
theorem dX11_runScript_34 : decode cX11_runScript 34 = .ok (.goto (-23), 3) := by decide +kernel
theorem dX11_runScript_37 : decode cX11_runScript 37 = .ok (.iload_n 1, 1) := by decide +kernel
theorem dX11_runScript_38 : decode cX11_runScript 38 = .ok (.i2l, 1) := by decide +kernel
theorem dX11_runScript_39 : decode cX11_runScript 39 = .ok (.lconst 1, 1) := by decide +kernel
theorem dX11_runScript_40 : decode cX11_runScript 40 = .ok (.ldc2_w 156, 3) := by decide +kernel
theorem dX11_runScript_43 : decode cX11_runScript 43 = .ok (.invokestatic 63, 3) := by decide +kernel
theorem dX11_runScript_46 : decode cX11_runScript 46 = .ok (.ifCond .eq 16, 3) := by decide +kernel
theorem dX11_runScript_49 : decode cX11_runScript 49 = .ok (.lload_n 2, 1) := by decide +kernel
theorem dX11_runScript_50 : decode cX11_runScript 50 = .ok (.lconst 0, 1) := by decide +kernel
theorem dX11_runScript_51 : decode cX11_runScript 51 = .ok (.lcmp, 1) := by decide +kernel
theorem dX11_runScript_52 : decode cX11_runScript 52 = .ok (.ifCond .lt 10, 3) := by decide +kernel
theorem dX11_runScript_55 : decode cX11_runScript 55 = .ok (.lload_n 2, 1) := by decide +kernel
theorem dX11_runScript_56 : decode cX11_runScript 56 = .ok (.lload 4, 2) := by decide +kernel
theorem dX11_runScript_58 : decode cX11_runScript 58 = .ok (.lcmp, 1) := by decide +kernel
theorem dX11_runScript_59 : decode cX11_runScript 59 = .ok (.ifCond .lt 9, 3) := by decide +kernel
theorem dX11_runScript_62 : decode cX11_runScript 62 = .ok (.aload_n 0, 1) := by decide +kernel
theorem dX11_runScript_63 : decode cX11_runScript 63 = .ok (.iconst 1, 1) := by decide +kernel
theorem dX11_runScript_64 : decode cX11_runScript 64 = .ok (.invokevirtual 81, 3) := by decide +kernel
theorem dX11_runScript_67 : decode cX11_runScript 67 = .ok (.ireturn, 1) := by decide +kernel
theorem dX11_runScript_68 : decode cX11_runScript 68 = .ok (.aload_n 0, 1) := by decide +kernel
theorem dX11_runScript_69 : decode cX11_runScript 69 = .ok (.invokevirtual 255, 3) := by decide +kernel
theorem dX11_runScript_72 : decode cX11_runScript 72 = .ok (.bipush (-9), 2) := by decide +kernel
theorem dX11_runScript_74 : decode cX11_runScript 74 = .ok (.istore 6, 2) := by decide +kernel
theorem dX11_runScript_76 : decode cX11_runScript 76 = .ok (.iconst 0, 1) := by decide +kernel
theorem dX11_runScript_77 : decode cX11_runScript 77 = .ok (.istore 7, 2) := by decide +kernel
theorem dX11_runScript_79 : decode cX11_runScript 79 = .ok (.iload 7, 2) := by decide +kernel
theorem dX11_runScript_81 : decode cX11_runScript 81 = .ok (.iload_n 1, 1) := by decide +kernel
theorem dX11_runScript_82 : decode cX11_runScript 82 = .ok (.if_icmp .ge 47, 3) := by decide +kernel
theorem dX11_runScript_85 : decode cX11_runScript 85 = .ok (.iload 6, 2) := by decide +kernel
theorem dX11_runScript_87 : decode cX11_runScript 87 = .ok (.ifCond .ge 42, 3) := by decide +kernel
theorem dX11_runScript_90 : decode cX11_runScript 90 = .ok (.lload 4, 2) := by decide +kernel
theorem dX11_runScript_92 : decode cX11_runScript 92 = .ok (.ldc2_w 253, 3) := by decide +kernel
theorem dX11_runScript_95 : decode cX11_runScript 95 = .ok (.ldiv, 1) := by decide +kernel
theorem dX11_runScript_96 : decode cX11_runScript 96 = .ok (.lstore 4, 2) := by decide +kernel
theorem dX11_runScript_98 : decode cX11_runScript 98 = .ok (.aload_n 0, 1) := by decide +kernel
theorem dX11_runScript_99 : decode cX11_runScript 99 = .ok (.lload_n 2, 1) := by decide +kernel
theorem dX11_runScript_100 : decode cX11_runScript 100 = .ok (.lload 4, 2) := by decide +kernel
theorem dX11_runScript_102 : decode cX11_runScript 102 = .ok (.ldiv, 1) := by decide +kernel
theorem dX11_runScript_103 : decode cX11_runScript 103 = .ok (.ldc2_w 253, 3) := by decide +kernel
theorem dX11_runScript_106 : decode cX11_runScript 106 = .ok (.lrem, 1) := by decide +kernel
theorem dX11_runScript_107 : decode cX11_runScript 107 = .ok (.l2i, 1) := by decide +kernel
theorem dX11_runScript_108 : decode cX11_runScript 108 = .ok (.invokevirtual 258, 3) := by decide +kernel
theorem dX11_runScript_111 : decode cX11_runScript 111 = .ok (.ifCond .eq 8, 3) := by decide +kernel
theorem dX11_runScript_114 : decode cX11_runScript 114 = .ok (.iload 6, 2) := by decide +kernel
theorem dX11_runScript_116 : decode cX11_runScript 116 = .ok (.goto 5, 3) := by decide +kernel
theorem dX11_runScript_119 : decode cX11_runScript 119 = .ok (.iload 7, 2) := by decide +kernel
theorem dX11_runScript_121 : decode cX11_runScript 121 = .ok (.istore 6, 2) := by decide +kernel
theorem dX11_runScript_123 : decode cX11_runScript 123 = .ok (.iinc 7 1, 3) := by decide +kernel
theorem dX11_runScript_126 : decode cX11_runScript 126 = .ok (.goto (-47), 3) := by decide +kernel
theorem dX11_runScript_129 : decode cX11_runScript 129 = .ok (.aload_n 0, 1) := by decide +kernel
theorem dX11_runScript_130 : decode cX11_runScript 130 = .ok (.invokevirtual 261, 3) := by decide +kernel
theorem dX11_runScript_133 : decode cX11_runScript 133 = .ok (.iload 6, 2) := by decide +kernel
theorem dX11_runScript_135 : decode cX11_runScript 135 = .ok (.ireturn, 1) := by decide +kernel
theorem dX11_evening_0 : decode cX11_evening 0 = .ok (.aload_n 0, 1) := by decide +kernel
theorem dX11_evening_1 : decode cX11_evening 1 = .ok (.getfield 7, 3) := by decide +kernel
theorem dX11_evening_4 : decode cX11_evening 4 = .ok (.iconst 0, 1) := by decide +kernel
theorem dX11_evening_5 : decode cX11_evening 5 = .ok (.iaload, 1) := by decide +kernel
theorem dX11_evening_6 : decode cX11_evening 6 = .ok (.ifCond .ne 5, 3) := by decide +kernel
theorem dX11_evening_9 : decode cX11_evening 9 = .ok (.iconst 0, 1) := by decide +kernel
theorem dX11_evening_10 : decode cX11_evening 10 = .ok (.ireturn, 1) := by decide +kernel
theorem dX11_evening_11 : decode cX11_evening 11 = .ok (.iload_n 1, 1) := by decide +kernel
theorem dX11_evening_12 : decode cX11_evening 12 = .ok (.iconst 4, 1) := by decide +kernel
theorem dX11_evening_13 : decode cX11_evening 13 = .ok (.irem, 1) := by decide +kernel
theorem dX11_evening_14 : decode cX11_evening 14 = .ok (.ifCond .ne 37, 3) := by decide +kernel
theorem dX11_evening_17 : decode cX11_evening 17 = .ok (.aload_n 0, 1) := by decide +kernel
theorem dX11_evening_18 : decode cX11_evening 18 = .ok (.iload_n 1, 1) := by decide +kernel
theorem dX11_evening_19 : decode cX11_evening 19 = .ok (.iconst 4, 1) := by decide +kernel
theorem dX11_evening_20 : decode cX11_evening 20 = .ok (.idiv, 1) := by decide +kernel
theorem dX11_evening_21 : decode cX11_evening 21 = .ok (.aload_n 0, 1) := by decide +kernel
theorem dX11_evening_22 : decode cX11_evening 22 = .ok (.getfield 7, 3) := by decide +kernel
theorem dX11_evening_25 : decode cX11_evening 25 = .ok (.iconst 0, 1) := by decide +kernel
theorem dX11_evening_26 : decode cX11_evening 26 = .ok (.iaload, 1) := by decide +kernel
theorem dX11_evening_27 : decode cX11_evening 27 = .ok (.irem, 1) := by decide +kernel
theorem dX11_evening_28 : decode cX11_evening 28 = .ok (.iload_n 1, 1) := by decide +kernel
theorem dX11_evening_29 : decode cX11_evening 29 = .ok (.sipush 512, 3) := by decide +kernel
theorem dX11_evening_32 : decode cX11_evening 32 = .ok (.idiv, 1) := by decide +kernel
theorem dX11_evening_33 : decode cX11_evening 33 = .ok (.bipush 6, 2) := by decide +kernel
theorem dX11_evening_35 : decode cX11_evening 35 = .ok (.irem, 1) := by decide +kernel
theorem dX11_evening_36 : decode cX11_evening 36 = .ok (.iconst 1, 1) := by decide +kernel
theorem dX11_evening_37 : decode cX11_evening 37 = .ok (.iload_n 1, 1) := by decide +kernel
theorem dX11_evening_38 : decode cX11_evening 38 = .ok (.bipush 32, 2) := by decide +kernel
theorem dX11_evening_40 : decode cX11_evening 40 = .ok (.idiv, 1) := by decide +kernel
theorem dX11_evening_41 : decode cX11_evening 41 = .ok (.bipush 9, 2) := by decide +kernel
theorem dX11_evening_43 : decode cX11_evening 43 = .ok (.irem, 1) := by decide +kernel
theorem dX11_evening_44 : decode cX11_evening 44 = .ok (.iadd, 1) := by decide +kernel
theorem dX11_evening_45 : decode cX11_evening 45 = .ok (.invokevirtual 205, 3) := by decide +kernel
theorem dX11_evening_48 : decode cX11_evening 48 = .ok (.pop, 1) := by decide +kernel
theorem dX11_evening_49 : decode cX11_evening 49 = .ok (.iconst 0, 1) := by decide +kernel
theorem dX11_evening_50 : decode cX11_evening 50 = .ok (.ireturn, 1) := by decide +kernel
theorem dX11_evening_51 : decode cX11_evening 51 = .ok (.iload_n 1, 1) := by decide +kernel
theorem dX11_evening_52 : decode cX11_evening 52 = .ok (.bipush 64, 2) := by decide +kernel
theorem dX11_evening_54 : decode cX11_evening 54 = .ok (.idiv, 1) := by decide +kernel
theorem dX11_evening_55 : decode cX11_evening 55 = .ok (.iconst 3, 1) := by decide +kernel
theorem dX11_evening_56 : decode cX11_evening 56 = .ok (.irem, 1) := by decide +kernel
theorem dX11_evening_57 : decode cX11_evening 57 = .ok (.istore_n 2, 1) := by decide +kernel
theorem dX11_evening_58 : decode cX11_evening 58 = .ok (.aload_n 0, 1) := by decide +kernel
theorem dX11_evening_59 : decode cX11_evening 59 = .ok (.iload_n 2, 1) := by decide +kernel
theorem dX11_evening_60 : decode cX11_evening 60 = .ok (.invokevirtual 75, 3) := by decide +kernel
theorem dX11_evening_63 : decode cX11_evening 63 = .ok (.ifCond .ne 5, 3) := by decide +kernel
theorem dX11_evening_66 : decode cX11_evening 66 = .ok (.iconst 0, 1) := by decide +kernel
theorem dX11_evening_67 : decode cX11_evening 67 = .ok (.ireturn, 1) := by decide +kernel
theorem dX11_evening_68 : decode cX11_evening 68 = .ok (.aload_n 0, 1) := by decide +kernel
theorem dX11_evening_69 : decode cX11_evening 69 = .ok (.dup, 1) := by decide +kernel
theorem dX11_evening_70 : decode cX11_evening 70 = .ok (.getfield 264, 3) := by decide +kernel
theorem dX11_evening_73 : decode cX11_evening 73 = .ok (.aload_n 0, 1) := by decide +kernel
theorem dX11_evening_74 : decode cX11_evening 74 = .ok (.iload_n 2, 1) := by decide +kernel
theorem dX11_evening_75 : decode cX11_evening 75 = .ok (.iconst 1, 1) := by decide +kernel
theorem dX11_evening_76 : decode cX11_evening 76 = .ok (.iload_n 1, 1) := by decide +kernel
theorem dX11_evening_77 : decode cX11_evening 77 = .ok (.iconst 4, 1) := by decide +kernel
theorem dX11_evening_78 : decode cX11_evening 78 = .ok (.idiv, 1) := by decide +kernel
theorem dX11_evening_79 : decode cX11_evening 79 = .ok (.bipush 9, 2) := by decide +kernel
theorem dX11_evening_81 : decode cX11_evening 81 = .ok (.irem, 1) := by decide +kernel
theorem dX11_evening_82 : decode cX11_evening 82 = .ok (.iadd, 1) := by decide +kernel
theorem dX11_evening_83 : decode cX11_evening 83 = .ok (.invokevirtual 218, 3) := by decide +kernel
theorem dX11_evening_86 : decode cX11_evening 86 = .ok (.iadd, 1) := by decide +kernel
theorem dX11_evening_87 : decode cX11_evening 87 = .ok (.putfield 264, 3) := by decide +kernel
theorem dX11_evening_90 : decode cX11_evening 90 = .ok (.aload_n 0, 1) := by decide +kernel
theorem dX11_evening_91 : decode cX11_evening 91 = .ok (.iload_n 2, 1) := by decide +kernel
theorem dX11_evening_92 : decode cX11_evening 92 = .ok (.invokevirtual 235, 3) := by decide +kernel
theorem dX11_evening_95 : decode cX11_evening 95 = .ok (.ifCond .ne 5, 3) := by decide +kernel
theorem dX11_evening_98 : decode cX11_evening 98 = .ok (.iconst 0, 1) := by decide +kernel
theorem dX11_evening_99 : decode cX11_evening 99 = .ok (.ireturn, 1) := by decide +kernel
theorem dX11_evening_100 : decode cX11_evening 100 = .ok (.aload_n 0, 1) := by decide +kernel
theorem dX11_evening_101 : decode cX11_evening 101 = .ok (.iload_n 2, 1) := by decide +kernel
theorem dX11_evening_102 : decode cX11_evening 102 = .ok (.bipush 100, 2) := by decide +kernel
theorem dX11_evening_104 : decode cX11_evening 104 = .ok (.invokevirtual 238, 3) := by decide +kernel
theorem dX11_evening_107 : decode cX11_evening 107 = .ok (.pop, 1) := by decide +kernel
theorem dX11_evening_108 : decode cX11_evening 108 = .ok (.iconst 1, 1) := by decide +kernel
theorem dX11_evening_109 : decode cX11_evening 109 = .ok (.ireturn, 1) := by decide +kernel
theorem dX11_simulate_0 : decode cX11_simulate 0 = .ok (.aload_n 0, 1) := by decide +kernel
theorem dX11_simulate_1 : decode cX11_simulate 1 = .ok (.iconst 0, 1) := by decide +kernel
theorem dX11_simulate_2 : decode cX11_simulate 2 = .ok (.putfield 56, 3) := by decide +kernel
theorem dX11_simulate_5 : decode cX11_simulate 5 = .ok (.iload_n 3, 1) := by decide +kernel
theorem dX11_simulate_6 : decode cX11_simulate 6 = .ok (.i2l, 1) := by decide +kernel
theorem dX11_simulate_7 : decode cX11_simulate 7 = .ok (.lconst 1, 1) := by decide +kernel
theorem dX11_simulate_8 : decode cX11_simulate 8 = .ok (.ldc2_w 203, 3) := by decide +kernel
theorem dX11_simulate_11 : decode cX11_simulate 11 = .ok (.invokestatic 63, 3) := by decide +kernel
theorem dX11_simulate_14 : decode cX11_simulate 14 = .ok (.ifCond .ne 9, 3) := by decide +kernel
theorem dX11_simulate_17 : decode cX11_simulate 17 = .ok (.aload_n 0, 1) := by decide +kernel
theorem dX11_simulate_18 : decode cX11_simulate 18 = .ok (.iconst 1, 1) := by decide +kernel
theorem dX11_simulate_19 : decode cX11_simulate 19 = .ok (.invokevirtual 81, 3) := by decide +kernel
theorem dX11_simulate_22 : decode cX11_simulate 22 = .ok (.ireturn, 1) := by decide +kernel
theorem dX11_simulate_23 : decode cX11_simulate 23 = .ok (.aload_n 0, 1) := by decide +kernel
theorem dX11_simulate_24 : decode cX11_simulate 24 = .ok (.invokevirtual 255, 3) := by decide +kernel
theorem dX11_simulate_27 : decode cX11_simulate 27 = .ok (.lload_n 1, 1) := by decide +kernel
theorem dX11_simulate_28 : decode cX11_simulate 28 = .ok (.lstore 4, 2) := by decide +kernel
theorem dX11_simulate_30 : decode cX11_simulate 30 = .ok (.iconst 0, 1) := by decide +kernel
theorem dX11_simulate_31 : decode cX11_simulate 31 = .ok (.istore 6, 2) := by decide +kernel
theorem dX11_simulate_33 : decode cX11_simulate 33 = .ok (.aload_n 0, 1) := by decide +kernel
theorem dX11_simulate_34 : decode cX11_simulate 34 = .ok (.iconst 0, 1) := by decide +kernel
theorem dX11_simulate_35 : decode cX11_simulate 35 = .ok (.putfield 264, 3) := by decide +kernel
theorem dX11_simulate_38 : decode cX11_simulate 38 = .ok (.iconst 0, 1) := by decide +kernel
theorem dX11_simulate_39 : decode cX11_simulate 39 = .ok (.istore 7, 2) := by decide +kernel
theorem dX11_simulate_41 : decode cX11_simulate 41 = .ok (.iload 7, 2) := by decide +kernel
theorem dX11_simulate_43 : decode cX11_simulate 43 = .ok (.iload_n 3, 1) := by decide +kernel
theorem dX11_simulate_44 : decode cX11_simulate 44 = .ok (.if_icmp .ge 36, 3) := by decide +kernel
theorem dX11_simulate_47 : decode cX11_simulate 47 = .ok (.lload 4, 2) := by decide +kernel
theorem dX11_simulate_49 : decode cX11_simulate 49 = .ok (.ldc2_w 267, 3) := by decide +kernel
theorem dX11_simulate_52 : decode cX11_simulate 52 = .ok (.lmul, 1) := by decide +kernel
theorem dX11_simulate_53 : decode cX11_simulate 53 = .ok (.ldc2_w 269, 3) := by decide +kernel
theorem dX11_simulate_56 : decode cX11_simulate 56 = .ok (.ladd, 1) := by decide +kernel
theorem dX11_simulate_57 : decode cX11_simulate 57 = .ok (.lstore 4, 2) := by decide +kernel
theorem dX11_simulate_59 : decode cX11_simulate 59 = .ok (.iload 6, 2) := by decide +kernel
theorem dX11_simulate_61 : decode cX11_simulate 61 = .ok (.aload_n 0, 1) := by decide +kernel
theorem dX11_simulate_62 : decode cX11_simulate 62 = .ok (.lload 4, 2) := by decide +kernel
theorem dX11_simulate_64 : decode cX11_simulate 64 = .ok (.bipush 33, 2) := by decide +kernel
theorem dX11_simulate_66 : decode cX11_simulate 66 = .ok (.lushr, 1) := by decide +kernel
theorem dX11_simulate_67 : decode cX11_simulate 67 = .ok (.l2i, 1) := by decide +kernel
theorem dX11_simulate_68 : decode cX11_simulate 68 = .ok (.invokevirtual 271, 3) := by decide +kernel
theorem dX11_simulate_71 : decode cX11_simulate 71 = .ok (.iadd, 1) := by decide +kernel
theorem dX11_simulate_72 : decode cX11_simulate 72 = .ok (.istore 6, 2) := by decide +kernel
theorem dX11_simulate_74 : decode cX11_simulate 74 = .ok (.iinc 7 1, 3) := by decide +kernel
theorem dX11_simulate_77 : decode cX11_simulate 77 = .ok (.goto (-36), 3) := by decide +kernel
theorem dX11_simulate_80 : decode cX11_simulate 80 = .ok (.aload_n 0, 1) := by decide +kernel
theorem dX11_simulate_81 : decode cX11_simulate 81 = .ok (.invokevirtual 261, 3) := by decide +kernel
theorem dX11_simulate_84 : decode cX11_simulate 84 = .ok (.sipush 1000, 3) := by decide +kernel
theorem dX11_simulate_87 : decode cX11_simulate 87 = .ok (.iload 6, 2) := by decide +kernel
theorem dX11_simulate_89 : decode cX11_simulate 89 = .ok (.imul, 1) := by decide +kernel
theorem dX11_simulate_90 : decode cX11_simulate 90 = .ok (.aload_n 0, 1) := by decide +kernel
theorem dX11_simulate_91 : decode cX11_simulate 91 = .ok (.getfield 264, 3) := by decide +kernel
theorem dX11_simulate_94 : decode cX11_simulate 94 = .ok (.sipush 999, 3) := by decide +kernel
theorem dX11_simulate_97 : decode cX11_simulate 97 = .ok (.if_icmp .le 9, 3) := by decide +kernel
theorem dX11_simulate_100 : decode cX11_simulate 100 = .ok (.sipush 999, 3) := by decide +kernel
theorem dX11_simulate_103 : decode cX11_simulate 103 = .ok (.goto 7, 3) := by decide +kernel
theorem dX11_simulate_106 : decode cX11_simulate 106 = .ok (.aload_n 0, 1) := by decide +kernel
theorem dX11_simulate_107 : decode cX11_simulate 107 = .ok (.getfield 264, 3) := by decide +kernel
theorem dX11_simulate_110 : decode cX11_simulate 110 = .ok (.iadd, 1) := by decide +kernel
theorem dX11_simulate_111 : decode cX11_simulate 111 = .ok (.ireturn, 1) := by decide +kernel
theorem dX11_save_0 : decode cX11_save 0 = .ok (.aload_n 0, 1) := by decide +kernel
theorem dX11_save_1 : decode cX11_save 1 = .ok (.iconst 0, 1) := by decide +kernel
theorem dX11_save_2 : decode cX11_save 2 = .ok (.putfield 56, 3) := by decide +kernel
theorem dX11_save_5 : decode cX11_save 5 = .ok (.iload_n 1, 1) := by decide +kernel
theorem dX11_save_6 : decode cX11_save 6 = .ok (.i2l, 1) := by decide +kernel
theorem dX11_save_7 : decode cX11_save 7 = .ok (.lconst 0, 1) := by decide +kernel
theorem dX11_save_8 : decode cX11_save 8 = .ok (.lconst 1, 1) := by decide +kernel
theorem dX11_save_9 : decode cX11_save 9 = .ok (.invokestatic 63, 3) := by decide +kernel
theorem dX11_save_12 : decode cX11_save 12 = .ok (.ifCond .ne 9, 3) := by decide +kernel
theorem dX11_save_15 : decode cX11_save 15 = .ok (.aload_n 0, 1) := by decide +kernel
theorem dX11_save_16 : decode cX11_save 16 = .ok (.iconst 1, 1) := by decide +kernel
theorem dX11_save_17 : decode cX11_save 17 = .ok (.invokevirtual 81, 3) := by decide +kernel
theorem dX11_save_20 : decode cX11_save 20 = .ok (.ireturn, 1) := by decide +kernel
theorem dX11_save_21 : decode cX11_save 21 = .ok (.iconst 0, 1) := by decide +kernel
theorem dX11_save_22 : decode cX11_save 22 = .ok (.istore_n 2, 1) := by decide +kernel
theorem dX11_save_23 : decode cX11_save 23 = .ok (.iload_n 2, 1) := by decide +kernel
theorem dX11_save_24 : decode cX11_save 24 = .ok (.sipush 866, 3) := by decide +kernel
theorem dX11_save_27 : decode cX11_save 27 = .ok (.if_icmp .ge 27, 3) := by decide +kernel
theorem dX11_save_30 : decode cX11_save 30 = .ok (.aload_n 0, 1) := by decide +kernel
theorem dX11_save_31 : decode cX11_save 31 = .ok (.getfield 19, 3) := by decide +kernel
theorem dX11_save_34 : decode cX11_save 34 = .ok (.sipush 866, 3) := by decide +kernel
theorem dX11_save_37 : decode cX11_save 37 = .ok (.iload_n 1, 1) := by decide +kernel
theorem dX11_save_38 : decode cX11_save 38 = .ok (.imul, 1) := by decide +kernel
theorem dX11_save_39 : decode cX11_save 39 = .ok (.iload_n 2, 1) := by decide +kernel
theorem dX11_save_40 : decode cX11_save 40 = .ok (.iadd, 1) := by decide +kernel
theorem dX11_save_41 : decode cX11_save 41 = .ok (.aload_n 0, 1) := by decide +kernel
theorem dX11_save_42 : decode cX11_save 42 = .ok (.getfield 7, 3) := by decide +kernel
theorem dX11_save_45 : decode cX11_save 45 = .ok (.iload_n 2, 1) := by decide +kernel
theorem dX11_save_46 : decode cX11_save 46 = .ok (.iaload, 1) := by decide +kernel
theorem dX11_save_47 : decode cX11_save 47 = .ok (.iastore, 1) := by decide +kernel
theorem dX11_save_48 : decode cX11_save 48 = .ok (.iinc 2 1, 3) := by decide +kernel
theorem dX11_save_51 : decode cX11_save 51 = .ok (.goto (-28), 3) := by decide +kernel
theorem dX11_save_54 : decode cX11_save 54 = .ok (.aload_n 0, 1) := by decide +kernel
theorem dX11_save_55 : decode cX11_save 55 = .ok (.getfield 22, 3) := by decide +kernel
theorem dX11_save_58 : decode cX11_save 58 = .ok (.iload_n 1, 1) := by decide +kernel
theorem dX11_save_59 : decode cX11_save 59 = .ok (.iconst 1, 1) := by decide +kernel
theorem dX11_save_60 : decode cX11_save 60 = .ok (.bastore, 1) := by decide +kernel
theorem dX11_save_61 : decode cX11_save 61 = .ok (.aload_n 0, 1) := by decide +kernel
theorem dX11_save_62 : decode cX11_save 62 = .ok (.getfield 7, 3) := by decide +kernel
theorem dX11_save_65 : decode cX11_save 65 = .ok (.iconst 0, 1) := by decide +kernel
theorem dX11_save_66 : decode cX11_save 66 = .ok (.iaload, 1) := by decide +kernel
theorem dX11_save_67 : decode cX11_save 67 = .ok (.ireturn, 1) := by decide +kernel
theorem dX11_restore_0 : decode cX11_restore 0 = .ok (.aload_n 0, 1) := by decide +kernel
theorem dX11_restore_1 : decode cX11_restore 1 = .ok (.iconst 0, 1) := by decide +kernel
theorem dX11_restore_2 : decode cX11_restore 2 = .ok (.putfield 56, 3) := by decide +kernel
theorem dX11_restore_5 : decode cX11_restore 5 = .ok (.iload_n 1, 1) := by decide +kernel
theorem dX11_restore_6 : decode cX11_restore 6 = .ok (.i2l, 1) := by decide +kernel
theorem dX11_restore_7 : decode cX11_restore 7 = .ok (.lconst 0, 1) := by decide +kernel
theorem dX11_restore_8 : decode cX11_restore 8 = .ok (.lconst 1, 1) := by decide +kernel
theorem dX11_restore_9 : decode cX11_restore 9 = .ok (.invokestatic 63, 3) := by decide +kernel
theorem dX11_restore_12 : decode cX11_restore 12 = .ok (.ifCond .ne 9, 3) := by decide +kernel
theorem dX11_restore_15 : decode cX11_restore 15 = .ok (.aload_n 0, 1) := by decide +kernel
theorem dX11_restore_16 : decode cX11_restore 16 = .ok (.iconst 1, 1) := by decide +kernel
theorem dX11_restore_17 : decode cX11_restore 17 = .ok (.invokevirtual 81, 3) := by decide +kernel
theorem dX11_restore_20 : decode cX11_restore 20 = .ok (.ireturn, 1) := by decide +kernel
theorem dX11_restore_21 : decode cX11_restore 21 = .ok (.aload_n 0, 1) := by decide +kernel
theorem dX11_restore_22 : decode cX11_restore 22 = .ok (.getfield 22, 3) := by decide +kernel
theorem dX11_restore_25 : decode cX11_restore 25 = .ok (.iload_n 1, 1) := by decide +kernel
theorem dX11_restore_26 : decode cX11_restore 26 = .ok (.baload, 1) := by decide +kernel
theorem dX11_restore_27 : decode cX11_restore 27 = .ok (.ifCond .ne 9, 3) := by decide +kernel
theorem dX11_restore_30 : decode cX11_restore 30 = .ok (.aload_n 0, 1) := by decide +kernel
theorem dX11_restore_31 : decode cX11_restore 31 = .ok (.iconst 2, 1) := by decide +kernel
theorem dX11_restore_32 : decode cX11_restore 32 = .ok (.invokevirtual 81, 3) := by decide +kernel
theorem dX11_restore_35 : decode cX11_restore 35 = .ok (.ireturn, 1) := by decide +kernel
theorem dX11_restore_36 : decode cX11_restore 36 = .ok (.iconst 0, 1) := by decide +kernel
theorem dX11_restore_37 : decode cX11_restore 37 = .ok (.istore_n 2, 1) := by decide +kernel
theorem dX11_restore_38 : decode cX11_restore 38 = .ok (.iload_n 2, 1) := by decide +kernel
theorem dX11_restore_39 : decode cX11_restore 39 = .ok (.sipush 866, 3) := by decide +kernel
theorem dX11_restore_42 : decode cX11_restore 42 = .ok (.if_icmp .ge 27, 3) := by decide +kernel
theorem dX11_restore_45 : decode cX11_restore 45 = .ok (.aload_n 0, 1) := by decide +kernel
theorem dX11_restore_46 : decode cX11_restore 46 = .ok (.getfield 7, 3) := by decide +kernel
theorem dX11_restore_49 : decode cX11_restore 49 = .ok (.iload_n 2, 1) := by decide +kernel
theorem dX11_restore_50 : decode cX11_restore 50 = .ok (.aload_n 0, 1) := by decide +kernel
theorem dX11_restore_51 : decode cX11_restore 51 = .ok (.getfield 19, 3) := by decide +kernel
theorem dX11_restore_54 : decode cX11_restore 54 = .ok (.sipush 866, 3) := by decide +kernel
theorem dX11_restore_57 : decode cX11_restore 57 = .ok (.iload_n 1, 1) := by decide +kernel
theorem dX11_restore_58 : decode cX11_restore 58 = .ok (.imul, 1) := by decide +kernel
theorem dX11_restore_59 : decode cX11_restore 59 = .ok (.iload_n 2, 1) := by decide +kernel
theorem dX11_restore_60 : decode cX11_restore 60 = .ok (.iadd, 1) := by decide +kernel
theorem dX11_restore_61 : decode cX11_restore 61 = .ok (.iaload, 1) := by decide +kernel
theorem dX11_restore_62 : decode cX11_restore 62 = .ok (.iastore, 1) := by decide +kernel
theorem dX11_restore_63 : decode cX11_restore 63 = .ok (.iinc 2 1, 3) := by decide +kernel
theorem dX11_restore_66 : decode cX11_restore 66 = .ok (.goto (-28), 3) := by decide +kernel
theorem dX11_restore_69 : decode cX11_restore 69 = .ok (.aload_n 0, 1) := by decide +kernel
theorem dX11_restore_70 : decode cX11_restore 70 = .ok (.iconst 0, 1) := by decide +kernel
theorem dX11_restore_71 : decode cX11_restore 71 = .ok (.putfield 60, 3) := by decide +kernel
theorem dX11_restore_74 : decode cX11_restore 74 = .ok (.aload_n 0, 1) := by decide +kernel
theorem dX11_restore_75 : decode cX11_restore 75 = .ok (.getfield 7, 3) := by decide +kernel
theorem dX11_restore_78 : decode cX11_restore 78 = .ok (.iconst 0, 1) := by decide +kernel
theorem dX11_restore_79 : decode cX11_restore 79 = .ok (.iaload, 1) := by decide +kernel
theorem dX11_restore_80 : decode cX11_restore 80 = .ok (.ireturn, 1) := by decide +kernel
theorem dJ6_bitCount_0f7a4_0 : decode cJ6_bitCount_0f7a4 0 = .ok (.iload_n 0, 1) := by decide +kernel
theorem dJ6_bitCount_0f7a4_1 : decode cJ6_bitCount_0f7a4 1 = .ok (.iload_n 0, 1) := by decide +kernel
theorem dJ6_bitCount_0f7a4_2 : decode cJ6_bitCount_0f7a4 2 = .ok (.iconst 1, 1) := by decide +kernel
theorem dJ6_bitCount_0f7a4_3 : decode cJ6_bitCount_0f7a4 3 = .ok (.iushr, 1) := by decide +kernel
theorem dJ6_bitCount_0f7a4_4 : decode cJ6_bitCount_0f7a4 4 = .ok (.ldc_w 265, 3) := by decide +kernel
theorem dJ6_bitCount_0f7a4_7 : decode cJ6_bitCount_0f7a4 7 = .ok (.iand, 1) := by decide +kernel
theorem dJ6_bitCount_0f7a4_8 : decode cJ6_bitCount_0f7a4 8 = .ok (.isub, 1) := by decide +kernel
theorem dJ6_bitCount_0f7a4_9 : decode cJ6_bitCount_0f7a4 9 = .ok (.istore_n 0, 1) := by decide +kernel
theorem dJ6_bitCount_0f7a4_10 : decode cJ6_bitCount_0f7a4 10 = .ok (.iload_n 0, 1) := by decide +kernel
theorem dJ6_bitCount_0f7a4_11 : decode cJ6_bitCount_0f7a4 11 = .ok (.ldc_w 266, 3) := by decide +kernel
theorem dJ6_bitCount_0f7a4_14 : decode cJ6_bitCount_0f7a4 14 = .ok (.iand, 1) := by decide +kernel
theorem dJ6_bitCount_0f7a4_15 : decode cJ6_bitCount_0f7a4 15 = .ok (.iload_n 0, 1) := by decide +kernel
theorem dJ6_bitCount_0f7a4_16 : decode cJ6_bitCount_0f7a4 16 = .ok (.iconst 2, 1) := by decide +kernel
theorem dJ6_bitCount_0f7a4_17 : decode cJ6_bitCount_0f7a4 17 = .ok (.iushr, 1) := by decide +kernel
theorem dJ6_bitCount_0f7a4_18 : decode cJ6_bitCount_0f7a4 18 = .ok (.ldc_w 266, 3) := by decide +kernel
theorem dJ6_bitCount_0f7a4_21 : decode cJ6_bitCount_0f7a4 21 = .ok (.iand, 1) := by decide +kernel
theorem dJ6_bitCount_0f7a4_22 : decode cJ6_bitCount_0f7a4 22 = .ok (.iadd, 1) := by decide +kernel
theorem dJ6_bitCount_0f7a4_23 : decode cJ6_bitCount_0f7a4 23 = .ok (.istore_n 0, 1) := by decide +kernel
theorem dJ6_bitCount_0f7a4_24 : decode cJ6_bitCount_0f7a4 24 = .ok (.iload_n 0, 1) := by decide +kernel
theorem dJ6_bitCount_0f7a4_25 : decode cJ6_bitCount_0f7a4 25 = .ok (.iload_n 0, 1) := by decide +kernel
theorem dJ6_bitCount_0f7a4_26 : decode cJ6_bitCount_0f7a4 26 = .ok (.iconst 4, 1) := by decide +kernel
theorem dJ6_bitCount_0f7a4_27 : decode cJ6_bitCount_0f7a4 27 = .ok (.iushr, 1) := by decide +kernel
theorem dJ6_bitCount_0f7a4_28 : decode cJ6_bitCount_0f7a4 28 = .ok (.iadd, 1) := by decide +kernel
theorem dJ6_bitCount_0f7a4_29 : decode cJ6_bitCount_0f7a4 29 = .ok (.ldc_w 267, 3) := by decide +kernel
theorem dJ6_bitCount_0f7a4_32 : decode cJ6_bitCount_0f7a4 32 = .ok (.iand, 1) := by decide +kernel
theorem dJ6_bitCount_0f7a4_33 : decode cJ6_bitCount_0f7a4 33 = .ok (.istore_n 0, 1) := by decide +kernel
theorem dJ6_bitCount_0f7a4_34 : decode cJ6_bitCount_0f7a4 34 = .ok (.iload_n 0, 1) := by decide +kernel
theorem dJ6_bitCount_0f7a4_35 : decode cJ6_bitCount_0f7a4 35 = .ok (.iload_n 0, 1) := by decide +kernel
theorem dJ6_bitCount_0f7a4_36 : decode cJ6_bitCount_0f7a4 36 = .ok (.bipush 8, 2) := by decide +kernel
theorem dJ6_bitCount_0f7a4_38 : decode cJ6_bitCount_0f7a4 38 = .ok (.iushr, 1) := by decide +kernel
theorem dJ6_bitCount_0f7a4_39 : decode cJ6_bitCount_0f7a4 39 = .ok (.iadd, 1) := by decide +kernel
theorem dJ6_bitCount_0f7a4_40 : decode cJ6_bitCount_0f7a4 40 = .ok (.istore_n 0, 1) := by decide +kernel
theorem dJ6_bitCount_0f7a4_41 : decode cJ6_bitCount_0f7a4 41 = .ok (.iload_n 0, 1) := by decide +kernel
theorem dJ6_bitCount_0f7a4_42 : decode cJ6_bitCount_0f7a4 42 = .ok (.iload_n 0, 1) := by decide +kernel
theorem dJ6_bitCount_0f7a4_43 : decode cJ6_bitCount_0f7a4 43 = .ok (.bipush 16, 2) := by decide +kernel
theorem dJ6_bitCount_0f7a4_45 : decode cJ6_bitCount_0f7a4 45 = .ok (.iushr, 1) := by decide +kernel
theorem dJ6_bitCount_0f7a4_46 : decode cJ6_bitCount_0f7a4 46 = .ok (.iadd, 1) := by decide +kernel
theorem dJ6_bitCount_0f7a4_47 : decode cJ6_bitCount_0f7a4 47 = .ok (.istore_n 0, 1) := by decide +kernel
theorem dJ6_bitCount_0f7a4_48 : decode cJ6_bitCount_0f7a4 48 = .ok (.iload_n 0, 1) := by decide +kernel
theorem dJ6_bitCount_0f7a4_49 : decode cJ6_bitCount_0f7a4 49 = .ok (.bipush 63, 2) := by decide +kernel
theorem dJ6_bitCount_0f7a4_51 : decode cJ6_bitCount_0f7a4 51 = .ok (.iand, 1) := by decide +kernel
theorem dJ6_bitCount_0f7a4_52 : decode cJ6_bitCount_0f7a4 52 = .ok (.ireturn, 1) := by decide +kernel
theorem dJ9_max_7cf53_0 : decode cJ9_max_7cf53 0 = .ok (.iload_n 0, 1) := by decide +kernel
theorem dJ9_max_7cf53_1 : decode cJ9_max_7cf53 1 = .ok (.iload_n 1, 1) := by decide +kernel
theorem dJ9_max_7cf53_2 : decode cJ9_max_7cf53 2 = .ok (.if_icmp .lt 7, 3) := by decide +kernel
theorem dJ9_max_7cf53_5 : decode cJ9_max_7cf53 5 = .ok (.iload_n 0, 1) := by decide +kernel
theorem dJ9_max_7cf53_6 : decode cJ9_max_7cf53 6 = .ok (.goto 4, 3) := by decide +kernel
theorem dJ9_max_7cf53_9 : decode cJ9_max_7cf53 9 = .ok (.iload_n 1, 1) := by decide +kernel
theorem dJ9_max_7cf53_10 : decode cJ9_max_7cf53 10 = .ok (.ireturn, 1) := by decide +kernel
theorem dJ9_min_7cf53_0 : decode cJ9_min_7cf53 0 = .ok (.iload_n 0, 1) := by decide +kernel
theorem dJ9_min_7cf53_1 : decode cJ9_min_7cf53 1 = .ok (.iload_n 1, 1) := by decide +kernel
theorem dJ9_min_7cf53_2 : decode cJ9_min_7cf53 2 = .ok (.if_icmp .gt 7, 3) := by decide +kernel
theorem dJ9_min_7cf53_5 : decode cJ9_min_7cf53 5 = .ok (.iload_n 0, 1) := by decide +kernel
theorem dJ9_min_7cf53_6 : decode cJ9_min_7cf53 6 = .ok (.goto 4, 3) := by decide +kernel
theorem dJ9_min_7cf53_9 : decode cJ9_min_7cf53 9 = .ok (.iload_n 1, 1) := by decide +kernel
theorem dJ9_min_7cf53_10 : decode cJ9_min_7cf53 10 = .ok (.ireturn, 1) := by decide +kernel
theorem dL_append_0 : decode cL_append 0 = .ok (.aload_n 2, 1) := by decide +kernel
theorem dL_append_1 : decode cL_append 1 = .ok (.iconst 0, 1) := by decide +kernel
theorem dL_append_2 : decode cL_append 2 = .ok (.aload_n 0, 1) := by decide +kernel
theorem dL_append_3 : decode cL_append 3 = .ok (.iload_n 1, 1) := by decide +kernel
theorem dL_append_4 : decode cL_append 4 = .ok (.invokevirtual 7, 3) := by decide +kernel
theorem dL_append_7 : decode cL_append 7 = .ok (.i2l, 1) := by decide +kernel
theorem dL_append_8 : decode cL_append 8 = .ok (.lastore, 1) := by decide +kernel
theorem dL_append_9 : decode cL_append 9 = .ok (.goto 9, 3) := by decide +kernel
theorem dL_append_12 : decode cL_append 12 = .ok (.astore_n 3, 1) := by decide +kernel
theorem dL_append_13 : decode cL_append 13 = .ok (.iconst 1, 1) := by decide +kernel
theorem dL_append_14 : decode cL_append 14 = .ok (.ireturn, 1) := by decide +kernel
theorem dL_append_15 : decode cL_append 15 = .ok (.astore_n 3, 1) := by decide +kernel
theorem dL_append_16 : decode cL_append 16 = .ok (.iconst 2, 1) := by decide +kernel
theorem dL_append_17 : decode cL_append 17 = .ok (.ireturn, 1) := by decide +kernel
theorem dL_append_18 : decode cL_append 18 = .ok (.iconst 0, 1) := by decide +kernel
theorem dL_append_19 : decode cL_append 19 = .ok (.ireturn, 1) := by decide +kernel
theorem dL_about_0 : decode cL_about 0 = .ok (.aload_n 2, 1) := by decide +kernel
theorem dL_about_1 : decode cL_about 1 = .ok (.iconst 0, 1) := by decide +kernel
theorem dL_about_2 : decode cL_about 2 = .ok (.aload_n 0, 1) := by decide +kernel
theorem dL_about_3 : decode cL_about 3 = .ok (.iload_n 1, 1) := by decide +kernel
theorem dL_about_4 : decode cL_about 4 = .ok (.invokevirtual 17, 3) := by decide +kernel
theorem dL_about_7 : decode cL_about 7 = .ok (.i2l, 1) := by decide +kernel
theorem dL_about_8 : decode cL_about 8 = .ok (.lastore, 1) := by decide +kernel
theorem dL_about_9 : decode cL_about 9 = .ok (.goto 6, 3) := by decide +kernel
theorem dL_about_12 : decode cL_about 12 = .ok (.astore_n 3, 1) := by decide +kernel
theorem dL_about_13 : decode cL_about 13 = .ok (.iconst 1, 1) := by decide +kernel
theorem dL_about_14 : decode cL_about 14 = .ok (.ireturn, 1) := by decide +kernel
theorem dL_about_15 : decode cL_about 15 = .ok (.iconst 0, 1) := by decide +kernel
theorem dL_about_16 : decode cL_about 16 = .ok (.ireturn, 1) := by decide +kernel
theorem dL_member_0 : decode cL_member 0 = .ok (.aload_n 3, 1) := by decide +kernel
theorem dL_member_1 : decode cL_member 1 = .ok (.iconst 0, 1) := by decide +kernel
theorem dL_member_2 : decode cL_member 2 = .ok (.aload_n 0, 1) := by decide +kernel
theorem dL_member_3 : decode cL_member 3 = .ok (.iload_n 1, 1) := by decide +kernel
theorem dL_member_4 : decode cL_member 4 = .ok (.iload_n 2, 1) := by decide +kernel
theorem dL_member_5 : decode cL_member 5 = .ok (.invokevirtual 20, 3) := by decide +kernel
theorem dL_member_8 : decode cL_member 8 = .ok (.i2l, 1) := by decide +kernel
theorem dL_member_9 : decode cL_member 9 = .ok (.lastore, 1) := by decide +kernel
theorem dL_member_10 : decode cL_member 10 = .ok (.goto 11, 3) := by decide +kernel
theorem dL_member_13 : decode cL_member 13 = .ok (.astore 4, 2) := by decide +kernel
theorem dL_member_15 : decode cL_member 15 = .ok (.iconst 1, 1) := by decide +kernel
theorem dL_member_16 : decode cL_member 16 = .ok (.ireturn, 1) := by decide +kernel
theorem dL_member_17 : decode cL_member 17 = .ok (.astore 4, 2) := by decide +kernel
theorem dL_member_19 : decode cL_member 19 = .ok (.iconst 2, 1) := by decide +kernel
theorem dL_member_20 : decode cL_member 20 = .ok (.ireturn, 1) := by decide +kernel
theorem dL_member_21 : decode cL_member 21 = .ok (.iconst 0, 1) := by decide +kernel
theorem dL_member_22 : decode cL_member 22 = .ok (.ireturn, 1) := by decide +kernel
theorem dL_cloth_0 : decode cL_cloth 0 = .ok (.aload_n 3, 1) := by decide +kernel
theorem dL_cloth_1 : decode cL_cloth 1 = .ok (.iconst 0, 1) := by decide +kernel
theorem dL_cloth_2 : decode cL_cloth 2 = .ok (.aload_n 0, 1) := by decide +kernel
theorem dL_cloth_3 : decode cL_cloth 3 = .ok (.iload_n 1, 1) := by decide +kernel
theorem dL_cloth_4 : decode cL_cloth 4 = .ok (.iload_n 2, 1) := by decide +kernel
theorem dL_cloth_5 : decode cL_cloth 5 = .ok (.invokevirtual 26, 3) := by decide +kernel
theorem dL_cloth_8 : decode cL_cloth 8 = .ok (.i2l, 1) := by decide +kernel
theorem dL_cloth_9 : decode cL_cloth 9 = .ok (.lastore, 1) := by decide +kernel
theorem dL_cloth_10 : decode cL_cloth 10 = .ok (.goto 11, 3) := by decide +kernel
theorem dL_cloth_13 : decode cL_cloth 13 = .ok (.astore 4, 2) := by decide +kernel
theorem dL_cloth_15 : decode cL_cloth 15 = .ok (.iconst 1, 1) := by decide +kernel
theorem dL_cloth_16 : decode cL_cloth 16 = .ok (.ireturn, 1) := by decide +kernel
theorem dL_cloth_17 : decode cL_cloth 17 = .ok (.astore 4, 2) := by decide +kernel
theorem dL_cloth_19 : decode cL_cloth 19 = .ok (.iconst 2, 1) := by decide +kernel
theorem dL_cloth_20 : decode cL_cloth 20 = .ok (.ireturn, 1) := by decide +kernel
theorem dL_cloth_21 : decode cL_cloth 21 = .ok (.iconst 0, 1) := by decide +kernel
theorem dL_cloth_22 : decode cL_cloth 22 = .ok (.ireturn, 1) := by decide +kernel
theorem dL_frame_0 : decode cL_frame 0 = .ok (.aload_n 3, 1) := by decide +kernel
theorem dL_frame_1 : decode cL_frame 1 = .ok (.iconst 0, 1) := by decide +kernel
theorem dL_frame_2 : decode cL_frame 2 = .ok (.aload_n 0, 1) := by decide +kernel
theorem dL_frame_3 : decode cL_frame 3 = .ok (.iload_n 1, 1) := by decide +kernel
theorem dL_frame_4 : decode cL_frame 4 = .ok (.iload_n 2, 1) := by decide +kernel
theorem dL_frame_5 : decode cL_frame 5 = .ok (.invokevirtual 29, 3) := by decide +kernel
theorem dL_frame_8 : decode cL_frame 8 = .ok (.i2l, 1) := by decide +kernel
theorem dL_frame_9 : decode cL_frame 9 = .ok (.lastore, 1) := by decide +kernel
theorem dL_frame_10 : decode cL_frame 10 = .ok (.goto 11, 3) := by decide +kernel
theorem dL_frame_13 : decode cL_frame 13 = .ok (.astore 4, 2) := by decide +kernel
theorem dL_frame_15 : decode cL_frame 15 = .ok (.iconst 1, 1) := by decide +kernel
theorem dL_frame_16 : decode cL_frame 16 = .ok (.ireturn, 1) := by decide +kernel
theorem dL_frame_17 : decode cL_frame 17 = .ok (.astore 4, 2) := by decide +kernel
theorem dL_frame_19 : decode cL_frame 19 = .ok (.iconst 2, 1) := by decide +kernel
theorem dL_frame_20 : decode cL_frame 20 = .ok (.ireturn, 1) := by decide +kernel
theorem dL_frame_21 : decode cL_frame 21 = .ok (.iconst 0, 1) := by decide +kernel
theorem dL_frame_22 : decode cL_frame 22 = .ok (.ireturn, 1) := by decide +kernel
theorem dL_patch_0 : decode cL_patch 0 = .ok (.aload 4, 2) := by decide +kernel
theorem dL_patch_2 : decode cL_patch 2 = .ok (.iconst 0, 1) := by decide +kernel
theorem dL_patch_3 : decode cL_patch 3 = .ok (.aload_n 0, 1) := by decide +kernel
