theorem dX10_named_148 : decode cX10_named 148 = .ok (.iconst 1, 1) := by decide +kernel
theorem dX10_named_149 : decode cX10_named 149 = .ok (.iadd, 1) := by decide +kernel
theorem dX10_named_150 : decode cX10_named 150 = .ok (.putfield 71, 3) := by decide +kernel
theorem dX10_named_153 : decode cX10_named 153 = .ok (.iload 5, 2) := by decide +kernel
theorem dX10_named_155 : decode cX10_named 155 = .ok (.ireturn, 1) := by decide +kernel
theorem dX10_readsParents_0 : decode cX10_readsParents 0 = .ok (.iconst 1, 1) := by decide +kernel
theorem dX10_readsParents_1 : decode cX10_readsParents 1 = .ok (.istore_n 2, 1) := by decide +kernel
theorem dX10_readsParents_2 : decode cX10_readsParents 2 = .ok (.iload_n 2, 1) := by decide +kernel
theorem dX10_readsParents_3 : decode cX10_readsParents 3 = .ok (.ifCond .eq 70, 3) := by decide +kernel
theorem dX10_readsParents_6 : decode cX10_readsParents 6 = .ok (.aload_n 0, 1) := by decide +kernel
theorem dX10_readsParents_7 : decode cX10_readsParents 7 = .ok (.iconst 0, 1) := by decide +kernel
theorem dX10_readsParents_8 : decode cX10_readsParents 8 = .ok (.iload_n 1, 1) := by decide +kernel
theorem dX10_readsParents_9 : decode cX10_readsParents 9 = .ok (.iconst 2, 1) := by decide +kernel
theorem dX10_readsParents_10 : decode cX10_readsParents 10 = .ok (.iadd, 1) := by decide +kernel
theorem dX10_readsParents_11 : decode cX10_readsParents 11 = .ok (.iconst 1, 1) := by decide +kernel
theorem dX10_readsParents_12 : decode cX10_readsParents 12 = .ok (.iadd, 1) := by decide +kernel
theorem dX10_readsParents_13 : decode cX10_readsParents 13 = .ok (.iconst 1, 1) := by decide +kernel
theorem dX10_readsParents_14 : decode cX10_readsParents 14 = .ok (.aload_n 0, 1) := by decide +kernel
theorem dX10_readsParents_15 : decode cX10_readsParents 15 = .ok (.getfield 15, 3) := by decide +kernel
theorem dX10_readsParents_18 : decode cX10_readsParents 18 = .ok (.iload_n 1, 1) := by decide +kernel
theorem dX10_readsParents_19 : decode cX10_readsParents 19 = .ok (.iconst 2, 1) := by decide +kernel
theorem dX10_readsParents_20 : decode cX10_readsParents 20 = .ok (.iadd, 1) := by decide +kernel
theorem dX10_readsParents_21 : decode cX10_readsParents 21 = .ok (.iaload, 1) := by decide +kernel
theorem dX10_readsParents_22 : decode cX10_readsParents 22 = .ok (.invokevirtual 126, 3) := by decide +kernel
theorem dX10_readsParents_25 : decode cX10_readsParents 25 = .ok (.istore_n 3, 1) := by decide +kernel
theorem dX10_readsParents_26 : decode cX10_readsParents 26 = .ok (.aload_n 0, 1) := by decide +kernel
theorem dX10_readsParents_27 : decode cX10_readsParents 27 = .ok (.invokevirtual 81, 3) := by decide +kernel
theorem dX10_readsParents_30 : decode cX10_readsParents 30 = .ok (.istore_n 2, 1) := by decide +kernel
theorem dX10_readsParents_31 : decode cX10_readsParents 31 = .ok (.iload_n 2, 1) := by decide +kernel
theorem dX10_readsParents_32 : decode cX10_readsParents 32 = .ok (.ifCond .eq 38, 3) := by decide +kernel
theorem dX10_readsParents_35 : decode cX10_readsParents 35 = .ok (.aload_n 0, 1) := by decide +kernel
theorem dX10_readsParents_36 : decode cX10_readsParents 36 = .ok (.getfield 15, 3) := by decide +kernel
theorem dX10_readsParents_39 : decode cX10_readsParents 39 = .ok (.iload_n 1, 1) := by decide +kernel
theorem dX10_readsParents_40 : decode cX10_readsParents 40 = .ok (.iconst 2, 1) := by decide +kernel
theorem dX10_readsParents_41 : decode cX10_readsParents 41 = .ok (.iadd, 1) := by decide +kernel
theorem dX10_readsParents_42 : decode cX10_readsParents 42 = .ok (.dup2, 1) := by decide +kernel
theorem dX10_readsParents_43 : decode cX10_readsParents 43 = .ok (.iaload, 1) := by decide +kernel
theorem dX10_readsParents_44 : decode cX10_readsParents 44 = .ok (.iconst 1, 1) := by decide +kernel
theorem dX10_readsParents_45 : decode cX10_readsParents 45 = .ok (.iadd, 1) := by decide +kernel
theorem dX10_readsParents_46 : decode cX10_readsParents 46 = .ok (.iastore, 1) := by decide +kernel
theorem dX10_readsParents_47 : decode cX10_readsParents 47 = .ok (.aload_n 0, 1) := by decide +kernel
theorem dX10_readsParents_48 : decode cX10_readsParents 48 = .ok (.getfield 15, 3) := by decide +kernel
theorem dX10_readsParents_51 : decode cX10_readsParents 51 = .ok (.iload_n 1, 1) := by decide +kernel
theorem dX10_readsParents_52 : decode cX10_readsParents 52 = .ok (.iconst 2, 1) := by decide +kernel
theorem dX10_readsParents_53 : decode cX10_readsParents 53 = .ok (.iadd, 1) := by decide +kernel
theorem dX10_readsParents_54 : decode cX10_readsParents 54 = .ok (.aload_n 0, 1) := by decide +kernel
theorem dX10_readsParents_55 : decode cX10_readsParents 55 = .ok (.getfield 15, 3) := by decide +kernel
theorem dX10_readsParents_58 : decode cX10_readsParents 58 = .ok (.iload_n 1, 1) := by decide +kernel
theorem dX10_readsParents_59 : decode cX10_readsParents 59 = .ok (.iconst 2, 1) := by decide +kernel
theorem dX10_readsParents_60 : decode cX10_readsParents 60 = .ok (.iadd, 1) := by decide +kernel
theorem dX10_readsParents_61 : decode cX10_readsParents 61 = .ok (.iaload, 1) := by decide +kernel
theorem dX10_readsParents_62 : decode cX10_readsParents 62 = .ok (.iadd, 1) := by decide +kernel
theorem dX10_readsParents_63 : decode cX10_readsParents 63 = .ok (.iload_n 3, 1) := by decide +kernel
theorem dX10_readsParents_64 : decode cX10_readsParents 64 = .ok (.iastore, 1) := by decide +kernel
theorem dX10_readsParents_65 : decode cX10_readsParents 65 = .ok (.aload_n 0, 1) := by decide +kernel
theorem dX10_readsParents_66 : decode cX10_readsParents 66 = .ok (.invokevirtual 119, 3) := by decide +kernel
theorem dX10_readsParents_69 : decode cX10_readsParents 69 = .ok (.istore_n 2, 1) := by decide +kernel
theorem dX10_readsParents_70 : decode cX10_readsParents 70 = .ok (.goto (-68), 3) := by decide +kernel
theorem dX10_readsParents_73 : decode cX10_readsParents 73 = .ok (.return_, 1) := by decide +kernel
theorem dX10_readsChange_0 : decode cX10_readsChange 0 = .ok (.aload_n 0, 1) := by decide +kernel
theorem dX10_readsChange_1 : decode cX10_readsChange 1 = .ok (.invokevirtual 85, 3) := by decide +kernel
theorem dX10_readsChange_4 : decode cX10_readsChange 4 = .ok (.bipush 45, 2) := by decide +kernel
theorem dX10_readsChange_6 : decode cX10_readsChange 6 = .ok (.if_icmp .ne 78, 3) := by decide +kernel
theorem dX10_readsChange_9 : decode cX10_readsChange 9 = .ok (.iload_n 2, 1) := by decide +kernel
theorem dX10_readsChange_10 : decode cX10_readsChange 10 = .ok (.bipush 6, 2) := by decide +kernel
theorem dX10_readsChange_12 : decode cX10_readsChange 12 = .ok (.if_icmp .ne 12, 3) := by decide +kernel
theorem dX10_readsChange_15 : decode cX10_readsChange 15 = .ok (.aload_n 0, 1) := by decide +kernel
theorem dX10_readsChange_16 : decode cX10_readsChange 16 = .ok (.iconst 3, 1) := by decide +kernel
theorem dX10_readsChange_17 : decode cX10_readsChange 17 = .ok (.aload_n 0, 1) := by decide +kernel
theorem dX10_readsChange_18 : decode cX10_readsChange 18 = .ok (.getfield 71, 3) := by decide +kernel
theorem dX10_readsChange_21 : decode cX10_readsChange 21 = .ok (.invokevirtual 112, 3) := by decide +kernel
theorem dX10_readsChange_24 : decode cX10_readsChange 24 = .ok (.aload_n 0, 1) := by decide +kernel
theorem dX10_readsChange_25 : decode cX10_readsChange 25 = .ok (.dup, 1) := by decide +kernel
theorem dX10_readsChange_26 : decode cX10_readsChange 26 = .ok (.getfield 71, 3) := by decide +kernel
theorem dX10_readsChange_29 : decode cX10_readsChange 29 = .ok (.iconst 1, 1) := by decide +kernel
theorem dX10_readsChange_30 : decode cX10_readsChange 30 = .ok (.iadd, 1) := by decide +kernel
theorem dX10_readsChange_31 : decode cX10_readsChange 31 = .ok (.putfield 71, 3) := by decide +kernel
theorem dX10_readsChange_34 : decode cX10_readsChange 34 = .ok (.aload_n 0, 1) := by decide +kernel
theorem dX10_readsChange_35 : decode cX10_readsChange 35 = .ok (.invokevirtual 130, 3) := by decide +kernel
theorem dX10_readsChange_38 : decode cX10_readsChange 38 = .ok (.istore 4, 2) := by decide +kernel
theorem dX10_readsChange_40 : decode cX10_readsChange 40 = .ok (.aload_n 0, 1) := by decide +kernel
theorem dX10_readsChange_41 : decode cX10_readsChange 41 = .ok (.invokevirtual 81, 3) := by decide +kernel
theorem dX10_readsChange_44 : decode cX10_readsChange 44 = .ok (.ifCond .eq 21, 3) := by decide +kernel
theorem dX10_readsChange_47 : decode cX10_readsChange 47 = .ok (.iload_n 3, 1) := by decide +kernel
theorem dX10_readsChange_48 : decode cX10_readsChange 48 = .ok (.iload 4, 2) := by decide +kernel
theorem dX10_readsChange_50 : decode cX10_readsChange 50 = .ok (.invokestatic 133, 3) := by decide +kernel
theorem dX10_readsChange_53 : decode cX10_readsChange 53 = .ok (.ifCond .eq 12, 3) := by decide +kernel
theorem dX10_readsChange_56 : decode cX10_readsChange 56 = .ok (.aload_n 0, 1) := by decide +kernel
theorem dX10_readsChange_57 : decode cX10_readsChange 57 = .ok (.iconst 2, 1) := by decide +kernel
theorem dX10_readsChange_58 : decode cX10_readsChange 58 = .ok (.aload_n 0, 1) := by decide +kernel
theorem dX10_readsChange_59 : decode cX10_readsChange 59 = .ok (.getfield 116, 3) := by decide +kernel
theorem dX10_readsChange_62 : decode cX10_readsChange 62 = .ok (.invokevirtual 112, 3) := by decide +kernel
theorem dX10_readsChange_65 : decode cX10_readsChange 65 = .ok (.aload_n 0, 1) := by decide +kernel
theorem dX10_readsChange_66 : decode cX10_readsChange 66 = .ok (.iload_n 1, 1) := by decide +kernel
theorem dX10_readsChange_67 : decode cX10_readsChange 67 = .ok (.iload 4, 2) := by decide +kernel
theorem dX10_readsChange_69 : decode cX10_readsChange 69 = .ok (.iconst (-1), 1) := by decide +kernel
theorem dX10_readsChange_70 : decode cX10_readsChange 70 = .ok (.invokevirtual 137, 3) := by decide +kernel
theorem dX10_readsChange_73 : decode cX10_readsChange 73 = .ok (.aload_n 0, 1) := by decide +kernel
theorem dX10_readsChange_74 : decode cX10_readsChange 74 = .ok (.iload_n 3, 1) := by decide +kernel
theorem dX10_readsChange_75 : decode cX10_readsChange 75 = .ok (.iconst 1, 1) := by decide +kernel
theorem dX10_readsChange_76 : decode cX10_readsChange 76 = .ok (.iload 4, 2) := by decide +kernel
theorem dX10_readsChange_78 : decode cX10_readsChange 78 = .ok (.ishl, 1) := by decide +kernel
theorem dX10_readsChange_79 : decode cX10_readsChange 79 = .ok (.ior, 1) := by decide +kernel
theorem dX10_readsChange_80 : decode cX10_readsChange 80 = .ok (.putfield 141, 3) := by decide +kernel
theorem dX10_readsChange_83 : decode cX10_readsChange 83 = .ok (.return_, 1) := by decide +kernel
theorem dX10_readsChange_84 : decode cX10_readsChange 84 = .ok (.aload_n 0, 1) := by decide +kernel
theorem dX10_readsChange_85 : decode cX10_readsChange 85 = .ok (.invokevirtual 130, 3) := by decide +kernel
theorem dX10_readsChange_88 : decode cX10_readsChange 88 = .ok (.istore 4, 2) := by decide +kernel
theorem dX10_readsChange_90 : decode cX10_readsChange 90 = .ok (.aload_n 0, 1) := by decide +kernel
theorem dX10_readsChange_91 : decode cX10_readsChange 91 = .ok (.invokevirtual 81, 3) := by decide +kernel
theorem dX10_readsChange_94 : decode cX10_readsChange 94 = .ok (.ifCond .eq 24, 3) := by decide +kernel
theorem dX10_readsChange_97 : decode cX10_readsChange 97 = .ok (.iload_n 3, 1) := by decide +kernel
theorem dX10_readsChange_98 : decode cX10_readsChange 98 = .ok (.iload 4, 2) := by decide +kernel
theorem dX10_readsChange_100 : decode cX10_readsChange 100 = .ok (.invokestatic 133, 3) := by decide +kernel
theorem dX10_readsChange_103 : decode cX10_readsChange 103 = .ok (.ifCond .eq 15, 3) := by decide +kernel
theorem dX10_readsChange_106 : decode cX10_readsChange 106 = .ok (.aload_n 0, 1) := by decide +kernel
theorem dX10_readsChange_107 : decode cX10_readsChange 107 = .ok (.iconst 2, 1) := by decide +kernel
theorem dX10_readsChange_108 : decode cX10_readsChange 108 = .ok (.aload_n 0, 1) := by decide +kernel
theorem dX10_readsChange_109 : decode cX10_readsChange 109 = .ok (.getfield 116, 3) := by decide +kernel
theorem dX10_readsChange_112 : decode cX10_readsChange 112 = .ok (.invokevirtual 112, 3) := by decide +kernel
theorem dX10_readsChange_115 : decode cX10_readsChange 115 = .ok (.goto 25, 3) := by decide +kernel
theorem dX10_readsChange_118 : decode cX10_readsChange 118 = .ok (.aload_n 0, 1) := by decide +kernel
theorem dX10_readsChange_119 : decode cX10_readsChange 119 = .ok (.invokevirtual 81, 3) := by decide +kernel
theorem dX10_readsChange_122 : decode cX10_readsChange 122 = .ok (.ifCond .eq 18, 3) := by decide +kernel
theorem dX10_readsChange_125 : decode cX10_readsChange 125 = .ok (.iload_n 2, 1) := by decide +kernel
theorem dX10_readsChange_126 : decode cX10_readsChange 126 = .ok (.bipush 6, 2) := by decide +kernel
theorem dX10_readsChange_128 : decode cX10_readsChange 128 = .ok (.if_icmp .ne 12, 3) := by decide +kernel
theorem dX10_readsChange_131 : decode cX10_readsChange 131 = .ok (.aload_n 0, 1) := by decide +kernel
theorem dX10_readsChange_132 : decode cX10_readsChange 132 = .ok (.iconst 3, 1) := by decide +kernel
theorem dX10_readsChange_133 : decode cX10_readsChange 133 = .ok (.aload_n 0, 1) := by decide +kernel
theorem dX10_readsChange_134 : decode cX10_readsChange 134 = .ok (.getfield 116, 3) := by decide +kernel
theorem dX10_readsChange_137 : decode cX10_readsChange 137 = .ok (.invokevirtual 112, 3) := by decide +kernel
theorem dX10_readsChange_140 : decode cX10_readsChange 140 = .ok (.aload_n 0, 1) := by decide +kernel
theorem dX10_readsChange_141 : decode cX10_readsChange 141 = .ok (.bipush 62, 2) := by decide +kernel
theorem dX10_readsChange_143 : decode cX10_readsChange 143 = .ok (.invokevirtual 144, 3) := by decide +kernel
theorem dX10_readsChange_146 : decode cX10_readsChange 146 = .ok (.aload_n 0, 1) := by decide +kernel
theorem dX10_readsChange_147 : decode cX10_readsChange 147 = .ok (.iload_n 1, 1) := by decide +kernel
theorem dX10_readsChange_148 : decode cX10_readsChange 148 = .ok (.iload 4, 2) := by decide +kernel
theorem dX10_readsChange_150 : decode cX10_readsChange 150 = .ok (.aload_n 0, 1) := by decide +kernel
theorem dX10_readsChange_151 : decode cX10_readsChange 151 = .ok (.invokevirtual 81, 3) := by decide +kernel
theorem dX10_readsChange_154 : decode cX10_readsChange 154 = .ok (.ifCond .eq 10, 3) := by decide +kernel
theorem dX10_readsChange_157 : decode cX10_readsChange 157 = .ok (.aload_n 0, 1) := by decide +kernel
theorem dX10_readsChange_158 : decode cX10_readsChange 158 = .ok (.invokevirtual 130, 3) := by decide +kernel
theorem dX10_readsChange_161 : decode cX10_readsChange 161 = .ok (.goto 4, 3) := by decide +kernel
theorem dX10_readsChange_164 : decode cX10_readsChange 164 = .ok (.iconst 0, 1) := by decide +kernel
theorem dX10_readsChange_165 : decode cX10_readsChange 165 = .ok (.invokevirtual 137, 3) := by decide +kernel
theorem dX10_readsChange_168 : decode cX10_readsChange 168 = .ok (.aload_n 0, 1) := by decide +kernel
theorem dX10_readsChange_169 : decode cX10_readsChange 169 = .ok (.iload_n 3, 1) := by decide +kernel
theorem dX10_readsChange_170 : decode cX10_readsChange 170 = .ok (.iconst 1, 1) := by decide +kernel
theorem dX10_readsChange_171 : decode cX10_readsChange 171 = .ok (.iload 4, 2) := by decide +kernel
theorem dX10_readsChange_173 : decode cX10_readsChange 173 = .ok (.ishl, 1) := by decide +kernel
theorem dX10_readsChange_174 : decode cX10_readsChange 174 = .ok (.ior, 1) := by decide +kernel
theorem dX10_readsChange_175 : decode cX10_readsChange 175 = .ok (.putfield 141, 3) := by decide +kernel
theorem dX10_readsChange_178 : decode cX10_readsChange 178 = .ok (.return_, 1) := by decide +kernel
theorem dX10_lays_0 : decode cX10_lays 0 = .ok (.aload_n 0, 1) := by decide +kernel
theorem dX10_lays_1 : decode cX10_lays 1 = .ok (.invokevirtual 81, 3) := by decide +kernel
theorem dX10_lays_4 : decode cX10_lays 4 = .ok (.ifCond .eq 8, 3) := by decide +kernel
theorem dX10_lays_7 : decode cX10_lays 7 = .ok (.iload_n 2, 1) := by decide +kernel
theorem dX10_lays_8 : decode cX10_lays 8 = .ok (.iload_n 3, 1) := by decide +kernel
theorem dX10_lays_9 : decode cX10_lays 9 = .ok (.if_icmp .ne 4, 3) := by decide +kernel
theorem dX10_lays_12 : decode cX10_lays 12 = .ok (.return_, 1) := by decide +kernel
theorem dX10_lays_13 : decode cX10_lays 13 = .ok (.iload_n 1, 1) := by decide +kernel
theorem dX10_lays_14 : decode cX10_lays 14 = .ok (.iconst 2, 1) := by decide +kernel
theorem dX10_lays_15 : decode cX10_lays 15 = .ok (.iadd, 1) := by decide +kernel
theorem dX10_lays_16 : decode cX10_lays 16 = .ok (.iconst 2, 1) := by decide +kernel
theorem dX10_lays_17 : decode cX10_lays 17 = .ok (.aload_n 0, 1) := by decide +kernel
theorem dX10_lays_18 : decode cX10_lays 18 = .ok (.getfield 15, 3) := by decide +kernel
theorem dX10_lays_21 : decode cX10_lays 21 = .ok (.iload_n 1, 1) := by decide +kernel
theorem dX10_lays_22 : decode cX10_lays 22 = .ok (.iconst 1, 1) := by decide +kernel
theorem dX10_lays_23 : decode cX10_lays 23 = .ok (.iadd, 1) := by decide +kernel
theorem dX10_lays_24 : decode cX10_lays 24 = .ok (.iaload, 1) := by decide +kernel
theorem dX10_lays_25 : decode cX10_lays 25 = .ok (.imul, 1) := by decide +kernel
theorem dX10_lays_26 : decode cX10_lays 26 = .ok (.iadd, 1) := by decide +kernel
theorem dX10_lays_27 : decode cX10_lays 27 = .ok (.istore 4, 2) := by decide +kernel
theorem dX10_lays_29 : decode cX10_lays 29 = .ok (.aload_n 0, 1) := by decide +kernel
theorem dX10_lays_30 : decode cX10_lays 30 = .ok (.getfield 15, 3) := by decide +kernel
theorem dX10_lays_33 : decode cX10_lays 33 = .ok (.iload 4, 2) := by decide +kernel
theorem dX10_lays_35 : decode cX10_lays 35 = .ok (.iload_n 2, 1) := by decide +kernel
theorem dX10_lays_36 : decode cX10_lays 36 = .ok (.iastore, 1) := by decide +kernel
theorem dX10_lays_37 : decode cX10_lays 37 = .ok (.aload_n 0, 1) := by decide +kernel
theorem dX10_lays_38 : decode cX10_lays 38 = .ok (.getfield 15, 3) := by decide +kernel
theorem dX10_lays_41 : decode cX10_lays 41 = .ok (.iload 4, 2) := by decide +kernel
theorem dX10_lays_43 : decode cX10_lays 43 = .ok (.iconst 1, 1) := by decide +kernel
theorem dX10_lays_44 : decode cX10_lays 44 = .ok (.iadd, 1) := by decide +kernel
theorem dX10_lays_45 : decode cX10_lays 45 = .ok (.iload_n 3, 1) := by decide +kernel
theorem dX10_lays_46 : decode cX10_lays 46 = .ok (.iastore, 1) := by decide +kernel
theorem dX10_lays_47 : decode cX10_lays 47 = .ok (.aload_n 0, 1) := by decide +kernel
theorem dX10_lays_48 : decode cX10_lays 48 = .ok (.getfield 15, 3) := by decide +kernel
theorem dX10_lays_51 : decode cX10_lays 51 = .ok (.iload_n 1, 1) := by decide +kernel
theorem dX10_lays_52 : decode cX10_lays 52 = .ok (.iconst 1, 1) := by decide +kernel
theorem dX10_lays_53 : decode cX10_lays 53 = .ok (.iadd, 1) := by decide +kernel
theorem dX10_lays_54 : decode cX10_lays 54 = .ok (.dup2, 1) := by decide +kernel
theorem dX10_lays_55 : decode cX10_lays 55 = .ok (.iaload, 1) := by decide +kernel
theorem dX10_lays_56 : decode cX10_lays 56 = .ok (.iconst 1, 1) := by decide +kernel
theorem dX10_lays_57 : decode cX10_lays 57 = .ok (.iadd, 1) := by decide +kernel
theorem dX10_lays_58 : decode cX10_lays 58 = .ok (.iastore, 1) := by decide +kernel
theorem dX10_lays_59 : decode cX10_lays 59 = .ok (.return_, 1) := by decide +kernel
theorem dX10_readsUses_0 : decode cX10_readsUses 0 = .ok (.bipush 113, 2) := by decide +kernel
theorem dX10_readsUses_2 : decode cX10_readsUses 2 = .ok (.iload_n 1, 1) := by decide +kernel
theorem dX10_readsUses_3 : decode cX10_readsUses 3 = .ok (.imul, 1) := by decide +kernel
theorem dX10_readsUses_4 : decode cX10_readsUses 4 = .ok (.bipush 7, 2) := by decide +kernel
theorem dX10_readsUses_6 : decode cX10_readsUses 6 = .ok (.iadd, 1) := by decide +kernel
theorem dX10_readsUses_7 : decode cX10_readsUses 7 = .ok (.istore_n 2, 1) := by decide +kernel
theorem dX10_readsUses_8 : decode cX10_readsUses 8 = .ok (.iconst 1, 1) := by decide +kernel
theorem dX10_readsUses_9 : decode cX10_readsUses 9 = .ok (.istore_n 3, 1) := by decide +kernel
theorem dX10_readsUses_10 : decode cX10_readsUses 10 = .ok (.iload_n 3, 1) := by decide +kernel
theorem dX10_readsUses_11 : decode cX10_readsUses 11 = .ok (.ifCond .eq 167, 3) := by decide +kernel
theorem dX10_readsUses_14 : decode cX10_readsUses 14 = .ok (.aload_n 0, 1) := by decide +kernel
theorem dX10_readsUses_15 : decode cX10_readsUses 15 = .ok (.iconst 1, 1) := by decide +kernel
theorem dX10_readsUses_16 : decode cX10_readsUses 16 = .ok (.iload_n 1, 1) := by decide +kernel
theorem dX10_readsUses_17 : decode cX10_readsUses 17 = .ok (.iconst 0, 1) := by decide +kernel
theorem dX10_readsUses_18 : decode cX10_readsUses 18 = .ok (.invokestatic 147, 3) := by decide +kernel
theorem dX10_readsUses_21 : decode cX10_readsUses 21 = .ok (.bipush 14, 2) := by decide +kernel
theorem dX10_readsUses_23 : decode cX10_readsUses 23 = .ok (.aload_n 0, 1) := by decide +kernel
theorem dX10_readsUses_24 : decode cX10_readsUses 24 = .ok (.getfield 15, 3) := by decide +kernel
theorem dX10_readsUses_27 : decode cX10_readsUses 27 = .ok (.iload_n 2, 1) := by decide +kernel
theorem dX10_readsUses_28 : decode cX10_readsUses 28 = .ok (.iaload, 1) := by decide +kernel
theorem dX10_readsUses_29 : decode cX10_readsUses 29 = .ok (.invokevirtual 126, 3) := by decide +kernel
theorem dX10_readsUses_32 : decode cX10_readsUses 32 = .ok (.istore 4, 2) := by decide +kernel
theorem dX10_readsUses_34 : decode cX10_readsUses 34 = .ok (.aload_n 0, 1) := by decide +kernel
theorem dX10_readsUses_35 : decode cX10_readsUses 35 = .ok (.invokevirtual 81, 3) := by decide +kernel
theorem dX10_readsUses_38 : decode cX10_readsUses 38 = .ok (.ifCond .ne 4, 3) := by decide +kernel
theorem dX10_readsUses_41 : decode cX10_readsUses 41 = .ok (.return_, 1) := by decide +kernel
theorem dX10_readsUses_42 : decode cX10_readsUses 42 = .ok (.iload_n 1, 1) := by decide +kernel
theorem dX10_readsUses_43 : decode cX10_readsUses 43 = .ok (.aload_n 0, 1) := by decide +kernel
theorem dX10_readsUses_44 : decode cX10_readsUses 44 = .ok (.getfield 15, 3) := by decide +kernel
theorem dX10_readsUses_47 : decode cX10_readsUses 47 = .ok (.iload_n 2, 1) := by decide +kernel
theorem dX10_readsUses_48 : decode cX10_readsUses 48 = .ok (.iaload, 1) := by decide +kernel
theorem dX10_readsUses_49 : decode cX10_readsUses 49 = .ok (.invokestatic 147, 3) := by decide +kernel
theorem dX10_readsUses_52 : decode cX10_readsUses 52 = .ok (.istore 5, 2) := by decide +kernel
theorem dX10_readsUses_54 : decode cX10_readsUses 54 = .ok (.aload_n 0, 1) := by decide +kernel
theorem dX10_readsUses_55 : decode cX10_readsUses 55 = .ok (.getfield 15, 3) := by decide +kernel
theorem dX10_readsUses_58 : decode cX10_readsUses 58 = .ok (.iload 5, 2) := by decide +kernel
theorem dX10_readsUses_60 : decode cX10_readsUses 60 = .ok (.iload 4, 2) := by decide +kernel
theorem dX10_readsUses_62 : decode cX10_readsUses 62 = .ok (.iastore, 1) := by decide +kernel
theorem dX10_readsUses_63 : decode cX10_readsUses 63 = .ok (.aload_n 0, 1) := by decide +kernel
theorem dX10_readsUses_64 : decode cX10_readsUses 64 = .ok (.getfield 15, 3) := by decide +kernel
theorem dX10_readsUses_67 : decode cX10_readsUses 67 = .ok (.iload 5, 2) := by decide +kernel
theorem dX10_readsUses_69 : decode cX10_readsUses 69 = .ok (.iconst 1, 1) := by decide +kernel
theorem dX10_readsUses_70 : decode cX10_readsUses 70 = .ok (.iadd, 1) := by decide +kernel
theorem dX10_readsUses_71 : decode cX10_readsUses 71 = .ok (.iconst 0, 1) := by decide +kernel
theorem dX10_readsUses_72 : decode cX10_readsUses 72 = .ok (.iastore, 1) := by decide +kernel
theorem dX10_readsUses_73 : decode cX10_readsUses 73 = .ok (.aload_n 0, 1) := by decide +kernel
theorem dX10_readsUses_74 : decode cX10_readsUses 74 = .ok (.getfield 15, 3) := by decide +kernel
theorem dX10_readsUses_77 : decode cX10_readsUses 77 = .ok (.iload_n 2, 1) := by decide +kernel
theorem dX10_readsUses_78 : decode cX10_readsUses 78 = .ok (.dup2, 1) := by decide +kernel
theorem dX10_readsUses_79 : decode cX10_readsUses 79 = .ok (.iaload, 1) := by decide +kernel
theorem dX10_readsUses_80 : decode cX10_readsUses 80 = .ok (.iconst 1, 1) := by decide +kernel
theorem dX10_readsUses_81 : decode cX10_readsUses 81 = .ok (.iadd, 1) := by decide +kernel
theorem dX10_readsUses_82 : decode cX10_readsUses 82 = .ok (.iastore, 1) := by decide +kernel
theorem dX10_readsUses_83 : decode cX10_readsUses 83 = .ok (.aload_n 0, 1) := by decide +kernel
theorem dX10_readsUses_84 : decode cX10_readsUses 84 = .ok (.bipush 40, 2) := by decide +kernel
theorem dX10_readsUses_86 : decode cX10_readsUses 86 = .ok (.invokevirtual 108, 3) := by decide +kernel
theorem dX10_readsUses_89 : decode cX10_readsUses 89 = .ok (.ifCond .eq 66, 3) := by decide +kernel
theorem dX10_readsUses_92 : decode cX10_readsUses 92 = .ok (.aload_n 0, 1) := by decide +kernel
theorem dX10_readsUses_93 : decode cX10_readsUses 93 = .ok (.iconst 0, 1) := by decide +kernel
theorem dX10_readsUses_94 : decode cX10_readsUses 94 = .ok (.putfield 141, 3) := by decide +kernel
theorem dX10_readsUses_97 : decode cX10_readsUses 97 = .ok (.iconst 0, 1) := by decide +kernel
theorem dX10_readsUses_98 : decode cX10_readsUses 98 = .ok (.istore 6, 2) := by decide +kernel
theorem dX10_readsUses_100 : decode cX10_readsUses 100 = .ok (.iconst 1, 1) := by decide +kernel
theorem dX10_readsUses_101 : decode cX10_readsUses 101 = .ok (.istore 7, 2) := by decide +kernel
theorem dX10_readsUses_103 : decode cX10_readsUses 103 = .ok (.iload 7, 2) := by decide +kernel
theorem dX10_readsUses_105 : decode cX10_readsUses 105 = .ok (.ifCond .eq 44, 3) := by decide +kernel
theorem dX10_readsUses_108 : decode cX10_readsUses 108 = .ok (.aload_n 0, 1) := by decide +kernel
theorem dX10_readsUses_109 : decode cX10_readsUses 109 = .ok (.iload 5, 2) := by decide +kernel
theorem dX10_readsUses_111 : decode cX10_readsUses 111 = .ok (.iload 6, 2) := by decide +kernel
theorem dX10_readsUses_113 : decode cX10_readsUses 113 = .ok (.aload_n 0, 1) := by decide +kernel
theorem dX10_readsUses_114 : decode cX10_readsUses 114 = .ok (.getfield 141, 3) := by decide +kernel
theorem dX10_readsUses_117 : decode cX10_readsUses 117 = .ok (.invokevirtual 151, 3) := by decide +kernel
theorem dX10_readsUses_120 : decode cX10_readsUses 120 = .ok (.iinc 6 1, 3) := by decide +kernel
theorem dX10_readsUses_123 : decode cX10_readsUses 123 = .ok (.aload_n 0, 1) := by decide +kernel
theorem dX10_readsUses_124 : decode cX10_readsUses 124 = .ok (.invokevirtual 81, 3) := by decide +kernel
theorem dX10_readsUses_127 : decode cX10_readsUses 127 = .ok (.ifCond .eq 16, 3) := by decide +kernel
theorem dX10_readsUses_130 : decode cX10_readsUses 130 = .ok (.aload_n 0, 1) := by decide +kernel
theorem dX10_readsUses_131 : decode cX10_readsUses 131 = .ok (.invokevirtual 85, 3) := by decide +kernel
theorem dX10_readsUses_134 : decode cX10_readsUses 134 = .ok (.bipush 41, 2) := by decide +kernel
theorem dX10_readsUses_136 : decode cX10_readsUses 136 = .ok (.if_icmp .eq 7, 3) := by decide +kernel
theorem dX10_readsUses_139 : decode cX10_readsUses 139 = .ok (.iconst 1, 1) := by decide +kernel
theorem dX10_readsUses_140 : decode cX10_readsUses 140 = .ok (.goto 4, 3) := by decide +kernel
theorem dX10_readsUses_143 : decode cX10_readsUses 143 = .ok (.iconst 0, 1) := by decide +kernel
theorem dX10_readsUses_144 : decode cX10_readsUses 144 = .ok (.istore 7, 2) := by decide +kernel
theorem dX10_readsUses_146 : decode cX10_readsUses 146 = .ok (.goto (-43), 3) := by decide +kernel
theorem dX10_readsUses_149 : decode cX10_readsUses 149 = .ok (.aload_n 0, 1) := by decide +kernel
theorem dX10_readsUses_150 : decode cX10_readsUses 150 = .ok (.bipush 41, 2) := by decide +kernel
theorem dX10_readsUses_152 : decode cX10_readsUses 152 = .ok (.invokevirtual 144, 3) := by decide +kernel
theorem dX10_readsUses_155 : decode cX10_readsUses 155 = .ok (.aload_n 0, 1) := by decide +kernel
theorem dX10_readsUses_156 : decode cX10_readsUses 156 = .ok (.invokevirtual 81, 3) := by decide +kernel
theorem dX10_readsUses_159 : decode cX10_readsUses 159 = .ok (.ifCond .eq 14, 3) := by decide +kernel
theorem dX10_readsUses_162 : decode cX10_readsUses 162 = .ok (.aload_n 0, 1) := by decide +kernel
theorem dX10_readsUses_163 : decode cX10_readsUses 163 = .ok (.invokevirtual 119, 3) := by decide +kernel
theorem dX10_readsUses_166 : decode cX10_readsUses 166 = .ok (.ifCond .eq 7, 3) := by decide +kernel
theorem dX10_readsUses_169 : decode cX10_readsUses 169 = .ok (.iconst 1, 1) := by decide +kernel
theorem dX10_readsUses_170 : decode cX10_readsUses 170 = .ok (.goto 4, 3) := by decide +kernel
theorem dX10_readsUses_173 : decode cX10_readsUses 173 = .ok (.iconst 0, 1) := by decide +kernel
theorem dX10_readsUses_174 : decode cX10_readsUses 174 = .ok (.istore_n 3, 1) := by decide +kernel
theorem dX10_readsUses_175 : decode cX10_readsUses 175 = .ok (.goto (-165), 3) := by decide +kernel
theorem dX10_readsUses_178 : decode cX10_readsUses 178 = .ok (.return_, 1) := by decide +kernel
theorem dX10_term_0 : decode cX10_term 0 = .ok (.aload_n 0, 1) := by decide +kernel
theorem dX10_term_1 : decode cX10_term 1 = .ok (.getfield 71, 3) := by decide +kernel
theorem dX10_term_4 : decode cX10_term 4 = .ok (.istore_n 1, 1) := by decide +kernel
theorem dX10_term_5 : decode cX10_term 5 = .ok (.aload_n 0, 1) := by decide +kernel
theorem dX10_term_6 : decode cX10_term 6 = .ok (.invokevirtual 85, 3) := by decide +kernel
theorem dX10_term_9 : decode cX10_term 9 = .ok (.bipush 48, 2) := by decide +kernel
theorem dX10_term_11 : decode cX10_term 11 = .ok (.bipush 57, 2) := by decide +kernel
theorem dX10_term_13 : decode cX10_term 13 = .ok (.invokestatic 88, 3) := by decide +kernel
theorem dX10_term_16 : decode cX10_term 16 = .ok (.ifCond .eq 71, 3) := by decide +kernel
theorem dX10_term_19 : decode cX10_term 19 = .ok (.aload_n 0, 1) := by decide +kernel
theorem dX10_term_20 : decode cX10_term 20 = .ok (.getfield 71, 3) := by decide +kernel
theorem dX10_term_23 : decode cX10_term 23 = .ok (.istore_n 1, 1) := by decide +kernel
theorem dX10_term_24 : decode cX10_term 24 = .ok (.iconst 0, 1) := by decide +kernel
theorem dX10_term_25 : decode cX10_term 25 = .ok (.istore_n 2, 1) := by decide +kernel
theorem dX10_term_26 : decode cX10_term 26 = .ok (.aload_n 0, 1) := by decide +kernel
theorem dX10_term_27 : decode cX10_term 27 = .ok (.invokevirtual 74, 3) := by decide +kernel
theorem dX10_term_30 : decode cX10_term 30 = .ok (.bipush 48, 2) := by decide +kernel
theorem dX10_term_32 : decode cX10_term 32 = .ok (.bipush 57, 2) := by decide +kernel
theorem dX10_term_34 : decode cX10_term 34 = .ok (.invokestatic 88, 3) := by decide +kernel
theorem dX10_term_37 : decode cX10_term 37 = .ok (.ifCond .eq 35, 3) := by decide +kernel
theorem dX10_term_40 : decode cX10_term 40 = .ok (.sipush 10000, 3) := by decide +kernel
theorem dX10_term_43 : decode cX10_term 43 = .ok (.bipush 10, 2) := by decide +kernel
theorem dX10_term_45 : decode cX10_term 45 = .ok (.iload_n 2, 1) := by decide +kernel
theorem dX10_term_46 : decode cX10_term 46 = .ok (.imul, 1) := by decide +kernel
theorem dX10_term_47 : decode cX10_term 47 = .ok (.aload_n 0, 1) := by decide +kernel
theorem dX10_term_48 : decode cX10_term 48 = .ok (.invokevirtual 74, 3) := by decide +kernel
theorem dX10_term_51 : decode cX10_term 51 = .ok (.iadd, 1) := by decide +kernel
theorem dX10_term_52 : decode cX10_term 52 = .ok (.bipush 48, 2) := by decide +kernel
theorem dX10_term_54 : decode cX10_term 54 = .ok (.isub, 1) := by decide +kernel
theorem dX10_term_55 : decode cX10_term 55 = .ok (.invokestatic 154, 3) := by decide +kernel
theorem dX10_term_58 : decode cX10_term 58 = .ok (.istore_n 2, 1) := by decide +kernel
theorem dX10_term_59 : decode cX10_term 59 = .ok (.aload_n 0, 1) := by decide +kernel
theorem dX10_term_60 : decode cX10_term 60 = .ok (.dup, 1) := by decide +kernel
theorem dX10_term_61 : decode cX10_term 61 = .ok (.getfield 71, 3) := by decide +kernel
theorem dX10_term_64 : decode cX10_term 64 = .ok (.iconst 1, 1) := by decide +kernel
theorem dX10_term_65 : decode cX10_term 65 = .ok (.iadd, 1) := by decide +kernel
theorem dX10_term_66 : decode cX10_term 66 = .ok (.putfield 71, 3) := by decide +kernel
theorem dX10_term_69 : decode cX10_term 69 = .ok (.goto (-43), 3) := by decide +kernel
theorem dX10_term_72 : decode cX10_term 72 = .ok (.iload_n 2, 1) := by decide +kernel
theorem dX10_term_73 : decode cX10_term 73 = .ok (.sipush 999, 3) := by decide +kernel
theorem dX10_term_76 : decode cX10_term 76 = .ok (.if_icmp .le 9, 3) := by decide +kernel
theorem dX10_term_79 : decode cX10_term 79 = .ok (.aload_n 0, 1) := by decide +kernel
theorem dX10_term_80 : decode cX10_term 80 = .ok (.iconst 2, 1) := by decide +kernel
theorem dX10_term_81 : decode cX10_term 81 = .ok (.iload_n 1, 1) := by decide +kernel
theorem dX10_term_82 : decode cX10_term 82 = .ok (.invokevirtual 112, 3) := by decide +kernel
theorem dX10_term_85 : decode cX10_term 85 = .ok (.iload_n 2, 1) := by decide +kernel
theorem dX10_term_86 : decode cX10_term 86 = .ok (.ireturn, 1) := by decide +kernel
theorem dX10_term_87 : decode cX10_term 87 = .ok (.aload_n 0, 1) := by decide +kernel
theorem dX10_term_88 : decode cX10_term 88 = .ok (.ldc 159, 2) := by decide +kernel
theorem dX10_term_90 : decode cX10_term 90 = .ok (.invokevirtual 161, 3) := by decide +kernel
theorem dX10_term_93 : decode cX10_term 93 = .ok (.ifCond .eq 9, 3) := by decide +kernel
theorem dX10_term_96 : decode cX10_term 96 = .ok (.sipush 1000, 3) := by decide +kernel
theorem dX10_term_99 : decode cX10_term 99 = .ok (.goto 11, 3) := by decide +kernel
theorem dX10_term_102 : decode cX10_term 102 = .ok (.sipush 1001, 3) := by decide +kernel
theorem dX10_term_105 : decode cX10_term 105 = .ok (.aload_n 0, 1) := by decide +kernel
theorem dX10_term_106 : decode cX10_term 106 = .ok (.invokevirtual 130, 3) := by decide +kernel
theorem dX10_term_109 : decode cX10_term 109 = .ok (.iadd, 1) := by decide +kernel
theorem dX10_term_110 : decode cX10_term 110 = .ok (.ireturn, 1) := by decide +kernel
theorem dX10_readsTerms_0 : decode cX10_readsTerms 0 = .ok (.iconst 1, 1) := by decide +kernel
theorem dX10_readsTerms_1 : decode cX10_readsTerms 1 = .ok (.istore_n 2, 1) := by decide +kernel
theorem dX10_readsTerms_2 : decode cX10_readsTerms 2 = .ok (.iload_n 2, 1) := by decide +kernel
theorem dX10_readsTerms_3 : decode cX10_readsTerms 3 = .ok (.ifCond .eq 92, 3) := by decide +kernel
theorem dX10_readsTerms_6 : decode cX10_readsTerms 6 = .ok (.aload_n 0, 1) := by decide +kernel
theorem dX10_readsTerms_7 : decode cX10_readsTerms 7 = .ok (.invokevirtual 85, 3) := by decide +kernel
theorem dX10_readsTerms_10 : decode cX10_readsTerms 10 = .ok (.pop, 1) := by decide +kernel
theorem dX10_readsTerms_11 : decode cX10_readsTerms 11 = .ok (.aload_n 0, 1) := by decide +kernel
theorem dX10_readsTerms_12 : decode cX10_readsTerms 12 = .ok (.getfield 71, 3) := by decide +kernel
theorem dX10_readsTerms_15 : decode cX10_readsTerms 15 = .ok (.istore_n 3, 1) := by decide +kernel
theorem dX10_readsTerms_16 : decode cX10_readsTerms 16 = .ok (.aload_n 0, 1) := by decide +kernel
theorem dX10_readsTerms_17 : decode cX10_readsTerms 17 = .ok (.invokevirtual 165, 3) := by decide +kernel
theorem dX10_readsTerms_20 : decode cX10_readsTerms 20 = .ok (.istore 4, 2) := by decide +kernel
theorem dX10_readsTerms_22 : decode cX10_readsTerms 22 = .ok (.aload_n 0, 1) := by decide +kernel
theorem dX10_readsTerms_23 : decode cX10_readsTerms 23 = .ok (.invokevirtual 81, 3) := by decide +kernel
theorem dX10_readsTerms_26 : decode cX10_readsTerms 26 = .ok (.ifCond .eq 21, 3) := by decide +kernel
theorem dX10_readsTerms_29 : decode cX10_readsTerms 29 = .ok (.aload_n 0, 1) := by decide +kernel
theorem dX10_readsTerms_30 : decode cX10_readsTerms 30 = .ok (.getfield 15, 3) := by decide +kernel
theorem dX10_readsTerms_33 : decode cX10_readsTerms 33 = .ok (.iload_n 1, 1) := by decide +kernel
theorem dX10_readsTerms_34 : decode cX10_readsTerms 34 = .ok (.iconst 1, 1) := by decide +kernel
theorem dX10_readsTerms_35 : decode cX10_readsTerms 35 = .ok (.iadd, 1) := by decide +kernel
theorem dX10_readsTerms_36 : decode cX10_readsTerms 36 = .ok (.iaload, 1) := by decide +kernel
theorem dX10_readsTerms_37 : decode cX10_readsTerms 37 = .ok (.iconst 4, 1) := by decide +kernel
theorem dX10_readsTerms_38 : decode cX10_readsTerms 38 = .ok (.if_icmp .ne 9, 3) := by decide +kernel
theorem dX10_readsTerms_41 : decode cX10_readsTerms 41 = .ok (.aload_n 0, 1) := by decide +kernel
theorem dX10_readsTerms_42 : decode cX10_readsTerms 42 = .ok (.iconst 3, 1) := by decide +kernel
theorem dX10_readsTerms_43 : decode cX10_readsTerms 43 = .ok (.iload_n 3, 1) := by decide +kernel
theorem dX10_readsTerms_44 : decode cX10_readsTerms 44 = .ok (.invokevirtual 112, 3) := by decide +kernel
theorem dX10_readsTerms_47 : decode cX10_readsTerms 47 = .ok (.aload_n 0, 1) := by decide +kernel
theorem dX10_readsTerms_48 : decode cX10_readsTerms 48 = .ok (.invokevirtual 81, 3) := by decide +kernel
theorem dX10_readsTerms_51 : decode cX10_readsTerms 51 = .ok (.ifCond .eq 34, 3) := by decide +kernel
theorem dX10_readsTerms_54 : decode cX10_readsTerms 54 = .ok (.aload_n 0, 1) := by decide +kernel
theorem dX10_readsTerms_55 : decode cX10_readsTerms 55 = .ok (.getfield 15, 3) := by decide +kernel
theorem dX10_readsTerms_58 : decode cX10_readsTerms 58 = .ok (.iload_n 1, 1) := by decide +kernel
theorem dX10_readsTerms_59 : decode cX10_readsTerms 59 = .ok (.iconst 2, 1) := by decide +kernel
theorem dX10_readsTerms_60 : decode cX10_readsTerms 60 = .ok (.iadd, 1) := by decide +kernel
theorem dX10_readsTerms_61 : decode cX10_readsTerms 61 = .ok (.aload_n 0, 1) := by decide +kernel
theorem dX10_readsTerms_62 : decode cX10_readsTerms 62 = .ok (.getfield 15, 3) := by decide +kernel
theorem dX10_readsTerms_65 : decode cX10_readsTerms 65 = .ok (.iload_n 1, 1) := by decide +kernel
theorem dX10_readsTerms_66 : decode cX10_readsTerms 66 = .ok (.iconst 1, 1) := by decide +kernel
theorem dX10_readsTerms_67 : decode cX10_readsTerms 67 = .ok (.iadd, 1) := by decide +kernel
theorem dX10_readsTerms_68 : decode cX10_readsTerms 68 = .ok (.iaload, 1) := by decide +kernel
theorem dX10_readsTerms_69 : decode cX10_readsTerms 69 = .ok (.iadd, 1) := by decide +kernel
theorem dX10_readsTerms_70 : decode cX10_readsTerms 70 = .ok (.iload 4, 2) := by decide +kernel
theorem dX10_readsTerms_72 : decode cX10_readsTerms 72 = .ok (.iastore, 1) := by decide +kernel
theorem dX10_readsTerms_73 : decode cX10_readsTerms 73 = .ok (.aload_n 0, 1) := by decide +kernel
theorem dX10_readsTerms_74 : decode cX10_readsTerms 74 = .ok (.getfield 15, 3) := by decide +kernel
theorem dX10_readsTerms_77 : decode cX10_readsTerms 77 = .ok (.iload_n 1, 1) := by decide +kernel
theorem dX10_readsTerms_78 : decode cX10_readsTerms 78 = .ok (.iconst 1, 1) := by decide +kernel
theorem dX10_readsTerms_79 : decode cX10_readsTerms 79 = .ok (.iadd, 1) := by decide +kernel
theorem dX10_readsTerms_80 : decode cX10_readsTerms 80 = .ok (.dup2, 1) := by decide +kernel
theorem dX10_readsTerms_81 : decode cX10_readsTerms 81 = .ok (.iaload, 1) := by decide +kernel
theorem dX10_readsTerms_82 : decode cX10_readsTerms 82 = .ok (.iconst 1, 1) := by decide +kernel
theorem dX10_readsTerms_83 : decode cX10_readsTerms 83 = .ok (.iadd, 1) := by decide +kernel
theorem dX10_readsTerms_84 : decode cX10_readsTerms 84 = .ok (.iastore, 1) := by decide +kernel
theorem dX10_readsTerms_85 : decode cX10_readsTerms 85 = .ok (.aload_n 0, 1) := by decide +kernel
theorem dX10_readsTerms_86 : decode cX10_readsTerms 86 = .ok (.bipush 43, 2) := by decide +kernel
theorem dX10_readsTerms_88 : decode cX10_readsTerms 88 = .ok (.invokevirtual 108, 3) := by decide +kernel
theorem dX10_readsTerms_91 : decode cX10_readsTerms 91 = .ok (.istore_n 2, 1) := by decide +kernel
theorem dX10_readsTerms_92 : decode cX10_readsTerms 92 = .ok (.goto (-90), 3) := by decide +kernel
theorem dX10_readsTerms_95 : decode cX10_readsTerms 95 = .ok (.return_, 1) := by decide +kernel
theorem dX10_readsOwns_0 : decode cX10_readsOwns 0 = .ok (.bipush 113, 2) := by decide +kernel
theorem dX10_readsOwns_2 : decode cX10_readsOwns 2 = .ok (.iload_n 1, 1) := by decide +kernel
theorem dX10_readsOwns_3 : decode cX10_readsOwns 3 = .ok (.imul, 1) := by decide +kernel
theorem dX10_readsOwns_4 : decode cX10_readsOwns 4 = .ok (.bipush 64, 2) := by decide +kernel
theorem dX10_readsOwns_6 : decode cX10_readsOwns 6 = .ok (.iadd, 1) := by decide +kernel
theorem dX10_readsOwns_7 : decode cX10_readsOwns 7 = .ok (.istore_n 2, 1) := by decide +kernel
theorem dX10_readsOwns_8 : decode cX10_readsOwns 8 = .ok (.iconst 1, 1) := by decide +kernel
theorem dX10_readsOwns_9 : decode cX10_readsOwns 9 = .ok (.istore_n 3, 1) := by decide +kernel
theorem dX10_readsOwns_10 : decode cX10_readsOwns 10 = .ok (.iload_n 3, 1) := by decide +kernel
theorem dX10_readsOwns_11 : decode cX10_readsOwns 11 = .ok (.ifCond .eq 190, 3) := by decide +kernel
theorem dX10_readsOwns_14 : decode cX10_readsOwns 14 = .ok (.aload_n 0, 1) := by decide +kernel
theorem dX10_readsOwns_15 : decode cX10_readsOwns 15 = .ok (.invokevirtual 130, 3) := by decide +kernel
theorem dX10_readsOwns_18 : decode cX10_readsOwns 18 = .ok (.istore 4, 2) := by decide +kernel
theorem dX10_readsOwns_20 : decode cX10_readsOwns 20 = .ok (.aload_n 0, 1) := by decide +kernel
theorem dX10_readsOwns_21 : decode cX10_readsOwns 21 = .ok (.getfield 116, 3) := by decide +kernel
theorem dX10_readsOwns_24 : decode cX10_readsOwns 24 = .ok (.istore 5, 2) := by decide +kernel
theorem dX10_readsOwns_26 : decode cX10_readsOwns 26 = .ok (.iconst 0, 1) := by decide +kernel
theorem dX10_readsOwns_27 : decode cX10_readsOwns 27 = .ok (.istore 6, 2) := by decide +kernel
theorem dX10_readsOwns_29 : decode cX10_readsOwns 29 = .ok (.iload 6, 2) := by decide +kernel
theorem dX10_readsOwns_31 : decode cX10_readsOwns 31 = .ok (.aload_n 0, 1) := by decide +kernel
theorem dX10_readsOwns_32 : decode cX10_readsOwns 32 = .ok (.getfield 15, 3) := by decide +kernel
theorem dX10_readsOwns_35 : decode cX10_readsOwns 35 = .ok (.iload_n 2, 1) := by decide +kernel
theorem dX10_readsOwns_36 : decode cX10_readsOwns 36 = .ok (.iaload, 1) := by decide +kernel
theorem dX10_readsOwns_37 : decode cX10_readsOwns 37 = .ok (.if_icmp .ge 39, 3) := by decide +kernel
theorem dX10_readsOwns_40 : decode cX10_readsOwns 40 = .ok (.aload_n 0, 1) := by decide +kernel
theorem dX10_readsOwns_41 : decode cX10_readsOwns 41 = .ok (.invokevirtual 81, 3) := by decide +kernel
theorem dX10_readsOwns_44 : decode cX10_readsOwns 44 = .ok (.ifCond .eq 32, 3) := by decide +kernel
theorem dX10_readsOwns_47 : decode cX10_readsOwns 47 = .ok (.aload_n 0, 1) := by decide +kernel
theorem dX10_readsOwns_48 : decode cX10_readsOwns 48 = .ok (.getfield 15, 3) := by decide +kernel
theorem dX10_readsOwns_51 : decode cX10_readsOwns 51 = .ok (.iload_n 1, 1) := by decide +kernel
theorem dX10_readsOwns_52 : decode cX10_readsOwns 52 = .ok (.iload 6, 2) := by decide +kernel
theorem dX10_readsOwns_54 : decode cX10_readsOwns 54 = .ok (.invokestatic 168, 3) := by decide +kernel
theorem dX10_readsOwns_57 : decode cX10_readsOwns 57 = .ok (.iaload, 1) := by decide +kernel
theorem dX10_readsOwns_58 : decode cX10_readsOwns 58 = .ok (.iload 4, 2) := by decide +kernel
theorem dX10_readsOwns_60 : decode cX10_readsOwns 60 = .ok (.if_icmp .ne 10, 3) := by decide +kernel
theorem dX10_readsOwns_63 : decode cX10_readsOwns 63 = .ok (.aload_n 0, 1) := by decide +kernel
theorem dX10_readsOwns_64 : decode cX10_readsOwns 64 = .ok (.iconst 2, 1) := by decide +kernel
theorem dX10_readsOwns_65 : decode cX10_readsOwns 65 = .ok (.iload 5, 2) := by decide +kernel
theorem dX10_readsOwns_67 : decode cX10_readsOwns 67 = .ok (.invokevirtual 112, 3) := by decide +kernel
theorem dX10_readsOwns_70 : decode cX10_readsOwns 70 = .ok (.iinc 6 1, 3) := by decide +kernel
theorem dX10_readsOwns_73 : decode cX10_readsOwns 73 = .ok (.goto (-44), 3) := by decide +kernel
theorem dX10_readsOwns_76 : decode cX10_readsOwns 76 = .ok (.aload_n 0, 1) := by decide +kernel
theorem dX10_readsOwns_77 : decode cX10_readsOwns 77 = .ok (.invokevirtual 81, 3) := by decide +kernel
theorem dX10_readsOwns_80 : decode cX10_readsOwns 80 = .ok (.ifCond .eq 21, 3) := by decide +kernel
theorem dX10_readsOwns_83 : decode cX10_readsOwns 83 = .ok (.aload_n 0, 1) := by decide +kernel
theorem dX10_readsOwns_84 : decode cX10_readsOwns 84 = .ok (.getfield 15, 3) := by decide +kernel
theorem dX10_readsOwns_87 : decode cX10_readsOwns 87 = .ok (.iload_n 2, 1) := by decide +kernel
theorem dX10_readsOwns_88 : decode cX10_readsOwns 88 = .ok (.iaload, 1) := by decide +kernel
theorem dX10_readsOwns_89 : decode cX10_readsOwns 89 = .ok (.bipush 8, 2) := by decide +kernel
theorem dX10_readsOwns_91 : decode cX10_readsOwns 91 = .ok (.if_icmp .ne 10, 3) := by decide +kernel
theorem dX10_readsOwns_94 : decode cX10_readsOwns 94 = .ok (.aload_n 0, 1) := by decide +kernel
theorem dX10_readsOwns_95 : decode cX10_readsOwns 95 = .ok (.iconst 3, 1) := by decide +kernel
theorem dX10_readsOwns_96 : decode cX10_readsOwns 96 = .ok (.iload 5, 2) := by decide +kernel
theorem dX10_readsOwns_98 : decode cX10_readsOwns 98 = .ok (.invokevirtual 112, 3) := by decide +kernel
theorem dX10_readsOwns_101 : decode cX10_readsOwns 101 = .ok (.aload_n 0, 1) := by decide +kernel
theorem dX10_readsOwns_102 : decode cX10_readsOwns 102 = .ok (.invokevirtual 81, 3) := by decide +kernel
theorem dX10_readsOwns_105 : decode cX10_readsOwns 105 = .ok (.ifCond .ne 4, 3) := by decide +kernel
theorem dX10_readsOwns_108 : decode cX10_readsOwns 108 = .ok (.return_, 1) := by decide +kernel
theorem dX10_readsOwns_109 : decode cX10_readsOwns 109 = .ok (.iload_n 1, 1) := by decide +kernel
theorem dX10_readsOwns_110 : decode cX10_readsOwns 110 = .ok (.aload_n 0, 1) := by decide +kernel
theorem dX10_readsOwns_111 : decode cX10_readsOwns 111 = .ok (.getfield 15, 3) := by decide +kernel
theorem dX10_readsOwns_114 : decode cX10_readsOwns 114 = .ok (.iload_n 2, 1) := by decide +kernel
theorem dX10_readsOwns_115 : decode cX10_readsOwns 115 = .ok (.iaload, 1) := by decide +kernel
theorem dX10_readsOwns_116 : decode cX10_readsOwns 116 = .ok (.invokestatic 168, 3) := by decide +kernel
theorem dX10_readsOwns_119 : decode cX10_readsOwns 119 = .ok (.istore 6, 2) := by decide +kernel
theorem dX10_readsOwns_121 : decode cX10_readsOwns 121 = .ok (.aload_n 0, 1) := by decide +kernel
theorem dX10_readsOwns_122 : decode cX10_readsOwns 122 = .ok (.getfield 15, 3) := by decide +kernel
theorem dX10_readsOwns_125 : decode cX10_readsOwns 125 = .ok (.iload 6, 2) := by decide +kernel
theorem dX10_readsOwns_127 : decode cX10_readsOwns 127 = .ok (.iload 4, 2) := by decide +kernel
theorem dX10_readsOwns_129 : decode cX10_readsOwns 129 = .ok (.iastore, 1) := by decide +kernel
theorem dX10_readsOwns_130 : decode cX10_readsOwns 130 = .ok (.aload_n 0, 1) := by decide +kernel
theorem dX10_readsOwns_131 : decode cX10_readsOwns 131 = .ok (.getfield 15, 3) := by decide +kernel
theorem dX10_readsOwns_134 : decode cX10_readsOwns 134 = .ok (.iload 6, 2) := by decide +kernel
theorem dX10_readsOwns_136 : decode cX10_readsOwns 136 = .ok (.iconst 1, 1) := by decide +kernel
theorem dX10_readsOwns_137 : decode cX10_readsOwns 137 = .ok (.iadd, 1) := by decide +kernel
theorem dX10_readsOwns_138 : decode cX10_readsOwns 138 = .ok (.iconst 0, 1) := by decide +kernel
theorem dX10_readsOwns_139 : decode cX10_readsOwns 139 = .ok (.iastore, 1) := by decide +kernel
theorem dX10_readsOwns_140 : decode cX10_readsOwns 140 = .ok (.aload_n 0, 1) := by decide +kernel
theorem dX10_readsOwns_141 : decode cX10_readsOwns 141 = .ok (.getfield 15, 3) := by decide +kernel
theorem dX10_readsOwns_144 : decode cX10_readsOwns 144 = .ok (.iload_n 2, 1) := by decide +kernel
theorem dX10_readsOwns_145 : decode cX10_readsOwns 145 = .ok (.dup2, 1) := by decide +kernel
theorem dX10_readsOwns_146 : decode cX10_readsOwns 146 = .ok (.iaload, 1) := by decide +kernel
theorem dX10_readsOwns_147 : decode cX10_readsOwns 147 = .ok (.iconst 1, 1) := by decide +kernel
theorem dX10_readsOwns_148 : decode cX10_readsOwns 148 = .ok (.iadd, 1) := by decide +kernel
theorem dX10_readsOwns_149 : decode cX10_readsOwns 149 = .ok (.iastore, 1) := by decide +kernel
theorem dX10_readsOwns_150 : decode cX10_readsOwns 150 = .ok (.aload_n 0, 1) := by decide +kernel
theorem dX10_readsOwns_151 : decode cX10_readsOwns 151 = .ok (.bipush 63, 2) := by decide +kernel
theorem dX10_readsOwns_153 : decode cX10_readsOwns 153 = .ok (.invokevirtual 108, 3) := by decide +kernel
theorem dX10_readsOwns_156 : decode cX10_readsOwns 156 = .ok (.ifCond .ne 22, 3) := by decide +kernel
theorem dX10_readsOwns_159 : decode cX10_readsOwns 159 = .ok (.aload_n 0, 1) := by decide +kernel
theorem dX10_readsOwns_160 : decode cX10_readsOwns 160 = .ok (.bipush 61, 2) := by decide +kernel
theorem dX10_readsOwns_162 : decode cX10_readsOwns 162 = .ok (.invokevirtual 144, 3) := by decide +kernel
theorem dX10_readsOwns_165 : decode cX10_readsOwns 165 = .ok (.aload_n 0, 1) := by decide +kernel
theorem dX10_readsOwns_166 : decode cX10_readsOwns 166 = .ok (.invokevirtual 81, 3) := by decide +kernel
theorem dX10_readsOwns_169 : decode cX10_readsOwns 169 = .ok (.ifCond .eq 9, 3) := by decide +kernel
theorem dX10_readsOwns_172 : decode cX10_readsOwns 172 = .ok (.aload_n 0, 1) := by decide +kernel
theorem dX10_readsOwns_173 : decode cX10_readsOwns 173 = .ok (.iload 6, 2) := by decide +kernel
theorem dX10_readsOwns_175 : decode cX10_readsOwns 175 = .ok (.invokevirtual 171, 3) := by decide +kernel
theorem dX10_readsOwns_178 : decode cX10_readsOwns 178 = .ok (.aload_n 0, 1) := by decide +kernel
theorem dX10_readsOwns_179 : decode cX10_readsOwns 179 = .ok (.invokevirtual 81, 3) := by decide +kernel
theorem dX10_readsOwns_182 : decode cX10_readsOwns 182 = .ok (.ifCond .eq 14, 3) := by decide +kernel
theorem dX10_readsOwns_185 : decode cX10_readsOwns 185 = .ok (.aload_n 0, 1) := by decide +kernel
theorem dX10_readsOwns_186 : decode cX10_readsOwns 186 = .ok (.invokevirtual 92, 3) := by decide +kernel
theorem dX10_readsOwns_189 : decode cX10_readsOwns 189 = .ok (.ifCond .le 7, 3) := by decide +kernel
theorem dX10_readsOwns_192 : decode cX10_readsOwns 192 = .ok (.iconst 1, 1) := by decide +kernel
theorem dX10_readsOwns_193 : decode cX10_readsOwns 193 = .ok (.goto 4, 3) := by decide +kernel
theorem dX10_readsOwns_196 : decode cX10_readsOwns 196 = .ok (.iconst 0, 1) := by decide +kernel
theorem dX10_readsOwns_197 : decode cX10_readsOwns 197 = .ok (.istore_n 3, 1) := by decide +kernel
theorem dX10_readsOwns_198 : decode cX10_readsOwns 198 = .ok (.goto (-188), 3) := by decide +kernel
theorem dX10_readsOwns_201 : decode cX10_readsOwns 201 = .ok (.return_, 1) := by decide +kernel
theorem dX10_readsUnit_0 : decode cX10_readsUnit 0 = .ok (.aload_n 0, 1) := by decide +kernel
theorem dX10_readsUnit_1 : decode cX10_readsUnit 1 = .ok (.invokevirtual 85, 3) := by decide +kernel
theorem dX10_readsUnit_4 : decode cX10_readsUnit 4 = .ok (.pop, 1) := by decide +kernel
theorem dX10_readsUnit_5 : decode cX10_readsUnit 5 = .ok (.aload_n 0, 1) := by decide +kernel
theorem dX10_readsUnit_6 : decode cX10_readsUnit 6 = .ok (.getfield 71, 3) := by decide +kernel
theorem dX10_readsUnit_9 : decode cX10_readsUnit 9 = .ok (.istore_n 1, 1) := by decide +kernel
theorem dX10_readsUnit_10 : decode cX10_readsUnit 10 = .ok (.aload_n 0, 1) := by decide +kernel
theorem dX10_readsUnit_11 : decode cX10_readsUnit 11 = .ok (.ldc 174, 2) := by decide +kernel
theorem dX10_readsUnit_13 : decode cX10_readsUnit 13 = .ok (.invokevirtual 161, 3) := by decide +kernel
theorem dX10_readsUnit_16 : decode cX10_readsUnit 16 = .ok (.istore_n 2, 1) := by decide +kernel
theorem dX10_readsUnit_17 : decode cX10_readsUnit 17 = .ok (.iload_n 2, 1) := by decide +kernel
theorem dX10_readsUnit_18 : decode cX10_readsUnit 18 = .ok (.ifCond .ne 21, 3) := by decide +kernel
theorem dX10_readsUnit_21 : decode cX10_readsUnit 21 = .ok (.aload_n 0, 1) := by decide +kernel
theorem dX10_readsUnit_22 : decode cX10_readsUnit 22 = .ok (.ldc 176, 2) := by decide +kernel
theorem dX10_readsUnit_24 : decode cX10_readsUnit 24 = .ok (.invokevirtual 161, 3) := by decide +kernel
theorem dX10_readsUnit_27 : decode cX10_readsUnit 27 = .ok (.ifCond .ne 12, 3) := by decide +kernel
theorem dX10_readsUnit_30 : decode cX10_readsUnit 30 = .ok (.aload_n 0, 1) := by decide +kernel
theorem dX10_readsUnit_31 : decode cX10_readsUnit 31 = .ok (.iconst 1, 1) := by decide +kernel
theorem dX10_readsUnit_32 : decode cX10_readsUnit 32 = .ok (.iload_n 1, 1) := by decide +kernel
theorem dX10_readsUnit_33 : decode cX10_readsUnit 33 = .ok (.invokevirtual 112, 3) := by decide +kernel
theorem dX10_readsUnit_36 : decode cX10_readsUnit 36 = .ok (.goto 22, 3) := by decide +kernel
theorem dX10_readsUnit_39 : decode cX10_readsUnit 39 = .ok (.aload_n 0, 1) := by decide +kernel
theorem dX10_readsUnit_40 : decode cX10_readsUnit 40 = .ok (.getfield 15, 3) := by decide +kernel
theorem dX10_readsUnit_43 : decode cX10_readsUnit 43 = .ok (.sipush 1356, 3) := by decide +kernel
theorem dX10_readsUnit_46 : decode cX10_readsUnit 46 = .ok (.iaload, 1) := by decide +kernel
theorem dX10_readsUnit_47 : decode cX10_readsUnit 47 = .ok (.bipush 12, 2) := by decide +kernel
theorem dX10_readsUnit_49 : decode cX10_readsUnit 49 = .ok (.if_icmp .ne 9, 3) := by decide +kernel
theorem dX10_readsUnit_52 : decode cX10_readsUnit 52 = .ok (.aload_n 0, 1) := by decide +kernel
theorem dX10_readsUnit_53 : decode cX10_readsUnit 53 = .ok (.iconst 3, 1) := by decide +kernel
theorem dX10_readsUnit_54 : decode cX10_readsUnit 54 = .ok (.iload_n 1, 1) := by decide +kernel
theorem dX10_readsUnit_55 : decode cX10_readsUnit 55 = .ok (.invokevirtual 112, 3) := by decide +kernel
theorem dX10_readsUnit_58 : decode cX10_readsUnit 58 = .ok (.aload_n 0, 1) := by decide +kernel
theorem dX10_readsUnit_59 : decode cX10_readsUnit 59 = .ok (.invokevirtual 81, 3) := by decide +kernel
theorem dX10_readsUnit_62 : decode cX10_readsUnit 62 = .ok (.ifCond .eq 10, 3) := by decide +kernel
theorem dX10_readsUnit_65 : decode cX10_readsUnit 65 = .ok (.aload_n 0, 1) := by decide +kernel
theorem dX10_readsUnit_66 : decode cX10_readsUnit 66 = .ok (.invokevirtual 119, 3) := by decide +kernel
theorem dX10_readsUnit_69 : decode cX10_readsUnit 69 = .ok (.ifCond .ne 13, 3) := by decide +kernel
theorem dX10_readsUnit_72 : decode cX10_readsUnit 72 = .ok (.aload_n 0, 1) := by decide +kernel
theorem dX10_readsUnit_73 : decode cX10_readsUnit 73 = .ok (.iconst 1, 1) := by decide +kernel
theorem dX10_readsUnit_74 : decode cX10_readsUnit 74 = .ok (.aload_n 0, 1) := by decide +kernel
theorem dX10_readsUnit_75 : decode cX10_readsUnit 75 = .ok (.getfield 71, 3) := by decide +kernel
theorem dX10_readsUnit_78 : decode cX10_readsUnit 78 = .ok (.invokevirtual 112, 3) := by decide +kernel
theorem dX10_readsUnit_81 : decode cX10_readsUnit 81 = .ok (.return_, 1) := by decide +kernel
theorem dX10_readsUnit_82 : decode cX10_readsUnit 82 = .ok (.aload_n 0, 1) := by decide +kernel
theorem dX10_readsUnit_83 : decode cX10_readsUnit 83 = .ok (.aload_n 0, 1) := by decide +kernel
theorem dX10_readsUnit_84 : decode cX10_readsUnit 84 = .ok (.invokevirtual 74, 3) := by decide +kernel
theorem dX10_readsUnit_87 : decode cX10_readsUnit 87 = .ok (.bipush 65, 2) := by decide +kernel
theorem dX10_readsUnit_89 : decode cX10_readsUnit 89 = .ok (.isub, 1) := by decide +kernel
theorem dX10_readsUnit_90 : decode cX10_readsUnit 90 = .ok (.invokevirtual 122, 3) := by decide +kernel
theorem dX10_readsUnit_93 : decode cX10_readsUnit 93 = .ok (.iconst (-1), 1) := by decide +kernel
theorem dX10_readsUnit_94 : decode cX10_readsUnit 94 = .ok (.if_icmp .eq 13, 3) := by decide +kernel
theorem dX10_readsUnit_97 : decode cX10_readsUnit 97 = .ok (.aload_n 0, 1) := by decide +kernel
theorem dX10_readsUnit_98 : decode cX10_readsUnit 98 = .ok (.iconst 2, 1) := by decide +kernel
theorem dX10_readsUnit_99 : decode cX10_readsUnit 99 = .ok (.aload_n 0, 1) := by decide +kernel
theorem dX10_readsUnit_100 : decode cX10_readsUnit 100 = .ok (.getfield 71, 3) := by decide +kernel
theorem dX10_readsUnit_103 : decode cX10_readsUnit 103 = .ok (.invokevirtual 112, 3) := by decide +kernel
theorem dX10_readsUnit_106 : decode cX10_readsUnit 106 = .ok (.return_, 1) := by decide +kernel
theorem dX10_readsUnit_107 : decode cX10_readsUnit 107 = .ok (.aload_n 0, 1) := by decide +kernel
theorem dX10_readsUnit_108 : decode cX10_readsUnit 108 = .ok (.getfield 15, 3) := by decide +kernel
theorem dX10_readsUnit_111 : decode cX10_readsUnit 111 = .ok (.sipush 1356, 3) := by decide +kernel
theorem dX10_readsUnit_114 : decode cX10_readsUnit 114 = .ok (.iaload, 1) := by decide +kernel
theorem dX10_readsUnit_115 : decode cX10_readsUnit 115 = .ok (.istore_n 3, 1) := by decide +kernel
theorem dX10_readsUnit_116 : decode cX10_readsUnit 116 = .ok (.bipush 113, 2) := by decide +kernel
theorem dX10_readsUnit_118 : decode cX10_readsUnit 118 = .ok (.iload_n 3, 1) := by decide +kernel
theorem dX10_readsUnit_119 : decode cX10_readsUnit 119 = .ok (.imul, 1) := by decide +kernel
theorem dX10_readsUnit_120 : decode cX10_readsUnit 120 = .ok (.istore 4, 2) := by decide +kernel
theorem dX10_readsUnit_122 : decode cX10_readsUnit 122 = .ok (.iconst 0, 1) := by decide +kernel
theorem dX10_readsUnit_123 : decode cX10_readsUnit 123 = .ok (.istore 5, 2) := by decide +kernel
theorem dX10_readsUnit_125 : decode cX10_readsUnit 125 = .ok (.iload 5, 2) := by decide +kernel
theorem dX10_readsUnit_127 : decode cX10_readsUnit 127 = .ok (.bipush 113, 2) := by decide +kernel
theorem dX10_readsUnit_129 : decode cX10_readsUnit 129 = .ok (.if_icmp .ge 20, 3) := by decide +kernel
theorem dX10_readsUnit_132 : decode cX10_readsUnit 132 = .ok (.aload_n 0, 1) := by decide +kernel
theorem dX10_readsUnit_133 : decode cX10_readsUnit 133 = .ok (.getfield 15, 3) := by decide +kernel
theorem dX10_readsUnit_136 : decode cX10_readsUnit 136 = .ok (.iload 4, 2) := by decide +kernel
theorem dX10_readsUnit_138 : decode cX10_readsUnit 138 = .ok (.iload 5, 2) := by decide +kernel
theorem dX10_readsUnit_140 : decode cX10_readsUnit 140 = .ok (.iadd, 1) := by decide +kernel
theorem dX10_readsUnit_141 : decode cX10_readsUnit 141 = .ok (.iconst 0, 1) := by decide +kernel
theorem dX10_readsUnit_142 : decode cX10_readsUnit 142 = .ok (.iastore, 1) := by decide +kernel
theorem dX10_readsUnit_143 : decode cX10_readsUnit 143 = .ok (.iinc 5 1, 3) := by decide +kernel
theorem dX10_readsUnit_146 : decode cX10_readsUnit 146 = .ok (.goto (-21), 3) := by decide +kernel
theorem dX10_readsUnit_149 : decode cX10_readsUnit 149 = .ok (.aload_n 0, 1) := by decide +kernel
theorem dX10_readsUnit_150 : decode cX10_readsUnit 150 = .ok (.getfield 15, 3) := by decide +kernel
theorem dX10_readsUnit_153 : decode cX10_readsUnit 153 = .ok (.iload 4, 2) := by decide +kernel
theorem dX10_readsUnit_155 : decode cX10_readsUnit 155 = .ok (.iconst 0, 1) := by decide +kernel
theorem dX10_readsUnit_156 : decode cX10_readsUnit 156 = .ok (.iadd, 1) := by decide +kernel
theorem dX10_readsUnit_157 : decode cX10_readsUnit 157 = .ok (.iload_n 2, 1) := by decide +kernel
theorem dX10_readsUnit_158 : decode cX10_readsUnit 158 = .ok (.ifCond .ne 7, 3) := by decide +kernel
theorem dX10_readsUnit_161 : decode cX10_readsUnit 161 = .ok (.iconst 1, 1) := by decide +kernel
theorem dX10_readsUnit_162 : decode cX10_readsUnit 162 = .ok (.goto 4, 3) := by decide +kernel
theorem dX10_readsUnit_165 : decode cX10_readsUnit 165 = .ok (.iconst 0, 1) := by decide +kernel
theorem dX10_readsUnit_166 : decode cX10_readsUnit 166 = .ok (.invokestatic 104, 3) := by decide +kernel
theorem dX10_readsUnit_169 : decode cX10_readsUnit 169 = .ok (.iastore, 1) := by decide +kernel
theorem dX10_readsUnit_170 : decode cX10_readsUnit 170 = .ok (.aload_n 0, 1) := by decide +kernel
theorem dX10_readsUnit_171 : decode cX10_readsUnit 171 = .ok (.getfield 15, 3) := by decide +kernel
theorem dX10_readsUnit_174 : decode cX10_readsUnit 174 = .ok (.iload 4, 2) := by decide +kernel
theorem dX10_readsUnit_176 : decode cX10_readsUnit 176 = .ok (.iconst 1, 1) := by decide +kernel
theorem dX10_readsUnit_177 : decode cX10_readsUnit 177 = .ok (.iadd, 1) := by decide +kernel
theorem dX10_readsUnit_178 : decode cX10_readsUnit 178 = .ok (.aload_n 0, 1) := by decide +kernel
theorem dX10_readsUnit_179 : decode cX10_readsUnit 179 = .ok (.invokevirtual 74, 3) := by decide +kernel
theorem dX10_readsUnit_182 : decode cX10_readsUnit 182 = .ok (.bipush 65, 2) := by decide +kernel
theorem dX10_readsUnit_184 : decode cX10_readsUnit 184 = .ok (.isub, 1) := by decide +kernel
theorem dX10_readsUnit_185 : decode cX10_readsUnit 185 = .ok (.iastore, 1) := by decide +kernel
theorem dX10_readsUnit_186 : decode cX10_readsUnit 186 = .ok (.aload_n 0, 1) := by decide +kernel
theorem dX10_readsUnit_187 : decode cX10_readsUnit 187 = .ok (.dup, 1) := by decide +kernel
theorem dX10_readsUnit_188 : decode cX10_readsUnit 188 = .ok (.getfield 71, 3) := by decide +kernel
theorem dX10_readsUnit_191 : decode cX10_readsUnit 191 = .ok (.iconst 1, 1) := by decide +kernel
theorem dX10_readsUnit_192 : decode cX10_readsUnit 192 = .ok (.iadd, 1) := by decide +kernel
theorem dX10_readsUnit_193 : decode cX10_readsUnit 193 = .ok (.putfield 71, 3) := by decide +kernel
theorem dX10_readsUnit_196 : decode cX10_readsUnit 196 = .ok (.iload_n 2, 1) := by decide +kernel
theorem dX10_readsUnit_197 : decode cX10_readsUnit 197 = .ok (.ifCond .eq 18, 3) := by decide +kernel
theorem dX10_readsUnit_200 : decode cX10_readsUnit 200 = .ok (.aload_n 0, 1) := by decide +kernel
theorem dX10_readsUnit_201 : decode cX10_readsUnit 201 = .ok (.ldc 178, 2) := by decide +kernel
theorem dX10_readsUnit_203 : decode cX10_readsUnit 203 = .ok (.invokevirtual 161, 3) := by decide +kernel
theorem dX10_readsUnit_206 : decode cX10_readsUnit 206 = .ok (.ifCond .eq 9, 3) := by decide +kernel
theorem dX10_readsUnit_209 : decode cX10_readsUnit 209 = .ok (.aload_n 0, 1) := by decide +kernel
theorem dX10_readsUnit_210 : decode cX10_readsUnit 210 = .ok (.iload 4, 2) := by decide +kernel
theorem dX10_readsUnit_212 : decode cX10_readsUnit 212 = .ok (.invokevirtual 180, 3) := by decide +kernel
theorem dX10_readsUnit_215 : decode cX10_readsUnit 215 = .ok (.aload_n 0, 1) := by decide +kernel
theorem dX10_readsUnit_216 : decode cX10_readsUnit 216 = .ok (.ldc 183, 2) := by decide +kernel
theorem dX10_readsUnit_218 : decode cX10_readsUnit 218 = .ok (.invokevirtual 161, 3) := by decide +kernel
theorem dX10_readsUnit_221 : decode cX10_readsUnit 221 = .ok (.ifCond .eq 8, 3) := by decide +kernel
theorem dX10_readsUnit_224 : decode cX10_readsUnit 224 = .ok (.aload_n 0, 1) := by decide +kernel
theorem dX10_readsUnit_225 : decode cX10_readsUnit 225 = .ok (.iload_n 3, 1) := by decide +kernel
theorem dX10_readsUnit_226 : decode cX10_readsUnit 226 = .ok (.invokevirtual 185, 3) := by decide +kernel
theorem dX10_readsUnit_229 : decode cX10_readsUnit 229 = .ok (.aload_n 0, 1) := by decide +kernel
theorem dX10_readsUnit_230 : decode cX10_readsUnit 230 = .ok (.bipush 58, 2) := by decide +kernel
theorem dX10_readsUnit_232 : decode cX10_readsUnit 232 = .ok (.invokevirtual 108, 3) := by decide +kernel
theorem dX10_readsUnit_235 : decode cX10_readsUnit 235 = .ok (.ifCond .eq 8, 3) := by decide +kernel
theorem dX10_readsUnit_238 : decode cX10_readsUnit 238 = .ok (.aload_n 0, 1) := by decide +kernel
theorem dX10_readsUnit_239 : decode cX10_readsUnit 239 = .ok (.iload_n 3, 1) := by decide +kernel
theorem dX10_readsUnit_240 : decode cX10_readsUnit 240 = .ok (.invokevirtual 188, 3) := by decide +kernel
theorem dX10_readsUnit_243 : decode cX10_readsUnit 243 = .ok (.aload_n 0, 1) := by decide +kernel
theorem dX10_readsUnit_244 : decode cX10_readsUnit 244 = .ok (.getfield 15, 3) := by decide +kernel
theorem dX10_readsUnit_247 : decode cX10_readsUnit 247 = .ok (.sipush 1356, 3) := by decide +kernel
theorem dX10_readsUnit_250 : decode cX10_readsUnit 250 = .ok (.dup2, 1) := by decide +kernel
theorem dX10_readsUnit_251 : decode cX10_readsUnit 251 = .ok (.iaload, 1) := by decide +kernel
theorem dX10_readsUnit_252 : decode cX10_readsUnit 252 = .ok (.iconst 1, 1) := by decide +kernel
theorem dX10_readsUnit_253 : decode cX10_readsUnit 253 = .ok (.iadd, 1) := by decide +kernel
theorem dX10_readsUnit_254 : decode cX10_readsUnit 254 = .ok (.iastore, 1) := by decide +kernel
theorem dX10_readsUnit_255 : decode cX10_readsUnit 255 = .ok (.return_, 1) := by decide +kernel
theorem dX10_tell_0 : decode cX10_tell 0 = .ok (.aload_n 0, 1) := by decide +kernel
theorem dX10_tell_1 : decode cX10_tell 1 = .ok (.iconst 0, 1) := by decide +kernel
theorem dX10_tell_2 : decode cX10_tell 2 = .ok (.putfield 71, 3) := by decide +kernel
theorem dX10_tell_5 : decode cX10_tell 5 = .ok (.aload_n 0, 1) := by decide +kernel
theorem dX10_tell_6 : decode cX10_tell 6 = .ok (.iconst (-1), 1) := by decide +kernel
theorem dX10_tell_7 : decode cX10_tell 7 = .ok (.putfield 78, 3) := by decide +kernel
theorem dX10_tell_10 : decode cX10_tell 10 = .ok (.aload_n 0, 1) := by decide +kernel
theorem dX10_tell_11 : decode cX10_tell 11 = .ok (.getfield 15, 3) := by decide +kernel
theorem dX10_tell_14 : decode cX10_tell 14 = .ok (.sipush 1356, 3) := by decide +kernel
theorem dX10_tell_17 : decode cX10_tell 17 = .ok (.iconst 0, 1) := by decide +kernel
theorem dX10_tell_18 : decode cX10_tell 18 = .ok (.iastore, 1) := by decide +kernel
theorem dX10_tell_19 : decode cX10_tell 19 = .ok (.aload_n 0, 1) := by decide +kernel
theorem dX10_tell_20 : decode cX10_tell 20 = .ok (.invokevirtual 85, 3) := by decide +kernel
theorem dX10_tell_23 : decode cX10_tell 23 = .ok (.iconst (-1), 1) := by decide +kernel
theorem dX10_tell_24 : decode cX10_tell 24 = .ok (.if_icmp .eq 7, 3) := by decide +kernel
theorem dX10_tell_27 : decode cX10_tell 27 = .ok (.iconst 1, 1) := by decide +kernel
theorem dX10_tell_28 : decode cX10_tell 28 = .ok (.goto 4, 3) := by decide +kernel
theorem dX10_tell_31 : decode cX10_tell 31 = .ok (.iconst 0, 1) := by decide +kernel
theorem dX10_tell_32 : decode cX10_tell 32 = .ok (.istore_n 1, 1) := by decide +kernel
theorem dX10_tell_33 : decode cX10_tell 33 = .ok (.iload_n 1, 1) := by decide +kernel
theorem dX10_tell_34 : decode cX10_tell 34 = .ok (.ifCond .eq 17, 3) := by decide +kernel
theorem dX10_tell_37 : decode cX10_tell 37 = .ok (.aload_n 0, 1) := by decide +kernel
theorem dX10_tell_38 : decode cX10_tell 38 = .ok (.invokevirtual 191, 3) := by decide +kernel
theorem dX10_tell_41 : decode cX10_tell 41 = .ok (.aload_n 0, 1) := by decide +kernel
theorem dX10_tell_42 : decode cX10_tell 42 = .ok (.bipush 59, 2) := by decide +kernel
theorem dX10_tell_44 : decode cX10_tell 44 = .ok (.invokevirtual 108, 3) := by decide +kernel
theorem dX10_tell_47 : decode cX10_tell 47 = .ok (.istore_n 1, 1) := by decide +kernel
theorem dX10_tell_48 : decode cX10_tell 48 = .ok (.goto (-15), 3) := by decide +kernel
theorem dX10_tell_51 : decode cX10_tell 51 = .ok (.aload_n 0, 1) := by decide +kernel
theorem dX10_tell_52 : decode cX10_tell 52 = .ok (.invokevirtual 81, 3) := by decide +kernel
theorem dX10_tell_55 : decode cX10_tell 55 = .ok (.ifCond .eq 20, 3) := by decide +kernel
theorem dX10_tell_58 : decode cX10_tell 58 = .ok (.aload_n 0, 1) := by decide +kernel
theorem dX10_tell_59 : decode cX10_tell 59 = .ok (.invokevirtual 85, 3) := by decide +kernel
theorem dX10_tell_62 : decode cX10_tell 62 = .ok (.iconst (-1), 1) := by decide +kernel
theorem dX10_tell_63 : decode cX10_tell 63 = .ok (.if_icmp .eq 12, 3) := by decide +kernel
theorem dX10_tell_66 : decode cX10_tell 66 = .ok (.aload_n 0, 1) := by decide +kernel
theorem dX10_tell_67 : decode cX10_tell 67 = .ok (.iconst 1, 1) := by decide +kernel
theorem dX10_tell_68 : decode cX10_tell 68 = .ok (.aload_n 0, 1) := by decide +kernel
theorem dX10_tell_69 : decode cX10_tell 69 = .ok (.getfield 71, 3) := by decide +kernel
theorem dX10_tell_72 : decode cX10_tell 72 = .ok (.invokevirtual 112, 3) := by decide +kernel
theorem dX10_tell_75 : decode cX10_tell 75 = .ok (.aload_n 0, 1) := by decide +kernel
theorem dX10_tell_76 : decode cX10_tell 76 = .ok (.iconst 0, 1) := by decide +kernel
theorem dX10_tell_77 : decode cX10_tell 77 = .ok (.putfield 63, 3) := by decide +kernel
theorem dX10_tell_80 : decode cX10_tell 80 = .ok (.aload_n 0, 1) := by decide +kernel
theorem dX10_tell_81 : decode cX10_tell 81 = .ok (.invokevirtual 81, 3) := by decide +kernel
theorem dX10_tell_84 : decode cX10_tell 84 = .ok (.ifCond .ne 11, 3) := by decide +kernel
theorem dX10_tell_87 : decode cX10_tell 87 = .ok (.bipush (-2), 2) := by decide +kernel
theorem dX10_tell_89 : decode cX10_tell 89 = .ok (.aload_n 0, 1) := by decide +kernel
theorem dX10_tell_90 : decode cX10_tell 90 = .ok (.getfield 78, 3) := by decide +kernel
theorem dX10_tell_93 : decode cX10_tell 93 = .ok (.isub, 1) := by decide +kernel
theorem dX10_tell_94 : decode cX10_tell 94 = .ok (.ireturn, 1) := by decide +kernel
theorem dX10_tell_95 : decode cX10_tell 95 = .ok (.aload_n 0, 1) := by decide +kernel
theorem dX10_tell_96 : decode cX10_tell 96 = .ok (.getfield 15, 3) := by decide +kernel
theorem dX10_tell_99 : decode cX10_tell 99 = .ok (.iconst 0, 1) := by decide +kernel
theorem dX10_tell_100 : decode cX10_tell 100 = .ok (.aload_n 0, 1) := by decide +kernel
theorem dX10_tell_101 : decode cX10_tell 101 = .ok (.getfield 11, 3) := by decide +kernel
theorem dX10_tell_104 : decode cX10_tell 104 = .ok (.iconst 0, 1) := by decide +kernel
theorem dX10_tell_105 : decode cX10_tell 105 = .ok (.invokestatic 194, 3) := by decide +kernel
theorem dX10_tell_108 : decode cX10_tell 108 = .ok (.aload_n 0, 1) := by decide +kernel
theorem dX10_tell_109 : decode cX10_tell 109 = .ok (.iconst 0, 1) := by decide +kernel
theorem dX10_tell_110 : decode cX10_tell 110 = .ok (.putfield 198, 3) := by decide +kernel
theorem dX10_tell_113 : decode cX10_tell 113 = .ok (.aload_n 0, 1) := by decide +kernel
theorem dX10_tell_114 : decode cX10_tell 114 = .ok (.getfield 11, 3) := by decide +kernel
theorem dX10_tell_117 : decode cX10_tell 117 = .ok (.sipush 1356, 3) := by decide +kernel
theorem dX10_tell_120 : decode cX10_tell 120 = .ok (.iaload, 1) := by decide +kernel
theorem dX10_tell_121 : decode cX10_tell 121 = .ok (.ireturn, 1) := by decide +kernel
theorem dX10_isUnit_0 : decode cX10_isUnit 0 = .ok (.iload_n 1, 1) := by decide +kernel
theorem dX10_isUnit_1 : decode cX10_isUnit 1 = .ok (.iconst 0, 1) := by decide +kernel
theorem dX10_isUnit_2 : decode cX10_isUnit 2 = .ok (.aload_n 0, 1) := by decide +kernel
theorem dX10_isUnit_3 : decode cX10_isUnit 3 = .ok (.getfield 11, 3) := by decide +kernel
theorem dX10_isUnit_6 : decode cX10_isUnit 6 = .ok (.sipush 1356, 3) := by decide +kernel
theorem dX10_isUnit_9 : decode cX10_isUnit 9 = .ok (.iaload, 1) := by decide +kernel
theorem dX10_isUnit_10 : decode cX10_isUnit 10 = .ok (.iconst 1, 1) := by decide +kernel
theorem dX10_isUnit_11 : decode cX10_isUnit 11 = .ok (.isub, 1) := by decide +kernel
theorem dX10_isUnit_12 : decode cX10_isUnit 12 = .ok (.invokestatic 88, 3) := by decide +kernel
theorem dX10_isUnit_15 : decode cX10_isUnit 15 = .ok (.ireturn, 1) := by decide +kernel
theorem dX10_isTrait_0 : decode cX10_isTrait 0 = .ok (.aload_n 0, 1) := by decide +kernel
theorem dX10_isTrait_1 : decode cX10_isTrait 1 = .ok (.getfield 11, 3) := by decide +kernel
theorem dX10_isTrait_4 : decode cX10_isTrait 4 = .ok (.bipush 113, 2) := by decide +kernel
theorem dX10_isTrait_6 : decode cX10_isTrait 6 = .ok (.iload_n 1, 1) := by decide +kernel
theorem dX10_isTrait_7 : decode cX10_isTrait 7 = .ok (.imul, 1) := by decide +kernel
theorem dX10_isTrait_8 : decode cX10_isTrait 8 = .ok (.iconst 0, 1) := by decide +kernel
theorem dX10_isTrait_9 : decode cX10_isTrait 9 = .ok (.iadd, 1) := by decide +kernel
theorem dX10_isTrait_10 : decode cX10_isTrait 10 = .ok (.iaload, 1) := by decide +kernel
theorem dX10_isTrait_11 : decode cX10_isTrait 11 = .ok (.iconst 1, 1) := by decide +kernel
theorem dX10_isTrait_12 : decode cX10_isTrait 12 = .ok (.if_icmp .ne 7, 3) := by decide +kernel
theorem dX10_isTrait_15 : decode cX10_isTrait 15 = .ok (.iconst 1, 1) := by decide +kernel
theorem dX10_isTrait_16 : decode cX10_isTrait 16 = .ok (.goto 4, 3) := by decide +kernel
theorem dX10_isTrait_19 : decode cX10_isTrait 19 = .ok (.iconst 0, 1) := by decide +kernel
theorem dX10_isTrait_20 : decode cX10_isTrait 20 = .ok (.ireturn, 1) := by decide +kernel
theorem dX10_isType_0 : decode cX10_isType 0 = .ok (.aload_n 0, 1) := by decide +kernel
theorem dX10_isType_1 : decode cX10_isType 1 = .ok (.iload_n 1, 1) := by decide +kernel
theorem dX10_isType_2 : decode cX10_isType 2 = .ok (.invokevirtual 201, 3) := by decide +kernel
theorem dX10_isType_5 : decode cX10_isType 5 = .ok (.ifCond .eq 15, 3) := by decide +kernel
theorem dX10_isType_8 : decode cX10_isType 8 = .ok (.aload_n 0, 1) := by decide +kernel
theorem dX10_isType_9 : decode cX10_isType 9 = .ok (.iload_n 1, 1) := by decide +kernel
theorem dX10_isType_10 : decode cX10_isType 10 = .ok (.invokevirtual 204, 3) := by decide +kernel
theorem dX10_isType_13 : decode cX10_isType 13 = .ok (.ifCond .ne 7, 3) := by decide +kernel
theorem dX10_isType_16 : decode cX10_isType 16 = .ok (.iconst 1, 1) := by decide +kernel
theorem dX10_isType_17 : decode cX10_isType 17 = .ok (.goto 4, 3) := by decide +kernel
theorem dX10_isType_20 : decode cX10_isType 20 = .ok (.iconst 0, 1) := by decide +kernel
theorem dX10_isType_21 : decode cX10_isType 21 = .ok (.ireturn, 1) := by decide +kernel
theorem dX10_parents_0 : decode cX10_parents 0 = .ok (.aload_n 0, 1) := by decide +kernel
theorem dX10_parents_1 : decode cX10_parents 1 = .ok (.getfield 11, 3) := by decide +kernel
theorem dX10_parents_4 : decode cX10_parents 4 = .ok (.bipush 113, 2) := by decide +kernel
theorem dX10_parents_6 : decode cX10_parents 6 = .ok (.iload_n 1, 1) := by decide +kernel
theorem dX10_parents_7 : decode cX10_parents 7 = .ok (.imul, 1) := by decide +kernel
theorem dX10_parents_8 : decode cX10_parents 8 = .ok (.iconst 2, 1) := by decide +kernel
theorem dX10_parents_9 : decode cX10_parents 9 = .ok (.iadd, 1) := by decide +kernel
theorem dX10_parents_10 : decode cX10_parents 10 = .ok (.iaload, 1) := by decide +kernel
theorem dX10_parents_11 : decode cX10_parents 11 = .ok (.ireturn, 1) := by decide +kernel
theorem dX10_parentOf_0 : decode cX10_parentOf 0 = .ok (.aload_n 0, 1) := by decide +kernel
theorem dX10_parentOf_1 : decode cX10_parentOf 1 = .ok (.getfield 11, 3) := by decide +kernel
theorem dX10_parentOf_4 : decode cX10_parentOf 4 = .ok (.bipush 113, 2) := by decide +kernel
theorem dX10_parentOf_6 : decode cX10_parentOf 6 = .ok (.iload_n 1, 1) := by decide +kernel
theorem dX10_parentOf_7 : decode cX10_parentOf 7 = .ok (.imul, 1) := by decide +kernel
theorem dX10_parentOf_8 : decode cX10_parentOf 8 = .ok (.iconst 2, 1) := by decide +kernel
theorem dX10_parentOf_9 : decode cX10_parentOf 9 = .ok (.iadd, 1) := by decide +kernel
theorem dX10_parentOf_10 : decode cX10_parentOf 10 = .ok (.iconst 1, 1) := by decide +kernel
theorem dX10_parentOf_11 : decode cX10_parentOf 11 = .ok (.iadd, 1) := by decide +kernel
theorem dX10_parentOf_12 : decode cX10_parentOf 12 = .ok (.iload_n 2, 1) := by decide +kernel
theorem dX10_parentOf_13 : decode cX10_parentOf 13 = .ok (.iadd, 1) := by decide +kernel
theorem dX10_parentOf_14 : decode cX10_parentOf 14 = .ok (.iaload, 1) := by decide +kernel
theorem dX10_parentOf_15 : decode cX10_parentOf 15 = .ok (.ireturn, 1) := by decide +kernel
theorem dX10_uses_0 : decode cX10_uses 0 = .ok (.aload_n 0, 1) := by decide +kernel
theorem dX10_uses_1 : decode cX10_uses 1 = .ok (.getfield 11, 3) := by decide +kernel
theorem dX10_uses_4 : decode cX10_uses 4 = .ok (.bipush 113, 2) := by decide +kernel
theorem dX10_uses_6 : decode cX10_uses 6 = .ok (.iload_n 1, 1) := by decide +kernel
theorem dX10_uses_7 : decode cX10_uses 7 = .ok (.imul, 1) := by decide +kernel
theorem dX10_uses_8 : decode cX10_uses 8 = .ok (.bipush 7, 2) := by decide +kernel
theorem dX10_uses_10 : decode cX10_uses 10 = .ok (.iadd, 1) := by decide +kernel
theorem dX10_uses_11 : decode cX10_uses 11 = .ok (.iaload, 1) := by decide +kernel
theorem dX10_uses_12 : decode cX10_uses 12 = .ok (.ireturn, 1) := by decide +kernel
theorem dX10_owns_0 : decode cX10_owns 0 = .ok (.aload_n 0, 1) := by decide +kernel
theorem dX10_owns_1 : decode cX10_owns 1 = .ok (.getfield 11, 3) := by decide +kernel
theorem dX10_owns_4 : decode cX10_owns 4 = .ok (.bipush 113, 2) := by decide +kernel
theorem dX10_owns_6 : decode cX10_owns 6 = .ok (.iload_n 1, 1) := by decide +kernel
theorem dX10_owns_7 : decode cX10_owns 7 = .ok (.imul, 1) := by decide +kernel
theorem dX10_owns_8 : decode cX10_owns 8 = .ok (.bipush 64, 2) := by decide +kernel
theorem dX10_owns_10 : decode cX10_owns 10 = .ok (.iadd, 1) := by decide +kernel
theorem dX10_owns_11 : decode cX10_owns 11 = .ok (.iaload, 1) := by decide +kernel
theorem dX10_owns_12 : decode cX10_owns 12 = .ok (.ireturn, 1) := by decide +kernel
theorem dX10_ownOf_0 : decode cX10_ownOf 0 = .ok (.iconst 0, 1) := by decide +kernel
theorem dX10_ownOf_1 : decode cX10_ownOf 1 = .ok (.istore_n 3, 1) := by decide +kernel
theorem dX10_ownOf_2 : decode cX10_ownOf 2 = .ok (.iload_n 3, 1) := by decide +kernel
theorem dX10_ownOf_3 : decode cX10_ownOf 3 = .ok (.aload_n 0, 1) := by decide +kernel
theorem dX10_ownOf_4 : decode cX10_ownOf 4 = .ok (.iload_n 1, 1) := by decide +kernel
theorem dX10_ownOf_5 : decode cX10_ownOf 5 = .ok (.invokevirtual 207, 3) := by decide +kernel
theorem dX10_ownOf_8 : decode cX10_ownOf 8 = .ok (.if_icmp .ge 25, 3) := by decide +kernel
theorem dX10_ownOf_11 : decode cX10_ownOf 11 = .ok (.aload_n 0, 1) := by decide +kernel
theorem dX10_ownOf_12 : decode cX10_ownOf 12 = .ok (.getfield 11, 3) := by decide +kernel
theorem dX10_ownOf_15 : decode cX10_ownOf 15 = .ok (.iload_n 1, 1) := by decide +kernel
theorem dX10_ownOf_16 : decode cX10_ownOf 16 = .ok (.iload_n 3, 1) := by decide +kernel
theorem dX10_ownOf_17 : decode cX10_ownOf 17 = .ok (.invokestatic 168, 3) := by decide +kernel
theorem dX10_ownOf_20 : decode cX10_ownOf 20 = .ok (.iaload, 1) := by decide +kernel
theorem dX10_ownOf_21 : decode cX10_ownOf 21 = .ok (.iload_n 2, 1) := by decide +kernel
theorem dX10_ownOf_22 : decode cX10_ownOf 22 = .ok (.if_icmp .ne 5, 3) := by decide +kernel
theorem dX10_ownOf_25 : decode cX10_ownOf 25 = .ok (.iload_n 3, 1) := by decide +kernel
theorem dX10_ownOf_26 : decode cX10_ownOf 26 = .ok (.ireturn, 1) := by decide +kernel
theorem dX10_ownOf_27 : decode cX10_ownOf 27 = .ok (.iinc 3 1, 3) := by decide +kernel
theorem dX10_ownOf_30 : decode cX10_ownOf 30 = .ok (.goto (-28), 3) := by decide +kernel
theorem dX10_ownOf_33 : decode cX10_ownOf 33 = .ok (.iconst (-1), 1) := by decide +kernel
theorem dX10_ownOf_34 : decode cX10_ownOf 34 = .ok (.ireturn, 1) := by decide +kernel
theorem dX10_useOf_0 : decode cX10_useOf 0 = .ok (.iconst 0, 1) := by decide +kernel
theorem dX10_useOf_1 : decode cX10_useOf 1 = .ok (.istore_n 3, 1) := by decide +kernel
theorem dX10_useOf_2 : decode cX10_useOf 2 = .ok (.iload_n 3, 1) := by decide +kernel
theorem dX10_useOf_3 : decode cX10_useOf 3 = .ok (.aload_n 0, 1) := by decide +kernel
theorem dX10_useOf_4 : decode cX10_useOf 4 = .ok (.iload_n 1, 1) := by decide +kernel
theorem dX10_useOf_5 : decode cX10_useOf 5 = .ok (.invokevirtual 210, 3) := by decide +kernel
theorem dX10_useOf_8 : decode cX10_useOf 8 = .ok (.if_icmp .ge 25, 3) := by decide +kernel
theorem dX10_useOf_11 : decode cX10_useOf 11 = .ok (.aload_n 0, 1) := by decide +kernel
theorem dX10_useOf_12 : decode cX10_useOf 12 = .ok (.getfield 11, 3) := by decide +kernel
theorem dX10_useOf_15 : decode cX10_useOf 15 = .ok (.iload_n 1, 1) := by decide +kernel
theorem dX10_useOf_16 : decode cX10_useOf 16 = .ok (.iload_n 3, 1) := by decide +kernel
theorem dX10_useOf_17 : decode cX10_useOf 17 = .ok (.invokestatic 147, 3) := by decide +kernel
theorem dX10_useOf_20 : decode cX10_useOf 20 = .ok (.iaload, 1) := by decide +kernel
theorem dX10_useOf_21 : decode cX10_useOf 21 = .ok (.iload_n 2, 1) := by decide +kernel
theorem dX10_useOf_22 : decode cX10_useOf 22 = .ok (.if_icmp .ne 5, 3) := by decide +kernel
theorem dX10_useOf_25 : decode cX10_useOf 25 = .ok (.iload_n 3, 1) := by decide +kernel
theorem dX10_useOf_26 : decode cX10_useOf 26 = .ok (.ireturn, 1) := by decide +kernel
theorem dX10_useOf_27 : decode cX10_useOf 27 = .ok (.iinc 3 1, 3) := by decide +kernel
theorem dX10_useOf_30 : decode cX10_useOf 30 = .ok (.goto (-28), 3) := by decide +kernel
theorem dX10_useOf_33 : decode cX10_useOf 33 = .ok (.iconst (-1), 1) := by decide +kernel
theorem dX10_useOf_34 : decode cX10_useOf 34 = .ok (.ireturn, 1) := by decide +kernel
theorem dX10_changeAt_0 : decode cX10_changeAt 0 = .ok (.iload_n 1, 1) := by decide +kernel
theorem dX10_changeAt_1 : decode cX10_changeAt 1 = .ok (.iload_n 2, 1) := by decide +kernel
theorem dX10_changeAt_2 : decode cX10_changeAt 2 = .ok (.invokestatic 147, 3) := by decide +kernel
theorem dX10_changeAt_5 : decode cX10_changeAt 5 = .ok (.istore 4, 2) := by decide +kernel
theorem dX10_changeAt_7 : decode cX10_changeAt 7 = .ok (.iconst 0, 1) := by decide +kernel
theorem dX10_changeAt_8 : decode cX10_changeAt 8 = .ok (.istore 5, 2) := by decide +kernel
theorem dX10_changeAt_10 : decode cX10_changeAt 10 = .ok (.iload 5, 2) := by decide +kernel
theorem dX10_changeAt_12 : decode cX10_changeAt 12 = .ok (.aload_n 0, 1) := by decide +kernel
theorem dX10_changeAt_13 : decode cX10_changeAt 13 = .ok (.getfield 11, 3) := by decide +kernel
theorem dX10_changeAt_16 : decode cX10_changeAt 16 = .ok (.iload 4, 2) := by decide +kernel
theorem dX10_changeAt_18 : decode cX10_changeAt 18 = .ok (.iconst 1, 1) := by decide +kernel
theorem dX10_changeAt_19 : decode cX10_changeAt 19 = .ok (.iadd, 1) := by decide +kernel
theorem dX10_changeAt_20 : decode cX10_changeAt 20 = .ok (.iaload, 1) := by decide +kernel
theorem dX10_changeAt_21 : decode cX10_changeAt 21 = .ok (.if_icmp .ge 37, 3) := by decide +kernel
theorem dX10_changeAt_24 : decode cX10_changeAt 24 = .ok (.aload_n 0, 1) := by decide +kernel
theorem dX10_changeAt_25 : decode cX10_changeAt 25 = .ok (.getfield 11, 3) := by decide +kernel
theorem dX10_changeAt_28 : decode cX10_changeAt 28 = .ok (.iload 4, 2) := by decide +kernel
theorem dX10_changeAt_30 : decode cX10_changeAt 30 = .ok (.iconst 2, 1) := by decide +kernel
theorem dX10_changeAt_31 : decode cX10_changeAt 31 = .ok (.iadd, 1) := by decide +kernel
theorem dX10_changeAt_32 : decode cX10_changeAt 32 = .ok (.iconst 2, 1) := by decide +kernel
theorem dX10_changeAt_33 : decode cX10_changeAt 33 = .ok (.iload 5, 2) := by decide +kernel
theorem dX10_changeAt_35 : decode cX10_changeAt 35 = .ok (.imul, 1) := by decide +kernel
theorem dX10_changeAt_36 : decode cX10_changeAt 36 = .ok (.iadd, 1) := by decide +kernel
theorem dX10_changeAt_37 : decode cX10_changeAt 37 = .ok (.iaload, 1) := by decide +kernel
theorem dX10_changeAt_38 : decode cX10_changeAt 38 = .ok (.iload_n 3, 1) := by decide +kernel
theorem dX10_changeAt_39 : decode cX10_changeAt 39 = .ok (.if_icmp .ne 13, 3) := by decide +kernel
theorem dX10_changeAt_42 : decode cX10_changeAt 42 = .ok (.iload 4, 2) := by decide +kernel
theorem dX10_changeAt_44 : decode cX10_changeAt 44 = .ok (.iconst 2, 1) := by decide +kernel
theorem dX10_changeAt_45 : decode cX10_changeAt 45 = .ok (.iadd, 1) := by decide +kernel
theorem dX10_changeAt_46 : decode cX10_changeAt 46 = .ok (.iconst 2, 1) := by decide +kernel
theorem dX10_changeAt_47 : decode cX10_changeAt 47 = .ok (.iload 5, 2) := by decide +kernel
theorem dX10_changeAt_49 : decode cX10_changeAt 49 = .ok (.imul, 1) := by decide +kernel
theorem dX10_changeAt_50 : decode cX10_changeAt 50 = .ok (.iadd, 1) := by decide +kernel
theorem dX10_changeAt_51 : decode cX10_changeAt 51 = .ok (.ireturn, 1) := by decide +kernel
theorem dX10_changeAt_52 : decode cX10_changeAt 52 = .ok (.iinc 5 1, 3) := by decide +kernel
theorem dX10_changeAt_55 : decode cX10_changeAt 55 = .ok (.goto (-45), 3) := by decide +kernel
theorem dX10_changeAt_58 : decode cX10_changeAt 58 = .ok (.iconst (-1), 1) := by decide +kernel
theorem dX10_changeAt_59 : decode cX10_changeAt 59 = .ok (.ireturn, 1) := by decide +kernel
theorem dX10_becomesIn_0 : decode cX10_becomesIn 0 = .ok (.aload_n 0, 1) := by decide +kernel
theorem dX10_becomesIn_1 : decode cX10_becomesIn 1 = .ok (.iload_n 1, 1) := by decide +kernel
theorem dX10_becomesIn_2 : decode cX10_becomesIn 2 = .ok (.iload_n 2, 1) := by decide +kernel
theorem dX10_becomesIn_3 : decode cX10_becomesIn 3 = .ok (.iload_n 3, 1) := by decide +kernel
theorem dX10_becomesIn_4 : decode cX10_becomesIn 4 = .ok (.invokevirtual 212, 3) := by decide +kernel
theorem dX10_becomesIn_7 : decode cX10_becomesIn 7 = .ok (.istore 4, 2) := by decide +kernel
theorem dX10_becomesIn_9 : decode cX10_becomesIn 9 = .ok (.iload 4, 2) := by decide +kernel
theorem dX10_becomesIn_11 : decode cX10_becomesIn 11 = .ok (.iconst (-1), 1) := by decide +kernel
theorem dX10_becomesIn_12 : decode cX10_becomesIn 12 = .ok (.if_icmp .ne 7, 3) := by decide +kernel
theorem dX10_becomesIn_15 : decode cX10_becomesIn 15 = .ok (.iload_n 3, 1) := by decide +kernel
theorem dX10_becomesIn_16 : decode cX10_becomesIn 16 = .ok (.goto 12, 3) := by decide +kernel
theorem dX10_becomesIn_19 : decode cX10_becomesIn 19 = .ok (.aload_n 0, 1) := by decide +kernel
theorem dX10_becomesIn_20 : decode cX10_becomesIn 20 = .ok (.getfield 11, 3) := by decide +kernel
theorem dX10_becomesIn_23 : decode cX10_becomesIn 23 = .ok (.iload 4, 2) := by decide +kernel
theorem dX10_becomesIn_25 : decode cX10_becomesIn 25 = .ok (.iconst 1, 1) := by decide +kernel
theorem dX10_becomesIn_26 : decode cX10_becomesIn 26 = .ok (.iadd, 1) := by decide +kernel
theorem dX10_becomesIn_27 : decode cX10_becomesIn 27 = .ok (.iaload, 1) := by decide +kernel
theorem dX10_becomesIn_28 : decode cX10_becomesIn 28 = .ok (.ireturn, 1) := by decide +kernel
theorem dX10_flatAt_0 : decode cX10_flatAt 0 = .ok (.iconst 5, 1) := by decide +kernel
theorem dX10_flatAt_1 : decode cX10_flatAt 1 = .ok (.bipush 26, 2) := by decide +kernel
theorem dX10_flatAt_3 : decode cX10_flatAt 3 = .ok (.iload_n 0, 1) := by decide +kernel
theorem dX10_flatAt_4 : decode cX10_flatAt 4 = .ok (.imul, 1) := by decide +kernel
theorem dX10_flatAt_5 : decode cX10_flatAt 5 = .ok (.iload_n 1, 1) := by decide +kernel
theorem dX10_flatAt_6 : decode cX10_flatAt 6 = .ok (.iadd, 1) := by decide +kernel
theorem dX10_flatAt_7 : decode cX10_flatAt 7 = .ok (.imul, 1) := by decide +kernel
theorem dX10_flatAt_8 : decode cX10_flatAt 8 = .ok (.ireturn, 1) := by decide +kernel
theorem dX10_kindOf_0 : decode cX10_kindOf 0 = .ok (.aload_n 0, 1) := by decide +kernel
theorem dX10_kindOf_1 : decode cX10_kindOf 1 = .ok (.getfield 32, 3) := by decide +kernel
theorem dX10_kindOf_4 : decode cX10_kindOf 4 = .ok (.iload_n 1, 1) := by decide +kernel
theorem dX10_kindOf_5 : decode cX10_kindOf 5 = .ok (.iload_n 2, 1) := by decide +kernel
theorem dX10_kindOf_6 : decode cX10_kindOf 6 = .ok (.invokestatic 216, 3) := by decide +kernel
theorem dX10_kindOf_9 : decode cX10_kindOf 9 = .ok (.iaload, 1) := by decide +kernel
theorem dX10_kindOf_10 : decode cX10_kindOf 10 = .ok (.ireturn, 1) := by decide +kernel
theorem dX10_gives_0 : decode cX10_gives 0 = .ok (.aload_n 0, 1) := by decide +kernel
theorem dX10_gives_1 : decode cX10_gives 1 = .ok (.getfield 32, 3) := by decide +kernel
theorem dX10_gives_4 : decode cX10_gives 4 = .ok (.iload_n 1, 1) := by decide +kernel
theorem dX10_gives_5 : decode cX10_gives 5 = .ok (.iaload, 1) := by decide +kernel
theorem dX10_gives_6 : decode cX10_gives 6 = .ok (.ifCond .eq 13, 3) := by decide +kernel
theorem dX10_gives_9 : decode cX10_gives 9 = .ok (.aload_n 0, 1) := by decide +kernel
theorem dX10_gives_10 : decode cX10_gives 10 = .ok (.getfield 32, 3) := by decide +kernel
theorem dX10_gives_13 : decode cX10_gives 13 = .ok (.iload_n 1, 1) := by decide +kernel
theorem dX10_gives_14 : decode cX10_gives 14 = .ok (.iaload, 1) := by decide +kernel
theorem dX10_gives_15 : decode cX10_gives 15 = .ok (.iconst 2, 1) := by decide +kernel
theorem dX10_gives_16 : decode cX10_gives 16 = .ok (.if_icmp .ne 29, 3) := by decide +kernel
theorem dX10_gives_19 : decode cX10_gives 19 = .ok (.aload_n 0, 1) := by decide +kernel
theorem dX10_gives_20 : decode cX10_gives 20 = .ok (.getfield 32, 3) := by decide +kernel
theorem dX10_gives_23 : decode cX10_gives 23 = .ok (.iload_n 1, 1) := by decide +kernel
theorem dX10_gives_24 : decode cX10_gives 24 = .ok (.iconst 1, 1) := by decide +kernel
theorem dX10_gives_25 : decode cX10_gives 25 = .ok (.iastore, 1) := by decide +kernel
theorem dX10_gives_26 : decode cX10_gives 26 = .ok (.aload_n 0, 1) := by decide +kernel
theorem dX10_gives_27 : decode cX10_gives 27 = .ok (.getfield 32, 3) := by decide +kernel
theorem dX10_gives_30 : decode cX10_gives 30 = .ok (.iload_n 1, 1) := by decide +kernel
theorem dX10_gives_31 : decode cX10_gives 31 = .ok (.iconst 1, 1) := by decide +kernel
theorem dX10_gives_32 : decode cX10_gives 32 = .ok (.iadd, 1) := by decide +kernel
theorem dX10_gives_33 : decode cX10_gives 33 = .ok (.iload_n 2, 1) := by decide +kernel
theorem dX10_gives_34 : decode cX10_gives 34 = .ok (.iastore, 1) := by decide +kernel
theorem dX10_gives_35 : decode cX10_gives 35 = .ok (.aload_n 0, 1) := by decide +kernel
theorem dX10_gives_36 : decode cX10_gives 36 = .ok (.getfield 32, 3) := by decide +kernel
theorem dX10_gives_39 : decode cX10_gives 39 = .ok (.iload_n 1, 1) := by decide +kernel
theorem dX10_gives_40 : decode cX10_gives 40 = .ok (.iconst 2, 1) := by decide +kernel
theorem dX10_gives_41 : decode cX10_gives 41 = .ok (.iadd, 1) := by decide +kernel
theorem dX10_gives_42 : decode cX10_gives 42 = .ok (.iload_n 3, 1) := by decide +kernel
theorem dX10_gives_43 : decode cX10_gives 43 = .ok (.iastore, 1) := by decide +kernel
theorem dX10_gives_44 : decode cX10_gives 44 = .ok (.return_, 1) := by decide +kernel
theorem dX10_gives_45 : decode cX10_gives 45 = .ok (.aload_n 0, 1) := by decide +kernel
theorem dX10_gives_46 : decode cX10_gives 46 = .ok (.getfield 32, 3) := by decide +kernel
theorem dX10_gives_49 : decode cX10_gives 49 = .ok (.iload_n 1, 1) := by decide +kernel
theorem dX10_gives_50 : decode cX10_gives 50 = .ok (.iconst 1, 1) := by decide +kernel
theorem dX10_gives_51 : decode cX10_gives 51 = .ok (.iadd, 1) := by decide +kernel
theorem dX10_gives_52 : decode cX10_gives 52 = .ok (.iaload, 1) := by decide +kernel
theorem dX10_gives_53 : decode cX10_gives 53 = .ok (.iload_n 2, 1) := by decide +kernel
theorem dX10_gives_54 : decode cX10_gives 54 = .ok (.if_icmp .ne 19, 3) := by decide +kernel
theorem dX10_gives_57 : decode cX10_gives 57 = .ok (.aload_n 0, 1) := by decide +kernel
theorem dX10_gives_58 : decode cX10_gives 58 = .ok (.getfield 32, 3) := by decide +kernel
theorem dX10_gives_61 : decode cX10_gives 61 = .ok (.iload_n 1, 1) := by decide +kernel
theorem dX10_gives_62 : decode cX10_gives 62 = .ok (.iconst 2, 1) := by decide +kernel
theorem dX10_gives_63 : decode cX10_gives 63 = .ok (.iadd, 1) := by decide +kernel
theorem dX10_gives_64 : decode cX10_gives 64 = .ok (.iaload, 1) := by decide +kernel
theorem dX10_gives_65 : decode cX10_gives 65 = .ok (.iload_n 3, 1) := by decide +kernel
theorem dX10_gives_66 : decode cX10_gives 66 = .ok (.if_icmp .ne 7, 3) := by decide +kernel
theorem dX10_gives_69 : decode cX10_gives 69 = .ok (.iconst 1, 1) := by decide +kernel
theorem dX10_gives_70 : decode cX10_gives 70 = .ok (.goto 4, 3) := by decide +kernel
theorem dX10_gives_73 : decode cX10_gives 73 = .ok (.iconst 0, 1) := by decide +kernel
theorem dX10_gives_74 : decode cX10_gives 74 = .ok (.istore 4, 2) := by decide +kernel
theorem dX10_gives_76 : decode cX10_gives 76 = .ok (.iload 4, 2) := by decide +kernel
theorem dX10_gives_78 : decode cX10_gives 78 = .ok (.ifCond .ne 38, 3) := by decide +kernel
theorem dX10_gives_81 : decode cX10_gives 81 = .ok (.aload_n 0, 1) := by decide +kernel
theorem dX10_gives_82 : decode cX10_gives 82 = .ok (.getfield 32, 3) := by decide +kernel
theorem dX10_gives_85 : decode cX10_gives 85 = .ok (.iload_n 1, 1) := by decide +kernel
theorem dX10_gives_86 : decode cX10_gives 86 = .ok (.iaload, 1) := by decide +kernel
theorem dX10_gives_87 : decode cX10_gives 87 = .ok (.iconst 1, 1) := by decide +kernel
theorem dX10_gives_88 : decode cX10_gives 88 = .ok (.if_icmp .ne 28, 3) := by decide +kernel
theorem dX10_gives_91 : decode cX10_gives 91 = .ok (.aload_n 0, 1) := by decide +kernel
theorem dX10_gives_92 : decode cX10_gives 92 = .ok (.getfield 32, 3) := by decide +kernel
theorem dX10_gives_95 : decode cX10_gives 95 = .ok (.iload_n 1, 1) := by decide +kernel
theorem dX10_gives_96 : decode cX10_gives 96 = .ok (.iconst 3, 1) := by decide +kernel
theorem dX10_gives_97 : decode cX10_gives 97 = .ok (.iastore, 1) := by decide +kernel
theorem dX10_gives_98 : decode cX10_gives 98 = .ok (.aload_n 0, 1) := by decide +kernel
theorem dX10_gives_99 : decode cX10_gives 99 = .ok (.getfield 32, 3) := by decide +kernel
theorem dX10_gives_102 : decode cX10_gives 102 = .ok (.iload_n 1, 1) := by decide +kernel
theorem dX10_gives_103 : decode cX10_gives 103 = .ok (.iconst 3, 1) := by decide +kernel
theorem dX10_gives_104 : decode cX10_gives 104 = .ok (.iadd, 1) := by decide +kernel
theorem dX10_gives_105 : decode cX10_gives 105 = .ok (.iload_n 2, 1) := by decide +kernel
theorem dX10_gives_106 : decode cX10_gives 106 = .ok (.iastore, 1) := by decide +kernel
theorem dX10_gives_107 : decode cX10_gives 107 = .ok (.aload_n 0, 1) := by decide +kernel
theorem dX10_gives_108 : decode cX10_gives 108 = .ok (.getfield 32, 3) := by decide +kernel
theorem dX10_gives_111 : decode cX10_gives 111 = .ok (.iload_n 1, 1) := by decide +kernel
theorem dX10_gives_112 : decode cX10_gives 112 = .ok (.iconst 4, 1) := by decide +kernel
theorem dX10_gives_113 : decode cX10_gives 113 = .ok (.iadd, 1) := by decide +kernel
theorem dX10_gives_114 : decode cX10_gives 114 = .ok (.iload_n 3, 1) := by decide +kernel
theorem dX10_gives_115 : decode cX10_gives 115 = .ok (.iastore, 1) := by decide +kernel
theorem dX10_gives_116 : decode cX10_gives 116 = .ok (.return_, 1) := by decide +kernel
theorem dX10_givesAll_0 : decode cX10_givesAll 0 = .ok (.aload_n 0, 1) := by decide +kernel
theorem dX10_givesAll_1 : decode cX10_givesAll 1 = .ok (.getfield 32, 3) := by decide +kernel
theorem dX10_givesAll_4 : decode cX10_givesAll 4 = .ok (.iload_n 2, 1) := by decide +kernel
theorem dX10_givesAll_5 : decode cX10_givesAll 5 = .ok (.iaload, 1) := by decide +kernel
theorem dX10_givesAll_6 : decode cX10_givesAll 6 = .ok (.iconst 2, 1) := by decide +kernel
theorem dX10_givesAll_7 : decode cX10_givesAll 7 = .ok (.if_icmp .ne 19, 3) := by decide +kernel
theorem dX10_givesAll_10 : decode cX10_givesAll 10 = .ok (.aload_n 0, 1) := by decide +kernel
theorem dX10_givesAll_11 : decode cX10_givesAll 11 = .ok (.getfield 32, 3) := by decide +kernel
theorem dX10_givesAll_14 : decode cX10_givesAll 14 = .ok (.iload_n 1, 1) := by decide +kernel
theorem dX10_givesAll_15 : decode cX10_givesAll 15 = .ok (.iaload, 1) := by decide +kernel
theorem dX10_givesAll_16 : decode cX10_givesAll 16 = .ok (.ifCond .ne 10, 3) := by decide +kernel
theorem dX10_givesAll_19 : decode cX10_givesAll 19 = .ok (.aload_n 0, 1) := by decide +kernel
theorem dX10_givesAll_20 : decode cX10_givesAll 20 = .ok (.getfield 32, 3) := by decide +kernel
theorem dX10_givesAll_23 : decode cX10_givesAll 23 = .ok (.iload_n 1, 1) := by decide +kernel
theorem dX10_givesAll_24 : decode cX10_givesAll 24 = .ok (.iconst 2, 1) := by decide +kernel
theorem dX10_givesAll_25 : decode cX10_givesAll 25 = .ok (.iastore, 1) := by decide +kernel
theorem dX10_givesAll_26 : decode cX10_givesAll 26 = .ok (.aload_n 0, 1) := by decide +kernel
theorem dX10_givesAll_27 : decode cX10_givesAll 27 = .ok (.getfield 32, 3) := by decide +kernel
theorem dX10_givesAll_30 : decode cX10_givesAll 30 = .ok (.iload_n 2, 1) := by decide +kernel
theorem dX10_givesAll_31 : decode cX10_givesAll 31 = .ok (.iaload, 1) := by decide +kernel
theorem dX10_givesAll_32 : decode cX10_givesAll 32 = .ok (.iconst 1, 1) := by decide +kernel
theorem dX10_givesAll_33 : decode cX10_givesAll 33 = .ok (.if_icmp .eq 13, 3) := by decide +kernel
theorem dX10_givesAll_36 : decode cX10_givesAll 36 = .ok (.aload_n 0, 1) := by decide +kernel
theorem dX10_givesAll_37 : decode cX10_givesAll 37 = .ok (.getfield 32, 3) := by decide +kernel
theorem dX10_givesAll_40 : decode cX10_givesAll 40 = .ok (.iload_n 2, 1) := by decide +kernel
theorem dX10_givesAll_41 : decode cX10_givesAll 41 = .ok (.iaload, 1) := by decide +kernel
theorem dX10_givesAll_42 : decode cX10_givesAll 42 = .ok (.iconst 3, 1) := by decide +kernel
theorem dX10_givesAll_43 : decode cX10_givesAll 43 = .ok (.if_icmp .ne 24, 3) := by decide +kernel
theorem dX10_givesAll_46 : decode cX10_givesAll 46 = .ok (.aload_n 0, 1) := by decide +kernel
theorem dX10_givesAll_47 : decode cX10_givesAll 47 = .ok (.iload_n 1, 1) := by decide +kernel
theorem dX10_givesAll_48 : decode cX10_givesAll 48 = .ok (.aload_n 0, 1) := by decide +kernel
theorem dX10_givesAll_49 : decode cX10_givesAll 49 = .ok (.getfield 32, 3) := by decide +kernel
theorem dX10_givesAll_52 : decode cX10_givesAll 52 = .ok (.iload_n 2, 1) := by decide +kernel
theorem dX10_givesAll_53 : decode cX10_givesAll 53 = .ok (.iconst 1, 1) := by decide +kernel
theorem dX10_givesAll_54 : decode cX10_givesAll 54 = .ok (.iadd, 1) := by decide +kernel
theorem dX10_givesAll_55 : decode cX10_givesAll 55 = .ok (.iaload, 1) := by decide +kernel
theorem dX10_givesAll_56 : decode cX10_givesAll 56 = .ok (.aload_n 0, 1) := by decide +kernel
theorem dX10_givesAll_57 : decode cX10_givesAll 57 = .ok (.getfield 32, 3) := by decide +kernel
theorem dX10_givesAll_60 : decode cX10_givesAll 60 = .ok (.iload_n 2, 1) := by decide +kernel
theorem dX10_givesAll_61 : decode cX10_givesAll 61 = .ok (.iconst 2, 1) := by decide +kernel
theorem dX10_givesAll_62 : decode cX10_givesAll 62 = .ok (.iadd, 1) := by decide +kernel
theorem dX10_givesAll_63 : decode cX10_givesAll 63 = .ok (.iaload, 1) := by decide +kernel
theorem dX10_givesAll_64 : decode cX10_givesAll 64 = .ok (.invokevirtual 219, 3) := by decide +kernel
theorem dX10_givesAll_67 : decode cX10_givesAll 67 = .ok (.aload_n 0, 1) := by decide +kernel
theorem dX10_givesAll_68 : decode cX10_givesAll 68 = .ok (.getfield 32, 3) := by decide +kernel
theorem dX10_givesAll_71 : decode cX10_givesAll 71 = .ok (.iload_n 2, 1) := by decide +kernel
theorem dX10_givesAll_72 : decode cX10_givesAll 72 = .ok (.iaload, 1) := by decide +kernel
theorem dX10_givesAll_73 : decode cX10_givesAll 73 = .ok (.iconst 3, 1) := by decide +kernel
theorem dX10_givesAll_74 : decode cX10_givesAll 74 = .ok (.if_icmp .ne 24, 3) := by decide +kernel
theorem dX10_givesAll_77 : decode cX10_givesAll 77 = .ok (.aload_n 0, 1) := by decide +kernel
theorem dX10_givesAll_78 : decode cX10_givesAll 78 = .ok (.iload_n 1, 1) := by decide +kernel
theorem dX10_givesAll_79 : decode cX10_givesAll 79 = .ok (.aload_n 0, 1) := by decide +kernel
theorem dX10_givesAll_80 : decode cX10_givesAll 80 = .ok (.getfield 32, 3) := by decide +kernel
theorem dX10_givesAll_83 : decode cX10_givesAll 83 = .ok (.iload_n 2, 1) := by decide +kernel
theorem dX10_givesAll_84 : decode cX10_givesAll 84 = .ok (.iconst 3, 1) := by decide +kernel
theorem dX10_givesAll_85 : decode cX10_givesAll 85 = .ok (.iadd, 1) := by decide +kernel
theorem dX10_givesAll_86 : decode cX10_givesAll 86 = .ok (.iaload, 1) := by decide +kernel
theorem dX10_givesAll_87 : decode cX10_givesAll 87 = .ok (.aload_n 0, 1) := by decide +kernel
theorem dX10_givesAll_88 : decode cX10_givesAll 88 = .ok (.getfield 32, 3) := by decide +kernel
theorem dX10_givesAll_91 : decode cX10_givesAll 91 = .ok (.iload_n 2, 1) := by decide +kernel
theorem dX10_givesAll_92 : decode cX10_givesAll 92 = .ok (.iconst 4, 1) := by decide +kernel
theorem dX10_givesAll_93 : decode cX10_givesAll 93 = .ok (.iadd, 1) := by decide +kernel
theorem dX10_givesAll_94 : decode cX10_givesAll 94 = .ok (.iaload, 1) := by decide +kernel
theorem dX10_givesAll_95 : decode cX10_givesAll 95 = .ok (.invokevirtual 219, 3) := by decide +kernel
theorem dX10_givesAll_98 : decode cX10_givesAll 98 = .ok (.return_, 1) := by decide +kernel
theorem dX10_laysFlat_0 : decode cX10_laysFlat 0 = .ok (.iconst 0, 1) := by decide +kernel
theorem dX10_laysFlat_1 : decode cX10_laysFlat 1 = .ok (.istore_n 2, 1) := by decide +kernel
theorem dX10_laysFlat_2 : decode cX10_laysFlat 2 = .ok (.iload_n 2, 1) := by decide +kernel
theorem dX10_laysFlat_3 : decode cX10_laysFlat 3 = .ok (.bipush 26, 2) := by decide +kernel
theorem dX10_laysFlat_5 : decode cX10_laysFlat 5 = .ok (.if_icmp .ge 20, 3) := by decide +kernel
theorem dX10_laysFlat_8 : decode cX10_laysFlat 8 = .ok (.aload_n 0, 1) := by decide +kernel
theorem dX10_laysFlat_9 : decode cX10_laysFlat 9 = .ok (.getfield 32, 3) := by decide +kernel
theorem dX10_laysFlat_12 : decode cX10_laysFlat 12 = .ok (.iload_n 1, 1) := by decide +kernel
theorem dX10_laysFlat_13 : decode cX10_laysFlat 13 = .ok (.iload_n 2, 1) := by decide +kernel
theorem dX10_laysFlat_14 : decode cX10_laysFlat 14 = .ok (.invokestatic 216, 3) := by decide +kernel
theorem dX10_laysFlat_17 : decode cX10_laysFlat 17 = .ok (.iconst 0, 1) := by decide +kernel
theorem dX10_laysFlat_18 : decode cX10_laysFlat 18 = .ok (.iastore, 1) := by decide +kernel
theorem dX10_laysFlat_19 : decode cX10_laysFlat 19 = .ok (.iinc 2 1, 3) := by decide +kernel
theorem dX10_laysFlat_22 : decode cX10_laysFlat 22 = .ok (.goto (-20), 3) := by decide +kernel
theorem dX10_laysFlat_25 : decode cX10_laysFlat 25 = .ok (.iconst 0, 1) := by decide +kernel
theorem dX10_laysFlat_26 : decode cX10_laysFlat 26 = .ok (.istore_n 2, 1) := by decide +kernel
theorem dX10_laysFlat_27 : decode cX10_laysFlat 27 = .ok (.iload_n 2, 1) := by decide +kernel
theorem dX10_laysFlat_28 : decode cX10_laysFlat 28 = .ok (.aload_n 0, 1) := by decide +kernel
theorem dX10_laysFlat_29 : decode cX10_laysFlat 29 = .ok (.iload_n 1, 1) := by decide +kernel
theorem dX10_laysFlat_30 : decode cX10_laysFlat 30 = .ok (.invokevirtual 207, 3) := by decide +kernel
theorem dX10_laysFlat_33 : decode cX10_laysFlat 33 = .ok (.if_icmp .ge 46, 3) := by decide +kernel
theorem dX10_laysFlat_36 : decode cX10_laysFlat 36 = .ok (.iload_n 1, 1) := by decide +kernel
theorem dX10_laysFlat_37 : decode cX10_laysFlat 37 = .ok (.iload_n 2, 1) := by decide +kernel
theorem dX10_laysFlat_38 : decode cX10_laysFlat 38 = .ok (.invokestatic 168, 3) := by decide +kernel
theorem dX10_laysFlat_41 : decode cX10_laysFlat 41 = .ok (.istore_n 3, 1) := by decide +kernel
theorem dX10_laysFlat_42 : decode cX10_laysFlat 42 = .ok (.aload_n 0, 1) := by decide +kernel
theorem dX10_laysFlat_43 : decode cX10_laysFlat 43 = .ok (.getfield 32, 3) := by decide +kernel
theorem dX10_laysFlat_46 : decode cX10_laysFlat 46 = .ok (.iload_n 1, 1) := by decide +kernel
theorem dX10_laysFlat_47 : decode cX10_laysFlat 47 = .ok (.aload_n 0, 1) := by decide +kernel
theorem dX10_laysFlat_48 : decode cX10_laysFlat 48 = .ok (.getfield 11, 3) := by decide +kernel
theorem dX10_laysFlat_51 : decode cX10_laysFlat 51 = .ok (.iload_n 3, 1) := by decide +kernel
theorem dX10_laysFlat_52 : decode cX10_laysFlat 52 = .ok (.iaload, 1) := by decide +kernel
theorem dX10_laysFlat_53 : decode cX10_laysFlat 53 = .ok (.invokestatic 216, 3) := by decide +kernel
theorem dX10_laysFlat_56 : decode cX10_laysFlat 56 = .ok (.aload_n 0, 1) := by decide +kernel
theorem dX10_laysFlat_57 : decode cX10_laysFlat 57 = .ok (.getfield 11, 3) := by decide +kernel
theorem dX10_laysFlat_60 : decode cX10_laysFlat 60 = .ok (.iload_n 3, 1) := by decide +kernel
theorem dX10_laysFlat_61 : decode cX10_laysFlat 61 = .ok (.iconst 1, 1) := by decide +kernel
theorem dX10_laysFlat_62 : decode cX10_laysFlat 62 = .ok (.iadd, 1) := by decide +kernel
theorem dX10_laysFlat_63 : decode cX10_laysFlat 63 = .ok (.iaload, 1) := by decide +kernel
theorem dX10_laysFlat_64 : decode cX10_laysFlat 64 = .ok (.ifCond .ne 7, 3) := by decide +kernel
theorem dX10_laysFlat_67 : decode cX10_laysFlat 67 = .ok (.iconst 2, 1) := by decide +kernel
theorem dX10_laysFlat_68 : decode cX10_laysFlat 68 = .ok (.goto 4, 3) := by decide +kernel
theorem dX10_laysFlat_71 : decode cX10_laysFlat 71 = .ok (.iconst 0, 1) := by decide +kernel
theorem dX10_laysFlat_72 : decode cX10_laysFlat 72 = .ok (.iastore, 1) := by decide +kernel
theorem dX10_laysFlat_73 : decode cX10_laysFlat 73 = .ok (.iinc 2 1, 3) := by decide +kernel
theorem dX10_laysFlat_76 : decode cX10_laysFlat 76 = .ok (.goto (-49), 3) := by decide +kernel
theorem dX10_laysFlat_79 : decode cX10_laysFlat 79 = .ok (.iconst 0, 1) := by decide +kernel
theorem dX10_laysFlat_80 : decode cX10_laysFlat 80 = .ok (.istore_n 2, 1) := by decide +kernel
theorem dX10_laysFlat_81 : decode cX10_laysFlat 81 = .ok (.iload_n 2, 1) := by decide +kernel
theorem dX10_laysFlat_82 : decode cX10_laysFlat 82 = .ok (.aload_n 0, 1) := by decide +kernel
theorem dX10_laysFlat_83 : decode cX10_laysFlat 83 = .ok (.iload_n 1, 1) := by decide +kernel
theorem dX10_laysFlat_84 : decode cX10_laysFlat 84 = .ok (.invokevirtual 210, 3) := by decide +kernel
theorem dX10_laysFlat_87 : decode cX10_laysFlat 87 = .ok (.if_icmp .ge 62, 3) := by decide +kernel
theorem dX10_laysFlat_90 : decode cX10_laysFlat 90 = .ok (.iconst 0, 1) := by decide +kernel
theorem dX10_laysFlat_91 : decode cX10_laysFlat 91 = .ok (.istore_n 3, 1) := by decide +kernel
theorem dX10_laysFlat_92 : decode cX10_laysFlat 92 = .ok (.iload_n 3, 1) := by decide +kernel
theorem dX10_laysFlat_93 : decode cX10_laysFlat 93 = .ok (.bipush 26, 2) := by decide +kernel
theorem dX10_laysFlat_95 : decode cX10_laysFlat 95 = .ok (.if_icmp .ge 48, 3) := by decide +kernel
theorem dX10_laysFlat_98 : decode cX10_laysFlat 98 = .ok (.aload_n 0, 1) := by decide +kernel
theorem dX10_laysFlat_99 : decode cX10_laysFlat 99 = .ok (.iload_n 1, 1) := by decide +kernel
theorem dX10_laysFlat_100 : decode cX10_laysFlat 100 = .ok (.iload_n 2, 1) := by decide +kernel
theorem dX10_laysFlat_101 : decode cX10_laysFlat 101 = .ok (.iload_n 3, 1) := by decide +kernel
theorem dX10_laysFlat_102 : decode cX10_laysFlat 102 = .ok (.invokevirtual 222, 3) := by decide +kernel
theorem dX10_laysFlat_105 : decode cX10_laysFlat 105 = .ok (.istore 4, 2) := by decide +kernel
theorem dX10_laysFlat_107 : decode cX10_laysFlat 107 = .ok (.iload 4, 2) := by decide +kernel
theorem dX10_laysFlat_109 : decode cX10_laysFlat 109 = .ok (.iconst (-1), 1) := by decide +kernel
theorem dX10_laysFlat_110 : decode cX10_laysFlat 110 = .ok (.if_icmp .eq 27, 3) := by decide +kernel
theorem dX10_laysFlat_113 : decode cX10_laysFlat 113 = .ok (.aload_n 0, 1) := by decide +kernel
theorem dX10_laysFlat_114 : decode cX10_laysFlat 114 = .ok (.iload_n 1, 1) := by decide +kernel
theorem dX10_laysFlat_115 : decode cX10_laysFlat 115 = .ok (.iload 4, 2) := by decide +kernel
theorem dX10_laysFlat_117 : decode cX10_laysFlat 117 = .ok (.invokestatic 216, 3) := by decide +kernel
theorem dX10_laysFlat_120 : decode cX10_laysFlat 120 = .ok (.aload_n 0, 1) := by decide +kernel
theorem dX10_laysFlat_121 : decode cX10_laysFlat 121 = .ok (.getfield 11, 3) := by decide +kernel
theorem dX10_laysFlat_124 : decode cX10_laysFlat 124 = .ok (.iload_n 1, 1) := by decide +kernel
theorem dX10_laysFlat_125 : decode cX10_laysFlat 125 = .ok (.iload_n 2, 1) := by decide +kernel
theorem dX10_laysFlat_126 : decode cX10_laysFlat 126 = .ok (.invokestatic 147, 3) := by decide +kernel
theorem dX10_laysFlat_129 : decode cX10_laysFlat 129 = .ok (.iaload, 1) := by decide +kernel
theorem dX10_laysFlat_130 : decode cX10_laysFlat 130 = .ok (.iload_n 3, 1) := by decide +kernel
theorem dX10_laysFlat_131 : decode cX10_laysFlat 131 = .ok (.invokestatic 216, 3) := by decide +kernel
theorem dX10_laysFlat_134 : decode cX10_laysFlat 134 = .ok (.invokevirtual 225, 3) := by decide +kernel
theorem dX10_laysFlat_137 : decode cX10_laysFlat 137 = .ok (.iinc 3 1, 3) := by decide +kernel
theorem dX10_laysFlat_140 : decode cX10_laysFlat 140 = .ok (.goto (-48), 3) := by decide +kernel
theorem dX10_laysFlat_143 : decode cX10_laysFlat 143 = .ok (.iinc 2 1, 3) := by decide +kernel
theorem dX10_laysFlat_146 : decode cX10_laysFlat 146 = .ok (.goto (-65), 3) := by decide +kernel
theorem dX10_laysFlat_149 : decode cX10_laysFlat 149 = .ok (.iconst 0, 1) := by decide +kernel
theorem dX10_laysFlat_150 : decode cX10_laysFlat 150 = .ok (.istore_n 2, 1) := by decide +kernel
theorem dX10_laysFlat_151 : decode cX10_laysFlat 151 = .ok (.iload_n 2, 1) := by decide +kernel
theorem dX10_laysFlat_152 : decode cX10_laysFlat 152 = .ok (.aload_n 0, 1) := by decide +kernel
theorem dX10_laysFlat_153 : decode cX10_laysFlat 153 = .ok (.iload_n 1, 1) := by decide +kernel
theorem dX10_laysFlat_154 : decode cX10_laysFlat 154 = .ok (.invokevirtual 207, 3) := by decide +kernel
theorem dX10_laysFlat_157 : decode cX10_laysFlat 157 = .ok (.if_icmp .ge 83, 3) := by decide +kernel
theorem dX10_laysFlat_160 : decode cX10_laysFlat 160 = .ok (.iload_n 1, 1) := by decide +kernel
theorem dX10_laysFlat_161 : decode cX10_laysFlat 161 = .ok (.iload_n 2, 1) := by decide +kernel
theorem dX10_laysFlat_162 : decode cX10_laysFlat 162 = .ok (.invokestatic 168, 3) := by decide +kernel
theorem dX10_laysFlat_165 : decode cX10_laysFlat 165 = .ok (.istore_n 3, 1) := by decide +kernel
theorem dX10_laysFlat_166 : decode cX10_laysFlat 166 = .ok (.aload_n 0, 1) := by decide +kernel
theorem dX10_laysFlat_167 : decode cX10_laysFlat 167 = .ok (.getfield 11, 3) := by decide +kernel
theorem dX10_laysFlat_170 : decode cX10_laysFlat 170 = .ok (.iload_n 3, 1) := by decide +kernel
theorem dX10_laysFlat_171 : decode cX10_laysFlat 171 = .ok (.iconst 1, 1) := by decide +kernel
theorem dX10_laysFlat_172 : decode cX10_laysFlat 172 = .ok (.iadd, 1) := by decide +kernel
theorem dX10_laysFlat_173 : decode cX10_laysFlat 173 = .ok (.iaload, 1) := by decide +kernel
theorem dX10_laysFlat_174 : decode cX10_laysFlat 174 = .ok (.ifCond .le 60, 3) := by decide +kernel
theorem dX10_laysFlat_177 : decode cX10_laysFlat 177 = .ok (.aload_n 0, 1) := by decide +kernel
theorem dX10_laysFlat_178 : decode cX10_laysFlat 178 = .ok (.getfield 32, 3) := by decide +kernel
theorem dX10_laysFlat_181 : decode cX10_laysFlat 181 = .ok (.iload_n 1, 1) := by decide +kernel
theorem dX10_laysFlat_182 : decode cX10_laysFlat 182 = .ok (.aload_n 0, 1) := by decide +kernel
theorem dX10_laysFlat_183 : decode cX10_laysFlat 183 = .ok (.getfield 11, 3) := by decide +kernel
theorem dX10_laysFlat_186 : decode cX10_laysFlat 186 = .ok (.iload_n 3, 1) := by decide +kernel
theorem dX10_laysFlat_187 : decode cX10_laysFlat 187 = .ok (.iaload, 1) := by decide +kernel
theorem dX10_laysFlat_188 : decode cX10_laysFlat 188 = .ok (.invokestatic 216, 3) := by decide +kernel
theorem dX10_laysFlat_191 : decode cX10_laysFlat 191 = .ok (.iconst 1, 1) := by decide +kernel
theorem dX10_laysFlat_192 : decode cX10_laysFlat 192 = .ok (.iastore, 1) := by decide +kernel
theorem dX10_laysFlat_193 : decode cX10_laysFlat 193 = .ok (.aload_n 0, 1) := by decide +kernel
theorem dX10_laysFlat_194 : decode cX10_laysFlat 194 = .ok (.getfield 32, 3) := by decide +kernel
theorem dX10_laysFlat_197 : decode cX10_laysFlat 197 = .ok (.iload_n 1, 1) := by decide +kernel
theorem dX10_laysFlat_198 : decode cX10_laysFlat 198 = .ok (.aload_n 0, 1) := by decide +kernel
theorem dX10_laysFlat_199 : decode cX10_laysFlat 199 = .ok (.getfield 11, 3) := by decide +kernel
theorem dX10_laysFlat_202 : decode cX10_laysFlat 202 = .ok (.iload_n 3, 1) := by decide +kernel
theorem dX10_laysFlat_203 : decode cX10_laysFlat 203 = .ok (.iaload, 1) := by decide +kernel
theorem dX10_laysFlat_204 : decode cX10_laysFlat 204 = .ok (.invokestatic 216, 3) := by decide +kernel
theorem dX10_laysFlat_207 : decode cX10_laysFlat 207 = .ok (.iconst 1, 1) := by decide +kernel
theorem dX10_laysFlat_208 : decode cX10_laysFlat 208 = .ok (.iadd, 1) := by decide +kernel
theorem dX10_laysFlat_209 : decode cX10_laysFlat 209 = .ok (.iload_n 1, 1) := by decide +kernel
theorem dX10_laysFlat_210 : decode cX10_laysFlat 210 = .ok (.iastore, 1) := by decide +kernel
theorem dX10_laysFlat_211 : decode cX10_laysFlat 211 = .ok (.aload_n 0, 1) := by decide +kernel
theorem dX10_laysFlat_212 : decode cX10_laysFlat 212 = .ok (.getfield 32, 3) := by decide +kernel
theorem dX10_laysFlat_215 : decode cX10_laysFlat 215 = .ok (.iload_n 1, 1) := by decide +kernel
theorem dX10_laysFlat_216 : decode cX10_laysFlat 216 = .ok (.aload_n 0, 1) := by decide +kernel
theorem dX10_laysFlat_217 : decode cX10_laysFlat 217 = .ok (.getfield 11, 3) := by decide +kernel
theorem dX10_laysFlat_220 : decode cX10_laysFlat 220 = .ok (.iload_n 3, 1) := by decide +kernel
theorem dX10_laysFlat_221 : decode cX10_laysFlat 221 = .ok (.iaload, 1) := by decide +kernel
theorem dX10_laysFlat_222 : decode cX10_laysFlat 222 = .ok (.invokestatic 216, 3) := by decide +kernel
theorem dX10_laysFlat_225 : decode cX10_laysFlat 225 = .ok (.iconst 2, 1) := by decide +kernel
theorem dX10_laysFlat_226 : decode cX10_laysFlat 226 = .ok (.iadd, 1) := by decide +kernel
theorem dX10_laysFlat_227 : decode cX10_laysFlat 227 = .ok (.aload_n 0, 1) := by decide +kernel
theorem dX10_laysFlat_228 : decode cX10_laysFlat 228 = .ok (.getfield 11, 3) := by decide +kernel
theorem dX10_laysFlat_231 : decode cX10_laysFlat 231 = .ok (.iload_n 3, 1) := by decide +kernel
theorem dX10_laysFlat_232 : decode cX10_laysFlat 232 = .ok (.iaload, 1) := by decide +kernel
theorem dX10_laysFlat_233 : decode cX10_laysFlat 233 = .ok (.iastore, 1) := by decide +kernel
theorem dX10_laysFlat_234 : decode cX10_laysFlat 234 = .ok (.iinc 2 1, 3) := by decide +kernel
theorem dX10_laysFlat_237 : decode cX10_laysFlat 237 = .ok (.goto (-86), 3) := by decide +kernel
theorem dX10_laysFlat_240 : decode cX10_laysFlat 240 = .ok (.return_, 1) := by decide +kernel
theorem dX10_headOf_0 : decode cX10_headOf 0 = .ok (.aload_n 0, 1) := by decide +kernel
theorem dX10_headOf_1 : decode cX10_headOf 1 = .ok (.getfield 53, 3) := by decide +kernel
theorem dX10_headOf_4 : decode cX10_headOf 4 = .ok (.iload_n 1, 1) := by decide +kernel
theorem dX10_headOf_5 : decode cX10_headOf 5 = .ok (.iaload, 1) := by decide +kernel
theorem dX10_headOf_6 : decode cX10_headOf 6 = .ok (.aload_n 0, 1) := by decide +kernel
theorem dX10_headOf_7 : decode cX10_headOf 7 = .ok (.getfield 50, 3) := by decide +kernel
theorem dX10_headOf_10 : decode cX10_headOf 10 = .ok (.iload_n 1, 1) := by decide +kernel
theorem dX10_headOf_11 : decode cX10_headOf 11 = .ok (.iaload, 1) := by decide +kernel
theorem dX10_headOf_12 : decode cX10_headOf 12 = .ok (.if_icmp .ge 22, 3) := by decide +kernel
theorem dX10_headOf_15 : decode cX10_headOf 15 = .ok (.aload_n 0, 1) := by decide +kernel
theorem dX10_headOf_16 : decode cX10_headOf 16 = .ok (.getfield 47, 3) := by decide +kernel
theorem dX10_headOf_19 : decode cX10_headOf 19 = .ok (.bipush 12, 2) := by decide +kernel
theorem dX10_headOf_21 : decode cX10_headOf 21 = .ok (.iload_n 1, 1) := by decide +kernel
theorem dX10_headOf_22 : decode cX10_headOf 22 = .ok (.imul, 1) := by decide +kernel
theorem dX10_headOf_23 : decode cX10_headOf 23 = .ok (.aload_n 0, 1) := by decide +kernel
theorem dX10_headOf_24 : decode cX10_headOf 24 = .ok (.getfield 53, 3) := by decide +kernel
theorem dX10_headOf_27 : decode cX10_headOf 27 = .ok (.iload_n 1, 1) := by decide +kernel
theorem dX10_headOf_28 : decode cX10_headOf 28 = .ok (.iaload, 1) := by decide +kernel
theorem dX10_headOf_29 : decode cX10_headOf 29 = .ok (.iadd, 1) := by decide +kernel
theorem dX10_headOf_30 : decode cX10_headOf 30 = .ok (.iaload, 1) := by decide +kernel
theorem dX10_headOf_31 : decode cX10_headOf 31 = .ok (.goto 4, 3) := by decide +kernel
theorem dX10_headOf_34 : decode cX10_headOf 34 = .ok (.iconst (-1), 1) := by decide +kernel
theorem dX10_headOf_35 : decode cX10_headOf 35 = .ok (.ireturn, 1) := by decide +kernel
theorem dX10_isInTail_0 : decode cX10_isInTail 0 = .ok (.aload_n 0, 1) := by decide +kernel
theorem dX10_isInTail_1 : decode cX10_isInTail 1 = .ok (.getfield 53, 3) := by decide +kernel
theorem dX10_isInTail_4 : decode cX10_isInTail 4 = .ok (.iload_n 1, 1) := by decide +kernel
theorem dX10_isInTail_5 : decode cX10_isInTail 5 = .ok (.iaload, 1) := by decide +kernel
theorem dX10_isInTail_6 : decode cX10_isInTail 6 = .ok (.iconst 1, 1) := by decide +kernel
theorem dX10_isInTail_7 : decode cX10_isInTail 7 = .ok (.iadd, 1) := by decide +kernel
theorem dX10_isInTail_8 : decode cX10_isInTail 8 = .ok (.istore_n 3, 1) := by decide +kernel
theorem dX10_isInTail_9 : decode cX10_isInTail 9 = .ok (.iload_n 3, 1) := by decide +kernel
theorem dX10_isInTail_10 : decode cX10_isInTail 10 = .ok (.aload_n 0, 1) := by decide +kernel
theorem dX10_isInTail_11 : decode cX10_isInTail 11 = .ok (.getfield 50, 3) := by decide +kernel
theorem dX10_isInTail_14 : decode cX10_isInTail 14 = .ok (.iload_n 1, 1) := by decide +kernel
theorem dX10_isInTail_15 : decode cX10_isInTail 15 = .ok (.iaload, 1) := by decide +kernel
theorem dX10_isInTail_16 : decode cX10_isInTail 16 = .ok (.if_icmp .ge 26, 3) := by decide +kernel
theorem dX10_isInTail_19 : decode cX10_isInTail 19 = .ok (.aload_n 0, 1) := by decide +kernel
theorem dX10_isInTail_20 : decode cX10_isInTail 20 = .ok (.getfield 47, 3) := by decide +kernel
theorem dX10_isInTail_23 : decode cX10_isInTail 23 = .ok (.bipush 12, 2) := by decide +kernel
theorem dX10_isInTail_25 : decode cX10_isInTail 25 = .ok (.iload_n 1, 1) := by decide +kernel
theorem dX10_isInTail_26 : decode cX10_isInTail 26 = .ok (.imul, 1) := by decide +kernel
theorem dX10_isInTail_27 : decode cX10_isInTail 27 = .ok (.iload_n 3, 1) := by decide +kernel
theorem dX10_isInTail_28 : decode cX10_isInTail 28 = .ok (.iadd, 1) := by decide +kernel
theorem dX10_isInTail_29 : decode cX10_isInTail 29 = .ok (.iaload, 1) := by decide +kernel
theorem dX10_isInTail_30 : decode cX10_isInTail 30 = .ok (.iload_n 2, 1) := by decide +kernel
theorem dX10_isInTail_31 : decode cX10_isInTail 31 = .ok (.if_icmp .ne 5, 3) := by decide +kernel
theorem dX10_isInTail_34 : decode cX10_isInTail 34 = .ok (.iconst 1, 1) := by decide +kernel
theorem dX10_isInTail_35 : decode cX10_isInTail 35 = .ok (.ireturn, 1) := by decide +kernel
theorem dX10_isInTail_36 : decode cX10_isInTail 36 = .ok (.iinc 3 1, 3) := by decide +kernel
theorem dX10_isInTail_39 : decode cX10_isInTail 39 = .ok (.goto (-30), 3) := by decide +kernel
theorem dX10_isInTail_42 : decode cX10_isInTail 42 = .ok (.iconst 0, 1) := by decide +kernel
theorem dX10_isInTail_43 : decode cX10_isInTail 43 = .ok (.ireturn, 1) := by decide +kernel
theorem dX10_tailOf_0 : decode cX10_tailOf 0 = .ok (.iconst 0, 1) := by decide +kernel
theorem dX10_tailOf_1 : decode cX10_tailOf 1 = .ok (.istore_n 3, 1) := by decide +kernel
theorem dX10_tailOf_2 : decode cX10_tailOf 2 = .ok (.iload_n 3, 1) := by decide +kernel
theorem dX10_tailOf_3 : decode cX10_tailOf 3 = .ok (.iload_n 1, 1) := by decide +kernel
theorem dX10_tailOf_4 : decode cX10_tailOf 4 = .ok (.if_icmp .ge 20, 3) := by decide +kernel
theorem dX10_tailOf_7 : decode cX10_tailOf 7 = .ok (.aload_n 0, 1) := by decide +kernel
theorem dX10_tailOf_8 : decode cX10_tailOf 8 = .ok (.iload_n 3, 1) := by decide +kernel
theorem dX10_tailOf_9 : decode cX10_tailOf 9 = .ok (.iload_n 2, 1) := by decide +kernel
theorem dX10_tailOf_10 : decode cX10_tailOf 10 = .ok (.invokevirtual 228, 3) := by decide +kernel
theorem dX10_tailOf_13 : decode cX10_tailOf 13 = .ok (.ifCond .eq 5, 3) := by decide +kernel
theorem dX10_tailOf_16 : decode cX10_tailOf 16 = .ok (.iload_n 3, 1) := by decide +kernel
theorem dX10_tailOf_17 : decode cX10_tailOf 17 = .ok (.ireturn, 1) := by decide +kernel
theorem dX10_tailOf_18 : decode cX10_tailOf 18 = .ok (.iinc 3 1, 3) := by decide +kernel
theorem dX10_tailOf_21 : decode cX10_tailOf 21 = .ok (.goto (-19), 3) := by decide +kernel
theorem dX10_tailOf_24 : decode cX10_tailOf 24 = .ok (.iconst (-1), 1) := by decide +kernel
theorem dX10_tailOf_25 : decode cX10_tailOf 25 = .ok (.ireturn, 1) := by decide +kernel
theorem dX10_nextHead_0 : decode cX10_nextHead 0 = .ok (.iconst 0, 1) := by decide +kernel
theorem dX10_nextHead_1 : decode cX10_nextHead 1 = .ok (.istore_n 2, 1) := by decide +kernel
theorem dX10_nextHead_2 : decode cX10_nextHead 2 = .ok (.iload_n 2, 1) := by decide +kernel
theorem dX10_nextHead_3 : decode cX10_nextHead 3 = .ok (.iload_n 1, 1) := by decide +kernel
theorem dX10_nextHead_4 : decode cX10_nextHead 4 = .ok (.if_icmp .ge 38, 3) := by decide +kernel
theorem dX10_nextHead_7 : decode cX10_nextHead 7 = .ok (.aload_n 0, 1) := by decide +kernel
theorem dX10_nextHead_8 : decode cX10_nextHead 8 = .ok (.iload_n 2, 1) := by decide +kernel
theorem dX10_nextHead_9 : decode cX10_nextHead 9 = .ok (.invokevirtual 231, 3) := by decide +kernel
theorem dX10_nextHead_12 : decode cX10_nextHead 12 = .ok (.iconst (-1), 1) := by decide +kernel
theorem dX10_nextHead_13 : decode cX10_nextHead 13 = .ok (.if_icmp .eq 23, 3) := by decide +kernel
theorem dX10_nextHead_16 : decode cX10_nextHead 16 = .ok (.aload_n 0, 1) := by decide +kernel
theorem dX10_nextHead_17 : decode cX10_nextHead 17 = .ok (.iload_n 1, 1) := by decide +kernel
theorem dX10_nextHead_18 : decode cX10_nextHead 18 = .ok (.aload_n 0, 1) := by decide +kernel
theorem dX10_nextHead_19 : decode cX10_nextHead 19 = .ok (.iload_n 2, 1) := by decide +kernel
theorem dX10_nextHead_20 : decode cX10_nextHead 20 = .ok (.invokevirtual 231, 3) := by decide +kernel
theorem dX10_nextHead_23 : decode cX10_nextHead 23 = .ok (.invokevirtual 234, 3) := by decide +kernel
theorem dX10_nextHead_26 : decode cX10_nextHead 26 = .ok (.iconst (-1), 1) := by decide +kernel
theorem dX10_nextHead_27 : decode cX10_nextHead 27 = .ok (.if_icmp .ne 9, 3) := by decide +kernel
theorem dX10_nextHead_30 : decode cX10_nextHead 30 = .ok (.aload_n 0, 1) := by decide +kernel
theorem dX10_nextHead_31 : decode cX10_nextHead 31 = .ok (.iload_n 2, 1) := by decide +kernel
theorem dX10_nextHead_32 : decode cX10_nextHead 32 = .ok (.invokevirtual 231, 3) := by decide +kernel
theorem dX10_nextHead_35 : decode cX10_nextHead 35 = .ok (.ireturn, 1) := by decide +kernel
theorem dX10_nextHead_36 : decode cX10_nextHead 36 = .ok (.iinc 2 1, 3) := by decide +kernel
theorem dX10_nextHead_39 : decode cX10_nextHead 39 = .ok (.goto (-37), 3) := by decide +kernel
theorem dX10_nextHead_42 : decode cX10_nextHead 42 = .ok (.iconst (-1), 1) := by decide +kernel
theorem dX10_nextHead_43 : decode cX10_nextHead 43 = .ok (.ireturn, 1) := by decide +kernel
theorem dX10_isLeft_0 : decode cX10_isLeft 0 = .ok (.iconst 0, 1) := by decide +kernel
theorem dX10_isLeft_1 : decode cX10_isLeft 1 = .ok (.istore_n 2, 1) := by decide +kernel
theorem dX10_isLeft_2 : decode cX10_isLeft 2 = .ok (.iload_n 2, 1) := by decide +kernel
theorem dX10_isLeft_3 : decode cX10_isLeft 3 = .ok (.iload_n 1, 1) := by decide +kernel
theorem dX10_isLeft_4 : decode cX10_isLeft 4 = .ok (.if_icmp .ge 20, 3) := by decide +kernel
theorem dX10_isLeft_7 : decode cX10_isLeft 7 = .ok (.aload_n 0, 1) := by decide +kernel
theorem dX10_isLeft_8 : decode cX10_isLeft 8 = .ok (.iload_n 2, 1) := by decide +kernel
theorem dX10_isLeft_9 : decode cX10_isLeft 9 = .ok (.invokevirtual 231, 3) := by decide +kernel
theorem dX10_isLeft_12 : decode cX10_isLeft 12 = .ok (.iconst (-1), 1) := by decide +kernel
theorem dX10_isLeft_13 : decode cX10_isLeft 13 = .ok (.if_icmp .eq 5, 3) := by decide +kernel
theorem dX10_isLeft_16 : decode cX10_isLeft 16 = .ok (.iconst 1, 1) := by decide +kernel
theorem dX10_isLeft_17 : decode cX10_isLeft 17 = .ok (.ireturn, 1) := by decide +kernel
theorem dX10_isLeft_18 : decode cX10_isLeft 18 = .ok (.iinc 2 1, 3) := by decide +kernel
theorem dX10_isLeft_21 : decode cX10_isLeft 21 = .ok (.goto (-19), 3) := by decide +kernel
theorem dX10_isLeft_24 : decode cX10_isLeft 24 = .ok (.iconst 0, 1) := by decide +kernel
theorem dX10_isLeft_25 : decode cX10_isLeft 25 = .ok (.ireturn, 1) := by decide +kernel
theorem dX10_laysLine_0 : decode cX10_laysLine 0 = .ok (.aload_n 0, 1) := by decide +kernel
theorem dX10_laysLine_1 : decode cX10_laysLine 1 = .ok (.getfield 38, 3) := by decide +kernel
theorem dX10_laysLine_4 : decode cX10_laysLine 4 = .ok (.iload_n 1, 1) := by decide +kernel
theorem dX10_laysLine_5 : decode cX10_laysLine 5 = .ok (.iconst 0, 1) := by decide +kernel
theorem dX10_laysLine_6 : decode cX10_laysLine 6 = .ok (.iastore, 1) := by decide +kernel
theorem dX10_laysLine_7 : decode cX10_laysLine 7 = .ok (.aload_n 0, 1) := by decide +kernel
theorem dX10_laysLine_8 : decode cX10_laysLine 8 = .ok (.getfield 44, 3) := by decide +kernel
theorem dX10_laysLine_11 : decode cX10_laysLine 11 = .ok (.iload_n 1, 1) := by decide +kernel
theorem dX10_laysLine_12 : decode cX10_laysLine 12 = .ok (.iconst 0, 1) := by decide +kernel
theorem dX10_laysLine_13 : decode cX10_laysLine 13 = .ok (.iastore, 1) := by decide +kernel
theorem dX10_laysLine_14 : decode cX10_laysLine 14 = .ok (.aload_n 0, 1) := by decide +kernel
theorem dX10_laysLine_15 : decode cX10_laysLine 15 = .ok (.iload_n 1, 1) := by decide +kernel
theorem dX10_laysLine_16 : decode cX10_laysLine 16 = .ok (.invokevirtual 237, 3) := by decide +kernel
theorem dX10_laysLine_19 : decode cX10_laysLine 19 = .ok (.istore_n 2, 1) := by decide +kernel
theorem dX10_laysLine_20 : decode cX10_laysLine 20 = .ok (.iconst 0, 1) := by decide +kernel
theorem dX10_laysLine_21 : decode cX10_laysLine 21 = .ok (.istore_n 3, 1) := by decide +kernel
theorem dX10_laysLine_22 : decode cX10_laysLine 22 = .ok (.iload_n 3, 1) := by decide +kernel
theorem dX10_laysLine_23 : decode cX10_laysLine 23 = .ok (.iload_n 2, 1) := by decide +kernel
theorem dX10_laysLine_24 : decode cX10_laysLine 24 = .ok (.if_icmp .ge 107, 3) := by decide +kernel
theorem dX10_laysLine_27 : decode cX10_laysLine 27 = .ok (.aload_n 0, 1) := by decide +kernel
theorem dX10_laysLine_28 : decode cX10_laysLine 28 = .ok (.iload_n 1, 1) := by decide +kernel
theorem dX10_laysLine_29 : decode cX10_laysLine 29 = .ok (.iload_n 3, 1) := by decide +kernel
theorem dX10_laysLine_30 : decode cX10_laysLine 30 = .ok (.invokevirtual 240, 3) := by decide +kernel
theorem dX10_laysLine_33 : decode cX10_laysLine 33 = .ok (.istore 4, 2) := by decide +kernel
theorem dX10_laysLine_35 : decode cX10_laysLine 35 = .ok (.aload_n 0, 1) := by decide +kernel
theorem dX10_laysLine_36 : decode cX10_laysLine 36 = .ok (.getfield 38, 3) := by decide +kernel
theorem dX10_laysLine_39 : decode cX10_laysLine 39 = .ok (.iload 4, 2) := by decide +kernel
theorem dX10_laysLine_41 : decode cX10_laysLine 41 = .ok (.iaload, 1) := by decide +kernel
theorem dX10_laysLine_42 : decode cX10_laysLine 42 = .ok (.ifCond .ne 4, 3) := by decide +kernel
theorem dX10_laysLine_45 : decode cX10_laysLine 45 = .ok (.return_, 1) := by decide +kernel
theorem dX10_laysLine_46 : decode cX10_laysLine 46 = .ok (.aload_n 0, 1) := by decide +kernel
theorem dX10_laysLine_47 : decode cX10_laysLine 47 = .ok (.getfield 50, 3) := by decide +kernel
theorem dX10_laysLine_50 : decode cX10_laysLine 50 = .ok (.iload_n 3, 1) := by decide +kernel
theorem dX10_laysLine_51 : decode cX10_laysLine 51 = .ok (.aload_n 0, 1) := by decide +kernel
theorem dX10_laysLine_52 : decode cX10_laysLine 52 = .ok (.getfield 38, 3) := by decide +kernel
theorem dX10_laysLine_55 : decode cX10_laysLine 55 = .ok (.iload 4, 2) := by decide +kernel
theorem dX10_laysLine_57 : decode cX10_laysLine 57 = .ok (.iaload, 1) := by decide +kernel
theorem dX10_laysLine_58 : decode cX10_laysLine 58 = .ok (.iastore, 1) := by decide +kernel
theorem dX10_laysLine_59 : decode cX10_laysLine 59 = .ok (.aload_n 0, 1) := by decide +kernel
theorem dX10_laysLine_60 : decode cX10_laysLine 60 = .ok (.getfield 53, 3) := by decide +kernel
theorem dX10_laysLine_63 : decode cX10_laysLine 63 = .ok (.iload_n 3, 1) := by decide +kernel
theorem dX10_laysLine_64 : decode cX10_laysLine 64 = .ok (.iconst 0, 1) := by decide +kernel
theorem dX10_laysLine_65 : decode cX10_laysLine 65 = .ok (.iastore, 1) := by decide +kernel
theorem dX10_laysLine_66 : decode cX10_laysLine 66 = .ok (.iconst 0, 1) := by decide +kernel
theorem dX10_laysLine_67 : decode cX10_laysLine 67 = .ok (.istore 5, 2) := by decide +kernel
theorem dX10_laysLine_69 : decode cX10_laysLine 69 = .ok (.iload 5, 2) := by decide +kernel
theorem dX10_laysLine_71 : decode cX10_laysLine 71 = .ok (.aload_n 0, 1) := by decide +kernel
theorem dX10_laysLine_72 : decode cX10_laysLine 72 = .ok (.getfield 38, 3) := by decide +kernel
theorem dX10_laysLine_75 : decode cX10_laysLine 75 = .ok (.iload 4, 2) := by decide +kernel
theorem dX10_laysLine_77 : decode cX10_laysLine 77 = .ok (.iaload, 1) := by decide +kernel
theorem dX10_laysLine_78 : decode cX10_laysLine 78 = .ok (.if_icmp .ge 34, 3) := by decide +kernel
theorem dX10_laysLine_81 : decode cX10_laysLine 81 = .ok (.aload_n 0, 1) := by decide +kernel
theorem dX10_laysLine_82 : decode cX10_laysLine 82 = .ok (.getfield 47, 3) := by decide +kernel
theorem dX10_laysLine_85 : decode cX10_laysLine 85 = .ok (.bipush 12, 2) := by decide +kernel
theorem dX10_laysLine_87 : decode cX10_laysLine 87 = .ok (.iload_n 3, 1) := by decide +kernel
theorem dX10_laysLine_88 : decode cX10_laysLine 88 = .ok (.imul, 1) := by decide +kernel
theorem dX10_laysLine_89 : decode cX10_laysLine 89 = .ok (.iload 5, 2) := by decide +kernel
theorem dX10_laysLine_91 : decode cX10_laysLine 91 = .ok (.iadd, 1) := by decide +kernel
theorem dX10_laysLine_92 : decode cX10_laysLine 92 = .ok (.aload_n 0, 1) := by decide +kernel
theorem dX10_laysLine_93 : decode cX10_laysLine 93 = .ok (.getfield 35, 3) := by decide +kernel
theorem dX10_laysLine_96 : decode cX10_laysLine 96 = .ok (.bipush 12, 2) := by decide +kernel
theorem dX10_laysLine_98 : decode cX10_laysLine 98 = .ok (.iload 4, 2) := by decide +kernel
theorem dX10_laysLine_100 : decode cX10_laysLine 100 = .ok (.imul, 1) := by decide +kernel
theorem dX10_laysLine_101 : decode cX10_laysLine 101 = .ok (.iload 5, 2) := by decide +kernel
theorem dX10_laysLine_103 : decode cX10_laysLine 103 = .ok (.iadd, 1) := by decide +kernel
theorem dX10_laysLine_104 : decode cX10_laysLine 104 = .ok (.iaload, 1) := by decide +kernel
theorem dX10_laysLine_105 : decode cX10_laysLine 105 = .ok (.iastore, 1) := by decide +kernel
theorem dX10_laysLine_106 : decode cX10_laysLine 106 = .ok (.iinc 5 1, 3) := by decide +kernel
theorem dX10_laysLine_109 : decode cX10_laysLine 109 = .ok (.goto (-40), 3) := by decide +kernel
theorem dX10_laysLine_112 : decode cX10_laysLine 112 = .ok (.aload_n 0, 1) := by decide +kernel
theorem dX10_laysLine_113 : decode cX10_laysLine 113 = .ok (.getfield 47, 3) := by decide +kernel
theorem dX10_laysLine_116 : decode cX10_laysLine 116 = .ok (.bipush 12, 2) := by decide +kernel
theorem dX10_laysLine_118 : decode cX10_laysLine 118 = .ok (.iload_n 2, 1) := by decide +kernel
theorem dX10_laysLine_119 : decode cX10_laysLine 119 = .ok (.imul, 1) := by decide +kernel
theorem dX10_laysLine_120 : decode cX10_laysLine 120 = .ok (.iload_n 3, 1) := by decide +kernel
theorem dX10_laysLine_121 : decode cX10_laysLine 121 = .ok (.iadd, 1) := by decide +kernel
theorem dX10_laysLine_122 : decode cX10_laysLine 122 = .ok (.iload 4, 2) := by decide +kernel
theorem dX10_laysLine_124 : decode cX10_laysLine 124 = .ok (.iastore, 1) := by decide +kernel
theorem dX10_laysLine_125 : decode cX10_laysLine 125 = .ok (.iinc 3 1, 3) := by decide +kernel
theorem dX10_laysLine_128 : decode cX10_laysLine 128 = .ok (.goto (-106), 3) := by decide +kernel
theorem dX10_laysLine_131 : decode cX10_laysLine 131 = .ok (.aload_n 0, 1) := by decide +kernel
theorem dX10_laysLine_132 : decode cX10_laysLine 132 = .ok (.getfield 50, 3) := by decide +kernel
theorem dX10_laysLine_135 : decode cX10_laysLine 135 = .ok (.iload_n 2, 1) := by decide +kernel
theorem dX10_laysLine_136 : decode cX10_laysLine 136 = .ok (.iload_n 2, 1) := by decide +kernel
theorem dX10_laysLine_137 : decode cX10_laysLine 137 = .ok (.iastore, 1) := by decide +kernel
theorem dX10_laysLine_138 : decode cX10_laysLine 138 = .ok (.aload_n 0, 1) := by decide +kernel
theorem dX10_laysLine_139 : decode cX10_laysLine 139 = .ok (.getfield 53, 3) := by decide +kernel
theorem dX10_laysLine_142 : decode cX10_laysLine 142 = .ok (.iload_n 2, 1) := by decide +kernel
theorem dX10_laysLine_143 : decode cX10_laysLine 143 = .ok (.iconst 0, 1) := by decide +kernel
theorem dX10_laysLine_144 : decode cX10_laysLine 144 = .ok (.iastore, 1) := by decide +kernel
theorem dX10_laysLine_145 : decode cX10_laysLine 145 = .ok (.iconst 1, 1) := by decide +kernel
theorem dX10_laysLine_146 : decode cX10_laysLine 146 = .ok (.istore_n 3, 1) := by decide +kernel
theorem dX10_laysLine_147 : decode cX10_laysLine 147 = .ok (.aload_n 0, 1) := by decide +kernel
theorem dX10_laysLine_148 : decode cX10_laysLine 148 = .ok (.getfield 35, 3) := by decide +kernel
theorem dX10_laysLine_151 : decode cX10_laysLine 151 = .ok (.bipush 12, 2) := by decide +kernel
theorem dX10_laysLine_153 : decode cX10_laysLine 153 = .ok (.iload_n 1, 1) := by decide +kernel
theorem dX10_laysLine_154 : decode cX10_laysLine 154 = .ok (.imul, 1) := by decide +kernel
theorem dX10_laysLine_155 : decode cX10_laysLine 155 = .ok (.iload_n 1, 1) := by decide +kernel
theorem dX10_laysLine_156 : decode cX10_laysLine 156 = .ok (.iastore, 1) := by decide +kernel
theorem dX10_laysLine_157 : decode cX10_laysLine 157 = .ok (.aload_n 0, 1) := by decide +kernel
theorem dX10_laysLine_158 : decode cX10_laysLine 158 = .ok (.iload_n 2, 1) := by decide +kernel
theorem dX10_laysLine_159 : decode cX10_laysLine 159 = .ok (.iconst 1, 1) := by decide +kernel
theorem dX10_laysLine_160 : decode cX10_laysLine 160 = .ok (.iadd, 1) := by decide +kernel
theorem dX10_laysLine_161 : decode cX10_laysLine 161 = .ok (.invokevirtual 243, 3) := by decide +kernel
theorem dX10_laysLine_164 : decode cX10_laysLine 164 = .ok (.ifCond .eq 90, 3) := by decide +kernel
theorem dX10_laysLine_167 : decode cX10_laysLine 167 = .ok (.aload_n 0, 1) := by decide +kernel
theorem dX10_laysLine_168 : decode cX10_laysLine 168 = .ok (.iload_n 2, 1) := by decide +kernel
theorem dX10_laysLine_169 : decode cX10_laysLine 169 = .ok (.iconst 1, 1) := by decide +kernel
theorem dX10_laysLine_170 : decode cX10_laysLine 170 = .ok (.iadd, 1) := by decide +kernel
theorem dX10_laysLine_171 : decode cX10_laysLine 171 = .ok (.invokevirtual 246, 3) := by decide +kernel
theorem dX10_laysLine_174 : decode cX10_laysLine 174 = .ok (.istore 4, 2) := by decide +kernel
theorem dX10_laysLine_176 : decode cX10_laysLine 176 = .ok (.iload 4, 2) := by decide +kernel
theorem dX10_laysLine_178 : decode cX10_laysLine 178 = .ok (.iconst (-1), 1) := by decide +kernel
theorem dX10_laysLine_179 : decode cX10_laysLine 179 = .ok (.if_icmp .ne 12, 3) := by decide +kernel
theorem dX10_laysLine_182 : decode cX10_laysLine 182 = .ok (.aload_n 0, 1) := by decide +kernel
theorem dX10_laysLine_183 : decode cX10_laysLine 183 = .ok (.iload_n 1, 1) := by decide +kernel
theorem dX10_laysLine_184 : decode cX10_laysLine 184 = .ok (.iload_n 2, 1) := by decide +kernel
theorem dX10_laysLine_185 : decode cX10_laysLine 185 = .ok (.iconst 1, 1) := by decide +kernel
theorem dX10_laysLine_186 : decode cX10_laysLine 186 = .ok (.iadd, 1) := by decide +kernel
theorem dX10_laysLine_187 : decode cX10_laysLine 187 = .ok (.invokevirtual 249, 3) := by decide +kernel
theorem dX10_laysLine_190 : decode cX10_laysLine 190 = .ok (.return_, 1) := by decide +kernel
theorem dX10_laysLine_191 : decode cX10_laysLine 191 = .ok (.aload_n 0, 1) := by decide +kernel
theorem dX10_laysLine_192 : decode cX10_laysLine 192 = .ok (.getfield 35, 3) := by decide +kernel
theorem dX10_laysLine_195 : decode cX10_laysLine 195 = .ok (.bipush 12, 2) := by decide +kernel
theorem dX10_laysLine_197 : decode cX10_laysLine 197 = .ok (.iload_n 1, 1) := by decide +kernel
theorem dX10_laysLine_198 : decode cX10_laysLine 198 = .ok (.imul, 1) := by decide +kernel
theorem dX10_laysLine_199 : decode cX10_laysLine 199 = .ok (.iload_n 3, 1) := by decide +kernel
theorem dX10_laysLine_200 : decode cX10_laysLine 200 = .ok (.iadd, 1) := by decide +kernel
theorem dX10_laysLine_201 : decode cX10_laysLine 201 = .ok (.iload 4, 2) := by decide +kernel
theorem dX10_laysLine_203 : decode cX10_laysLine 203 = .ok (.iastore, 1) := by decide +kernel
theorem dX10_laysLine_204 : decode cX10_laysLine 204 = .ok (.iinc 3 1, 3) := by decide +kernel
theorem dX10_laysLine_207 : decode cX10_laysLine 207 = .ok (.iconst 0, 1) := by decide +kernel
theorem dX10_laysLine_208 : decode cX10_laysLine 208 = .ok (.istore 5, 2) := by decide +kernel
theorem dX10_laysLine_210 : decode cX10_laysLine 210 = .ok (.iload 5, 2) := by decide +kernel
theorem dX10_laysLine_212 : decode cX10_laysLine 212 = .ok (.iload_n 2, 1) := by decide +kernel
theorem dX10_laysLine_213 : decode cX10_laysLine 213 = .ok (.if_icmp .gt 38, 3) := by decide +kernel
theorem dX10_laysLine_216 : decode cX10_laysLine 216 = .ok (.aload_n 0, 1) := by decide +kernel
theorem dX10_laysLine_217 : decode cX10_laysLine 217 = .ok (.getfield 53, 3) := by decide +kernel
theorem dX10_laysLine_220 : decode cX10_laysLine 220 = .ok (.iload 5, 2) := by decide +kernel
theorem dX10_laysLine_222 : decode cX10_laysLine 222 = .ok (.dup2, 1) := by decide +kernel
theorem dX10_laysLine_223 : decode cX10_laysLine 223 = .ok (.iaload, 1) := by decide +kernel
theorem dX10_laysLine_224 : decode cX10_laysLine 224 = .ok (.aload_n 0, 1) := by decide +kernel
theorem dX10_laysLine_225 : decode cX10_laysLine 225 = .ok (.iload 5, 2) := by decide +kernel
theorem dX10_laysLine_227 : decode cX10_laysLine 227 = .ok (.invokevirtual 231, 3) := by decide +kernel
theorem dX10_laysLine_230 : decode cX10_laysLine 230 = .ok (.iload 4, 2) := by decide +kernel
theorem dX10_laysLine_232 : decode cX10_laysLine 232 = .ok (.if_icmp .ne 7, 3) := by decide +kernel
theorem dX10_laysLine_235 : decode cX10_laysLine 235 = .ok (.iconst 1, 1) := by decide +kernel
theorem dX10_laysLine_236 : decode cX10_laysLine 236 = .ok (.goto 4, 3) := by decide +kernel
theorem dX10_laysLine_239 : decode cX10_laysLine 239 = .ok (.iconst 0, 1) := by decide +kernel
theorem dX10_laysLine_240 : decode cX10_laysLine 240 = .ok (.invokestatic 104, 3) := by decide +kernel
theorem dX10_laysLine_243 : decode cX10_laysLine 243 = .ok (.iadd, 1) := by decide +kernel
theorem dX10_laysLine_244 : decode cX10_laysLine 244 = .ok (.iastore, 1) := by decide +kernel
theorem dX10_laysLine_245 : decode cX10_laysLine 245 = .ok (.iinc 5 1, 3) := by decide +kernel
theorem dX10_laysLine_248 : decode cX10_laysLine 248 = .ok (.goto (-38), 3) := by decide +kernel
theorem dX10_laysLine_251 : decode cX10_laysLine 251 = .ok (.goto (-94), 3) := by decide +kernel
theorem dX10_laysLine_254 : decode cX10_laysLine 254 = .ok (.aload_n 0, 1) := by decide +kernel
theorem dX10_laysLine_255 : decode cX10_laysLine 255 = .ok (.getfield 38, 3) := by decide +kernel
theorem dX10_laysLine_258 : decode cX10_laysLine 258 = .ok (.iload_n 1, 1) := by decide +kernel
theorem dX10_laysLine_259 : decode cX10_laysLine 259 = .ok (.iload_n 3, 1) := by decide +kernel
theorem dX10_laysLine_260 : decode cX10_laysLine 260 = .ok (.iastore, 1) := by decide +kernel
theorem dX10_laysLine_261 : decode cX10_laysLine 261 = .ok (.return_, 1) := by decide +kernel
theorem dX10_laysRing_0 : decode cX10_laysRing 0 = .ok (.iconst 0, 1) := by decide +kernel
theorem dX10_laysRing_1 : decode cX10_laysRing 1 = .ok (.istore_n 3, 1) := by decide +kernel
theorem dX10_laysRing_2 : decode cX10_laysRing 2 = .ok (.aload_n 0, 1) := by decide +kernel
theorem dX10_laysRing_3 : decode cX10_laysRing 3 = .ok (.iload_n 3, 1) := by decide +kernel
theorem dX10_laysRing_4 : decode cX10_laysRing 4 = .ok (.invokevirtual 231, 3) := by decide +kernel
theorem dX10_laysRing_7 : decode cX10_laysRing 7 = .ok (.iconst (-1), 1) := by decide +kernel
theorem dX10_laysRing_8 : decode cX10_laysRing 8 = .ok (.if_icmp .ne 9, 3) := by decide +kernel
theorem dX10_laysRing_11 : decode cX10_laysRing 11 = .ok (.iinc 3 1, 3) := by decide +kernel
theorem dX10_laysRing_14 : decode cX10_laysRing 14 = .ok (.goto (-12), 3) := by decide +kernel
theorem dX10_laysRing_17 : decode cX10_laysRing 17 = .ok (.iconst 0, 1) := by decide +kernel
theorem dX10_laysRing_18 : decode cX10_laysRing 18 = .ok (.istore 4, 2) := by decide +kernel
theorem dX10_laysRing_20 : decode cX10_laysRing 20 = .ok (.aload_n 0, 1) := by decide +kernel
theorem dX10_laysRing_21 : decode cX10_laysRing 21 = .ok (.iload_n 3, 1) := by decide +kernel
theorem dX10_laysRing_22 : decode cX10_laysRing 22 = .ok (.invokevirtual 231, 3) := by decide +kernel
theorem dX10_laysRing_25 : decode cX10_laysRing 25 = .ok (.istore 5, 2) := by decide +kernel
theorem dX10_laysRing_27 : decode cX10_laysRing 27 = .ok (.iconst (-1), 1) := by decide +kernel
theorem dX10_laysRing_28 : decode cX10_laysRing 28 = .ok (.istore 6, 2) := by decide +kernel
theorem dX10_laysRing_30 : decode cX10_laysRing 30 = .ok (.iload 6, 2) := by decide +kernel
theorem dX10_laysRing_32 : decode cX10_laysRing 32 = .ok (.iconst (-1), 1) := by decide +kernel
theorem dX10_laysRing_33 : decode cX10_laysRing 33 = .ok (.if_icmp .ne 78, 3) := by decide +kernel
theorem dX10_laysRing_36 : decode cX10_laysRing 36 = .ok (.aload_n 0, 1) := by decide +kernel
theorem dX10_laysRing_37 : decode cX10_laysRing 37 = .ok (.getfield 41, 3) := by decide +kernel
theorem dX10_laysRing_40 : decode cX10_laysRing 40 = .ok (.bipush 12, 2) := by decide +kernel
theorem dX10_laysRing_42 : decode cX10_laysRing 42 = .ok (.iload_n 1, 1) := by decide +kernel
theorem dX10_laysRing_43 : decode cX10_laysRing 43 = .ok (.imul, 1) := by decide +kernel
theorem dX10_laysRing_44 : decode cX10_laysRing 44 = .ok (.iload 4, 2) := by decide +kernel
theorem dX10_laysRing_46 : decode cX10_laysRing 46 = .ok (.iadd, 1) := by decide +kernel
theorem dX10_laysRing_47 : decode cX10_laysRing 47 = .ok (.iload 5, 2) := by decide +kernel
theorem dX10_laysRing_49 : decode cX10_laysRing 49 = .ok (.iastore, 1) := by decide +kernel
theorem dX10_laysRing_50 : decode cX10_laysRing 50 = .ok (.iinc 4 1, 3) := by decide +kernel
theorem dX10_laysRing_53 : decode cX10_laysRing 53 = .ok (.aload_n 0, 1) := by decide +kernel
theorem dX10_laysRing_54 : decode cX10_laysRing 54 = .ok (.aload_n 0, 1) := by decide +kernel
theorem dX10_laysRing_55 : decode cX10_laysRing 55 = .ok (.iload_n 2, 1) := by decide +kernel
theorem dX10_laysRing_56 : decode cX10_laysRing 56 = .ok (.iload 5, 2) := by decide +kernel
theorem dX10_laysRing_58 : decode cX10_laysRing 58 = .ok (.invokevirtual 234, 3) := by decide +kernel
theorem dX10_laysRing_61 : decode cX10_laysRing 61 = .ok (.invokevirtual 231, 3) := by decide +kernel
theorem dX10_laysRing_64 : decode cX10_laysRing 64 = .ok (.istore 5, 2) := by decide +kernel
theorem dX10_laysRing_66 : decode cX10_laysRing 66 = .ok (.iconst 0, 1) := by decide +kernel
theorem dX10_laysRing_67 : decode cX10_laysRing 67 = .ok (.istore 7, 2) := by decide +kernel
theorem dX10_laysRing_69 : decode cX10_laysRing 69 = .ok (.iload 7, 2) := by decide +kernel
theorem dX10_laysRing_71 : decode cX10_laysRing 71 = .ok (.iload 4, 2) := by decide +kernel
theorem dX10_laysRing_73 : decode cX10_laysRing 73 = .ok (.if_icmp .ge 35, 3) := by decide +kernel
theorem dX10_laysRing_76 : decode cX10_laysRing 76 = .ok (.aload_n 0, 1) := by decide +kernel
theorem dX10_laysRing_77 : decode cX10_laysRing 77 = .ok (.getfield 41, 3) := by decide +kernel
theorem dX10_laysRing_80 : decode cX10_laysRing 80 = .ok (.bipush 12, 2) := by decide +kernel
theorem dX10_laysRing_82 : decode cX10_laysRing 82 = .ok (.iload_n 1, 1) := by decide +kernel
theorem dX10_laysRing_83 : decode cX10_laysRing 83 = .ok (.imul, 1) := by decide +kernel
theorem dX10_laysRing_84 : decode cX10_laysRing 84 = .ok (.iload 7, 2) := by decide +kernel
theorem dX10_laysRing_86 : decode cX10_laysRing 86 = .ok (.iadd, 1) := by decide +kernel
theorem dX10_laysRing_87 : decode cX10_laysRing 87 = .ok (.iaload, 1) := by decide +kernel
theorem dX10_laysRing_88 : decode cX10_laysRing 88 = .ok (.iload 5, 2) := by decide +kernel
theorem dX10_laysRing_90 : decode cX10_laysRing 90 = .ok (.if_icmp .ne 8, 3) := by decide +kernel
theorem dX10_laysRing_93 : decode cX10_laysRing 93 = .ok (.iload 7, 2) := by decide +kernel
theorem dX10_laysRing_95 : decode cX10_laysRing 95 = .ok (.goto 5, 3) := by decide +kernel
theorem dX10_laysRing_98 : decode cX10_laysRing 98 = .ok (.iload 6, 2) := by decide +kernel
theorem dX10_laysRing_100 : decode cX10_laysRing 100 = .ok (.istore 6, 2) := by decide +kernel
theorem dX10_laysRing_102 : decode cX10_laysRing 102 = .ok (.iinc 7 1, 3) := by decide +kernel
theorem dX10_laysRing_105 : decode cX10_laysRing 105 = .ok (.goto (-36), 3) := by decide +kernel
theorem dX10_laysRing_108 : decode cX10_laysRing 108 = .ok (.goto (-78), 3) := by decide +kernel
theorem dX10_laysRing_111 : decode cX10_laysRing 111 = .ok (.iload 6, 2) := by decide +kernel
theorem dX10_laysRing_113 : decode cX10_laysRing 113 = .ok (.istore 7, 2) := by decide +kernel
theorem dX10_laysRing_115 : decode cX10_laysRing 115 = .ok (.iload 7, 2) := by decide +kernel
theorem dX10_laysRing_117 : decode cX10_laysRing 117 = .ok (.iload 4, 2) := by decide +kernel
theorem dX10_laysRing_119 : decode cX10_laysRing 119 = .ok (.if_icmp .ge 36, 3) := by decide +kernel
theorem dX10_laysRing_122 : decode cX10_laysRing 122 = .ok (.aload_n 0, 1) := by decide +kernel
theorem dX10_laysRing_123 : decode cX10_laysRing 123 = .ok (.getfield 41, 3) := by decide +kernel
theorem dX10_laysRing_126 : decode cX10_laysRing 126 = .ok (.bipush 12, 2) := by decide +kernel
theorem dX10_laysRing_128 : decode cX10_laysRing 128 = .ok (.iload_n 1, 1) := by decide +kernel
theorem dX10_laysRing_129 : decode cX10_laysRing 129 = .ok (.imul, 1) := by decide +kernel
theorem dX10_laysRing_130 : decode cX10_laysRing 130 = .ok (.iload 7, 2) := by decide +kernel
theorem dX10_laysRing_132 : decode cX10_laysRing 132 = .ok (.iadd, 1) := by decide +kernel
theorem dX10_laysRing_133 : decode cX10_laysRing 133 = .ok (.iload 6, 2) := by decide +kernel
theorem dX10_laysRing_135 : decode cX10_laysRing 135 = .ok (.isub, 1) := by decide +kernel
theorem dX10_laysRing_136 : decode cX10_laysRing 136 = .ok (.aload_n 0, 1) := by decide +kernel
theorem dX10_laysRing_137 : decode cX10_laysRing 137 = .ok (.getfield 41, 3) := by decide +kernel
theorem dX10_laysRing_140 : decode cX10_laysRing 140 = .ok (.bipush 12, 2) := by decide +kernel
theorem dX10_laysRing_142 : decode cX10_laysRing 142 = .ok (.iload_n 1, 1) := by decide +kernel
theorem dX10_laysRing_143 : decode cX10_laysRing 143 = .ok (.imul, 1) := by decide +kernel
theorem dX10_laysRing_144 : decode cX10_laysRing 144 = .ok (.iload 7, 2) := by decide +kernel
theorem dX10_laysRing_146 : decode cX10_laysRing 146 = .ok (.iadd, 1) := by decide +kernel
theorem dX10_laysRing_147 : decode cX10_laysRing 147 = .ok (.iaload, 1) := by decide +kernel
theorem dX10_laysRing_148 : decode cX10_laysRing 148 = .ok (.iastore, 1) := by decide +kernel
theorem dX10_laysRing_149 : decode cX10_laysRing 149 = .ok (.iinc 7 1, 3) := by decide +kernel
theorem dX10_laysRing_152 : decode cX10_laysRing 152 = .ok (.goto (-37), 3) := by decide +kernel
theorem dX10_laysRing_155 : decode cX10_laysRing 155 = .ok (.aload_n 0, 1) := by decide +kernel
theorem dX10_laysRing_156 : decode cX10_laysRing 156 = .ok (.getfield 44, 3) := by decide +kernel
theorem dX10_laysRing_159 : decode cX10_laysRing 159 = .ok (.iload_n 1, 1) := by decide +kernel
theorem dX10_laysRing_160 : decode cX10_laysRing 160 = .ok (.iload 4, 2) := by decide +kernel
theorem dX10_laysRing_162 : decode cX10_laysRing 162 = .ok (.iload 6, 2) := by decide +kernel
theorem dX10_laysRing_164 : decode cX10_laysRing 164 = .ok (.isub, 1) := by decide +kernel
theorem dX10_laysRing_165 : decode cX10_laysRing 165 = .ok (.iastore, 1) := by decide +kernel
theorem dX10_laysRing_166 : decode cX10_laysRing 166 = .ok (.return_, 1) := by decide +kernel
theorem dX10_lays__0 : decode cX10_lays_ 0 = .ok (.iconst 0, 1) := by decide +kernel
theorem dX10_lays__1 : decode cX10_lays_ 1 = .ok (.istore_n 1, 1) := by decide +kernel
theorem dX10_lays__2 : decode cX10_lays_ 2 = .ok (.iload_n 1, 1) := by decide +kernel
theorem dX10_lays__3 : decode cX10_lays_ 3 = .ok (.aload_n 0, 1) := by decide +kernel
theorem dX10_lays__4 : decode cX10_lays_ 4 = .ok (.getfield 11, 3) := by decide +kernel
theorem dX10_lays__7 : decode cX10_lays_ 7 = .ok (.sipush 1356, 3) := by decide +kernel
theorem dX10_lays__10 : decode cX10_lays_ 10 = .ok (.iaload, 1) := by decide +kernel
theorem dX10_lays__11 : decode cX10_lays_ 11 = .ok (.if_icmp .ge 44, 3) := by decide +kernel
theorem dX10_lays__14 : decode cX10_lays_ 14 = .ok (.aload_n 0, 1) := by decide +kernel
theorem dX10_lays__15 : decode cX10_lays_ 15 = .ok (.iload_n 1, 1) := by decide +kernel
theorem dX10_lays__16 : decode cX10_lays_ 16 = .ok (.invokevirtual 252, 3) := by decide +kernel
theorem dX10_lays__19 : decode cX10_lays_ 19 = .ok (.aload_n 0, 1) := by decide +kernel
theorem dX10_lays__20 : decode cX10_lays_ 20 = .ok (.iload_n 1, 1) := by decide +kernel
theorem dX10_lays__21 : decode cX10_lays_ 21 = .ok (.invokevirtual 204, 3) := by decide +kernel
theorem dX10_lays__24 : decode cX10_lays_ 24 = .ok (.ifCond .eq 20, 3) := by decide +kernel
theorem dX10_lays__27 : decode cX10_lays_ 27 = .ok (.aload_n 0, 1) := by decide +kernel
theorem dX10_lays__28 : decode cX10_lays_ 28 = .ok (.getfield 38, 3) := by decide +kernel
theorem dX10_lays__31 : decode cX10_lays_ 31 = .ok (.iload_n 1, 1) := by decide +kernel
theorem dX10_lays__32 : decode cX10_lays_ 32 = .ok (.iconst 0, 1) := by decide +kernel
theorem dX10_lays__33 : decode cX10_lays_ 33 = .ok (.iastore, 1) := by decide +kernel
theorem dX10_lays__34 : decode cX10_lays_ 34 = .ok (.aload_n 0, 1) := by decide +kernel
theorem dX10_lays__35 : decode cX10_lays_ 35 = .ok (.getfield 44, 3) := by decide +kernel
theorem dX10_lays__38 : decode cX10_lays_ 38 = .ok (.iload_n 1, 1) := by decide +kernel
theorem dX10_lays__39 : decode cX10_lays_ 39 = .ok (.iconst 0, 1) := by decide +kernel
theorem dX10_lays__40 : decode cX10_lays_ 40 = .ok (.iastore, 1) := by decide +kernel
theorem dX10_lays__41 : decode cX10_lays_ 41 = .ok (.goto 8, 3) := by decide +kernel
theorem dX10_lays__44 : decode cX10_lays_ 44 = .ok (.aload_n 0, 1) := by decide +kernel
theorem dX10_lays__45 : decode cX10_lays_ 45 = .ok (.iload_n 1, 1) := by decide +kernel
theorem dX10_lays__46 : decode cX10_lays_ 46 = .ok (.invokevirtual 255, 3) := by decide +kernel
theorem dX10_lays__49 : decode cX10_lays_ 49 = .ok (.iinc 1 1, 3) := by decide +kernel
theorem dX10_lays__52 : decode cX10_lays_ 52 = .ok (.goto (-50), 3) := by decide +kernel
theorem dX10_lays__55 : decode cX10_lays_ 55 = .ok (.return_, 1) := by decide +kernel
theorem dX10_keepsPast_0 : decode cX10_keepsPast 0 = .ok (.aload_n 0, 1) := by decide +kernel
theorem dX10_keepsPast_1 : decode cX10_keepsPast 1 = .ok (.getfield 198, 3) := by decide +kernel
theorem dX10_keepsPast_4 : decode cX10_keepsPast 4 = .ok (.bipush 10, 2) := by decide +kernel
theorem dX10_keepsPast_6 : decode cX10_keepsPast 6 = .ok (.if_icmp .ne 46, 3) := by decide +kernel
theorem dX10_keepsPast_9 : decode cX10_keepsPast 9 = .ok (.sipush 1357, 3) := by decide +kernel
theorem dX10_keepsPast_12 : decode cX10_keepsPast 12 = .ok (.istore_n 1, 1) := by decide +kernel
theorem dX10_keepsPast_13 : decode cX10_keepsPast 13 = .ok (.iload_n 1, 1) := by decide +kernel
theorem dX10_keepsPast_14 : decode cX10_keepsPast 14 = .ok (.sipush 13570, 3) := by decide +kernel
theorem dX10_keepsPast_17 : decode cX10_keepsPast 17 = .ok (.if_icmp .ge 25, 3) := by decide +kernel
theorem dX10_keepsPast_20 : decode cX10_keepsPast 20 = .ok (.aload_n 0, 1) := by decide +kernel
theorem dX10_keepsPast_21 : decode cX10_keepsPast 21 = .ok (.getfield 18, 3) := by decide +kernel
theorem dX10_keepsPast_24 : decode cX10_keepsPast 24 = .ok (.iload_n 1, 1) := by decide +kernel
theorem dX10_keepsPast_25 : decode cX10_keepsPast 25 = .ok (.sipush 1357, 3) := by decide +kernel
theorem dX10_keepsPast_28 : decode cX10_keepsPast 28 = .ok (.isub, 1) := by decide +kernel
theorem dX10_keepsPast_29 : decode cX10_keepsPast 29 = .ok (.aload_n 0, 1) := by decide +kernel
theorem dX10_keepsPast_30 : decode cX10_keepsPast 30 = .ok (.getfield 18, 3) := by decide +kernel
theorem dX10_keepsPast_33 : decode cX10_keepsPast 33 = .ok (.iload_n 1, 1) := by decide +kernel
theorem dX10_keepsPast_34 : decode cX10_keepsPast 34 = .ok (.iaload, 1) := by decide +kernel
theorem dX10_keepsPast_35 : decode cX10_keepsPast 35 = .ok (.iastore, 1) := by decide +kernel
theorem dX10_keepsPast_36 : decode cX10_keepsPast 36 = .ok (.iinc 1 1, 3) := by decide +kernel
theorem dX10_keepsPast_39 : decode cX10_keepsPast 39 = .ok (.goto (-26), 3) := by decide +kernel
theorem dX10_keepsPast_42 : decode cX10_keepsPast 42 = .ok (.aload_n 0, 1) := by decide +kernel
theorem dX10_keepsPast_43 : decode cX10_keepsPast 43 = .ok (.dup, 1) := by decide +kernel
theorem dX10_keepsPast_44 : decode cX10_keepsPast 44 = .ok (.getfield 198, 3) := by decide +kernel
theorem dX10_keepsPast_47 : decode cX10_keepsPast 47 = .ok (.iconst 1, 1) := by decide +kernel
theorem dX10_keepsPast_48 : decode cX10_keepsPast 48 = .ok (.isub, 1) := by decide +kernel
theorem dX10_keepsPast_49 : decode cX10_keepsPast 49 = .ok (.putfield 198, 3) := by decide +kernel
theorem dX10_keepsPast_52 : decode cX10_keepsPast 52 = .ok (.aload_n 0, 1) := by decide +kernel
theorem dX10_keepsPast_53 : decode cX10_keepsPast 53 = .ok (.getfield 11, 3) := by decide +kernel
theorem dX10_keepsPast_56 : decode cX10_keepsPast 56 = .ok (.iconst 0, 1) := by decide +kernel
theorem dX10_keepsPast_57 : decode cX10_keepsPast 57 = .ok (.aload_n 0, 1) := by decide +kernel
theorem dX10_keepsPast_58 : decode cX10_keepsPast 58 = .ok (.getfield 18, 3) := by decide +kernel
theorem dX10_keepsPast_61 : decode cX10_keepsPast 61 = .ok (.sipush 1357, 3) := by decide +kernel
theorem dX10_keepsPast_64 : decode cX10_keepsPast 64 = .ok (.aload_n 0, 1) := by decide +kernel
theorem dX10_keepsPast_65 : decode cX10_keepsPast 65 = .ok (.getfield 198, 3) := by decide +kernel
theorem dX10_keepsPast_68 : decode cX10_keepsPast 68 = .ok (.imul, 1) := by decide +kernel
theorem dX10_keepsPast_69 : decode cX10_keepsPast 69 = .ok (.invokestatic 194, 3) := by decide +kernel
theorem dX10_keepsPast_72 : decode cX10_keepsPast 72 = .ok (.aload_n 0, 1) := by decide +kernel
theorem dX10_keepsPast_73 : decode cX10_keepsPast 73 = .ok (.dup, 1) := by decide +kernel
theorem dX10_keepsPast_74 : decode cX10_keepsPast 74 = .ok (.getfield 198, 3) := by decide +kernel
theorem dX10_keepsPast_77 : decode cX10_keepsPast 77 = .ok (.iconst 1, 1) := by decide +kernel
theorem dX10_keepsPast_78 : decode cX10_keepsPast 78 = .ok (.iadd, 1) := by decide +kernel
theorem dX10_keepsPast_79 : decode cX10_keepsPast 79 = .ok (.putfield 198, 3) := by decide +kernel
theorem dX10_keepsPast_82 : decode cX10_keepsPast 82 = .ok (.return_, 1) := by decide +kernel
theorem dX10_undo_0 : decode cX10_undo 0 = .ok (.aload_n 0, 1) := by decide +kernel
theorem dX10_undo_1 : decode cX10_undo 1 = .ok (.getfield 198, 3) := by decide +kernel
theorem dX10_undo_4 : decode cX10_undo 4 = .ok (.ifCond .ne 5, 3) := by decide +kernel
theorem dX10_undo_7 : decode cX10_undo 7 = .ok (.iconst (-1), 1) := by decide +kernel
theorem dX10_undo_8 : decode cX10_undo 8 = .ok (.ireturn, 1) := by decide +kernel
theorem dX10_undo_9 : decode cX10_undo 9 = .ok (.aload_n 0, 1) := by decide +kernel
theorem dX10_undo_10 : decode cX10_undo 10 = .ok (.dup, 1) := by decide +kernel
theorem dX10_undo_11 : decode cX10_undo 11 = .ok (.getfield 198, 3) := by decide +kernel
theorem dX10_undo_14 : decode cX10_undo 14 = .ok (.iconst 1, 1) := by decide +kernel
theorem dX10_undo_15 : decode cX10_undo 15 = .ok (.isub, 1) := by decide +kernel
theorem dX10_undo_16 : decode cX10_undo 16 = .ok (.putfield 198, 3) := by decide +kernel
theorem dX10_undo_19 : decode cX10_undo 19 = .ok (.aload_n 0, 1) := by decide +kernel
theorem dX10_undo_20 : decode cX10_undo 20 = .ok (.getfield 18, 3) := by decide +kernel
theorem dX10_undo_23 : decode cX10_undo 23 = .ok (.sipush 1357, 3) := by decide +kernel
theorem dX10_undo_26 : decode cX10_undo 26 = .ok (.aload_n 0, 1) := by decide +kernel
theorem dX10_undo_27 : decode cX10_undo 27 = .ok (.getfield 198, 3) := by decide +kernel
theorem dX10_undo_30 : decode cX10_undo 30 = .ok (.imul, 1) := by decide +kernel
theorem dX10_undo_31 : decode cX10_undo 31 = .ok (.aload_n 0, 1) := by decide +kernel
theorem dX10_undo_32 : decode cX10_undo 32 = .ok (.getfield 11, 3) := by decide +kernel
theorem dX10_undo_35 : decode cX10_undo 35 = .ok (.iconst 0, 1) := by decide +kernel
theorem dX10_undo_36 : decode cX10_undo 36 = .ok (.invokestatic 194, 3) := by decide +kernel
theorem dX10_undo_39 : decode cX10_undo 39 = .ok (.aload_n 0, 1) := by decide +kernel
theorem dX10_undo_40 : decode cX10_undo 40 = .ok (.getfield 198, 3) := by decide +kernel
theorem dX10_undo_43 : decode cX10_undo 43 = .ok (.ireturn, 1) := by decide +kernel
theorem dX10_keep_0 : decode cX10_keep 0 = .ok (.iload_n 1, 1) := by decide +kernel
theorem dX10_keep_1 : decode cX10_keep 1 = .ok (.iconst 0, 1) := by decide +kernel
theorem dX10_keep_2 : decode cX10_keep 2 = .ok (.iconst 1, 1) := by decide +kernel
theorem dX10_keep_3 : decode cX10_keep 3 = .ok (.invokestatic 88, 3) := by decide +kernel
theorem dX10_keep_6 : decode cX10_keep 6 = .ok (.ifCond .ne 5, 3) := by decide +kernel
theorem dX10_keep_9 : decode cX10_keep 9 = .ok (.iconst (-1), 1) := by decide +kernel
theorem dX10_keep_10 : decode cX10_keep 10 = .ok (.ireturn, 1) := by decide +kernel
theorem dX10_keep_11 : decode cX10_keep 11 = .ok (.aload_n 0, 1) := by decide +kernel
theorem dX10_keep_12 : decode cX10_keep 12 = .ok (.getfield 11, 3) := by decide +kernel
theorem dX10_keep_15 : decode cX10_keep 15 = .ok (.iconst 0, 1) := by decide +kernel
theorem dX10_keep_16 : decode cX10_keep 16 = .ok (.aload_n 0, 1) := by decide +kernel
theorem dX10_keep_17 : decode cX10_keep 17 = .ok (.getfield 21, 3) := by decide +kernel
theorem dX10_keep_20 : decode cX10_keep 20 = .ok (.sipush 1357, 3) := by decide +kernel
theorem dX10_keep_23 : decode cX10_keep 23 = .ok (.iload_n 1, 1) := by decide +kernel
theorem dX10_keep_24 : decode cX10_keep 24 = .ok (.imul, 1) := by decide +kernel
theorem dX10_keep_25 : decode cX10_keep 25 = .ok (.invokestatic 194, 3) := by decide +kernel
theorem dX10_keep_28 : decode cX10_keep 28 = .ok (.aload_n 0, 1) := by decide +kernel
theorem dX10_keep_29 : decode cX10_keep 29 = .ok (.getfield 24, 3) := by decide +kernel
theorem dX10_keep_32 : decode cX10_keep 32 = .ok (.iload_n 1, 1) := by decide +kernel
theorem dX10_keep_33 : decode cX10_keep 33 = .ok (.iconst 1, 1) := by decide +kernel
theorem dX10_keep_34 : decode cX10_keep 34 = .ok (.bastore, 1) := by decide +kernel
theorem dX10_keep_35 : decode cX10_keep 35 = .ok (.aload_n 0, 1) := by decide +kernel
theorem dX10_keep_36 : decode cX10_keep 36 = .ok (.getfield 11, 3) := by decide +kernel
theorem dX10_keep_39 : decode cX10_keep 39 = .ok (.sipush 1356, 3) := by decide +kernel
theorem dX10_keep_42 : decode cX10_keep 42 = .ok (.iaload, 1) := by decide +kernel
theorem dX10_keep_43 : decode cX10_keep 43 = .ok (.ireturn, 1) := by decide +kernel
theorem dX10_back_0 : decode cX10_back 0 = .ok (.iload_n 1, 1) := by decide +kernel
theorem dX10_back_1 : decode cX10_back 1 = .ok (.iconst 0, 1) := by decide +kernel
theorem dX10_back_2 : decode cX10_back 2 = .ok (.iconst 1, 1) := by decide +kernel
theorem dX10_back_3 : decode cX10_back 3 = .ok (.invokestatic 88, 3) := by decide +kernel
theorem dX10_back_6 : decode cX10_back 6 = .ok (.ifCond .ne 5, 3) := by decide +kernel
theorem dX10_back_9 : decode cX10_back 9 = .ok (.iconst (-1), 1) := by decide +kernel
theorem dX10_back_10 : decode cX10_back 10 = .ok (.ireturn, 1) := by decide +kernel
theorem dX10_back_11 : decode cX10_back 11 = .ok (.aload_n 0, 1) := by decide +kernel
theorem dX10_back_12 : decode cX10_back 12 = .ok (.getfield 24, 3) := by decide +kernel
theorem dX10_back_15 : decode cX10_back 15 = .ok (.iload_n 1, 1) := by decide +kernel
theorem dX10_back_16 : decode cX10_back 16 = .ok (.baload, 1) := by decide +kernel
theorem dX10_back_17 : decode cX10_back 17 = .ok (.ifCond .ne 6, 3) := by decide +kernel
theorem dX10_back_20 : decode cX10_back 20 = .ok (.bipush (-2), 2) := by decide +kernel
theorem dX10_back_22 : decode cX10_back 22 = .ok (.ireturn, 1) := by decide +kernel
theorem dX10_back_23 : decode cX10_back 23 = .ok (.aload_n 0, 1) := by decide +kernel
theorem dX10_back_24 : decode cX10_back 24 = .ok (.getfield 21, 3) := by decide +kernel
theorem dX10_back_27 : decode cX10_back 27 = .ok (.sipush 1357, 3) := by decide +kernel
theorem dX10_back_30 : decode cX10_back 30 = .ok (.iload_n 1, 1) := by decide +kernel
theorem dX10_back_31 : decode cX10_back 31 = .ok (.imul, 1) := by decide +kernel
theorem dX10_back_32 : decode cX10_back 32 = .ok (.aload_n 0, 1) := by decide +kernel
theorem dX10_back_33 : decode cX10_back 33 = .ok (.getfield 11, 3) := by decide +kernel
theorem dX10_back_36 : decode cX10_back 36 = .ok (.iconst 0, 1) := by decide +kernel
theorem dX10_back_37 : decode cX10_back 37 = .ok (.invokestatic 194, 3) := by decide +kernel
theorem dX10_back_40 : decode cX10_back 40 = .ok (.aload_n 0, 1) := by decide +kernel
theorem dX10_back_41 : decode cX10_back 41 = .ok (.iconst 0, 1) := by decide +kernel
theorem dX10_back_42 : decode cX10_back 42 = .ok (.putfield 198, 3) := by decide +kernel
theorem dX10_back_45 : decode cX10_back 45 = .ok (.aload_n 0, 1) := by decide +kernel
theorem dX10_back_46 : decode cX10_back 46 = .ok (.getfield 11, 3) := by decide +kernel
theorem dX10_back_49 : decode cX10_back 49 = .ok (.sipush 1356, 3) := by decide +kernel
theorem dX10_back_52 : decode cX10_back 52 = .ok (.iaload, 1) := by decide +kernel
theorem dX10_back_53 : decode cX10_back 53 = .ok (.ireturn, 1) := by decide +kernel
theorem dX10_placeOf_0 : decode cX10_placeOf 0 = .ok (.iconst 0, 1) := by decide +kernel
theorem dX10_placeOf_1 : decode cX10_placeOf 1 = .ok (.istore_n 3, 1) := by decide +kernel
theorem dX10_placeOf_2 : decode cX10_placeOf 2 = .ok (.iload_n 3, 1) := by decide +kernel
theorem dX10_placeOf_3 : decode cX10_placeOf 3 = .ok (.aload_n 0, 1) := by decide +kernel
theorem dX10_placeOf_4 : decode cX10_placeOf 4 = .ok (.iload_n 1, 1) := by decide +kernel
theorem dX10_placeOf_5 : decode cX10_placeOf 5 = .ok (.invokevirtual 237, 3) := by decide +kernel
theorem dX10_placeOf_8 : decode cX10_placeOf 8 = .ok (.if_icmp .ge 21, 3) := by decide +kernel
theorem dX10_placeOf_11 : decode cX10_placeOf 11 = .ok (.aload_n 0, 1) := by decide +kernel
theorem dX10_placeOf_12 : decode cX10_placeOf 12 = .ok (.iload_n 1, 1) := by decide +kernel
theorem dX10_placeOf_13 : decode cX10_placeOf 13 = .ok (.iload_n 3, 1) := by decide +kernel
theorem dX10_placeOf_14 : decode cX10_placeOf 14 = .ok (.invokevirtual 240, 3) := by decide +kernel
theorem dX10_placeOf_17 : decode cX10_placeOf 17 = .ok (.iload_n 2, 1) := by decide +kernel
theorem dX10_placeOf_18 : decode cX10_placeOf 18 = .ok (.if_icmp .ne 5, 3) := by decide +kernel
theorem dX10_placeOf_21 : decode cX10_placeOf 21 = .ok (.iload_n 3, 1) := by decide +kernel
theorem dX10_placeOf_22 : decode cX10_placeOf 22 = .ok (.ireturn, 1) := by decide +kernel
theorem dX10_placeOf_23 : decode cX10_placeOf 23 = .ok (.iinc 3 1, 3) := by decide +kernel
theorem dX10_placeOf_26 : decode cX10_placeOf 26 = .ok (.goto (-24), 3) := by decide +kernel
theorem dX10_placeOf_29 : decode cX10_placeOf 29 = .ok (.iconst (-1), 1) := by decide +kernel
theorem dX10_placeOf_30 : decode cX10_placeOf 30 = .ok (.ireturn, 1) := by decide +kernel
theorem dX10_join_0 : decode cX10_join 0 = .ok (.aload_n 0, 1) := by decide +kernel
theorem dX10_join_1 : decode cX10_join 1 = .ok (.iload_n 1, 1) := by decide +kernel
theorem dX10_join_2 : decode cX10_join 2 = .ok (.invokevirtual 258, 3) := by decide +kernel
theorem dX10_join_5 : decode cX10_join 5 = .ok (.ifCond .eq 16, 3) := by decide +kernel
theorem dX10_join_8 : decode cX10_join 8 = .ok (.aload_n 0, 1) := by decide +kernel
theorem dX10_join_9 : decode cX10_join 9 = .ok (.iload_n 2, 1) := by decide +kernel
theorem dX10_join_10 : decode cX10_join 10 = .ok (.invokevirtual 258, 3) := by decide +kernel
theorem dX10_join_13 : decode cX10_join 13 = .ok (.ifCond .eq 8, 3) := by decide +kernel
theorem dX10_join_16 : decode cX10_join 16 = .ok (.iload_n 2, 1) := by decide +kernel
theorem dX10_join_17 : decode cX10_join 17 = .ok (.iload_n 1, 1) := by decide +kernel
theorem dX10_join_18 : decode cX10_join 18 = .ok (.if_icmp .lt 5, 3) := by decide +kernel
theorem dX10_join_21 : decode cX10_join 21 = .ok (.iconst (-1), 1) := by decide +kernel
theorem dX10_join_22 : decode cX10_join 22 = .ok (.ireturn, 1) := by decide +kernel
theorem dX10_join_23 : decode cX10_join 23 = .ok (.aload_n 0, 1) := by decide +kernel
theorem dX10_join_24 : decode cX10_join 24 = .ok (.iload_n 1, 1) := by decide +kernel
theorem dX10_join_25 : decode cX10_join 25 = .ok (.iload_n 2, 1) := by decide +kernel
theorem dX10_join_26 : decode cX10_join 26 = .ok (.invokevirtual 261, 3) := by decide +kernel
theorem dX10_join_29 : decode cX10_join 29 = .ok (.iconst (-1), 1) := by decide +kernel
theorem dX10_join_30 : decode cX10_join 30 = .ok (.if_icmp .eq 6, 3) := by decide +kernel
theorem dX10_join_33 : decode cX10_join 33 = .ok (.bipush (-2), 2) := by decide +kernel
theorem dX10_join_35 : decode cX10_join 35 = .ok (.ireturn, 1) := by decide +kernel
theorem dX10_join_36 : decode cX10_join 36 = .ok (.aload_n 0, 1) := by decide +kernel
theorem dX10_join_37 : decode cX10_join 37 = .ok (.iload_n 1, 1) := by decide +kernel
theorem dX10_join_38 : decode cX10_join 38 = .ok (.invokevirtual 237, 3) := by decide +kernel
theorem dX10_join_41 : decode cX10_join 41 = .ok (.iconst 4, 1) := by decide +kernel
theorem dX10_join_42 : decode cX10_join 42 = .ok (.if_icmp .ne 6, 3) := by decide +kernel
theorem dX10_join_45 : decode cX10_join 45 = .ok (.bipush (-3), 2) := by decide +kernel
theorem dX10_join_47 : decode cX10_join 47 = .ok (.ireturn, 1) := by decide +kernel
theorem dX10_join_48 : decode cX10_join 48 = .ok (.aload_n 0, 1) := by decide +kernel
theorem dX10_join_49 : decode cX10_join 49 = .ok (.invokevirtual 264, 3) := by decide +kernel
theorem dX10_join_52 : decode cX10_join 52 = .ok (.aload_n 0, 1) := by decide +kernel
theorem dX10_join_53 : decode cX10_join 53 = .ok (.getfield 11, 3) := by decide +kernel
theorem dX10_join_56 : decode cX10_join 56 = .ok (.bipush 113, 2) := by decide +kernel
theorem dX10_join_58 : decode cX10_join 58 = .ok (.iload_n 1, 1) := by decide +kernel
theorem dX10_join_59 : decode cX10_join 59 = .ok (.imul, 1) := by decide +kernel
theorem dX10_join_60 : decode cX10_join 60 = .ok (.iconst 2, 1) := by decide +kernel
theorem dX10_join_61 : decode cX10_join 61 = .ok (.iadd, 1) := by decide +kernel
theorem dX10_join_62 : decode cX10_join 62 = .ok (.dup2, 1) := by decide +kernel
theorem dX10_join_63 : decode cX10_join 63 = .ok (.iaload, 1) := by decide +kernel
theorem dX10_join_64 : decode cX10_join 64 = .ok (.iconst 1, 1) := by decide +kernel
theorem dX10_join_65 : decode cX10_join 65 = .ok (.iadd, 1) := by decide +kernel
theorem dX10_join_66 : decode cX10_join 66 = .ok (.iastore, 1) := by decide +kernel
theorem dX10_join_67 : decode cX10_join 67 = .ok (.aload_n 0, 1) := by decide +kernel
theorem dX10_join_68 : decode cX10_join 68 = .ok (.getfield 11, 3) := by decide +kernel
theorem dX10_join_71 : decode cX10_join 71 = .ok (.bipush 113, 2) := by decide +kernel
theorem dX10_join_73 : decode cX10_join 73 = .ok (.iload_n 1, 1) := by decide +kernel
theorem dX10_join_74 : decode cX10_join 74 = .ok (.imul, 1) := by decide +kernel
theorem dX10_join_75 : decode cX10_join 75 = .ok (.iconst 2, 1) := by decide +kernel
theorem dX10_join_76 : decode cX10_join 76 = .ok (.iadd, 1) := by decide +kernel
theorem dX10_join_77 : decode cX10_join 77 = .ok (.aload_n 0, 1) := by decide +kernel
theorem dX10_join_78 : decode cX10_join 78 = .ok (.iload_n 1, 1) := by decide +kernel
theorem dX10_join_79 : decode cX10_join 79 = .ok (.invokevirtual 237, 3) := by decide +kernel
theorem dX10_join_82 : decode cX10_join 82 = .ok (.iadd, 1) := by decide +kernel
theorem dX10_join_83 : decode cX10_join 83 = .ok (.iload_n 2, 1) := by decide +kernel
theorem dX10_join_84 : decode cX10_join 84 = .ok (.iastore, 1) := by decide +kernel
theorem dX10_join_85 : decode cX10_join 85 = .ok (.aload_n 0, 1) := by decide +kernel
theorem dX10_join_86 : decode cX10_join 86 = .ok (.iload_n 1, 1) := by decide +kernel
theorem dX10_join_87 : decode cX10_join 87 = .ok (.invokevirtual 237, 3) := by decide +kernel
theorem dX10_join_90 : decode cX10_join 90 = .ok (.ireturn, 1) := by decide +kernel
theorem dX10_leave_0 : decode cX10_leave 0 = .ok (.aload_n 0, 1) := by decide +kernel
theorem dX10_leave_1 : decode cX10_leave 1 = .ok (.iload_n 1, 1) := by decide +kernel
theorem dX10_leave_2 : decode cX10_leave 2 = .ok (.invokevirtual 258, 3) := by decide +kernel
theorem dX10_leave_5 : decode cX10_leave 5 = .ok (.ifCond .eq 13, 3) := by decide +kernel
theorem dX10_leave_8 : decode cX10_leave 8 = .ok (.aload_n 0, 1) := by decide +kernel
theorem dX10_leave_9 : decode cX10_leave 9 = .ok (.iload_n 1, 1) := by decide +kernel
theorem dX10_leave_10 : decode cX10_leave 10 = .ok (.iload_n 2, 1) := by decide +kernel
theorem dX10_leave_11 : decode cX10_leave 11 = .ok (.invokevirtual 261, 3) := by decide +kernel
theorem dX10_leave_14 : decode cX10_leave 14 = .ok (.iconst (-1), 1) := by decide +kernel
theorem dX10_leave_15 : decode cX10_leave 15 = .ok (.if_icmp .ne 5, 3) := by decide +kernel
theorem dX10_leave_18 : decode cX10_leave 18 = .ok (.iconst (-1), 1) := by decide +kernel
theorem dX10_leave_19 : decode cX10_leave 19 = .ok (.ireturn, 1) := by decide +kernel
theorem dX10_leave_20 : decode cX10_leave 20 = .ok (.aload_n 0, 1) := by decide +kernel
theorem dX10_leave_21 : decode cX10_leave 21 = .ok (.invokevirtual 264, 3) := by decide +kernel
theorem dX10_leave_24 : decode cX10_leave 24 = .ok (.aload_n 0, 1) := by decide +kernel
theorem dX10_leave_25 : decode cX10_leave 25 = .ok (.iload_n 1, 1) := by decide +kernel
theorem dX10_leave_26 : decode cX10_leave 26 = .ok (.iload_n 2, 1) := by decide +kernel
theorem dX10_leave_27 : decode cX10_leave 27 = .ok (.invokevirtual 261, 3) := by decide +kernel
theorem dX10_leave_30 : decode cX10_leave 30 = .ok (.istore_n 3, 1) := by decide +kernel
theorem dX10_leave_31 : decode cX10_leave 31 = .ok (.iload_n 3, 1) := by decide +kernel
theorem dX10_leave_32 : decode cX10_leave 32 = .ok (.aload_n 0, 1) := by decide +kernel
theorem dX10_leave_33 : decode cX10_leave 33 = .ok (.iload_n 1, 1) := by decide +kernel
theorem dX10_leave_34 : decode cX10_leave 34 = .ok (.invokevirtual 237, 3) := by decide +kernel
theorem dX10_leave_37 : decode cX10_leave 37 = .ok (.iconst 1, 1) := by decide +kernel
theorem dX10_leave_38 : decode cX10_leave 38 = .ok (.isub, 1) := by decide +kernel
theorem dX10_leave_39 : decode cX10_leave 39 = .ok (.if_icmp .ge 32, 3) := by decide +kernel
theorem dX10_leave_42 : decode cX10_leave 42 = .ok (.aload_n 0, 1) := by decide +kernel
theorem dX10_leave_43 : decode cX10_leave 43 = .ok (.getfield 11, 3) := by decide +kernel
theorem dX10_leave_46 : decode cX10_leave 46 = .ok (.bipush 113, 2) := by decide +kernel
theorem dX10_leave_48 : decode cX10_leave 48 = .ok (.iload_n 1, 1) := by decide +kernel
theorem dX10_leave_49 : decode cX10_leave 49 = .ok (.imul, 1) := by decide +kernel
theorem dX10_leave_50 : decode cX10_leave 50 = .ok (.iconst 2, 1) := by decide +kernel
theorem dX10_leave_51 : decode cX10_leave 51 = .ok (.iadd, 1) := by decide +kernel
theorem dX10_leave_52 : decode cX10_leave 52 = .ok (.iconst 1, 1) := by decide +kernel
theorem dX10_leave_53 : decode cX10_leave 53 = .ok (.iadd, 1) := by decide +kernel
theorem dX10_leave_54 : decode cX10_leave 54 = .ok (.iload_n 3, 1) := by decide +kernel
theorem dX10_leave_55 : decode cX10_leave 55 = .ok (.iadd, 1) := by decide +kernel
theorem dX10_leave_56 : decode cX10_leave 56 = .ok (.aload_n 0, 1) := by decide +kernel
theorem dX10_leave_57 : decode cX10_leave 57 = .ok (.iload_n 1, 1) := by decide +kernel
theorem dX10_leave_58 : decode cX10_leave 58 = .ok (.iload_n 3, 1) := by decide +kernel
theorem dX10_leave_59 : decode cX10_leave 59 = .ok (.iconst 1, 1) := by decide +kernel
theorem dX10_leave_60 : decode cX10_leave 60 = .ok (.iadd, 1) := by decide +kernel
theorem dX10_leave_61 : decode cX10_leave 61 = .ok (.invokevirtual 240, 3) := by decide +kernel
theorem dX10_leave_64 : decode cX10_leave 64 = .ok (.iastore, 1) := by decide +kernel
theorem dX10_leave_65 : decode cX10_leave 65 = .ok (.iinc 3 1, 3) := by decide +kernel
theorem dX10_leave_68 : decode cX10_leave 68 = .ok (.goto (-37), 3) := by decide +kernel
theorem dX10_leave_71 : decode cX10_leave 71 = .ok (.aload_n 0, 1) := by decide +kernel
theorem dX10_leave_72 : decode cX10_leave 72 = .ok (.getfield 11, 3) := by decide +kernel
theorem dX10_leave_75 : decode cX10_leave 75 = .ok (.bipush 113, 2) := by decide +kernel
theorem dX10_leave_77 : decode cX10_leave 77 = .ok (.iload_n 1, 1) := by decide +kernel
theorem dX10_leave_78 : decode cX10_leave 78 = .ok (.imul, 1) := by decide +kernel
theorem dX10_leave_79 : decode cX10_leave 79 = .ok (.iconst 2, 1) := by decide +kernel
theorem dX10_leave_80 : decode cX10_leave 80 = .ok (.iadd, 1) := by decide +kernel
theorem dX10_leave_81 : decode cX10_leave 81 = .ok (.dup2, 1) := by decide +kernel
theorem dX10_leave_82 : decode cX10_leave 82 = .ok (.iaload, 1) := by decide +kernel
theorem dX10_leave_83 : decode cX10_leave 83 = .ok (.iconst 1, 1) := by decide +kernel
theorem dX10_leave_84 : decode cX10_leave 84 = .ok (.isub, 1) := by decide +kernel
theorem dX10_leave_85 : decode cX10_leave 85 = .ok (.iastore, 1) := by decide +kernel
theorem dX10_leave_86 : decode cX10_leave 86 = .ok (.aload_n 0, 1) := by decide +kernel
theorem dX10_leave_87 : decode cX10_leave 87 = .ok (.iload_n 1, 1) := by decide +kernel
theorem dX10_leave_88 : decode cX10_leave 88 = .ok (.invokevirtual 237, 3) := by decide +kernel
theorem dX10_leave_91 : decode cX10_leave 91 = .ok (.ireturn, 1) := by decide +kernel
theorem dX10_turn_0 : decode cX10_turn 0 = .ok (.aload_n 0, 1) := by decide +kernel
theorem dX10_turn_1 : decode cX10_turn 1 = .ok (.iload_n 1, 1) := by decide +kernel
theorem dX10_turn_2 : decode cX10_turn 2 = .ok (.invokevirtual 258, 3) := by decide +kernel
theorem dX10_turn_5 : decode cX10_turn 5 = .ok (.ifCond .ne 5, 3) := by decide +kernel
theorem dX10_turn_8 : decode cX10_turn 8 = .ok (.iconst (-1), 1) := by decide +kernel
theorem dX10_turn_9 : decode cX10_turn 9 = .ok (.ireturn, 1) := by decide +kernel
theorem dX10_turn_10 : decode cX10_turn 10 = .ok (.aload_n 0, 1) := by decide +kernel
theorem dX10_turn_11 : decode cX10_turn 11 = .ok (.iload_n 1, 1) := by decide +kernel
theorem dX10_turn_12 : decode cX10_turn 12 = .ok (.invokevirtual 237, 3) := by decide +kernel
theorem dX10_turn_15 : decode cX10_turn 15 = .ok (.istore_n 2, 1) := by decide +kernel
theorem dX10_turn_16 : decode cX10_turn 16 = .ok (.iload_n 2, 1) := by decide +kernel
theorem dX10_turn_17 : decode cX10_turn 17 = .ok (.iconst 2, 1) := by decide +kernel
theorem dX10_turn_18 : decode cX10_turn 18 = .ok (.if_icmp .ge 6, 3) := by decide +kernel
theorem dX10_turn_21 : decode cX10_turn 21 = .ok (.bipush (-2), 2) := by decide +kernel
theorem dX10_turn_23 : decode cX10_turn 23 = .ok (.ireturn, 1) := by decide +kernel
theorem dX10_turn_24 : decode cX10_turn 24 = .ok (.aload_n 0, 1) := by decide +kernel
theorem dX10_turn_25 : decode cX10_turn 25 = .ok (.invokevirtual 264, 3) := by decide +kernel
theorem dX10_turn_28 : decode cX10_turn 28 = .ok (.bipush 113, 2) := by decide +kernel
theorem dX10_turn_30 : decode cX10_turn 30 = .ok (.iload_n 1, 1) := by decide +kernel
theorem dX10_turn_31 : decode cX10_turn 31 = .ok (.imul, 1) := by decide +kernel
theorem dX10_turn_32 : decode cX10_turn 32 = .ok (.iconst 2, 1) := by decide +kernel
theorem dX10_turn_33 : decode cX10_turn 33 = .ok (.iadd, 1) := by decide +kernel
theorem dX10_turn_34 : decode cX10_turn 34 = .ok (.iconst 1, 1) := by decide +kernel
theorem dX10_turn_35 : decode cX10_turn 35 = .ok (.iadd, 1) := by decide +kernel
theorem dX10_turn_36 : decode cX10_turn 36 = .ok (.istore_n 3, 1) := by decide +kernel
theorem dX10_turn_37 : decode cX10_turn 37 = .ok (.iconst 0, 1) := by decide +kernel
theorem dX10_turn_38 : decode cX10_turn 38 = .ok (.istore 4, 2) := by decide +kernel
theorem dX10_turn_40 : decode cX10_turn 40 = .ok (.iload 4, 2) := by decide +kernel
theorem dX10_turn_42 : decode cX10_turn 42 = .ok (.iload_n 2, 1) := by decide +kernel
theorem dX10_turn_43 : decode cX10_turn 43 = .ok (.iconst 2, 1) := by decide +kernel
theorem dX10_turn_44 : decode cX10_turn 44 = .ok (.idiv, 1) := by decide +kernel
theorem dX10_turn_45 : decode cX10_turn 45 = .ok (.if_icmp .ge 57, 3) := by decide +kernel
theorem dX10_turn_48 : decode cX10_turn 48 = .ok (.aload_n 0, 1) := by decide +kernel
theorem dX10_turn_49 : decode cX10_turn 49 = .ok (.getfield 11, 3) := by decide +kernel
theorem dX10_turn_52 : decode cX10_turn 52 = .ok (.iload_n 3, 1) := by decide +kernel
theorem dX10_turn_53 : decode cX10_turn 53 = .ok (.iload 4, 2) := by decide +kernel
theorem dX10_turn_55 : decode cX10_turn 55 = .ok (.iadd, 1) := by decide +kernel
theorem dX10_turn_56 : decode cX10_turn 56 = .ok (.iaload, 1) := by decide +kernel
theorem dX10_turn_57 : decode cX10_turn 57 = .ok (.istore 5, 2) := by decide +kernel
theorem dX10_turn_59 : decode cX10_turn 59 = .ok (.aload_n 0, 1) := by decide +kernel
theorem dX10_turn_60 : decode cX10_turn 60 = .ok (.getfield 11, 3) := by decide +kernel
theorem dX10_turn_63 : decode cX10_turn 63 = .ok (.iload_n 3, 1) := by decide +kernel
theorem dX10_turn_64 : decode cX10_turn 64 = .ok (.iload 4, 2) := by decide +kernel
theorem dX10_turn_66 : decode cX10_turn 66 = .ok (.iadd, 1) := by decide +kernel
theorem dX10_turn_67 : decode cX10_turn 67 = .ok (.aload_n 0, 1) := by decide +kernel
theorem dX10_turn_68 : decode cX10_turn 68 = .ok (.getfield 11, 3) := by decide +kernel
theorem dX10_turn_71 : decode cX10_turn 71 = .ok (.iload_n 3, 1) := by decide +kernel
theorem dX10_turn_72 : decode cX10_turn 72 = .ok (.iload_n 2, 1) := by decide +kernel
theorem dX10_turn_73 : decode cX10_turn 73 = .ok (.iadd, 1) := by decide +kernel
theorem dX10_turn_74 : decode cX10_turn 74 = .ok (.iconst 1, 1) := by decide +kernel
theorem dX10_turn_75 : decode cX10_turn 75 = .ok (.isub, 1) := by decide +kernel
theorem dX10_turn_76 : decode cX10_turn 76 = .ok (.iload 4, 2) := by decide +kernel
theorem dX10_turn_78 : decode cX10_turn 78 = .ok (.isub, 1) := by decide +kernel
theorem dX10_turn_79 : decode cX10_turn 79 = .ok (.iaload, 1) := by decide +kernel
theorem dX10_turn_80 : decode cX10_turn 80 = .ok (.iastore, 1) := by decide +kernel
theorem dX10_turn_81 : decode cX10_turn 81 = .ok (.aload_n 0, 1) := by decide +kernel
theorem dX10_turn_82 : decode cX10_turn 82 = .ok (.getfield 11, 3) := by decide +kernel
theorem dX10_turn_85 : decode cX10_turn 85 = .ok (.iload_n 3, 1) := by decide +kernel
theorem dX10_turn_86 : decode cX10_turn 86 = .ok (.iload_n 2, 1) := by decide +kernel
theorem dX10_turn_87 : decode cX10_turn 87 = .ok (.iadd, 1) := by decide +kernel
theorem dX10_turn_88 : decode cX10_turn 88 = .ok (.iconst 1, 1) := by decide +kernel
theorem dX10_turn_89 : decode cX10_turn 89 = .ok (.isub, 1) := by decide +kernel
theorem dX10_turn_90 : decode cX10_turn 90 = .ok (.iload 4, 2) := by decide +kernel
theorem dX10_turn_92 : decode cX10_turn 92 = .ok (.isub, 1) := by decide +kernel
theorem dX10_turn_93 : decode cX10_turn 93 = .ok (.iload 5, 2) := by decide +kernel
theorem dX10_turn_95 : decode cX10_turn 95 = .ok (.iastore, 1) := by decide +kernel
theorem dX10_turn_96 : decode cX10_turn 96 = .ok (.iinc 4 1, 3) := by decide +kernel
theorem dX10_turn_99 : decode cX10_turn 99 = .ok (.goto (-59), 3) := by decide +kernel
theorem dX10_turn_102 : decode cX10_turn 102 = .ok (.iload_n 2, 1) := by decide +kernel
theorem dX10_turn_103 : decode cX10_turn 103 = .ok (.ireturn, 1) := by decide +kernel
theorem dX10_tells_0 : decode cX10_tells 0 = .ok (.aload_n 0, 1) := by decide +kernel
theorem dX10_tells_1 : decode cX10_tells 1 = .ok (.iload_n 1, 1) := by decide +kernel
theorem dX10_tells_2 : decode cX10_tells 2 = .ok (.iload_n 2, 1) := by decide +kernel
theorem dX10_tells_3 : decode cX10_tells 3 = .ok (.invokevirtual 267, 3) := by decide +kernel
theorem dX10_tells_6 : decode cX10_tells 6 = .ok (.istore 4, 2) := by decide +kernel
theorem dX10_tells_8 : decode cX10_tells 8 = .ok (.iload 4, 2) := by decide +kernel
theorem dX10_tells_10 : decode cX10_tells 10 = .ok (.iconst (-1), 1) := by decide +kernel
theorem dX10_tells_11 : decode cX10_tells 11 = .ok (.if_icmp .ne 7, 3) := by decide +kernel
theorem dX10_tells_14 : decode cX10_tells 14 = .ok (.iconst (-1), 1) := by decide +kernel
theorem dX10_tells_15 : decode cX10_tells 15 = .ok (.goto 9, 3) := by decide +kernel
theorem dX10_tells_18 : decode cX10_tells 18 = .ok (.iload_n 1, 1) := by decide +kernel
theorem dX10_tells_19 : decode cX10_tells 19 = .ok (.iload 4, 2) := by decide +kernel
theorem dX10_tells_21 : decode cX10_tells 21 = .ok (.invokestatic 168, 3) := by decide +kernel
theorem dX10_tells_24 : decode cX10_tells 24 = .ok (.istore 5, 2) := by decide +kernel
theorem dX10_tells_26 : decode cX10_tells 26 = .ok (.iload 4, 2) := by decide +kernel
theorem dX10_tells_28 : decode cX10_tells 28 = .ok (.iconst (-1), 1) := by decide +kernel
theorem dX10_tells_29 : decode cX10_tells 29 = .ok (.if_icmp .eq 52, 3) := by decide +kernel
theorem dX10_tells_32 : decode cX10_tells 32 = .ok (.iload_n 3, 1) := by decide +kernel
theorem dX10_tells_33 : decode cX10_tells 33 = .ok (.iconst (-1), 1) := by decide +kernel
theorem dX10_tells_34 : decode cX10_tells 34 = .ok (.if_icmp .ne 18, 3) := by decide +kernel
theorem dX10_tells_37 : decode cX10_tells 37 = .ok (.aload_n 0, 1) := by decide +kernel
theorem dX10_tells_38 : decode cX10_tells 38 = .ok (.getfield 11, 3) := by decide +kernel
theorem dX10_tells_41 : decode cX10_tells 41 = .ok (.iload 5, 2) := by decide +kernel
theorem dX10_tells_43 : decode cX10_tells 43 = .ok (.iconst 1, 1) := by decide +kernel
theorem dX10_tells_44 : decode cX10_tells 44 = .ok (.iadd, 1) := by decide +kernel
theorem dX10_tells_45 : decode cX10_tells 45 = .ok (.iaload, 1) := by decide +kernel
theorem dX10_tells_46 : decode cX10_tells 46 = .ok (.ifCond .ne 35, 3) := by decide +kernel
theorem dX10_tells_49 : decode cX10_tells 49 = .ok (.goto 29, 3) := by decide +kernel
theorem dX10_tells_52 : decode cX10_tells 52 = .ok (.aload_n 0, 1) := by decide +kernel
theorem dX10_tells_53 : decode cX10_tells 53 = .ok (.getfield 11, 3) := by decide +kernel
theorem dX10_tells_56 : decode cX10_tells 56 = .ok (.iload 5, 2) := by decide +kernel
theorem dX10_tells_58 : decode cX10_tells 58 = .ok (.iconst 1, 1) := by decide +kernel
theorem dX10_tells_59 : decode cX10_tells 59 = .ok (.iadd, 1) := by decide +kernel
theorem dX10_tells_60 : decode cX10_tells 60 = .ok (.iaload, 1) := by decide +kernel
theorem dX10_tells_61 : decode cX10_tells 61 = .ok (.iconst 1, 1) := by decide +kernel
theorem dX10_tells_62 : decode cX10_tells 62 = .ok (.if_icmp .ne 19, 3) := by decide +kernel
theorem dX10_tells_65 : decode cX10_tells 65 = .ok (.aload_n 0, 1) := by decide +kernel
theorem dX10_tells_66 : decode cX10_tells 66 = .ok (.getfield 11, 3) := by decide +kernel
theorem dX10_tells_69 : decode cX10_tells 69 = .ok (.iload 5, 2) := by decide +kernel
theorem dX10_tells_71 : decode cX10_tells 71 = .ok (.iconst 2, 1) := by decide +kernel
theorem dX10_tells_72 : decode cX10_tells 72 = .ok (.iadd, 1) := by decide +kernel
theorem dX10_tells_73 : decode cX10_tells 73 = .ok (.iaload, 1) := by decide +kernel
theorem dX10_tells_74 : decode cX10_tells 74 = .ok (.iload_n 3, 1) := by decide +kernel
theorem dX10_tells_75 : decode cX10_tells 75 = .ok (.if_icmp .ne 6, 3) := by decide +kernel
theorem dX10_tells_78 : decode cX10_tells 78 = .ok (.bipush (-2), 2) := by decide +kernel
theorem dX10_tells_80 : decode cX10_tells 80 = .ok (.ireturn, 1) := by decide +kernel
theorem dX10_tells_81 : decode cX10_tells 81 = .ok (.iload 4, 2) := by decide +kernel
theorem dX10_tells_83 : decode cX10_tells 83 = .ok (.iconst (-1), 1) := by decide +kernel
theorem dX10_tells_84 : decode cX10_tells 84 = .ok (.if_icmp .ne 16, 3) := by decide +kernel
theorem dX10_tells_87 : decode cX10_tells 87 = .ok (.aload_n 0, 1) := by decide +kernel
theorem dX10_tells_88 : decode cX10_tells 88 = .ok (.iload_n 1, 1) := by decide +kernel
theorem dX10_tells_89 : decode cX10_tells 89 = .ok (.invokevirtual 207, 3) := by decide +kernel
theorem dX10_tells_92 : decode cX10_tells 92 = .ok (.bipush 8, 2) := by decide +kernel
theorem dX10_tells_94 : decode cX10_tells 94 = .ok (.if_icmp .ne 6, 3) := by decide +kernel
theorem dX10_tells_97 : decode cX10_tells 97 = .ok (.bipush (-3), 2) := by decide +kernel
theorem dX10_tells_99 : decode cX10_tells 99 = .ok (.ireturn, 1) := by decide +kernel
theorem dX10_tells_100 : decode cX10_tells 100 = .ok (.aload_n 0, 1) := by decide +kernel
theorem dX10_tells_101 : decode cX10_tells 101 = .ok (.invokevirtual 264, 3) := by decide +kernel
theorem dX10_tells_104 : decode cX10_tells 104 = .ok (.iload 4, 2) := by decide +kernel
theorem dX10_tells_106 : decode cX10_tells 106 = .ok (.iconst (-1), 1) := by decide +kernel
theorem dX10_tells_107 : decode cX10_tells 107 = .ok (.if_icmp .ne 38, 3) := by decide +kernel
theorem dX10_tells_110 : decode cX10_tells 110 = .ok (.iload_n 1, 1) := by decide +kernel
theorem dX10_tells_111 : decode cX10_tells 111 = .ok (.aload_n 0, 1) := by decide +kernel
theorem dX10_tells_112 : decode cX10_tells 112 = .ok (.iload_n 1, 1) := by decide +kernel
theorem dX10_tells_113 : decode cX10_tells 113 = .ok (.invokevirtual 207, 3) := by decide +kernel
theorem dX10_tells_116 : decode cX10_tells 116 = .ok (.invokestatic 168, 3) := by decide +kernel
theorem dX10_tells_119 : decode cX10_tells 119 = .ok (.istore 5, 2) := by decide +kernel
theorem dX10_tells_121 : decode cX10_tells 121 = .ok (.aload_n 0, 1) := by decide +kernel
theorem dX10_tells_122 : decode cX10_tells 122 = .ok (.getfield 11, 3) := by decide +kernel
theorem dX10_tells_125 : decode cX10_tells 125 = .ok (.bipush 113, 2) := by decide +kernel
theorem dX10_tells_127 : decode cX10_tells 127 = .ok (.iload_n 1, 1) := by decide +kernel
theorem dX10_tells_128 : decode cX10_tells 128 = .ok (.imul, 1) := by decide +kernel
theorem dX10_tells_129 : decode cX10_tells 129 = .ok (.bipush 64, 2) := by decide +kernel
theorem dX10_tells_131 : decode cX10_tells 131 = .ok (.iadd, 1) := by decide +kernel
theorem dX10_tells_132 : decode cX10_tells 132 = .ok (.dup2, 1) := by decide +kernel
theorem dX10_tells_133 : decode cX10_tells 133 = .ok (.iaload, 1) := by decide +kernel
theorem dX10_tells_134 : decode cX10_tells 134 = .ok (.iconst 1, 1) := by decide +kernel
theorem dX10_tells_135 : decode cX10_tells 135 = .ok (.iadd, 1) := by decide +kernel
theorem dX10_tells_136 : decode cX10_tells 136 = .ok (.iastore, 1) := by decide +kernel
theorem dX10_tells_137 : decode cX10_tells 137 = .ok (.aload_n 0, 1) := by decide +kernel
theorem dX10_tells_138 : decode cX10_tells 138 = .ok (.getfield 11, 3) := by decide +kernel
theorem dX10_tells_141 : decode cX10_tells 141 = .ok (.iload 5, 2) := by decide +kernel
theorem dX10_tells_143 : decode cX10_tells 143 = .ok (.iload_n 2, 1) := by decide +kernel
theorem dX10_tells_144 : decode cX10_tells 144 = .ok (.iastore, 1) := by decide +kernel
theorem dX10_tells_145 : decode cX10_tells 145 = .ok (.aload_n 0, 1) := by decide +kernel
theorem dX10_tells_146 : decode cX10_tells 146 = .ok (.getfield 11, 3) := by decide +kernel
theorem dX10_tells_149 : decode cX10_tells 149 = .ok (.iload 5, 2) := by decide +kernel
theorem dX10_tells_151 : decode cX10_tells 151 = .ok (.iconst 1, 1) := by decide +kernel
theorem dX10_tells_152 : decode cX10_tells 152 = .ok (.iadd, 1) := by decide +kernel
theorem dX10_tells_153 : decode cX10_tells 153 = .ok (.iload_n 3, 1) := by decide +kernel
theorem dX10_tells_154 : decode cX10_tells 154 = .ok (.iconst (-1), 1) := by decide +kernel
theorem dX10_tells_155 : decode cX10_tells 155 = .ok (.if_icmp .ne 7, 3) := by decide +kernel
theorem dX10_tells_158 : decode cX10_tells 158 = .ok (.iconst 0, 1) := by decide +kernel
theorem dX10_tells_159 : decode cX10_tells 159 = .ok (.goto 4, 3) := by decide +kernel
theorem dX10_tells_162 : decode cX10_tells 162 = .ok (.iconst 1, 1) := by decide +kernel
theorem dX10_tells_163 : decode cX10_tells 163 = .ok (.iastore, 1) := by decide +kernel
theorem dX10_tells_164 : decode cX10_tells 164 = .ok (.aload_n 0, 1) := by decide +kernel
theorem dX10_tells_165 : decode cX10_tells 165 = .ok (.getfield 11, 3) := by decide +kernel
theorem dX10_tells_168 : decode cX10_tells 168 = .ok (.iload 5, 2) := by decide +kernel
theorem dX10_tells_170 : decode cX10_tells 170 = .ok (.iconst 2, 1) := by decide +kernel
theorem dX10_tells_171 : decode cX10_tells 171 = .ok (.iadd, 1) := by decide +kernel
theorem dX10_tells_172 : decode cX10_tells 172 = .ok (.iload_n 3, 1) := by decide +kernel
theorem dX10_tells_173 : decode cX10_tells 173 = .ok (.iconst (-1), 1) := by decide +kernel
theorem dX10_tells_174 : decode cX10_tells 174 = .ok (.if_icmp .ne 7, 3) := by decide +kernel
theorem dX10_tells_177 : decode cX10_tells 177 = .ok (.iconst 0, 1) := by decide +kernel
theorem dX10_tells_178 : decode cX10_tells 178 = .ok (.goto 4, 3) := by decide +kernel
theorem dX10_tells_181 : decode cX10_tells 181 = .ok (.iload_n 3, 1) := by decide +kernel
theorem dX10_tells_182 : decode cX10_tells 182 = .ok (.iastore, 1) := by decide +kernel
theorem dX10_tells_183 : decode cX10_tells 183 = .ok (.iload 4, 2) := by decide +kernel
theorem dX10_tells_185 : decode cX10_tells 185 = .ok (.iconst (-1), 1) := by decide +kernel
theorem dX10_tells_186 : decode cX10_tells 186 = .ok (.if_icmp .eq 7, 3) := by decide +kernel
theorem dX10_tells_189 : decode cX10_tells 189 = .ok (.iconst 1, 1) := by decide +kernel
theorem dX10_tells_190 : decode cX10_tells 190 = .ok (.goto 4, 3) := by decide +kernel
theorem dX10_tells_193 : decode cX10_tells 193 = .ok (.iconst 0, 1) := by decide +kernel
theorem dX10_tells_194 : decode cX10_tells 194 = .ok (.invokestatic 104, 3) := by decide +kernel
theorem dX10_tells_197 : decode cX10_tells 197 = .ok (.ireturn, 1) := by decide +kernel
theorem dX10_give_0 : decode cX10_give 0 = .ok (.aload_n 0, 1) := by decide +kernel
theorem dX10_give_1 : decode cX10_give 1 = .ok (.iload_n 1, 1) := by decide +kernel
theorem dX10_give_2 : decode cX10_give 2 = .ok (.invokevirtual 201, 3) := by decide +kernel
theorem dX10_give_5 : decode cX10_give 5 = .ok (.ifCond .eq 34, 3) := by decide +kernel
theorem dX10_give_8 : decode cX10_give 8 = .ok (.iload_n 2, 1) := by decide +kernel
theorem dX10_give_9 : decode cX10_give 9 = .ok (.iconst 0, 1) := by decide +kernel
theorem dX10_give_10 : decode cX10_give 10 = .ok (.bipush 25, 2) := by decide +kernel
theorem dX10_give_12 : decode cX10_give 12 = .ok (.invokestatic 88, 3) := by decide +kernel
theorem dX10_give_15 : decode cX10_give 15 = .ok (.ifCond .eq 24, 3) := by decide +kernel
theorem dX10_give_18 : decode cX10_give 18 = .ok (.iload_n 3, 1) := by decide +kernel
theorem dX10_give_19 : decode cX10_give 19 = .ok (.iconst 0, 1) := by decide +kernel
theorem dX10_give_20 : decode cX10_give 20 = .ok (.sipush 999, 3) := by decide +kernel
theorem dX10_give_23 : decode cX10_give 23 = .ok (.invokestatic 88, 3) := by decide +kernel
theorem dX10_give_26 : decode cX10_give 26 = .ok (.ifCond .eq 13, 3) := by decide +kernel
theorem dX10_give_29 : decode cX10_give 29 = .ok (.aload_n 0, 1) := by decide +kernel
theorem dX10_give_30 : decode cX10_give 30 = .ok (.iload_n 1, 1) := by decide +kernel
theorem dX10_give_31 : decode cX10_give 31 = .ok (.iload_n 2, 1) := by decide +kernel
theorem dX10_give_32 : decode cX10_give 32 = .ok (.iload_n 3, 1) := by decide +kernel
theorem dX10_give_33 : decode cX10_give 33 = .ok (.invokevirtual 270, 3) := by decide +kernel
theorem dX10_give_36 : decode cX10_give 36 = .ok (.goto 4, 3) := by decide +kernel
theorem dX10_give_39 : decode cX10_give 39 = .ok (.iconst (-1), 1) := by decide +kernel
theorem dX10_give_40 : decode cX10_give 40 = .ok (.ireturn, 1) := by decide +kernel
theorem dX10_need_0 : decode cX10_need 0 = .ok (.aload_n 0, 1) := by decide +kernel
theorem dX10_need_1 : decode cX10_need 1 = .ok (.iload_n 1, 1) := by decide +kernel
theorem dX10_need_2 : decode cX10_need 2 = .ok (.invokevirtual 201, 3) := by decide +kernel
theorem dX10_need_5 : decode cX10_need 5 = .ok (.ifCond .eq 23, 3) := by decide +kernel
theorem dX10_need_8 : decode cX10_need 8 = .ok (.iload_n 2, 1) := by decide +kernel
theorem dX10_need_9 : decode cX10_need 9 = .ok (.iconst 0, 1) := by decide +kernel
theorem dX10_need_10 : decode cX10_need 10 = .ok (.bipush 25, 2) := by decide +kernel
theorem dX10_need_12 : decode cX10_need 12 = .ok (.invokestatic 88, 3) := by decide +kernel
theorem dX10_need_15 : decode cX10_need 15 = .ok (.ifCond .eq 13, 3) := by decide +kernel
theorem dX10_need_18 : decode cX10_need 18 = .ok (.aload_n 0, 1) := by decide +kernel
theorem dX10_need_19 : decode cX10_need 19 = .ok (.iload_n 1, 1) := by decide +kernel
theorem dX10_need_20 : decode cX10_need 20 = .ok (.iload_n 2, 1) := by decide +kernel
theorem dX10_need_21 : decode cX10_need 21 = .ok (.iconst (-1), 1) := by decide +kernel
theorem dX10_need_22 : decode cX10_need 22 = .ok (.invokevirtual 270, 3) := by decide +kernel
theorem dX10_need_25 : decode cX10_need 25 = .ok (.goto 4, 3) := by decide +kernel
theorem dX10_need_28 : decode cX10_need 28 = .ok (.iconst (-1), 1) := by decide +kernel
theorem dX10_need_29 : decode cX10_need 29 = .ok (.ireturn, 1) := by decide +kernel
theorem dX10_take_0 : decode cX10_take 0 = .ok (.aload_n 0, 1) := by decide +kernel
theorem dX10_take_1 : decode cX10_take 1 = .ok (.iload_n 1, 1) := by decide +kernel
theorem dX10_take_2 : decode cX10_take 2 = .ok (.invokevirtual 201, 3) := by decide +kernel
theorem dX10_take_5 : decode cX10_take 5 = .ok (.ifCond .eq 13, 3) := by decide +kernel
theorem dX10_take_8 : decode cX10_take 8 = .ok (.aload_n 0, 1) := by decide +kernel
theorem dX10_take_9 : decode cX10_take 9 = .ok (.iload_n 1, 1) := by decide +kernel
theorem dX10_take_10 : decode cX10_take 10 = .ok (.iload_n 2, 1) := by decide +kernel
theorem dX10_take_11 : decode cX10_take 11 = .ok (.invokevirtual 267, 3) := by decide +kernel
theorem dX10_take_14 : decode cX10_take 14 = .ok (.iconst (-1), 1) := by decide +kernel
theorem dX10_take_15 : decode cX10_take 15 = .ok (.if_icmp .ne 5, 3) := by decide +kernel
theorem dX10_take_18 : decode cX10_take 18 = .ok (.iconst (-1), 1) := by decide +kernel
theorem dX10_take_19 : decode cX10_take 19 = .ok (.ireturn, 1) := by decide +kernel
theorem dX10_take_20 : decode cX10_take 20 = .ok (.aload_n 0, 1) := by decide +kernel
theorem dX10_take_21 : decode cX10_take 21 = .ok (.invokevirtual 264, 3) := by decide +kernel
theorem dX10_take_24 : decode cX10_take 24 = .ok (.iload_n 1, 1) := by decide +kernel
theorem dX10_take_25 : decode cX10_take 25 = .ok (.aload_n 0, 1) := by decide +kernel
theorem dX10_take_26 : decode cX10_take 26 = .ok (.iload_n 1, 1) := by decide +kernel
theorem dX10_take_27 : decode cX10_take 27 = .ok (.iload_n 2, 1) := by decide +kernel
theorem dX10_take_28 : decode cX10_take 28 = .ok (.invokevirtual 267, 3) := by decide +kernel
theorem dX10_take_31 : decode cX10_take 31 = .ok (.invokestatic 168, 3) := by decide +kernel
theorem dX10_take_34 : decode cX10_take 34 = .ok (.istore_n 3, 1) := by decide +kernel
theorem dX10_take_35 : decode cX10_take 35 = .ok (.iload_n 3, 1) := by decide +kernel
theorem dX10_take_36 : decode cX10_take 36 = .ok (.iload_n 1, 1) := by decide +kernel
theorem dX10_take_37 : decode cX10_take 37 = .ok (.aload_n 0, 1) := by decide +kernel
theorem dX10_take_38 : decode cX10_take 38 = .ok (.iload_n 1, 1) := by decide +kernel
theorem dX10_take_39 : decode cX10_take 39 = .ok (.invokevirtual 207, 3) := by decide +kernel
theorem dX10_take_42 : decode cX10_take 42 = .ok (.iconst 1, 1) := by decide +kernel
theorem dX10_take_43 : decode cX10_take 43 = .ok (.isub, 1) := by decide +kernel
theorem dX10_take_44 : decode cX10_take 44 = .ok (.invokestatic 168, 3) := by decide +kernel
theorem dX10_take_47 : decode cX10_take 47 = .ok (.if_icmp .ge 24, 3) := by decide +kernel
theorem dX10_take_50 : decode cX10_take 50 = .ok (.aload_n 0, 1) := by decide +kernel
theorem dX10_take_51 : decode cX10_take 51 = .ok (.getfield 11, 3) := by decide +kernel
theorem dX10_take_54 : decode cX10_take 54 = .ok (.iload_n 3, 1) := by decide +kernel
theorem dX10_take_55 : decode cX10_take 55 = .ok (.aload_n 0, 1) := by decide +kernel
theorem dX10_take_56 : decode cX10_take 56 = .ok (.getfield 11, 3) := by decide +kernel
theorem dX10_take_59 : decode cX10_take 59 = .ok (.iload_n 3, 1) := by decide +kernel
theorem dX10_take_60 : decode cX10_take 60 = .ok (.bipush 6, 2) := by decide +kernel
theorem dX10_take_62 : decode cX10_take 62 = .ok (.iadd, 1) := by decide +kernel
theorem dX10_take_63 : decode cX10_take 63 = .ok (.iaload, 1) := by decide +kernel
theorem dX10_take_64 : decode cX10_take 64 = .ok (.iastore, 1) := by decide +kernel
theorem dX10_take_65 : decode cX10_take 65 = .ok (.iinc 3 1, 3) := by decide +kernel
theorem dX10_take_68 : decode cX10_take 68 = .ok (.goto (-33), 3) := by decide +kernel
theorem dX10_take_71 : decode cX10_take 71 = .ok (.aload_n 0, 1) := by decide +kernel
theorem dX10_take_72 : decode cX10_take 72 = .ok (.getfield 11, 3) := by decide +kernel
theorem dX10_take_75 : decode cX10_take 75 = .ok (.bipush 113, 2) := by decide +kernel
theorem dX10_take_77 : decode cX10_take 77 = .ok (.iload_n 1, 1) := by decide +kernel
theorem dX10_take_78 : decode cX10_take 78 = .ok (.imul, 1) := by decide +kernel
theorem dX10_take_79 : decode cX10_take 79 = .ok (.bipush 64, 2) := by decide +kernel
theorem dX10_take_81 : decode cX10_take 81 = .ok (.iadd, 1) := by decide +kernel
theorem dX10_take_82 : decode cX10_take 82 = .ok (.dup2, 1) := by decide +kernel
theorem dX10_take_83 : decode cX10_take 83 = .ok (.iaload, 1) := by decide +kernel
theorem dX10_take_84 : decode cX10_take 84 = .ok (.iconst 1, 1) := by decide +kernel
theorem dX10_take_85 : decode cX10_take 85 = .ok (.isub, 1) := by decide +kernel
theorem dX10_take_86 : decode cX10_take 86 = .ok (.iastore, 1) := by decide +kernel
theorem dX10_take_87 : decode cX10_take 87 = .ok (.aload_n 0, 1) := by decide +kernel
theorem dX10_take_88 : decode cX10_take 88 = .ok (.iload_n 1, 1) := by decide +kernel
theorem dX10_take_89 : decode cX10_take 89 = .ok (.invokevirtual 207, 3) := by decide +kernel
theorem dX10_take_92 : decode cX10_take 92 = .ok (.ireturn, 1) := by decide +kernel
theorem dX10_use_0 : decode cX10_use 0 = .ok (.aload_n 0, 1) := by decide +kernel
theorem dX10_use_1 : decode cX10_use 1 = .ok (.iload_n 1, 1) := by decide +kernel
theorem dX10_use_2 : decode cX10_use 2 = .ok (.invokevirtual 201, 3) := by decide +kernel
theorem dX10_use_5 : decode cX10_use 5 = .ok (.ifCond .eq 24, 3) := by decide +kernel
theorem dX10_use_8 : decode cX10_use 8 = .ok (.aload_n 0, 1) := by decide +kernel
theorem dX10_use_9 : decode cX10_use 9 = .ok (.iload_n 2, 1) := by decide +kernel
theorem dX10_use_10 : decode cX10_use 10 = .ok (.invokevirtual 201, 3) := by decide +kernel
theorem dX10_use_13 : decode cX10_use 13 = .ok (.ifCond .eq 16, 3) := by decide +kernel
theorem dX10_use_16 : decode cX10_use 16 = .ok (.aload_n 0, 1) := by decide +kernel
theorem dX10_use_17 : decode cX10_use 17 = .ok (.iload_n 2, 1) := by decide +kernel
theorem dX10_use_18 : decode cX10_use 18 = .ok (.invokevirtual 204, 3) := by decide +kernel
theorem dX10_use_21 : decode cX10_use 21 = .ok (.ifCond .eq 8, 3) := by decide +kernel
theorem dX10_use_24 : decode cX10_use 24 = .ok (.iload_n 2, 1) := by decide +kernel
theorem dX10_use_25 : decode cX10_use 25 = .ok (.iload_n 1, 1) := by decide +kernel
theorem dX10_use_26 : decode cX10_use 26 = .ok (.if_icmp .lt 5, 3) := by decide +kernel
theorem dX10_use_29 : decode cX10_use 29 = .ok (.iconst (-1), 1) := by decide +kernel
theorem dX10_use_30 : decode cX10_use 30 = .ok (.ireturn, 1) := by decide +kernel
theorem dX10_use_31 : decode cX10_use 31 = .ok (.aload_n 0, 1) := by decide +kernel
theorem dX10_use_32 : decode cX10_use 32 = .ok (.iload_n 1, 1) := by decide +kernel
theorem dX10_use_33 : decode cX10_use 33 = .ok (.iload_n 2, 1) := by decide +kernel
theorem dX10_use_34 : decode cX10_use 34 = .ok (.invokevirtual 273, 3) := by decide +kernel
theorem dX10_use_37 : decode cX10_use 37 = .ok (.iconst (-1), 1) := by decide +kernel
theorem dX10_use_38 : decode cX10_use 38 = .ok (.if_icmp .eq 6, 3) := by decide +kernel
theorem dX10_use_41 : decode cX10_use 41 = .ok (.bipush (-2), 2) := by decide +kernel
theorem dX10_use_43 : decode cX10_use 43 = .ok (.ireturn, 1) := by decide +kernel
theorem dX10_use_44 : decode cX10_use 44 = .ok (.aload_n 0, 1) := by decide +kernel
theorem dX10_use_45 : decode cX10_use 45 = .ok (.iload_n 1, 1) := by decide +kernel
theorem dX10_use_46 : decode cX10_use 46 = .ok (.invokevirtual 210, 3) := by decide +kernel
theorem dX10_use_49 : decode cX10_use 49 = .ok (.iconst 4, 1) := by decide +kernel
theorem dX10_use_50 : decode cX10_use 50 = .ok (.if_icmp .ne 6, 3) := by decide +kernel
theorem dX10_use_53 : decode cX10_use 53 = .ok (.bipush (-3), 2) := by decide +kernel
theorem dX10_use_55 : decode cX10_use 55 = .ok (.ireturn, 1) := by decide +kernel
theorem dX10_use_56 : decode cX10_use 56 = .ok (.aload_n 0, 1) := by decide +kernel
theorem dX10_use_57 : decode cX10_use 57 = .ok (.invokevirtual 264, 3) := by decide +kernel
theorem dX10_use_60 : decode cX10_use 60 = .ok (.aload_n 0, 1) := by decide +kernel
theorem dX10_use_61 : decode cX10_use 61 = .ok (.getfield 11, 3) := by decide +kernel
theorem dX10_use_64 : decode cX10_use 64 = .ok (.iload_n 1, 1) := by decide +kernel
theorem dX10_use_65 : decode cX10_use 65 = .ok (.aload_n 0, 1) := by decide +kernel
theorem dX10_use_66 : decode cX10_use 66 = .ok (.iload_n 1, 1) := by decide +kernel
theorem dX10_use_67 : decode cX10_use 67 = .ok (.invokevirtual 210, 3) := by decide +kernel
theorem dX10_use_70 : decode cX10_use 70 = .ok (.invokestatic 147, 3) := by decide +kernel
theorem dX10_use_73 : decode cX10_use 73 = .ok (.iload_n 2, 1) := by decide +kernel
theorem dX10_use_74 : decode cX10_use 74 = .ok (.iastore, 1) := by decide +kernel
theorem dX10_use_75 : decode cX10_use 75 = .ok (.aload_n 0, 1) := by decide +kernel
theorem dX10_use_76 : decode cX10_use 76 = .ok (.getfield 11, 3) := by decide +kernel
theorem dX10_use_79 : decode cX10_use 79 = .ok (.iload_n 1, 1) := by decide +kernel
theorem dX10_use_80 : decode cX10_use 80 = .ok (.aload_n 0, 1) := by decide +kernel
theorem dX10_use_81 : decode cX10_use 81 = .ok (.iload_n 1, 1) := by decide +kernel
theorem dX10_use_82 : decode cX10_use 82 = .ok (.invokevirtual 210, 3) := by decide +kernel
theorem dX10_use_85 : decode cX10_use 85 = .ok (.invokestatic 147, 3) := by decide +kernel
theorem dX10_use_88 : decode cX10_use 88 = .ok (.iconst 1, 1) := by decide +kernel
theorem dX10_use_89 : decode cX10_use 89 = .ok (.iadd, 1) := by decide +kernel
theorem dX10_use_90 : decode cX10_use 90 = .ok (.iconst 0, 1) := by decide +kernel
theorem dX10_use_91 : decode cX10_use 91 = .ok (.iastore, 1) := by decide +kernel
theorem dX10_use_92 : decode cX10_use 92 = .ok (.aload_n 0, 1) := by decide +kernel
theorem dX10_use_93 : decode cX10_use 93 = .ok (.getfield 11, 3) := by decide +kernel
theorem dX10_use_96 : decode cX10_use 96 = .ok (.bipush 113, 2) := by decide +kernel
theorem dX10_use_98 : decode cX10_use 98 = .ok (.iload_n 1, 1) := by decide +kernel
theorem dX10_use_99 : decode cX10_use 99 = .ok (.imul, 1) := by decide +kernel
theorem dX10_use_100 : decode cX10_use 100 = .ok (.bipush 7, 2) := by decide +kernel
theorem dX10_use_102 : decode cX10_use 102 = .ok (.iadd, 1) := by decide +kernel
theorem dX10_use_103 : decode cX10_use 103 = .ok (.dup2, 1) := by decide +kernel
theorem dX10_use_104 : decode cX10_use 104 = .ok (.iaload, 1) := by decide +kernel
theorem dX10_use_105 : decode cX10_use 105 = .ok (.iconst 1, 1) := by decide +kernel
theorem dX10_use_106 : decode cX10_use 106 = .ok (.iadd, 1) := by decide +kernel
theorem dX10_use_107 : decode cX10_use 107 = .ok (.iastore, 1) := by decide +kernel
theorem dX10_use_108 : decode cX10_use 108 = .ok (.aload_n 0, 1) := by decide +kernel
theorem dX10_use_109 : decode cX10_use 109 = .ok (.iload_n 1, 1) := by decide +kernel
theorem dX10_use_110 : decode cX10_use 110 = .ok (.invokevirtual 210, 3) := by decide +kernel
theorem dX10_use_113 : decode cX10_use 113 = .ok (.ireturn, 1) := by decide +kernel
theorem dX10_change_0 : decode cX10_change 0 = .ok (.aload_n 0, 1) := by decide +kernel
theorem dX10_change_1 : decode cX10_change 1 = .ok (.iload_n 1, 1) := by decide +kernel
theorem dX10_change_2 : decode cX10_change 2 = .ok (.invokevirtual 201, 3) := by decide +kernel
theorem dX10_change_5 : decode cX10_change 5 = .ok (.ifCond .eq 34, 3) := by decide +kernel
theorem dX10_change_8 : decode cX10_change 8 = .ok (.iload_n 3, 1) := by decide +kernel
theorem dX10_change_9 : decode cX10_change 9 = .ok (.iconst 0, 1) := by decide +kernel
theorem dX10_change_10 : decode cX10_change 10 = .ok (.bipush 25, 2) := by decide +kernel
theorem dX10_change_12 : decode cX10_change 12 = .ok (.invokestatic 88, 3) := by decide +kernel
theorem dX10_change_15 : decode cX10_change 15 = .ok (.ifCond .eq 24, 3) := by decide +kernel
theorem dX10_change_18 : decode cX10_change 18 = .ok (.iload 4, 2) := by decide +kernel
theorem dX10_change_20 : decode cX10_change 20 = .ok (.iconst (-1), 1) := by decide +kernel
theorem dX10_change_21 : decode cX10_change 21 = .ok (.bipush 25, 2) := by decide +kernel
theorem dX10_change_23 : decode cX10_change 23 = .ok (.invokestatic 88, 3) := by decide +kernel
theorem dX10_change_26 : decode cX10_change 26 = .ok (.ifCond .eq 13, 3) := by decide +kernel
theorem dX10_change_29 : decode cX10_change 29 = .ok (.aload_n 0, 1) := by decide +kernel
theorem dX10_change_30 : decode cX10_change 30 = .ok (.iload_n 1, 1) := by decide +kernel
theorem dX10_change_31 : decode cX10_change 31 = .ok (.iload_n 2, 1) := by decide +kernel
theorem dX10_change_32 : decode cX10_change 32 = .ok (.invokevirtual 273, 3) := by decide +kernel
theorem dX10_change_35 : decode cX10_change 35 = .ok (.iconst (-1), 1) := by decide +kernel
theorem dX10_change_36 : decode cX10_change 36 = .ok (.if_icmp .ne 5, 3) := by decide +kernel
theorem dX10_change_39 : decode cX10_change 39 = .ok (.iconst (-1), 1) := by decide +kernel
theorem dX10_change_40 : decode cX10_change 40 = .ok (.ireturn, 1) := by decide +kernel
theorem dX10_change_41 : decode cX10_change 41 = .ok (.aload_n 0, 1) := by decide +kernel
theorem dX10_change_42 : decode cX10_change 42 = .ok (.iload_n 1, 1) := by decide +kernel
theorem dX10_change_43 : decode cX10_change 43 = .ok (.iload_n 2, 1) := by decide +kernel
theorem dX10_change_44 : decode cX10_change 44 = .ok (.invokevirtual 273, 3) := by decide +kernel
theorem dX10_change_47 : decode cX10_change 47 = .ok (.istore 5, 2) := by decide +kernel
theorem dX10_change_49 : decode cX10_change 49 = .ok (.iload_n 1, 1) := by decide +kernel
theorem dX10_change_50 : decode cX10_change 50 = .ok (.iload 5, 2) := by decide +kernel
theorem dX10_change_52 : decode cX10_change 52 = .ok (.invokestatic 147, 3) := by decide +kernel
theorem dX10_change_55 : decode cX10_change 55 = .ok (.istore 6, 2) := by decide +kernel
theorem dX10_change_57 : decode cX10_change 57 = .ok (.aload_n 0, 1) := by decide +kernel
theorem dX10_change_58 : decode cX10_change 58 = .ok (.iload_n 1, 1) := by decide +kernel
theorem dX10_change_59 : decode cX10_change 59 = .ok (.iload 5, 2) := by decide +kernel
theorem dX10_change_61 : decode cX10_change 61 = .ok (.iload_n 3, 1) := by decide +kernel
theorem dX10_change_62 : decode cX10_change 62 = .ok (.invokevirtual 222, 3) := by decide +kernel
theorem dX10_change_65 : decode cX10_change 65 = .ok (.iload 4, 2) := by decide +kernel
theorem dX10_change_67 : decode cX10_change 67 = .ok (.if_icmp .ne 6, 3) := by decide +kernel
theorem dX10_change_70 : decode cX10_change 70 = .ok (.bipush (-2), 2) := by decide +kernel
theorem dX10_change_72 : decode cX10_change 72 = .ok (.ireturn, 1) := by decide +kernel
theorem dX10_change_73 : decode cX10_change 73 = .ok (.aload_n 0, 1) := by decide +kernel
theorem dX10_change_74 : decode cX10_change 74 = .ok (.iload_n 1, 1) := by decide +kernel
theorem dX10_change_75 : decode cX10_change 75 = .ok (.iload 5, 2) := by decide +kernel
theorem dX10_change_77 : decode cX10_change 77 = .ok (.iload_n 3, 1) := by decide +kernel
theorem dX10_change_78 : decode cX10_change 78 = .ok (.invokevirtual 212, 3) := by decide +kernel
theorem dX10_change_81 : decode cX10_change 81 = .ok (.istore 7, 2) := by decide +kernel
theorem dX10_change_83 : decode cX10_change 83 = .ok (.iload 7, 2) := by decide +kernel
theorem dX10_change_85 : decode cX10_change 85 = .ok (.iconst (-1), 1) := by decide +kernel
theorem dX10_change_86 : decode cX10_change 86 = .ok (.if_icmp .ne 20, 3) := by decide +kernel
theorem dX10_change_89 : decode cX10_change 89 = .ok (.aload_n 0, 1) := by decide +kernel
theorem dX10_change_90 : decode cX10_change 90 = .ok (.getfield 11, 3) := by decide +kernel
theorem dX10_change_93 : decode cX10_change 93 = .ok (.iload 6, 2) := by decide +kernel
theorem dX10_change_95 : decode cX10_change 95 = .ok (.iconst 1, 1) := by decide +kernel
theorem dX10_change_96 : decode cX10_change 96 = .ok (.iadd, 1) := by decide +kernel
theorem dX10_change_97 : decode cX10_change 97 = .ok (.iaload, 1) := by decide +kernel
theorem dX10_change_98 : decode cX10_change 98 = .ok (.bipush 6, 2) := by decide +kernel
theorem dX10_change_100 : decode cX10_change 100 = .ok (.if_icmp .ne 6, 3) := by decide +kernel
theorem dX10_change_103 : decode cX10_change 103 = .ok (.bipush (-3), 2) := by decide +kernel
theorem dX10_change_105 : decode cX10_change 105 = .ok (.ireturn, 1) := by decide +kernel
theorem dX10_change_106 : decode cX10_change 106 = .ok (.aload_n 0, 1) := by decide +kernel
theorem dX10_change_107 : decode cX10_change 107 = .ok (.invokevirtual 264, 3) := by decide +kernel
theorem dX10_change_110 : decode cX10_change 110 = .ok (.iload 4, 2) := by decide +kernel
theorem dX10_change_112 : decode cX10_change 112 = .ok (.iload_n 3, 1) := by decide +kernel
theorem dX10_change_113 : decode cX10_change 113 = .ok (.if_icmp .ne 71, 3) := by decide +kernel
theorem dX10_change_116 : decode cX10_change 116 = .ok (.iload 7, 2) := by decide +kernel
theorem dX10_change_118 : decode cX10_change 118 = .ok (.istore 8, 2) := by decide +kernel
theorem dX10_change_120 : decode cX10_change 120 = .ok (.iload 8, 2) := by decide +kernel
theorem dX10_change_122 : decode cX10_change 122 = .ok (.iload 6, 2) := by decide +kernel
theorem dX10_change_124 : decode cX10_change 124 = .ok (.iconst 2, 1) := by decide +kernel
theorem dX10_change_125 : decode cX10_change 125 = .ok (.aload_n 0, 1) := by decide +kernel
theorem dX10_change_126 : decode cX10_change 126 = .ok (.getfield 11, 3) := by decide +kernel
theorem dX10_change_129 : decode cX10_change 129 = .ok (.iload 6, 2) := by decide +kernel
theorem dX10_change_131 : decode cX10_change 131 = .ok (.iconst 1, 1) := by decide +kernel
theorem dX10_change_132 : decode cX10_change 132 = .ok (.iadd, 1) := by decide +kernel
theorem dX10_change_133 : decode cX10_change 133 = .ok (.iaload, 1) := by decide +kernel
theorem dX10_change_134 : decode cX10_change 134 = .ok (.imul, 1) := by decide +kernel
theorem dX10_change_135 : decode cX10_change 135 = .ok (.iadd, 1) := by decide +kernel
theorem dX10_change_136 : decode cX10_change 136 = .ok (.if_icmp .ge 25, 3) := by decide +kernel
theorem dX10_change_139 : decode cX10_change 139 = .ok (.aload_n 0, 1) := by decide +kernel
theorem dX10_change_140 : decode cX10_change 140 = .ok (.getfield 11, 3) := by decide +kernel
theorem dX10_change_143 : decode cX10_change 143 = .ok (.iload 8, 2) := by decide +kernel
theorem dX10_change_145 : decode cX10_change 145 = .ok (.aload_n 0, 1) := by decide +kernel
theorem dX10_change_146 : decode cX10_change 146 = .ok (.getfield 11, 3) := by decide +kernel
theorem dX10_change_149 : decode cX10_change 149 = .ok (.iload 8, 2) := by decide +kernel
theorem dX10_change_151 : decode cX10_change 151 = .ok (.iconst 2, 1) := by decide +kernel
theorem dX10_change_152 : decode cX10_change 152 = .ok (.iadd, 1) := by decide +kernel
theorem dX10_change_153 : decode cX10_change 153 = .ok (.iaload, 1) := by decide +kernel
theorem dX10_change_154 : decode cX10_change 154 = .ok (.iastore, 1) := by decide +kernel
theorem dX10_change_155 : decode cX10_change 155 = .ok (.iinc 8 1, 3) := by decide +kernel
theorem dX10_change_158 : decode cX10_change 158 = .ok (.goto (-38), 3) := by decide +kernel
theorem dX10_change_161 : decode cX10_change 161 = .ok (.aload_n 0, 1) := by decide +kernel
theorem dX10_change_162 : decode cX10_change 162 = .ok (.getfield 11, 3) := by decide +kernel
theorem dX10_change_165 : decode cX10_change 165 = .ok (.iload 6, 2) := by decide +kernel
theorem dX10_change_167 : decode cX10_change 167 = .ok (.iconst 1, 1) := by decide +kernel
theorem dX10_change_168 : decode cX10_change 168 = .ok (.iadd, 1) := by decide +kernel
theorem dX10_change_169 : decode cX10_change 169 = .ok (.dup2, 1) := by decide +kernel
theorem dX10_change_170 : decode cX10_change 170 = .ok (.iaload, 1) := by decide +kernel
theorem dX10_change_171 : decode cX10_change 171 = .ok (.iconst 1, 1) := by decide +kernel
theorem dX10_change_172 : decode cX10_change 172 = .ok (.isub, 1) := by decide +kernel
theorem dX10_change_173 : decode cX10_change 173 = .ok (.iastore, 1) := by decide +kernel
theorem dX10_change_174 : decode cX10_change 174 = .ok (.aload_n 0, 1) := by decide +kernel
theorem dX10_change_175 : decode cX10_change 175 = .ok (.getfield 11, 3) := by decide +kernel
theorem dX10_change_178 : decode cX10_change 178 = .ok (.iload 6, 2) := by decide +kernel
theorem dX10_change_180 : decode cX10_change 180 = .ok (.iconst 1, 1) := by decide +kernel
theorem dX10_change_181 : decode cX10_change 181 = .ok (.iadd, 1) := by decide +kernel
theorem dX10_change_182 : decode cX10_change 182 = .ok (.iaload, 1) := by decide +kernel
theorem dX10_change_183 : decode cX10_change 183 = .ok (.ireturn, 1) := by decide +kernel
theorem dX10_change_184 : decode cX10_change 184 = .ok (.iload 7, 2) := by decide +kernel
theorem dX10_change_186 : decode cX10_change 186 = .ok (.iconst (-1), 1) := by decide +kernel
theorem dX10_change_187 : decode cX10_change 187 = .ok (.if_icmp .ne 34, 3) := by decide +kernel
theorem dX10_change_190 : decode cX10_change 190 = .ok (.iload 6, 2) := by decide +kernel
theorem dX10_change_192 : decode cX10_change 192 = .ok (.iconst 2, 1) := by decide +kernel
theorem dX10_change_193 : decode cX10_change 193 = .ok (.iadd, 1) := by decide +kernel
theorem dX10_change_194 : decode cX10_change 194 = .ok (.iconst 2, 1) := by decide +kernel
theorem dX10_change_195 : decode cX10_change 195 = .ok (.aload_n 0, 1) := by decide +kernel
theorem dX10_change_196 : decode cX10_change 196 = .ok (.getfield 11, 3) := by decide +kernel
theorem dX10_change_199 : decode cX10_change 199 = .ok (.iload 6, 2) := by decide +kernel
theorem dX10_change_201 : decode cX10_change 201 = .ok (.iconst 1, 1) := by decide +kernel
theorem dX10_change_202 : decode cX10_change 202 = .ok (.iadd, 1) := by decide +kernel
theorem dX10_change_203 : decode cX10_change 203 = .ok (.iaload, 1) := by decide +kernel
theorem dX10_change_204 : decode cX10_change 204 = .ok (.imul, 1) := by decide +kernel
theorem dX10_change_205 : decode cX10_change 205 = .ok (.iadd, 1) := by decide +kernel
theorem dX10_change_206 : decode cX10_change 206 = .ok (.istore 7, 2) := by decide +kernel
theorem dX10_change_208 : decode cX10_change 208 = .ok (.aload_n 0, 1) := by decide +kernel
theorem dX10_change_209 : decode cX10_change 209 = .ok (.getfield 11, 3) := by decide +kernel
theorem dX10_change_212 : decode cX10_change 212 = .ok (.iload 6, 2) := by decide +kernel
theorem dX10_change_214 : decode cX10_change 214 = .ok (.iconst 1, 1) := by decide +kernel
theorem dX10_change_215 : decode cX10_change 215 = .ok (.iadd, 1) := by decide +kernel
theorem dX10_change_216 : decode cX10_change 216 = .ok (.dup2, 1) := by decide +kernel
theorem dX10_change_217 : decode cX10_change 217 = .ok (.iaload, 1) := by decide +kernel
theorem dX10_change_218 : decode cX10_change 218 = .ok (.iconst 1, 1) := by decide +kernel
theorem dX10_change_219 : decode cX10_change 219 = .ok (.iadd, 1) := by decide +kernel
theorem dX10_change_220 : decode cX10_change 220 = .ok (.iastore, 1) := by decide +kernel
theorem dX10_change_221 : decode cX10_change 221 = .ok (.aload_n 0, 1) := by decide +kernel
theorem dX10_change_222 : decode cX10_change 222 = .ok (.getfield 11, 3) := by decide +kernel
theorem dX10_change_225 : decode cX10_change 225 = .ok (.iload 7, 2) := by decide +kernel
theorem dX10_change_227 : decode cX10_change 227 = .ok (.iload_n 3, 1) := by decide +kernel
theorem dX10_change_228 : decode cX10_change 228 = .ok (.iastore, 1) := by decide +kernel
theorem dX10_change_229 : decode cX10_change 229 = .ok (.aload_n 0, 1) := by decide +kernel
theorem dX10_change_230 : decode cX10_change 230 = .ok (.getfield 11, 3) := by decide +kernel
theorem dX10_change_233 : decode cX10_change 233 = .ok (.iload 7, 2) := by decide +kernel
theorem dX10_change_235 : decode cX10_change 235 = .ok (.iconst 1, 1) := by decide +kernel
theorem dX10_change_236 : decode cX10_change 236 = .ok (.iadd, 1) := by decide +kernel
theorem dX10_change_237 : decode cX10_change 237 = .ok (.iload 4, 2) := by decide +kernel
theorem dX10_change_239 : decode cX10_change 239 = .ok (.iastore, 1) := by decide +kernel
theorem dX10_change_240 : decode cX10_change 240 = .ok (.aload_n 0, 1) := by decide +kernel
theorem dX10_change_241 : decode cX10_change 241 = .ok (.getfield 11, 3) := by decide +kernel
theorem dX10_change_244 : decode cX10_change 244 = .ok (.iload 6, 2) := by decide +kernel
theorem dX10_change_246 : decode cX10_change 246 = .ok (.iconst 1, 1) := by decide +kernel
theorem dX10_change_247 : decode cX10_change 247 = .ok (.iadd, 1) := by decide +kernel
theorem dX10_change_248 : decode cX10_change 248 = .ok (.iaload, 1) := by decide +kernel
theorem dX10_change_249 : decode cX10_change 249 = .ok (.ireturn, 1) := by decide +kernel
theorem dX10_ownSet_0 : decode cX10_ownSet 0 = .ok (.iconst 0, 1) := by decide +kernel
theorem dX10_ownSet_1 : decode cX10_ownSet 1 = .ok (.istore_n 3, 1) := by decide +kernel
theorem dX10_ownSet_2 : decode cX10_ownSet 2 = .ok (.iconst 0, 1) := by decide +kernel
theorem dX10_ownSet_3 : decode cX10_ownSet 3 = .ok (.istore 4, 2) := by decide +kernel
theorem dX10_ownSet_5 : decode cX10_ownSet 5 = .ok (.iload 4, 2) := by decide +kernel
theorem dX10_ownSet_7 : decode cX10_ownSet 7 = .ok (.aload_n 0, 1) := by decide +kernel
theorem dX10_ownSet_8 : decode cX10_ownSet 8 = .ok (.iload_n 1, 1) := by decide +kernel
theorem dX10_ownSet_9 : decode cX10_ownSet 9 = .ok (.invokevirtual 207, 3) := by decide +kernel
theorem dX10_ownSet_12 : decode cX10_ownSet 12 = .ok (.if_icmp .ge 49, 3) := by decide +kernel
theorem dX10_ownSet_15 : decode cX10_ownSet 15 = .ok (.iload_n 3, 1) := by decide +kernel
theorem dX10_ownSet_16 : decode cX10_ownSet 16 = .ok (.iload_n 2, 1) := by decide +kernel
theorem dX10_ownSet_17 : decode cX10_ownSet 17 = .ok (.ifCond .eq 19, 3) := by decide +kernel
theorem dX10_ownSet_20 : decode cX10_ownSet 20 = .ok (.aload_n 0, 1) := by decide +kernel
theorem dX10_ownSet_21 : decode cX10_ownSet 21 = .ok (.getfield 11, 3) := by decide +kernel
theorem dX10_ownSet_24 : decode cX10_ownSet 24 = .ok (.iload_n 1, 1) := by decide +kernel
theorem dX10_ownSet_25 : decode cX10_ownSet 25 = .ok (.iload 4, 2) := by decide +kernel
theorem dX10_ownSet_27 : decode cX10_ownSet 27 = .ok (.invokestatic 168, 3) := by decide +kernel
theorem dX10_ownSet_30 : decode cX10_ownSet 30 = .ok (.iconst 1, 1) := by decide +kernel
theorem dX10_ownSet_31 : decode cX10_ownSet 31 = .ok (.iadd, 1) := by decide +kernel
theorem dX10_ownSet_32 : decode cX10_ownSet 32 = .ok (.iaload, 1) := by decide +kernel
theorem dX10_ownSet_33 : decode cX10_ownSet 33 = .ok (.ifCond .ne 19, 3) := by decide +kernel
theorem dX10_ownSet_36 : decode cX10_ownSet 36 = .ok (.iconst 1, 1) := by decide +kernel
theorem dX10_ownSet_37 : decode cX10_ownSet 37 = .ok (.aload_n 0, 1) := by decide +kernel
theorem dX10_ownSet_38 : decode cX10_ownSet 38 = .ok (.getfield 11, 3) := by decide +kernel
theorem dX10_ownSet_41 : decode cX10_ownSet 41 = .ok (.iload_n 1, 1) := by decide +kernel
theorem dX10_ownSet_42 : decode cX10_ownSet 42 = .ok (.iload 4, 2) := by decide +kernel
theorem dX10_ownSet_44 : decode cX10_ownSet 44 = .ok (.invokestatic 168, 3) := by decide +kernel
theorem dX10_ownSet_47 : decode cX10_ownSet 47 = .ok (.iaload, 1) := by decide +kernel
theorem dX10_ownSet_48 : decode cX10_ownSet 48 = .ok (.ishl, 1) := by decide +kernel
theorem dX10_ownSet_49 : decode cX10_ownSet 49 = .ok (.goto 4, 3) := by decide +kernel
theorem dX10_ownSet_52 : decode cX10_ownSet 52 = .ok (.iconst 0, 1) := by decide +kernel
theorem dX10_ownSet_53 : decode cX10_ownSet 53 = .ok (.ior, 1) := by decide +kernel
theorem dX10_ownSet_54 : decode cX10_ownSet 54 = .ok (.istore_n 3, 1) := by decide +kernel
theorem dX10_ownSet_55 : decode cX10_ownSet 55 = .ok (.iinc 4 1, 3) := by decide +kernel
theorem dX10_ownSet_58 : decode cX10_ownSet 58 = .ok (.goto (-53), 3) := by decide +kernel
theorem dX10_ownSet_61 : decode cX10_ownSet 61 = .ok (.iload_n 3, 1) := by decide +kernel
theorem dX10_ownSet_62 : decode cX10_ownSet 62 = .ok (.ireturn, 1) := by decide +kernel
theorem dX10_flatSet_0 : decode cX10_flatSet 0 = .ok (.iconst 0, 1) := by decide +kernel
theorem dX10_flatSet_1 : decode cX10_flatSet 1 = .ok (.istore_n 3, 1) := by decide +kernel
theorem dX10_flatSet_2 : decode cX10_flatSet 2 = .ok (.iconst 0, 1) := by decide +kernel
theorem dX10_flatSet_3 : decode cX10_flatSet 3 = .ok (.istore 4, 2) := by decide +kernel
theorem dX10_flatSet_5 : decode cX10_flatSet 5 = .ok (.iload 4, 2) := by decide +kernel
theorem dX10_flatSet_7 : decode cX10_flatSet 7 = .ok (.bipush 26, 2) := by decide +kernel
theorem dX10_flatSet_9 : decode cX10_flatSet 9 = .ok (.if_icmp .ge 45, 3) := by decide +kernel
theorem dX10_flatSet_12 : decode cX10_flatSet 12 = .ok (.aload_n 0, 1) := by decide +kernel
theorem dX10_flatSet_13 : decode cX10_flatSet 13 = .ok (.iload_n 1, 1) := by decide +kernel
theorem dX10_flatSet_14 : decode cX10_flatSet 14 = .ok (.iload 4, 2) := by decide +kernel
theorem dX10_flatSet_16 : decode cX10_flatSet 16 = .ok (.invokevirtual 276, 3) := by decide +kernel
theorem dX10_flatSet_19 : decode cX10_flatSet 19 = .ok (.istore 5, 2) := by decide +kernel
theorem dX10_flatSet_21 : decode cX10_flatSet 21 = .ok (.iload_n 3, 1) := by decide +kernel
theorem dX10_flatSet_22 : decode cX10_flatSet 22 = .ok (.iload 5, 2) := by decide +kernel
theorem dX10_flatSet_24 : decode cX10_flatSet 24 = .ok (.ifCond .eq 21, 3) := by decide +kernel
theorem dX10_flatSet_27 : decode cX10_flatSet 27 = .ok (.iload_n 2, 1) := by decide +kernel
theorem dX10_flatSet_28 : decode cX10_flatSet 28 = .ok (.iconst (-1), 1) := by decide +kernel
theorem dX10_flatSet_29 : decode cX10_flatSet 29 = .ok (.if_icmp .eq 9, 3) := by decide +kernel
theorem dX10_flatSet_32 : decode cX10_flatSet 32 = .ok (.iload 5, 2) := by decide +kernel
theorem dX10_flatSet_34 : decode cX10_flatSet 34 = .ok (.iload_n 2, 1) := by decide +kernel
theorem dX10_flatSet_35 : decode cX10_flatSet 35 = .ok (.if_icmp .ne 10, 3) := by decide +kernel
theorem dX10_flatSet_38 : decode cX10_flatSet 38 = .ok (.iconst 1, 1) := by decide +kernel
theorem dX10_flatSet_39 : decode cX10_flatSet 39 = .ok (.iload 4, 2) := by decide +kernel
theorem dX10_flatSet_41 : decode cX10_flatSet 41 = .ok (.ishl, 1) := by decide +kernel
theorem dX10_flatSet_42 : decode cX10_flatSet 42 = .ok (.goto 4, 3) := by decide +kernel
theorem dX10_flatSet_45 : decode cX10_flatSet 45 = .ok (.iconst 0, 1) := by decide +kernel
theorem dX10_flatSet_46 : decode cX10_flatSet 46 = .ok (.ior, 1) := by decide +kernel
theorem dX10_flatSet_47 : decode cX10_flatSet 47 = .ok (.istore_n 3, 1) := by decide +kernel
theorem dX10_flatSet_48 : decode cX10_flatSet 48 = .ok (.iinc 4 1, 3) := by decide +kernel
theorem dX10_flatSet_51 : decode cX10_flatSet 51 = .ok (.goto (-46), 3) := by decide +kernel
theorem dX10_flatSet_54 : decode cX10_flatSet 54 = .ok (.iload_n 3, 1) := by decide +kernel
theorem dX10_flatSet_55 : decode cX10_flatSet 55 = .ok (.ireturn, 1) := by decide +kernel
theorem dX10_unit_0 : decode cX10_unit 0 = .ok (.aload_n 0, 1) := by decide +kernel
theorem dX10_unit_1 : decode cX10_unit 1 = .ok (.iload_n 1, 1) := by decide +kernel
theorem dX10_unit_2 : decode cX10_unit 2 = .ok (.invokevirtual 201, 3) := by decide +kernel
theorem dX10_unit_5 : decode cX10_unit 5 = .ok (.ifCond .ne 5, 3) := by decide +kernel
theorem dX10_unit_8 : decode cX10_unit 8 = .ok (.iconst (-1), 1) := by decide +kernel
theorem dX10_unit_9 : decode cX10_unit 9 = .ok (.ireturn, 1) := by decide +kernel
theorem dX10_unit_10 : decode cX10_unit 10 = .ok (.aload_n 0, 1) := by decide +kernel
theorem dX10_unit_11 : decode cX10_unit 11 = .ok (.invokevirtual 279, 3) := by decide +kernel
theorem dX10_unit_14 : decode cX10_unit 14 = .ok (.iload_n 2, 1) := by decide +kernel
theorem dX10_unit_15 : decode cX10_unit 15 = .ok (.tableswitch 131 0 9 #[53, 65, 77, 83, 89, 96, 103, 110, 117, 124], 53) := by decide +kernel
theorem dX10_unit_68 : decode cX10_unit 68 = .ok (.aload_n 0, 1) := by decide +kernel
theorem dX10_unit_69 : decode cX10_unit 69 = .ok (.getfield 11, 3) := by decide +kernel
theorem dX10_unit_72 : decode cX10_unit 72 = .ok (.bipush 113, 2) := by decide +kernel
theorem dX10_unit_74 : decode cX10_unit 74 = .ok (.iload_n 1, 1) := by decide +kernel
theorem dX10_unit_75 : decode cX10_unit 75 = .ok (.imul, 1) := by decide +kernel
theorem dX10_unit_76 : decode cX10_unit 76 = .ok (.iconst 0, 1) := by decide +kernel
theorem dX10_unit_77 : decode cX10_unit 77 = .ok (.iadd, 1) := by decide +kernel
theorem dX10_unit_78 : decode cX10_unit 78 = .ok (.iaload, 1) := by decide +kernel
theorem dX10_unit_79 : decode cX10_unit 79 = .ok (.ireturn, 1) := by decide +kernel
theorem dX10_unit_80 : decode cX10_unit 80 = .ok (.aload_n 0, 1) := by decide +kernel
theorem dX10_unit_81 : decode cX10_unit 81 = .ok (.getfield 11, 3) := by decide +kernel
theorem dX10_unit_84 : decode cX10_unit 84 = .ok (.bipush 113, 2) := by decide +kernel
theorem dX10_unit_86 : decode cX10_unit 86 = .ok (.iload_n 1, 1) := by decide +kernel
theorem dX10_unit_87 : decode cX10_unit 87 = .ok (.imul, 1) := by decide +kernel
theorem dX10_unit_88 : decode cX10_unit 88 = .ok (.iconst 1, 1) := by decide +kernel
theorem dX10_unit_89 : decode cX10_unit 89 = .ok (.iadd, 1) := by decide +kernel
theorem dX10_unit_90 : decode cX10_unit 90 = .ok (.iaload, 1) := by decide +kernel
theorem dX10_unit_91 : decode cX10_unit 91 = .ok (.ireturn, 1) := by decide +kernel
theorem dX10_unit_92 : decode cX10_unit 92 = .ok (.aload_n 0, 1) := by decide +kernel
theorem dX10_unit_93 : decode cX10_unit 93 = .ok (.iload_n 1, 1) := by decide +kernel
theorem dX10_unit_94 : decode cX10_unit 94 = .ok (.invokevirtual 237, 3) := by decide +kernel
theorem dX10_unit_97 : decode cX10_unit 97 = .ok (.ireturn, 1) := by decide +kernel
theorem dX10_unit_98 : decode cX10_unit 98 = .ok (.aload_n 0, 1) := by decide +kernel
theorem dX10_unit_99 : decode cX10_unit 99 = .ok (.iload_n 1, 1) := by decide +kernel
theorem dX10_unit_100 : decode cX10_unit 100 = .ok (.invokevirtual 210, 3) := by decide +kernel
theorem dX10_unit_103 : decode cX10_unit 103 = .ok (.ireturn, 1) := by decide +kernel
theorem dX10_unit_104 : decode cX10_unit 104 = .ok (.aload_n 0, 1) := by decide +kernel
theorem dX10_unit_105 : decode cX10_unit 105 = .ok (.iload_n 1, 1) := by decide +kernel
theorem dX10_unit_106 : decode cX10_unit 106 = .ok (.iconst 0, 1) := by decide +kernel
theorem dX10_unit_107 : decode cX10_unit 107 = .ok (.invokevirtual 281, 3) := by decide +kernel
theorem dX10_unit_110 : decode cX10_unit 110 = .ok (.ireturn, 1) := by decide +kernel
theorem dX10_unit_111 : decode cX10_unit 111 = .ok (.aload_n 0, 1) := by decide +kernel
theorem dX10_unit_112 : decode cX10_unit 112 = .ok (.iload_n 1, 1) := by decide +kernel
theorem dX10_unit_113 : decode cX10_unit 113 = .ok (.iconst 1, 1) := by decide +kernel
theorem dX10_unit_114 : decode cX10_unit 114 = .ok (.invokevirtual 281, 3) := by decide +kernel
theorem dX10_unit_117 : decode cX10_unit 117 = .ok (.ireturn, 1) := by decide +kernel
theorem dX10_unit_118 : decode cX10_unit 118 = .ok (.aload_n 0, 1) := by decide +kernel
theorem dX10_unit_119 : decode cX10_unit 119 = .ok (.iload_n 1, 1) := by decide +kernel
theorem dX10_unit_120 : decode cX10_unit 120 = .ok (.iconst (-1), 1) := by decide +kernel
theorem dX10_unit_121 : decode cX10_unit 121 = .ok (.invokevirtual 285, 3) := by decide +kernel
theorem dX10_unit_124 : decode cX10_unit 124 = .ok (.ireturn, 1) := by decide +kernel
theorem dX10_unit_125 : decode cX10_unit 125 = .ok (.aload_n 0, 1) := by decide +kernel
theorem dX10_unit_126 : decode cX10_unit 126 = .ok (.iload_n 1, 1) := by decide +kernel
theorem dX10_unit_127 : decode cX10_unit 127 = .ok (.iconst 1, 1) := by decide +kernel
theorem dX10_unit_128 : decode cX10_unit 128 = .ok (.invokevirtual 285, 3) := by decide +kernel
theorem dX10_unit_131 : decode cX10_unit 131 = .ok (.ireturn, 1) := by decide +kernel
theorem dX10_unit_132 : decode cX10_unit 132 = .ok (.aload_n 0, 1) := by decide +kernel
theorem dX10_unit_133 : decode cX10_unit 133 = .ok (.iload_n 1, 1) := by decide +kernel
theorem dX10_unit_134 : decode cX10_unit 134 = .ok (.iconst 2, 1) := by decide +kernel
