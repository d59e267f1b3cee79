theorem dX10_unit_135 : decode cX10_unit 135 = .ok (.invokevirtual 285, 3) := by decide +kernel
theorem dX10_unit_138 : decode cX10_unit 138 = .ok (.ireturn, 1) := by decide +kernel
theorem dX10_unit_139 : decode cX10_unit 139 = .ok (.aload_n 0, 1) := by decide +kernel
theorem dX10_unit_140 : decode cX10_unit 140 = .ok (.iload_n 1, 1) := by decide +kernel
theorem dX10_unit_141 : decode cX10_unit 141 = .ok (.iconst 3, 1) := by decide +kernel
theorem dX10_unit_142 : decode cX10_unit 142 = .ok (.invokevirtual 285, 3) := by decide +kernel
theorem dX10_unit_145 : decode cX10_unit 145 = .ok (.ireturn, 1) := by decide +kernel
theorem dX10_unit_146 : decode cX10_unit 146 = .ok (.iconst (-1), 1) := by decide +kernel
theorem dX10_unit_147 : decode cX10_unit 147 = .ok (.ireturn, 1) := by decide +kernel
theorem dX10_parent_0 : decode cX10_parent 0 = .ok (.aload_n 0, 1) := by decide +kernel
theorem dX10_parent_1 : decode cX10_parent 1 = .ok (.iload_n 1, 1) := by decide +kernel
theorem dX10_parent_2 : decode cX10_parent 2 = .ok (.invokevirtual 258, 3) := by decide +kernel
theorem dX10_parent_5 : decode cX10_parent 5 = .ok (.ifCond .eq 27, 3) := by decide +kernel
theorem dX10_parent_8 : decode cX10_parent 8 = .ok (.iload_n 2, 1) := by decide +kernel
theorem dX10_parent_9 : decode cX10_parent 9 = .ok (.iconst 0, 1) := by decide +kernel
theorem dX10_parent_10 : decode cX10_parent 10 = .ok (.aload_n 0, 1) := by decide +kernel
theorem dX10_parent_11 : decode cX10_parent 11 = .ok (.iload_n 1, 1) := by decide +kernel
theorem dX10_parent_12 : decode cX10_parent 12 = .ok (.invokevirtual 237, 3) := by decide +kernel
theorem dX10_parent_15 : decode cX10_parent 15 = .ok (.iconst 1, 1) := by decide +kernel
theorem dX10_parent_16 : decode cX10_parent 16 = .ok (.isub, 1) := by decide +kernel
theorem dX10_parent_17 : decode cX10_parent 17 = .ok (.invokestatic 88, 3) := by decide +kernel
theorem dX10_parent_20 : decode cX10_parent 20 = .ok (.ifCond .eq 12, 3) := by decide +kernel
theorem dX10_parent_23 : decode cX10_parent 23 = .ok (.aload_n 0, 1) := by decide +kernel
theorem dX10_parent_24 : decode cX10_parent 24 = .ok (.iload_n 1, 1) := by decide +kernel
theorem dX10_parent_25 : decode cX10_parent 25 = .ok (.iload_n 2, 1) := by decide +kernel
theorem dX10_parent_26 : decode cX10_parent 26 = .ok (.invokevirtual 240, 3) := by decide +kernel
theorem dX10_parent_29 : decode cX10_parent 29 = .ok (.goto 4, 3) := by decide +kernel
theorem dX10_parent_32 : decode cX10_parent 32 = .ok (.iconst (-1), 1) := by decide +kernel
theorem dX10_parent_33 : decode cX10_parent 33 = .ok (.ireturn, 1) := by decide +kernel
theorem dX10_used_0 : decode cX10_used 0 = .ok (.aload_n 0, 1) := by decide +kernel
theorem dX10_used_1 : decode cX10_used 1 = .ok (.iload_n 1, 1) := by decide +kernel
theorem dX10_used_2 : decode cX10_used 2 = .ok (.invokevirtual 201, 3) := by decide +kernel
theorem dX10_used_5 : decode cX10_used 5 = .ok (.ifCond .eq 31, 3) := by decide +kernel
theorem dX10_used_8 : decode cX10_used 8 = .ok (.iload_n 2, 1) := by decide +kernel
theorem dX10_used_9 : decode cX10_used 9 = .ok (.iconst 0, 1) := by decide +kernel
theorem dX10_used_10 : decode cX10_used 10 = .ok (.aload_n 0, 1) := by decide +kernel
theorem dX10_used_11 : decode cX10_used 11 = .ok (.iload_n 1, 1) := by decide +kernel
theorem dX10_used_12 : decode cX10_used 12 = .ok (.invokevirtual 210, 3) := by decide +kernel
theorem dX10_used_15 : decode cX10_used 15 = .ok (.iconst 1, 1) := by decide +kernel
theorem dX10_used_16 : decode cX10_used 16 = .ok (.isub, 1) := by decide +kernel
theorem dX10_used_17 : decode cX10_used 17 = .ok (.invokestatic 88, 3) := by decide +kernel
theorem dX10_used_20 : decode cX10_used 20 = .ok (.ifCond .eq 16, 3) := by decide +kernel
theorem dX10_used_23 : decode cX10_used 23 = .ok (.aload_n 0, 1) := by decide +kernel
theorem dX10_used_24 : decode cX10_used 24 = .ok (.getfield 11, 3) := by decide +kernel
theorem dX10_used_27 : decode cX10_used 27 = .ok (.iload_n 1, 1) := by decide +kernel
theorem dX10_used_28 : decode cX10_used 28 = .ok (.iload_n 2, 1) := by decide +kernel
theorem dX10_used_29 : decode cX10_used 29 = .ok (.invokestatic 147, 3) := by decide +kernel
theorem dX10_used_32 : decode cX10_used 32 = .ok (.iaload, 1) := by decide +kernel
theorem dX10_used_33 : decode cX10_used 33 = .ok (.goto 4, 3) := by decide +kernel
theorem dX10_used_36 : decode cX10_used 36 = .ok (.iconst (-1), 1) := by decide +kernel
theorem dX10_used_37 : decode cX10_used 37 = .ok (.ireturn, 1) := by decide +kernel
theorem dX10_becomes_0 : decode cX10_becomes 0 = .ok (.aload_n 0, 1) := by decide +kernel
theorem dX10_becomes_1 : decode cX10_becomes 1 = .ok (.iload_n 1, 1) := by decide +kernel
theorem dX10_becomes_2 : decode cX10_becomes 2 = .ok (.invokevirtual 201, 3) := by decide +kernel
theorem dX10_becomes_5 : decode cX10_becomes 5 = .ok (.ifCond .eq 28, 3) := by decide +kernel
theorem dX10_becomes_8 : decode cX10_becomes 8 = .ok (.iload_n 2, 1) := by decide +kernel
theorem dX10_becomes_9 : decode cX10_becomes 9 = .ok (.iconst 0, 1) := by decide +kernel
theorem dX10_becomes_10 : decode cX10_becomes 10 = .ok (.aload_n 0, 1) := by decide +kernel
theorem dX10_becomes_11 : decode cX10_becomes 11 = .ok (.iload_n 1, 1) := by decide +kernel
theorem dX10_becomes_12 : decode cX10_becomes 12 = .ok (.invokevirtual 210, 3) := by decide +kernel
theorem dX10_becomes_15 : decode cX10_becomes 15 = .ok (.iconst 1, 1) := by decide +kernel
theorem dX10_becomes_16 : decode cX10_becomes 16 = .ok (.isub, 1) := by decide +kernel
theorem dX10_becomes_17 : decode cX10_becomes 17 = .ok (.invokestatic 88, 3) := by decide +kernel
theorem dX10_becomes_20 : decode cX10_becomes 20 = .ok (.ifCond .eq 13, 3) := by decide +kernel
theorem dX10_becomes_23 : decode cX10_becomes 23 = .ok (.iload_n 3, 1) := by decide +kernel
theorem dX10_becomes_24 : decode cX10_becomes 24 = .ok (.iconst 0, 1) := by decide +kernel
theorem dX10_becomes_25 : decode cX10_becomes 25 = .ok (.bipush 25, 2) := by decide +kernel
theorem dX10_becomes_27 : decode cX10_becomes 27 = .ok (.invokestatic 88, 3) := by decide +kernel
theorem dX10_becomes_30 : decode cX10_becomes 30 = .ok (.ifCond .ne 5, 3) := by decide +kernel
theorem dX10_becomes_33 : decode cX10_becomes 33 = .ok (.iconst (-1), 1) := by decide +kernel
theorem dX10_becomes_34 : decode cX10_becomes 34 = .ok (.ireturn, 1) := by decide +kernel
theorem dX10_becomes_35 : decode cX10_becomes 35 = .ok (.aload_n 0, 1) := by decide +kernel
theorem dX10_becomes_36 : decode cX10_becomes 36 = .ok (.iload_n 1, 1) := by decide +kernel
theorem dX10_becomes_37 : decode cX10_becomes 37 = .ok (.iload_n 2, 1) := by decide +kernel
theorem dX10_becomes_38 : decode cX10_becomes 38 = .ok (.iload_n 3, 1) := by decide +kernel
theorem dX10_becomes_39 : decode cX10_becomes 39 = .ok (.invokevirtual 222, 3) := by decide +kernel
theorem dX10_becomes_42 : decode cX10_becomes 42 = .ok (.istore 4, 2) := by decide +kernel
theorem dX10_becomes_44 : decode cX10_becomes 44 = .ok (.iload 4, 2) := by decide +kernel
theorem dX10_becomes_46 : decode cX10_becomes 46 = .ok (.iconst (-1), 1) := by decide +kernel
theorem dX10_becomes_47 : decode cX10_becomes 47 = .ok (.if_icmp .ne 8, 3) := by decide +kernel
theorem dX10_becomes_50 : decode cX10_becomes 50 = .ok (.bipush (-2), 2) := by decide +kernel
theorem dX10_becomes_52 : decode cX10_becomes 52 = .ok (.goto 5, 3) := by decide +kernel
theorem dX10_becomes_55 : decode cX10_becomes 55 = .ok (.iload 4, 2) := by decide +kernel
theorem dX10_becomes_57 : decode cX10_becomes 57 = .ok (.ireturn, 1) := by decide +kernel
theorem dX10_body_0 : decode cX10_body 0 = .ok (.aload_n 0, 1) := by decide +kernel
theorem dX10_body_1 : decode cX10_body 1 = .ok (.iload_n 1, 1) := by decide +kernel
theorem dX10_body_2 : decode cX10_body 2 = .ok (.invokevirtual 201, 3) := by decide +kernel
theorem dX10_body_5 : decode cX10_body 5 = .ok (.ifCond .eq 18, 3) := by decide +kernel
theorem dX10_body_8 : decode cX10_body 8 = .ok (.aload_n 0, 1) := by decide +kernel
theorem dX10_body_9 : decode cX10_body 9 = .ok (.iload_n 1, 1) := by decide +kernel
theorem dX10_body_10 : decode cX10_body 10 = .ok (.iload_n 2, 1) := by decide +kernel
theorem dX10_body_11 : decode cX10_body 11 = .ok (.invokevirtual 267, 3) := by decide +kernel
theorem dX10_body_14 : decode cX10_body 14 = .ok (.iconst (-1), 1) := by decide +kernel
theorem dX10_body_15 : decode cX10_body 15 = .ok (.if_icmp .eq 8, 3) := by decide +kernel
theorem dX10_body_18 : decode cX10_body 18 = .ok (.iload_n 3, 1) := by decide +kernel
theorem dX10_body_19 : decode cX10_body 19 = .ok (.iconst (-1), 1) := by decide +kernel
theorem dX10_body_20 : decode cX10_body 20 = .ok (.if_icmp .ge 5, 3) := by decide +kernel
theorem dX10_body_23 : decode cX10_body 23 = .ok (.iconst (-1), 1) := by decide +kernel
theorem dX10_body_24 : decode cX10_body 24 = .ok (.ireturn, 1) := by decide +kernel
theorem dX10_body_25 : decode cX10_body 25 = .ok (.iload_n 1, 1) := by decide +kernel
theorem dX10_body_26 : decode cX10_body 26 = .ok (.aload_n 0, 1) := by decide +kernel
theorem dX10_body_27 : decode cX10_body 27 = .ok (.iload_n 1, 1) := by decide +kernel
theorem dX10_body_28 : decode cX10_body 28 = .ok (.iload_n 2, 1) := by decide +kernel
theorem dX10_body_29 : decode cX10_body 29 = .ok (.invokevirtual 267, 3) := by decide +kernel
theorem dX10_body_32 : decode cX10_body 32 = .ok (.invokestatic 168, 3) := by decide +kernel
theorem dX10_body_35 : decode cX10_body 35 = .ok (.istore 4, 2) := by decide +kernel
theorem dX10_body_37 : decode cX10_body 37 = .ok (.iload_n 3, 1) := by decide +kernel
theorem dX10_body_38 : decode cX10_body 38 = .ok (.iconst (-1), 1) := by decide +kernel
theorem dX10_body_39 : decode cX10_body 39 = .ok (.if_icmp .ne 13, 3) := by decide +kernel
theorem dX10_body_42 : decode cX10_body 42 = .ok (.aload_n 0, 1) := by decide +kernel
theorem dX10_body_43 : decode cX10_body 43 = .ok (.getfield 11, 3) := by decide +kernel
theorem dX10_body_46 : decode cX10_body 46 = .ok (.iload 4, 2) := by decide +kernel
theorem dX10_body_48 : decode cX10_body 48 = .ok (.iconst 1, 1) := by decide +kernel
theorem dX10_body_49 : decode cX10_body 49 = .ok (.iadd, 1) := by decide +kernel
theorem dX10_body_50 : decode cX10_body 50 = .ok (.iaload, 1) := by decide +kernel
theorem dX10_body_51 : decode cX10_body 51 = .ok (.ireturn, 1) := by decide +kernel
theorem dX10_body_52 : decode cX10_body 52 = .ok (.iload_n 3, 1) := by decide +kernel
theorem dX10_body_53 : decode cX10_body 53 = .ok (.aload_n 0, 1) := by decide +kernel
theorem dX10_body_54 : decode cX10_body 54 = .ok (.getfield 11, 3) := by decide +kernel
theorem dX10_body_57 : decode cX10_body 57 = .ok (.iload 4, 2) := by decide +kernel
theorem dX10_body_59 : decode cX10_body 59 = .ok (.iconst 1, 1) := by decide +kernel
theorem dX10_body_60 : decode cX10_body 60 = .ok (.iadd, 1) := by decide +kernel
theorem dX10_body_61 : decode cX10_body 61 = .ok (.iaload, 1) := by decide +kernel
theorem dX10_body_62 : decode cX10_body 62 = .ok (.if_icmp .ge 17, 3) := by decide +kernel
theorem dX10_body_65 : decode cX10_body 65 = .ok (.aload_n 0, 1) := by decide +kernel
theorem dX10_body_66 : decode cX10_body 66 = .ok (.getfield 11, 3) := by decide +kernel
theorem dX10_body_69 : decode cX10_body 69 = .ok (.iload 4, 2) := by decide +kernel
theorem dX10_body_71 : decode cX10_body 71 = .ok (.iconst 2, 1) := by decide +kernel
theorem dX10_body_72 : decode cX10_body 72 = .ok (.iadd, 1) := by decide +kernel
theorem dX10_body_73 : decode cX10_body 73 = .ok (.iload_n 3, 1) := by decide +kernel
theorem dX10_body_74 : decode cX10_body 74 = .ok (.iadd, 1) := by decide +kernel
theorem dX10_body_75 : decode cX10_body 75 = .ok (.iaload, 1) := by decide +kernel
theorem dX10_body_76 : decode cX10_body 76 = .ok (.goto 5, 3) := by decide +kernel
theorem dX10_body_79 : decode cX10_body 79 = .ok (.bipush (-2), 2) := by decide +kernel
theorem dX10_body_81 : decode cX10_body 81 = .ok (.ireturn, 1) := by decide +kernel
theorem dX10_flat_0 : decode cX10_flat 0 = .ok (.aload_n 0, 1) := by decide +kernel
theorem dX10_flat_1 : decode cX10_flat 1 = .ok (.iload_n 1, 1) := by decide +kernel
theorem dX10_flat_2 : decode cX10_flat 2 = .ok (.invokevirtual 201, 3) := by decide +kernel
theorem dX10_flat_5 : decode cX10_flat 5 = .ok (.ifCond .eq 22, 3) := by decide +kernel
theorem dX10_flat_8 : decode cX10_flat 8 = .ok (.iload_n 2, 1) := by decide +kernel
theorem dX10_flat_9 : decode cX10_flat 9 = .ok (.iconst 0, 1) := by decide +kernel
theorem dX10_flat_10 : decode cX10_flat 10 = .ok (.bipush 25, 2) := by decide +kernel
theorem dX10_flat_12 : decode cX10_flat 12 = .ok (.invokestatic 88, 3) := by decide +kernel
theorem dX10_flat_15 : decode cX10_flat 15 = .ok (.ifCond .eq 12, 3) := by decide +kernel
theorem dX10_flat_18 : decode cX10_flat 18 = .ok (.iload_n 3, 1) := by decide +kernel
theorem dX10_flat_19 : decode cX10_flat 19 = .ok (.iconst 0, 1) := by decide +kernel
theorem dX10_flat_20 : decode cX10_flat 20 = .ok (.iconst 4, 1) := by decide +kernel
theorem dX10_flat_21 : decode cX10_flat 21 = .ok (.invokestatic 88, 3) := by decide +kernel
theorem dX10_flat_24 : decode cX10_flat 24 = .ok (.ifCond .ne 5, 3) := by decide +kernel
theorem dX10_flat_27 : decode cX10_flat 27 = .ok (.iconst (-1), 1) := by decide +kernel
theorem dX10_flat_28 : decode cX10_flat 28 = .ok (.ireturn, 1) := by decide +kernel
theorem dX10_flat_29 : decode cX10_flat 29 = .ok (.aload_n 0, 1) := by decide +kernel
theorem dX10_flat_30 : decode cX10_flat 30 = .ok (.invokevirtual 279, 3) := by decide +kernel
theorem dX10_flat_33 : decode cX10_flat 33 = .ok (.aload_n 0, 1) := by decide +kernel
theorem dX10_flat_34 : decode cX10_flat 34 = .ok (.iload_n 1, 1) := by decide +kernel
theorem dX10_flat_35 : decode cX10_flat 35 = .ok (.iload_n 2, 1) := by decide +kernel
theorem dX10_flat_36 : decode cX10_flat 36 = .ok (.invokevirtual 276, 3) := by decide +kernel
theorem dX10_flat_39 : decode cX10_flat 39 = .ok (.istore 4, 2) := by decide +kernel
theorem dX10_flat_41 : decode cX10_flat 41 = .ok (.iload 4, 2) := by decide +kernel
theorem dX10_flat_43 : decode cX10_flat 43 = .ok (.ifCond .ne 5, 3) := by decide +kernel
theorem dX10_flat_46 : decode cX10_flat 46 = .ok (.iconst (-1), 1) := by decide +kernel
theorem dX10_flat_47 : decode cX10_flat 47 = .ok (.ireturn, 1) := by decide +kernel
theorem dX10_flat_48 : decode cX10_flat 48 = .ok (.iload_n 3, 1) := by decide +kernel
theorem dX10_flat_49 : decode cX10_flat 49 = .ok (.ifCond .eq 20, 3) := by decide +kernel
theorem dX10_flat_52 : decode cX10_flat 52 = .ok (.iload 4, 2) := by decide +kernel
theorem dX10_flat_54 : decode cX10_flat 54 = .ok (.iconst 3, 1) := by decide +kernel
theorem dX10_flat_55 : decode cX10_flat 55 = .ok (.if_icmp .eq 14, 3) := by decide +kernel
theorem dX10_flat_58 : decode cX10_flat 58 = .ok (.iload 4, 2) := by decide +kernel
theorem dX10_flat_60 : decode cX10_flat 60 = .ok (.iconst 1, 1) := by decide +kernel
theorem dX10_flat_61 : decode cX10_flat 61 = .ok (.if_icmp .ne 12, 3) := by decide +kernel
theorem dX10_flat_64 : decode cX10_flat 64 = .ok (.iload_n 3, 1) := by decide +kernel
theorem dX10_flat_65 : decode cX10_flat 65 = .ok (.iconst 3, 1) := by decide +kernel
theorem dX10_flat_66 : decode cX10_flat 66 = .ok (.if_icmp .ge 7, 3) := by decide +kernel
theorem dX10_flat_69 : decode cX10_flat 69 = .ok (.iconst 1, 1) := by decide +kernel
theorem dX10_flat_70 : decode cX10_flat 70 = .ok (.goto 4, 3) := by decide +kernel
theorem dX10_flat_73 : decode cX10_flat 73 = .ok (.iconst 0, 1) := by decide +kernel
theorem dX10_flat_74 : decode cX10_flat 74 = .ok (.istore 5, 2) := by decide +kernel
theorem dX10_flat_76 : decode cX10_flat 76 = .ok (.iload 5, 2) := by decide +kernel
theorem dX10_flat_78 : decode cX10_flat 78 = .ok (.ifCond .eq 18, 3) := by decide +kernel
theorem dX10_flat_81 : decode cX10_flat 81 = .ok (.aload_n 0, 1) := by decide +kernel
theorem dX10_flat_82 : decode cX10_flat 82 = .ok (.getfield 32, 3) := by decide +kernel
theorem dX10_flat_85 : decode cX10_flat 85 = .ok (.iload_n 1, 1) := by decide +kernel
theorem dX10_flat_86 : decode cX10_flat 86 = .ok (.iload_n 2, 1) := by decide +kernel
theorem dX10_flat_87 : decode cX10_flat 87 = .ok (.invokestatic 216, 3) := by decide +kernel
theorem dX10_flat_90 : decode cX10_flat 90 = .ok (.iload_n 3, 1) := by decide +kernel
theorem dX10_flat_91 : decode cX10_flat 91 = .ok (.iadd, 1) := by decide +kernel
theorem dX10_flat_92 : decode cX10_flat 92 = .ok (.iaload, 1) := by decide +kernel
theorem dX10_flat_93 : decode cX10_flat 93 = .ok (.goto 5, 3) := by decide +kernel
theorem dX10_flat_96 : decode cX10_flat 96 = .ok (.bipush (-2), 2) := by decide +kernel
theorem dX10_flat_98 : decode cX10_flat 98 = .ok (.ireturn, 1) := by decide +kernel
theorem dX10_line_0 : decode cX10_line 0 = .ok (.aload_n 0, 1) := by decide +kernel
theorem dX10_line_1 : decode cX10_line 1 = .ok (.iload_n 1, 1) := by decide +kernel
theorem dX10_line_2 : decode cX10_line 2 = .ok (.invokevirtual 258, 3) := by decide +kernel
theorem dX10_line_5 : decode cX10_line 5 = .ok (.ifCond .eq 8, 3) := by decide +kernel
theorem dX10_line_8 : decode cX10_line 8 = .ok (.iload_n 2, 1) := by decide +kernel
theorem dX10_line_9 : decode cX10_line 9 = .ok (.iconst (-1), 1) := by decide +kernel
theorem dX10_line_10 : decode cX10_line 10 = .ok (.if_icmp .ge 5, 3) := by decide +kernel
theorem dX10_line_13 : decode cX10_line 13 = .ok (.iconst (-1), 1) := by decide +kernel
theorem dX10_line_14 : decode cX10_line 14 = .ok (.ireturn, 1) := by decide +kernel
theorem dX10_line_15 : decode cX10_line 15 = .ok (.aload_n 0, 1) := by decide +kernel
theorem dX10_line_16 : decode cX10_line 16 = .ok (.invokevirtual 279, 3) := by decide +kernel
theorem dX10_line_19 : decode cX10_line 19 = .ok (.iload_n 2, 1) := by decide +kernel
theorem dX10_line_20 : decode cX10_line 20 = .ok (.iconst (-1), 1) := by decide +kernel
theorem dX10_line_21 : decode cX10_line 21 = .ok (.if_icmp .ne 10, 3) := by decide +kernel
theorem dX10_line_24 : decode cX10_line 24 = .ok (.aload_n 0, 1) := by decide +kernel
theorem dX10_line_25 : decode cX10_line 25 = .ok (.getfield 38, 3) := by decide +kernel
theorem dX10_line_28 : decode cX10_line 28 = .ok (.iload_n 1, 1) := by decide +kernel
theorem dX10_line_29 : decode cX10_line 29 = .ok (.iaload, 1) := by decide +kernel
theorem dX10_line_30 : decode cX10_line 30 = .ok (.ireturn, 1) := by decide +kernel
theorem dX10_line_31 : decode cX10_line 31 = .ok (.iload_n 2, 1) := by decide +kernel
theorem dX10_line_32 : decode cX10_line 32 = .ok (.aload_n 0, 1) := by decide +kernel
theorem dX10_line_33 : decode cX10_line 33 = .ok (.getfield 38, 3) := by decide +kernel
theorem dX10_line_36 : decode cX10_line 36 = .ok (.iload_n 1, 1) := by decide +kernel
theorem dX10_line_37 : decode cX10_line 37 = .ok (.iaload, 1) := by decide +kernel
theorem dX10_line_38 : decode cX10_line 38 = .ok (.if_icmp .ge 17, 3) := by decide +kernel
theorem dX10_line_41 : decode cX10_line 41 = .ok (.aload_n 0, 1) := by decide +kernel
theorem dX10_line_42 : decode cX10_line 42 = .ok (.getfield 35, 3) := by decide +kernel
theorem dX10_line_45 : decode cX10_line 45 = .ok (.bipush 12, 2) := by decide +kernel
theorem dX10_line_47 : decode cX10_line 47 = .ok (.iload_n 1, 1) := by decide +kernel
theorem dX10_line_48 : decode cX10_line 48 = .ok (.imul, 1) := by decide +kernel
theorem dX10_line_49 : decode cX10_line 49 = .ok (.iload_n 2, 1) := by decide +kernel
theorem dX10_line_50 : decode cX10_line 50 = .ok (.iadd, 1) := by decide +kernel
theorem dX10_line_51 : decode cX10_line 51 = .ok (.iaload, 1) := by decide +kernel
theorem dX10_line_52 : decode cX10_line 52 = .ok (.goto 5, 3) := by decide +kernel
theorem dX10_line_55 : decode cX10_line 55 = .ok (.bipush (-2), 2) := by decide +kernel
theorem dX10_line_57 : decode cX10_line 57 = .ok (.ireturn, 1) := by decide +kernel
theorem dX10_ring_0 : decode cX10_ring 0 = .ok (.aload_n 0, 1) := by decide +kernel
theorem dX10_ring_1 : decode cX10_ring 1 = .ok (.iload_n 1, 1) := by decide +kernel
theorem dX10_ring_2 : decode cX10_ring 2 = .ok (.invokevirtual 258, 3) := by decide +kernel
theorem dX10_ring_5 : decode cX10_ring 5 = .ok (.ifCond .eq 8, 3) := by decide +kernel
theorem dX10_ring_8 : decode cX10_ring 8 = .ok (.iload_n 2, 1) := by decide +kernel
theorem dX10_ring_9 : decode cX10_ring 9 = .ok (.iconst (-1), 1) := by decide +kernel
theorem dX10_ring_10 : decode cX10_ring 10 = .ok (.if_icmp .ge 5, 3) := by decide +kernel
theorem dX10_ring_13 : decode cX10_ring 13 = .ok (.iconst (-1), 1) := by decide +kernel
theorem dX10_ring_14 : decode cX10_ring 14 = .ok (.ireturn, 1) := by decide +kernel
theorem dX10_ring_15 : decode cX10_ring 15 = .ok (.aload_n 0, 1) := by decide +kernel
theorem dX10_ring_16 : decode cX10_ring 16 = .ok (.invokevirtual 279, 3) := by decide +kernel
theorem dX10_ring_19 : decode cX10_ring 19 = .ok (.iload_n 2, 1) := by decide +kernel
theorem dX10_ring_20 : decode cX10_ring 20 = .ok (.iconst (-1), 1) := by decide +kernel
theorem dX10_ring_21 : decode cX10_ring 21 = .ok (.if_icmp .ne 10, 3) := by decide +kernel
theorem dX10_ring_24 : decode cX10_ring 24 = .ok (.aload_n 0, 1) := by decide +kernel
theorem dX10_ring_25 : decode cX10_ring 25 = .ok (.getfield 44, 3) := by decide +kernel
theorem dX10_ring_28 : decode cX10_ring 28 = .ok (.iload_n 1, 1) := by decide +kernel
theorem dX10_ring_29 : decode cX10_ring 29 = .ok (.iaload, 1) := by decide +kernel
theorem dX10_ring_30 : decode cX10_ring 30 = .ok (.ireturn, 1) := by decide +kernel
theorem dX10_ring_31 : decode cX10_ring 31 = .ok (.iload_n 2, 1) := by decide +kernel
theorem dX10_ring_32 : decode cX10_ring 32 = .ok (.aload_n 0, 1) := by decide +kernel
theorem dX10_ring_33 : decode cX10_ring 33 = .ok (.getfield 44, 3) := by decide +kernel
theorem dX10_ring_36 : decode cX10_ring 36 = .ok (.iload_n 1, 1) := by decide +kernel
theorem dX10_ring_37 : decode cX10_ring 37 = .ok (.iaload, 1) := by decide +kernel
theorem dX10_ring_38 : decode cX10_ring 38 = .ok (.if_icmp .ge 17, 3) := by decide +kernel
theorem dX10_ring_41 : decode cX10_ring 41 = .ok (.aload_n 0, 1) := by decide +kernel
theorem dX10_ring_42 : decode cX10_ring 42 = .ok (.getfield 41, 3) := by decide +kernel
theorem dX10_ring_45 : decode cX10_ring 45 = .ok (.bipush 12, 2) := by decide +kernel
theorem dX10_ring_47 : decode cX10_ring 47 = .ok (.iload_n 1, 1) := by decide +kernel
theorem dX10_ring_48 : decode cX10_ring 48 = .ok (.imul, 1) := by decide +kernel
theorem dX10_ring_49 : decode cX10_ring 49 = .ok (.iload_n 2, 1) := by decide +kernel
theorem dX10_ring_50 : decode cX10_ring 50 = .ok (.iadd, 1) := by decide +kernel
theorem dX10_ring_51 : decode cX10_ring 51 = .ok (.iaload, 1) := by decide +kernel
theorem dX10_ring_52 : decode cX10_ring 52 = .ok (.goto 5, 3) := by decide +kernel
theorem dX10_ring_55 : decode cX10_ring 55 = .ok (.bipush (-2), 2) := by decide +kernel
theorem dX10_ring_57 : decode cX10_ring 57 = .ok (.ireturn, 1) := by decide +kernel
theorem dX10_overSet_0 : decode cX10_overSet 0 = .ok (.iconst 1, 1) := by decide +kernel
theorem dX10_overSet_1 : decode cX10_overSet 1 = .ok (.iload_n 1, 1) := by decide +kernel
theorem dX10_overSet_2 : decode cX10_overSet 2 = .ok (.ishl, 1) := by decide +kernel
theorem dX10_overSet_3 : decode cX10_overSet 3 = .ok (.istore_n 2, 1) := by decide +kernel
theorem dX10_overSet_4 : decode cX10_overSet 4 = .ok (.iload_n 1, 1) := by decide +kernel
theorem dX10_overSet_5 : decode cX10_overSet 5 = .ok (.istore_n 3, 1) := by decide +kernel
theorem dX10_overSet_6 : decode cX10_overSet 6 = .ok (.iload_n 3, 1) := by decide +kernel
theorem dX10_overSet_7 : decode cX10_overSet 7 = .ok (.ifCond .lt 48, 3) := by decide +kernel
theorem dX10_overSet_10 : decode cX10_overSet 10 = .ok (.iconst 0, 1) := by decide +kernel
theorem dX10_overSet_11 : decode cX10_overSet 11 = .ok (.istore 4, 2) := by decide +kernel
theorem dX10_overSet_13 : decode cX10_overSet 13 = .ok (.iload 4, 2) := by decide +kernel
theorem dX10_overSet_15 : decode cX10_overSet 15 = .ok (.aload_n 0, 1) := by decide +kernel
theorem dX10_overSet_16 : decode cX10_overSet 16 = .ok (.iload_n 3, 1) := by decide +kernel
theorem dX10_overSet_17 : decode cX10_overSet 17 = .ok (.invokevirtual 237, 3) := by decide +kernel
theorem dX10_overSet_20 : decode cX10_overSet 20 = .ok (.if_icmp .ge 29, 3) := by decide +kernel
theorem dX10_overSet_23 : decode cX10_overSet 23 = .ok (.iload_n 2, 1) := by decide +kernel
theorem dX10_overSet_24 : decode cX10_overSet 24 = .ok (.iload_n 3, 1) := by decide +kernel
theorem dX10_overSet_25 : decode cX10_overSet 25 = .ok (.invokestatic 133, 3) := by decide +kernel
theorem dX10_overSet_28 : decode cX10_overSet 28 = .ok (.ifCond .eq 21, 3) := by decide +kernel
theorem dX10_overSet_31 : decode cX10_overSet 31 = .ok (.iload_n 2, 1) := by decide +kernel
theorem dX10_overSet_32 : decode cX10_overSet 32 = .ok (.iconst 1, 1) := by decide +kernel
theorem dX10_overSet_33 : decode cX10_overSet 33 = .ok (.aload_n 0, 1) := by decide +kernel
theorem dX10_overSet_34 : decode cX10_overSet 34 = .ok (.iload_n 3, 1) := by decide +kernel
theorem dX10_overSet_35 : decode cX10_overSet 35 = .ok (.iload 4, 2) := by decide +kernel
theorem dX10_overSet_37 : decode cX10_overSet 37 = .ok (.invokevirtual 240, 3) := by decide +kernel
theorem dX10_overSet_40 : decode cX10_overSet 40 = .ok (.ishl, 1) := by decide +kernel
theorem dX10_overSet_41 : decode cX10_overSet 41 = .ok (.ior, 1) := by decide +kernel
theorem dX10_overSet_42 : decode cX10_overSet 42 = .ok (.istore_n 2, 1) := by decide +kernel
theorem dX10_overSet_43 : decode cX10_overSet 43 = .ok (.iinc 4 1, 3) := by decide +kernel
theorem dX10_overSet_46 : decode cX10_overSet 46 = .ok (.goto (-33), 3) := by decide +kernel
theorem dX10_overSet_49 : decode cX10_overSet 49 = .ok (.iinc 3 (-1), 3) := by decide +kernel
theorem dX10_overSet_52 : decode cX10_overSet 52 = .ok (.goto (-46), 3) := by decide +kernel
theorem dX10_overSet_55 : decode cX10_overSet 55 = .ok (.iload_n 2, 1) := by decide +kernel
theorem dX10_overSet_56 : decode cX10_overSet 56 = .ok (.ireturn, 1) := by decide +kernel
theorem dX10_over_0 : decode cX10_over 0 = .ok (.aload_n 0, 1) := by decide +kernel
theorem dX10_over_1 : decode cX10_over 1 = .ok (.iload_n 1, 1) := by decide +kernel
theorem dX10_over_2 : decode cX10_over 2 = .ok (.invokevirtual 258, 3) := by decide +kernel
theorem dX10_over_5 : decode cX10_over 5 = .ok (.ifCond .eq 11, 3) := by decide +kernel
theorem dX10_over_8 : decode cX10_over 8 = .ok (.aload_n 0, 1) := by decide +kernel
theorem dX10_over_9 : decode cX10_over 9 = .ok (.iload_n 1, 1) := by decide +kernel
theorem dX10_over_10 : decode cX10_over 10 = .ok (.invokevirtual 288, 3) := by decide +kernel
theorem dX10_over_13 : decode cX10_over 13 = .ok (.goto 4, 3) := by decide +kernel
theorem dX10_over_16 : decode cX10_over 16 = .ok (.iconst (-1), 1) := by decide +kernel
theorem dX10_over_17 : decode cX10_over 17 = .ok (.ireturn, 1) := by decide +kernel
theorem dX10_laysAhead_0 : decode cX10_laysAhead 0 = .ok (.iconst 0, 1) := by decide +kernel
theorem dX10_laysAhead_1 : decode cX10_laysAhead 1 = .ok (.istore_n 2, 1) := by decide +kernel
theorem dX10_laysAhead_2 : decode cX10_laysAhead 2 = .ok (.iload_n 2, 1) := by decide +kernel
theorem dX10_laysAhead_3 : decode cX10_laysAhead 3 = .ok (.bipush 12, 2) := by decide +kernel
theorem dX10_laysAhead_5 : decode cX10_laysAhead 5 = .ok (.if_icmp .ge 16, 3) := by decide +kernel
theorem dX10_laysAhead_8 : decode cX10_laysAhead 8 = .ok (.aload_n 0, 1) := by decide +kernel
theorem dX10_laysAhead_9 : decode cX10_laysAhead 9 = .ok (.getfield 56, 3) := by decide +kernel
theorem dX10_laysAhead_12 : decode cX10_laysAhead 12 = .ok (.iload_n 2, 1) := by decide +kernel
theorem dX10_laysAhead_13 : decode cX10_laysAhead 13 = .ok (.iconst 0, 1) := by decide +kernel
theorem dX10_laysAhead_14 : decode cX10_laysAhead 14 = .ok (.iastore, 1) := by decide +kernel
theorem dX10_laysAhead_15 : decode cX10_laysAhead 15 = .ok (.iinc 2 1, 3) := by decide +kernel
theorem dX10_laysAhead_18 : decode cX10_laysAhead 18 = .ok (.goto (-16), 3) := by decide +kernel
theorem dX10_laysAhead_21 : decode cX10_laysAhead 21 = .ok (.iconst 0, 1) := by decide +kernel
theorem dX10_laysAhead_22 : decode cX10_laysAhead 22 = .ok (.istore_n 2, 1) := by decide +kernel
theorem dX10_laysAhead_23 : decode cX10_laysAhead 23 = .ok (.iload_n 2, 1) := by decide +kernel
theorem dX10_laysAhead_24 : decode cX10_laysAhead 24 = .ok (.aload_n 0, 1) := by decide +kernel
theorem dX10_laysAhead_25 : decode cX10_laysAhead 25 = .ok (.getfield 11, 3) := by decide +kernel
theorem dX10_laysAhead_28 : decode cX10_laysAhead 28 = .ok (.sipush 1356, 3) := by decide +kernel
theorem dX10_laysAhead_31 : decode cX10_laysAhead 31 = .ok (.iaload, 1) := by decide +kernel
theorem dX10_laysAhead_32 : decode cX10_laysAhead 32 = .ok (.if_icmp .ge 83, 3) := by decide +kernel
theorem dX10_laysAhead_35 : decode cX10_laysAhead 35 = .ok (.iconst 0, 1) := by decide +kernel
theorem dX10_laysAhead_36 : decode cX10_laysAhead 36 = .ok (.istore_n 3, 1) := by decide +kernel
theorem dX10_laysAhead_37 : decode cX10_laysAhead 37 = .ok (.iload_n 3, 1) := by decide +kernel
theorem dX10_laysAhead_38 : decode cX10_laysAhead 38 = .ok (.aload_n 0, 1) := by decide +kernel
theorem dX10_laysAhead_39 : decode cX10_laysAhead 39 = .ok (.iload_n 2, 1) := by decide +kernel
theorem dX10_laysAhead_40 : decode cX10_laysAhead 40 = .ok (.invokevirtual 237, 3) := by decide +kernel
theorem dX10_laysAhead_43 : decode cX10_laysAhead 43 = .ok (.if_icmp .ge 66, 3) := by decide +kernel
theorem dX10_laysAhead_46 : decode cX10_laysAhead 46 = .ok (.iload_n 1, 1) := by decide +kernel
theorem dX10_laysAhead_47 : decode cX10_laysAhead 47 = .ok (.iload_n 2, 1) := by decide +kernel
theorem dX10_laysAhead_48 : decode cX10_laysAhead 48 = .ok (.invokestatic 133, 3) := by decide +kernel
theorem dX10_laysAhead_51 : decode cX10_laysAhead 51 = .ok (.ifCond .eq 58, 3) := by decide +kernel
theorem dX10_laysAhead_54 : decode cX10_laysAhead 54 = .ok (.aload_n 0, 1) := by decide +kernel
theorem dX10_laysAhead_55 : decode cX10_laysAhead 55 = .ok (.getfield 56, 3) := by decide +kernel
theorem dX10_laysAhead_58 : decode cX10_laysAhead 58 = .ok (.aload_n 0, 1) := by decide +kernel
theorem dX10_laysAhead_59 : decode cX10_laysAhead 59 = .ok (.iload_n 2, 1) := by decide +kernel
theorem dX10_laysAhead_60 : decode cX10_laysAhead 60 = .ok (.iload_n 3, 1) := by decide +kernel
theorem dX10_laysAhead_61 : decode cX10_laysAhead 61 = .ok (.invokevirtual 240, 3) := by decide +kernel
theorem dX10_laysAhead_64 : decode cX10_laysAhead 64 = .ok (.dup2, 1) := by decide +kernel
theorem dX10_laysAhead_65 : decode cX10_laysAhead 65 = .ok (.iaload, 1) := by decide +kernel
theorem dX10_laysAhead_66 : decode cX10_laysAhead 66 = .ok (.iconst 1, 1) := by decide +kernel
theorem dX10_laysAhead_67 : decode cX10_laysAhead 67 = .ok (.iload_n 2, 1) := by decide +kernel
theorem dX10_laysAhead_68 : decode cX10_laysAhead 68 = .ok (.ishl, 1) := by decide +kernel
theorem dX10_laysAhead_69 : decode cX10_laysAhead 69 = .ok (.ior, 1) := by decide +kernel
theorem dX10_laysAhead_70 : decode cX10_laysAhead 70 = .ok (.iastore, 1) := by decide +kernel
theorem dX10_laysAhead_71 : decode cX10_laysAhead 71 = .ok (.aload_n 0, 1) := by decide +kernel
theorem dX10_laysAhead_72 : decode cX10_laysAhead 72 = .ok (.getfield 56, 3) := by decide +kernel
theorem dX10_laysAhead_75 : decode cX10_laysAhead 75 = .ok (.aload_n 0, 1) := by decide +kernel
theorem dX10_laysAhead_76 : decode cX10_laysAhead 76 = .ok (.iload_n 2, 1) := by decide +kernel
theorem dX10_laysAhead_77 : decode cX10_laysAhead 77 = .ok (.iload_n 3, 1) := by decide +kernel
theorem dX10_laysAhead_78 : decode cX10_laysAhead 78 = .ok (.invokevirtual 240, 3) := by decide +kernel
theorem dX10_laysAhead_81 : decode cX10_laysAhead 81 = .ok (.dup2, 1) := by decide +kernel
theorem dX10_laysAhead_82 : decode cX10_laysAhead 82 = .ok (.iaload, 1) := by decide +kernel
theorem dX10_laysAhead_83 : decode cX10_laysAhead 83 = .ok (.iload_n 3, 1) := by decide +kernel
theorem dX10_laysAhead_84 : decode cX10_laysAhead 84 = .ok (.ifCond .le 16, 3) := by decide +kernel
theorem dX10_laysAhead_87 : decode cX10_laysAhead 87 = .ok (.iconst 1, 1) := by decide +kernel
theorem dX10_laysAhead_88 : decode cX10_laysAhead 88 = .ok (.aload_n 0, 1) := by decide +kernel
theorem dX10_laysAhead_89 : decode cX10_laysAhead 89 = .ok (.iload_n 2, 1) := by decide +kernel
theorem dX10_laysAhead_90 : decode cX10_laysAhead 90 = .ok (.iload_n 3, 1) := by decide +kernel
theorem dX10_laysAhead_91 : decode cX10_laysAhead 91 = .ok (.iconst 1, 1) := by decide +kernel
theorem dX10_laysAhead_92 : decode cX10_laysAhead 92 = .ok (.isub, 1) := by decide +kernel
theorem dX10_laysAhead_93 : decode cX10_laysAhead 93 = .ok (.invokevirtual 240, 3) := by decide +kernel
theorem dX10_laysAhead_96 : decode cX10_laysAhead 96 = .ok (.ishl, 1) := by decide +kernel
theorem dX10_laysAhead_97 : decode cX10_laysAhead 97 = .ok (.goto 4, 3) := by decide +kernel
theorem dX10_laysAhead_100 : decode cX10_laysAhead 100 = .ok (.iconst 0, 1) := by decide +kernel
theorem dX10_laysAhead_101 : decode cX10_laysAhead 101 = .ok (.ior, 1) := by decide +kernel
theorem dX10_laysAhead_102 : decode cX10_laysAhead 102 = .ok (.iastore, 1) := by decide +kernel
theorem dX10_laysAhead_103 : decode cX10_laysAhead 103 = .ok (.iinc 3 1, 3) := by decide +kernel
theorem dX10_laysAhead_106 : decode cX10_laysAhead 106 = .ok (.goto (-69), 3) := by decide +kernel
theorem dX10_laysAhead_109 : decode cX10_laysAhead 109 = .ok (.iinc 2 1, 3) := by decide +kernel
theorem dX10_laysAhead_112 : decode cX10_laysAhead 112 = .ok (.goto (-89), 3) := by decide +kernel
theorem dX10_laysAhead_115 : decode cX10_laysAhead 115 = .ok (.return_, 1) := by decide +kernel
theorem dX10_countsWays_0 : decode cX10_countsWays 0 = .ok (.aload_n 0, 1) := by decide +kernel
theorem dX10_countsWays_1 : decode cX10_countsWays 1 = .ok (.iload_n 1, 1) := by decide +kernel
theorem dX10_countsWays_2 : decode cX10_countsWays 2 = .ok (.invokevirtual 291, 3) := by decide +kernel
theorem dX10_countsWays_5 : decode cX10_countsWays 5 = .ok (.aload_n 0, 1) := by decide +kernel
theorem dX10_countsWays_6 : decode cX10_countsWays 6 = .ok (.getfield 59, 3) := by decide +kernel
theorem dX10_countsWays_9 : decode cX10_countsWays 9 = .ok (.iconst 0, 1) := by decide +kernel
theorem dX10_countsWays_10 : decode cX10_countsWays 10 = .ok (.lconst 1, 1) := by decide +kernel
theorem dX10_countsWays_11 : decode cX10_countsWays 11 = .ok (.lastore, 1) := by decide +kernel
theorem dX10_countsWays_12 : decode cX10_countsWays 12 = .ok (.iconst 1, 1) := by decide +kernel
theorem dX10_countsWays_13 : decode cX10_countsWays 13 = .ok (.istore_n 2, 1) := by decide +kernel
theorem dX10_countsWays_14 : decode cX10_countsWays 14 = .ok (.iload_n 2, 1) := by decide +kernel
theorem dX10_countsWays_15 : decode cX10_countsWays 15 = .ok (.iload_n 1, 1) := by decide +kernel
theorem dX10_countsWays_16 : decode cX10_countsWays 16 = .ok (.if_icmp .gt 86, 3) := by decide +kernel
theorem dX10_countsWays_19 : decode cX10_countsWays 19 = .ok (.aload_n 0, 1) := by decide +kernel
theorem dX10_countsWays_20 : decode cX10_countsWays 20 = .ok (.getfield 59, 3) := by decide +kernel
theorem dX10_countsWays_23 : decode cX10_countsWays 23 = .ok (.iload_n 2, 1) := by decide +kernel
theorem dX10_countsWays_24 : decode cX10_countsWays 24 = .ok (.lconst 0, 1) := by decide +kernel
theorem dX10_countsWays_25 : decode cX10_countsWays 25 = .ok (.lastore, 1) := by decide +kernel
theorem dX10_countsWays_26 : decode cX10_countsWays 26 = .ok (.iconst 0, 1) := by decide +kernel
theorem dX10_countsWays_27 : decode cX10_countsWays 27 = .ok (.istore_n 3, 1) := by decide +kernel
theorem dX10_countsWays_28 : decode cX10_countsWays 28 = .ok (.iload_n 3, 1) := by decide +kernel
theorem dX10_countsWays_29 : decode cX10_countsWays 29 = .ok (.bipush 12, 2) := by decide +kernel
theorem dX10_countsWays_31 : decode cX10_countsWays 31 = .ok (.if_icmp .ge 65, 3) := by decide +kernel
theorem dX10_countsWays_34 : decode cX10_countsWays 34 = .ok (.iload_n 2, 1) := by decide +kernel
theorem dX10_countsWays_35 : decode cX10_countsWays 35 = .ok (.iload_n 1, 1) := by decide +kernel
theorem dX10_countsWays_36 : decode cX10_countsWays 36 = .ok (.iconst (-1), 1) := by decide +kernel
theorem dX10_countsWays_37 : decode cX10_countsWays 37 = .ok (.ixor, 1) := by decide +kernel
theorem dX10_countsWays_38 : decode cX10_countsWays 38 = .ok (.iand, 1) := by decide +kernel
theorem dX10_countsWays_39 : decode cX10_countsWays 39 = .ok (.ifCond .ne 57, 3) := by decide +kernel
theorem dX10_countsWays_42 : decode cX10_countsWays 42 = .ok (.iload_n 2, 1) := by decide +kernel
theorem dX10_countsWays_43 : decode cX10_countsWays 43 = .ok (.iload_n 3, 1) := by decide +kernel
theorem dX10_countsWays_44 : decode cX10_countsWays 44 = .ok (.invokestatic 133, 3) := by decide +kernel
theorem dX10_countsWays_47 : decode cX10_countsWays 47 = .ok (.ifCond .eq 43, 3) := by decide +kernel
theorem dX10_countsWays_50 : decode cX10_countsWays 50 = .ok (.aload_n 0, 1) := by decide +kernel
theorem dX10_countsWays_51 : decode cX10_countsWays 51 = .ok (.getfield 56, 3) := by decide +kernel
theorem dX10_countsWays_54 : decode cX10_countsWays 54 = .ok (.iload_n 3, 1) := by decide +kernel
theorem dX10_countsWays_55 : decode cX10_countsWays 55 = .ok (.iaload, 1) := by decide +kernel
theorem dX10_countsWays_56 : decode cX10_countsWays 56 = .ok (.iload_n 2, 1) := by decide +kernel
theorem dX10_countsWays_57 : decode cX10_countsWays 57 = .ok (.iconst 1, 1) := by decide +kernel
theorem dX10_countsWays_58 : decode cX10_countsWays 58 = .ok (.iload_n 3, 1) := by decide +kernel
theorem dX10_countsWays_59 : decode cX10_countsWays 59 = .ok (.ishl, 1) := by decide +kernel
theorem dX10_countsWays_60 : decode cX10_countsWays 60 = .ok (.iconst (-1), 1) := by decide +kernel
theorem dX10_countsWays_61 : decode cX10_countsWays 61 = .ok (.ixor, 1) := by decide +kernel
theorem dX10_countsWays_62 : decode cX10_countsWays 62 = .ok (.iand, 1) := by decide +kernel
theorem dX10_countsWays_63 : decode cX10_countsWays 63 = .ok (.iconst (-1), 1) := by decide +kernel
theorem dX10_countsWays_64 : decode cX10_countsWays 64 = .ok (.ixor, 1) := by decide +kernel
theorem dX10_countsWays_65 : decode cX10_countsWays 65 = .ok (.iand, 1) := by decide +kernel
theorem dX10_countsWays_66 : decode cX10_countsWays 66 = .ok (.ifCond .ne 24, 3) := by decide +kernel
theorem dX10_countsWays_69 : decode cX10_countsWays 69 = .ok (.aload_n 0, 1) := by decide +kernel
theorem dX10_countsWays_70 : decode cX10_countsWays 70 = .ok (.getfield 59, 3) := by decide +kernel
theorem dX10_countsWays_73 : decode cX10_countsWays 73 = .ok (.iload_n 2, 1) := by decide +kernel
theorem dX10_countsWays_74 : decode cX10_countsWays 74 = .ok (.dup2, 1) := by decide +kernel
theorem dX10_countsWays_75 : decode cX10_countsWays 75 = .ok (.laload, 1) := by decide +kernel
theorem dX10_countsWays_76 : decode cX10_countsWays 76 = .ok (.aload_n 0, 1) := by decide +kernel
theorem dX10_countsWays_77 : decode cX10_countsWays 77 = .ok (.getfield 59, 3) := by decide +kernel
theorem dX10_countsWays_80 : decode cX10_countsWays 80 = .ok (.iload_n 2, 1) := by decide +kernel
theorem dX10_countsWays_81 : decode cX10_countsWays 81 = .ok (.iconst 1, 1) := by decide +kernel
theorem dX10_countsWays_82 : decode cX10_countsWays 82 = .ok (.iload_n 3, 1) := by decide +kernel
theorem dX10_countsWays_83 : decode cX10_countsWays 83 = .ok (.ishl, 1) := by decide +kernel
theorem dX10_countsWays_84 : decode cX10_countsWays 84 = .ok (.iconst (-1), 1) := by decide +kernel
theorem dX10_countsWays_85 : decode cX10_countsWays 85 = .ok (.ixor, 1) := by decide +kernel
theorem dX10_countsWays_86 : decode cX10_countsWays 86 = .ok (.iand, 1) := by decide +kernel
theorem dX10_countsWays_87 : decode cX10_countsWays 87 = .ok (.laload, 1) := by decide +kernel
theorem dX10_countsWays_88 : decode cX10_countsWays 88 = .ok (.ladd, 1) := by decide +kernel
theorem dX10_countsWays_89 : decode cX10_countsWays 89 = .ok (.lastore, 1) := by decide +kernel
theorem dX10_countsWays_90 : decode cX10_countsWays 90 = .ok (.iinc 3 1, 3) := by decide +kernel
theorem dX10_countsWays_93 : decode cX10_countsWays 93 = .ok (.goto (-65), 3) := by decide +kernel
theorem dX10_countsWays_96 : decode cX10_countsWays 96 = .ok (.iinc 2 1, 3) := by decide +kernel
theorem dX10_countsWays_99 : decode cX10_countsWays 99 = .ok (.goto (-85), 3) := by decide +kernel
theorem dX10_countsWays_102 : decode cX10_countsWays 102 = .ok (.aload_n 0, 1) := by decide +kernel
theorem dX10_countsWays_103 : decode cX10_countsWays 103 = .ok (.getfield 59, 3) := by decide +kernel
theorem dX10_countsWays_106 : decode cX10_countsWays 106 = .ok (.iload_n 1, 1) := by decide +kernel
theorem dX10_countsWays_107 : decode cX10_countsWays 107 = .ok (.laload, 1) := by decide +kernel
theorem dX10_countsWays_108 : decode cX10_countsWays 108 = .ok (.lreturn, 1) := by decide +kernel
theorem dX10_orders_0 : decode cX10_orders 0 = .ok (.aload_n 0, 1) := by decide +kernel
theorem dX10_orders_1 : decode cX10_orders 1 = .ok (.iload_n 1, 1) := by decide +kernel
theorem dX10_orders_2 : decode cX10_orders 2 = .ok (.invokevirtual 258, 3) := by decide +kernel
theorem dX10_orders_5 : decode cX10_orders 5 = .ok (.ifCond .eq 15, 3) := by decide +kernel
theorem dX10_orders_8 : decode cX10_orders 8 = .ok (.aload_n 0, 1) := by decide +kernel
theorem dX10_orders_9 : decode cX10_orders 9 = .ok (.aload_n 0, 1) := by decide +kernel
theorem dX10_orders_10 : decode cX10_orders 10 = .ok (.iload_n 1, 1) := by decide +kernel
theorem dX10_orders_11 : decode cX10_orders 11 = .ok (.invokevirtual 288, 3) := by decide +kernel
theorem dX10_orders_14 : decode cX10_orders 14 = .ok (.invokevirtual 294, 3) := by decide +kernel
theorem dX10_orders_17 : decode cX10_orders 17 = .ok (.goto 6, 3) := by decide +kernel
theorem dX10_orders_20 : decode cX10_orders 20 = .ok (.ldc2_w 298, 3) := by decide +kernel
theorem dX10_orders_23 : decode cX10_orders 23 = .ok (.lreturn, 1) := by decide +kernel
theorem dX10_first_0 : decode cX10_first 0 = .ok (.aload_n 0, 1) := by decide +kernel
theorem dX10_first_1 : decode cX10_first 1 = .ok (.iload_n 1, 1) := by decide +kernel
theorem dX10_first_2 : decode cX10_first 2 = .ok (.invokevirtual 258, 3) := by decide +kernel
theorem dX10_first_5 : decode cX10_first 5 = .ok (.ifCond .eq 35, 3) := by decide +kernel
theorem dX10_first_8 : decode cX10_first 8 = .ok (.iload_n 2, 1) := by decide +kernel
theorem dX10_first_9 : decode cX10_first 9 = .ok (.iconst 0, 1) := by decide +kernel
theorem dX10_first_10 : decode cX10_first 10 = .ok (.aload_n 0, 1) := by decide +kernel
theorem dX10_first_11 : decode cX10_first 11 = .ok (.iload_n 1, 1) := by decide +kernel
theorem dX10_first_12 : decode cX10_first 12 = .ok (.invokevirtual 288, 3) := by decide +kernel
theorem dX10_first_15 : decode cX10_first 15 = .ok (.invokestatic 300, 3) := by decide +kernel
theorem dX10_first_18 : decode cX10_first 18 = .ok (.iconst 1, 1) := by decide +kernel
theorem dX10_first_19 : decode cX10_first 19 = .ok (.isub, 1) := by decide +kernel
theorem dX10_first_20 : decode cX10_first 20 = .ok (.invokestatic 88, 3) := by decide +kernel
theorem dX10_first_23 : decode cX10_first 23 = .ok (.ifCond .eq 17, 3) := by decide +kernel
theorem dX10_first_26 : decode cX10_first 26 = .ok (.aload_n 0, 1) := by decide +kernel
theorem dX10_first_27 : decode cX10_first 27 = .ok (.aload_n 0, 1) := by decide +kernel
theorem dX10_first_28 : decode cX10_first 28 = .ok (.iload_n 1, 1) := by decide +kernel
theorem dX10_first_29 : decode cX10_first 29 = .ok (.invokevirtual 288, 3) := by decide +kernel
theorem dX10_first_32 : decode cX10_first 32 = .ok (.invokevirtual 294, 3) := by decide +kernel
theorem dX10_first_35 : decode cX10_first 35 = .ok (.lconst 0, 1) := by decide +kernel
theorem dX10_first_36 : decode cX10_first 36 = .ok (.lcmp, 1) := by decide +kernel
theorem dX10_first_37 : decode cX10_first 37 = .ok (.ifCond .ne 5, 3) := by decide +kernel
theorem dX10_first_40 : decode cX10_first 40 = .ok (.iconst (-1), 1) := by decide +kernel
theorem dX10_first_41 : decode cX10_first 41 = .ok (.ireturn, 1) := by decide +kernel
theorem dX10_first_42 : decode cX10_first 42 = .ok (.aload_n 0, 1) := by decide +kernel
theorem dX10_first_43 : decode cX10_first 43 = .ok (.iload_n 1, 1) := by decide +kernel
theorem dX10_first_44 : decode cX10_first 44 = .ok (.invokevirtual 288, 3) := by decide +kernel
theorem dX10_first_47 : decode cX10_first 47 = .ok (.istore_n 3, 1) := by decide +kernel
theorem dX10_first_48 : decode cX10_first 48 = .ok (.iconst 0, 1) := by decide +kernel
theorem dX10_first_49 : decode cX10_first 49 = .ok (.istore 4, 2) := by decide +kernel
theorem dX10_first_51 : decode cX10_first 51 = .ok (.iconst (-1), 1) := by decide +kernel
theorem dX10_first_52 : decode cX10_first 52 = .ok (.istore 5, 2) := by decide +kernel
theorem dX10_first_54 : decode cX10_first 54 = .ok (.iconst 0, 1) := by decide +kernel
theorem dX10_first_55 : decode cX10_first 55 = .ok (.istore 6, 2) := by decide +kernel
theorem dX10_first_57 : decode cX10_first 57 = .ok (.iload 6, 2) := by decide +kernel
theorem dX10_first_59 : decode cX10_first 59 = .ok (.iload_n 2, 1) := by decide +kernel
theorem dX10_first_60 : decode cX10_first 60 = .ok (.if_icmp .gt 60, 3) := by decide +kernel
theorem dX10_first_63 : decode cX10_first 63 = .ok (.iconst 0, 1) := by decide +kernel
theorem dX10_first_64 : decode cX10_first 64 = .ok (.istore 7, 2) := by decide +kernel
theorem dX10_first_66 : decode cX10_first 66 = .ok (.iload_n 3, 1) := by decide +kernel
theorem dX10_first_67 : decode cX10_first 67 = .ok (.iload 4, 2) := by decide +kernel
theorem dX10_first_69 : decode cX10_first 69 = .ok (.iconst (-1), 1) := by decide +kernel
theorem dX10_first_70 : decode cX10_first 70 = .ok (.ixor, 1) := by decide +kernel
theorem dX10_first_71 : decode cX10_first 71 = .ok (.iand, 1) := by decide +kernel
theorem dX10_first_72 : decode cX10_first 72 = .ok (.iload 7, 2) := by decide +kernel
theorem dX10_first_74 : decode cX10_first 74 = .ok (.invokestatic 133, 3) := by decide +kernel
theorem dX10_first_77 : decode cX10_first 77 = .ok (.ifCond .eq 18, 3) := by decide +kernel
theorem dX10_first_80 : decode cX10_first 80 = .ok (.aload_n 0, 1) := by decide +kernel
theorem dX10_first_81 : decode cX10_first 81 = .ok (.getfield 56, 3) := by decide +kernel
theorem dX10_first_84 : decode cX10_first 84 = .ok (.iload 7, 2) := by decide +kernel
theorem dX10_first_86 : decode cX10_first 86 = .ok (.iaload, 1) := by decide +kernel
theorem dX10_first_87 : decode cX10_first 87 = .ok (.iload 4, 2) := by decide +kernel
theorem dX10_first_89 : decode cX10_first 89 = .ok (.iconst (-1), 1) := by decide +kernel
theorem dX10_first_90 : decode cX10_first 90 = .ok (.ixor, 1) := by decide +kernel
theorem dX10_first_91 : decode cX10_first 91 = .ok (.iand, 1) := by decide +kernel
theorem dX10_first_92 : decode cX10_first 92 = .ok (.ifCond .eq 9, 3) := by decide +kernel
theorem dX10_first_95 : decode cX10_first 95 = .ok (.iinc 7 1, 3) := by decide +kernel
theorem dX10_first_98 : decode cX10_first 98 = .ok (.goto (-32), 3) := by decide +kernel
theorem dX10_first_101 : decode cX10_first 101 = .ok (.iload 4, 2) := by decide +kernel
theorem dX10_first_103 : decode cX10_first 103 = .ok (.iconst 1, 1) := by decide +kernel
theorem dX10_first_104 : decode cX10_first 104 = .ok (.iload 7, 2) := by decide +kernel
theorem dX10_first_106 : decode cX10_first 106 = .ok (.ishl, 1) := by decide +kernel
theorem dX10_first_107 : decode cX10_first 107 = .ok (.ior, 1) := by decide +kernel
theorem dX10_first_108 : decode cX10_first 108 = .ok (.istore 4, 2) := by decide +kernel
theorem dX10_first_110 : decode cX10_first 110 = .ok (.iload 7, 2) := by decide +kernel
theorem dX10_first_112 : decode cX10_first 112 = .ok (.istore 5, 2) := by decide +kernel
theorem dX10_first_114 : decode cX10_first 114 = .ok (.iinc 6 1, 3) := by decide +kernel
theorem dX10_first_117 : decode cX10_first 117 = .ok (.goto (-60), 3) := by decide +kernel
theorem dX10_first_120 : decode cX10_first 120 = .ok (.iload 5, 2) := by decide +kernel
theorem dX10_first_122 : decode cX10_first 122 = .ok (.ireturn, 1) := by decide +kernel
theorem dX10_aheadOf_0 : decode cX10_aheadOf 0 = .ok (.aload_n 0, 1) := by decide +kernel
theorem dX10_aheadOf_1 : decode cX10_aheadOf 1 = .ok (.getfield 56, 3) := by decide +kernel
theorem dX10_aheadOf_4 : decode cX10_aheadOf 4 = .ok (.iload_n 1, 1) := by decide +kernel
theorem dX10_aheadOf_5 : decode cX10_aheadOf 5 = .ok (.iaload, 1) := by decide +kernel
theorem dX10_aheadOf_6 : decode cX10_aheadOf 6 = .ok (.istore_n 2, 1) := by decide +kernel
theorem dX10_aheadOf_7 : decode cX10_aheadOf 7 = .ok (.iconst 0, 1) := by decide +kernel
theorem dX10_aheadOf_8 : decode cX10_aheadOf 8 = .ok (.istore_n 3, 1) := by decide +kernel
theorem dX10_aheadOf_9 : decode cX10_aheadOf 9 = .ok (.iload_n 2, 1) := by decide +kernel
theorem dX10_aheadOf_10 : decode cX10_aheadOf 10 = .ok (.iload_n 3, 1) := by decide +kernel
theorem dX10_aheadOf_11 : decode cX10_aheadOf 11 = .ok (.if_icmp .eq 47, 3) := by decide +kernel
theorem dX10_aheadOf_14 : decode cX10_aheadOf 14 = .ok (.iload_n 2, 1) := by decide +kernel
theorem dX10_aheadOf_15 : decode cX10_aheadOf 15 = .ok (.istore_n 3, 1) := by decide +kernel
theorem dX10_aheadOf_16 : decode cX10_aheadOf 16 = .ok (.iconst 0, 1) := by decide +kernel
theorem dX10_aheadOf_17 : decode cX10_aheadOf 17 = .ok (.istore 4, 2) := by decide +kernel
theorem dX10_aheadOf_19 : decode cX10_aheadOf 19 = .ok (.iload 4, 2) := by decide +kernel
theorem dX10_aheadOf_21 : decode cX10_aheadOf 21 = .ok (.bipush 12, 2) := by decide +kernel
theorem dX10_aheadOf_23 : decode cX10_aheadOf 23 = .ok (.if_icmp .ge 32, 3) := by decide +kernel
theorem dX10_aheadOf_26 : decode cX10_aheadOf 26 = .ok (.iload_n 2, 1) := by decide +kernel
theorem dX10_aheadOf_27 : decode cX10_aheadOf 27 = .ok (.iload_n 3, 1) := by decide +kernel
theorem dX10_aheadOf_28 : decode cX10_aheadOf 28 = .ok (.iload 4, 2) := by decide +kernel
theorem dX10_aheadOf_30 : decode cX10_aheadOf 30 = .ok (.invokestatic 133, 3) := by decide +kernel
theorem dX10_aheadOf_33 : decode cX10_aheadOf 33 = .ok (.ifCond .eq 13, 3) := by decide +kernel
theorem dX10_aheadOf_36 : decode cX10_aheadOf 36 = .ok (.aload_n 0, 1) := by decide +kernel
theorem dX10_aheadOf_37 : decode cX10_aheadOf 37 = .ok (.getfield 56, 3) := by decide +kernel
theorem dX10_aheadOf_40 : decode cX10_aheadOf 40 = .ok (.iload 4, 2) := by decide +kernel
theorem dX10_aheadOf_42 : decode cX10_aheadOf 42 = .ok (.iaload, 1) := by decide +kernel
theorem dX10_aheadOf_43 : decode cX10_aheadOf 43 = .ok (.goto 4, 3) := by decide +kernel
theorem dX10_aheadOf_46 : decode cX10_aheadOf 46 = .ok (.iconst 0, 1) := by decide +kernel
theorem dX10_aheadOf_47 : decode cX10_aheadOf 47 = .ok (.ior, 1) := by decide +kernel
theorem dX10_aheadOf_48 : decode cX10_aheadOf 48 = .ok (.istore_n 2, 1) := by decide +kernel
theorem dX10_aheadOf_49 : decode cX10_aheadOf 49 = .ok (.iinc 4 1, 3) := by decide +kernel
theorem dX10_aheadOf_52 : decode cX10_aheadOf 52 = .ok (.goto (-33), 3) := by decide +kernel
theorem dX10_aheadOf_55 : decode cX10_aheadOf 55 = .ok (.goto (-46), 3) := by decide +kernel
theorem dX10_aheadOf_58 : decode cX10_aheadOf 58 = .ok (.iload_n 2, 1) := by decide +kernel
theorem dX10_aheadOf_59 : decode cX10_aheadOf 59 = .ok (.ireturn, 1) := by decide +kernel
theorem dX10_place_0 : decode cX10_place 0 = .ok (.aload_n 0, 1) := by decide +kernel
theorem dX10_place_1 : decode cX10_place 1 = .ok (.iload_n 1, 1) := by decide +kernel
theorem dX10_place_2 : decode cX10_place 2 = .ok (.invokevirtual 258, 3) := by decide +kernel
theorem dX10_place_5 : decode cX10_place 5 = .ok (.ifCond .eq 23, 3) := by decide +kernel
theorem dX10_place_8 : decode cX10_place 8 = .ok (.aload_n 0, 1) := by decide +kernel
theorem dX10_place_9 : decode cX10_place 9 = .ok (.iload_n 2, 1) := by decide +kernel
theorem dX10_place_10 : decode cX10_place 10 = .ok (.invokevirtual 258, 3) := by decide +kernel
theorem dX10_place_13 : decode cX10_place 13 = .ok (.ifCond .eq 15, 3) := by decide +kernel
theorem dX10_place_16 : decode cX10_place 16 = .ok (.aload_n 0, 1) := by decide +kernel
theorem dX10_place_17 : decode cX10_place 17 = .ok (.iload_n 1, 1) := by decide +kernel
theorem dX10_place_18 : decode cX10_place 18 = .ok (.invokevirtual 288, 3) := by decide +kernel
theorem dX10_place_21 : decode cX10_place 21 = .ok (.iload_n 2, 1) := by decide +kernel
theorem dX10_place_22 : decode cX10_place 22 = .ok (.invokestatic 133, 3) := by decide +kernel
theorem dX10_place_25 : decode cX10_place 25 = .ok (.ifCond .ne 5, 3) := by decide +kernel
theorem dX10_place_28 : decode cX10_place 28 = .ok (.iconst (-1), 1) := by decide +kernel
theorem dX10_place_29 : decode cX10_place 29 = .ok (.ireturn, 1) := by decide +kernel
theorem dX10_place_30 : decode cX10_place 30 = .ok (.aload_n 0, 1) := by decide +kernel
theorem dX10_place_31 : decode cX10_place 31 = .ok (.iload_n 1, 1) := by decide +kernel
theorem dX10_place_32 : decode cX10_place 32 = .ok (.invokevirtual 288, 3) := by decide +kernel
theorem dX10_place_35 : decode cX10_place 35 = .ok (.istore_n 3, 1) := by decide +kernel
theorem dX10_place_36 : decode cX10_place 36 = .ok (.aload_n 0, 1) := by decide +kernel
theorem dX10_place_37 : decode cX10_place 37 = .ok (.iload_n 3, 1) := by decide +kernel
theorem dX10_place_38 : decode cX10_place 38 = .ok (.invokevirtual 294, 3) := by decide +kernel
theorem dX10_place_41 : decode cX10_place 41 = .ok (.lconst 0, 1) := by decide +kernel
theorem dX10_place_42 : decode cX10_place 42 = .ok (.lcmp, 1) := by decide +kernel
theorem dX10_place_43 : decode cX10_place 43 = .ok (.ifCond .ne 5, 3) := by decide +kernel
theorem dX10_place_46 : decode cX10_place 46 = .ok (.iconst 0, 1) := by decide +kernel
theorem dX10_place_47 : decode cX10_place 47 = .ok (.ireturn, 1) := by decide +kernel
theorem dX10_place_48 : decode cX10_place 48 = .ok (.aload_n 0, 1) := by decide +kernel
theorem dX10_place_49 : decode cX10_place 49 = .ok (.iload_n 2, 1) := by decide +kernel
theorem dX10_place_50 : decode cX10_place 50 = .ok (.invokevirtual 303, 3) := by decide +kernel
theorem dX10_place_53 : decode cX10_place 53 = .ok (.invokestatic 300, 3) := by decide +kernel
theorem dX10_place_56 : decode cX10_place 56 = .ok (.istore 4, 2) := by decide +kernel
theorem dX10_place_58 : decode cX10_place 58 = .ok (.iload_n 3, 1) := by decide +kernel
theorem dX10_place_59 : decode cX10_place 59 = .ok (.invokestatic 300, 3) := by decide +kernel
theorem dX10_place_62 : decode cX10_place 62 = .ok (.iconst 1, 1) := by decide +kernel
theorem dX10_place_63 : decode cX10_place 63 = .ok (.isub, 1) := by decide +kernel
theorem dX10_place_64 : decode cX10_place 64 = .ok (.istore 5, 2) := by decide +kernel
theorem dX10_place_66 : decode cX10_place 66 = .ok (.iconst 0, 1) := by decide +kernel
theorem dX10_place_67 : decode cX10_place 67 = .ok (.istore 6, 2) := by decide +kernel
theorem dX10_place_69 : decode cX10_place 69 = .ok (.iload 6, 2) := by decide +kernel
theorem dX10_place_71 : decode cX10_place 71 = .ok (.bipush 12, 2) := by decide +kernel
theorem dX10_place_73 : decode cX10_place 73 = .ok (.if_icmp .ge 44, 3) := by decide +kernel
theorem dX10_place_76 : decode cX10_place 76 = .ok (.iload 5, 2) := by decide +kernel
theorem dX10_place_78 : decode cX10_place 78 = .ok (.iload_n 3, 1) := by decide +kernel
theorem dX10_place_79 : decode cX10_place 79 = .ok (.iload 6, 2) := by decide +kernel
theorem dX10_place_81 : decode cX10_place 81 = .ok (.invokestatic 133, 3) := by decide +kernel
theorem dX10_place_84 : decode cX10_place 84 = .ok (.ifCond .eq 20, 3) := by decide +kernel
theorem dX10_place_87 : decode cX10_place 87 = .ok (.aload_n 0, 1) := by decide +kernel
theorem dX10_place_88 : decode cX10_place 88 = .ok (.iload 6, 2) := by decide +kernel
theorem dX10_place_90 : decode cX10_place 90 = .ok (.invokevirtual 303, 3) := by decide +kernel
theorem dX10_place_93 : decode cX10_place 93 = .ok (.iload_n 2, 1) := by decide +kernel
theorem dX10_place_94 : decode cX10_place 94 = .ok (.invokestatic 133, 3) := by decide +kernel
theorem dX10_place_97 : decode cX10_place 97 = .ok (.ifCond .eq 7, 3) := by decide +kernel
theorem dX10_place_100 : decode cX10_place 100 = .ok (.iconst 1, 1) := by decide +kernel
theorem dX10_place_101 : decode cX10_place 101 = .ok (.goto 4, 3) := by decide +kernel
theorem dX10_place_104 : decode cX10_place 104 = .ok (.iconst 0, 1) := by decide +kernel
theorem dX10_place_105 : decode cX10_place 105 = .ok (.invokestatic 104, 3) := by decide +kernel
theorem dX10_place_108 : decode cX10_place 108 = .ok (.isub, 1) := by decide +kernel
theorem dX10_place_109 : decode cX10_place 109 = .ok (.istore 5, 2) := by decide +kernel
theorem dX10_place_111 : decode cX10_place 111 = .ok (.iinc 6 1, 3) := by decide +kernel
theorem dX10_place_114 : decode cX10_place 114 = .ok (.goto (-45), 3) := by decide +kernel
theorem dX10_place_117 : decode cX10_place 117 = .ok (.iconst 0, 1) := by decide +kernel
theorem dX10_place_118 : decode cX10_place 118 = .ok (.istore 6, 2) := by decide +kernel
theorem dX10_place_120 : decode cX10_place 120 = .ok (.iload 4, 2) := by decide +kernel
theorem dX10_place_122 : decode cX10_place 122 = .ok (.istore 7, 2) := by decide +kernel
theorem dX10_place_124 : decode cX10_place 124 = .ok (.iload 7, 2) := by decide +kernel
theorem dX10_place_126 : decode cX10_place 126 = .ok (.iload 5, 2) := by decide +kernel
theorem dX10_place_128 : decode cX10_place 128 = .ok (.if_icmp .gt 18, 3) := by decide +kernel
theorem dX10_place_131 : decode cX10_place 131 = .ok (.iload 6, 2) := by decide +kernel
theorem dX10_place_133 : decode cX10_place 133 = .ok (.iconst 1, 1) := by decide +kernel
theorem dX10_place_134 : decode cX10_place 134 = .ok (.iload 7, 2) := by decide +kernel
theorem dX10_place_136 : decode cX10_place 136 = .ok (.ishl, 1) := by decide +kernel
theorem dX10_place_137 : decode cX10_place 137 = .ok (.ior, 1) := by decide +kernel
theorem dX10_place_138 : decode cX10_place 138 = .ok (.istore 6, 2) := by decide +kernel
theorem dX10_place_140 : decode cX10_place 140 = .ok (.iinc 7 1, 3) := by decide +kernel
theorem dX10_place_143 : decode cX10_place 143 = .ok (.goto (-19), 3) := by decide +kernel
theorem dX10_place_146 : decode cX10_place 146 = .ok (.iload 6, 2) := by decide +kernel
theorem dX10_place_148 : decode cX10_place 148 = .ok (.ireturn, 1) := by decide +kernel
theorem dX10_ends_0 : decode cX10_ends 0 = .ok (.aload_n 0, 1) := by decide +kernel
theorem dX10_ends_1 : decode cX10_ends 1 = .ok (.iload_n 1, 1) := by decide +kernel
theorem dX10_ends_2 : decode cX10_ends 2 = .ok (.putfield 306, 3) := by decide +kernel
theorem dX10_ends_5 : decode cX10_ends 5 = .ok (.aload_n 0, 1) := by decide +kernel
theorem dX10_ends_6 : decode cX10_ends 6 = .ok (.iload_n 2, 1) := by decide +kernel
theorem dX10_ends_7 : decode cX10_ends 7 = .ok (.putfield 309, 3) := by decide +kernel
theorem dX10_ends_10 : decode cX10_ends 10 = .ok (.return_, 1) := by decide +kernel
theorem dX10_calls_0 : decode cX10_calls 0 = .ok (.iload_n 3, 1) := by decide +kernel
theorem dX10_calls_1 : decode cX10_calls 1 = .ok (.bipush 16, 2) := by decide +kernel
theorem dX10_calls_3 : decode cX10_calls 3 = .ok (.if_icmp .eq 12, 3) := by decide +kernel
theorem dX10_calls_6 : decode cX10_calls 6 = .ok (.aload_n 0, 1) := by decide +kernel
theorem dX10_calls_7 : decode cX10_calls 7 = .ok (.getfield 312, 3) := by decide +kernel
theorem dX10_calls_10 : decode cX10_calls 10 = .ok (.bipush 100, 2) := by decide +kernel
theorem dX10_calls_12 : decode cX10_calls 12 = .ok (.if_icmp .ne 11, 3) := by decide +kernel
theorem dX10_calls_15 : decode cX10_calls 15 = .ok (.aload_n 0, 1) := by decide +kernel
theorem dX10_calls_16 : decode cX10_calls 16 = .ok (.iconst 5, 1) := by decide +kernel
theorem dX10_calls_17 : decode cX10_calls 17 = .ok (.iload_n 3, 1) := by decide +kernel
theorem dX10_calls_18 : decode cX10_calls 18 = .ok (.invokevirtual 315, 3) := by decide +kernel
theorem dX10_calls_21 : decode cX10_calls 21 = .ok (.iconst 0, 1) := by decide +kernel
theorem dX10_calls_22 : decode cX10_calls 22 = .ok (.ireturn, 1) := by decide +kernel
theorem dX10_calls_23 : decode cX10_calls 23 = .ok (.aload_n 0, 1) := by decide +kernel
theorem dX10_calls_24 : decode cX10_calls 24 = .ok (.dup, 1) := by decide +kernel
theorem dX10_calls_25 : decode cX10_calls 25 = .ok (.getfield 312, 3) := by decide +kernel
theorem dX10_calls_28 : decode cX10_calls 28 = .ok (.iconst 1, 1) := by decide +kernel
theorem dX10_calls_29 : decode cX10_calls 29 = .ok (.iadd, 1) := by decide +kernel
theorem dX10_calls_30 : decode cX10_calls 30 = .ok (.putfield 312, 3) := by decide +kernel
theorem dX10_calls_33 : decode cX10_calls 33 = .ok (.aload_n 0, 1) := by decide +kernel
theorem dX10_calls_34 : decode cX10_calls 34 = .ok (.aload_n 0, 1) := by decide +kernel
theorem dX10_calls_35 : decode cX10_calls 35 = .ok (.getfield 318, 3) := by decide +kernel
theorem dX10_calls_38 : decode cX10_calls 38 = .ok (.iload_n 3, 1) := by decide +kernel
theorem dX10_calls_39 : decode cX10_calls 39 = .ok (.invokestatic 321, 3) := by decide +kernel
theorem dX10_calls_42 : decode cX10_calls 42 = .ok (.putfield 318, 3) := by decide +kernel
theorem dX10_calls_45 : decode cX10_calls 45 = .ok (.iconst 0, 1) := by decide +kernel
theorem dX10_calls_46 : decode cX10_calls 46 = .ok (.istore 4, 2) := by decide +kernel
theorem dX10_calls_48 : decode cX10_calls 48 = .ok (.iload_n 2, 1) := by decide +kernel
theorem dX10_calls_49 : decode cX10_calls 49 = .ok (.istore 5, 2) := by decide +kernel
theorem dX10_calls_51 : decode cX10_calls 51 = .ok (.iload 5, 2) := by decide +kernel
theorem dX10_calls_53 : decode cX10_calls 53 = .ok (.aload_n 0, 1) := by decide +kernel
theorem dX10_calls_54 : decode cX10_calls 54 = .ok (.getfield 38, 3) := by decide +kernel
theorem dX10_calls_57 : decode cX10_calls 57 = .ok (.aload_n 0, 1) := by decide +kernel
theorem dX10_calls_58 : decode cX10_calls 58 = .ok (.getfield 324, 3) := by decide +kernel
theorem dX10_calls_61 : decode cX10_calls 61 = .ok (.iaload, 1) := by decide +kernel
theorem dX10_calls_62 : decode cX10_calls 62 = .ok (.if_icmp .ge 84, 3) := by decide +kernel
theorem dX10_calls_65 : decode cX10_calls 65 = .ok (.aload_n 0, 1) := by decide +kernel
theorem dX10_calls_66 : decode cX10_calls 66 = .ok (.getfield 35, 3) := by decide +kernel
theorem dX10_calls_69 : decode cX10_calls 69 = .ok (.bipush 12, 2) := by decide +kernel
theorem dX10_calls_71 : decode cX10_calls 71 = .ok (.aload_n 0, 1) := by decide +kernel
theorem dX10_calls_72 : decode cX10_calls 72 = .ok (.getfield 324, 3) := by decide +kernel
theorem dX10_calls_75 : decode cX10_calls 75 = .ok (.imul, 1) := by decide +kernel
theorem dX10_calls_76 : decode cX10_calls 76 = .ok (.iload 5, 2) := by decide +kernel
theorem dX10_calls_78 : decode cX10_calls 78 = .ok (.iadd, 1) := by decide +kernel
theorem dX10_calls_79 : decode cX10_calls 79 = .ok (.iaload, 1) := by decide +kernel
theorem dX10_calls_80 : decode cX10_calls 80 = .ok (.istore 6, 2) := by decide +kernel
theorem dX10_calls_82 : decode cX10_calls 82 = .ok (.aload_n 0, 1) := by decide +kernel
theorem dX10_calls_83 : decode cX10_calls 83 = .ok (.iload 6, 2) := by decide +kernel
theorem dX10_calls_85 : decode cX10_calls 85 = .ok (.iload_n 1, 1) := by decide +kernel
theorem dX10_calls_86 : decode cX10_calls 86 = .ok (.invokevirtual 276, 3) := by decide +kernel
theorem dX10_calls_89 : decode cX10_calls 89 = .ok (.istore 7, 2) := by decide +kernel
theorem dX10_calls_91 : decode cX10_calls 91 = .ok (.iload 4, 2) := by decide +kernel
theorem dX10_calls_93 : decode cX10_calls 93 = .ok (.ifCond .ne 9, 3) := by decide +kernel
theorem dX10_calls_96 : decode cX10_calls 96 = .ok (.iload 7, 2) := by decide +kernel
theorem dX10_calls_98 : decode cX10_calls 98 = .ok (.iconst 2, 1) := by decide +kernel
theorem dX10_calls_99 : decode cX10_calls 99 = .ok (.if_icmp .ne 7, 3) := by decide +kernel
theorem dX10_calls_102 : decode cX10_calls 102 = .ok (.iconst 1, 1) := by decide +kernel
theorem dX10_calls_103 : decode cX10_calls 103 = .ok (.goto 4, 3) := by decide +kernel
theorem dX10_calls_106 : decode cX10_calls 106 = .ok (.iconst 0, 1) := by decide +kernel
theorem dX10_calls_107 : decode cX10_calls 107 = .ok (.istore 4, 2) := by decide +kernel
theorem dX10_calls_109 : decode cX10_calls 109 = .ok (.iload 7, 2) := by decide +kernel
theorem dX10_calls_111 : decode cX10_calls 111 = .ok (.iconst 3, 1) := by decide +kernel
theorem dX10_calls_112 : decode cX10_calls 112 = .ok (.if_icmp .ne 11, 3) := by decide +kernel
theorem dX10_calls_115 : decode cX10_calls 115 = .ok (.aload_n 0, 1) := by decide +kernel
theorem dX10_calls_116 : decode cX10_calls 116 = .ok (.iconst 3, 1) := by decide +kernel
theorem dX10_calls_117 : decode cX10_calls 117 = .ok (.iload_n 3, 1) := by decide +kernel
theorem dX10_calls_118 : decode cX10_calls 118 = .ok (.invokevirtual 315, 3) := by decide +kernel
theorem dX10_calls_121 : decode cX10_calls 121 = .ok (.iconst 0, 1) := by decide +kernel
theorem dX10_calls_122 : decode cX10_calls 122 = .ok (.ireturn, 1) := by decide +kernel
theorem dX10_calls_123 : decode cX10_calls 123 = .ok (.iload 7, 2) := by decide +kernel
theorem dX10_calls_125 : decode cX10_calls 125 = .ok (.iconst 1, 1) := by decide +kernel
theorem dX10_calls_126 : decode cX10_calls 126 = .ok (.if_icmp .ne 14, 3) := by decide +kernel
theorem dX10_calls_129 : decode cX10_calls 129 = .ok (.aload_n 0, 1) := by decide +kernel
theorem dX10_calls_130 : decode cX10_calls 130 = .ok (.iload 6, 2) := by decide +kernel
theorem dX10_calls_132 : decode cX10_calls 132 = .ok (.iload_n 1, 1) := by decide +kernel
theorem dX10_calls_133 : decode cX10_calls 133 = .ok (.iload 5, 2) := by decide +kernel
theorem dX10_calls_135 : decode cX10_calls 135 = .ok (.iload_n 3, 1) := by decide +kernel
theorem dX10_calls_136 : decode cX10_calls 136 = .ok (.invokevirtual 327, 3) := by decide +kernel
theorem dX10_calls_139 : decode cX10_calls 139 = .ok (.ireturn, 1) := by decide +kernel
theorem dX10_calls_140 : decode cX10_calls 140 = .ok (.iinc 5 1, 3) := by decide +kernel
theorem dX10_calls_143 : decode cX10_calls 143 = .ok (.goto (-92), 3) := by decide +kernel
theorem dX10_calls_146 : decode cX10_calls 146 = .ok (.aload_n 0, 1) := by decide +kernel
theorem dX10_calls_147 : decode cX10_calls 147 = .ok (.iload 4, 2) := by decide +kernel
theorem dX10_calls_149 : decode cX10_calls 149 = .ok (.ifCond .eq 7, 3) := by decide +kernel
theorem dX10_calls_152 : decode cX10_calls 152 = .ok (.iconst 2, 1) := by decide +kernel
theorem dX10_calls_153 : decode cX10_calls 153 = .ok (.goto 4, 3) := by decide +kernel
theorem dX10_calls_156 : decode cX10_calls 156 = .ok (.iconst 1, 1) := by decide +kernel
theorem dX10_calls_157 : decode cX10_calls 157 = .ok (.iload_n 3, 1) := by decide +kernel
theorem dX10_calls_158 : decode cX10_calls 158 = .ok (.invokevirtual 315, 3) := by decide +kernel
theorem dX10_calls_161 : decode cX10_calls 161 = .ok (.iconst 0, 1) := by decide +kernel
theorem dX10_calls_162 : decode cX10_calls 162 = .ok (.ireturn, 1) := by decide +kernel
theorem dX10_works_0 : decode cX10_works 0 = .ok (.aload_n 0, 1) := by decide +kernel
theorem dX10_works_1 : decode cX10_works 1 = .ok (.aload_n 0, 1) := by decide +kernel
theorem dX10_works_2 : decode cX10_works 2 = .ok (.getfield 330, 3) := by decide +kernel
theorem dX10_works_5 : decode cX10_works 5 = .ok (.iconst (-1), 1) := by decide +kernel
theorem dX10_works_6 : decode cX10_works 6 = .ok (.if_icmp .ne 7, 3) := by decide +kernel
theorem dX10_works_9 : decode cX10_works 9 = .ok (.iload_n 1, 1) := by decide +kernel
theorem dX10_works_10 : decode cX10_works 10 = .ok (.goto 7, 3) := by decide +kernel
theorem dX10_works_13 : decode cX10_works 13 = .ok (.aload_n 0, 1) := by decide +kernel
theorem dX10_works_14 : decode cX10_works 14 = .ok (.getfield 330, 3) := by decide +kernel
theorem dX10_works_17 : decode cX10_works 17 = .ok (.putfield 330, 3) := by decide +kernel
theorem dX10_works_20 : decode cX10_works 20 = .ok (.aload_n 0, 1) := by decide +kernel
theorem dX10_works_21 : decode cX10_works 21 = .ok (.getfield 32, 3) := by decide +kernel
theorem dX10_works_24 : decode cX10_works 24 = .ok (.iload_n 1, 1) := by decide +kernel
theorem dX10_works_25 : decode cX10_works 25 = .ok (.iload_n 2, 1) := by decide +kernel
theorem dX10_works_26 : decode cX10_works 26 = .ok (.invokestatic 216, 3) := by decide +kernel
theorem dX10_works_29 : decode cX10_works 29 = .ok (.iconst 1, 1) := by decide +kernel
theorem dX10_works_30 : decode cX10_works 30 = .ok (.iadd, 1) := by decide +kernel
theorem dX10_works_31 : decode cX10_works 31 = .ok (.iaload, 1) := by decide +kernel
theorem dX10_works_32 : decode cX10_works 32 = .ok (.istore 5, 2) := by decide +kernel
theorem dX10_works_34 : decode cX10_works 34 = .ok (.iload 5, 2) := by decide +kernel
theorem dX10_works_36 : decode cX10_works 36 = .ok (.aload_n 0, 1) := by decide +kernel
theorem dX10_works_37 : decode cX10_works 37 = .ok (.iload 5, 2) := by decide +kernel
theorem dX10_works_39 : decode cX10_works 39 = .ok (.aload_n 0, 1) := by decide +kernel
theorem dX10_works_40 : decode cX10_works 40 = .ok (.getfield 32, 3) := by decide +kernel
theorem dX10_works_43 : decode cX10_works 43 = .ok (.iload_n 1, 1) := by decide +kernel
theorem dX10_works_44 : decode cX10_works 44 = .ok (.iload_n 2, 1) := by decide +kernel
theorem dX10_works_45 : decode cX10_works 45 = .ok (.invokestatic 216, 3) := by decide +kernel
theorem dX10_works_48 : decode cX10_works 48 = .ok (.iconst 2, 1) := by decide +kernel
theorem dX10_works_49 : decode cX10_works 49 = .ok (.iadd, 1) := by decide +kernel
theorem dX10_works_50 : decode cX10_works 50 = .ok (.iaload, 1) := by decide +kernel
theorem dX10_works_51 : decode cX10_works 51 = .ok (.invokevirtual 267, 3) := by decide +kernel
theorem dX10_works_54 : decode cX10_works 54 = .ok (.invokestatic 168, 3) := by decide +kernel
theorem dX10_works_57 : decode cX10_works 57 = .ok (.istore 6, 2) := by decide +kernel
theorem dX10_works_59 : decode cX10_works 59 = .ok (.aload_n 0, 1) := by decide +kernel
theorem dX10_works_60 : decode cX10_works 60 = .ok (.dup, 1) := by decide +kernel
theorem dX10_works_61 : decode cX10_works 61 = .ok (.getfield 333, 3) := by decide +kernel
theorem dX10_works_64 : decode cX10_works 64 = .ok (.iconst 1, 1) := by decide +kernel
theorem dX10_works_65 : decode cX10_works 65 = .ok (.iload 5, 2) := by decide +kernel
theorem dX10_works_67 : decode cX10_works 67 = .ok (.ishl, 1) := by decide +kernel
theorem dX10_works_68 : decode cX10_works 68 = .ok (.ior, 1) := by decide +kernel
theorem dX10_works_69 : decode cX10_works 69 = .ok (.putfield 333, 3) := by decide +kernel
theorem dX10_works_72 : decode cX10_works 72 = .ok (.iconst 0, 1) := by decide +kernel
theorem dX10_works_73 : decode cX10_works 73 = .ok (.istore 7, 2) := by decide +kernel
theorem dX10_works_75 : decode cX10_works 75 = .ok (.iconst 0, 1) := by decide +kernel
theorem dX10_works_76 : decode cX10_works 76 = .ok (.istore 8, 2) := by decide +kernel
theorem dX10_works_78 : decode cX10_works 78 = .ok (.iload 8, 2) := by decide +kernel
theorem dX10_works_80 : decode cX10_works 80 = .ok (.aload_n 0, 1) := by decide +kernel
theorem dX10_works_81 : decode cX10_works 81 = .ok (.getfield 11, 3) := by decide +kernel
theorem dX10_works_84 : decode cX10_works 84 = .ok (.iload 6, 2) := by decide +kernel
theorem dX10_works_86 : decode cX10_works 86 = .ok (.iconst 1, 1) := by decide +kernel
theorem dX10_works_87 : decode cX10_works 87 = .ok (.iadd, 1) := by decide +kernel
theorem dX10_works_88 : decode cX10_works 88 = .ok (.iaload, 1) := by decide +kernel
theorem dX10_works_89 : decode cX10_works 89 = .ok (.if_icmp .ge 91, 3) := by decide +kernel
theorem dX10_works_92 : decode cX10_works 92 = .ok (.aload_n 0, 1) := by decide +kernel
theorem dX10_works_93 : decode cX10_works 93 = .ok (.getfield 306, 3) := by decide +kernel
theorem dX10_works_96 : decode cX10_works 96 = .ok (.ifCond .ne 84, 3) := by decide +kernel
theorem dX10_works_99 : decode cX10_works 99 = .ok (.aload_n 0, 1) := by decide +kernel
theorem dX10_works_100 : decode cX10_works 100 = .ok (.getfield 11, 3) := by decide +kernel
theorem dX10_works_103 : decode cX10_works 103 = .ok (.iload 6, 2) := by decide +kernel
theorem dX10_works_105 : decode cX10_works 105 = .ok (.iconst 2, 1) := by decide +kernel
theorem dX10_works_106 : decode cX10_works 106 = .ok (.iadd, 1) := by decide +kernel
theorem dX10_works_107 : decode cX10_works 107 = .ok (.iload 8, 2) := by decide +kernel
theorem dX10_works_109 : decode cX10_works 109 = .ok (.iadd, 1) := by decide +kernel
theorem dX10_works_110 : decode cX10_works 110 = .ok (.iaload, 1) := by decide +kernel
theorem dX10_works_111 : decode cX10_works 111 = .ok (.istore 9, 2) := by decide +kernel
theorem dX10_works_113 : decode cX10_works 113 = .ok (.iload 9, 2) := by decide +kernel
theorem dX10_works_115 : decode cX10_works 115 = .ok (.sipush 1000, 3) := by decide +kernel
theorem dX10_works_118 : decode cX10_works 118 = .ok (.if_icmp .ge 13, 3) := by decide +kernel
theorem dX10_works_121 : decode cX10_works 121 = .ok (.iload 7, 2) := by decide +kernel
theorem dX10_works_123 : decode cX10_works 123 = .ok (.iload 9, 2) := by decide +kernel
theorem dX10_works_125 : decode cX10_works 125 = .ok (.iadd, 1) := by decide +kernel
theorem dX10_works_126 : decode cX10_works 126 = .ok (.istore 7, 2) := by decide +kernel
theorem dX10_works_128 : decode cX10_works 128 = .ok (.goto 46, 3) := by decide +kernel
theorem dX10_works_131 : decode cX10_works 131 = .ok (.iload 7, 2) := by decide +kernel
theorem dX10_works_133 : decode cX10_works 133 = .ok (.iload 9, 2) := by decide +kernel
theorem dX10_works_135 : decode cX10_works 135 = .ok (.sipush 1000, 3) := by decide +kernel
theorem dX10_works_138 : decode cX10_works 138 = .ok (.if_icmp .ne 18, 3) := by decide +kernel
theorem dX10_works_141 : decode cX10_works 141 = .ok (.aload_n 0, 1) := by decide +kernel
theorem dX10_works_142 : decode cX10_works 142 = .ok (.iload_n 2, 1) := by decide +kernel
theorem dX10_works_143 : decode cX10_works 143 = .ok (.iload_n 3, 1) := by decide +kernel
theorem dX10_works_144 : decode cX10_works 144 = .ok (.iconst 1, 1) := by decide +kernel
theorem dX10_works_145 : decode cX10_works 145 = .ok (.iadd, 1) := by decide +kernel
theorem dX10_works_146 : decode cX10_works 146 = .ok (.iload 4, 2) := by decide +kernel
theorem dX10_works_148 : decode cX10_works 148 = .ok (.iconst 1, 1) := by decide +kernel
theorem dX10_works_149 : decode cX10_works 149 = .ok (.iadd, 1) := by decide +kernel
theorem dX10_works_150 : decode cX10_works 150 = .ok (.invokevirtual 336, 3) := by decide +kernel
theorem dX10_works_153 : decode cX10_works 153 = .ok (.goto 18, 3) := by decide +kernel
theorem dX10_works_156 : decode cX10_works 156 = .ok (.aload_n 0, 1) := by decide +kernel
theorem dX10_works_157 : decode cX10_works 157 = .ok (.iload 9, 2) := by decide +kernel
theorem dX10_works_159 : decode cX10_works 159 = .ok (.sipush 1001, 3) := by decide +kernel
theorem dX10_works_162 : decode cX10_works 162 = .ok (.isub, 1) := by decide +kernel
theorem dX10_works_163 : decode cX10_works 163 = .ok (.iconst 0, 1) := by decide +kernel
theorem dX10_works_164 : decode cX10_works 164 = .ok (.iload 4, 2) := by decide +kernel
theorem dX10_works_166 : decode cX10_works 166 = .ok (.iconst 1, 1) := by decide +kernel
theorem dX10_works_167 : decode cX10_works 167 = .ok (.iadd, 1) := by decide +kernel
theorem dX10_works_168 : decode cX10_works 168 = .ok (.invokevirtual 336, 3) := by decide +kernel
theorem dX10_works_171 : decode cX10_works 171 = .ok (.iadd, 1) := by decide +kernel
theorem dX10_works_172 : decode cX10_works 172 = .ok (.istore 7, 2) := by decide +kernel
theorem dX10_works_174 : decode cX10_works 174 = .ok (.iinc 8 1, 3) := by decide +kernel
theorem dX10_works_177 : decode cX10_works 177 = .ok (.goto (-99), 3) := by decide +kernel
theorem dX10_works_180 : decode cX10_works 180 = .ok (.iload 7, 2) := by decide +kernel
theorem dX10_works_182 : decode cX10_works 182 = .ok (.ireturn, 1) := by decide +kernel
theorem dX10_sends_0 : decode cX10_sends 0 = .ok (.aload_n 0, 1) := by decide +kernel
theorem dX10_sends_1 : decode cX10_sends 1 = .ok (.iload_n 1, 1) := by decide +kernel
theorem dX10_sends_2 : decode cX10_sends 2 = .ok (.putfield 324, 3) := by decide +kernel
theorem dX10_sends_5 : decode cX10_sends 5 = .ok (.aload_n 0, 1) := by decide +kernel
theorem dX10_sends_6 : decode cX10_sends 6 = .ok (.iconst 0, 1) := by decide +kernel
theorem dX10_sends_7 : decode cX10_sends 7 = .ok (.putfield 306, 3) := by decide +kernel
theorem dX10_sends_10 : decode cX10_sends 10 = .ok (.aload_n 0, 1) := by decide +kernel
theorem dX10_sends_11 : decode cX10_sends 11 = .ok (.iconst 0, 1) := by decide +kernel
theorem dX10_sends_12 : decode cX10_sends 12 = .ok (.putfield 312, 3) := by decide +kernel
theorem dX10_sends_15 : decode cX10_sends 15 = .ok (.aload_n 0, 1) := by decide +kernel
theorem dX10_sends_16 : decode cX10_sends 16 = .ok (.iconst (-1), 1) := by decide +kernel
theorem dX10_sends_17 : decode cX10_sends 17 = .ok (.putfield 318, 3) := by decide +kernel
theorem dX10_sends_20 : decode cX10_sends 20 = .ok (.aload_n 0, 1) := by decide +kernel
theorem dX10_sends_21 : decode cX10_sends 21 = .ok (.iconst (-1), 1) := by decide +kernel
theorem dX10_sends_22 : decode cX10_sends 22 = .ok (.putfield 330, 3) := by decide +kernel
theorem dX10_sends_25 : decode cX10_sends 25 = .ok (.aload_n 0, 1) := by decide +kernel
theorem dX10_sends_26 : decode cX10_sends 26 = .ok (.iconst (-1), 1) := by decide +kernel
theorem dX10_sends_27 : decode cX10_sends 27 = .ok (.putfield 309, 3) := by decide +kernel
theorem dX10_sends_30 : decode cX10_sends 30 = .ok (.aload_n 0, 1) := by decide +kernel
theorem dX10_sends_31 : decode cX10_sends 31 = .ok (.iconst 0, 1) := by decide +kernel
theorem dX10_sends_32 : decode cX10_sends 32 = .ok (.putfield 333, 3) := by decide +kernel
theorem dX10_sends_35 : decode cX10_sends 35 = .ok (.aload_n 0, 1) := by decide +kernel
theorem dX10_sends_36 : decode cX10_sends 36 = .ok (.getfield 38, 3) := by decide +kernel
theorem dX10_sends_39 : decode cX10_sends 39 = .ok (.iload_n 1, 1) := by decide +kernel
theorem dX10_sends_40 : decode cX10_sends 40 = .ok (.iaload, 1) := by decide +kernel
theorem dX10_sends_41 : decode cX10_sends 41 = .ok (.ifCond .ne 10, 3) := by decide +kernel
theorem dX10_sends_44 : decode cX10_sends 44 = .ok (.aload_n 0, 1) := by decide +kernel
theorem dX10_sends_45 : decode cX10_sends 45 = .ok (.iconst 4, 1) := by decide +kernel
theorem dX10_sends_46 : decode cX10_sends 46 = .ok (.putfield 306, 3) := by decide +kernel
theorem dX10_sends_49 : decode cX10_sends 49 = .ok (.iconst 0, 1) := by decide +kernel
theorem dX10_sends_50 : decode cX10_sends 50 = .ok (.ireturn, 1) := by decide +kernel
theorem dX10_sends_51 : decode cX10_sends 51 = .ok (.aload_n 0, 1) := by decide +kernel
theorem dX10_sends_52 : decode cX10_sends 52 = .ok (.iload_n 2, 1) := by decide +kernel
theorem dX10_sends_53 : decode cX10_sends 53 = .ok (.iconst 0, 1) := by decide +kernel
theorem dX10_sends_54 : decode cX10_sends 54 = .ok (.iconst 0, 1) := by decide +kernel
theorem dX10_sends_55 : decode cX10_sends 55 = .ok (.invokevirtual 336, 3) := by decide +kernel
theorem dX10_sends_58 : decode cX10_sends 58 = .ok (.istore_n 3, 1) := by decide +kernel
theorem dX10_sends_59 : decode cX10_sends 59 = .ok (.aload_n 0, 1) := by decide +kernel
theorem dX10_sends_60 : decode cX10_sends 60 = .ok (.getfield 306, 3) := by decide +kernel
theorem dX10_sends_63 : decode cX10_sends 63 = .ok (.ifCond .ne 7, 3) := by decide +kernel
theorem dX10_sends_66 : decode cX10_sends 66 = .ok (.iload_n 3, 1) := by decide +kernel
theorem dX10_sends_67 : decode cX10_sends 67 = .ok (.goto 4, 3) := by decide +kernel
theorem dX10_sends_70 : decode cX10_sends 70 = .ok (.iconst 0, 1) := by decide +kernel
theorem dX10_sends_71 : decode cX10_sends 71 = .ok (.ireturn, 1) := by decide +kernel
theorem dX10_send_0 : decode cX10_send 0 = .ok (.aload_n 0, 1) := by decide +kernel
theorem dX10_send_1 : decode cX10_send 1 = .ok (.iload_n 1, 1) := by decide +kernel
theorem dX10_send_2 : decode cX10_send 2 = .ok (.invokevirtual 258, 3) := by decide +kernel
theorem dX10_send_5 : decode cX10_send 5 = .ok (.ifCond .eq 13, 3) := by decide +kernel
theorem dX10_send_8 : decode cX10_send 8 = .ok (.iload_n 2, 1) := by decide +kernel
theorem dX10_send_9 : decode cX10_send 9 = .ok (.iconst 0, 1) := by decide +kernel
theorem dX10_send_10 : decode cX10_send 10 = .ok (.bipush 25, 2) := by decide +kernel
theorem dX10_send_12 : decode cX10_send 12 = .ok (.invokestatic 88, 3) := by decide +kernel
theorem dX10_send_15 : decode cX10_send 15 = .ok (.ifCond .ne 7, 3) := by decide +kernel
theorem dX10_send_18 : decode cX10_send 18 = .ok (.ldc_w 338, 3) := by decide +kernel
theorem dX10_send_21 : decode cX10_send 21 = .ok (.ireturn, 1) := by decide +kernel
theorem dX10_send_22 : decode cX10_send 22 = .ok (.aload_n 0, 1) := by decide +kernel
theorem dX10_send_23 : decode cX10_send 23 = .ok (.invokevirtual 279, 3) := by decide +kernel
theorem dX10_send_26 : decode cX10_send 26 = .ok (.aload_n 0, 1) := by decide +kernel
theorem dX10_send_27 : decode cX10_send 27 = .ok (.iload_n 1, 1) := by decide +kernel
theorem dX10_send_28 : decode cX10_send 28 = .ok (.iload_n 2, 1) := by decide +kernel
theorem dX10_send_29 : decode cX10_send 29 = .ok (.invokevirtual 339, 3) := by decide +kernel
theorem dX10_send_32 : decode cX10_send 32 = .ok (.istore 4, 2) := by decide +kernel
theorem dX10_send_34 : decode cX10_send 34 = .ok (.iload_n 3, 1) := by decide +kernel
theorem dX10_send_35 : decode cX10_send 35 = .ok (.tableswitch 65 0 5 #[37, 42, 45, 50, 55, 60], 37) := by decide +kernel
theorem dX10_send_72 : decode cX10_send 72 = .ok (.aload_n 0, 1) := by decide +kernel
theorem dX10_send_73 : decode cX10_send 73 = .ok (.getfield 306, 3) := by decide +kernel
theorem dX10_send_76 : decode cX10_send 76 = .ok (.ireturn, 1) := by decide +kernel
theorem dX10_send_77 : decode cX10_send 77 = .ok (.iload 4, 2) := by decide +kernel
theorem dX10_send_79 : decode cX10_send 79 = .ok (.ireturn, 1) := by decide +kernel
theorem dX10_send_80 : decode cX10_send 80 = .ok (.aload_n 0, 1) := by decide +kernel
theorem dX10_send_81 : decode cX10_send 81 = .ok (.getfield 312, 3) := by decide +kernel
theorem dX10_send_84 : decode cX10_send 84 = .ok (.ireturn, 1) := by decide +kernel
theorem dX10_send_85 : decode cX10_send 85 = .ok (.aload_n 0, 1) := by decide +kernel
theorem dX10_send_86 : decode cX10_send 86 = .ok (.getfield 318, 3) := by decide +kernel
theorem dX10_send_89 : decode cX10_send 89 = .ok (.ireturn, 1) := by decide +kernel
theorem dX10_send_90 : decode cX10_send 90 = .ok (.aload_n 0, 1) := by decide +kernel
theorem dX10_send_91 : decode cX10_send 91 = .ok (.getfield 330, 3) := by decide +kernel
theorem dX10_send_94 : decode cX10_send 94 = .ok (.ireturn, 1) := by decide +kernel
theorem dX10_send_95 : decode cX10_send 95 = .ok (.aload_n 0, 1) := by decide +kernel
theorem dX10_send_96 : decode cX10_send 96 = .ok (.getfield 309, 3) := by decide +kernel
theorem dX10_send_99 : decode cX10_send 99 = .ok (.ireturn, 1) := by decide +kernel
theorem dX10_send_100 : decode cX10_send 100 = .ok (.ldc_w 338, 3) := by decide +kernel
theorem dX10_send_103 : decode cX10_send 103 = .ok (.ireturn, 1) := by decide +kernel
theorem dX10_chain_0 : decode cX10_chain 0 = .ok (.aload_n 0, 1) := by decide +kernel
theorem dX10_chain_1 : decode cX10_chain 1 = .ok (.iload_n 1, 1) := by decide +kernel
theorem dX10_chain_2 : decode cX10_chain 2 = .ok (.invokevirtual 258, 3) := by decide +kernel
theorem dX10_chain_5 : decode cX10_chain 5 = .ok (.ifCond .eq 18, 3) := by decide +kernel
theorem dX10_chain_8 : decode cX10_chain 8 = .ok (.iload_n 2, 1) := by decide +kernel
theorem dX10_chain_9 : decode cX10_chain 9 = .ok (.iconst 0, 1) := by decide +kernel
theorem dX10_chain_10 : decode cX10_chain 10 = .ok (.bipush 25, 2) := by decide +kernel
theorem dX10_chain_12 : decode cX10_chain 12 = .ok (.invokestatic 88, 3) := by decide +kernel
theorem dX10_chain_15 : decode cX10_chain 15 = .ok (.ifCond .eq 8, 3) := by decide +kernel
theorem dX10_chain_18 : decode cX10_chain 18 = .ok (.iload_n 3, 1) := by decide +kernel
theorem dX10_chain_19 : decode cX10_chain 19 = .ok (.iconst (-1), 1) := by decide +kernel
theorem dX10_chain_20 : decode cX10_chain 20 = .ok (.if_icmp .ge 5, 3) := by decide +kernel
theorem dX10_chain_23 : decode cX10_chain 23 = .ok (.iconst (-1), 1) := by decide +kernel
theorem dX10_chain_24 : decode cX10_chain 24 = .ok (.ireturn, 1) := by decide +kernel
theorem dX10_chain_25 : decode cX10_chain 25 = .ok (.aload_n 0, 1) := by decide +kernel
theorem dX10_chain_26 : decode cX10_chain 26 = .ok (.invokevirtual 279, 3) := by decide +kernel
theorem dX10_chain_29 : decode cX10_chain 29 = .ok (.aload_n 0, 1) := by decide +kernel
theorem dX10_chain_30 : decode cX10_chain 30 = .ok (.getfield 38, 3) := by decide +kernel
theorem dX10_chain_33 : decode cX10_chain 33 = .ok (.iload_n 1, 1) := by decide +kernel
theorem dX10_chain_34 : decode cX10_chain 34 = .ok (.iaload, 1) := by decide +kernel
theorem dX10_chain_35 : decode cX10_chain 35 = .ok (.ifCond .ne 5, 3) := by decide +kernel
theorem dX10_chain_38 : decode cX10_chain 38 = .ok (.iconst (-1), 1) := by decide +kernel
theorem dX10_chain_39 : decode cX10_chain 39 = .ok (.ireturn, 1) := by decide +kernel
theorem dX10_chain_40 : decode cX10_chain 40 = .ok (.iconst 0, 1) := by decide +kernel
theorem dX10_chain_41 : decode cX10_chain 41 = .ok (.istore 4, 2) := by decide +kernel
theorem dX10_chain_43 : decode cX10_chain 43 = .ok (.iconst 0, 1) := by decide +kernel
theorem dX10_chain_44 : decode cX10_chain 44 = .ok (.istore 5, 2) := by decide +kernel
theorem dX10_chain_46 : decode cX10_chain 46 = .ok (.iload 5, 2) := by decide +kernel
theorem dX10_chain_48 : decode cX10_chain 48 = .ok (.aload_n 0, 1) := by decide +kernel
theorem dX10_chain_49 : decode cX10_chain 49 = .ok (.getfield 38, 3) := by decide +kernel
theorem dX10_chain_52 : decode cX10_chain 52 = .ok (.iload_n 1, 1) := by decide +kernel
theorem dX10_chain_53 : decode cX10_chain 53 = .ok (.iaload, 1) := by decide +kernel
theorem dX10_chain_54 : decode cX10_chain 54 = .ok (.if_icmp .ge 49, 3) := by decide +kernel
theorem dX10_chain_57 : decode cX10_chain 57 = .ok (.aload_n 0, 1) := by decide +kernel
theorem dX10_chain_58 : decode cX10_chain 58 = .ok (.getfield 35, 3) := by decide +kernel
theorem dX10_chain_61 : decode cX10_chain 61 = .ok (.bipush 12, 2) := by decide +kernel
theorem dX10_chain_63 : decode cX10_chain 63 = .ok (.iload_n 1, 1) := by decide +kernel
theorem dX10_chain_64 : decode cX10_chain 64 = .ok (.imul, 1) := by decide +kernel
theorem dX10_chain_65 : decode cX10_chain 65 = .ok (.iload 5, 2) := by decide +kernel
theorem dX10_chain_67 : decode cX10_chain 67 = .ok (.iadd, 1) := by decide +kernel
theorem dX10_chain_68 : decode cX10_chain 68 = .ok (.iaload, 1) := by decide +kernel
theorem dX10_chain_69 : decode cX10_chain 69 = .ok (.istore 6, 2) := by decide +kernel
theorem dX10_chain_71 : decode cX10_chain 71 = .ok (.aload_n 0, 1) := by decide +kernel
theorem dX10_chain_72 : decode cX10_chain 72 = .ok (.iload 6, 2) := by decide +kernel
theorem dX10_chain_74 : decode cX10_chain 74 = .ok (.iload_n 2, 1) := by decide +kernel
theorem dX10_chain_75 : decode cX10_chain 75 = .ok (.invokevirtual 276, 3) := by decide +kernel
theorem dX10_chain_78 : decode cX10_chain 78 = .ok (.iconst 1, 1) := by decide +kernel
theorem dX10_chain_79 : decode cX10_chain 79 = .ok (.if_icmp .eq 6, 3) := by decide +kernel
theorem dX10_chain_82 : decode cX10_chain 82 = .ok (.goto 15, 3) := by decide +kernel
theorem dX10_chain_85 : decode cX10_chain 85 = .ok (.iload 4, 2) := by decide +kernel
theorem dX10_chain_87 : decode cX10_chain 87 = .ok (.iload_n 3, 1) := by decide +kernel
theorem dX10_chain_88 : decode cX10_chain 88 = .ok (.if_icmp .ne 6, 3) := by decide +kernel
theorem dX10_chain_91 : decode cX10_chain 91 = .ok (.iload 6, 2) := by decide +kernel
theorem dX10_chain_93 : decode cX10_chain 93 = .ok (.ireturn, 1) := by decide +kernel
theorem dX10_chain_94 : decode cX10_chain 94 = .ok (.iinc 4 1, 3) := by decide +kernel
theorem dX10_chain_97 : decode cX10_chain 97 = .ok (.iinc 5 1, 3) := by decide +kernel
theorem dX10_chain_100 : decode cX10_chain 100 = .ok (.goto (-54), 3) := by decide +kernel
theorem dX10_chain_103 : decode cX10_chain 103 = .ok (.iload_n 3, 1) := by decide +kernel
theorem dX10_chain_104 : decode cX10_chain 104 = .ok (.iconst (-1), 1) := by decide +kernel
theorem dX10_chain_105 : decode cX10_chain 105 = .ok (.if_icmp .ne 8, 3) := by decide +kernel
theorem dX10_chain_108 : decode cX10_chain 108 = .ok (.iload 4, 2) := by decide +kernel
theorem dX10_chain_110 : decode cX10_chain 110 = .ok (.goto 5, 3) := by decide +kernel
theorem dX10_chain_113 : decode cX10_chain 113 = .ok (.bipush (-2), 2) := by decide +kernel
theorem dX10_chain_115 : decode cX10_chain 115 = .ok (.ireturn, 1) := by decide +kernel
theorem dX10_along_0 : decode cX10_along 0 = .ok (.iconst 0, 1) := by decide +kernel
theorem dX10_along_1 : decode cX10_along 1 = .ok (.istore_n 3, 1) := by decide +kernel
theorem dX10_along_2 : decode cX10_along 2 = .ok (.iconst 0, 1) := by decide +kernel
theorem dX10_along_3 : decode cX10_along 3 = .ok (.istore 4, 2) := by decide +kernel
theorem dX10_along_5 : decode cX10_along 5 = .ok (.iload 4, 2) := by decide +kernel
theorem dX10_along_7 : decode cX10_along 7 = .ok (.aload_n 0, 1) := by decide +kernel
theorem dX10_along_8 : decode cX10_along 8 = .ok (.getfield 38, 3) := by decide +kernel
theorem dX10_along_11 : decode cX10_along 11 = .ok (.iload_n 1, 1) := by decide +kernel
theorem dX10_along_12 : decode cX10_along 12 = .ok (.iaload, 1) := by decide +kernel
theorem dX10_along_13 : decode cX10_along 13 = .ok (.if_icmp .ge 29, 3) := by decide +kernel
theorem dX10_along_16 : decode cX10_along 16 = .ok (.iload_n 3, 1) := by decide +kernel
theorem dX10_along_17 : decode cX10_along 17 = .ok (.aload_n 0, 1) := by decide +kernel
theorem dX10_along_18 : decode cX10_along 18 = .ok (.aload_n 0, 1) := by decide +kernel
theorem dX10_along_19 : decode cX10_along 19 = .ok (.getfield 35, 3) := by decide +kernel
theorem dX10_along_22 : decode cX10_along 22 = .ok (.bipush 12, 2) := by decide +kernel
theorem dX10_along_24 : decode cX10_along 24 = .ok (.iload_n 1, 1) := by decide +kernel
theorem dX10_along_25 : decode cX10_along 25 = .ok (.imul, 1) := by decide +kernel
theorem dX10_along_26 : decode cX10_along 26 = .ok (.iload 4, 2) := by decide +kernel
theorem dX10_along_28 : decode cX10_along 28 = .ok (.iadd, 1) := by decide +kernel
theorem dX10_along_29 : decode cX10_along 29 = .ok (.iaload, 1) := by decide +kernel
theorem dX10_along_30 : decode cX10_along 30 = .ok (.iload_n 2, 1) := by decide +kernel
theorem dX10_along_31 : decode cX10_along 31 = .ok (.invokevirtual 285, 3) := by decide +kernel
theorem dX10_along_34 : decode cX10_along 34 = .ok (.ior, 1) := by decide +kernel
theorem dX10_along_35 : decode cX10_along 35 = .ok (.istore_n 3, 1) := by decide +kernel
theorem dX10_along_36 : decode cX10_along 36 = .ok (.iinc 4 1, 3) := by decide +kernel
theorem dX10_along_39 : decode cX10_along 39 = .ok (.goto (-34), 3) := by decide +kernel
theorem dX10_along_42 : decode cX10_along 42 = .ok (.iload_n 3, 1) := by decide +kernel
theorem dX10_along_43 : decode cX10_along 43 = .ok (.ireturn, 1) := by decide +kernel
theorem dX10_lacksOf_0 : decode cX10_lacksOf 0 = .ok (.aload_n 0, 1) := by decide +kernel
theorem dX10_lacksOf_1 : decode cX10_lacksOf 1 = .ok (.iload_n 1, 1) := by decide +kernel
theorem dX10_lacksOf_2 : decode cX10_lacksOf 2 = .ok (.iconst 2, 1) := by decide +kernel
theorem dX10_lacksOf_3 : decode cX10_lacksOf 3 = .ok (.invokevirtual 342, 3) := by decide +kernel
theorem dX10_lacksOf_6 : decode cX10_lacksOf 6 = .ok (.aload_n 0, 1) := by decide +kernel
theorem dX10_lacksOf_7 : decode cX10_lacksOf 7 = .ok (.iload_n 1, 1) := by decide +kernel
theorem dX10_lacksOf_8 : decode cX10_lacksOf 8 = .ok (.iconst 1, 1) := by decide +kernel
theorem dX10_lacksOf_9 : decode cX10_lacksOf 9 = .ok (.invokevirtual 342, 3) := by decide +kernel
theorem dX10_lacksOf_12 : decode cX10_lacksOf 12 = .ok (.iconst (-1), 1) := by decide +kernel
theorem dX10_lacksOf_13 : decode cX10_lacksOf 13 = .ok (.ixor, 1) := by decide +kernel
theorem dX10_lacksOf_14 : decode cX10_lacksOf 14 = .ok (.iand, 1) := by decide +kernel
theorem dX10_lacksOf_15 : decode cX10_lacksOf 15 = .ok (.aload_n 0, 1) := by decide +kernel
theorem dX10_lacksOf_16 : decode cX10_lacksOf 16 = .ok (.iload_n 1, 1) := by decide +kernel
theorem dX10_lacksOf_17 : decode cX10_lacksOf 17 = .ok (.iconst 3, 1) := by decide +kernel
theorem dX10_lacksOf_18 : decode cX10_lacksOf 18 = .ok (.invokevirtual 342, 3) := by decide +kernel
theorem dX10_lacksOf_21 : decode cX10_lacksOf 21 = .ok (.iconst (-1), 1) := by decide +kernel
theorem dX10_lacksOf_22 : decode cX10_lacksOf 22 = .ok (.ixor, 1) := by decide +kernel
theorem dX10_lacksOf_23 : decode cX10_lacksOf 23 = .ok (.iand, 1) := by decide +kernel
theorem dX10_lacksOf_24 : decode cX10_lacksOf 24 = .ok (.ireturn, 1) := by decide +kernel
theorem dX10_lacks_0 : decode cX10_lacks 0 = .ok (.aload_n 0, 1) := by decide +kernel
theorem dX10_lacks_1 : decode cX10_lacks 1 = .ok (.iload_n 1, 1) := by decide +kernel
theorem dX10_lacks_2 : decode cX10_lacks 2 = .ok (.invokevirtual 258, 3) := by decide +kernel
theorem dX10_lacks_5 : decode cX10_lacks 5 = .ok (.ifCond .ne 5, 3) := by decide +kernel
theorem dX10_lacks_8 : decode cX10_lacks 8 = .ok (.iconst (-1), 1) := by decide +kernel
theorem dX10_lacks_9 : decode cX10_lacks 9 = .ok (.ireturn, 1) := by decide +kernel
theorem dX10_lacks_10 : decode cX10_lacks 10 = .ok (.aload_n 0, 1) := by decide +kernel
theorem dX10_lacks_11 : decode cX10_lacks 11 = .ok (.invokevirtual 279, 3) := by decide +kernel
theorem dX10_lacks_14 : decode cX10_lacks 14 = .ok (.aload_n 0, 1) := by decide +kernel
theorem dX10_lacks_15 : decode cX10_lacks 15 = .ok (.getfield 38, 3) := by decide +kernel
theorem dX10_lacks_18 : decode cX10_lacks 18 = .ok (.iload_n 1, 1) := by decide +kernel
theorem dX10_lacks_19 : decode cX10_lacks 19 = .ok (.iaload, 1) := by decide +kernel
theorem dX10_lacks_20 : decode cX10_lacks 20 = .ok (.ifCond .ne 7, 3) := by decide +kernel
theorem dX10_lacks_23 : decode cX10_lacks 23 = .ok (.iconst (-1), 1) := by decide +kernel
theorem dX10_lacks_24 : decode cX10_lacks 24 = .ok (.goto 8, 3) := by decide +kernel
theorem dX10_lacks_27 : decode cX10_lacks 27 = .ok (.aload_n 0, 1) := by decide +kernel
theorem dX10_lacks_28 : decode cX10_lacks 28 = .ok (.iload_n 1, 1) := by decide +kernel
theorem dX10_lacks_29 : decode cX10_lacks 29 = .ok (.invokevirtual 345, 3) := by decide +kernel
theorem dX10_lacks_32 : decode cX10_lacks 32 = .ok (.ireturn, 1) := by decide +kernel
theorem dX10_answers_0 : decode cX10_answers 0 = .ok (.aload_n 0, 1) := by decide +kernel
theorem dX10_answers_1 : decode cX10_answers 1 = .ok (.iload_n 1, 1) := by decide +kernel
theorem dX10_answers_2 : decode cX10_answers 2 = .ok (.invokevirtual 258, 3) := by decide +kernel
theorem dX10_answers_5 : decode cX10_answers 5 = .ok (.ifCond .ne 5, 3) := by decide +kernel
theorem dX10_answers_8 : decode cX10_answers 8 = .ok (.iconst (-1), 1) := by decide +kernel
theorem dX10_answers_9 : decode cX10_answers 9 = .ok (.ireturn, 1) := by decide +kernel
theorem dX10_answers_10 : decode cX10_answers 10 = .ok (.aload_n 0, 1) := by decide +kernel
theorem dX10_answers_11 : decode cX10_answers 11 = .ok (.invokevirtual 279, 3) := by decide +kernel
theorem dX10_answers_14 : decode cX10_answers 14 = .ok (.iconst 0, 1) := by decide +kernel
theorem dX10_answers_15 : decode cX10_answers 15 = .ok (.istore_n 2, 1) := by decide +kernel
theorem dX10_answers_16 : decode cX10_answers 16 = .ok (.iconst 0, 1) := by decide +kernel
theorem dX10_answers_17 : decode cX10_answers 17 = .ok (.istore_n 3, 1) := by decide +kernel
theorem dX10_answers_18 : decode cX10_answers 18 = .ok (.iload_n 3, 1) := by decide +kernel
theorem dX10_answers_19 : decode cX10_answers 19 = .ok (.bipush 26, 2) := by decide +kernel
theorem dX10_answers_21 : decode cX10_answers 21 = .ok (.if_icmp .ge 34, 3) := by decide +kernel
theorem dX10_answers_24 : decode cX10_answers 24 = .ok (.aload_n 0, 1) := by decide +kernel
theorem dX10_answers_25 : decode cX10_answers 25 = .ok (.iload_n 1, 1) := by decide +kernel
theorem dX10_answers_26 : decode cX10_answers 26 = .ok (.iload_n 3, 1) := by decide +kernel
theorem dX10_answers_27 : decode cX10_answers 27 = .ok (.invokevirtual 339, 3) := by decide +kernel
theorem dX10_answers_30 : decode cX10_answers 30 = .ok (.istore 4, 2) := by decide +kernel
theorem dX10_answers_32 : decode cX10_answers 32 = .ok (.iload_n 2, 1) := by decide +kernel
theorem dX10_answers_33 : decode cX10_answers 33 = .ok (.aload_n 0, 1) := by decide +kernel
theorem dX10_answers_34 : decode cX10_answers 34 = .ok (.getfield 306, 3) := by decide +kernel
theorem dX10_answers_37 : decode cX10_answers 37 = .ok (.ifCond .ne 9, 3) := by decide +kernel
theorem dX10_answers_40 : decode cX10_answers 40 = .ok (.iconst 1, 1) := by decide +kernel
theorem dX10_answers_41 : decode cX10_answers 41 = .ok (.iload_n 3, 1) := by decide +kernel
theorem dX10_answers_42 : decode cX10_answers 42 = .ok (.ishl, 1) := by decide +kernel
theorem dX10_answers_43 : decode cX10_answers 43 = .ok (.goto 4, 3) := by decide +kernel
theorem dX10_answers_46 : decode cX10_answers 46 = .ok (.iconst 0, 1) := by decide +kernel
theorem dX10_answers_47 : decode cX10_answers 47 = .ok (.ior, 1) := by decide +kernel
theorem dX10_answers_48 : decode cX10_answers 48 = .ok (.istore_n 2, 1) := by decide +kernel
theorem dX10_answers_49 : decode cX10_answers 49 = .ok (.iinc 3 1, 3) := by decide +kernel
theorem dX10_answers_52 : decode cX10_answers 52 = .ok (.goto (-34), 3) := by decide +kernel
theorem dX10_answers_55 : decode cX10_answers 55 = .ok (.iload_n 2, 1) := by decide +kernel
theorem dX10_answers_56 : decode cX10_answers 56 = .ok (.ireturn, 1) := by decide +kernel
theorem dX10_alike_0 : decode cX10_alike 0 = .ok (.aload_n 0, 1) := by decide +kernel
theorem dX10_alike_1 : decode cX10_alike 1 = .ok (.iload_n 1, 1) := by decide +kernel
theorem dX10_alike_2 : decode cX10_alike 2 = .ok (.invokevirtual 258, 3) := by decide +kernel
theorem dX10_alike_5 : decode cX10_alike 5 = .ok (.ifCond .eq 11, 3) := by decide +kernel
theorem dX10_alike_8 : decode cX10_alike 8 = .ok (.aload_n 0, 1) := by decide +kernel
theorem dX10_alike_9 : decode cX10_alike 9 = .ok (.iload_n 2, 1) := by decide +kernel
theorem dX10_alike_10 : decode cX10_alike 10 = .ok (.invokevirtual 258, 3) := by decide +kernel
theorem dX10_alike_13 : decode cX10_alike 13 = .ok (.ifCond .ne 5, 3) := by decide +kernel
theorem dX10_alike_16 : decode cX10_alike 16 = .ok (.iconst (-1), 1) := by decide +kernel
theorem dX10_alike_17 : decode cX10_alike 17 = .ok (.ireturn, 1) := by decide +kernel
theorem dX10_alike_18 : decode cX10_alike 18 = .ok (.aload_n 0, 1) := by decide +kernel
theorem dX10_alike_19 : decode cX10_alike 19 = .ok (.invokevirtual 279, 3) := by decide +kernel
theorem dX10_alike_22 : decode cX10_alike 22 = .ok (.iconst 0, 1) := by decide +kernel
theorem dX10_alike_23 : decode cX10_alike 23 = .ok (.istore_n 3, 1) := by decide +kernel
theorem dX10_alike_24 : decode cX10_alike 24 = .ok (.iload_n 3, 1) := by decide +kernel
theorem dX10_alike_25 : decode cX10_alike 25 = .ok (.bipush 26, 2) := by decide +kernel
theorem dX10_alike_27 : decode cX10_alike 27 = .ok (.if_icmp .ge 45, 3) := by decide +kernel
theorem dX10_alike_30 : decode cX10_alike 30 = .ok (.aload_n 0, 1) := by decide +kernel
theorem dX10_alike_31 : decode cX10_alike 31 = .ok (.iload_n 1, 1) := by decide +kernel
theorem dX10_alike_32 : decode cX10_alike 32 = .ok (.iload_n 3, 1) := by decide +kernel
theorem dX10_alike_33 : decode cX10_alike 33 = .ok (.invokevirtual 339, 3) := by decide +kernel
theorem dX10_alike_36 : decode cX10_alike 36 = .ok (.istore 4, 2) := by decide +kernel
theorem dX10_alike_38 : decode cX10_alike 38 = .ok (.aload_n 0, 1) := by decide +kernel
theorem dX10_alike_39 : decode cX10_alike 39 = .ok (.getfield 306, 3) := by decide +kernel
theorem dX10_alike_42 : decode cX10_alike 42 = .ok (.istore 5, 2) := by decide +kernel
theorem dX10_alike_44 : decode cX10_alike 44 = .ok (.aload_n 0, 1) := by decide +kernel
theorem dX10_alike_45 : decode cX10_alike 45 = .ok (.iload_n 2, 1) := by decide +kernel
theorem dX10_alike_46 : decode cX10_alike 46 = .ok (.iload_n 3, 1) := by decide +kernel
theorem dX10_alike_47 : decode cX10_alike 47 = .ok (.invokevirtual 339, 3) := by decide +kernel
theorem dX10_alike_50 : decode cX10_alike 50 = .ok (.iload 4, 2) := by decide +kernel
theorem dX10_alike_52 : decode cX10_alike 52 = .ok (.if_icmp .ne 12, 3) := by decide +kernel
theorem dX10_alike_55 : decode cX10_alike 55 = .ok (.aload_n 0, 1) := by decide +kernel
theorem dX10_alike_56 : decode cX10_alike 56 = .ok (.getfield 306, 3) := by decide +kernel
theorem dX10_alike_59 : decode cX10_alike 59 = .ok (.iload 5, 2) := by decide +kernel
theorem dX10_alike_61 : decode cX10_alike 61 = .ok (.if_icmp .eq 5, 3) := by decide +kernel
theorem dX10_alike_64 : decode cX10_alike 64 = .ok (.iconst 0, 1) := by decide +kernel
theorem dX10_alike_65 : decode cX10_alike 65 = .ok (.ireturn, 1) := by decide +kernel
theorem dX10_alike_66 : decode cX10_alike 66 = .ok (.iinc 3 1, 3) := by decide +kernel
theorem dX10_alike_69 : decode cX10_alike 69 = .ok (.goto (-45), 3) := by decide +kernel
theorem dX10_alike_72 : decode cX10_alike 72 = .ok (.iconst 1, 1) := by decide +kernel
theorem dX10_alike_73 : decode cX10_alike 73 = .ok (.ireturn, 1) := by decide +kernel
theorem dX10_origins_0 : decode cX10_origins 0 = .ok (.aload_n 0, 1) := by decide +kernel
theorem dX10_origins_1 : decode cX10_origins 1 = .ok (.iload_n 1, 1) := by decide +kernel
theorem dX10_origins_2 : decode cX10_origins 2 = .ok (.invokevirtual 258, 3) := by decide +kernel
theorem dX10_origins_5 : decode cX10_origins 5 = .ok (.ifCond .eq 13, 3) := by decide +kernel
theorem dX10_origins_8 : decode cX10_origins 8 = .ok (.iload_n 2, 1) := by decide +kernel
theorem dX10_origins_9 : decode cX10_origins 9 = .ok (.iconst 0, 1) := by decide +kernel
theorem dX10_origins_10 : decode cX10_origins 10 = .ok (.bipush 25, 2) := by decide +kernel
theorem dX10_origins_12 : decode cX10_origins 12 = .ok (.invokestatic 88, 3) := by decide +kernel
theorem dX10_origins_15 : decode cX10_origins 15 = .ok (.ifCond .ne 5, 3) := by decide +kernel
theorem dX10_origins_18 : decode cX10_origins 18 = .ok (.iconst (-1), 1) := by decide +kernel
theorem dX10_origins_19 : decode cX10_origins 19 = .ok (.ireturn, 1) := by decide +kernel
theorem dX10_origins_20 : decode cX10_origins 20 = .ok (.aload_n 0, 1) := by decide +kernel
theorem dX10_origins_21 : decode cX10_origins 21 = .ok (.invokevirtual 279, 3) := by decide +kernel
theorem dX10_origins_24 : decode cX10_origins 24 = .ok (.aload_n 0, 1) := by decide +kernel
theorem dX10_origins_25 : decode cX10_origins 25 = .ok (.iload_n 1, 1) := by decide +kernel
theorem dX10_origins_26 : decode cX10_origins 26 = .ok (.iload_n 2, 1) := by decide +kernel
theorem dX10_origins_27 : decode cX10_origins 27 = .ok (.invokevirtual 339, 3) := by decide +kernel
theorem dX10_origins_30 : decode cX10_origins 30 = .ok (.istore_n 3, 1) := by decide +kernel
theorem dX10_origins_31 : decode cX10_origins 31 = .ok (.aload_n 0, 1) := by decide +kernel
theorem dX10_origins_32 : decode cX10_origins 32 = .ok (.getfield 333, 3) := by decide +kernel
theorem dX10_origins_35 : decode cX10_origins 35 = .ok (.ireturn, 1) := by decide +kernel
theorem dX10_mean_0 : decode cX10_mean 0 = .ok (.aload_n 0, 1) := by decide +kernel
theorem dX10_mean_1 : decode cX10_mean 1 = .ok (.iload_n 1, 1) := by decide +kernel
theorem dX10_mean_2 : decode cX10_mean 2 = .ok (.invokevirtual 258, 3) := by decide +kernel
theorem dX10_mean_5 : decode cX10_mean 5 = .ok (.ifCond .ne 10, 3) := by decide +kernel
theorem dX10_mean_8 : decode cX10_mean 8 = .ok (.ldc2_w 350, 3) := by decide +kernel
theorem dX10_mean_11 : decode cX10_mean 11 = .ok (.invokestatic 352, 3) := by decide +kernel
theorem dX10_mean_14 : decode cX10_mean 14 = .ok (.lreturn, 1) := by decide +kernel
theorem dX10_mean_15 : decode cX10_mean 15 = .ok (.aload_n 0, 1) := by decide +kernel
theorem dX10_mean_16 : decode cX10_mean 16 = .ok (.invokevirtual 279, 3) := by decide +kernel
theorem dX10_mean_19 : decode cX10_mean 19 = .ok (.iconst 0, 1) := by decide +kernel
theorem dX10_mean_20 : decode cX10_mean 20 = .ok (.istore_n 2, 1) := by decide +kernel
theorem dX10_mean_21 : decode cX10_mean 21 = .ok (.iconst 0, 1) := by decide +kernel
theorem dX10_mean_22 : decode cX10_mean 22 = .ok (.istore_n 3, 1) := by decide +kernel
theorem dX10_mean_23 : decode cX10_mean 23 = .ok (.iconst 0, 1) := by decide +kernel
theorem dX10_mean_24 : decode cX10_mean 24 = .ok (.istore 4, 2) := by decide +kernel
theorem dX10_mean_26 : decode cX10_mean 26 = .ok (.iload 4, 2) := by decide +kernel
theorem dX10_mean_28 : decode cX10_mean 28 = .ok (.bipush 26, 2) := by decide +kernel
theorem dX10_mean_30 : decode cX10_mean 30 = .ok (.if_icmp .ge 54, 3) := by decide +kernel
theorem dX10_mean_33 : decode cX10_mean 33 = .ok (.aload_n 0, 1) := by decide +kernel
theorem dX10_mean_34 : decode cX10_mean 34 = .ok (.iload_n 1, 1) := by decide +kernel
theorem dX10_mean_35 : decode cX10_mean 35 = .ok (.iload 4, 2) := by decide +kernel
theorem dX10_mean_37 : decode cX10_mean 37 = .ok (.invokevirtual 339, 3) := by decide +kernel
theorem dX10_mean_40 : decode cX10_mean 40 = .ok (.istore 5, 2) := by decide +kernel
theorem dX10_mean_42 : decode cX10_mean 42 = .ok (.iload_n 2, 1) := by decide +kernel
theorem dX10_mean_43 : decode cX10_mean 43 = .ok (.aload_n 0, 1) := by decide +kernel
theorem dX10_mean_44 : decode cX10_mean 44 = .ok (.getfield 306, 3) := by decide +kernel
theorem dX10_mean_47 : decode cX10_mean 47 = .ok (.ifCond .ne 10, 3) := by decide +kernel
theorem dX10_mean_50 : decode cX10_mean 50 = .ok (.aload_n 0, 1) := by decide +kernel
theorem dX10_mean_51 : decode cX10_mean 51 = .ok (.getfield 312, 3) := by decide +kernel
theorem dX10_mean_54 : decode cX10_mean 54 = .ok (.goto 4, 3) := by decide +kernel
theorem dX10_mean_57 : decode cX10_mean 57 = .ok (.iconst 0, 1) := by decide +kernel
theorem dX10_mean_58 : decode cX10_mean 58 = .ok (.iadd, 1) := by decide +kernel
theorem dX10_mean_59 : decode cX10_mean 59 = .ok (.istore_n 2, 1) := by decide +kernel
theorem dX10_mean_60 : decode cX10_mean 60 = .ok (.iload_n 3, 1) := by decide +kernel
theorem dX10_mean_61 : decode cX10_mean 61 = .ok (.aload_n 0, 1) := by decide +kernel
theorem dX10_mean_62 : decode cX10_mean 62 = .ok (.getfield 306, 3) := by decide +kernel
theorem dX10_mean_65 : decode cX10_mean 65 = .ok (.ifCond .ne 7, 3) := by decide +kernel
theorem dX10_mean_68 : decode cX10_mean 68 = .ok (.iconst 1, 1) := by decide +kernel
theorem dX10_mean_69 : decode cX10_mean 69 = .ok (.goto 4, 3) := by decide +kernel
theorem dX10_mean_72 : decode cX10_mean 72 = .ok (.iconst 0, 1) := by decide +kernel
theorem dX10_mean_73 : decode cX10_mean 73 = .ok (.invokestatic 104, 3) := by decide +kernel
theorem dX10_mean_76 : decode cX10_mean 76 = .ok (.iadd, 1) := by decide +kernel
theorem dX10_mean_77 : decode cX10_mean 77 = .ok (.istore_n 3, 1) := by decide +kernel
theorem dX10_mean_78 : decode cX10_mean 78 = .ok (.iinc 4 1, 3) := by decide +kernel
theorem dX10_mean_81 : decode cX10_mean 81 = .ok (.goto (-55), 3) := by decide +kernel
theorem dX10_mean_84 : decode cX10_mean 84 = .ok (.iload_n 3, 1) := by decide +kernel
theorem dX10_mean_85 : decode cX10_mean 85 = .ok (.ifCond .ne 9, 3) := by decide +kernel
theorem dX10_mean_88 : decode cX10_mean 88 = .ok (.ldc2_w 350, 3) := by decide +kernel
theorem dX10_mean_91 : decode cX10_mean 91 = .ok (.goto 8, 3) := by decide +kernel
theorem dX10_mean_94 : decode cX10_mean 94 = .ok (.iload_n 2, 1) := by decide +kernel
theorem dX10_mean_95 : decode cX10_mean 95 = .ok (.i2d, 1) := by decide +kernel
theorem dX10_mean_96 : decode cX10_mean 96 = .ok (.iload_n 3, 1) := by decide +kernel
theorem dX10_mean_97 : decode cX10_mean 97 = .ok (.i2d, 1) := by decide +kernel
theorem dX10_mean_98 : decode cX10_mean 98 = .ok (.ddiv, 1) := by decide +kernel
theorem dX10_mean_99 : decode cX10_mean 99 = .ok (.invokestatic 352, 3) := by decide +kernel
theorem dX10_mean_102 : decode cX10_mean 102 = .ok (.lreturn, 1) := by decide +kernel
theorem dX10_find_0 : decode cX10_find 0 = .ok (.iconst 0, 1) := by decide +kernel
theorem dX10_find_1 : decode cX10_find 1 = .ok (.istore_n 2, 1) := by decide +kernel
theorem dX10_find_2 : decode cX10_find 2 = .ok (.iload_n 2, 1) := by decide +kernel
theorem dX10_find_3 : decode cX10_find 3 = .ok (.aload_n 0, 1) := by decide +kernel
theorem dX10_find_4 : decode cX10_find 4 = .ok (.getfield 11, 3) := by decide +kernel
theorem dX10_find_7 : decode cX10_find 7 = .ok (.sipush 1356, 3) := by decide +kernel
theorem dX10_find_10 : decode cX10_find 10 = .ok (.iaload, 1) := by decide +kernel
theorem dX10_find_11 : decode cX10_find 11 = .ok (.if_icmp .ge 26, 3) := by decide +kernel
theorem dX10_find_14 : decode cX10_find 14 = .ok (.aload_n 0, 1) := by decide +kernel
theorem dX10_find_15 : decode cX10_find 15 = .ok (.getfield 11, 3) := by decide +kernel
theorem dX10_find_18 : decode cX10_find 18 = .ok (.bipush 113, 2) := by decide +kernel
theorem dX10_find_20 : decode cX10_find 20 = .ok (.iload_n 2, 1) := by decide +kernel
theorem dX10_find_21 : decode cX10_find 21 = .ok (.imul, 1) := by decide +kernel
theorem dX10_find_22 : decode cX10_find 22 = .ok (.iconst 1, 1) := by decide +kernel
theorem dX10_find_23 : decode cX10_find 23 = .ok (.iadd, 1) := by decide +kernel
theorem dX10_find_24 : decode cX10_find 24 = .ok (.iaload, 1) := by decide +kernel
theorem dX10_find_25 : decode cX10_find 25 = .ok (.iload_n 1, 1) := by decide +kernel
theorem dX10_find_26 : decode cX10_find 26 = .ok (.if_icmp .ne 5, 3) := by decide +kernel
theorem dX10_find_29 : decode cX10_find 29 = .ok (.iload_n 2, 1) := by decide +kernel
theorem dX10_find_30 : decode cX10_find 30 = .ok (.ireturn, 1) := by decide +kernel
theorem dX10_find_31 : decode cX10_find 31 = .ok (.iinc 2 1, 3) := by decide +kernel
theorem dX10_find_34 : decode cX10_find 34 = .ok (.goto (-32), 3) := by decide +kernel
theorem dX10_find_37 : decode cX10_find 37 = .ok (.iconst (-1), 1) := by decide +kernel
theorem dX10_find_38 : decode cX10_find 38 = .ok (.ireturn, 1) := by decide +kernel
theorem dX10_typesSo_0 : decode cX10_typesSo 0 = .ok (.aload_n 0, 1) := by decide +kernel
theorem dX10_typesSo_1 : decode cX10_typesSo 1 = .ok (.invokevirtual 279, 3) := by decide +kernel
theorem dX10_typesSo_4 : decode cX10_typesSo 4 = .ok (.iconst 0, 1) := by decide +kernel
theorem dX10_typesSo_5 : decode cX10_typesSo 5 = .ok (.istore_n 2, 1) := by decide +kernel
theorem dX10_typesSo_6 : decode cX10_typesSo 6 = .ok (.iconst 0, 1) := by decide +kernel
theorem dX10_typesSo_7 : decode cX10_typesSo 7 = .ok (.istore_n 3, 1) := by decide +kernel
theorem dX10_typesSo_8 : decode cX10_typesSo 8 = .ok (.iload_n 3, 1) := by decide +kernel
theorem dX10_typesSo_9 : decode cX10_typesSo 9 = .ok (.aload_n 0, 1) := by decide +kernel
theorem dX10_typesSo_10 : decode cX10_typesSo 10 = .ok (.getfield 11, 3) := by decide +kernel
theorem dX10_typesSo_13 : decode cX10_typesSo 13 = .ok (.sipush 1356, 3) := by decide +kernel
theorem dX10_typesSo_16 : decode cX10_typesSo 16 = .ok (.iaload, 1) := by decide +kernel
theorem dX10_typesSo_17 : decode cX10_typesSo 17 = .ok (.if_icmp .ge 87, 3) := by decide +kernel
theorem dX10_typesSo_20 : decode cX10_typesSo 20 = .ok (.iload_n 1, 1) := by decide +kernel
theorem dX10_typesSo_21 : decode cX10_typesSo 21 = .ok (.iconst 3, 1) := by decide +kernel
theorem dX10_typesSo_22 : decode cX10_typesSo 22 = .ok (.if_icmp .ne 20, 3) := by decide +kernel
theorem dX10_typesSo_25 : decode cX10_typesSo 25 = .ok (.aload_n 0, 1) := by decide +kernel
theorem dX10_typesSo_26 : decode cX10_typesSo 26 = .ok (.getfield 38, 3) := by decide +kernel
theorem dX10_typesSo_29 : decode cX10_typesSo 29 = .ok (.iload_n 3, 1) := by decide +kernel
theorem dX10_typesSo_30 : decode cX10_typesSo 30 = .ok (.iaload, 1) := by decide +kernel
theorem dX10_typesSo_31 : decode cX10_typesSo 31 = .ok (.ifCond .ne 7, 3) := by decide +kernel
theorem dX10_typesSo_34 : decode cX10_typesSo 34 = .ok (.iconst 1, 1) := by decide +kernel
theorem dX10_typesSo_35 : decode cX10_typesSo 35 = .ok (.goto 38, 3) := by decide +kernel
theorem dX10_typesSo_38 : decode cX10_typesSo 38 = .ok (.iconst 0, 1) := by decide +kernel
theorem dX10_typesSo_39 : decode cX10_typesSo 39 = .ok (.goto 34, 3) := by decide +kernel
theorem dX10_typesSo_42 : decode cX10_typesSo 42 = .ok (.aload_n 0, 1) := by decide +kernel
theorem dX10_typesSo_43 : decode cX10_typesSo 43 = .ok (.getfield 38, 3) := by decide +kernel
theorem dX10_typesSo_46 : decode cX10_typesSo 46 = .ok (.iload_n 3, 1) := by decide +kernel
theorem dX10_typesSo_47 : decode cX10_typesSo 47 = .ok (.iaload, 1) := by decide +kernel
theorem dX10_typesSo_48 : decode cX10_typesSo 48 = .ok (.ifCond .le 24, 3) := by decide +kernel
theorem dX10_typesSo_51 : decode cX10_typesSo 51 = .ok (.aload_n 0, 1) := by decide +kernel
theorem dX10_typesSo_52 : decode cX10_typesSo 52 = .ok (.iload_n 3, 1) := by decide +kernel
theorem dX10_typesSo_53 : decode cX10_typesSo 53 = .ok (.invokevirtual 345, 3) := by decide +kernel
theorem dX10_typesSo_56 : decode cX10_typesSo 56 = .ok (.ifCond .ne 16, 3) := by decide +kernel
theorem dX10_typesSo_59 : decode cX10_typesSo 59 = .ok (.aload_n 0, 1) := by decide +kernel
theorem dX10_typesSo_60 : decode cX10_typesSo 60 = .ok (.iload_n 3, 1) := by decide +kernel
theorem dX10_typesSo_61 : decode cX10_typesSo 61 = .ok (.iconst 3, 1) := by decide +kernel
theorem dX10_typesSo_62 : decode cX10_typesSo 62 = .ok (.invokevirtual 342, 3) := by decide +kernel
theorem dX10_typesSo_65 : decode cX10_typesSo 65 = .ok (.ifCond .ne 7, 3) := by decide +kernel
theorem dX10_typesSo_68 : decode cX10_typesSo 68 = .ok (.iconst 1, 1) := by decide +kernel
theorem dX10_typesSo_69 : decode cX10_typesSo 69 = .ok (.goto 4, 3) := by decide +kernel
theorem dX10_typesSo_72 : decode cX10_typesSo 72 = .ok (.iconst 0, 1) := by decide +kernel
theorem dX10_typesSo_73 : decode cX10_typesSo 73 = .ok (.istore 4, 2) := by decide +kernel
theorem dX10_typesSo_75 : decode cX10_typesSo 75 = .ok (.iload_n 2, 1) := by decide +kernel
theorem dX10_typesSo_76 : decode cX10_typesSo 76 = .ok (.aload_n 0, 1) := by decide +kernel
theorem dX10_typesSo_77 : decode cX10_typesSo 77 = .ok (.iload_n 3, 1) := by decide +kernel
theorem dX10_typesSo_78 : decode cX10_typesSo 78 = .ok (.invokevirtual 204, 3) := by decide +kernel
theorem dX10_typesSo_81 : decode cX10_typesSo 81 = .ok (.ifCond .ne 14, 3) := by decide +kernel
theorem dX10_typesSo_84 : decode cX10_typesSo 84 = .ok (.iload 4, 2) := by decide +kernel
theorem dX10_typesSo_86 : decode cX10_typesSo 86 = .ok (.ifCond .eq 9, 3) := by decide +kernel
theorem dX10_typesSo_89 : decode cX10_typesSo 89 = .ok (.iconst 1, 1) := by decide +kernel
theorem dX10_typesSo_90 : decode cX10_typesSo 90 = .ok (.iload_n 3, 1) := by decide +kernel
theorem dX10_typesSo_91 : decode cX10_typesSo 91 = .ok (.ishl, 1) := by decide +kernel
theorem dX10_typesSo_92 : decode cX10_typesSo 92 = .ok (.goto 4, 3) := by decide +kernel
theorem dX10_typesSo_95 : decode cX10_typesSo 95 = .ok (.iconst 0, 1) := by decide +kernel
theorem dX10_typesSo_96 : decode cX10_typesSo 96 = .ok (.ior, 1) := by decide +kernel
theorem dX10_typesSo_97 : decode cX10_typesSo 97 = .ok (.istore_n 2, 1) := by decide +kernel
theorem dX10_typesSo_98 : decode cX10_typesSo 98 = .ok (.iinc 3 1, 3) := by decide +kernel
theorem dX10_typesSo_101 : decode cX10_typesSo 101 = .ok (.goto (-93), 3) := by decide +kernel
theorem dX10_typesSo_104 : decode cX10_typesSo 104 = .ok (.iload_n 2, 1) := by decide +kernel
theorem dX10_typesSo_105 : decode cX10_typesSo 105 = .ok (.ireturn, 1) := by decide +kernel
theorem dX10_most_0 : decode cX10_most 0 = .ok (.aload_n 0, 1) := by decide +kernel
theorem dX10_most_1 : decode cX10_most 1 = .ok (.invokevirtual 279, 3) := by decide +kernel
theorem dX10_most_4 : decode cX10_most 4 = .ok (.iconst 0, 1) := by decide +kernel
theorem dX10_most_5 : decode cX10_most 5 = .ok (.istore_n 2, 1) := by decide +kernel
theorem dX10_most_6 : decode cX10_most 6 = .ok (.iconst 0, 1) := by decide +kernel
theorem dX10_most_7 : decode cX10_most 7 = .ok (.istore_n 3, 1) := by decide +kernel
theorem dX10_most_8 : decode cX10_most 8 = .ok (.iload_n 3, 1) := by decide +kernel
theorem dX10_most_9 : decode cX10_most 9 = .ok (.aload_n 0, 1) := by decide +kernel
theorem dX10_most_10 : decode cX10_most 10 = .ok (.getfield 11, 3) := by decide +kernel
theorem dX10_most_13 : decode cX10_most 13 = .ok (.sipush 1356, 3) := by decide +kernel
theorem dX10_most_16 : decode cX10_most 16 = .ok (.iaload, 1) := by decide +kernel
theorem dX10_most_17 : decode cX10_most 17 = .ok (.if_icmp .ge 38, 3) := by decide +kernel
theorem dX10_most_20 : decode cX10_most 20 = .ok (.iload_n 1, 1) := by decide +kernel
theorem dX10_most_21 : decode cX10_most 21 = .ok (.ifCond .eq 17, 3) := by decide +kernel
theorem dX10_most_24 : decode cX10_most 24 = .ok (.iload_n 2, 1) := by decide +kernel
theorem dX10_most_25 : decode cX10_most 25 = .ok (.aload_n 0, 1) := by decide +kernel
theorem dX10_most_26 : decode cX10_most 26 = .ok (.iload_n 3, 1) := by decide +kernel
theorem dX10_most_27 : decode cX10_most 27 = .ok (.iconst 3, 1) := by decide +kernel
theorem dX10_most_28 : decode cX10_most 28 = .ok (.invokevirtual 285, 3) := by decide +kernel
theorem dX10_most_31 : decode cX10_most 31 = .ok (.invokestatic 300, 3) := by decide +kernel
theorem dX10_most_34 : decode cX10_most 34 = .ok (.iadd, 1) := by decide +kernel
theorem dX10_most_35 : decode cX10_most 35 = .ok (.goto 13, 3) := by decide +kernel
theorem dX10_most_38 : decode cX10_most 38 = .ok (.iload_n 2, 1) := by decide +kernel
theorem dX10_most_39 : decode cX10_most 39 = .ok (.aload_n 0, 1) := by decide +kernel
theorem dX10_most_40 : decode cX10_most 40 = .ok (.getfield 38, 3) := by decide +kernel
theorem dX10_most_43 : decode cX10_most 43 = .ok (.iload_n 3, 1) := by decide +kernel
theorem dX10_most_44 : decode cX10_most 44 = .ok (.iaload, 1) := by decide +kernel
theorem dX10_most_45 : decode cX10_most 45 = .ok (.invokestatic 321, 3) := by decide +kernel
theorem dX10_most_48 : decode cX10_most 48 = .ok (.istore_n 2, 1) := by decide +kernel
theorem dX10_most_49 : decode cX10_most 49 = .ok (.iinc 3 1, 3) := by decide +kernel
theorem dX10_most_52 : decode cX10_most 52 = .ok (.goto (-44), 3) := by decide +kernel
theorem dX10_most_55 : decode cX10_most 55 = .ok (.iload_n 2, 1) := by decide +kernel
theorem dX10_most_56 : decode cX10_most 56 = .ok (.ireturn, 1) := by decide +kernel
theorem dX10_lowest_0 : decode cX10_lowest 0 = .ok (.iconst 0, 1) := by decide +kernel
theorem dX10_lowest_1 : decode cX10_lowest 1 = .ok (.istore_n 1, 1) := by decide +kernel
theorem dX10_lowest_2 : decode cX10_lowest 2 = .ok (.iconst 0, 1) := by decide +kernel
theorem dX10_lowest_3 : decode cX10_lowest 3 = .ok (.istore_n 2, 1) := by decide +kernel
theorem dX10_lowest_4 : decode cX10_lowest 4 = .ok (.iconst 0, 1) := by decide +kernel
theorem dX10_lowest_5 : decode cX10_lowest 5 = .ok (.istore_n 3, 1) := by decide +kernel
theorem dX10_lowest_6 : decode cX10_lowest 6 = .ok (.iload_n 3, 1) := by decide +kernel
theorem dX10_lowest_7 : decode cX10_lowest 7 = .ok (.aload_n 0, 1) := by decide +kernel
theorem dX10_lowest_8 : decode cX10_lowest 8 = .ok (.getfield 11, 3) := by decide +kernel
theorem dX10_lowest_11 : decode cX10_lowest 11 = .ok (.sipush 1356, 3) := by decide +kernel
theorem dX10_lowest_14 : decode cX10_lowest 14 = .ok (.iaload, 1) := by decide +kernel
theorem dX10_lowest_15 : decode cX10_lowest 15 = .ok (.if_icmp .ge 58, 3) := by decide +kernel
theorem dX10_lowest_18 : decode cX10_lowest 18 = .ok (.iload_n 2, 1) := by decide +kernel
theorem dX10_lowest_19 : decode cX10_lowest 19 = .ok (.aload_n 0, 1) := by decide +kernel
theorem dX10_lowest_20 : decode cX10_lowest 20 = .ok (.iload_n 3, 1) := by decide +kernel
theorem dX10_lowest_21 : decode cX10_lowest 21 = .ok (.invokevirtual 204, 3) := by decide +kernel
theorem dX10_lowest_24 : decode cX10_lowest 24 = .ok (.ifCond .eq 7, 3) := by decide +kernel
theorem dX10_lowest_27 : decode cX10_lowest 27 = .ok (.iconst 0, 1) := by decide +kernel
theorem dX10_lowest_28 : decode cX10_lowest 28 = .ok (.goto 6, 3) := by decide +kernel
theorem dX10_lowest_31 : decode cX10_lowest 31 = .ok (.iconst 1, 1) := by decide +kernel
theorem dX10_lowest_32 : decode cX10_lowest 32 = .ok (.iload_n 3, 1) := by decide +kernel
theorem dX10_lowest_33 : decode cX10_lowest 33 = .ok (.ishl, 1) := by decide +kernel
theorem dX10_lowest_34 : decode cX10_lowest 34 = .ok (.ior, 1) := by decide +kernel
theorem dX10_lowest_35 : decode cX10_lowest 35 = .ok (.istore_n 2, 1) := by decide +kernel
theorem dX10_lowest_36 : decode cX10_lowest 36 = .ok (.iconst 0, 1) := by decide +kernel
theorem dX10_lowest_37 : decode cX10_lowest 37 = .ok (.istore 4, 2) := by decide +kernel
theorem dX10_lowest_39 : decode cX10_lowest 39 = .ok (.iload 4, 2) := by decide +kernel
theorem dX10_lowest_41 : decode cX10_lowest 41 = .ok (.aload_n 0, 1) := by decide +kernel
theorem dX10_lowest_42 : decode cX10_lowest 42 = .ok (.iload_n 3, 1) := by decide +kernel
theorem dX10_lowest_43 : decode cX10_lowest 43 = .ok (.invokevirtual 237, 3) := by decide +kernel
theorem dX10_lowest_46 : decode cX10_lowest 46 = .ok (.if_icmp .ge 21, 3) := by decide +kernel
theorem dX10_lowest_49 : decode cX10_lowest 49 = .ok (.iload_n 1, 1) := by decide +kernel
theorem dX10_lowest_50 : decode cX10_lowest 50 = .ok (.iconst 1, 1) := by decide +kernel
theorem dX10_lowest_51 : decode cX10_lowest 51 = .ok (.aload_n 0, 1) := by decide +kernel
theorem dX10_lowest_52 : decode cX10_lowest 52 = .ok (.iload_n 3, 1) := by decide +kernel
theorem dX10_lowest_53 : decode cX10_lowest 53 = .ok (.iload 4, 2) := by decide +kernel
theorem dX10_lowest_55 : decode cX10_lowest 55 = .ok (.invokevirtual 240, 3) := by decide +kernel
theorem dX10_lowest_58 : decode cX10_lowest 58 = .ok (.ishl, 1) := by decide +kernel
theorem dX10_lowest_59 : decode cX10_lowest 59 = .ok (.ior, 1) := by decide +kernel
theorem dX10_lowest_60 : decode cX10_lowest 60 = .ok (.istore_n 1, 1) := by decide +kernel
theorem dX10_lowest_61 : decode cX10_lowest 61 = .ok (.iinc 4 1, 3) := by decide +kernel
theorem dX10_lowest_64 : decode cX10_lowest 64 = .ok (.goto (-25), 3) := by decide +kernel
theorem dX10_lowest_67 : decode cX10_lowest 67 = .ok (.iinc 3 1, 3) := by decide +kernel
theorem dX10_lowest_70 : decode cX10_lowest 70 = .ok (.goto (-64), 3) := by decide +kernel
theorem dX10_lowest_73 : decode cX10_lowest 73 = .ok (.iload_n 2, 1) := by decide +kernel
theorem dX10_lowest_74 : decode cX10_lowest 74 = .ok (.iload_n 1, 1) := by decide +kernel
theorem dX10_lowest_75 : decode cX10_lowest 75 = .ok (.iconst (-1), 1) := by decide +kernel
theorem dX10_lowest_76 : decode cX10_lowest 76 = .ok (.ixor, 1) := by decide +kernel
theorem dX10_lowest_77 : decode cX10_lowest 77 = .ok (.iand, 1) := by decide +kernel
theorem dX10_lowest_78 : decode cX10_lowest 78 = .ok (.ireturn, 1) := by decide +kernel
theorem dX10_traits_0 : decode cX10_traits 0 = .ok (.iconst 0, 1) := by decide +kernel
theorem dX10_traits_1 : decode cX10_traits 1 = .ok (.istore_n 1, 1) := by decide +kernel
theorem dX10_traits_2 : decode cX10_traits 2 = .ok (.iconst 0, 1) := by decide +kernel
theorem dX10_traits_3 : decode cX10_traits 3 = .ok (.istore_n 2, 1) := by decide +kernel
theorem dX10_traits_4 : decode cX10_traits 4 = .ok (.iload_n 2, 1) := by decide +kernel
theorem dX10_traits_5 : decode cX10_traits 5 = .ok (.aload_n 0, 1) := by decide +kernel
theorem dX10_traits_6 : decode cX10_traits 6 = .ok (.getfield 11, 3) := by decide +kernel
theorem dX10_traits_9 : decode cX10_traits 9 = .ok (.sipush 1356, 3) := by decide +kernel
theorem dX10_traits_12 : decode cX10_traits 12 = .ok (.iaload, 1) := by decide +kernel
theorem dX10_traits_13 : decode cX10_traits 13 = .ok (.if_icmp .ge 20, 3) := by decide +kernel
theorem dX10_traits_16 : decode cX10_traits 16 = .ok (.iload_n 1, 1) := by decide +kernel
theorem dX10_traits_17 : decode cX10_traits 17 = .ok (.aload_n 0, 1) := by decide +kernel
theorem dX10_traits_18 : decode cX10_traits 18 = .ok (.iload_n 2, 1) := by decide +kernel
theorem dX10_traits_19 : decode cX10_traits 19 = .ok (.invokevirtual 204, 3) := by decide +kernel
theorem dX10_traits_22 : decode cX10_traits 22 = .ok (.invokestatic 104, 3) := by decide +kernel
theorem dX10_traits_25 : decode cX10_traits 25 = .ok (.iadd, 1) := by decide +kernel
theorem dX10_traits_26 : decode cX10_traits 26 = .ok (.istore_n 1, 1) := by decide +kernel
theorem dX10_traits_27 : decode cX10_traits 27 = .ok (.iinc 2 1, 3) := by decide +kernel
theorem dX10_traits_30 : decode cX10_traits 30 = .ok (.goto (-26), 3) := by decide +kernel
theorem dX10_traits_33 : decode cX10_traits 33 = .ok (.iload_n 1, 1) := by decide +kernel
theorem dX10_traits_34 : decode cX10_traits 34 = .ok (.ireturn, 1) := by decide +kernel
theorem dX10_count_0 : decode cX10_count 0 = .ok (.iload_n 1, 1) := by decide +kernel
theorem dX10_count_1 : decode cX10_count 1 = .ok (.tableswitch 142 0 10 #[59, 68, 82, 87, 87, 93, 99, 105, 110, 115, 137], 59) := by decide +kernel
theorem dX10_count_60 : decode cX10_count 60 = .ok (.aload_n 0, 1) := by decide +kernel
theorem dX10_count_61 : decode cX10_count 61 = .ok (.getfield 11, 3) := by decide +kernel
theorem dX10_count_64 : decode cX10_count 64 = .ok (.sipush 1356, 3) := by decide +kernel
theorem dX10_count_67 : decode cX10_count 67 = .ok (.iaload, 1) := by decide +kernel
theorem dX10_count_68 : decode cX10_count 68 = .ok (.ireturn, 1) := by decide +kernel
theorem dX10_count_69 : decode cX10_count 69 = .ok (.aload_n 0, 1) := by decide +kernel
theorem dX10_count_70 : decode cX10_count 70 = .ok (.getfield 11, 3) := by decide +kernel
theorem dX10_count_73 : decode cX10_count 73 = .ok (.sipush 1356, 3) := by decide +kernel
theorem dX10_count_76 : decode cX10_count 76 = .ok (.iaload, 1) := by decide +kernel
theorem dX10_count_77 : decode cX10_count 77 = .ok (.aload_n 0, 1) := by decide +kernel
theorem dX10_count_78 : decode cX10_count 78 = .ok (.invokevirtual 356, 3) := by decide +kernel
theorem dX10_count_81 : decode cX10_count 81 = .ok (.isub, 1) := by decide +kernel
theorem dX10_count_82 : decode cX10_count 82 = .ok (.ireturn, 1) := by decide +kernel
theorem dX10_count_83 : decode cX10_count 83 = .ok (.aload_n 0, 1) := by decide +kernel
theorem dX10_count_84 : decode cX10_count 84 = .ok (.invokevirtual 356, 3) := by decide +kernel
theorem dX10_count_87 : decode cX10_count 87 = .ok (.ireturn, 1) := by decide +kernel
theorem dX10_count_88 : decode cX10_count 88 = .ok (.aload_n 0, 1) := by decide +kernel
theorem dX10_count_89 : decode cX10_count 89 = .ok (.iload_n 1, 1) := by decide +kernel
theorem dX10_count_90 : decode cX10_count 90 = .ok (.invokevirtual 359, 3) := by decide +kernel
theorem dX10_count_93 : decode cX10_count 93 = .ok (.ireturn, 1) := by decide +kernel
theorem dX10_count_94 : decode cX10_count 94 = .ok (.aload_n 0, 1) := by decide +kernel
theorem dX10_count_95 : decode cX10_count 95 = .ok (.iconst 0, 1) := by decide +kernel
theorem dX10_count_96 : decode cX10_count 96 = .ok (.invokevirtual 362, 3) := by decide +kernel
theorem dX10_count_99 : decode cX10_count 99 = .ok (.ireturn, 1) := by decide +kernel
theorem dX10_count_100 : decode cX10_count 100 = .ok (.aload_n 0, 1) := by decide +kernel
theorem dX10_count_101 : decode cX10_count 101 = .ok (.iconst 1, 1) := by decide +kernel
theorem dX10_count_102 : decode cX10_count 102 = .ok (.invokevirtual 362, 3) := by decide +kernel
theorem dX10_count_105 : decode cX10_count 105 = .ok (.ireturn, 1) := by decide +kernel
theorem dX10_count_106 : decode cX10_count 106 = .ok (.aload_n 0, 1) := by decide +kernel
theorem dX10_count_107 : decode cX10_count 107 = .ok (.getfield 198, 3) := by decide +kernel
theorem dX10_count_110 : decode cX10_count 110 = .ok (.ireturn, 1) := by decide +kernel
theorem dX10_count_111 : decode cX10_count 111 = .ok (.aload_n 0, 1) := by decide +kernel
theorem dX10_count_112 : decode cX10_count 112 = .ok (.getfield 63, 3) := by decide +kernel
theorem dX10_count_115 : decode cX10_count 115 = .ok (.ireturn, 1) := by decide +kernel
theorem dX10_count_116 : decode cX10_count 116 = .ok (.aload_n 0, 1) := by decide +kernel
theorem dX10_count_117 : decode cX10_count 117 = .ok (.getfield 24, 3) := by decide +kernel
theorem dX10_count_120 : decode cX10_count 120 = .ok (.iconst 0, 1) := by decide +kernel
theorem dX10_count_121 : decode cX10_count 121 = .ok (.baload, 1) := by decide +kernel
theorem dX10_count_122 : decode cX10_count 122 = .ok (.invokestatic 104, 3) := by decide +kernel
theorem dX10_count_125 : decode cX10_count 125 = .ok (.aload_n 0, 1) := by decide +kernel
theorem dX10_count_126 : decode cX10_count 126 = .ok (.getfield 24, 3) := by decide +kernel
theorem dX10_count_129 : decode cX10_count 129 = .ok (.iconst 1, 1) := by decide +kernel
theorem dX10_count_130 : decode cX10_count 130 = .ok (.baload, 1) := by decide +kernel
theorem dX10_count_131 : decode cX10_count 131 = .ok (.invokestatic 104, 3) := by decide +kernel
theorem dX10_count_134 : decode cX10_count 134 = .ok (.iconst 1, 1) := by decide +kernel
theorem dX10_count_135 : decode cX10_count 135 = .ok (.ishl, 1) := by decide +kernel
theorem dX10_count_136 : decode cX10_count 136 = .ok (.ior, 1) := by decide +kernel
theorem dX10_count_137 : decode cX10_count 137 = .ok (.ireturn, 1) := by decide +kernel
theorem dX10_count_138 : decode cX10_count 138 = .ok (.aload_n 0, 1) := by decide +kernel
theorem dX10_count_139 : decode cX10_count 139 = .ok (.invokevirtual 365, 3) := by decide +kernel
theorem dX10_count_142 : decode cX10_count 142 = .ok (.ireturn, 1) := by decide +kernel
theorem dX10_count_143 : decode cX10_count 143 = .ok (.iconst (-1), 1) := by decide +kernel
theorem dX10_count_144 : decode cX10_count 144 = .ok (.ireturn, 1) := by decide +kernel
theorem dJ6_bitCount_0f7a4_0 : decode cJ6_bitCount_0f7a4 0 = .ok (.iload_n 0, 1) := by decide +kernel
theorem dJ6_bitCount_0f7a4_1 : decode cJ6_bitCount_0f7a4 1 = .ok (.iload_n 0, 1) := by decide +kernel
theorem dJ6_bitCount_0f7a4_2 : decode cJ6_bitCount_0f7a4 2 = .ok (.iconst 1, 1) := by decide +kernel
theorem dJ6_bitCount_0f7a4_3 : decode cJ6_bitCount_0f7a4 3 = .ok (.iushr, 1) := by decide +kernel
theorem dJ6_bitCount_0f7a4_4 : decode cJ6_bitCount_0f7a4 4 = .ok (.ldc_w 265, 3) := by decide +kernel
theorem dJ6_bitCount_0f7a4_7 : decode cJ6_bitCount_0f7a4 7 = .ok (.iand, 1) := by decide +kernel
theorem dJ6_bitCount_0f7a4_8 : decode cJ6_bitCount_0f7a4 8 = .ok (.isub, 1) := by decide +kernel
theorem dJ6_bitCount_0f7a4_9 : decode cJ6_bitCount_0f7a4 9 = .ok (.istore_n 0, 1) := by decide +kernel
theorem dJ6_bitCount_0f7a4_10 : decode cJ6_bitCount_0f7a4 10 = .ok (.iload_n 0, 1) := by decide +kernel
theorem dJ6_bitCount_0f7a4_11 : decode cJ6_bitCount_0f7a4 11 = .ok (.ldc_w 266, 3) := by decide +kernel
theorem dJ6_bitCount_0f7a4_14 : decode cJ6_bitCount_0f7a4 14 = .ok (.iand, 1) := by decide +kernel
theorem dJ6_bitCount_0f7a4_15 : decode cJ6_bitCount_0f7a4 15 = .ok (.iload_n 0, 1) := by decide +kernel
theorem dJ6_bitCount_0f7a4_16 : decode cJ6_bitCount_0f7a4 16 = .ok (.iconst 2, 1) := by decide +kernel
theorem dJ6_bitCount_0f7a4_17 : decode cJ6_bitCount_0f7a4 17 = .ok (.iushr, 1) := by decide +kernel
theorem dJ6_bitCount_0f7a4_18 : decode cJ6_bitCount_0f7a4 18 = .ok (.ldc_w 266, 3) := by decide +kernel
theorem dJ6_bitCount_0f7a4_21 : decode cJ6_bitCount_0f7a4 21 = .ok (.iand, 1) := by decide +kernel
theorem dJ6_bitCount_0f7a4_22 : decode cJ6_bitCount_0f7a4 22 = .ok (.iadd, 1) := by decide +kernel
theorem dJ6_bitCount_0f7a4_23 : decode cJ6_bitCount_0f7a4 23 = .ok (.istore_n 0, 1) := by decide +kernel
theorem dJ6_bitCount_0f7a4_24 : decode cJ6_bitCount_0f7a4 24 = .ok (.iload_n 0, 1) := by decide +kernel
theorem dJ6_bitCount_0f7a4_25 : decode cJ6_bitCount_0f7a4 25 = .ok (.iload_n 0, 1) := by decide +kernel
theorem dJ6_bitCount_0f7a4_26 : decode cJ6_bitCount_0f7a4 26 = .ok (.iconst 4, 1) := by decide +kernel
theorem dJ6_bitCount_0f7a4_27 : decode cJ6_bitCount_0f7a4 27 = .ok (.iushr, 1) := by decide +kernel
theorem dJ6_bitCount_0f7a4_28 : decode cJ6_bitCount_0f7a4 28 = .ok (.iadd, 1) := by decide +kernel
theorem dJ6_bitCount_0f7a4_29 : decode cJ6_bitCount_0f7a4 29 = .ok (.ldc_w 267, 3) := by decide +kernel
theorem dJ6_bitCount_0f7a4_32 : decode cJ6_bitCount_0f7a4 32 = .ok (.iand, 1) := by decide +kernel
theorem dJ6_bitCount_0f7a4_33 : decode cJ6_bitCount_0f7a4 33 = .ok (.istore_n 0, 1) := by decide +kernel
theorem dJ6_bitCount_0f7a4_34 : decode cJ6_bitCount_0f7a4 34 = .ok (.iload_n 0, 1) := by decide +kernel
theorem dJ6_bitCount_0f7a4_35 : decode cJ6_bitCount_0f7a4 35 = .ok (.iload_n 0, 1) := by decide +kernel
theorem dJ6_bitCount_0f7a4_36 : decode cJ6_bitCount_0f7a4 36 = .ok (.bipush 8, 2) := by decide +kernel
theorem dJ6_bitCount_0f7a4_38 : decode cJ6_bitCount_0f7a4 38 = .ok (.iushr, 1) := by decide +kernel
theorem dJ6_bitCount_0f7a4_39 : decode cJ6_bitCount_0f7a4 39 = .ok (.iadd, 1) := by decide +kernel
theorem dJ6_bitCount_0f7a4_40 : decode cJ6_bitCount_0f7a4 40 = .ok (.istore_n 0, 1) := by decide +kernel
theorem dJ6_bitCount_0f7a4_41 : decode cJ6_bitCount_0f7a4 41 = .ok (.iload_n 0, 1) := by decide +kernel
theorem dJ6_bitCount_0f7a4_42 : decode cJ6_bitCount_0f7a4 42 = .ok (.iload_n 0, 1) := by decide +kernel
theorem dJ6_bitCount_0f7a4_43 : decode cJ6_bitCount_0f7a4 43 = .ok (.bipush 16, 2) := by decide +kernel
theorem dJ6_bitCount_0f7a4_45 : decode cJ6_bitCount_0f7a4 45 = .ok (.iushr, 1) := by decide +kernel
theorem dJ6_bitCount_0f7a4_46 : decode cJ6_bitCount_0f7a4 46 = .ok (.iadd, 1) := by decide +kernel
theorem dJ6_bitCount_0f7a4_47 : decode cJ6_bitCount_0f7a4 47 = .ok (.istore_n 0, 1) := by decide +kernel
theorem dJ6_bitCount_0f7a4_48 : decode cJ6_bitCount_0f7a4 48 = .ok (.iload_n 0, 1) := by decide +kernel
theorem dJ6_bitCount_0f7a4_49 : decode cJ6_bitCount_0f7a4 49 = .ok (.bipush 63, 2) := by decide +kernel
theorem dJ6_bitCount_0f7a4_51 : decode cJ6_bitCount_0f7a4 51 = .ok (.iand, 1) := by decide +kernel
theorem dJ6_bitCount_0f7a4_52 : decode cJ6_bitCount_0f7a4 52 = .ok (.ireturn, 1) := by decide +kernel
theorem dJ9_max_7cf53_0 : decode cJ9_max_7cf53 0 = .ok (.iload_n 0, 1) := by decide +kernel
theorem dJ9_max_7cf53_1 : decode cJ9_max_7cf53 1 = .ok (.iload_n 1, 1) := by decide +kernel
theorem dJ9_max_7cf53_2 : decode cJ9_max_7cf53 2 = .ok (.if_icmp .lt 7, 3) := by decide +kernel
theorem dJ9_max_7cf53_5 : decode cJ9_max_7cf53 5 = .ok (.iload_n 0, 1) := by decide +kernel
theorem dJ9_max_7cf53_6 : decode cJ9_max_7cf53 6 = .ok (.goto 4, 3) := by decide +kernel
theorem dJ9_max_7cf53_9 : decode cJ9_max_7cf53 9 = .ok (.iload_n 1, 1) := by decide +kernel
theorem dJ9_max_7cf53_10 : decode cJ9_max_7cf53 10 = .ok (.ireturn, 1) := by decide +kernel
theorem dJ9_min_7cf53_0 : decode cJ9_min_7cf53 0 = .ok (.iload_n 0, 1) := by decide +kernel
theorem dJ9_min_7cf53_1 : decode cJ9_min_7cf53 1 = .ok (.iload_n 1, 1) := by decide +kernel
theorem dJ9_min_7cf53_2 : decode cJ9_min_7cf53 2 = .ok (.if_icmp .gt 7, 3) := by decide +kernel
theorem dJ9_min_7cf53_5 : decode cJ9_min_7cf53 5 = .ok (.iload_n 0, 1) := by decide +kernel
theorem dJ9_min_7cf53_6 : decode cJ9_min_7cf53 6 = .ok (.goto 4, 3) := by decide +kernel
theorem dJ9_min_7cf53_9 : decode cJ9_min_7cf53 9 = .ok (.iload_n 1, 1) := by decide +kernel
theorem dJ9_min_7cf53_10 : decode cJ9_min_7cf53 10 = .ok (.ireturn, 1) := by decide +kernel
theorem dJ0_length_8abf5_0 : decode cJ0_length_8abf5 0 = .ok (.aload_n 0, 1) := by decide +kernel
theorem dJ0_length_8abf5_1 : decode cJ0_length_8abf5 1 = .ok (.getfield 9, 3) := by decide +kernel
theorem dJ0_length_8abf5_4 : decode cJ0_length_8abf5 4 = .ok (.arraylength, 1) := by decide +kernel
theorem dJ0_length_8abf5_5 : decode cJ0_length_8abf5 5 = .ok (.aload_n 0, 1) := by decide +kernel
theorem dJ0_length_8abf5_6 : decode cJ0_length_8abf5 6 = .ok (.invokevirtual 335, 3) := by decide +kernel
theorem dJ0_length_8abf5_9 : decode cJ0_length_8abf5 9 = .ok (.ishr, 1) := by decide +kernel
theorem dJ0_length_8abf5_10 : decode cJ0_length_8abf5 10 = .ok (.ireturn, 1) := by decide +kernel
theorem dJ0_charAt_5068e_0 : decode cJ0_charAt_5068e 0 = .ok (.aload_n 0, 1) := by decide +kernel
theorem dJ0_charAt_5068e_1 : decode cJ0_charAt_5068e 1 = .ok (.invokevirtual 492, 3) := by decide +kernel
theorem dJ0_charAt_5068e_4 : decode cJ0_charAt_5068e 4 = .ok (.ifCond .eq 12, 3) := by decide +kernel
theorem dJ0_charAt_5068e_7 : decode cJ0_charAt_5068e 7 = .ok (.aload_n 0, 1) := by decide +kernel
theorem dJ0_charAt_5068e_8 : decode cJ0_charAt_5068e 8 = .ok (.getfield 9, 3) := by decide +kernel
theorem dJ0_charAt_5068e_11 : decode cJ0_charAt_5068e 11 = .ok (.iload_n 1, 1) := by decide +kernel
theorem dJ0_charAt_5068e_12 : decode cJ0_charAt_5068e 12 = .ok (.invokestatic 495, 3) := by decide +kernel
theorem dJ0_charAt_5068e_15 : decode cJ0_charAt_5068e 15 = .ok (.ireturn, 1) := by decide +kernel
theorem dJ0_charAt_5068e_16 : decode cJ0_charAt_5068e 16 = .ok (.aload_n 0, 1) := by decide +kernel
theorem dJ0_charAt_5068e_17 : decode cJ0_charAt_5068e 17 = .ok (.getfield 9, 3) := by decide +kernel
theorem dJ0_charAt_5068e_20 : decode cJ0_charAt_5068e 20 = .ok (.iload_n 1, 1) := by decide +kernel
theorem dJ0_charAt_5068e_21 : decode cJ0_charAt_5068e 21 = .ok (.invokestatic 498, 3) := by decide +kernel
theorem dJ0_charAt_5068e_24 : decode cJ0_charAt_5068e 24 = .ok (.ireturn, 1) := by decide +kernel
theorem dJ0_coder_7d493_0 : decode cJ0_coder_7d493 0 = .ok (.getstatic 38, 3) := by decide +kernel
theorem dJ0_coder_7d493_3 : decode cJ0_coder_7d493 3 = .ok (.ifCond .eq 10, 3) := by decide +kernel
theorem dJ0_coder_7d493_6 : decode cJ0_coder_7d493 6 = .ok (.aload_n 0, 1) := by decide +kernel
theorem dJ0_coder_7d493_7 : decode cJ0_coder_7d493 7 = .ok (.getfield 15, 3) := by decide +kernel
theorem dJ0_coder_7d493_10 : decode cJ0_coder_7d493 10 = .ok (.goto 4, 3) := by decide +kernel
theorem dJ0_coder_7d493_13 : decode cJ0_coder_7d493 13 = .ok (.iconst 1, 1) := by decide +kernel
theorem dJ0_coder_7d493_14 : decode cJ0_coder_7d493 14 = .ok (.ireturn, 1) := by decide +kernel
theorem dJ0_isLatin1_aae02_0 : decode cJ0_isLatin1_aae02 0 = .ok (.getstatic 38, 3) := by decide +kernel
theorem dJ0_isLatin1_aae02_3 : decode cJ0_isLatin1_aae02 3 = .ok (.ifCond .eq 14, 3) := by decide +kernel
theorem dJ0_isLatin1_aae02_6 : decode cJ0_isLatin1_aae02 6 = .ok (.aload_n 0, 1) := by decide +kernel
theorem dJ0_isLatin1_aae02_7 : decode cJ0_isLatin1_aae02 7 = .ok (.getfield 15, 3) := by decide +kernel
theorem dJ0_isLatin1_aae02_10 : decode cJ0_isLatin1_aae02 10 = .ok (.ifCond .ne 7, 3) := by decide +kernel
theorem dJ0_isLatin1_aae02_13 : decode cJ0_isLatin1_aae02 13 = .ok (.iconst 1, 1) := by decide +kernel
theorem dJ0_isLatin1_aae02_14 : decode cJ0_isLatin1_aae02 14 = .ok (.goto 4, 3) := by decide +kernel
theorem dJ0_isLatin1_aae02_17 : decode cJ0_isLatin1_aae02 17 = .ok (.iconst 0, 1) := by decide +kernel
theorem dJ0_isLatin1_aae02_18 : decode cJ0_isLatin1_aae02 18 = .ok (.ireturn, 1) := by decide +kernel
theorem dJ0_checkIndex_df160_0 : decode cJ0_checkIndex_df160 0 = .ok (.iload_n 0, 1) := by decide +kernel
theorem dJ0_checkIndex_df160_1 : decode cJ0_checkIndex_df160 1 = .ok (.iload_n 1, 1) := by decide +kernel
theorem dJ0_checkIndex_df160_2 : decode cJ0_checkIndex_df160 2 = .ok (.getstatic 1053, 3) := by decide +kernel
theorem dJ0_checkIndex_df160_5 : decode cJ0_checkIndex_df160 5 = .ok (.invokestatic 1059, 3) := by decide +kernel
theorem dJ0_checkIndex_df160_8 : decode cJ0_checkIndex_df160 8 = .ok (.pop, 1) := by decide +kernel
theorem dJ0_checkIndex_df160_9 : decode cJ0_checkIndex_df160 9 = .ok (.return_, 1) := by decide +kernel
theorem dJ1_charAt_3b067_0 : decode cJ1_charAt_3b067 0 = .ok (.iload_n 1, 1) := by decide +kernel
theorem dJ1_charAt_3b067_1 : decode cJ1_charAt_3b067 1 = .ok (.aload_n 0, 1) := by decide +kernel
theorem dJ1_charAt_3b067_2 : decode cJ1_charAt_3b067 2 = .ok (.arraylength, 1) := by decide +kernel
theorem dJ1_charAt_3b067_3 : decode cJ1_charAt_3b067 3 = .ok (.invokestatic 9, 3) := by decide +kernel
theorem dJ1_charAt_3b067_6 : decode cJ1_charAt_3b067 6 = .ok (.aload_n 0, 1) := by decide +kernel
theorem dJ1_charAt_3b067_7 : decode cJ1_charAt_3b067 7 = .ok (.iload_n 1, 1) := by decide +kernel
theorem dJ1_charAt_3b067_8 : decode cJ1_charAt_3b067 8 = .ok (.baload, 1) := by decide +kernel
theorem dJ1_charAt_3b067_9 : decode cJ1_charAt_3b067 9 = .ok (.sipush 255, 3) := by decide +kernel
theorem dJ1_charAt_3b067_12 : decode cJ1_charAt_3b067 12 = .ok (.iand, 1) := by decide +kernel
theorem dJ1_charAt_3b067_13 : decode cJ1_charAt_3b067 13 = .ok (.i2c, 1) := by decide +kernel
theorem dJ1_charAt_3b067_14 : decode cJ1_charAt_3b067 14 = .ok (.ireturn, 1) := by decide +kernel
theorem dJ2_getChar_3b067_0 : decode cJ2_getChar_3b067 0 = .ok (.getstatic 44, 3) := by decide +kernel
theorem dJ2_getChar_3b067_3 : decode cJ2_getChar_3b067 3 = .ok (.ifCond .ne 25, 3) := by decide +kernel
theorem dJ2_getChar_3b067_6 : decode cJ2_getChar_3b067 6 = .ok (.iload_n 1, 1) := by decide +kernel
theorem dJ2_getChar_3b067_7 : decode cJ2_getChar_3b067 7 = .ok (.ifCond .lt 11, 3) := by decide +kernel
theorem dJ2_getChar_3b067_10 : decode cJ2_getChar_3b067 10 = .ok (.iload_n 1, 1) := by decide +kernel
theorem dJ2_getChar_3b067_11 : decode cJ2_getChar_3b067 11 = .ok (.aload_n 0, 1) := by decide +kernel
theorem dJ2_getChar_3b067_12 : decode cJ2_getChar_3b067 12 = .ok (.invokestatic 48, 3) := by decide +kernel
theorem dJ2_getChar_3b067_15 : decode cJ2_getChar_3b067 15 = .ok (.if_icmp .lt 13, 3) := by decide +kernel
theorem dJ2_getChar_3b067_18 : decode cJ2_getChar_3b067 18 = .ok (.new 52, 3) := by decide +kernel
theorem dJ2_getChar_3b067_21 : decode cJ2_getChar_3b067 21 = .ok (.dup, 1) := by decide +kernel
theorem dJ2_getChar_3b067_22 : decode cJ2_getChar_3b067 22 = .ok (.ldc 54, 2) := by decide +kernel
theorem dJ2_getChar_3b067_24 : decode cJ2_getChar_3b067 24 = .ok (.invokespecial 56, 3) := by decide +kernel
theorem dJ2_getChar_3b067_27 : decode cJ2_getChar_3b067 27 = .ok (.athrow, 1) := by decide +kernel
theorem dJ2_getChar_3b067_28 : decode cJ2_getChar_3b067 28 = .ok (.iload_n 1, 1) := by decide +kernel
theorem dJ2_getChar_3b067_29 : decode cJ2_getChar_3b067 29 = .ok (.iconst 1, 1) := by decide +kernel
theorem dJ2_getChar_3b067_30 : decode cJ2_getChar_3b067 30 = .ok (.ishl, 1) := by decide +kernel
theorem dJ2_getChar_3b067_31 : decode cJ2_getChar_3b067 31 = .ok (.istore_n 1, 1) := by decide +kernel
theorem dJ2_getChar_3b067_32 : decode cJ2_getChar_3b067 32 = .ok (.aload_n 0, 1) := by decide +kernel
theorem dJ2_getChar_3b067_33 : decode cJ2_getChar_3b067 33 = .ok (.iload_n 1, 1) := by decide +kernel
theorem dJ2_getChar_3b067_34 : decode cJ2_getChar_3b067 34 = .ok (.iinc 1 1, 3) := by decide +kernel
theorem dJ2_getChar_3b067_37 : decode cJ2_getChar_3b067 37 = .ok (.baload, 1) := by decide +kernel
theorem dJ2_getChar_3b067_38 : decode cJ2_getChar_3b067 38 = .ok (.sipush 255, 3) := by decide +kernel
theorem dJ2_getChar_3b067_41 : decode cJ2_getChar_3b067 41 = .ok (.iand, 1) := by decide +kernel
theorem dJ2_getChar_3b067_42 : decode cJ2_getChar_3b067 42 = .ok (.getstatic 59, 3) := by decide +kernel
theorem dJ2_getChar_3b067_45 : decode cJ2_getChar_3b067 45 = .ok (.ishl, 1) := by decide +kernel
theorem dJ2_getChar_3b067_46 : decode cJ2_getChar_3b067 46 = .ok (.aload_n 0, 1) := by decide +kernel
theorem dJ2_getChar_3b067_47 : decode cJ2_getChar_3b067 47 = .ok (.iload_n 1, 1) := by decide +kernel
theorem dJ2_getChar_3b067_48 : decode cJ2_getChar_3b067 48 = .ok (.baload, 1) := by decide +kernel
theorem dJ2_getChar_3b067_49 : decode cJ2_getChar_3b067 49 = .ok (.sipush 255, 3) := by decide +kernel
theorem dJ2_getChar_3b067_52 : decode cJ2_getChar_3b067 52 = .ok (.iand, 1) := by decide +kernel
theorem dJ2_getChar_3b067_53 : decode cJ2_getChar_3b067 53 = .ok (.getstatic 63, 3) := by decide +kernel
theorem dJ2_getChar_3b067_56 : decode cJ2_getChar_3b067 56 = .ok (.ishl, 1) := by decide +kernel
theorem dJ2_getChar_3b067_57 : decode cJ2_getChar_3b067 57 = .ok (.ior, 1) := by decide +kernel
theorem dJ2_getChar_3b067_58 : decode cJ2_getChar_3b067 58 = .ok (.i2c, 1) := by decide +kernel
theorem dJ2_getChar_3b067_59 : decode cJ2_getChar_3b067 59 = .ok (.ireturn, 1) := by decide +kernel
theorem dJ2_length_9d52b_0 : decode cJ2_length_9d52b 0 = .ok (.aload_n 0, 1) := by decide +kernel
theorem dJ2_length_9d52b_1 : decode cJ2_length_9d52b 1 = .ok (.arraylength, 1) := by decide +kernel
theorem dJ2_length_9d52b_2 : decode cJ2_length_9d52b 2 = .ok (.iconst 1, 1) := by decide +kernel
theorem dJ2_length_9d52b_3 : decode cJ2_length_9d52b 3 = .ok (.ishr, 1) := by decide +kernel
theorem dJ2_length_9d52b_4 : decode cJ2_length_9d52b 4 = .ok (.ireturn, 1) := by decide +kernel
theorem dJ2_charAt_3b067_0 : decode cJ2_charAt_3b067 0 = .ok (.iload_n 1, 1) := by decide +kernel
theorem dJ2_charAt_3b067_1 : decode cJ2_charAt_3b067 1 = .ok (.aload_n 0, 1) := by decide +kernel
theorem dJ2_charAt_3b067_2 : decode cJ2_charAt_3b067 2 = .ok (.invokestatic 67, 3) := by decide +kernel
theorem dJ2_charAt_3b067_5 : decode cJ2_charAt_3b067 5 = .ok (.aload_n 0, 1) := by decide +kernel
theorem dJ2_charAt_3b067_6 : decode cJ2_charAt_3b067 6 = .ok (.iload_n 1, 1) := by decide +kernel
theorem dJ2_charAt_3b067_7 : decode cJ2_charAt_3b067 7 = .ok (.invokestatic 71, 3) := by decide +kernel
theorem dJ2_charAt_3b067_10 : decode cJ2_charAt_3b067 10 = .ok (.ireturn, 1) := by decide +kernel
theorem dJ2_checkIndex_2214a_0 : decode cJ2_checkIndex_2214a 0 = .ok (.iload_n 0, 1) := by decide +kernel
theorem dJ2_checkIndex_2214a_1 : decode cJ2_checkIndex_2214a 1 = .ok (.aload_n 1, 1) := by decide +kernel
theorem dJ2_checkIndex_2214a_2 : decode cJ2_checkIndex_2214a 2 = .ok (.invokestatic 48, 3) := by decide +kernel
theorem dJ2_checkIndex_2214a_5 : decode cJ2_checkIndex_2214a 5 = .ok (.invokestatic 414, 3) := by decide +kernel
theorem dJ2_checkIndex_2214a_8 : decode cJ2_checkIndex_2214a 8 = .ok (.return_, 1) := by decide +kernel
theorem dJ7_fill_53178_0 : decode cJ7_fill_53178 0 = .ok (.iconst 0, 1) := by decide +kernel
theorem dJ7_fill_53178_1 : decode cJ7_fill_53178 1 = .ok (.istore_n 2, 1) := by decide +kernel
theorem dJ7_fill_53178_2 : decode cJ7_fill_53178 2 = .ok (.aload_n 0, 1) := by decide +kernel
theorem dJ7_fill_53178_3 : decode cJ7_fill_53178 3 = .ok (.arraylength, 1) := by decide +kernel
theorem dJ7_fill_53178_4 : decode cJ7_fill_53178 4 = .ok (.istore_n 3, 1) := by decide +kernel
theorem dJ7_fill_53178_5 : decode cJ7_fill_53178 5 = .ok (.iload_n 2, 1) := by decide +kernel
theorem dJ7_fill_53178_6 : decode cJ7_fill_53178 6 = .ok (.iload_n 3, 1) := by decide +kernel
theorem dJ7_fill_53178_7 : decode cJ7_fill_53178 7 = .ok (.if_icmp .ge 13, 3) := by decide +kernel
theorem dJ7_fill_53178_10 : decode cJ7_fill_53178 10 = .ok (.aload_n 0, 1) := by decide +kernel
theorem dJ7_fill_53178_11 : decode cJ7_fill_53178 11 = .ok (.iload_n 2, 1) := by decide +kernel
theorem dJ7_fill_53178_12 : decode cJ7_fill_53178 12 = .ok (.iload_n 1, 1) := by decide +kernel
theorem dJ7_fill_53178_13 : decode cJ7_fill_53178 13 = .ok (.iastore, 1) := by decide +kernel
theorem dJ7_fill_53178_14 : decode cJ7_fill_53178 14 = .ok (.iinc 2 1, 3) := by decide +kernel
theorem dJ7_fill_53178_17 : decode cJ7_fill_53178 17 = .ok (.goto (-12), 3) := by decide +kernel
theorem dJ7_fill_53178_20 : decode cJ7_fill_53178 20 = .ok (.return_, 1) := by decide +kernel
theorem dJ3_checkIndex_8e157_0 : decode cJ3_checkIndex_8e157 0 = .ok (.iload_n 0, 1) := by decide +kernel
theorem dJ3_checkIndex_8e157_1 : decode cJ3_checkIndex_8e157 1 = .ok (.ifCond .lt 8, 3) := by decide +kernel
theorem dJ3_checkIndex_8e157_4 : decode cJ3_checkIndex_8e157 4 = .ok (.iload_n 0, 1) := by decide +kernel
theorem dJ3_checkIndex_8e157_5 : decode cJ3_checkIndex_8e157 5 = .ok (.iload_n 1, 1) := by decide +kernel
theorem dJ3_checkIndex_8e157_6 : decode cJ3_checkIndex_8e157 6 = .ok (.if_icmp .lt 10, 3) := by decide +kernel
theorem dJ3_checkIndex_8e157_9 : decode cJ3_checkIndex_8e157 9 = .ok (.aload_n 2, 1) := by decide +kernel
theorem dJ3_checkIndex_8e157_10 : decode cJ3_checkIndex_8e157 10 = .ok (.iload_n 0, 1) := by decide +kernel
theorem dJ3_checkIndex_8e157_11 : decode cJ3_checkIndex_8e157 11 = .ok (.iload_n 1, 1) := by decide +kernel
theorem dJ3_checkIndex_8e157_12 : decode cJ3_checkIndex_8e157 12 = .ok (.invokestatic 95, 3) := by decide +kernel
theorem dJ3_checkIndex_8e157_15 : decode cJ3_checkIndex_8e157 15 = .ok (.athrow, 1) := by decide +kernel
theorem dJ3_checkIndex_8e157_16 : decode cJ3_checkIndex_8e157 16 = .ok (.iload_n 0, 1) := by decide +kernel
theorem dJ3_checkIndex_8e157_17 : decode cJ3_checkIndex_8e157 17 = .ok (.ireturn, 1) := by decide +kernel
theorem dL_law_0 : decode cL_law 0 = .ok (.new 7, 3) := by decide +kernel
theorem dL_law_3 : decode cL_law 3 = .ok (.dup, 1) := by decide +kernel
theorem dL_law_4 : decode cL_law 4 = .ok (.invokespecial 9, 3) := by decide +kernel
theorem dL_law_7 : decode cL_law 7 = .ok (.astore_n 1, 1) := by decide +kernel
theorem dL_law_8 : decode cL_law 8 = .ok (.new 10, 3) := by decide +kernel
theorem dL_law_11 : decode cL_law 11 = .ok (.dup, 1) := by decide +kernel
theorem dL_law_12 : decode cL_law 12 = .ok (.invokespecial 12, 3) := by decide +kernel
theorem dL_law_15 : decode cL_law 15 = .ok (.astore_n 2, 1) := by decide +kernel
theorem dL_law_16 : decode cL_law 16 = .ok (.iconst 0, 1) := by decide +kernel
theorem dL_law_17 : decode cL_law 17 = .ok (.istore_n 3, 1) := by decide +kernel
theorem dL_law_18 : decode cL_law 18 = .ok (.iload_n 3, 1) := by decide +kernel
theorem dL_law_19 : decode cL_law 19 = .ok (.aload_n 0, 1) := by decide +kernel
theorem dL_law_20 : decode cL_law 20 = .ok (.arraylength, 1) := by decide +kernel
theorem dL_law_21 : decode cL_law 21 = .ok (.bipush 6, 2) := by decide +kernel
theorem dL_law_23 : decode cL_law 23 = .ok (.isub, 1) := by decide +kernel
theorem dL_law_24 : decode cL_law 24 = .ok (.if_icmp .gt 1287, 3) := by decide +kernel
theorem dL_law_27 : decode cL_law 27 = .ok (.aload_n 0, 1) := by decide +kernel
theorem dL_law_28 : decode cL_law 28 = .ok (.iload_n 3, 1) := by decide +kernel
theorem dL_law_29 : decode cL_law 29 = .ok (.iaload, 1) := by decide +kernel
theorem dL_law_30 : decode cL_law 30 = .ok (.bipush 63, 2) := by decide +kernel
theorem dL_law_32 : decode cL_law 32 = .ok (.iand, 1) := by decide +kernel
theorem dL_law_33 : decode cL_law 33 = .ok (.tableswitch 1272 0 34 #[155, 218, 241, 254, 287, 320, 343, 386, 419, 452, 485, 538, 551, 574, 597, 630, 663, 696, 739, 782, 825, 858, 891, 914, 938, 971, 1004, 1047, 1090, 1113, 1136, 1169, 1202, 1226, 1249], 155) := by decide +kernel
theorem dL_law_188 : decode cL_law 188 = .ok (.aload_n 1, 1) := by decide +kernel
theorem dL_law_189 : decode cL_law 189 = .ok (.aload_n 0, 1) := by decide +kernel
theorem dL_law_190 : decode cL_law 190 = .ok (.iload_n 3, 1) := by decide +kernel
theorem dL_law_191 : decode cL_law 191 = .ok (.iconst 1, 1) := by decide +kernel
theorem dL_law_192 : decode cL_law 192 = .ok (.iadd, 1) := by decide +kernel
theorem dL_law_193 : decode cL_law 193 = .ok (.iaload, 1) := by decide +kernel
theorem dL_law_194 : decode cL_law 194 = .ok (.aload_n 0, 1) := by decide +kernel
theorem dL_law_195 : decode cL_law 195 = .ok (.iload_n 3, 1) := by decide +kernel
theorem dL_law_196 : decode cL_law 196 = .ok (.iconst 2, 1) := by decide +kernel
theorem dL_law_197 : decode cL_law 197 = .ok (.iadd, 1) := by decide +kernel
theorem dL_law_198 : decode cL_law 198 = .ok (.iaload, 1) := by decide +kernel
theorem dL_law_199 : decode cL_law 199 = .ok (.aload_n 0, 1) := by decide +kernel
theorem dL_law_200 : decode cL_law 200 = .ok (.iload_n 3, 1) := by decide +kernel
theorem dL_law_201 : decode cL_law 201 = .ok (.iconst 3, 1) := by decide +kernel
theorem dL_law_202 : decode cL_law 202 = .ok (.iadd, 1) := by decide +kernel
theorem dL_law_203 : decode cL_law 203 = .ok (.iaload, 1) := by decide +kernel
theorem dL_law_204 : decode cL_law 204 = .ok (.aload_n 0, 1) := by decide +kernel
theorem dL_law_205 : decode cL_law 205 = .ok (.iload_n 3, 1) := by decide +kernel
theorem dL_law_206 : decode cL_law 206 = .ok (.iconst 4, 1) := by decide +kernel
theorem dL_law_207 : decode cL_law 207 = .ok (.iadd, 1) := by decide +kernel
theorem dL_law_208 : decode cL_law 208 = .ok (.iaload, 1) := by decide +kernel
theorem dL_law_209 : decode cL_law 209 = .ok (.aload_n 0, 1) := by decide +kernel
theorem dL_law_210 : decode cL_law 210 = .ok (.iload_n 3, 1) := by decide +kernel
theorem dL_law_211 : decode cL_law 211 = .ok (.iconst 5, 1) := by decide +kernel
theorem dL_law_212 : decode cL_law 212 = .ok (.iadd, 1) := by decide +kernel
theorem dL_law_213 : decode cL_law 213 = .ok (.iaload, 1) := by decide +kernel
theorem dL_law_214 : decode cL_law 214 = .ok (.invokevirtual 13, 3) := by decide +kernel
theorem dL_law_217 : decode cL_law 217 = .ok (.aload_n 2, 1) := by decide +kernel
theorem dL_law_218 : decode cL_law 218 = .ok (.aload_n 0, 1) := by decide +kernel
theorem dL_law_219 : decode cL_law 219 = .ok (.iload_n 3, 1) := by decide +kernel
theorem dL_law_220 : decode cL_law 220 = .ok (.iconst 1, 1) := by decide +kernel
theorem dL_law_221 : decode cL_law 221 = .ok (.iadd, 1) := by decide +kernel
theorem dL_law_222 : decode cL_law 222 = .ok (.iaload, 1) := by decide +kernel
theorem dL_law_223 : decode cL_law 223 = .ok (.aload_n 0, 1) := by decide +kernel
theorem dL_law_224 : decode cL_law 224 = .ok (.iload_n 3, 1) := by decide +kernel
theorem dL_law_225 : decode cL_law 225 = .ok (.iconst 2, 1) := by decide +kernel
theorem dL_law_226 : decode cL_law 226 = .ok (.iadd, 1) := by decide +kernel
theorem dL_law_227 : decode cL_law 227 = .ok (.iaload, 1) := by decide +kernel
theorem dL_law_228 : decode cL_law 228 = .ok (.aload_n 0, 1) := by decide +kernel
theorem dL_law_229 : decode cL_law 229 = .ok (.iload_n 3, 1) := by decide +kernel
theorem dL_law_230 : decode cL_law 230 = .ok (.iconst 3, 1) := by decide +kernel
theorem dL_law_231 : decode cL_law 231 = .ok (.iadd, 1) := by decide +kernel
theorem dL_law_232 : decode cL_law 232 = .ok (.iaload, 1) := by decide +kernel
theorem dL_law_233 : decode cL_law 233 = .ok (.aload_n 0, 1) := by decide +kernel
theorem dL_law_234 : decode cL_law 234 = .ok (.iload_n 3, 1) := by decide +kernel
theorem dL_law_235 : decode cL_law 235 = .ok (.iconst 4, 1) := by decide +kernel
theorem dL_law_236 : decode cL_law 236 = .ok (.iadd, 1) := by decide +kernel
theorem dL_law_237 : decode cL_law 237 = .ok (.iaload, 1) := by decide +kernel
theorem dL_law_238 : decode cL_law 238 = .ok (.aload_n 0, 1) := by decide +kernel
theorem dL_law_239 : decode cL_law 239 = .ok (.iload_n 3, 1) := by decide +kernel
theorem dL_law_240 : decode cL_law 240 = .ok (.iconst 5, 1) := by decide +kernel
theorem dL_law_241 : decode cL_law 241 = .ok (.iadd, 1) := by decide +kernel
theorem dL_law_242 : decode cL_law 242 = .ok (.iaload, 1) := by decide +kernel
theorem dL_law_243 : decode cL_law 243 = .ok (.invokevirtual 17, 3) := by decide +kernel
theorem dL_law_246 : decode cL_law 246 = .ok (.if_icmp .eq 1059, 3) := by decide +kernel
theorem dL_law_249 : decode cL_law 249 = .ok (.iconst 0, 1) := by decide +kernel
theorem dL_law_250 : decode cL_law 250 = .ok (.ireturn, 1) := by decide +kernel
theorem dL_law_251 : decode cL_law 251 = .ok (.aload_n 1, 1) := by decide +kernel
theorem dL_law_252 : decode cL_law 252 = .ok (.aload_n 0, 1) := by decide +kernel
theorem dL_law_253 : decode cL_law 253 = .ok (.iload_n 3, 1) := by decide +kernel
theorem dL_law_254 : decode cL_law 254 = .ok (.iconst 1, 1) := by decide +kernel
theorem dL_law_255 : decode cL_law 255 = .ok (.iadd, 1) := by decide +kernel
theorem dL_law_256 : decode cL_law 256 = .ok (.iaload, 1) := by decide +kernel
theorem dL_law_257 : decode cL_law 257 = .ok (.invokevirtual 18, 3) := by decide +kernel
theorem dL_law_260 : decode cL_law 260 = .ok (.aload_n 2, 1) := by decide +kernel
theorem dL_law_261 : decode cL_law 261 = .ok (.aload_n 0, 1) := by decide +kernel
theorem dL_law_262 : decode cL_law 262 = .ok (.iload_n 3, 1) := by decide +kernel
theorem dL_law_263 : decode cL_law 263 = .ok (.iconst 1, 1) := by decide +kernel
theorem dL_law_264 : decode cL_law 264 = .ok (.iadd, 1) := by decide +kernel
theorem dL_law_265 : decode cL_law 265 = .ok (.iaload, 1) := by decide +kernel
theorem dL_law_266 : decode cL_law 266 = .ok (.invokevirtual 22, 3) := by decide +kernel
theorem dL_law_269 : decode cL_law 269 = .ok (.if_icmp .eq 1036, 3) := by decide +kernel
theorem dL_law_272 : decode cL_law 272 = .ok (.iconst 0, 1) := by decide +kernel
theorem dL_law_273 : decode cL_law 273 = .ok (.ireturn, 1) := by decide +kernel
theorem dL_law_274 : decode cL_law 274 = .ok (.aload_n 1, 1) := by decide +kernel
theorem dL_law_275 : decode cL_law 275 = .ok (.invokevirtual 23, 3) := by decide +kernel
theorem dL_law_278 : decode cL_law 278 = .ok (.aload_n 2, 1) := by decide +kernel
theorem dL_law_279 : decode cL_law 279 = .ok (.invokevirtual 27, 3) := by decide +kernel
theorem dL_law_282 : decode cL_law 282 = .ok (.if_icmp .eq 1023, 3) := by decide +kernel
theorem dL_law_285 : decode cL_law 285 = .ok (.iconst 0, 1) := by decide +kernel
theorem dL_law_286 : decode cL_law 286 = .ok (.ireturn, 1) := by decide +kernel
theorem dL_law_287 : decode cL_law 287 = .ok (.aload_n 1, 1) := by decide +kernel
theorem dL_law_288 : decode cL_law 288 = .ok (.aload_n 0, 1) := by decide +kernel
theorem dL_law_289 : decode cL_law 289 = .ok (.iload_n 3, 1) := by decide +kernel
theorem dL_law_290 : decode cL_law 290 = .ok (.iconst 1, 1) := by decide +kernel
theorem dL_law_291 : decode cL_law 291 = .ok (.iadd, 1) := by decide +kernel
theorem dL_law_292 : decode cL_law 292 = .ok (.iaload, 1) := by decide +kernel
theorem dL_law_293 : decode cL_law 293 = .ok (.aload_n 0, 1) := by decide +kernel
theorem dL_law_294 : decode cL_law 294 = .ok (.iload_n 3, 1) := by decide +kernel
theorem dL_law_295 : decode cL_law 295 = .ok (.iconst 2, 1) := by decide +kernel
theorem dL_law_296 : decode cL_law 296 = .ok (.iadd, 1) := by decide +kernel
theorem dL_law_297 : decode cL_law 297 = .ok (.iaload, 1) := by decide +kernel
theorem dL_law_298 : decode cL_law 298 = .ok (.invokevirtual 28, 3) := by decide +kernel
theorem dL_law_301 : decode cL_law 301 = .ok (.aload_n 2, 1) := by decide +kernel
theorem dL_law_302 : decode cL_law 302 = .ok (.aload_n 0, 1) := by decide +kernel
theorem dL_law_303 : decode cL_law 303 = .ok (.iload_n 3, 1) := by decide +kernel
theorem dL_law_304 : decode cL_law 304 = .ok (.iconst 1, 1) := by decide +kernel
theorem dL_law_305 : decode cL_law 305 = .ok (.iadd, 1) := by decide +kernel
theorem dL_law_306 : decode cL_law 306 = .ok (.iaload, 1) := by decide +kernel
theorem dL_law_307 : decode cL_law 307 = .ok (.aload_n 0, 1) := by decide +kernel
theorem dL_law_308 : decode cL_law 308 = .ok (.iload_n 3, 1) := by decide +kernel
theorem dL_law_309 : decode cL_law 309 = .ok (.iconst 2, 1) := by decide +kernel
theorem dL_law_310 : decode cL_law 310 = .ok (.iadd, 1) := by decide +kernel
theorem dL_law_311 : decode cL_law 311 = .ok (.iaload, 1) := by decide +kernel
theorem dL_law_312 : decode cL_law 312 = .ok (.invokevirtual 32, 3) := by decide +kernel
theorem dL_law_315 : decode cL_law 315 = .ok (.if_icmp .eq 990, 3) := by decide +kernel
theorem dL_law_318 : decode cL_law 318 = .ok (.iconst 0, 1) := by decide +kernel
theorem dL_law_319 : decode cL_law 319 = .ok (.ireturn, 1) := by decide +kernel
theorem dL_law_320 : decode cL_law 320 = .ok (.aload_n 1, 1) := by decide +kernel
theorem dL_law_321 : decode cL_law 321 = .ok (.aload_n 0, 1) := by decide +kernel
theorem dL_law_322 : decode cL_law 322 = .ok (.iload_n 3, 1) := by decide +kernel
theorem dL_law_323 : decode cL_law 323 = .ok (.iconst 1, 1) := by decide +kernel
theorem dL_law_324 : decode cL_law 324 = .ok (.iadd, 1) := by decide +kernel
theorem dL_law_325 : decode cL_law 325 = .ok (.iaload, 1) := by decide +kernel
theorem dL_law_326 : decode cL_law 326 = .ok (.aload_n 0, 1) := by decide +kernel
theorem dL_law_327 : decode cL_law 327 = .ok (.iload_n 3, 1) := by decide +kernel
theorem dL_law_328 : decode cL_law 328 = .ok (.iconst 2, 1) := by decide +kernel
theorem dL_law_329 : decode cL_law 329 = .ok (.iadd, 1) := by decide +kernel
theorem dL_law_330 : decode cL_law 330 = .ok (.iaload, 1) := by decide +kernel
theorem dL_law_331 : decode cL_law 331 = .ok (.invokevirtual 33, 3) := by decide +kernel
theorem dL_law_334 : decode cL_law 334 = .ok (.aload_n 2, 1) := by decide +kernel
theorem dL_law_335 : decode cL_law 335 = .ok (.aload_n 0, 1) := by decide +kernel
theorem dL_law_336 : decode cL_law 336 = .ok (.iload_n 3, 1) := by decide +kernel
theorem dL_law_337 : decode cL_law 337 = .ok (.iconst 1, 1) := by decide +kernel
theorem dL_law_338 : decode cL_law 338 = .ok (.iadd, 1) := by decide +kernel
theorem dL_law_339 : decode cL_law 339 = .ok (.iaload, 1) := by decide +kernel
theorem dL_law_340 : decode cL_law 340 = .ok (.aload_n 0, 1) := by decide +kernel
theorem dL_law_341 : decode cL_law 341 = .ok (.iload_n 3, 1) := by decide +kernel
theorem dL_law_342 : decode cL_law 342 = .ok (.iconst 2, 1) := by decide +kernel
theorem dL_law_343 : decode cL_law 343 = .ok (.iadd, 1) := by decide +kernel
theorem dL_law_344 : decode cL_law 344 = .ok (.iaload, 1) := by decide +kernel
theorem dL_law_345 : decode cL_law 345 = .ok (.invokevirtual 36, 3) := by decide +kernel
theorem dL_law_348 : decode cL_law 348 = .ok (.if_icmp .eq 957, 3) := by decide +kernel
theorem dL_law_351 : decode cL_law 351 = .ok (.iconst 0, 1) := by decide +kernel
theorem dL_law_352 : decode cL_law 352 = .ok (.ireturn, 1) := by decide +kernel
theorem dL_law_353 : decode cL_law 353 = .ok (.aload_n 1, 1) := by decide +kernel
theorem dL_law_354 : decode cL_law 354 = .ok (.aload_n 0, 1) := by decide +kernel
theorem dL_law_355 : decode cL_law 355 = .ok (.iload_n 3, 1) := by decide +kernel
theorem dL_law_356 : decode cL_law 356 = .ok (.iconst 1, 1) := by decide +kernel
theorem dL_law_357 : decode cL_law 357 = .ok (.iadd, 1) := by decide +kernel
theorem dL_law_358 : decode cL_law 358 = .ok (.iaload, 1) := by decide +kernel
theorem dL_law_359 : decode cL_law 359 = .ok (.invokevirtual 37, 3) := by decide +kernel
theorem dL_law_362 : decode cL_law 362 = .ok (.aload_n 2, 1) := by decide +kernel
theorem dL_law_363 : decode cL_law 363 = .ok (.aload_n 0, 1) := by decide +kernel
theorem dL_law_364 : decode cL_law 364 = .ok (.iload_n 3, 1) := by decide +kernel
theorem dL_law_365 : decode cL_law 365 = .ok (.iconst 1, 1) := by decide +kernel
theorem dL_law_366 : decode cL_law 366 = .ok (.iadd, 1) := by decide +kernel
theorem dL_law_367 : decode cL_law 367 = .ok (.iaload, 1) := by decide +kernel
theorem dL_law_368 : decode cL_law 368 = .ok (.invokevirtual 40, 3) := by decide +kernel
theorem dL_law_371 : decode cL_law 371 = .ok (.if_icmp .eq 934, 3) := by decide +kernel
theorem dL_law_374 : decode cL_law 374 = .ok (.iconst 0, 1) := by decide +kernel
theorem dL_law_375 : decode cL_law 375 = .ok (.ireturn, 1) := by decide +kernel
theorem dL_law_376 : decode cL_law 376 = .ok (.aload_n 1, 1) := by decide +kernel
theorem dL_law_377 : decode cL_law 377 = .ok (.aload_n 0, 1) := by decide +kernel
theorem dL_law_378 : decode cL_law 378 = .ok (.iload_n 3, 1) := by decide +kernel
theorem dL_law_379 : decode cL_law 379 = .ok (.iconst 1, 1) := by decide +kernel
theorem dL_law_380 : decode cL_law 380 = .ok (.iadd, 1) := by decide +kernel
theorem dL_law_381 : decode cL_law 381 = .ok (.iaload, 1) := by decide +kernel
theorem dL_law_382 : decode cL_law 382 = .ok (.aload_n 0, 1) := by decide +kernel
theorem dL_law_383 : decode cL_law 383 = .ok (.iload_n 3, 1) := by decide +kernel
theorem dL_law_384 : decode cL_law 384 = .ok (.iconst 2, 1) := by decide +kernel
theorem dL_law_385 : decode cL_law 385 = .ok (.iadd, 1) := by decide +kernel
theorem dL_law_386 : decode cL_law 386 = .ok (.iaload, 1) := by decide +kernel
theorem dL_law_387 : decode cL_law 387 = .ok (.aload_n 0, 1) := by decide +kernel
theorem dL_law_388 : decode cL_law 388 = .ok (.iload_n 3, 1) := by decide +kernel
theorem dL_law_389 : decode cL_law 389 = .ok (.iconst 3, 1) := by decide +kernel
theorem dL_law_390 : decode cL_law 390 = .ok (.iadd, 1) := by decide +kernel
theorem dL_law_391 : decode cL_law 391 = .ok (.iaload, 1) := by decide +kernel
theorem dL_law_392 : decode cL_law 392 = .ok (.invokevirtual 41, 3) := by decide +kernel
theorem dL_law_395 : decode cL_law 395 = .ok (.aload_n 2, 1) := by decide +kernel
theorem dL_law_396 : decode cL_law 396 = .ok (.aload_n 0, 1) := by decide +kernel
theorem dL_law_397 : decode cL_law 397 = .ok (.iload_n 3, 1) := by decide +kernel
theorem dL_law_398 : decode cL_law 398 = .ok (.iconst 1, 1) := by decide +kernel
theorem dL_law_399 : decode cL_law 399 = .ok (.iadd, 1) := by decide +kernel
theorem dL_law_400 : decode cL_law 400 = .ok (.iaload, 1) := by decide +kernel
theorem dL_law_401 : decode cL_law 401 = .ok (.aload_n 0, 1) := by decide +kernel
theorem dL_law_402 : decode cL_law 402 = .ok (.iload_n 3, 1) := by decide +kernel
theorem dL_law_403 : decode cL_law 403 = .ok (.iconst 2, 1) := by decide +kernel
theorem dL_law_404 : decode cL_law 404 = .ok (.iadd, 1) := by decide +kernel
theorem dL_law_405 : decode cL_law 405 = .ok (.iaload, 1) := by decide +kernel
theorem dL_law_406 : decode cL_law 406 = .ok (.aload_n 0, 1) := by decide +kernel
theorem dL_law_407 : decode cL_law 407 = .ok (.iload_n 3, 1) := by decide +kernel
theorem dL_law_408 : decode cL_law 408 = .ok (.iconst 3, 1) := by decide +kernel
theorem dL_law_409 : decode cL_law 409 = .ok (.iadd, 1) := by decide +kernel
theorem dL_law_410 : decode cL_law 410 = .ok (.iaload, 1) := by decide +kernel
theorem dL_law_411 : decode cL_law 411 = .ok (.invokevirtual 45, 3) := by decide +kernel
theorem dL_law_414 : decode cL_law 414 = .ok (.if_icmp .eq 891, 3) := by decide +kernel
theorem dL_law_417 : decode cL_law 417 = .ok (.iconst 0, 1) := by decide +kernel
theorem dL_law_418 : decode cL_law 418 = .ok (.ireturn, 1) := by decide +kernel
theorem dL_law_419 : decode cL_law 419 = .ok (.aload_n 1, 1) := by decide +kernel
theorem dL_law_420 : decode cL_law 420 = .ok (.aload_n 0, 1) := by decide +kernel
theorem dL_law_421 : decode cL_law 421 = .ok (.iload_n 3, 1) := by decide +kernel
theorem dL_law_422 : decode cL_law 422 = .ok (.iconst 1, 1) := by decide +kernel
theorem dL_law_423 : decode cL_law 423 = .ok (.iadd, 1) := by decide +kernel
theorem dL_law_424 : decode cL_law 424 = .ok (.iaload, 1) := by decide +kernel
theorem dL_law_425 : decode cL_law 425 = .ok (.aload_n 0, 1) := by decide +kernel
theorem dL_law_426 : decode cL_law 426 = .ok (.iload_n 3, 1) := by decide +kernel
theorem dL_law_427 : decode cL_law 427 = .ok (.iconst 2, 1) := by decide +kernel
theorem dL_law_428 : decode cL_law 428 = .ok (.iadd, 1) := by decide +kernel
theorem dL_law_429 : decode cL_law 429 = .ok (.iaload, 1) := by decide +kernel
theorem dL_law_430 : decode cL_law 430 = .ok (.invokevirtual 46, 3) := by decide +kernel
theorem dL_law_433 : decode cL_law 433 = .ok (.aload_n 2, 1) := by decide +kernel
theorem dL_law_434 : decode cL_law 434 = .ok (.aload_n 0, 1) := by decide +kernel
theorem dL_law_435 : decode cL_law 435 = .ok (.iload_n 3, 1) := by decide +kernel
theorem dL_law_436 : decode cL_law 436 = .ok (.iconst 1, 1) := by decide +kernel
theorem dL_law_437 : decode cL_law 437 = .ok (.iadd, 1) := by decide +kernel
theorem dL_law_438 : decode cL_law 438 = .ok (.iaload, 1) := by decide +kernel
theorem dL_law_439 : decode cL_law 439 = .ok (.aload_n 0, 1) := by decide +kernel
theorem dL_law_440 : decode cL_law 440 = .ok (.iload_n 3, 1) := by decide +kernel
theorem dL_law_441 : decode cL_law 441 = .ok (.iconst 2, 1) := by decide +kernel
theorem dL_law_442 : decode cL_law 442 = .ok (.iadd, 1) := by decide +kernel
theorem dL_law_443 : decode cL_law 443 = .ok (.iaload, 1) := by decide +kernel
theorem dL_law_444 : decode cL_law 444 = .ok (.invokevirtual 49, 3) := by decide +kernel
theorem dL_law_447 : decode cL_law 447 = .ok (.if_icmp .eq 858, 3) := by decide +kernel
theorem dL_law_450 : decode cL_law 450 = .ok (.iconst 0, 1) := by decide +kernel
theorem dL_law_451 : decode cL_law 451 = .ok (.ireturn, 1) := by decide +kernel
theorem dL_law_452 : decode cL_law 452 = .ok (.aload_n 1, 1) := by decide +kernel
theorem dL_law_453 : decode cL_law 453 = .ok (.aload_n 0, 1) := by decide +kernel
theorem dL_law_454 : decode cL_law 454 = .ok (.iload_n 3, 1) := by decide +kernel
theorem dL_law_455 : decode cL_law 455 = .ok (.iconst 1, 1) := by decide +kernel
theorem dL_law_456 : decode cL_law 456 = .ok (.iadd, 1) := by decide +kernel
theorem dL_law_457 : decode cL_law 457 = .ok (.iaload, 1) := by decide +kernel
theorem dL_law_458 : decode cL_law 458 = .ok (.aload_n 0, 1) := by decide +kernel
theorem dL_law_459 : decode cL_law 459 = .ok (.iload_n 3, 1) := by decide +kernel
theorem dL_law_460 : decode cL_law 460 = .ok (.iconst 2, 1) := by decide +kernel
theorem dL_law_461 : decode cL_law 461 = .ok (.iadd, 1) := by decide +kernel
theorem dL_law_462 : decode cL_law 462 = .ok (.iaload, 1) := by decide +kernel
theorem dL_law_463 : decode cL_law 463 = .ok (.invokevirtual 50, 3) := by decide +kernel
theorem dL_law_466 : decode cL_law 466 = .ok (.aload_n 2, 1) := by decide +kernel
theorem dL_law_467 : decode cL_law 467 = .ok (.aload_n 0, 1) := by decide +kernel
theorem dL_law_468 : decode cL_law 468 = .ok (.iload_n 3, 1) := by decide +kernel
theorem dL_law_469 : decode cL_law 469 = .ok (.iconst 1, 1) := by decide +kernel
theorem dL_law_470 : decode cL_law 470 = .ok (.iadd, 1) := by decide +kernel
theorem dL_law_471 : decode cL_law 471 = .ok (.iaload, 1) := by decide +kernel
theorem dL_law_472 : decode cL_law 472 = .ok (.aload_n 0, 1) := by decide +kernel
theorem dL_law_473 : decode cL_law 473 = .ok (.iload_n 3, 1) := by decide +kernel
theorem dL_law_474 : decode cL_law 474 = .ok (.iconst 2, 1) := by decide +kernel
theorem dL_law_475 : decode cL_law 475 = .ok (.iadd, 1) := by decide +kernel
theorem dL_law_476 : decode cL_law 476 = .ok (.iaload, 1) := by decide +kernel
theorem dL_law_477 : decode cL_law 477 = .ok (.invokevirtual 53, 3) := by decide +kernel
theorem dL_law_480 : decode cL_law 480 = .ok (.if_icmp .eq 825, 3) := by decide +kernel
theorem dL_law_483 : decode cL_law 483 = .ok (.iconst 0, 1) := by decide +kernel
theorem dL_law_484 : decode cL_law 484 = .ok (.ireturn, 1) := by decide +kernel
theorem dL_law_485 : decode cL_law 485 = .ok (.aload_n 1, 1) := by decide +kernel
theorem dL_law_486 : decode cL_law 486 = .ok (.aload_n 0, 1) := by decide +kernel
theorem dL_law_487 : decode cL_law 487 = .ok (.iload_n 3, 1) := by decide +kernel
theorem dL_law_488 : decode cL_law 488 = .ok (.iconst 1, 1) := by decide +kernel
theorem dL_law_489 : decode cL_law 489 = .ok (.iadd, 1) := by decide +kernel
theorem dL_law_490 : decode cL_law 490 = .ok (.iaload, 1) := by decide +kernel
theorem dL_law_491 : decode cL_law 491 = .ok (.aload_n 0, 1) := by decide +kernel
theorem dL_law_492 : decode cL_law 492 = .ok (.iload_n 3, 1) := by decide +kernel
theorem dL_law_493 : decode cL_law 493 = .ok (.iconst 2, 1) := by decide +kernel
theorem dL_law_494 : decode cL_law 494 = .ok (.iadd, 1) := by decide +kernel
theorem dL_law_495 : decode cL_law 495 = .ok (.iaload, 1) := by decide +kernel
theorem dL_law_496 : decode cL_law 496 = .ok (.invokevirtual 54, 3) := by decide +kernel
theorem dL_law_499 : decode cL_law 499 = .ok (.aload_n 2, 1) := by decide +kernel
theorem dL_law_500 : decode cL_law 500 = .ok (.aload_n 0, 1) := by decide +kernel
theorem dL_law_501 : decode cL_law 501 = .ok (.iload_n 3, 1) := by decide +kernel
theorem dL_law_502 : decode cL_law 502 = .ok (.iconst 1, 1) := by decide +kernel
theorem dL_law_503 : decode cL_law 503 = .ok (.iadd, 1) := by decide +kernel
theorem dL_law_504 : decode cL_law 504 = .ok (.iaload, 1) := by decide +kernel
theorem dL_law_505 : decode cL_law 505 = .ok (.aload_n 0, 1) := by decide +kernel
theorem dL_law_506 : decode cL_law 506 = .ok (.iload_n 3, 1) := by decide +kernel
theorem dL_law_507 : decode cL_law 507 = .ok (.iconst 2, 1) := by decide +kernel
theorem dL_law_508 : decode cL_law 508 = .ok (.iadd, 1) := by decide +kernel
theorem dL_law_509 : decode cL_law 509 = .ok (.iaload, 1) := by decide +kernel
theorem dL_law_510 : decode cL_law 510 = .ok (.invokevirtual 57, 3) := by decide +kernel
theorem dL_law_513 : decode cL_law 513 = .ok (.if_icmp .eq 792, 3) := by decide +kernel
theorem dL_law_516 : decode cL_law 516 = .ok (.iconst 0, 1) := by decide +kernel
theorem dL_law_517 : decode cL_law 517 = .ok (.ireturn, 1) := by decide +kernel
theorem dL_law_518 : decode cL_law 518 = .ok (.aload_n 1, 1) := by decide +kernel
theorem dL_law_519 : decode cL_law 519 = .ok (.aload_n 0, 1) := by decide +kernel
theorem dL_law_520 : decode cL_law 520 = .ok (.iload_n 3, 1) := by decide +kernel
theorem dL_law_521 : decode cL_law 521 = .ok (.iconst 1, 1) := by decide +kernel
theorem dL_law_522 : decode cL_law 522 = .ok (.iadd, 1) := by decide +kernel
theorem dL_law_523 : decode cL_law 523 = .ok (.iaload, 1) := by decide +kernel
theorem dL_law_524 : decode cL_law 524 = .ok (.aload_n 0, 1) := by decide +kernel
theorem dL_law_525 : decode cL_law 525 = .ok (.iload_n 3, 1) := by decide +kernel
theorem dL_law_526 : decode cL_law 526 = .ok (.iconst 2, 1) := by decide +kernel
theorem dL_law_527 : decode cL_law 527 = .ok (.iadd, 1) := by decide +kernel
theorem dL_law_528 : decode cL_law 528 = .ok (.iaload, 1) := by decide +kernel
theorem dL_law_529 : decode cL_law 529 = .ok (.aload_n 0, 1) := by decide +kernel
theorem dL_law_530 : decode cL_law 530 = .ok (.iload_n 3, 1) := by decide +kernel
theorem dL_law_531 : decode cL_law 531 = .ok (.iconst 3, 1) := by decide +kernel
theorem dL_law_532 : decode cL_law 532 = .ok (.iadd, 1) := by decide +kernel
theorem dL_law_533 : decode cL_law 533 = .ok (.iaload, 1) := by decide +kernel
theorem dL_law_534 : decode cL_law 534 = .ok (.aload_n 0, 1) := by decide +kernel
theorem dL_law_535 : decode cL_law 535 = .ok (.iload_n 3, 1) := by decide +kernel
theorem dL_law_536 : decode cL_law 536 = .ok (.iconst 4, 1) := by decide +kernel
theorem dL_law_537 : decode cL_law 537 = .ok (.iadd, 1) := by decide +kernel
theorem dL_law_538 : decode cL_law 538 = .ok (.iaload, 1) := by decide +kernel
theorem dL_law_539 : decode cL_law 539 = .ok (.invokevirtual 58, 3) := by decide +kernel
theorem dL_law_542 : decode cL_law 542 = .ok (.aload_n 2, 1) := by decide +kernel
theorem dL_law_543 : decode cL_law 543 = .ok (.aload_n 0, 1) := by decide +kernel
theorem dL_law_544 : decode cL_law 544 = .ok (.iload_n 3, 1) := by decide +kernel
theorem dL_law_545 : decode cL_law 545 = .ok (.iconst 1, 1) := by decide +kernel
theorem dL_law_546 : decode cL_law 546 = .ok (.iadd, 1) := by decide +kernel
theorem dL_law_547 : decode cL_law 547 = .ok (.iaload, 1) := by decide +kernel
theorem dL_law_548 : decode cL_law 548 = .ok (.aload_n 0, 1) := by decide +kernel
theorem dL_law_549 : decode cL_law 549 = .ok (.iload_n 3, 1) := by decide +kernel
theorem dL_law_550 : decode cL_law 550 = .ok (.iconst 2, 1) := by decide +kernel
theorem dL_law_551 : decode cL_law 551 = .ok (.iadd, 1) := by decide +kernel
theorem dL_law_552 : decode cL_law 552 = .ok (.iaload, 1) := by decide +kernel
theorem dL_law_553 : decode cL_law 553 = .ok (.aload_n 0, 1) := by decide +kernel
theorem dL_law_554 : decode cL_law 554 = .ok (.iload_n 3, 1) := by decide +kernel
theorem dL_law_555 : decode cL_law 555 = .ok (.iconst 3, 1) := by decide +kernel
theorem dL_law_556 : decode cL_law 556 = .ok (.iadd, 1) := by decide +kernel
theorem dL_law_557 : decode cL_law 557 = .ok (.iaload, 1) := by decide +kernel
theorem dL_law_558 : decode cL_law 558 = .ok (.aload_n 0, 1) := by decide +kernel
theorem dL_law_559 : decode cL_law 559 = .ok (.iload_n 3, 1) := by decide +kernel
theorem dL_law_560 : decode cL_law 560 = .ok (.iconst 4, 1) := by decide +kernel
theorem dL_law_561 : decode cL_law 561 = .ok (.iadd, 1) := by decide +kernel
theorem dL_law_562 : decode cL_law 562 = .ok (.iaload, 1) := by decide +kernel
theorem dL_law_563 : decode cL_law 563 = .ok (.invokevirtual 62, 3) := by decide +kernel
theorem dL_law_566 : decode cL_law 566 = .ok (.if_icmp .eq 739, 3) := by decide +kernel
theorem dL_law_569 : decode cL_law 569 = .ok (.iconst 0, 1) := by decide +kernel
theorem dL_law_570 : decode cL_law 570 = .ok (.ireturn, 1) := by decide +kernel
theorem dL_law_571 : decode cL_law 571 = .ok (.aload_n 1, 1) := by decide +kernel
theorem dL_law_572 : decode cL_law 572 = .ok (.invokevirtual 63, 3) := by decide +kernel
theorem dL_law_575 : decode cL_law 575 = .ok (.aload_n 2, 1) := by decide +kernel
theorem dL_law_576 : decode cL_law 576 = .ok (.invokevirtual 66, 3) := by decide +kernel
theorem dL_law_579 : decode cL_law 579 = .ok (.if_icmp .eq 726, 3) := by decide +kernel
theorem dL_law_582 : decode cL_law 582 = .ok (.iconst 0, 1) := by decide +kernel
theorem dL_law_583 : decode cL_law 583 = .ok (.ireturn, 1) := by decide +kernel
theorem dL_law_584 : decode cL_law 584 = .ok (.aload_n 1, 1) := by decide +kernel
theorem dL_law_585 : decode cL_law 585 = .ok (.aload_n 0, 1) := by decide +kernel
theorem dL_law_586 : decode cL_law 586 = .ok (.iload_n 3, 1) := by decide +kernel
theorem dL_law_587 : decode cL_law 587 = .ok (.iconst 1, 1) := by decide +kernel
theorem dL_law_588 : decode cL_law 588 = .ok (.iadd, 1) := by decide +kernel
theorem dL_law_589 : decode cL_law 589 = .ok (.iaload, 1) := by decide +kernel
theorem dL_law_590 : decode cL_law 590 = .ok (.invokevirtual 67, 3) := by decide +kernel
theorem dL_law_593 : decode cL_law 593 = .ok (.aload_n 2, 1) := by decide +kernel
theorem dL_law_594 : decode cL_law 594 = .ok (.aload_n 0, 1) := by decide +kernel
theorem dL_law_595 : decode cL_law 595 = .ok (.iload_n 3, 1) := by decide +kernel
theorem dL_law_596 : decode cL_law 596 = .ok (.iconst 1, 1) := by decide +kernel
theorem dL_law_597 : decode cL_law 597 = .ok (.iadd, 1) := by decide +kernel
theorem dL_law_598 : decode cL_law 598 = .ok (.iaload, 1) := by decide +kernel
theorem dL_law_599 : decode cL_law 599 = .ok (.invokevirtual 70, 3) := by decide +kernel
theorem dL_law_602 : decode cL_law 602 = .ok (.if_icmp .eq 703, 3) := by decide +kernel
theorem dL_law_605 : decode cL_law 605 = .ok (.iconst 0, 1) := by decide +kernel
theorem dL_law_606 : decode cL_law 606 = .ok (.ireturn, 1) := by decide +kernel
theorem dL_law_607 : decode cL_law 607 = .ok (.aload_n 1, 1) := by decide +kernel
theorem dL_law_608 : decode cL_law 608 = .ok (.aload_n 0, 1) := by decide +kernel
theorem dL_law_609 : decode cL_law 609 = .ok (.iload_n 3, 1) := by decide +kernel
theorem dL_law_610 : decode cL_law 610 = .ok (.iconst 1, 1) := by decide +kernel
theorem dL_law_611 : decode cL_law 611 = .ok (.iadd, 1) := by decide +kernel
theorem dL_law_612 : decode cL_law 612 = .ok (.iaload, 1) := by decide +kernel
theorem dL_law_613 : decode cL_law 613 = .ok (.invokevirtual 71, 3) := by decide +kernel
theorem dL_law_616 : decode cL_law 616 = .ok (.aload_n 2, 1) := by decide +kernel
theorem dL_law_617 : decode cL_law 617 = .ok (.aload_n 0, 1) := by decide +kernel
theorem dL_law_618 : decode cL_law 618 = .ok (.iload_n 3, 1) := by decide +kernel
theorem dL_law_619 : decode cL_law 619 = .ok (.iconst 1, 1) := by decide +kernel
theorem dL_law_620 : decode cL_law 620 = .ok (.iadd, 1) := by decide +kernel
theorem dL_law_621 : decode cL_law 621 = .ok (.iaload, 1) := by decide +kernel
theorem dL_law_622 : decode cL_law 622 = .ok (.invokevirtual 74, 3) := by decide +kernel
theorem dL_law_625 : decode cL_law 625 = .ok (.if_icmp .eq 680, 3) := by decide +kernel
theorem dL_law_628 : decode cL_law 628 = .ok (.iconst 0, 1) := by decide +kernel
theorem dL_law_629 : decode cL_law 629 = .ok (.ireturn, 1) := by decide +kernel
theorem dL_law_630 : decode cL_law 630 = .ok (.aload_n 1, 1) := by decide +kernel
theorem dL_law_631 : decode cL_law 631 = .ok (.aload_n 0, 1) := by decide +kernel
theorem dL_law_632 : decode cL_law 632 = .ok (.iload_n 3, 1) := by decide +kernel
theorem dL_law_633 : decode cL_law 633 = .ok (.iconst 1, 1) := by decide +kernel
theorem dL_law_634 : decode cL_law 634 = .ok (.iadd, 1) := by decide +kernel
theorem dL_law_635 : decode cL_law 635 = .ok (.iaload, 1) := by decide +kernel
theorem dL_law_636 : decode cL_law 636 = .ok (.aload_n 0, 1) := by decide +kernel
theorem dL_law_637 : decode cL_law 637 = .ok (.iload_n 3, 1) := by decide +kernel
theorem dL_law_638 : decode cL_law 638 = .ok (.iconst 2, 1) := by decide +kernel
theorem dL_law_639 : decode cL_law 639 = .ok (.iadd, 1) := by decide +kernel
theorem dL_law_640 : decode cL_law 640 = .ok (.iaload, 1) := by decide +kernel
theorem dL_law_641 : decode cL_law 641 = .ok (.invokevirtual 75, 3) := by decide +kernel
theorem dL_law_644 : decode cL_law 644 = .ok (.aload_n 2, 1) := by decide +kernel
theorem dL_law_645 : decode cL_law 645 = .ok (.aload_n 0, 1) := by decide +kernel
theorem dL_law_646 : decode cL_law 646 = .ok (.iload_n 3, 1) := by decide +kernel
theorem dL_law_647 : decode cL_law 647 = .ok (.iconst 1, 1) := by decide +kernel
theorem dL_law_648 : decode cL_law 648 = .ok (.iadd, 1) := by decide +kernel
theorem dL_law_649 : decode cL_law 649 = .ok (.iaload, 1) := by decide +kernel
theorem dL_law_650 : decode cL_law 650 = .ok (.aload_n 0, 1) := by decide +kernel
theorem dL_law_651 : decode cL_law 651 = .ok (.iload_n 3, 1) := by decide +kernel
theorem dL_law_652 : decode cL_law 652 = .ok (.iconst 2, 1) := by decide +kernel
theorem dL_law_653 : decode cL_law 653 = .ok (.iadd, 1) := by decide +kernel
theorem dL_law_654 : decode cL_law 654 = .ok (.iaload, 1) := by decide +kernel
theorem dL_law_655 : decode cL_law 655 = .ok (.invokevirtual 78, 3) := by decide +kernel
theorem dL_law_658 : decode cL_law 658 = .ok (.if_icmp .eq 647, 3) := by decide +kernel
theorem dL_law_661 : decode cL_law 661 = .ok (.iconst 0, 1) := by decide +kernel
theorem dL_law_662 : decode cL_law 662 = .ok (.ireturn, 1) := by decide +kernel
theorem dL_law_663 : decode cL_law 663 = .ok (.aload_n 1, 1) := by decide +kernel
theorem dL_law_664 : decode cL_law 664 = .ok (.aload_n 0, 1) := by decide +kernel
theorem dL_law_665 : decode cL_law 665 = .ok (.iload_n 3, 1) := by decide +kernel
theorem dL_law_666 : decode cL_law 666 = .ok (.iconst 1, 1) := by decide +kernel
theorem dL_law_667 : decode cL_law 667 = .ok (.iadd, 1) := by decide +kernel
theorem dL_law_668 : decode cL_law 668 = .ok (.iaload, 1) := by decide +kernel
theorem dL_law_669 : decode cL_law 669 = .ok (.aload_n 0, 1) := by decide +kernel
theorem dL_law_670 : decode cL_law 670 = .ok (.iload_n 3, 1) := by decide +kernel
theorem dL_law_671 : decode cL_law 671 = .ok (.iconst 2, 1) := by decide +kernel
theorem dL_law_672 : decode cL_law 672 = .ok (.iadd, 1) := by decide +kernel
theorem dL_law_673 : decode cL_law 673 = .ok (.iaload, 1) := by decide +kernel
theorem dL_law_674 : decode cL_law 674 = .ok (.invokevirtual 79, 3) := by decide +kernel
theorem dL_law_677 : decode cL_law 677 = .ok (.aload_n 2, 1) := by decide +kernel
theorem dL_law_678 : decode cL_law 678 = .ok (.aload_n 0, 1) := by decide +kernel
theorem dL_law_679 : decode cL_law 679 = .ok (.iload_n 3, 1) := by decide +kernel
theorem dL_law_680 : decode cL_law 680 = .ok (.iconst 1, 1) := by decide +kernel
theorem dL_law_681 : decode cL_law 681 = .ok (.iadd, 1) := by decide +kernel
theorem dL_law_682 : decode cL_law 682 = .ok (.iaload, 1) := by decide +kernel
theorem dL_law_683 : decode cL_law 683 = .ok (.aload_n 0, 1) := by decide +kernel
theorem dL_law_684 : decode cL_law 684 = .ok (.iload_n 3, 1) := by decide +kernel
theorem dL_law_685 : decode cL_law 685 = .ok (.iconst 2, 1) := by decide +kernel
theorem dL_law_686 : decode cL_law 686 = .ok (.iadd, 1) := by decide +kernel
theorem dL_law_687 : decode cL_law 687 = .ok (.iaload, 1) := by decide +kernel
theorem dL_law_688 : decode cL_law 688 = .ok (.invokevirtual 82, 3) := by decide +kernel
theorem dL_law_691 : decode cL_law 691 = .ok (.if_icmp .eq 614, 3) := by decide +kernel
theorem dL_law_694 : decode cL_law 694 = .ok (.iconst 0, 1) := by decide +kernel
theorem dL_law_695 : decode cL_law 695 = .ok (.ireturn, 1) := by decide +kernel
theorem dL_law_696 : decode cL_law 696 = .ok (.aload_n 1, 1) := by decide +kernel
theorem dL_law_697 : decode cL_law 697 = .ok (.aload_n 0, 1) := by decide +kernel
theorem dL_law_698 : decode cL_law 698 = .ok (.iload_n 3, 1) := by decide +kernel
theorem dL_law_699 : decode cL_law 699 = .ok (.iconst 1, 1) := by decide +kernel
theorem dL_law_700 : decode cL_law 700 = .ok (.iadd, 1) := by decide +kernel
theorem dL_law_701 : decode cL_law 701 = .ok (.iaload, 1) := by decide +kernel
theorem dL_law_702 : decode cL_law 702 = .ok (.aload_n 0, 1) := by decide +kernel
theorem dL_law_703 : decode cL_law 703 = .ok (.iload_n 3, 1) := by decide +kernel
theorem dL_law_704 : decode cL_law 704 = .ok (.iconst 2, 1) := by decide +kernel
theorem dL_law_705 : decode cL_law 705 = .ok (.iadd, 1) := by decide +kernel
theorem dL_law_706 : decode cL_law 706 = .ok (.iaload, 1) := by decide +kernel
theorem dL_law_707 : decode cL_law 707 = .ok (.invokevirtual 83, 3) := by decide +kernel
theorem dL_law_710 : decode cL_law 710 = .ok (.aload_n 2, 1) := by decide +kernel
theorem dL_law_711 : decode cL_law 711 = .ok (.aload_n 0, 1) := by decide +kernel
theorem dL_law_712 : decode cL_law 712 = .ok (.iload_n 3, 1) := by decide +kernel
theorem dL_law_713 : decode cL_law 713 = .ok (.iconst 1, 1) := by decide +kernel
theorem dL_law_714 : decode cL_law 714 = .ok (.iadd, 1) := by decide +kernel
theorem dL_law_715 : decode cL_law 715 = .ok (.iaload, 1) := by decide +kernel
theorem dL_law_716 : decode cL_law 716 = .ok (.aload_n 0, 1) := by decide +kernel
theorem dL_law_717 : decode cL_law 717 = .ok (.iload_n 3, 1) := by decide +kernel
theorem dL_law_718 : decode cL_law 718 = .ok (.iconst 2, 1) := by decide +kernel
theorem dL_law_719 : decode cL_law 719 = .ok (.iadd, 1) := by decide +kernel
theorem dL_law_720 : decode cL_law 720 = .ok (.iaload, 1) := by decide +kernel
theorem dL_law_721 : decode cL_law 721 = .ok (.invokevirtual 86, 3) := by decide +kernel
theorem dL_law_724 : decode cL_law 724 = .ok (.if_icmp .eq 581, 3) := by decide +kernel
theorem dL_law_727 : decode cL_law 727 = .ok (.iconst 0, 1) := by decide +kernel
theorem dL_law_728 : decode cL_law 728 = .ok (.ireturn, 1) := by decide +kernel
theorem dL_law_729 : decode cL_law 729 = .ok (.aload_n 1, 1) := by decide +kernel
theorem dL_law_730 : decode cL_law 730 = .ok (.aload_n 0, 1) := by decide +kernel
theorem dL_law_731 : decode cL_law 731 = .ok (.iload_n 3, 1) := by decide +kernel
theorem dL_law_732 : decode cL_law 732 = .ok (.iconst 1, 1) := by decide +kernel
theorem dL_law_733 : decode cL_law 733 = .ok (.iadd, 1) := by decide +kernel
theorem dL_law_734 : decode cL_law 734 = .ok (.iaload, 1) := by decide +kernel
theorem dL_law_735 : decode cL_law 735 = .ok (.aload_n 0, 1) := by decide +kernel
theorem dL_law_736 : decode cL_law 736 = .ok (.iload_n 3, 1) := by decide +kernel
theorem dL_law_737 : decode cL_law 737 = .ok (.iconst 2, 1) := by decide +kernel
theorem dL_law_738 : decode cL_law 738 = .ok (.iadd, 1) := by decide +kernel
theorem dL_law_739 : decode cL_law 739 = .ok (.iaload, 1) := by decide +kernel
theorem dL_law_740 : decode cL_law 740 = .ok (.aload_n 0, 1) := by decide +kernel
theorem dL_law_741 : decode cL_law 741 = .ok (.iload_n 3, 1) := by decide +kernel
theorem dL_law_742 : decode cL_law 742 = .ok (.iconst 3, 1) := by decide +kernel
theorem dL_law_743 : decode cL_law 743 = .ok (.iadd, 1) := by decide +kernel
theorem dL_law_744 : decode cL_law 744 = .ok (.iaload, 1) := by decide +kernel
theorem dL_law_745 : decode cL_law 745 = .ok (.invokevirtual 87, 3) := by decide +kernel
theorem dL_law_748 : decode cL_law 748 = .ok (.aload_n 2, 1) := by decide +kernel
theorem dL_law_749 : decode cL_law 749 = .ok (.aload_n 0, 1) := by decide +kernel
theorem dL_law_750 : decode cL_law 750 = .ok (.iload_n 3, 1) := by decide +kernel
theorem dL_law_751 : decode cL_law 751 = .ok (.iconst 1, 1) := by decide +kernel
theorem dL_law_752 : decode cL_law 752 = .ok (.iadd, 1) := by decide +kernel
theorem dL_law_753 : decode cL_law 753 = .ok (.iaload, 1) := by decide +kernel
theorem dL_law_754 : decode cL_law 754 = .ok (.aload_n 0, 1) := by decide +kernel
theorem dL_law_755 : decode cL_law 755 = .ok (.iload_n 3, 1) := by decide +kernel
theorem dL_law_756 : decode cL_law 756 = .ok (.iconst 2, 1) := by decide +kernel
theorem dL_law_757 : decode cL_law 757 = .ok (.iadd, 1) := by decide +kernel
theorem dL_law_758 : decode cL_law 758 = .ok (.iaload, 1) := by decide +kernel
theorem dL_law_759 : decode cL_law 759 = .ok (.aload_n 0, 1) := by decide +kernel
theorem dL_law_760 : decode cL_law 760 = .ok (.iload_n 3, 1) := by decide +kernel
theorem dL_law_761 : decode cL_law 761 = .ok (.iconst 3, 1) := by decide +kernel
theorem dL_law_762 : decode cL_law 762 = .ok (.iadd, 1) := by decide +kernel
theorem dL_law_763 : decode cL_law 763 = .ok (.iaload, 1) := by decide +kernel
theorem dL_law_764 : decode cL_law 764 = .ok (.invokevirtual 90, 3) := by decide +kernel
theorem dL_law_767 : decode cL_law 767 = .ok (.if_icmp .eq 538, 3) := by decide +kernel
theorem dL_law_770 : decode cL_law 770 = .ok (.iconst 0, 1) := by decide +kernel
theorem dL_law_771 : decode cL_law 771 = .ok (.ireturn, 1) := by decide +kernel
theorem dL_law_772 : decode cL_law 772 = .ok (.aload_n 1, 1) := by decide +kernel
theorem dL_law_773 : decode cL_law 773 = .ok (.aload_n 0, 1) := by decide +kernel
theorem dL_law_774 : decode cL_law 774 = .ok (.iload_n 3, 1) := by decide +kernel
theorem dL_law_775 : decode cL_law 775 = .ok (.iconst 1, 1) := by decide +kernel
theorem dL_law_776 : decode cL_law 776 = .ok (.iadd, 1) := by decide +kernel
theorem dL_law_777 : decode cL_law 777 = .ok (.iaload, 1) := by decide +kernel
theorem dL_law_778 : decode cL_law 778 = .ok (.aload_n 0, 1) := by decide +kernel
theorem dL_law_779 : decode cL_law 779 = .ok (.iload_n 3, 1) := by decide +kernel
theorem dL_law_780 : decode cL_law 780 = .ok (.iconst 2, 1) := by decide +kernel
theorem dL_law_781 : decode cL_law 781 = .ok (.iadd, 1) := by decide +kernel
theorem dL_law_782 : decode cL_law 782 = .ok (.iaload, 1) := by decide +kernel
theorem dL_law_783 : decode cL_law 783 = .ok (.aload_n 0, 1) := by decide +kernel
theorem dL_law_784 : decode cL_law 784 = .ok (.iload_n 3, 1) := by decide +kernel
theorem dL_law_785 : decode cL_law 785 = .ok (.iconst 3, 1) := by decide +kernel
theorem dL_law_786 : decode cL_law 786 = .ok (.iadd, 1) := by decide +kernel
theorem dL_law_787 : decode cL_law 787 = .ok (.iaload, 1) := by decide +kernel
theorem dL_law_788 : decode cL_law 788 = .ok (.invokevirtual 91, 3) := by decide +kernel
theorem dL_law_791 : decode cL_law 791 = .ok (.aload_n 2, 1) := by decide +kernel
theorem dL_law_792 : decode cL_law 792 = .ok (.aload_n 0, 1) := by decide +kernel
theorem dL_law_793 : decode cL_law 793 = .ok (.iload_n 3, 1) := by decide +kernel
theorem dL_law_794 : decode cL_law 794 = .ok (.iconst 1, 1) := by decide +kernel
theorem dL_law_795 : decode cL_law 795 = .ok (.iadd, 1) := by decide +kernel
theorem dL_law_796 : decode cL_law 796 = .ok (.iaload, 1) := by decide +kernel
theorem dL_law_797 : decode cL_law 797 = .ok (.aload_n 0, 1) := by decide +kernel
theorem dL_law_798 : decode cL_law 798 = .ok (.iload_n 3, 1) := by decide +kernel
theorem dL_law_799 : decode cL_law 799 = .ok (.iconst 2, 1) := by decide +kernel
theorem dL_law_800 : decode cL_law 800 = .ok (.iadd, 1) := by decide +kernel
theorem dL_law_801 : decode cL_law 801 = .ok (.iaload, 1) := by decide +kernel
theorem dL_law_802 : decode cL_law 802 = .ok (.aload_n 0, 1) := by decide +kernel
theorem dL_law_803 : decode cL_law 803 = .ok (.iload_n 3, 1) := by decide +kernel
theorem dL_law_804 : decode cL_law 804 = .ok (.iconst 3, 1) := by decide +kernel
theorem dL_law_805 : decode cL_law 805 = .ok (.iadd, 1) := by decide +kernel
theorem dL_law_806 : decode cL_law 806 = .ok (.iaload, 1) := by decide +kernel
theorem dL_law_807 : decode cL_law 807 = .ok (.invokevirtual 94, 3) := by decide +kernel
theorem dL_law_810 : decode cL_law 810 = .ok (.if_icmp .eq 495, 3) := by decide +kernel
theorem dL_law_813 : decode cL_law 813 = .ok (.iconst 0, 1) := by decide +kernel
theorem dL_law_814 : decode cL_law 814 = .ok (.ireturn, 1) := by decide +kernel
theorem dL_law_815 : decode cL_law 815 = .ok (.aload_n 1, 1) := by decide +kernel
theorem dL_law_816 : decode cL_law 816 = .ok (.aload_n 0, 1) := by decide +kernel
theorem dL_law_817 : decode cL_law 817 = .ok (.iload_n 3, 1) := by decide +kernel
theorem dL_law_818 : decode cL_law 818 = .ok (.iconst 1, 1) := by decide +kernel
theorem dL_law_819 : decode cL_law 819 = .ok (.iadd, 1) := by decide +kernel
theorem dL_law_820 : decode cL_law 820 = .ok (.iaload, 1) := by decide +kernel
theorem dL_law_821 : decode cL_law 821 = .ok (.aload_n 0, 1) := by decide +kernel
theorem dL_law_822 : decode cL_law 822 = .ok (.iload_n 3, 1) := by decide +kernel
theorem dL_law_823 : decode cL_law 823 = .ok (.iconst 2, 1) := by decide +kernel
theorem dL_law_824 : decode cL_law 824 = .ok (.iadd, 1) := by decide +kernel
theorem dL_law_825 : decode cL_law 825 = .ok (.iaload, 1) := by decide +kernel
theorem dL_law_826 : decode cL_law 826 = .ok (.aload_n 0, 1) := by decide +kernel
theorem dL_law_827 : decode cL_law 827 = .ok (.iload_n 3, 1) := by decide +kernel
theorem dL_law_828 : decode cL_law 828 = .ok (.iconst 3, 1) := by decide +kernel
theorem dL_law_829 : decode cL_law 829 = .ok (.iadd, 1) := by decide +kernel
theorem dL_law_830 : decode cL_law 830 = .ok (.iaload, 1) := by decide +kernel
theorem dL_law_831 : decode cL_law 831 = .ok (.invokevirtual 95, 3) := by decide +kernel
theorem dL_law_834 : decode cL_law 834 = .ok (.aload_n 2, 1) := by decide +kernel
theorem dL_law_835 : decode cL_law 835 = .ok (.aload_n 0, 1) := by decide +kernel
theorem dL_law_836 : decode cL_law 836 = .ok (.iload_n 3, 1) := by decide +kernel
theorem dL_law_837 : decode cL_law 837 = .ok (.iconst 1, 1) := by decide +kernel
theorem dL_law_838 : decode cL_law 838 = .ok (.iadd, 1) := by decide +kernel
theorem dL_law_839 : decode cL_law 839 = .ok (.iaload, 1) := by decide +kernel
theorem dL_law_840 : decode cL_law 840 = .ok (.aload_n 0, 1) := by decide +kernel
theorem dL_law_841 : decode cL_law 841 = .ok (.iload_n 3, 1) := by decide +kernel
theorem dL_law_842 : decode cL_law 842 = .ok (.iconst 2, 1) := by decide +kernel
theorem dL_law_843 : decode cL_law 843 = .ok (.iadd, 1) := by decide +kernel
theorem dL_law_844 : decode cL_law 844 = .ok (.iaload, 1) := by decide +kernel
theorem dL_law_845 : decode cL_law 845 = .ok (.aload_n 0, 1) := by decide +kernel
theorem dL_law_846 : decode cL_law 846 = .ok (.iload_n 3, 1) := by decide +kernel
theorem dL_law_847 : decode cL_law 847 = .ok (.iconst 3, 1) := by decide +kernel
theorem dL_law_848 : decode cL_law 848 = .ok (.iadd, 1) := by decide +kernel
theorem dL_law_849 : decode cL_law 849 = .ok (.iaload, 1) := by decide +kernel
theorem dL_law_850 : decode cL_law 850 = .ok (.invokevirtual 98, 3) := by decide +kernel
theorem dL_law_853 : decode cL_law 853 = .ok (.if_icmp .eq 452, 3) := by decide +kernel
theorem dL_law_856 : decode cL_law 856 = .ok (.iconst 0, 1) := by decide +kernel
theorem dL_law_857 : decode cL_law 857 = .ok (.ireturn, 1) := by decide +kernel
theorem dL_law_858 : decode cL_law 858 = .ok (.aload_n 1, 1) := by decide +kernel
theorem dL_law_859 : decode cL_law 859 = .ok (.aload_n 0, 1) := by decide +kernel
theorem dL_law_860 : decode cL_law 860 = .ok (.iload_n 3, 1) := by decide +kernel
theorem dL_law_861 : decode cL_law 861 = .ok (.iconst 1, 1) := by decide +kernel
theorem dL_law_862 : decode cL_law 862 = .ok (.iadd, 1) := by decide +kernel
theorem dL_law_863 : decode cL_law 863 = .ok (.iaload, 1) := by decide +kernel
theorem dL_law_864 : decode cL_law 864 = .ok (.aload_n 0, 1) := by decide +kernel
theorem dL_law_865 : decode cL_law 865 = .ok (.iload_n 3, 1) := by decide +kernel
theorem dL_law_866 : decode cL_law 866 = .ok (.iconst 2, 1) := by decide +kernel
theorem dL_law_867 : decode cL_law 867 = .ok (.iadd, 1) := by decide +kernel
theorem dL_law_868 : decode cL_law 868 = .ok (.iaload, 1) := by decide +kernel
theorem dL_law_869 : decode cL_law 869 = .ok (.invokevirtual 99, 3) := by decide +kernel
theorem dL_law_872 : decode cL_law 872 = .ok (.aload_n 2, 1) := by decide +kernel
theorem dL_law_873 : decode cL_law 873 = .ok (.aload_n 0, 1) := by decide +kernel
theorem dL_law_874 : decode cL_law 874 = .ok (.iload_n 3, 1) := by decide +kernel
theorem dL_law_875 : decode cL_law 875 = .ok (.iconst 1, 1) := by decide +kernel
theorem dL_law_876 : decode cL_law 876 = .ok (.iadd, 1) := by decide +kernel
theorem dL_law_877 : decode cL_law 877 = .ok (.iaload, 1) := by decide +kernel
theorem dL_law_878 : decode cL_law 878 = .ok (.aload_n 0, 1) := by decide +kernel
theorem dL_law_879 : decode cL_law 879 = .ok (.iload_n 3, 1) := by decide +kernel
theorem dL_law_880 : decode cL_law 880 = .ok (.iconst 2, 1) := by decide +kernel
theorem dL_law_881 : decode cL_law 881 = .ok (.iadd, 1) := by decide +kernel
theorem dL_law_882 : decode cL_law 882 = .ok (.iaload, 1) := by decide +kernel
theorem dL_law_883 : decode cL_law 883 = .ok (.invokevirtual 102, 3) := by decide +kernel
theorem dL_law_886 : decode cL_law 886 = .ok (.if_icmp .eq 419, 3) := by decide +kernel
theorem dL_law_889 : decode cL_law 889 = .ok (.iconst 0, 1) := by decide +kernel
theorem dL_law_890 : decode cL_law 890 = .ok (.ireturn, 1) := by decide +kernel
theorem dL_law_891 : decode cL_law 891 = .ok (.aload_n 1, 1) := by decide +kernel
theorem dL_law_892 : decode cL_law 892 = .ok (.aload_n 0, 1) := by decide +kernel
theorem dL_law_893 : decode cL_law 893 = .ok (.iload_n 3, 1) := by decide +kernel
theorem dL_law_894 : decode cL_law 894 = .ok (.iconst 1, 1) := by decide +kernel
theorem dL_law_895 : decode cL_law 895 = .ok (.iadd, 1) := by decide +kernel
theorem dL_law_896 : decode cL_law 896 = .ok (.iaload, 1) := by decide +kernel
theorem dL_law_897 : decode cL_law 897 = .ok (.aload_n 0, 1) := by decide +kernel
theorem dL_law_898 : decode cL_law 898 = .ok (.iload_n 3, 1) := by decide +kernel
theorem dL_law_899 : decode cL_law 899 = .ok (.iconst 2, 1) := by decide +kernel
theorem dL_law_900 : decode cL_law 900 = .ok (.iadd, 1) := by decide +kernel
theorem dL_law_901 : decode cL_law 901 = .ok (.iaload, 1) := by decide +kernel
theorem dL_law_902 : decode cL_law 902 = .ok (.invokevirtual 103, 3) := by decide +kernel
theorem dL_law_905 : decode cL_law 905 = .ok (.aload_n 2, 1) := by decide +kernel
theorem dL_law_906 : decode cL_law 906 = .ok (.aload_n 0, 1) := by decide +kernel
theorem dL_law_907 : decode cL_law 907 = .ok (.iload_n 3, 1) := by decide +kernel
theorem dL_law_908 : decode cL_law 908 = .ok (.iconst 1, 1) := by decide +kernel
theorem dL_law_909 : decode cL_law 909 = .ok (.iadd, 1) := by decide +kernel
theorem dL_law_910 : decode cL_law 910 = .ok (.iaload, 1) := by decide +kernel
theorem dL_law_911 : decode cL_law 911 = .ok (.aload_n 0, 1) := by decide +kernel
theorem dL_law_912 : decode cL_law 912 = .ok (.iload_n 3, 1) := by decide +kernel
theorem dL_law_913 : decode cL_law 913 = .ok (.iconst 2, 1) := by decide +kernel
theorem dL_law_914 : decode cL_law 914 = .ok (.iadd, 1) := by decide +kernel
theorem dL_law_915 : decode cL_law 915 = .ok (.iaload, 1) := by decide +kernel
theorem dL_law_916 : decode cL_law 916 = .ok (.invokevirtual 106, 3) := by decide +kernel
theorem dL_law_919 : decode cL_law 919 = .ok (.if_icmp .eq 386, 3) := by decide +kernel
theorem dL_law_922 : decode cL_law 922 = .ok (.iconst 0, 1) := by decide +kernel
theorem dL_law_923 : decode cL_law 923 = .ok (.ireturn, 1) := by decide +kernel
theorem dL_law_924 : decode cL_law 924 = .ok (.aload_n 1, 1) := by decide +kernel
theorem dL_law_925 : decode cL_law 925 = .ok (.aload_n 0, 1) := by decide +kernel
theorem dL_law_926 : decode cL_law 926 = .ok (.iload_n 3, 1) := by decide +kernel
theorem dL_law_927 : decode cL_law 927 = .ok (.iconst 1, 1) := by decide +kernel
theorem dL_law_928 : decode cL_law 928 = .ok (.iadd, 1) := by decide +kernel
theorem dL_law_929 : decode cL_law 929 = .ok (.iaload, 1) := by decide +kernel
theorem dL_law_930 : decode cL_law 930 = .ok (.invokevirtual 107, 3) := by decide +kernel
theorem dL_law_933 : decode cL_law 933 = .ok (.aload_n 2, 1) := by decide +kernel
theorem dL_law_934 : decode cL_law 934 = .ok (.aload_n 0, 1) := by decide +kernel
theorem dL_law_935 : decode cL_law 935 = .ok (.iload_n 3, 1) := by decide +kernel
theorem dL_law_936 : decode cL_law 936 = .ok (.iconst 1, 1) := by decide +kernel
theorem dL_law_937 : decode cL_law 937 = .ok (.iadd, 1) := by decide +kernel
theorem dL_law_938 : decode cL_law 938 = .ok (.iaload, 1) := by decide +kernel
theorem dL_law_939 : decode cL_law 939 = .ok (.invokevirtual 110, 3) := by decide +kernel
theorem dL_law_942 : decode cL_law 942 = .ok (.if_icmp .eq 363, 3) := by decide +kernel
theorem dL_law_945 : decode cL_law 945 = .ok (.iconst 0, 1) := by decide +kernel
theorem dL_law_946 : decode cL_law 946 = .ok (.ireturn, 1) := by decide +kernel
theorem dL_law_947 : decode cL_law 947 = .ok (.aload_n 1, 1) := by decide +kernel
theorem dL_law_948 : decode cL_law 948 = .ok (.aload_n 0, 1) := by decide +kernel
theorem dL_law_949 : decode cL_law 949 = .ok (.iload_n 3, 1) := by decide +kernel
theorem dL_law_950 : decode cL_law 950 = .ok (.iconst 1, 1) := by decide +kernel
theorem dL_law_951 : decode cL_law 951 = .ok (.iadd, 1) := by decide +kernel
theorem dL_law_952 : decode cL_law 952 = .ok (.iaload, 1) := by decide +kernel
theorem dL_law_953 : decode cL_law 953 = .ok (.invokevirtual 111, 3) := by decide +kernel
theorem dL_law_956 : decode cL_law 956 = .ok (.aload_n 2, 1) := by decide +kernel
theorem dL_law_957 : decode cL_law 957 = .ok (.aload_n 0, 1) := by decide +kernel
theorem dL_law_958 : decode cL_law 958 = .ok (.iload_n 3, 1) := by decide +kernel
theorem dL_law_959 : decode cL_law 959 = .ok (.iconst 1, 1) := by decide +kernel
theorem dL_law_960 : decode cL_law 960 = .ok (.iadd, 1) := by decide +kernel
theorem dL_law_961 : decode cL_law 961 = .ok (.iaload, 1) := by decide +kernel
theorem dL_law_962 : decode cL_law 962 = .ok (.invokevirtual 115, 3) := by decide +kernel
theorem dL_law_965 : decode cL_law 965 = .ok (.lcmp, 1) := by decide +kernel
theorem dL_law_966 : decode cL_law 966 = .ok (.ifCond .eq 339, 3) := by decide +kernel
theorem dL_law_969 : decode cL_law 969 = .ok (.iconst 0, 1) := by decide +kernel
theorem dL_law_970 : decode cL_law 970 = .ok (.ireturn, 1) := by decide +kernel
theorem dL_law_971 : decode cL_law 971 = .ok (.aload_n 1, 1) := by decide +kernel
theorem dL_law_972 : decode cL_law 972 = .ok (.aload_n 0, 1) := by decide +kernel
theorem dL_law_973 : decode cL_law 973 = .ok (.iload_n 3, 1) := by decide +kernel
theorem dL_law_974 : decode cL_law 974 = .ok (.iconst 1, 1) := by decide +kernel
theorem dL_law_975 : decode cL_law 975 = .ok (.iadd, 1) := by decide +kernel
theorem dL_law_976 : decode cL_law 976 = .ok (.iaload, 1) := by decide +kernel
theorem dL_law_977 : decode cL_law 977 = .ok (.aload_n 0, 1) := by decide +kernel
theorem dL_law_978 : decode cL_law 978 = .ok (.iload_n 3, 1) := by decide +kernel
theorem dL_law_979 : decode cL_law 979 = .ok (.iconst 2, 1) := by decide +kernel
theorem dL_law_980 : decode cL_law 980 = .ok (.iadd, 1) := by decide +kernel
theorem dL_law_981 : decode cL_law 981 = .ok (.iaload, 1) := by decide +kernel
theorem dL_law_982 : decode cL_law 982 = .ok (.invokevirtual 116, 3) := by decide +kernel
theorem dL_law_985 : decode cL_law 985 = .ok (.aload_n 2, 1) := by decide +kernel
theorem dL_law_986 : decode cL_law 986 = .ok (.aload_n 0, 1) := by decide +kernel
theorem dL_law_987 : decode cL_law 987 = .ok (.iload_n 3, 1) := by decide +kernel
theorem dL_law_988 : decode cL_law 988 = .ok (.iconst 1, 1) := by decide +kernel
theorem dL_law_989 : decode cL_law 989 = .ok (.iadd, 1) := by decide +kernel
theorem dL_law_990 : decode cL_law 990 = .ok (.iaload, 1) := by decide +kernel
theorem dL_law_991 : decode cL_law 991 = .ok (.aload_n 0, 1) := by decide +kernel
theorem dL_law_992 : decode cL_law 992 = .ok (.iload_n 3, 1) := by decide +kernel
theorem dL_law_993 : decode cL_law 993 = .ok (.iconst 2, 1) := by decide +kernel
theorem dL_law_994 : decode cL_law 994 = .ok (.iadd, 1) := by decide +kernel
theorem dL_law_995 : decode cL_law 995 = .ok (.iaload, 1) := by decide +kernel
theorem dL_law_996 : decode cL_law 996 = .ok (.invokevirtual 119, 3) := by decide +kernel
theorem dL_law_999 : decode cL_law 999 = .ok (.if_icmp .eq 306, 3) := by decide +kernel
theorem dL_law_1002 : decode cL_law 1002 = .ok (.iconst 0, 1) := by decide +kernel
theorem dL_law_1003 : decode cL_law 1003 = .ok (.ireturn, 1) := by decide +kernel
theorem dL_law_1004 : decode cL_law 1004 = .ok (.aload_n 1, 1) := by decide +kernel
theorem dL_law_1005 : decode cL_law 1005 = .ok (.aload_n 0, 1) := by decide +kernel
theorem dL_law_1006 : decode cL_law 1006 = .ok (.iload_n 3, 1) := by decide +kernel
theorem dL_law_1007 : decode cL_law 1007 = .ok (.iconst 1, 1) := by decide +kernel
theorem dL_law_1008 : decode cL_law 1008 = .ok (.iadd, 1) := by decide +kernel
theorem dL_law_1009 : decode cL_law 1009 = .ok (.iaload, 1) := by decide +kernel
theorem dL_law_1010 : decode cL_law 1010 = .ok (.aload_n 0, 1) := by decide +kernel
theorem dL_law_1011 : decode cL_law 1011 = .ok (.iload_n 3, 1) := by decide +kernel
theorem dL_law_1012 : decode cL_law 1012 = .ok (.iconst 2, 1) := by decide +kernel
theorem dL_law_1013 : decode cL_law 1013 = .ok (.iadd, 1) := by decide +kernel
theorem dL_law_1014 : decode cL_law 1014 = .ok (.iaload, 1) := by decide +kernel
theorem dL_law_1015 : decode cL_law 1015 = .ok (.invokevirtual 120, 3) := by decide +kernel
theorem dL_law_1018 : decode cL_law 1018 = .ok (.aload_n 2, 1) := by decide +kernel
theorem dL_law_1019 : decode cL_law 1019 = .ok (.aload_n 0, 1) := by decide +kernel
theorem dL_law_1020 : decode cL_law 1020 = .ok (.iload_n 3, 1) := by decide +kernel
theorem dL_law_1021 : decode cL_law 1021 = .ok (.iconst 1, 1) := by decide +kernel
theorem dL_law_1022 : decode cL_law 1022 = .ok (.iadd, 1) := by decide +kernel
theorem dL_law_1023 : decode cL_law 1023 = .ok (.iaload, 1) := by decide +kernel
theorem dL_law_1024 : decode cL_law 1024 = .ok (.aload_n 0, 1) := by decide +kernel
theorem dL_law_1025 : decode cL_law 1025 = .ok (.iload_n 3, 1) := by decide +kernel
theorem dL_law_1026 : decode cL_law 1026 = .ok (.iconst 2, 1) := by decide +kernel
theorem dL_law_1027 : decode cL_law 1027 = .ok (.iadd, 1) := by decide +kernel
theorem dL_law_1028 : decode cL_law 1028 = .ok (.iaload, 1) := by decide +kernel
theorem dL_law_1029 : decode cL_law 1029 = .ok (.invokevirtual 123, 3) := by decide +kernel
theorem dL_law_1032 : decode cL_law 1032 = .ok (.if_icmp .eq 273, 3) := by decide +kernel
theorem dL_law_1035 : decode cL_law 1035 = .ok (.iconst 0, 1) := by decide +kernel
theorem dL_law_1036 : decode cL_law 1036 = .ok (.ireturn, 1) := by decide +kernel
theorem dL_law_1037 : decode cL_law 1037 = .ok (.aload_n 1, 1) := by decide +kernel
theorem dL_law_1038 : decode cL_law 1038 = .ok (.aload_n 0, 1) := by decide +kernel
theorem dL_law_1039 : decode cL_law 1039 = .ok (.iload_n 3, 1) := by decide +kernel
theorem dL_law_1040 : decode cL_law 1040 = .ok (.iconst 1, 1) := by decide +kernel
theorem dL_law_1041 : decode cL_law 1041 = .ok (.iadd, 1) := by decide +kernel
theorem dL_law_1042 : decode cL_law 1042 = .ok (.iaload, 1) := by decide +kernel
theorem dL_law_1043 : decode cL_law 1043 = .ok (.aload_n 0, 1) := by decide +kernel
theorem dL_law_1044 : decode cL_law 1044 = .ok (.iload_n 3, 1) := by decide +kernel
theorem dL_law_1045 : decode cL_law 1045 = .ok (.iconst 2, 1) := by decide +kernel
theorem dL_law_1046 : decode cL_law 1046 = .ok (.iadd, 1) := by decide +kernel
theorem dL_law_1047 : decode cL_law 1047 = .ok (.iaload, 1) := by decide +kernel
theorem dL_law_1048 : decode cL_law 1048 = .ok (.aload_n 0, 1) := by decide +kernel
theorem dL_law_1049 : decode cL_law 1049 = .ok (.iload_n 3, 1) := by decide +kernel
theorem dL_law_1050 : decode cL_law 1050 = .ok (.iconst 3, 1) := by decide +kernel
theorem dL_law_1051 : decode cL_law 1051 = .ok (.iadd, 1) := by decide +kernel
theorem dL_law_1052 : decode cL_law 1052 = .ok (.iaload, 1) := by decide +kernel
theorem dL_law_1053 : decode cL_law 1053 = .ok (.invokevirtual 124, 3) := by decide +kernel
theorem dL_law_1056 : decode cL_law 1056 = .ok (.aload_n 2, 1) := by decide +kernel
theorem dL_law_1057 : decode cL_law 1057 = .ok (.aload_n 0, 1) := by decide +kernel
theorem dL_law_1058 : decode cL_law 1058 = .ok (.iload_n 3, 1) := by decide +kernel
theorem dL_law_1059 : decode cL_law 1059 = .ok (.iconst 1, 1) := by decide +kernel
theorem dL_law_1060 : decode cL_law 1060 = .ok (.iadd, 1) := by decide +kernel
theorem dL_law_1061 : decode cL_law 1061 = .ok (.iaload, 1) := by decide +kernel
theorem dL_law_1062 : decode cL_law 1062 = .ok (.aload_n 0, 1) := by decide +kernel
theorem dL_law_1063 : decode cL_law 1063 = .ok (.iload_n 3, 1) := by decide +kernel
theorem dL_law_1064 : decode cL_law 1064 = .ok (.iconst 2, 1) := by decide +kernel
theorem dL_law_1065 : decode cL_law 1065 = .ok (.iadd, 1) := by decide +kernel
theorem dL_law_1066 : decode cL_law 1066 = .ok (.iaload, 1) := by decide +kernel
theorem dL_law_1067 : decode cL_law 1067 = .ok (.aload_n 0, 1) := by decide +kernel
theorem dL_law_1068 : decode cL_law 1068 = .ok (.iload_n 3, 1) := by decide +kernel
theorem dL_law_1069 : decode cL_law 1069 = .ok (.iconst 3, 1) := by decide +kernel
theorem dL_law_1070 : decode cL_law 1070 = .ok (.iadd, 1) := by decide +kernel
theorem dL_law_1071 : decode cL_law 1071 = .ok (.iaload, 1) := by decide +kernel
theorem dL_law_1072 : decode cL_law 1072 = .ok (.invokevirtual 127, 3) := by decide +kernel
theorem dL_law_1075 : decode cL_law 1075 = .ok (.if_icmp .eq 230, 3) := by decide +kernel
theorem dL_law_1078 : decode cL_law 1078 = .ok (.iconst 0, 1) := by decide +kernel
theorem dL_law_1079 : decode cL_law 1079 = .ok (.ireturn, 1) := by decide +kernel
theorem dL_law_1080 : decode cL_law 1080 = .ok (.aload_n 1, 1) := by decide +kernel
theorem dL_law_1081 : decode cL_law 1081 = .ok (.aload_n 0, 1) := by decide +kernel
theorem dL_law_1082 : decode cL_law 1082 = .ok (.iload_n 3, 1) := by decide +kernel
theorem dL_law_1083 : decode cL_law 1083 = .ok (.iconst 1, 1) := by decide +kernel
theorem dL_law_1084 : decode cL_law 1084 = .ok (.iadd, 1) := by decide +kernel
theorem dL_law_1085 : decode cL_law 1085 = .ok (.iaload, 1) := by decide +kernel
theorem dL_law_1086 : decode cL_law 1086 = .ok (.aload_n 0, 1) := by decide +kernel
theorem dL_law_1087 : decode cL_law 1087 = .ok (.iload_n 3, 1) := by decide +kernel
theorem dL_law_1088 : decode cL_law 1088 = .ok (.iconst 2, 1) := by decide +kernel
theorem dL_law_1089 : decode cL_law 1089 = .ok (.iadd, 1) := by decide +kernel
theorem dL_law_1090 : decode cL_law 1090 = .ok (.iaload, 1) := by decide +kernel
theorem dL_law_1091 : decode cL_law 1091 = .ok (.aload_n 0, 1) := by decide +kernel
theorem dL_law_1092 : decode cL_law 1092 = .ok (.iload_n 3, 1) := by decide +kernel
theorem dL_law_1093 : decode cL_law 1093 = .ok (.iconst 3, 1) := by decide +kernel
theorem dL_law_1094 : decode cL_law 1094 = .ok (.iadd, 1) := by decide +kernel
theorem dL_law_1095 : decode cL_law 1095 = .ok (.iaload, 1) := by decide +kernel
theorem dL_law_1096 : decode cL_law 1096 = .ok (.invokevirtual 128, 3) := by decide +kernel
theorem dL_law_1099 : decode cL_law 1099 = .ok (.aload_n 2, 1) := by decide +kernel
theorem dL_law_1100 : decode cL_law 1100 = .ok (.aload_n 0, 1) := by decide +kernel
theorem dL_law_1101 : decode cL_law 1101 = .ok (.iload_n 3, 1) := by decide +kernel
theorem dL_law_1102 : decode cL_law 1102 = .ok (.iconst 1, 1) := by decide +kernel
theorem dL_law_1103 : decode cL_law 1103 = .ok (.iadd, 1) := by decide +kernel
theorem dL_law_1104 : decode cL_law 1104 = .ok (.iaload, 1) := by decide +kernel
theorem dL_law_1105 : decode cL_law 1105 = .ok (.aload_n 0, 1) := by decide +kernel
theorem dL_law_1106 : decode cL_law 1106 = .ok (.iload_n 3, 1) := by decide +kernel
theorem dL_law_1107 : decode cL_law 1107 = .ok (.iconst 2, 1) := by decide +kernel
theorem dL_law_1108 : decode cL_law 1108 = .ok (.iadd, 1) := by decide +kernel
theorem dL_law_1109 : decode cL_law 1109 = .ok (.iaload, 1) := by decide +kernel
theorem dL_law_1110 : decode cL_law 1110 = .ok (.aload_n 0, 1) := by decide +kernel
theorem dL_law_1111 : decode cL_law 1111 = .ok (.iload_n 3, 1) := by decide +kernel
theorem dL_law_1112 : decode cL_law 1112 = .ok (.iconst 3, 1) := by decide +kernel
theorem dL_law_1113 : decode cL_law 1113 = .ok (.iadd, 1) := by decide +kernel
theorem dL_law_1114 : decode cL_law 1114 = .ok (.iaload, 1) := by decide +kernel
theorem dL_law_1115 : decode cL_law 1115 = .ok (.invokevirtual 131, 3) := by decide +kernel
theorem dL_law_1118 : decode cL_law 1118 = .ok (.if_icmp .eq 187, 3) := by decide +kernel
theorem dL_law_1121 : decode cL_law 1121 = .ok (.iconst 0, 1) := by decide +kernel
theorem dL_law_1122 : decode cL_law 1122 = .ok (.ireturn, 1) := by decide +kernel
theorem dL_law_1123 : decode cL_law 1123 = .ok (.aload_n 1, 1) := by decide +kernel
theorem dL_law_1124 : decode cL_law 1124 = .ok (.aload_n 0, 1) := by decide +kernel
theorem dL_law_1125 : decode cL_law 1125 = .ok (.iload_n 3, 1) := by decide +kernel
theorem dL_law_1126 : decode cL_law 1126 = .ok (.iconst 1, 1) := by decide +kernel
theorem dL_law_1127 : decode cL_law 1127 = .ok (.iadd, 1) := by decide +kernel
theorem dL_law_1128 : decode cL_law 1128 = .ok (.iaload, 1) := by decide +kernel
theorem dL_law_1129 : decode cL_law 1129 = .ok (.invokevirtual 132, 3) := by decide +kernel
theorem dL_law_1132 : decode cL_law 1132 = .ok (.aload_n 2, 1) := by decide +kernel
theorem dL_law_1133 : decode cL_law 1133 = .ok (.aload_n 0, 1) := by decide +kernel
theorem dL_law_1134 : decode cL_law 1134 = .ok (.iload_n 3, 1) := by decide +kernel
theorem dL_law_1135 : decode cL_law 1135 = .ok (.iconst 1, 1) := by decide +kernel
theorem dL_law_1136 : decode cL_law 1136 = .ok (.iadd, 1) := by decide +kernel
theorem dL_law_1137 : decode cL_law 1137 = .ok (.iaload, 1) := by decide +kernel
theorem dL_law_1138 : decode cL_law 1138 = .ok (.invokevirtual 135, 3) := by decide +kernel
theorem dL_law_1141 : decode cL_law 1141 = .ok (.if_icmp .eq 164, 3) := by decide +kernel
theorem dL_law_1144 : decode cL_law 1144 = .ok (.iconst 0, 1) := by decide +kernel
theorem dL_law_1145 : decode cL_law 1145 = .ok (.ireturn, 1) := by decide +kernel
theorem dL_law_1146 : decode cL_law 1146 = .ok (.aload_n 1, 1) := by decide +kernel
theorem dL_law_1147 : decode cL_law 1147 = .ok (.aload_n 0, 1) := by decide +kernel
theorem dL_law_1148 : decode cL_law 1148 = .ok (.iload_n 3, 1) := by decide +kernel
theorem dL_law_1149 : decode cL_law 1149 = .ok (.iconst 1, 1) := by decide +kernel
theorem dL_law_1150 : decode cL_law 1150 = .ok (.iadd, 1) := by decide +kernel
theorem dL_law_1151 : decode cL_law 1151 = .ok (.iaload, 1) := by decide +kernel
theorem dL_law_1152 : decode cL_law 1152 = .ok (.invokevirtual 136, 3) := by decide +kernel
theorem dL_law_1155 : decode cL_law 1155 = .ok (.aload_n 2, 1) := by decide +kernel
theorem dL_law_1156 : decode cL_law 1156 = .ok (.aload_n 0, 1) := by decide +kernel
theorem dL_law_1157 : decode cL_law 1157 = .ok (.iload_n 3, 1) := by decide +kernel
theorem dL_law_1158 : decode cL_law 1158 = .ok (.iconst 1, 1) := by decide +kernel
theorem dL_law_1159 : decode cL_law 1159 = .ok (.iadd, 1) := by decide +kernel
theorem dL_law_1160 : decode cL_law 1160 = .ok (.iaload, 1) := by decide +kernel
theorem dL_law_1161 : decode cL_law 1161 = .ok (.invokevirtual 139, 3) := by decide +kernel
theorem dL_law_1164 : decode cL_law 1164 = .ok (.if_icmp .eq 141, 3) := by decide +kernel
theorem dL_law_1167 : decode cL_law 1167 = .ok (.iconst 0, 1) := by decide +kernel
theorem dL_law_1168 : decode cL_law 1168 = .ok (.ireturn, 1) := by decide +kernel
theorem dL_law_1169 : decode cL_law 1169 = .ok (.aload_n 1, 1) := by decide +kernel
theorem dL_law_1170 : decode cL_law 1170 = .ok (.aload_n 0, 1) := by decide +kernel
theorem dL_law_1171 : decode cL_law 1171 = .ok (.iload_n 3, 1) := by decide +kernel
theorem dL_law_1172 : decode cL_law 1172 = .ok (.iconst 1, 1) := by decide +kernel
theorem dL_law_1173 : decode cL_law 1173 = .ok (.iadd, 1) := by decide +kernel
theorem dL_law_1174 : decode cL_law 1174 = .ok (.iaload, 1) := by decide +kernel
theorem dL_law_1175 : decode cL_law 1175 = .ok (.aload_n 0, 1) := by decide +kernel
theorem dL_law_1176 : decode cL_law 1176 = .ok (.iload_n 3, 1) := by decide +kernel
theorem dL_law_1177 : decode cL_law 1177 = .ok (.iconst 2, 1) := by decide +kernel
theorem dL_law_1178 : decode cL_law 1178 = .ok (.iadd, 1) := by decide +kernel
theorem dL_law_1179 : decode cL_law 1179 = .ok (.iaload, 1) := by decide +kernel
theorem dL_law_1180 : decode cL_law 1180 = .ok (.invokevirtual 140, 3) := by decide +kernel
theorem dL_law_1183 : decode cL_law 1183 = .ok (.aload_n 2, 1) := by decide +kernel
theorem dL_law_1184 : decode cL_law 1184 = .ok (.aload_n 0, 1) := by decide +kernel
theorem dL_law_1185 : decode cL_law 1185 = .ok (.iload_n 3, 1) := by decide +kernel
theorem dL_law_1186 : decode cL_law 1186 = .ok (.iconst 1, 1) := by decide +kernel
theorem dL_law_1187 : decode cL_law 1187 = .ok (.iadd, 1) := by decide +kernel
theorem dL_law_1188 : decode cL_law 1188 = .ok (.iaload, 1) := by decide +kernel
theorem dL_law_1189 : decode cL_law 1189 = .ok (.aload_n 0, 1) := by decide +kernel
theorem dL_law_1190 : decode cL_law 1190 = .ok (.iload_n 3, 1) := by decide +kernel
theorem dL_law_1191 : decode cL_law 1191 = .ok (.iconst 2, 1) := by decide +kernel
theorem dL_law_1192 : decode cL_law 1192 = .ok (.iadd, 1) := by decide +kernel
theorem dL_law_1193 : decode cL_law 1193 = .ok (.iaload, 1) := by decide +kernel
theorem dL_law_1194 : decode cL_law 1194 = .ok (.invokevirtual 143, 3) := by decide +kernel
theorem dL_law_1197 : decode cL_law 1197 = .ok (.if_icmp .eq 108, 3) := by decide +kernel
theorem dL_law_1200 : decode cL_law 1200 = .ok (.iconst 0, 1) := by decide +kernel
theorem dL_law_1201 : decode cL_law 1201 = .ok (.ireturn, 1) := by decide +kernel
theorem dL_law_1202 : decode cL_law 1202 = .ok (.aload_n 1, 1) := by decide +kernel
theorem dL_law_1203 : decode cL_law 1203 = .ok (.aload_n 0, 1) := by decide +kernel
theorem dL_law_1204 : decode cL_law 1204 = .ok (.iload_n 3, 1) := by decide +kernel
theorem dL_law_1205 : decode cL_law 1205 = .ok (.iconst 1, 1) := by decide +kernel
theorem dL_law_1206 : decode cL_law 1206 = .ok (.iadd, 1) := by decide +kernel
theorem dL_law_1207 : decode cL_law 1207 = .ok (.iaload, 1) := by decide +kernel
