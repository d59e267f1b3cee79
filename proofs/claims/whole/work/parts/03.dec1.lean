theorem dX7_toldBits_5 : decode cX7_toldBits 5 = .ok (.bipush 26, 2) := by decide +kernel
theorem dX7_toldBits_7 : decode cX7_toldBits 7 = .ok (.if_icmp .ge 23, 3) := by decide +kernel
theorem dX7_toldBits_10 : decode cX7_toldBits 10 = .ok (.aload_n 0, 1) := by decide +kernel
theorem dX7_toldBits_11 : decode cX7_toldBits 11 = .ok (.iload_n 2, 1) := by decide +kernel
theorem dX7_toldBits_12 : decode cX7_toldBits 12 = .ok (.invokevirtual 54, 3) := by decide +kernel
theorem dX7_toldBits_15 : decode cX7_toldBits 15 = .ok (.ifCond .eq 9, 3) := by decide +kernel
theorem dX7_toldBits_18 : decode cX7_toldBits 18 = .ok (.iload_n 1, 1) := by decide +kernel
theorem dX7_toldBits_19 : decode cX7_toldBits 19 = .ok (.iconst 1, 1) := by decide +kernel
theorem dX7_toldBits_20 : decode cX7_toldBits 20 = .ok (.iload_n 2, 1) := by decide +kernel
theorem dX7_toldBits_21 : decode cX7_toldBits 21 = .ok (.ishl, 1) := by decide +kernel
theorem dX7_toldBits_22 : decode cX7_toldBits 22 = .ok (.ior, 1) := by decide +kernel
theorem dX7_toldBits_23 : decode cX7_toldBits 23 = .ok (.istore_n 1, 1) := by decide +kernel
theorem dX7_toldBits_24 : decode cX7_toldBits 24 = .ok (.iinc 2 1, 3) := by decide +kernel
theorem dX7_toldBits_27 : decode cX7_toldBits 27 = .ok (.goto (-23), 3) := by decide +kernel
theorem dX7_toldBits_30 : decode cX7_toldBits 30 = .ok (.iload_n 1, 1) := by decide +kernel
theorem dX7_toldBits_31 : decode cX7_toldBits 31 = .ok (.ireturn, 1) := by decide +kernel
theorem dX7_requiredBits_0 : decode cX7_requiredBits 0 = .ok (.iconst 0, 1) := by decide +kernel
theorem dX7_requiredBits_1 : decode cX7_requiredBits 1 = .ok (.istore_n 1, 1) := by decide +kernel
theorem dX7_requiredBits_2 : decode cX7_requiredBits 2 = .ok (.iconst 0, 1) := by decide +kernel
theorem dX7_requiredBits_3 : decode cX7_requiredBits 3 = .ok (.istore_n 2, 1) := by decide +kernel
theorem dX7_requiredBits_4 : decode cX7_requiredBits 4 = .ok (.iload_n 2, 1) := by decide +kernel
theorem dX7_requiredBits_5 : decode cX7_requiredBits 5 = .ok (.bipush 26, 2) := by decide +kernel
theorem dX7_requiredBits_7 : decode cX7_requiredBits 7 = .ok (.if_icmp .ge 23, 3) := by decide +kernel
theorem dX7_requiredBits_10 : decode cX7_requiredBits 10 = .ok (.aload_n 0, 1) := by decide +kernel
theorem dX7_requiredBits_11 : decode cX7_requiredBits 11 = .ok (.iload_n 2, 1) := by decide +kernel
theorem dX7_requiredBits_12 : decode cX7_requiredBits 12 = .ok (.invokevirtual 58, 3) := by decide +kernel
theorem dX7_requiredBits_15 : decode cX7_requiredBits 15 = .ok (.ifCond .eq 9, 3) := by decide +kernel
theorem dX7_requiredBits_18 : decode cX7_requiredBits 18 = .ok (.iload_n 1, 1) := by decide +kernel
theorem dX7_requiredBits_19 : decode cX7_requiredBits 19 = .ok (.iconst 1, 1) := by decide +kernel
theorem dX7_requiredBits_20 : decode cX7_requiredBits 20 = .ok (.iload_n 2, 1) := by decide +kernel
theorem dX7_requiredBits_21 : decode cX7_requiredBits 21 = .ok (.ishl, 1) := by decide +kernel
theorem dX7_requiredBits_22 : decode cX7_requiredBits 22 = .ok (.ior, 1) := by decide +kernel
theorem dX7_requiredBits_23 : decode cX7_requiredBits 23 = .ok (.istore_n 1, 1) := by decide +kernel
theorem dX7_requiredBits_24 : decode cX7_requiredBits 24 = .ok (.iinc 2 1, 3) := by decide +kernel
theorem dX7_requiredBits_27 : decode cX7_requiredBits 27 = .ok (.goto (-23), 3) := by decide +kernel
theorem dX7_requiredBits_30 : decode cX7_requiredBits 30 = .ok (.iload_n 1, 1) := by decide +kernel
theorem dX7_requiredBits_31 : decode cX7_requiredBits 31 = .ok (.ireturn, 1) := by decide +kernel
theorem dX7_addTrait_0 : decode cX7_addTrait 0 = .ok (.aload_n 0, 1) := by decide +kernel
theorem dX7_addTrait_1 : decode cX7_addTrait 1 = .ok (.getfield 18, 3) := by decide +kernel
theorem dX7_addTrait_4 : decode cX7_addTrait 4 = .ok (.getfield 45, 3) := by decide +kernel
theorem dX7_addTrait_7 : decode cX7_addTrait 7 = .ok (.istore_n 2, 1) := by decide +kernel
theorem dX7_addTrait_8 : decode cX7_addTrait 8 = .ok (.iload_n 2, 1) := by decide +kernel
theorem dX7_addTrait_9 : decode cX7_addTrait 9 = .ok (.iconst 4, 1) := by decide +kernel
theorem dX7_addTrait_10 : decode cX7_addTrait 10 = .ok (.if_icmp .lt 4, 3) := by decide +kernel
theorem dX7_addTrait_13 : decode cX7_addTrait 13 = .ok (.return_, 1) := by decide +kernel
theorem dX7_addTrait_14 : decode cX7_addTrait 14 = .ok (.aload_n 0, 1) := by decide +kernel
theorem dX7_addTrait_15 : decode cX7_addTrait 15 = .ok (.getfield 18, 3) := by decide +kernel
theorem dX7_addTrait_18 : decode cX7_addTrait 18 = .ok (.iload_n 1, 1) := by decide +kernel
theorem dX7_addTrait_19 : decode cX7_addTrait 19 = .ok (.invokevirtual 61, 3) := by decide +kernel
theorem dX7_addTrait_22 : decode cX7_addTrait 22 = .ok (.aload_n 0, 1) := by decide +kernel
theorem dX7_addTrait_23 : decode cX7_addTrait 23 = .ok (.getfield 21, 3) := by decide +kernel
theorem dX7_addTrait_26 : decode cX7_addTrait 26 = .ok (.iload_n 2, 1) := by decide +kernel
theorem dX7_addTrait_27 : decode cX7_addTrait 27 = .ok (.iconst 0, 1) := by decide +kernel
theorem dX7_addTrait_28 : decode cX7_addTrait 28 = .ok (.iastore, 1) := by decide +kernel
theorem dX7_addTrait_29 : decode cX7_addTrait 29 = .ok (.iconst 0, 1) := by decide +kernel
theorem dX7_addTrait_30 : decode cX7_addTrait 30 = .ok (.istore_n 3, 1) := by decide +kernel
theorem dX7_addTrait_31 : decode cX7_addTrait 31 = .ok (.iload_n 3, 1) := by decide +kernel
theorem dX7_addTrait_32 : decode cX7_addTrait 32 = .ok (.bipush 26, 2) := by decide +kernel
theorem dX7_addTrait_34 : decode cX7_addTrait 34 = .ok (.if_icmp .ge 21, 3) := by decide +kernel
theorem dX7_addTrait_37 : decode cX7_addTrait 37 = .ok (.aload_n 0, 1) := by decide +kernel
theorem dX7_addTrait_38 : decode cX7_addTrait 38 = .ok (.getfield 31, 3) := by decide +kernel
theorem dX7_addTrait_41 : decode cX7_addTrait 41 = .ok (.iload_n 2, 1) := by decide +kernel
theorem dX7_addTrait_42 : decode cX7_addTrait 42 = .ok (.bipush 26, 2) := by decide +kernel
theorem dX7_addTrait_44 : decode cX7_addTrait 44 = .ok (.imul, 1) := by decide +kernel
theorem dX7_addTrait_45 : decode cX7_addTrait 45 = .ok (.iload_n 3, 1) := by decide +kernel
theorem dX7_addTrait_46 : decode cX7_addTrait 46 = .ok (.iadd, 1) := by decide +kernel
theorem dX7_addTrait_47 : decode cX7_addTrait 47 = .ok (.iload_n 3, 1) := by decide +kernel
theorem dX7_addTrait_48 : decode cX7_addTrait 48 = .ok (.iastore, 1) := by decide +kernel
theorem dX7_addTrait_49 : decode cX7_addTrait 49 = .ok (.iinc 3 1, 3) := by decide +kernel
theorem dX7_addTrait_52 : decode cX7_addTrait 52 = .ok (.goto (-21), 3) := by decide +kernel
theorem dX7_addTrait_55 : decode cX7_addTrait 55 = .ok (.return_, 1) := by decide +kernel
theorem dX7_letterThere_0 : decode cX7_letterThere 0 = .ok (.aload_n 0, 1) := by decide +kernel
theorem dX7_letterThere_1 : decode cX7_letterThere 1 = .ok (.getfield 31, 3) := by decide +kernel
theorem dX7_letterThere_4 : decode cX7_letterThere 4 = .ok (.iload_n 1, 1) := by decide +kernel
theorem dX7_letterThere_5 : decode cX7_letterThere 5 = .ok (.bipush 26, 2) := by decide +kernel
theorem dX7_letterThere_7 : decode cX7_letterThere 7 = .ok (.imul, 1) := by decide +kernel
theorem dX7_letterThere_8 : decode cX7_letterThere 8 = .ok (.iload_n 2, 1) := by decide +kernel
theorem dX7_letterThere_9 : decode cX7_letterThere 9 = .ok (.iadd, 1) := by decide +kernel
theorem dX7_letterThere_10 : decode cX7_letterThere 10 = .ok (.iaload, 1) := by decide +kernel
theorem dX7_letterThere_11 : decode cX7_letterThere 11 = .ok (.ireturn, 1) := by decide +kernel
theorem dX7_setLetterThere_0 : decode cX7_setLetterThere 0 = .ok (.iload_n 1, 1) := by decide +kernel
theorem dX7_setLetterThere_1 : decode cX7_setLetterThere 1 = .ok (.bipush 26, 2) := by decide +kernel
theorem dX7_setLetterThere_3 : decode cX7_setLetterThere 3 = .ok (.imul, 1) := by decide +kernel
theorem dX7_setLetterThere_4 : decode cX7_setLetterThere 4 = .ok (.iload_n 2, 1) := by decide +kernel
theorem dX7_setLetterThere_5 : decode cX7_setLetterThere 5 = .ok (.iadd, 1) := by decide +kernel
theorem dX7_setLetterThere_6 : decode cX7_setLetterThere 6 = .ok (.istore 4, 2) := by decide +kernel
theorem dX7_setLetterThere_8 : decode cX7_setLetterThere 8 = .ok (.aload_n 0, 1) := by decide +kernel
theorem dX7_setLetterThere_9 : decode cX7_setLetterThere 9 = .ok (.getfield 31, 3) := by decide +kernel
theorem dX7_setLetterThere_12 : decode cX7_setLetterThere 12 = .ok (.iload 4, 2) := by decide +kernel
theorem dX7_setLetterThere_14 : decode cX7_setLetterThere 14 = .ok (.iaload, 1) := by decide +kernel
theorem dX7_setLetterThere_15 : decode cX7_setLetterThere 15 = .ok (.iload_n 2, 1) := by decide +kernel
theorem dX7_setLetterThere_16 : decode cX7_setLetterThere 16 = .ok (.if_icmp .eq 13, 3) := by decide +kernel
theorem dX7_setLetterThere_19 : decode cX7_setLetterThere 19 = .ok (.aload_n 0, 1) := by decide +kernel
theorem dX7_setLetterThere_20 : decode cX7_setLetterThere 20 = .ok (.getfield 21, 3) := by decide +kernel
theorem dX7_setLetterThere_23 : decode cX7_setLetterThere 23 = .ok (.iload_n 1, 1) := by decide +kernel
theorem dX7_setLetterThere_24 : decode cX7_setLetterThere 24 = .ok (.dup2, 1) := by decide +kernel
theorem dX7_setLetterThere_25 : decode cX7_setLetterThere 25 = .ok (.iaload, 1) := by decide +kernel
theorem dX7_setLetterThere_26 : decode cX7_setLetterThere 26 = .ok (.iconst 1, 1) := by decide +kernel
theorem dX7_setLetterThere_27 : decode cX7_setLetterThere 27 = .ok (.isub, 1) := by decide +kernel
theorem dX7_setLetterThere_28 : decode cX7_setLetterThere 28 = .ok (.iastore, 1) := by decide +kernel
theorem dX7_setLetterThere_29 : decode cX7_setLetterThere 29 = .ok (.iload_n 3, 1) := by decide +kernel
theorem dX7_setLetterThere_30 : decode cX7_setLetterThere 30 = .ok (.iload_n 2, 1) := by decide +kernel
theorem dX7_setLetterThere_31 : decode cX7_setLetterThere 31 = .ok (.if_icmp .eq 13, 3) := by decide +kernel
theorem dX7_setLetterThere_34 : decode cX7_setLetterThere 34 = .ok (.aload_n 0, 1) := by decide +kernel
theorem dX7_setLetterThere_35 : decode cX7_setLetterThere 35 = .ok (.getfield 21, 3) := by decide +kernel
theorem dX7_setLetterThere_38 : decode cX7_setLetterThere 38 = .ok (.iload_n 1, 1) := by decide +kernel
theorem dX7_setLetterThere_39 : decode cX7_setLetterThere 39 = .ok (.dup2, 1) := by decide +kernel
theorem dX7_setLetterThere_40 : decode cX7_setLetterThere 40 = .ok (.iaload, 1) := by decide +kernel
theorem dX7_setLetterThere_41 : decode cX7_setLetterThere 41 = .ok (.iconst 1, 1) := by decide +kernel
theorem dX7_setLetterThere_42 : decode cX7_setLetterThere 42 = .ok (.iadd, 1) := by decide +kernel
theorem dX7_setLetterThere_43 : decode cX7_setLetterThere 43 = .ok (.iastore, 1) := by decide +kernel
theorem dX7_setLetterThere_44 : decode cX7_setLetterThere 44 = .ok (.aload_n 0, 1) := by decide +kernel
theorem dX7_setLetterThere_45 : decode cX7_setLetterThere 45 = .ok (.getfield 31, 3) := by decide +kernel
theorem dX7_setLetterThere_48 : decode cX7_setLetterThere 48 = .ok (.iload 4, 2) := by decide +kernel
theorem dX7_setLetterThere_50 : decode cX7_setLetterThere 50 = .ok (.iload_n 3, 1) := by decide +kernel
theorem dX7_setLetterThere_51 : decode cX7_setLetterThere 51 = .ok (.iastore, 1) := by decide +kernel
theorem dX7_setLetterThere_52 : decode cX7_setLetterThere 52 = .ok (.return_, 1) := by decide +kernel
theorem dX7_copyFrom_0 : decode cX7_copyFrom 0 = .ok (.aload_n 0, 1) := by decide +kernel
theorem dX7_copyFrom_1 : decode cX7_copyFrom 1 = .ok (.aload_n 1, 1) := by decide +kernel
theorem dX7_copyFrom_2 : decode cX7_copyFrom 2 = .ok (.getfield 34, 3) := by decide +kernel
theorem dX7_copyFrom_5 : decode cX7_copyFrom 5 = .ok (.putfield 34, 3) := by decide +kernel
theorem dX7_copyFrom_8 : decode cX7_copyFrom 8 = .ok (.aload_n 0, 1) := by decide +kernel
theorem dX7_copyFrom_9 : decode cX7_copyFrom 9 = .ok (.aload_n 1, 1) := by decide +kernel
theorem dX7_copyFrom_10 : decode cX7_copyFrom 10 = .ok (.getfield 38, 3) := by decide +kernel
theorem dX7_copyFrom_13 : decode cX7_copyFrom 13 = .ok (.putfield 38, 3) := by decide +kernel
theorem dX7_copyFrom_16 : decode cX7_copyFrom 16 = .ok (.aload_n 0, 1) := by decide +kernel
theorem dX7_copyFrom_17 : decode cX7_copyFrom 17 = .ok (.aload_n 1, 1) := by decide +kernel
theorem dX7_copyFrom_18 : decode cX7_copyFrom 18 = .ok (.getfield 42, 3) := by decide +kernel
theorem dX7_copyFrom_21 : decode cX7_copyFrom 21 = .ok (.putfield 42, 3) := by decide +kernel
theorem dX7_copyFrom_24 : decode cX7_copyFrom 24 = .ok (.aload_n 0, 1) := by decide +kernel
theorem dX7_copyFrom_25 : decode cX7_copyFrom 25 = .ok (.getfield 12, 3) := by decide +kernel
theorem dX7_copyFrom_28 : decode cX7_copyFrom 28 = .ok (.aload_n 1, 1) := by decide +kernel
theorem dX7_copyFrom_29 : decode cX7_copyFrom 29 = .ok (.getfield 12, 3) := by decide +kernel
theorem dX7_copyFrom_32 : decode cX7_copyFrom 32 = .ok (.invokevirtual 65, 3) := by decide +kernel
theorem dX7_copyFrom_35 : decode cX7_copyFrom 35 = .ok (.aload_n 0, 1) := by decide +kernel
theorem dX7_copyFrom_36 : decode cX7_copyFrom 36 = .ok (.getfield 18, 3) := by decide +kernel
theorem dX7_copyFrom_39 : decode cX7_copyFrom 39 = .ok (.aload_n 1, 1) := by decide +kernel
theorem dX7_copyFrom_40 : decode cX7_copyFrom 40 = .ok (.getfield 18, 3) := by decide +kernel
theorem dX7_copyFrom_43 : decode cX7_copyFrom 43 = .ok (.invokevirtual 65, 3) := by decide +kernel
theorem dX7_copyFrom_46 : decode cX7_copyFrom 46 = .ok (.aload_n 1, 1) := by decide +kernel
theorem dX7_copyFrom_47 : decode cX7_copyFrom 47 = .ok (.getfield 21, 3) := by decide +kernel
theorem dX7_copyFrom_50 : decode cX7_copyFrom 50 = .ok (.iconst 0, 1) := by decide +kernel
theorem dX7_copyFrom_51 : decode cX7_copyFrom 51 = .ok (.aload_n 0, 1) := by decide +kernel
theorem dX7_copyFrom_52 : decode cX7_copyFrom 52 = .ok (.getfield 21, 3) := by decide +kernel
theorem dX7_copyFrom_55 : decode cX7_copyFrom 55 = .ok (.iconst 0, 1) := by decide +kernel
theorem dX7_copyFrom_56 : decode cX7_copyFrom 56 = .ok (.aload_n 0, 1) := by decide +kernel
theorem dX7_copyFrom_57 : decode cX7_copyFrom 57 = .ok (.getfield 21, 3) := by decide +kernel
theorem dX7_copyFrom_60 : decode cX7_copyFrom 60 = .ok (.arraylength, 1) := by decide +kernel
theorem dX7_copyFrom_61 : decode cX7_copyFrom 61 = .ok (.invokestatic 69, 3) := by decide +kernel
theorem dX7_copyFrom_64 : decode cX7_copyFrom 64 = .ok (.aload_n 1, 1) := by decide +kernel
theorem dX7_copyFrom_65 : decode cX7_copyFrom 65 = .ok (.getfield 25, 3) := by decide +kernel
theorem dX7_copyFrom_68 : decode cX7_copyFrom 68 = .ok (.iconst 0, 1) := by decide +kernel
theorem dX7_copyFrom_69 : decode cX7_copyFrom 69 = .ok (.aload_n 0, 1) := by decide +kernel
theorem dX7_copyFrom_70 : decode cX7_copyFrom 70 = .ok (.getfield 25, 3) := by decide +kernel
theorem dX7_copyFrom_73 : decode cX7_copyFrom 73 = .ok (.iconst 0, 1) := by decide +kernel
theorem dX7_copyFrom_74 : decode cX7_copyFrom 74 = .ok (.aload_n 0, 1) := by decide +kernel
theorem dX7_copyFrom_75 : decode cX7_copyFrom 75 = .ok (.getfield 25, 3) := by decide +kernel
theorem dX7_copyFrom_78 : decode cX7_copyFrom 78 = .ok (.arraylength, 1) := by decide +kernel
theorem dX7_copyFrom_79 : decode cX7_copyFrom 79 = .ok (.invokestatic 69, 3) := by decide +kernel
theorem dX7_copyFrom_82 : decode cX7_copyFrom 82 = .ok (.aload_n 1, 1) := by decide +kernel
theorem dX7_copyFrom_83 : decode cX7_copyFrom 83 = .ok (.getfield 28, 3) := by decide +kernel
theorem dX7_copyFrom_86 : decode cX7_copyFrom 86 = .ok (.iconst 0, 1) := by decide +kernel
theorem dX7_copyFrom_87 : decode cX7_copyFrom 87 = .ok (.aload_n 0, 1) := by decide +kernel
theorem dX7_copyFrom_88 : decode cX7_copyFrom 88 = .ok (.getfield 28, 3) := by decide +kernel
theorem dX7_copyFrom_91 : decode cX7_copyFrom 91 = .ok (.iconst 0, 1) := by decide +kernel
theorem dX7_copyFrom_92 : decode cX7_copyFrom 92 = .ok (.aload_n 0, 1) := by decide +kernel
theorem dX7_copyFrom_93 : decode cX7_copyFrom 93 = .ok (.getfield 28, 3) := by decide +kernel
theorem dX7_copyFrom_96 : decode cX7_copyFrom 96 = .ok (.arraylength, 1) := by decide +kernel
theorem dX7_copyFrom_97 : decode cX7_copyFrom 97 = .ok (.invokestatic 69, 3) := by decide +kernel
theorem dX7_copyFrom_100 : decode cX7_copyFrom 100 = .ok (.aload_n 1, 1) := by decide +kernel
theorem dX7_copyFrom_101 : decode cX7_copyFrom 101 = .ok (.getfield 31, 3) := by decide +kernel
theorem dX7_copyFrom_104 : decode cX7_copyFrom 104 = .ok (.iconst 0, 1) := by decide +kernel
theorem dX7_copyFrom_105 : decode cX7_copyFrom 105 = .ok (.aload_n 0, 1) := by decide +kernel
theorem dX7_copyFrom_106 : decode cX7_copyFrom 106 = .ok (.getfield 31, 3) := by decide +kernel
theorem dX7_copyFrom_109 : decode cX7_copyFrom 109 = .ok (.iconst 0, 1) := by decide +kernel
theorem dX7_copyFrom_110 : decode cX7_copyFrom 110 = .ok (.aload_n 0, 1) := by decide +kernel
theorem dX7_copyFrom_111 : decode cX7_copyFrom 111 = .ok (.getfield 31, 3) := by decide +kernel
theorem dX7_copyFrom_114 : decode cX7_copyFrom 114 = .ok (.arraylength, 1) := by decide +kernel
theorem dX7_copyFrom_115 : decode cX7_copyFrom 115 = .ok (.invokestatic 69, 3) := by decide +kernel
theorem dX7_copyFrom_118 : decode cX7_copyFrom 118 = .ok (.return_, 1) := by decide +kernel
theorem dX8_init_0 : decode cX8_init 0 = .ok (.aload_n 0, 1) := by decide +kernel
theorem dX8_init_1 : decode cX8_init 1 = .ok (.invokespecial 3, 3) := by decide +kernel
theorem dX8_init_4 : decode cX8_init 4 = .ok (.aload_n 0, 1) := by decide +kernel
theorem dX8_init_5 : decode cX8_init 5 = .ok (.bipush 12, 2) := by decide +kernel
theorem dX8_init_7 : decode cX8_init 7 = .ok (.anewarray 9, 3) := by decide +kernel
theorem dX8_init_10 : decode cX8_init 10 = .ok (.putfield 11, 3) := by decide +kernel
theorem dX8_init_13 : decode cX8_init 13 = .ok (.iconst 0, 1) := by decide +kernel
theorem dX8_init_14 : decode cX8_init 14 = .ok (.istore_n 1, 1) := by decide +kernel
theorem dX8_init_15 : decode cX8_init 15 = .ok (.iload_n 1, 1) := by decide +kernel
theorem dX8_init_16 : decode cX8_init 16 = .ok (.bipush 12, 2) := by decide +kernel
theorem dX8_init_18 : decode cX8_init 18 = .ok (.if_icmp .ge 22, 3) := by decide +kernel
theorem dX8_init_21 : decode cX8_init 21 = .ok (.aload_n 0, 1) := by decide +kernel
theorem dX8_init_22 : decode cX8_init 22 = .ok (.getfield 11, 3) := by decide +kernel
theorem dX8_init_25 : decode cX8_init 25 = .ok (.iload_n 1, 1) := by decide +kernel
theorem dX8_init_26 : decode cX8_init 26 = .ok (.new 9, 3) := by decide +kernel
theorem dX8_init_29 : decode cX8_init 29 = .ok (.dup, 1) := by decide +kernel
theorem dX8_init_30 : decode cX8_init 30 = .ok (.invokespecial 17, 3) := by decide +kernel
theorem dX8_init_33 : decode cX8_init 33 = .ok (.aastore, 1) := by decide +kernel
theorem dX8_init_34 : decode cX8_init 34 = .ok (.iinc 1 1, 3) := by decide +kernel
theorem dX8_init_37 : decode cX8_init 37 = .ok (.goto (-22), 3) := by decide +kernel
theorem dX8_init_40 : decode cX8_init 40 = .ok (.return_, 1) := by decide +kernel
theorem dX8_isUnit_0 : decode cX8_isUnit 0 = .ok (.iload_n 1, 1) := by decide +kernel
theorem dX8_isUnit_1 : decode cX8_isUnit 1 = .ok (.ifCond .lt 15, 3) := by decide +kernel
theorem dX8_isUnit_4 : decode cX8_isUnit 4 = .ok (.iload_n 1, 1) := by decide +kernel
theorem dX8_isUnit_5 : decode cX8_isUnit 5 = .ok (.aload_n 0, 1) := by decide +kernel
theorem dX8_isUnit_6 : decode cX8_isUnit 6 = .ok (.getfield 18, 3) := by decide +kernel
theorem dX8_isUnit_9 : decode cX8_isUnit 9 = .ok (.if_icmp .ge 7, 3) := by decide +kernel
theorem dX8_isUnit_12 : decode cX8_isUnit 12 = .ok (.iconst 1, 1) := by decide +kernel
theorem dX8_isUnit_13 : decode cX8_isUnit 13 = .ok (.goto 4, 3) := by decide +kernel
theorem dX8_isUnit_16 : decode cX8_isUnit 16 = .ok (.iconst 0, 1) := by decide +kernel
theorem dX8_isUnit_17 : decode cX8_isUnit 17 = .ok (.ireturn, 1) := by decide +kernel
theorem dX8_isType_0 : decode cX8_isType 0 = .ok (.aload_n 0, 1) := by decide +kernel
theorem dX8_isType_1 : decode cX8_isType 1 = .ok (.iload_n 1, 1) := by decide +kernel
theorem dX8_isType_2 : decode cX8_isType 2 = .ok (.invokevirtual 22, 3) := by decide +kernel
theorem dX8_isType_5 : decode cX8_isType 5 = .ok (.ifCond .eq 19, 3) := by decide +kernel
theorem dX8_isType_8 : decode cX8_isType 8 = .ok (.aload_n 0, 1) := by decide +kernel
theorem dX8_isType_9 : decode cX8_isType 9 = .ok (.getfield 11, 3) := by decide +kernel
theorem dX8_isType_12 : decode cX8_isType 12 = .ok (.iload_n 1, 1) := by decide +kernel
theorem dX8_isType_13 : decode cX8_isType 13 = .ok (.aaload, 1) := by decide +kernel
theorem dX8_isType_14 : decode cX8_isType 14 = .ok (.getfield 26, 3) := by decide +kernel
theorem dX8_isType_17 : decode cX8_isType 17 = .ok (.ifCond .ne 7, 3) := by decide +kernel
theorem dX8_isType_20 : decode cX8_isType 20 = .ok (.iconst 1, 1) := by decide +kernel
theorem dX8_isType_21 : decode cX8_isType 21 = .ok (.goto 4, 3) := by decide +kernel
theorem dX8_isType_24 : decode cX8_isType 24 = .ok (.iconst 0, 1) := by decide +kernel
theorem dX8_isType_25 : decode cX8_isType 25 = .ok (.ireturn, 1) := by decide +kernel
theorem dX8_isTrait_0 : decode cX8_isTrait 0 = .ok (.aload_n 0, 1) := by decide +kernel
theorem dX8_isTrait_1 : decode cX8_isTrait 1 = .ok (.iload_n 1, 1) := by decide +kernel
theorem dX8_isTrait_2 : decode cX8_isTrait 2 = .ok (.invokevirtual 22, 3) := by decide +kernel
theorem dX8_isTrait_5 : decode cX8_isTrait 5 = .ok (.ifCond .eq 19, 3) := by decide +kernel
theorem dX8_isTrait_8 : decode cX8_isTrait 8 = .ok (.aload_n 0, 1) := by decide +kernel
theorem dX8_isTrait_9 : decode cX8_isTrait 9 = .ok (.getfield 11, 3) := by decide +kernel
theorem dX8_isTrait_12 : decode cX8_isTrait 12 = .ok (.iload_n 1, 1) := by decide +kernel
theorem dX8_isTrait_13 : decode cX8_isTrait 13 = .ok (.aaload, 1) := by decide +kernel
theorem dX8_isTrait_14 : decode cX8_isTrait 14 = .ok (.getfield 26, 3) := by decide +kernel
theorem dX8_isTrait_17 : decode cX8_isTrait 17 = .ok (.ifCond .eq 7, 3) := by decide +kernel
theorem dX8_isTrait_20 : decode cX8_isTrait 20 = .ok (.iconst 1, 1) := by decide +kernel
theorem dX8_isTrait_21 : decode cX8_isTrait 21 = .ok (.goto 4, 3) := by decide +kernel
theorem dX8_isTrait_24 : decode cX8_isTrait 24 = .ok (.iconst 0, 1) := by decide +kernel
theorem dX8_isTrait_25 : decode cX8_isTrait 25 = .ok (.ireturn, 1) := by decide +kernel
theorem dX8_indexOf_0 : decode cX8_indexOf 0 = .ok (.iconst 0, 1) := by decide +kernel
theorem dX8_indexOf_1 : decode cX8_indexOf 1 = .ok (.istore_n 2, 1) := by decide +kernel
theorem dX8_indexOf_2 : decode cX8_indexOf 2 = .ok (.iload_n 2, 1) := by decide +kernel
theorem dX8_indexOf_3 : decode cX8_indexOf 3 = .ok (.aload_n 0, 1) := by decide +kernel
theorem dX8_indexOf_4 : decode cX8_indexOf 4 = .ok (.getfield 18, 3) := by decide +kernel
theorem dX8_indexOf_7 : decode cX8_indexOf 7 = .ok (.if_icmp .ge 24, 3) := by decide +kernel
theorem dX8_indexOf_10 : decode cX8_indexOf 10 = .ok (.aload_n 0, 1) := by decide +kernel
theorem dX8_indexOf_11 : decode cX8_indexOf 11 = .ok (.getfield 11, 3) := by decide +kernel
theorem dX8_indexOf_14 : decode cX8_indexOf 14 = .ok (.iload_n 2, 1) := by decide +kernel
theorem dX8_indexOf_15 : decode cX8_indexOf 15 = .ok (.aaload, 1) := by decide +kernel
theorem dX8_indexOf_16 : decode cX8_indexOf 16 = .ok (.getfield 30, 3) := by decide +kernel
theorem dX8_indexOf_19 : decode cX8_indexOf 19 = .ok (.iload_n 1, 1) := by decide +kernel
theorem dX8_indexOf_20 : decode cX8_indexOf 20 = .ok (.if_icmp .ne 5, 3) := by decide +kernel
theorem dX8_indexOf_23 : decode cX8_indexOf 23 = .ok (.iload_n 2, 1) := by decide +kernel
theorem dX8_indexOf_24 : decode cX8_indexOf 24 = .ok (.ireturn, 1) := by decide +kernel
theorem dX8_indexOf_25 : decode cX8_indexOf 25 = .ok (.iinc 2 1, 3) := by decide +kernel
theorem dX8_indexOf_28 : decode cX8_indexOf 28 = .ok (.goto (-26), 3) := by decide +kernel
theorem dX8_indexOf_31 : decode cX8_indexOf 31 = .ok (.iconst (-1), 1) := by decide +kernel
theorem dX8_indexOf_32 : decode cX8_indexOf 32 = .ok (.ireturn, 1) := by decide +kernel
theorem dX8_traitCount_0 : decode cX8_traitCount 0 = .ok (.iconst 0, 1) := by decide +kernel
theorem dX8_traitCount_1 : decode cX8_traitCount 1 = .ok (.istore_n 1, 1) := by decide +kernel
theorem dX8_traitCount_2 : decode cX8_traitCount 2 = .ok (.iconst 0, 1) := by decide +kernel
theorem dX8_traitCount_3 : decode cX8_traitCount 3 = .ok (.istore_n 2, 1) := by decide +kernel
theorem dX8_traitCount_4 : decode cX8_traitCount 4 = .ok (.iload_n 2, 1) := by decide +kernel
theorem dX8_traitCount_5 : decode cX8_traitCount 5 = .ok (.aload_n 0, 1) := by decide +kernel
theorem dX8_traitCount_6 : decode cX8_traitCount 6 = .ok (.getfield 18, 3) := by decide +kernel
theorem dX8_traitCount_9 : decode cX8_traitCount 9 = .ok (.if_icmp .ge 24, 3) := by decide +kernel
theorem dX8_traitCount_12 : decode cX8_traitCount 12 = .ok (.aload_n 0, 1) := by decide +kernel
theorem dX8_traitCount_13 : decode cX8_traitCount 13 = .ok (.getfield 11, 3) := by decide +kernel
theorem dX8_traitCount_16 : decode cX8_traitCount 16 = .ok (.iload_n 2, 1) := by decide +kernel
theorem dX8_traitCount_17 : decode cX8_traitCount 17 = .ok (.aaload, 1) := by decide +kernel
theorem dX8_traitCount_18 : decode cX8_traitCount 18 = .ok (.getfield 26, 3) := by decide +kernel
theorem dX8_traitCount_21 : decode cX8_traitCount 21 = .ok (.ifCond .eq 6, 3) := by decide +kernel
theorem dX8_traitCount_24 : decode cX8_traitCount 24 = .ok (.iinc 1 1, 3) := by decide +kernel
theorem dX8_traitCount_27 : decode cX8_traitCount 27 = .ok (.iinc 2 1, 3) := by decide +kernel
theorem dX8_traitCount_30 : decode cX8_traitCount 30 = .ok (.goto (-26), 3) := by decide +kernel
theorem dX8_traitCount_33 : decode cX8_traitCount 33 = .ok (.iload_n 1, 1) := by decide +kernel
theorem dX8_traitCount_34 : decode cX8_traitCount 34 = .ok (.ireturn, 1) := by decide +kernel
theorem dX8_copyFrom_0 : decode cX8_copyFrom 0 = .ok (.aload_n 0, 1) := by decide +kernel
theorem dX8_copyFrom_1 : decode cX8_copyFrom 1 = .ok (.aload_n 1, 1) := by decide +kernel
theorem dX8_copyFrom_2 : decode cX8_copyFrom 2 = .ok (.getfield 18, 3) := by decide +kernel
theorem dX8_copyFrom_5 : decode cX8_copyFrom 5 = .ok (.putfield 18, 3) := by decide +kernel
theorem dX8_copyFrom_8 : decode cX8_copyFrom 8 = .ok (.iconst 0, 1) := by decide +kernel
theorem dX8_copyFrom_9 : decode cX8_copyFrom 9 = .ok (.istore_n 2, 1) := by decide +kernel
theorem dX8_copyFrom_10 : decode cX8_copyFrom 10 = .ok (.iload_n 2, 1) := by decide +kernel
theorem dX8_copyFrom_11 : decode cX8_copyFrom 11 = .ok (.aload_n 0, 1) := by decide +kernel
theorem dX8_copyFrom_12 : decode cX8_copyFrom 12 = .ok (.getfield 18, 3) := by decide +kernel
theorem dX8_copyFrom_15 : decode cX8_copyFrom 15 = .ok (.if_icmp .ge 24, 3) := by decide +kernel
theorem dX8_copyFrom_18 : decode cX8_copyFrom 18 = .ok (.aload_n 0, 1) := by decide +kernel
theorem dX8_copyFrom_19 : decode cX8_copyFrom 19 = .ok (.getfield 11, 3) := by decide +kernel
theorem dX8_copyFrom_22 : decode cX8_copyFrom 22 = .ok (.iload_n 2, 1) := by decide +kernel
theorem dX8_copyFrom_23 : decode cX8_copyFrom 23 = .ok (.aaload, 1) := by decide +kernel
theorem dX8_copyFrom_24 : decode cX8_copyFrom 24 = .ok (.aload_n 1, 1) := by decide +kernel
theorem dX8_copyFrom_25 : decode cX8_copyFrom 25 = .ok (.getfield 11, 3) := by decide +kernel
theorem dX8_copyFrom_28 : decode cX8_copyFrom 28 = .ok (.iload_n 2, 1) := by decide +kernel
theorem dX8_copyFrom_29 : decode cX8_copyFrom 29 = .ok (.aaload, 1) := by decide +kernel
theorem dX8_copyFrom_30 : decode cX8_copyFrom 30 = .ok (.invokevirtual 33, 3) := by decide +kernel
theorem dX8_copyFrom_33 : decode cX8_copyFrom 33 = .ok (.iinc 2 1, 3) := by decide +kernel
theorem dX8_copyFrom_36 : decode cX8_copyFrom 36 = .ok (.goto (-26), 3) := by decide +kernel
theorem dX8_copyFrom_39 : decode cX8_copyFrom 39 = .ok (.return_, 1) := by decide +kernel
theorem dX9_init_0 : decode cX9_init 0 = .ok (.aload_n 0, 1) := by decide +kernel
theorem dX9_init_1 : decode cX9_init 1 = .ok (.invokespecial 1, 3) := by decide +kernel
theorem dX9_init_4 : decode cX9_init 4 = .ok (.aload_n 0, 1) := by decide +kernel
theorem dX9_init_5 : decode cX9_init 5 = .ok (.sipush 400, 3) := by decide +kernel
theorem dX9_init_8 : decode cX9_init 8 = .ok (.newarray .byte, 2) := by decide +kernel
theorem dX9_init_10 : decode cX9_init 10 = .ok (.putfield 9, 3) := by decide +kernel
theorem dX9_init_13 : decode cX9_init 13 = .ok (.aload_n 0, 1) := by decide +kernel
theorem dX9_init_14 : decode cX9_init 14 = .ok (.new 13, 3) := by decide +kernel
theorem dX9_init_17 : decode cX9_init 17 = .ok (.dup, 1) := by decide +kernel
theorem dX9_init_18 : decode cX9_init 18 = .ok (.invokespecial 15, 3) := by decide +kernel
theorem dX9_init_21 : decode cX9_init 21 = .ok (.putfield 16, 3) := by decide +kernel
theorem dX9_init_24 : decode cX9_init 24 = .ok (.aload_n 0, 1) := by decide +kernel
theorem dX9_init_25 : decode cX9_init 25 = .ok (.new 13, 3) := by decide +kernel
theorem dX9_init_28 : decode cX9_init 28 = .ok (.dup, 1) := by decide +kernel
theorem dX9_init_29 : decode cX9_init 29 = .ok (.invokespecial 15, 3) := by decide +kernel
theorem dX9_init_32 : decode cX9_init 32 = .ok (.putfield 20, 3) := by decide +kernel
theorem dX9_init_35 : decode cX9_init 35 = .ok (.aload_n 0, 1) := by decide +kernel
theorem dX9_init_36 : decode cX9_init 36 = .ok (.iconst 2, 1) := by decide +kernel
theorem dX9_init_37 : decode cX9_init 37 = .ok (.anewarray 13, 3) := by decide +kernel
theorem dX9_init_40 : decode cX9_init 40 = .ok (.putfield 23, 3) := by decide +kernel
theorem dX9_init_43 : decode cX9_init 43 = .ok (.aload_n 0, 1) := by decide +kernel
theorem dX9_init_44 : decode cX9_init 44 = .ok (.new 27, 3) := by decide +kernel
theorem dX9_init_47 : decode cX9_init 47 = .ok (.dup, 1) := by decide +kernel
theorem dX9_init_48 : decode cX9_init 48 = .ok (.invokespecial 29, 3) := by decide +kernel
theorem dX9_init_51 : decode cX9_init 51 = .ok (.putfield 30, 3) := by decide +kernel
theorem dX9_init_54 : decode cX9_init 54 = .ok (.aload_n 0, 1) := by decide +kernel
theorem dX9_init_55 : decode cX9_init 55 = .ok (.new 34, 3) := by decide +kernel
theorem dX9_init_58 : decode cX9_init 58 = .ok (.dup, 1) := by decide +kernel
theorem dX9_init_59 : decode cX9_init 59 = .ok (.invokespecial 36, 3) := by decide +kernel
theorem dX9_init_62 : decode cX9_init 62 = .ok (.putfield 37, 3) := by decide +kernel
theorem dX9_init_65 : decode cX9_init 65 = .ok (.aload_n 0, 1) := by decide +kernel
theorem dX9_init_66 : decode cX9_init 66 = .ok (.new 41, 3) := by decide +kernel
theorem dX9_init_69 : decode cX9_init 69 = .ok (.dup, 1) := by decide +kernel
theorem dX9_init_70 : decode cX9_init 70 = .ok (.invokespecial 43, 3) := by decide +kernel
theorem dX9_init_73 : decode cX9_init 73 = .ok (.putfield 44, 3) := by decide +kernel
theorem dX9_init_76 : decode cX9_init 76 = .ok (.aload_n 0, 1) := by decide +kernel
theorem dX9_init_77 : decode cX9_init 77 = .ok (.new 48, 3) := by decide +kernel
theorem dX9_init_80 : decode cX9_init 80 = .ok (.dup, 1) := by decide +kernel
theorem dX9_init_81 : decode cX9_init 81 = .ok (.invokespecial 50, 3) := by decide +kernel
theorem dX9_init_84 : decode cX9_init 84 = .ok (.putfield 51, 3) := by decide +kernel
theorem dX9_init_87 : decode cX9_init 87 = .ok (.aload_n 0, 1) := by decide +kernel
theorem dX9_init_88 : decode cX9_init 88 = .ok (.new 55, 3) := by decide +kernel
theorem dX9_init_91 : decode cX9_init 91 = .ok (.dup, 1) := by decide +kernel
theorem dX9_init_92 : decode cX9_init 92 = .ok (.invokespecial 57, 3) := by decide +kernel
theorem dX9_init_95 : decode cX9_init 95 = .ok (.putfield 58, 3) := by decide +kernel
theorem dX9_init_98 : decode cX9_init 98 = .ok (.aload_n 0, 1) := by decide +kernel
theorem dX9_init_99 : decode cX9_init 99 = .ok (.new 62, 3) := by decide +kernel
theorem dX9_init_102 : decode cX9_init 102 = .ok (.dup, 1) := by decide +kernel
theorem dX9_init_103 : decode cX9_init 103 = .ok (.invokespecial 64, 3) := by decide +kernel
theorem dX9_init_106 : decode cX9_init 106 = .ok (.putfield 65, 3) := by decide +kernel
theorem dX9_init_109 : decode cX9_init 109 = .ok (.iconst 0, 1) := by decide +kernel
theorem dX9_init_110 : decode cX9_init 110 = .ok (.istore_n 1, 1) := by decide +kernel
theorem dX9_init_111 : decode cX9_init 111 = .ok (.iload_n 1, 1) := by decide +kernel
theorem dX9_init_112 : decode cX9_init 112 = .ok (.iconst 2, 1) := by decide +kernel
theorem dX9_init_113 : decode cX9_init 113 = .ok (.if_icmp .ge 22, 3) := by decide +kernel
theorem dX9_init_116 : decode cX9_init 116 = .ok (.aload_n 0, 1) := by decide +kernel
theorem dX9_init_117 : decode cX9_init 117 = .ok (.getfield 23, 3) := by decide +kernel
theorem dX9_init_120 : decode cX9_init 120 = .ok (.iload_n 1, 1) := by decide +kernel
theorem dX9_init_121 : decode cX9_init 121 = .ok (.new 13, 3) := by decide +kernel
theorem dX9_init_124 : decode cX9_init 124 = .ok (.dup, 1) := by decide +kernel
theorem dX9_init_125 : decode cX9_init 125 = .ok (.invokespecial 15, 3) := by decide +kernel
theorem dX9_init_128 : decode cX9_init 128 = .ok (.aastore, 1) := by decide +kernel
theorem dX9_init_129 : decode cX9_init 129 = .ok (.iinc 1 1, 3) := by decide +kernel
theorem dX9_init_132 : decode cX9_init 132 = .ok (.goto (-21), 3) := by decide +kernel
theorem dX9_init_135 : decode cX9_init 135 = .ok (.return_, 1) := by decide +kernel
theorem dX9_feed_0 : decode cX9_feed 0 = .ok (.aload_n 0, 1) := by decide +kernel
theorem dX9_feed_1 : decode cX9_feed 1 = .ok (.getfield 69, 3) := by decide +kernel
theorem dX9_feed_4 : decode cX9_feed 4 = .ok (.bipush 20, 2) := by decide +kernel
theorem dX9_feed_6 : decode cX9_feed 6 = .ok (.iadd, 1) := by decide +kernel
theorem dX9_feed_7 : decode cX9_feed 7 = .ok (.sipush 400, 3) := by decide +kernel
theorem dX9_feed_10 : decode cX9_feed 10 = .ok (.if_icmp .le 5, 3) := by decide +kernel
theorem dX9_feed_13 : decode cX9_feed 13 = .ok (.iconst (-1), 1) := by decide +kernel
theorem dX9_feed_14 : decode cX9_feed 14 = .ok (.ireturn, 1) := by decide +kernel
theorem dX9_feed_15 : decode cX9_feed 15 = .ok (.aload_n 0, 1) := by decide +kernel
theorem dX9_feed_16 : decode cX9_feed 16 = .ok (.iload_n 1, 1) := by decide +kernel
theorem dX9_feed_17 : decode cX9_feed 17 = .ok (.invokevirtual 73, 3) := by decide +kernel
theorem dX9_feed_20 : decode cX9_feed 20 = .ok (.aload_n 0, 1) := by decide +kernel
theorem dX9_feed_21 : decode cX9_feed 21 = .ok (.iload_n 2, 1) := by decide +kernel
theorem dX9_feed_22 : decode cX9_feed 22 = .ok (.invokevirtual 73, 3) := by decide +kernel
theorem dX9_feed_25 : decode cX9_feed 25 = .ok (.aload_n 0, 1) := by decide +kernel
theorem dX9_feed_26 : decode cX9_feed 26 = .ok (.iload_n 3, 1) := by decide +kernel
theorem dX9_feed_27 : decode cX9_feed 27 = .ok (.invokevirtual 73, 3) := by decide +kernel
theorem dX9_feed_30 : decode cX9_feed 30 = .ok (.aload_n 0, 1) := by decide +kernel
theorem dX9_feed_31 : decode cX9_feed 31 = .ok (.iload 4, 2) := by decide +kernel
theorem dX9_feed_33 : decode cX9_feed 33 = .ok (.invokevirtual 73, 3) := by decide +kernel
theorem dX9_feed_36 : decode cX9_feed 36 = .ok (.aload_n 0, 1) := by decide +kernel
theorem dX9_feed_37 : decode cX9_feed 37 = .ok (.iload 5, 2) := by decide +kernel
theorem dX9_feed_39 : decode cX9_feed 39 = .ok (.invokevirtual 73, 3) := by decide +kernel
theorem dX9_feed_42 : decode cX9_feed 42 = .ok (.aload_n 0, 1) := by decide +kernel
theorem dX9_feed_43 : decode cX9_feed 43 = .ok (.getfield 69, 3) := by decide +kernel
theorem dX9_feed_46 : decode cX9_feed 46 = .ok (.ireturn, 1) := by decide +kernel
theorem dX9_putBytes_0 : decode cX9_putBytes 0 = .ok (.bipush 24, 2) := by decide +kernel
theorem dX9_putBytes_2 : decode cX9_putBytes 2 = .ok (.istore_n 2, 1) := by decide +kernel
theorem dX9_putBytes_3 : decode cX9_putBytes 3 = .ok (.iload_n 2, 1) := by decide +kernel
theorem dX9_putBytes_4 : decode cX9_putBytes 4 = .ok (.ifCond .lt 42, 3) := by decide +kernel
theorem dX9_putBytes_7 : decode cX9_putBytes 7 = .ok (.aload_n 0, 1) := by decide +kernel
theorem dX9_putBytes_8 : decode cX9_putBytes 8 = .ok (.getfield 69, 3) := by decide +kernel
theorem dX9_putBytes_11 : decode cX9_putBytes 11 = .ok (.sipush 400, 3) := by decide +kernel
theorem dX9_putBytes_14 : decode cX9_putBytes 14 = .ok (.if_icmp .ge 32, 3) := by decide +kernel
theorem dX9_putBytes_17 : decode cX9_putBytes 17 = .ok (.aload_n 0, 1) := by decide +kernel
theorem dX9_putBytes_18 : decode cX9_putBytes 18 = .ok (.getfield 9, 3) := by decide +kernel
theorem dX9_putBytes_21 : decode cX9_putBytes 21 = .ok (.aload_n 0, 1) := by decide +kernel
theorem dX9_putBytes_22 : decode cX9_putBytes 22 = .ok (.getfield 69, 3) := by decide +kernel
theorem dX9_putBytes_25 : decode cX9_putBytes 25 = .ok (.iload_n 1, 1) := by decide +kernel
theorem dX9_putBytes_26 : decode cX9_putBytes 26 = .ok (.iload_n 2, 1) := by decide +kernel
theorem dX9_putBytes_27 : decode cX9_putBytes 27 = .ok (.iushr, 1) := by decide +kernel
theorem dX9_putBytes_28 : decode cX9_putBytes 28 = .ok (.i2b, 1) := by decide +kernel
theorem dX9_putBytes_29 : decode cX9_putBytes 29 = .ok (.bastore, 1) := by decide +kernel
theorem dX9_putBytes_30 : decode cX9_putBytes 30 = .ok (.aload_n 0, 1) := by decide +kernel
theorem dX9_putBytes_31 : decode cX9_putBytes 31 = .ok (.dup, 1) := by decide +kernel
theorem dX9_putBytes_32 : decode cX9_putBytes 32 = .ok (.getfield 69, 3) := by decide +kernel
theorem dX9_putBytes_35 : decode cX9_putBytes 35 = .ok (.iconst 1, 1) := by decide +kernel
theorem dX9_putBytes_36 : decode cX9_putBytes 36 = .ok (.iadd, 1) := by decide +kernel
theorem dX9_putBytes_37 : decode cX9_putBytes 37 = .ok (.putfield 69, 3) := by decide +kernel
theorem dX9_putBytes_40 : decode cX9_putBytes 40 = .ok (.iinc 2 (-8), 3) := by decide +kernel
theorem dX9_putBytes_43 : decode cX9_putBytes 43 = .ok (.goto (-40), 3) := by decide +kernel
theorem dX9_putBytes_46 : decode cX9_putBytes 46 = .ok (.return_, 1) := by decide +kernel
theorem dX9_end_0 : decode cX9_end 0 = .ok (.iload_n 1, 1) := by decide +kernel
theorem dX9_end_1 : decode cX9_end 1 = .ok (.ifCond .lt 11, 3) := by decide +kernel
theorem dX9_end_4 : decode cX9_end 4 = .ok (.iload_n 1, 1) := by decide +kernel
theorem dX9_end_5 : decode cX9_end 5 = .ok (.aload_n 0, 1) := by decide +kernel
theorem dX9_end_6 : decode cX9_end 6 = .ok (.getfield 69, 3) := by decide +kernel
theorem dX9_end_9 : decode cX9_end 9 = .ok (.if_icmp .le 5, 3) := by decide +kernel
theorem dX9_end_12 : decode cX9_end 12 = .ok (.iconst (-1), 1) := by decide +kernel
theorem dX9_end_13 : decode cX9_end 13 = .ok (.ireturn, 1) := by decide +kernel
theorem dX9_end_14 : decode cX9_end 14 = .ok (.aload_n 0, 1) := by decide +kernel
theorem dX9_end_15 : decode cX9_end 15 = .ok (.iload_n 1, 1) := by decide +kernel
theorem dX9_end_16 : decode cX9_end 16 = .ok (.putfield 69, 3) := by decide +kernel
theorem dX9_end_19 : decode cX9_end 19 = .ok (.iload_n 1, 1) := by decide +kernel
theorem dX9_end_20 : decode cX9_end 20 = .ok (.ireturn, 1) := by decide +kernel
theorem dX9_tell_0 : decode cX9_tell 0 = .ok (.aload_n 0, 1) := by decide +kernel
theorem dX9_tell_1 : decode cX9_tell 1 = .ok (.getfield 30, 3) := by decide +kernel
theorem dX9_tell_4 : decode cX9_tell 4 = .ok (.aload_n 0, 1) := by decide +kernel
theorem dX9_tell_5 : decode cX9_tell 5 = .ok (.getfield 9, 3) := by decide +kernel
theorem dX9_tell_8 : decode cX9_tell 8 = .ok (.aload_n 0, 1) := by decide +kernel
theorem dX9_tell_9 : decode cX9_tell 9 = .ok (.getfield 69, 3) := by decide +kernel
theorem dX9_tell_12 : decode cX9_tell 12 = .ok (.aload_n 0, 1) := by decide +kernel
theorem dX9_tell_13 : decode cX9_tell 13 = .ok (.getfield 20, 3) := by decide +kernel
theorem dX9_tell_16 : decode cX9_tell 16 = .ok (.invokevirtual 77, 3) := by decide +kernel
theorem dX9_tell_19 : decode cX9_tell 19 = .ok (.istore_n 1, 1) := by decide +kernel
theorem dX9_tell_20 : decode cX9_tell 20 = .ok (.aload_n 0, 1) := by decide +kernel
theorem dX9_tell_21 : decode cX9_tell 21 = .ok (.iconst 0, 1) := by decide +kernel
theorem dX9_tell_22 : decode cX9_tell 22 = .ok (.putfield 69, 3) := by decide +kernel
theorem dX9_tell_25 : decode cX9_tell 25 = .ok (.iload_n 1, 1) := by decide +kernel
theorem dX9_tell_26 : decode cX9_tell 26 = .ok (.ifCond .eq 8, 3) := by decide +kernel
theorem dX9_tell_29 : decode cX9_tell 29 = .ok (.bipush (-2), 2) := by decide +kernel
theorem dX9_tell_31 : decode cX9_tell 31 = .ok (.iload_n 1, 1) := by decide +kernel
theorem dX9_tell_32 : decode cX9_tell 32 = .ok (.isub, 1) := by decide +kernel
theorem dX9_tell_33 : decode cX9_tell 33 = .ok (.ireturn, 1) := by decide +kernel
theorem dX9_tell_34 : decode cX9_tell 34 = .ok (.aload_n 0, 1) := by decide +kernel
theorem dX9_tell_35 : decode cX9_tell 35 = .ok (.getfield 20, 3) := by decide +kernel
theorem dX9_tell_38 : decode cX9_tell 38 = .ok (.astore_n 2, 1) := by decide +kernel
theorem dX9_tell_39 : decode cX9_tell 39 = .ok (.aload_n 0, 1) := by decide +kernel
theorem dX9_tell_40 : decode cX9_tell 40 = .ok (.aload_n 0, 1) := by decide +kernel
theorem dX9_tell_41 : decode cX9_tell 41 = .ok (.getfield 16, 3) := by decide +kernel
theorem dX9_tell_44 : decode cX9_tell 44 = .ok (.putfield 20, 3) := by decide +kernel
theorem dX9_tell_47 : decode cX9_tell 47 = .ok (.aload_n 0, 1) := by decide +kernel
theorem dX9_tell_48 : decode cX9_tell 48 = .ok (.aload_n 2, 1) := by decide +kernel
theorem dX9_tell_49 : decode cX9_tell 49 = .ok (.putfield 16, 3) := by decide +kernel
theorem dX9_tell_52 : decode cX9_tell 52 = .ok (.aload_n 0, 1) := by decide +kernel
theorem dX9_tell_53 : decode cX9_tell 53 = .ok (.invokevirtual 81, 3) := by decide +kernel
theorem dX9_tell_56 : decode cX9_tell 56 = .ok (.aload_n 0, 1) := by decide +kernel
theorem dX9_tell_57 : decode cX9_tell 57 = .ok (.getfield 16, 3) := by decide +kernel
theorem dX9_tell_60 : decode cX9_tell 60 = .ok (.getfield 84, 3) := by decide +kernel
theorem dX9_tell_63 : decode cX9_tell 63 = .ok (.ireturn, 1) := by decide +kernel
theorem dX9_startAnew_0 : decode cX9_startAnew 0 = .ok (.aload_n 0, 1) := by decide +kernel
theorem dX9_startAnew_1 : decode cX9_startAnew 1 = .ok (.getfield 37, 3) := by decide +kernel
theorem dX9_startAnew_4 : decode cX9_startAnew 4 = .ok (.invokevirtual 87, 3) := by decide +kernel
theorem dX9_startAnew_7 : decode cX9_startAnew 7 = .ok (.aload_n 0, 1) := by decide +kernel
theorem dX9_startAnew_8 : decode cX9_startAnew 8 = .ok (.iconst 1, 1) := by decide +kernel
theorem dX9_startAnew_9 : decode cX9_startAnew 9 = .ok (.putfield 90, 3) := by decide +kernel
theorem dX9_startAnew_12 : decode cX9_startAnew 12 = .ok (.return_, 1) := by decide +kernel
theorem dX9_join_0 : decode cX9_join 0 = .ok (.aload_n 0, 1) := by decide +kernel
theorem dX9_join_1 : decode cX9_join 1 = .ok (.getfield 16, 3) := by decide +kernel
theorem dX9_join_4 : decode cX9_join 4 = .ok (.iload_n 1, 1) := by decide +kernel
theorem dX9_join_5 : decode cX9_join 5 = .ok (.invokevirtual 94, 3) := by decide +kernel
theorem dX9_join_8 : decode cX9_join 8 = .ok (.ifCond .eq 19, 3) := by decide +kernel
theorem dX9_join_11 : decode cX9_join 11 = .ok (.aload_n 0, 1) := by decide +kernel
theorem dX9_join_12 : decode cX9_join 12 = .ok (.getfield 16, 3) := by decide +kernel
theorem dX9_join_15 : decode cX9_join 15 = .ok (.iload_n 2, 1) := by decide +kernel
theorem dX9_join_16 : decode cX9_join 16 = .ok (.invokevirtual 94, 3) := by decide +kernel
theorem dX9_join_19 : decode cX9_join 19 = .ok (.ifCond .eq 8, 3) := by decide +kernel
theorem dX9_join_22 : decode cX9_join 22 = .ok (.iload_n 2, 1) := by decide +kernel
theorem dX9_join_23 : decode cX9_join 23 = .ok (.iload_n 1, 1) := by decide +kernel
theorem dX9_join_24 : decode cX9_join 24 = .ok (.if_icmp .lt 5, 3) := by decide +kernel
theorem dX9_join_27 : decode cX9_join 27 = .ok (.iconst (-1), 1) := by decide +kernel
theorem dX9_join_28 : decode cX9_join 28 = .ok (.ireturn, 1) := by decide +kernel
theorem dX9_join_29 : decode cX9_join 29 = .ok (.aload_n 0, 1) := by decide +kernel
theorem dX9_join_30 : decode cX9_join 30 = .ok (.getfield 16, 3) := by decide +kernel
theorem dX9_join_33 : decode cX9_join 33 = .ok (.getfield 98, 3) := by decide +kernel
theorem dX9_join_36 : decode cX9_join 36 = .ok (.iload_n 1, 1) := by decide +kernel
theorem dX9_join_37 : decode cX9_join 37 = .ok (.aaload, 1) := by decide +kernel
theorem dX9_join_38 : decode cX9_join 38 = .ok (.getfield 102, 3) := by decide +kernel
theorem dX9_join_41 : decode cX9_join 41 = .ok (.astore_n 3, 1) := by decide +kernel
theorem dX9_join_42 : decode cX9_join 42 = .ok (.aload_n 3, 1) := by decide +kernel
theorem dX9_join_43 : decode cX9_join 43 = .ok (.iload_n 2, 1) := by decide +kernel
theorem dX9_join_44 : decode cX9_join 44 = .ok (.invokevirtual 108, 3) := by decide +kernel
theorem dX9_join_47 : decode cX9_join 47 = .ok (.iconst (-1), 1) := by decide +kernel
theorem dX9_join_48 : decode cX9_join 48 = .ok (.if_icmp .eq 6, 3) := by decide +kernel
theorem dX9_join_51 : decode cX9_join 51 = .ok (.bipush (-2), 2) := by decide +kernel
theorem dX9_join_53 : decode cX9_join 53 = .ok (.ireturn, 1) := by decide +kernel
theorem dX9_join_54 : decode cX9_join 54 = .ok (.aload_n 3, 1) := by decide +kernel
theorem dX9_join_55 : decode cX9_join 55 = .ok (.getfield 114, 3) := by decide +kernel
theorem dX9_join_58 : decode cX9_join 58 = .ok (.iconst 4, 1) := by decide +kernel
theorem dX9_join_59 : decode cX9_join 59 = .ok (.if_icmp .lt 6, 3) := by decide +kernel
theorem dX9_join_62 : decode cX9_join 62 = .ok (.bipush (-3), 2) := by decide +kernel
theorem dX9_join_64 : decode cX9_join 64 = .ok (.ireturn, 1) := by decide +kernel
theorem dX9_join_65 : decode cX9_join 65 = .ok (.aload_n 0, 1) := by decide +kernel
theorem dX9_join_66 : decode cX9_join 66 = .ok (.iload_n 1, 1) := by decide +kernel
theorem dX9_join_67 : decode cX9_join 67 = .ok (.invokevirtual 115, 3) := by decide +kernel
theorem dX9_join_70 : decode cX9_join 70 = .ok (.aload_n 3, 1) := by decide +kernel
theorem dX9_join_71 : decode cX9_join 71 = .ok (.iload_n 2, 1) := by decide +kernel
theorem dX9_join_72 : decode cX9_join 72 = .ok (.invokevirtual 118, 3) := by decide +kernel
theorem dX9_join_75 : decode cX9_join 75 = .ok (.aload_n 3, 1) := by decide +kernel
theorem dX9_join_76 : decode cX9_join 76 = .ok (.getfield 114, 3) := by decide +kernel
theorem dX9_join_79 : decode cX9_join 79 = .ok (.ireturn, 1) := by decide +kernel
theorem dX9_leave_0 : decode cX9_leave 0 = .ok (.aload_n 0, 1) := by decide +kernel
theorem dX9_leave_1 : decode cX9_leave 1 = .ok (.getfield 16, 3) := by decide +kernel
theorem dX9_leave_4 : decode cX9_leave 4 = .ok (.iload_n 1, 1) := by decide +kernel
theorem dX9_leave_5 : decode cX9_leave 5 = .ok (.invokevirtual 94, 3) := by decide +kernel
theorem dX9_leave_8 : decode cX9_leave 8 = .ok (.ifCond .ne 5, 3) := by decide +kernel
theorem dX9_leave_11 : decode cX9_leave 11 = .ok (.iconst (-1), 1) := by decide +kernel
theorem dX9_leave_12 : decode cX9_leave 12 = .ok (.ireturn, 1) := by decide +kernel
theorem dX9_leave_13 : decode cX9_leave 13 = .ok (.aload_n 0, 1) := by decide +kernel
theorem dX9_leave_14 : decode cX9_leave 14 = .ok (.getfield 16, 3) := by decide +kernel
theorem dX9_leave_17 : decode cX9_leave 17 = .ok (.getfield 98, 3) := by decide +kernel
theorem dX9_leave_20 : decode cX9_leave 20 = .ok (.iload_n 1, 1) := by decide +kernel
theorem dX9_leave_21 : decode cX9_leave 21 = .ok (.aaload, 1) := by decide +kernel
theorem dX9_leave_22 : decode cX9_leave 22 = .ok (.getfield 102, 3) := by decide +kernel
theorem dX9_leave_25 : decode cX9_leave 25 = .ok (.astore_n 3, 1) := by decide +kernel
theorem dX9_leave_26 : decode cX9_leave 26 = .ok (.aload_n 3, 1) := by decide +kernel
theorem dX9_leave_27 : decode cX9_leave 27 = .ok (.iload_n 2, 1) := by decide +kernel
theorem dX9_leave_28 : decode cX9_leave 28 = .ok (.invokevirtual 108, 3) := by decide +kernel
theorem dX9_leave_31 : decode cX9_leave 31 = .ok (.istore 4, 2) := by decide +kernel
theorem dX9_leave_33 : decode cX9_leave 33 = .ok (.iload 4, 2) := by decide +kernel
theorem dX9_leave_35 : decode cX9_leave 35 = .ok (.iconst (-1), 1) := by decide +kernel
theorem dX9_leave_36 : decode cX9_leave 36 = .ok (.if_icmp .ne 5, 3) := by decide +kernel
theorem dX9_leave_39 : decode cX9_leave 39 = .ok (.iconst (-1), 1) := by decide +kernel
theorem dX9_leave_40 : decode cX9_leave 40 = .ok (.ireturn, 1) := by decide +kernel
theorem dX9_leave_41 : decode cX9_leave 41 = .ok (.aload_n 0, 1) := by decide +kernel
theorem dX9_leave_42 : decode cX9_leave 42 = .ok (.iload_n 1, 1) := by decide +kernel
theorem dX9_leave_43 : decode cX9_leave 43 = .ok (.invokevirtual 115, 3) := by decide +kernel
theorem dX9_leave_46 : decode cX9_leave 46 = .ok (.aload_n 3, 1) := by decide +kernel
theorem dX9_leave_47 : decode cX9_leave 47 = .ok (.iload 4, 2) := by decide +kernel
theorem dX9_leave_49 : decode cX9_leave 49 = .ok (.invokevirtual 121, 3) := by decide +kernel
theorem dX9_leave_52 : decode cX9_leave 52 = .ok (.aload_n 3, 1) := by decide +kernel
theorem dX9_leave_53 : decode cX9_leave 53 = .ok (.getfield 114, 3) := by decide +kernel
theorem dX9_leave_56 : decode cX9_leave 56 = .ok (.ireturn, 1) := by decide +kernel
theorem dX9_turn_0 : decode cX9_turn 0 = .ok (.aload_n 0, 1) := by decide +kernel
theorem dX9_turn_1 : decode cX9_turn 1 = .ok (.getfield 16, 3) := by decide +kernel
theorem dX9_turn_4 : decode cX9_turn 4 = .ok (.iload_n 1, 1) := by decide +kernel
theorem dX9_turn_5 : decode cX9_turn 5 = .ok (.invokevirtual 94, 3) := by decide +kernel
theorem dX9_turn_8 : decode cX9_turn 8 = .ok (.ifCond .ne 5, 3) := by decide +kernel
theorem dX9_turn_11 : decode cX9_turn 11 = .ok (.iconst (-1), 1) := by decide +kernel
theorem dX9_turn_12 : decode cX9_turn 12 = .ok (.ireturn, 1) := by decide +kernel
theorem dX9_turn_13 : decode cX9_turn 13 = .ok (.aload_n 0, 1) := by decide +kernel
theorem dX9_turn_14 : decode cX9_turn 14 = .ok (.getfield 16, 3) := by decide +kernel
theorem dX9_turn_17 : decode cX9_turn 17 = .ok (.getfield 98, 3) := by decide +kernel
theorem dX9_turn_20 : decode cX9_turn 20 = .ok (.iload_n 1, 1) := by decide +kernel
theorem dX9_turn_21 : decode cX9_turn 21 = .ok (.aaload, 1) := by decide +kernel
theorem dX9_turn_22 : decode cX9_turn 22 = .ok (.getfield 102, 3) := by decide +kernel
theorem dX9_turn_25 : decode cX9_turn 25 = .ok (.astore_n 2, 1) := by decide +kernel
theorem dX9_turn_26 : decode cX9_turn 26 = .ok (.aload_n 2, 1) := by decide +kernel
theorem dX9_turn_27 : decode cX9_turn 27 = .ok (.getfield 114, 3) := by decide +kernel
theorem dX9_turn_30 : decode cX9_turn 30 = .ok (.iconst 2, 1) := by decide +kernel
theorem dX9_turn_31 : decode cX9_turn 31 = .ok (.if_icmp .ge 6, 3) := by decide +kernel
theorem dX9_turn_34 : decode cX9_turn 34 = .ok (.bipush (-2), 2) := by decide +kernel
theorem dX9_turn_36 : decode cX9_turn 36 = .ok (.ireturn, 1) := by decide +kernel
theorem dX9_turn_37 : decode cX9_turn 37 = .ok (.aload_n 0, 1) := by decide +kernel
theorem dX9_turn_38 : decode cX9_turn 38 = .ok (.iload_n 1, 1) := by decide +kernel
theorem dX9_turn_39 : decode cX9_turn 39 = .ok (.invokevirtual 115, 3) := by decide +kernel
theorem dX9_turn_42 : decode cX9_turn 42 = .ok (.aload_n 2, 1) := by decide +kernel
theorem dX9_turn_43 : decode cX9_turn 43 = .ok (.invokevirtual 124, 3) := by decide +kernel
theorem dX9_turn_46 : decode cX9_turn 46 = .ok (.aload_n 2, 1) := by decide +kernel
theorem dX9_turn_47 : decode cX9_turn 47 = .ok (.getfield 114, 3) := by decide +kernel
theorem dX9_turn_50 : decode cX9_turn 50 = .ok (.ireturn, 1) := by decide +kernel
theorem dX9_give_0 : decode cX9_give 0 = .ok (.aload_n 0, 1) := by decide +kernel
theorem dX9_give_1 : decode cX9_give 1 = .ok (.getfield 16, 3) := by decide +kernel
theorem dX9_give_4 : decode cX9_give 4 = .ok (.iload_n 1, 1) := by decide +kernel
theorem dX9_give_5 : decode cX9_give 5 = .ok (.invokevirtual 127, 3) := by decide +kernel
theorem dX9_give_8 : decode cX9_give 8 = .ok (.ifCond .eq 21, 3) := by decide +kernel
theorem dX9_give_11 : decode cX9_give 11 = .ok (.iload_n 2, 1) := by decide +kernel
theorem dX9_give_12 : decode cX9_give 12 = .ok (.invokestatic 130, 3) := by decide +kernel
theorem dX9_give_15 : decode cX9_give 15 = .ok (.ifCond .eq 14, 3) := by decide +kernel
theorem dX9_give_18 : decode cX9_give 18 = .ok (.iload_n 3, 1) := by decide +kernel
theorem dX9_give_19 : decode cX9_give 19 = .ok (.ifCond .lt 10, 3) := by decide +kernel
theorem dX9_give_22 : decode cX9_give 22 = .ok (.iload_n 3, 1) := by decide +kernel
theorem dX9_give_23 : decode cX9_give 23 = .ok (.sipush 999, 3) := by decide +kernel
theorem dX9_give_26 : decode cX9_give 26 = .ok (.if_icmp .le 5, 3) := by decide +kernel
theorem dX9_give_29 : decode cX9_give 29 = .ok (.iconst (-1), 1) := by decide +kernel
theorem dX9_give_30 : decode cX9_give 30 = .ok (.ireturn, 1) := by decide +kernel
theorem dX9_give_31 : decode cX9_give 31 = .ok (.aload_n 0, 1) := by decide +kernel
theorem dX9_give_32 : decode cX9_give 32 = .ok (.getfield 16, 3) := by decide +kernel
theorem dX9_give_35 : decode cX9_give 35 = .ok (.getfield 98, 3) := by decide +kernel
theorem dX9_give_38 : decode cX9_give 38 = .ok (.iload_n 1, 1) := by decide +kernel
theorem dX9_give_39 : decode cX9_give 39 = .ok (.aaload, 1) := by decide +kernel
theorem dX9_give_40 : decode cX9_give 40 = .ok (.astore 4, 2) := by decide +kernel
theorem dX9_give_42 : decode cX9_give 42 = .ok (.aload 4, 2) := by decide +kernel
theorem dX9_give_44 : decode cX9_give 44 = .ok (.getfield 133, 3) := by decide +kernel
theorem dX9_give_47 : decode cX9_give 47 = .ok (.iload_n 2, 1) := by decide +kernel
theorem dX9_give_48 : decode cX9_give 48 = .ok (.iaload, 1) := by decide +kernel
theorem dX9_give_49 : decode cX9_give 49 = .ok (.iconst 1, 1) := by decide +kernel
theorem dX9_give_50 : decode cX9_give 50 = .ok (.if_icmp .ne 18, 3) := by decide +kernel
theorem dX9_give_53 : decode cX9_give 53 = .ok (.aload 4, 2) := by decide +kernel
theorem dX9_give_55 : decode cX9_give 55 = .ok (.iload_n 2, 1) := by decide +kernel
theorem dX9_give_56 : decode cX9_give 56 = .ok (.iconst 0, 1) := by decide +kernel
theorem dX9_give_57 : decode cX9_give 57 = .ok (.invokevirtual 137, 3) := by decide +kernel
theorem dX9_give_60 : decode cX9_give 60 = .ok (.iload_n 3, 1) := by decide +kernel
theorem dX9_give_61 : decode cX9_give 61 = .ok (.if_icmp .ne 7, 3) := by decide +kernel
theorem dX9_give_64 : decode cX9_give 64 = .ok (.iconst 1, 1) := by decide +kernel
theorem dX9_give_65 : decode cX9_give 65 = .ok (.goto 4, 3) := by decide +kernel
theorem dX9_give_68 : decode cX9_give 68 = .ok (.iconst 0, 1) := by decide +kernel
theorem dX9_give_69 : decode cX9_give 69 = .ok (.istore 5, 2) := by decide +kernel
theorem dX9_give_71 : decode cX9_give 71 = .ok (.iload 5, 2) := by decide +kernel
theorem dX9_give_73 : decode cX9_give 73 = .ok (.ifCond .eq 8, 3) := by decide +kernel
theorem dX9_give_76 : decode cX9_give 76 = .ok (.bipush (-2), 2) := by decide +kernel
theorem dX9_give_78 : decode cX9_give 78 = .ok (.goto 9, 3) := by decide +kernel
theorem dX9_give_81 : decode cX9_give 81 = .ok (.aload_n 0, 1) := by decide +kernel
theorem dX9_give_82 : decode cX9_give 82 = .ok (.iload_n 1, 1) := by decide +kernel
theorem dX9_give_83 : decode cX9_give 83 = .ok (.iload_n 2, 1) := by decide +kernel
theorem dX9_give_84 : decode cX9_give 84 = .ok (.invokevirtual 141, 3) := by decide +kernel
theorem dX9_give_87 : decode cX9_give 87 = .ok (.istore 6, 2) := by decide +kernel
theorem dX9_give_89 : decode cX9_give 89 = .ok (.iload 6, 2) := by decide +kernel
theorem dX9_give_91 : decode cX9_give 91 = .ok (.ifCond .lt 10, 3) := by decide +kernel
theorem dX9_give_94 : decode cX9_give 94 = .ok (.aload 4, 2) := by decide +kernel
theorem dX9_give_96 : decode cX9_give 96 = .ok (.iload_n 2, 1) := by decide +kernel
theorem dX9_give_97 : decode cX9_give 97 = .ok (.iload_n 3, 1) := by decide +kernel
theorem dX9_give_98 : decode cX9_give 98 = .ok (.invokevirtual 144, 3) := by decide +kernel
theorem dX9_give_101 : decode cX9_give 101 = .ok (.iload 6, 2) := by decide +kernel
theorem dX9_give_103 : decode cX9_give 103 = .ok (.ireturn, 1) := by decide +kernel
theorem dX9_need_0 : decode cX9_need 0 = .ok (.aload_n 0, 1) := by decide +kernel
theorem dX9_need_1 : decode cX9_need 1 = .ok (.getfield 16, 3) := by decide +kernel
theorem dX9_need_4 : decode cX9_need 4 = .ok (.iload_n 1, 1) := by decide +kernel
theorem dX9_need_5 : decode cX9_need 5 = .ok (.invokevirtual 127, 3) := by decide +kernel
theorem dX9_need_8 : decode cX9_need 8 = .ok (.ifCond .eq 10, 3) := by decide +kernel
theorem dX9_need_11 : decode cX9_need 11 = .ok (.iload_n 2, 1) := by decide +kernel
theorem dX9_need_12 : decode cX9_need 12 = .ok (.invokestatic 130, 3) := by decide +kernel
theorem dX9_need_15 : decode cX9_need 15 = .ok (.ifCond .ne 5, 3) := by decide +kernel
theorem dX9_need_18 : decode cX9_need 18 = .ok (.iconst (-1), 1) := by decide +kernel
theorem dX9_need_19 : decode cX9_need 19 = .ok (.ireturn, 1) := by decide +kernel
theorem dX9_need_20 : decode cX9_need 20 = .ok (.aload_n 0, 1) := by decide +kernel
theorem dX9_need_21 : decode cX9_need 21 = .ok (.getfield 16, 3) := by decide +kernel
theorem dX9_need_24 : decode cX9_need 24 = .ok (.getfield 98, 3) := by decide +kernel
theorem dX9_need_27 : decode cX9_need 27 = .ok (.iload_n 1, 1) := by decide +kernel
theorem dX9_need_28 : decode cX9_need 28 = .ok (.aaload, 1) := by decide +kernel
theorem dX9_need_29 : decode cX9_need 29 = .ok (.iload_n 2, 1) := by decide +kernel
theorem dX9_need_30 : decode cX9_need 30 = .ok (.invokevirtual 148, 3) := by decide +kernel
theorem dX9_need_33 : decode cX9_need 33 = .ok (.ifCond .eq 8, 3) := by decide +kernel
theorem dX9_need_36 : decode cX9_need 36 = .ok (.bipush (-2), 2) := by decide +kernel
theorem dX9_need_38 : decode cX9_need 38 = .ok (.goto 9, 3) := by decide +kernel
theorem dX9_need_41 : decode cX9_need 41 = .ok (.aload_n 0, 1) := by decide +kernel
theorem dX9_need_42 : decode cX9_need 42 = .ok (.iload_n 1, 1) := by decide +kernel
theorem dX9_need_43 : decode cX9_need 43 = .ok (.iload_n 2, 1) := by decide +kernel
theorem dX9_need_44 : decode cX9_need 44 = .ok (.invokevirtual 141, 3) := by decide +kernel
theorem dX9_need_47 : decode cX9_need 47 = .ok (.ireturn, 1) := by decide +kernel
theorem dX9_beginMember_0 : decode cX9_beginMember 0 = .ok (.aload_n 0, 1) := by decide +kernel
theorem dX9_beginMember_1 : decode cX9_beginMember 1 = .ok (.getfield 16, 3) := by decide +kernel
theorem dX9_beginMember_4 : decode cX9_beginMember 4 = .ok (.getfield 98, 3) := by decide +kernel
theorem dX9_beginMember_7 : decode cX9_beginMember 7 = .ok (.iload_n 1, 1) := by decide +kernel
theorem dX9_beginMember_8 : decode cX9_beginMember 8 = .ok (.aaload, 1) := by decide +kernel
theorem dX9_beginMember_9 : decode cX9_beginMember 9 = .ok (.astore_n 3, 1) := by decide +kernel
theorem dX9_beginMember_10 : decode cX9_beginMember 10 = .ok (.aload_n 3, 1) := by decide +kernel
theorem dX9_beginMember_11 : decode cX9_beginMember 11 = .ok (.iload_n 2, 1) := by decide +kernel
theorem dX9_beginMember_12 : decode cX9_beginMember 12 = .ok (.invokevirtual 151, 3) := by decide +kernel
theorem dX9_beginMember_15 : decode cX9_beginMember 15 = .ok (.istore 4, 2) := by decide +kernel
theorem dX9_beginMember_17 : decode cX9_beginMember 17 = .ok (.iload 4, 2) := by decide +kernel
theorem dX9_beginMember_19 : decode cX9_beginMember 19 = .ok (.ifCond .ne 15, 3) := by decide +kernel
theorem dX9_beginMember_22 : decode cX9_beginMember 22 = .ok (.aload_n 3, 1) := by decide +kernel
theorem dX9_beginMember_23 : decode cX9_beginMember 23 = .ok (.getfield 154, 3) := by decide +kernel
theorem dX9_beginMember_26 : decode cX9_beginMember 26 = .ok (.bipush 8, 2) := by decide +kernel
theorem dX9_beginMember_28 : decode cX9_beginMember 28 = .ok (.if_icmp .lt 6, 3) := by decide +kernel
theorem dX9_beginMember_31 : decode cX9_beginMember 31 = .ok (.bipush (-3), 2) := by decide +kernel
theorem dX9_beginMember_33 : decode cX9_beginMember 33 = .ok (.ireturn, 1) := by decide +kernel
theorem dX9_beginMember_34 : decode cX9_beginMember 34 = .ok (.aload_n 0, 1) := by decide +kernel
theorem dX9_beginMember_35 : decode cX9_beginMember 35 = .ok (.iload_n 1, 1) := by decide +kernel
theorem dX9_beginMember_36 : decode cX9_beginMember 36 = .ok (.invokevirtual 115, 3) := by decide +kernel
theorem dX9_beginMember_39 : decode cX9_beginMember 39 = .ok (.aload_n 3, 1) := by decide +kernel
theorem dX9_beginMember_40 : decode cX9_beginMember 40 = .ok (.iload_n 2, 1) := by decide +kernel
theorem dX9_beginMember_41 : decode cX9_beginMember 41 = .ok (.invokevirtual 157, 3) := by decide +kernel
theorem dX9_beginMember_44 : decode cX9_beginMember 44 = .ok (.iload 4, 2) := by decide +kernel
theorem dX9_beginMember_46 : decode cX9_beginMember 46 = .ok (.ifCond .eq 7, 3) := by decide +kernel
theorem dX9_beginMember_49 : decode cX9_beginMember 49 = .ok (.iconst 1, 1) := by decide +kernel
theorem dX9_beginMember_50 : decode cX9_beginMember 50 = .ok (.goto 4, 3) := by decide +kernel
theorem dX9_beginMember_53 : decode cX9_beginMember 53 = .ok (.iconst 0, 1) := by decide +kernel
theorem dX9_beginMember_54 : decode cX9_beginMember 54 = .ok (.ireturn, 1) := by decide +kernel
theorem dX9_take_0 : decode cX9_take 0 = .ok (.aload_n 0, 1) := by decide +kernel
theorem dX9_take_1 : decode cX9_take 1 = .ok (.getfield 16, 3) := by decide +kernel
theorem dX9_take_4 : decode cX9_take 4 = .ok (.iload_n 1, 1) := by decide +kernel
theorem dX9_take_5 : decode cX9_take 5 = .ok (.invokevirtual 127, 3) := by decide +kernel
theorem dX9_take_8 : decode cX9_take 8 = .ok (.ifCond .eq 26, 3) := by decide +kernel
theorem dX9_take_11 : decode cX9_take 11 = .ok (.iload_n 2, 1) := by decide +kernel
theorem dX9_take_12 : decode cX9_take 12 = .ok (.invokestatic 130, 3) := by decide +kernel
theorem dX9_take_15 : decode cX9_take 15 = .ok (.ifCond .eq 19, 3) := by decide +kernel
theorem dX9_take_18 : decode cX9_take 18 = .ok (.aload_n 0, 1) := by decide +kernel
theorem dX9_take_19 : decode cX9_take 19 = .ok (.getfield 16, 3) := by decide +kernel
theorem dX9_take_22 : decode cX9_take 22 = .ok (.getfield 98, 3) := by decide +kernel
theorem dX9_take_25 : decode cX9_take 25 = .ok (.iload_n 1, 1) := by decide +kernel
theorem dX9_take_26 : decode cX9_take 26 = .ok (.aaload, 1) := by decide +kernel
theorem dX9_take_27 : decode cX9_take 27 = .ok (.iload_n 2, 1) := by decide +kernel
theorem dX9_take_28 : decode cX9_take 28 = .ok (.invokevirtual 151, 3) := by decide +kernel
theorem dX9_take_31 : decode cX9_take 31 = .ok (.ifCond .ne 5, 3) := by decide +kernel
theorem dX9_take_34 : decode cX9_take 34 = .ok (.iconst (-1), 1) := by decide +kernel
theorem dX9_take_35 : decode cX9_take 35 = .ok (.ireturn, 1) := by decide +kernel
theorem dX9_take_36 : decode cX9_take 36 = .ok (.aload_n 0, 1) := by decide +kernel
theorem dX9_take_37 : decode cX9_take 37 = .ok (.iload_n 1, 1) := by decide +kernel
theorem dX9_take_38 : decode cX9_take 38 = .ok (.invokevirtual 115, 3) := by decide +kernel
theorem dX9_take_41 : decode cX9_take 41 = .ok (.aload_n 0, 1) := by decide +kernel
theorem dX9_take_42 : decode cX9_take 42 = .ok (.getfield 16, 3) := by decide +kernel
theorem dX9_take_45 : decode cX9_take 45 = .ok (.getfield 98, 3) := by decide +kernel
theorem dX9_take_48 : decode cX9_take 48 = .ok (.iload_n 1, 1) := by decide +kernel
theorem dX9_take_49 : decode cX9_take 49 = .ok (.aaload, 1) := by decide +kernel
theorem dX9_take_50 : decode cX9_take 50 = .ok (.iload_n 2, 1) := by decide +kernel
theorem dX9_take_51 : decode cX9_take 51 = .ok (.invokevirtual 160, 3) := by decide +kernel
theorem dX9_take_54 : decode cX9_take 54 = .ok (.aload_n 0, 1) := by decide +kernel
theorem dX9_take_55 : decode cX9_take 55 = .ok (.getfield 16, 3) := by decide +kernel
theorem dX9_take_58 : decode cX9_take 58 = .ok (.getfield 98, 3) := by decide +kernel
theorem dX9_take_61 : decode cX9_take 61 = .ok (.iload_n 1, 1) := by decide +kernel
theorem dX9_take_62 : decode cX9_take 62 = .ok (.aaload, 1) := by decide +kernel
theorem dX9_take_63 : decode cX9_take 63 = .ok (.getfield 154, 3) := by decide +kernel
theorem dX9_take_66 : decode cX9_take 66 = .ok (.ireturn, 1) := by decide +kernel
theorem dX9_use_0 : decode cX9_use 0 = .ok (.aload_n 0, 1) := by decide +kernel
theorem dX9_use_1 : decode cX9_use 1 = .ok (.getfield 16, 3) := by decide +kernel
theorem dX9_use_4 : decode cX9_use 4 = .ok (.iload_n 1, 1) := by decide +kernel
theorem dX9_use_5 : decode cX9_use 5 = .ok (.invokevirtual 127, 3) := by decide +kernel
theorem dX9_use_8 : decode cX9_use 8 = .ok (.ifCond .eq 19, 3) := by decide +kernel
theorem dX9_use_11 : decode cX9_use 11 = .ok (.aload_n 0, 1) := by decide +kernel
theorem dX9_use_12 : decode cX9_use 12 = .ok (.getfield 16, 3) := by decide +kernel
theorem dX9_use_15 : decode cX9_use 15 = .ok (.iload_n 2, 1) := by decide +kernel
theorem dX9_use_16 : decode cX9_use 16 = .ok (.invokevirtual 163, 3) := by decide +kernel
theorem dX9_use_19 : decode cX9_use 19 = .ok (.ifCond .eq 8, 3) := by decide +kernel
theorem dX9_use_22 : decode cX9_use 22 = .ok (.iload_n 2, 1) := by decide +kernel
theorem dX9_use_23 : decode cX9_use 23 = .ok (.iload_n 1, 1) := by decide +kernel
theorem dX9_use_24 : decode cX9_use 24 = .ok (.if_icmp .lt 5, 3) := by decide +kernel
theorem dX9_use_27 : decode cX9_use 27 = .ok (.iconst (-1), 1) := by decide +kernel
theorem dX9_use_28 : decode cX9_use 28 = .ok (.ireturn, 1) := by decide +kernel
theorem dX9_use_29 : decode cX9_use 29 = .ok (.aload_n 0, 1) := by decide +kernel
theorem dX9_use_30 : decode cX9_use 30 = .ok (.getfield 16, 3) := by decide +kernel
theorem dX9_use_33 : decode cX9_use 33 = .ok (.getfield 98, 3) := by decide +kernel
theorem dX9_use_36 : decode cX9_use 36 = .ok (.iload_n 1, 1) := by decide +kernel
theorem dX9_use_37 : decode cX9_use 37 = .ok (.aaload, 1) := by decide +kernel
theorem dX9_use_38 : decode cX9_use 38 = .ok (.astore_n 3, 1) := by decide +kernel
theorem dX9_use_39 : decode cX9_use 39 = .ok (.aload_n 3, 1) := by decide +kernel
theorem dX9_use_40 : decode cX9_use 40 = .ok (.getfield 166, 3) := by decide +kernel
theorem dX9_use_43 : decode cX9_use 43 = .ok (.iload_n 2, 1) := by decide +kernel
theorem dX9_use_44 : decode cX9_use 44 = .ok (.invokevirtual 108, 3) := by decide +kernel
theorem dX9_use_47 : decode cX9_use 47 = .ok (.iconst (-1), 1) := by decide +kernel
theorem dX9_use_48 : decode cX9_use 48 = .ok (.if_icmp .eq 6, 3) := by decide +kernel
theorem dX9_use_51 : decode cX9_use 51 = .ok (.bipush (-2), 2) := by decide +kernel
theorem dX9_use_53 : decode cX9_use 53 = .ok (.ireturn, 1) := by decide +kernel
theorem dX9_use_54 : decode cX9_use 54 = .ok (.aload_n 3, 1) := by decide +kernel
theorem dX9_use_55 : decode cX9_use 55 = .ok (.getfield 166, 3) := by decide +kernel
theorem dX9_use_58 : decode cX9_use 58 = .ok (.getfield 114, 3) := by decide +kernel
theorem dX9_use_61 : decode cX9_use 61 = .ok (.iconst 4, 1) := by decide +kernel
theorem dX9_use_62 : decode cX9_use 62 = .ok (.if_icmp .lt 6, 3) := by decide +kernel
theorem dX9_use_65 : decode cX9_use 65 = .ok (.bipush (-3), 2) := by decide +kernel
theorem dX9_use_67 : decode cX9_use 67 = .ok (.ireturn, 1) := by decide +kernel
theorem dX9_use_68 : decode cX9_use 68 = .ok (.aload_n 0, 1) := by decide +kernel
theorem dX9_use_69 : decode cX9_use 69 = .ok (.iload_n 1, 1) := by decide +kernel
theorem dX9_use_70 : decode cX9_use 70 = .ok (.invokevirtual 115, 3) := by decide +kernel
theorem dX9_use_73 : decode cX9_use 73 = .ok (.aload_n 3, 1) := by decide +kernel
theorem dX9_use_74 : decode cX9_use 74 = .ok (.iload_n 2, 1) := by decide +kernel
theorem dX9_use_75 : decode cX9_use 75 = .ok (.invokevirtual 169, 3) := by decide +kernel
theorem dX9_use_78 : decode cX9_use 78 = .ok (.aload_n 3, 1) := by decide +kernel
theorem dX9_use_79 : decode cX9_use 79 = .ok (.getfield 166, 3) := by decide +kernel
theorem dX9_use_82 : decode cX9_use 82 = .ok (.getfield 114, 3) := by decide +kernel
theorem dX9_use_85 : decode cX9_use 85 = .ok (.ireturn, 1) := by decide +kernel
theorem dX9_change_0 : decode cX9_change 0 = .ok (.aload_n 0, 1) := by decide +kernel
theorem dX9_change_1 : decode cX9_change 1 = .ok (.getfield 16, 3) := by decide +kernel
theorem dX9_change_4 : decode cX9_change 4 = .ok (.iload_n 1, 1) := by decide +kernel
theorem dX9_change_5 : decode cX9_change 5 = .ok (.invokevirtual 127, 3) := by decide +kernel
theorem dX9_change_8 : decode cX9_change 8 = .ok (.ifCond .eq 24, 3) := by decide +kernel
theorem dX9_change_11 : decode cX9_change 11 = .ok (.iload_n 3, 1) := by decide +kernel
theorem dX9_change_12 : decode cX9_change 12 = .ok (.invokestatic 130, 3) := by decide +kernel
theorem dX9_change_15 : decode cX9_change 15 = .ok (.ifCond .eq 17, 3) := by decide +kernel
theorem dX9_change_18 : decode cX9_change 18 = .ok (.iload 4, 2) := by decide +kernel
theorem dX9_change_20 : decode cX9_change 20 = .ok (.iconst (-1), 1) := by decide +kernel
theorem dX9_change_21 : decode cX9_change 21 = .ok (.if_icmp .eq 13, 3) := by decide +kernel
theorem dX9_change_24 : decode cX9_change 24 = .ok (.iload 4, 2) := by decide +kernel
theorem dX9_change_26 : decode cX9_change 26 = .ok (.invokestatic 130, 3) := by decide +kernel
theorem dX9_change_29 : decode cX9_change 29 = .ok (.ifCond .ne 5, 3) := by decide +kernel
theorem dX9_change_32 : decode cX9_change 32 = .ok (.iconst (-1), 1) := by decide +kernel
theorem dX9_change_33 : decode cX9_change 33 = .ok (.ireturn, 1) := by decide +kernel
theorem dX9_change_34 : decode cX9_change 34 = .ok (.aload_n 0, 1) := by decide +kernel
theorem dX9_change_35 : decode cX9_change 35 = .ok (.getfield 16, 3) := by decide +kernel
theorem dX9_change_38 : decode cX9_change 38 = .ok (.getfield 98, 3) := by decide +kernel
theorem dX9_change_41 : decode cX9_change 41 = .ok (.iload_n 1, 1) := by decide +kernel
theorem dX9_change_42 : decode cX9_change 42 = .ok (.aaload, 1) := by decide +kernel
theorem dX9_change_43 : decode cX9_change 43 = .ok (.astore 5, 2) := by decide +kernel
theorem dX9_change_45 : decode cX9_change 45 = .ok (.aload 5, 2) := by decide +kernel
theorem dX9_change_47 : decode cX9_change 47 = .ok (.getfield 166, 3) := by decide +kernel
theorem dX9_change_50 : decode cX9_change 50 = .ok (.iload_n 2, 1) := by decide +kernel
theorem dX9_change_51 : decode cX9_change 51 = .ok (.invokevirtual 108, 3) := by decide +kernel
theorem dX9_change_54 : decode cX9_change 54 = .ok (.istore 6, 2) := by decide +kernel
theorem dX9_change_56 : decode cX9_change 56 = .ok (.iload 6, 2) := by decide +kernel
theorem dX9_change_58 : decode cX9_change 58 = .ok (.iconst (-1), 1) := by decide +kernel
theorem dX9_change_59 : decode cX9_change 59 = .ok (.if_icmp .ne 5, 3) := by decide +kernel
theorem dX9_change_62 : decode cX9_change 62 = .ok (.iconst (-1), 1) := by decide +kernel
theorem dX9_change_63 : decode cX9_change 63 = .ok (.ireturn, 1) := by decide +kernel
theorem dX9_change_64 : decode cX9_change 64 = .ok (.aload 5, 2) := by decide +kernel
theorem dX9_change_66 : decode cX9_change 66 = .ok (.iload 6, 2) := by decide +kernel
theorem dX9_change_68 : decode cX9_change 68 = .ok (.iload_n 3, 1) := by decide +kernel
theorem dX9_change_69 : decode cX9_change 69 = .ok (.invokevirtual 172, 3) := by decide +kernel
theorem dX9_change_72 : decode cX9_change 72 = .ok (.istore 7, 2) := by decide +kernel
theorem dX9_change_74 : decode cX9_change 74 = .ok (.iload 7, 2) := by decide +kernel
theorem dX9_change_76 : decode cX9_change 76 = .ok (.iload 4, 2) := by decide +kernel
theorem dX9_change_78 : decode cX9_change 78 = .ok (.if_icmp .ne 6, 3) := by decide +kernel
theorem dX9_change_81 : decode cX9_change 81 = .ok (.bipush (-2), 2) := by decide +kernel
theorem dX9_change_83 : decode cX9_change 83 = .ok (.ireturn, 1) := by decide +kernel
theorem dX9_change_84 : decode cX9_change 84 = .ok (.iload 7, 2) := by decide +kernel
theorem dX9_change_86 : decode cX9_change 86 = .ok (.iload_n 3, 1) := by decide +kernel
theorem dX9_change_87 : decode cX9_change 87 = .ok (.if_icmp .ne 19, 3) := by decide +kernel
theorem dX9_change_90 : decode cX9_change 90 = .ok (.aload 5, 2) := by decide +kernel
theorem dX9_change_92 : decode cX9_change 92 = .ok (.getfield 175, 3) := by decide +kernel
theorem dX9_change_95 : decode cX9_change 95 = .ok (.iload 6, 2) := by decide +kernel
theorem dX9_change_97 : decode cX9_change 97 = .ok (.iaload, 1) := by decide +kernel
theorem dX9_change_98 : decode cX9_change 98 = .ok (.bipush 6, 2) := by decide +kernel
theorem dX9_change_100 : decode cX9_change 100 = .ok (.if_icmp .lt 6, 3) := by decide +kernel
theorem dX9_change_103 : decode cX9_change 103 = .ok (.bipush (-3), 2) := by decide +kernel
theorem dX9_change_105 : decode cX9_change 105 = .ok (.ireturn, 1) := by decide +kernel
theorem dX9_change_106 : decode cX9_change 106 = .ok (.aload_n 0, 1) := by decide +kernel
theorem dX9_change_107 : decode cX9_change 107 = .ok (.iload_n 1, 1) := by decide +kernel
theorem dX9_change_108 : decode cX9_change 108 = .ok (.invokevirtual 115, 3) := by decide +kernel
theorem dX9_change_111 : decode cX9_change 111 = .ok (.aload 5, 2) := by decide +kernel
theorem dX9_change_113 : decode cX9_change 113 = .ok (.iload 6, 2) := by decide +kernel
theorem dX9_change_115 : decode cX9_change 115 = .ok (.iload_n 3, 1) := by decide +kernel
theorem dX9_change_116 : decode cX9_change 116 = .ok (.iload 4, 2) := by decide +kernel
theorem dX9_change_118 : decode cX9_change 118 = .ok (.invokevirtual 178, 3) := by decide +kernel
theorem dX9_change_121 : decode cX9_change 121 = .ok (.aload 5, 2) := by decide +kernel
theorem dX9_change_123 : decode cX9_change 123 = .ok (.getfield 175, 3) := by decide +kernel
theorem dX9_change_126 : decode cX9_change 126 = .ok (.iload 6, 2) := by decide +kernel
theorem dX9_change_128 : decode cX9_change 128 = .ok (.iaload, 1) := by decide +kernel
theorem dX9_change_129 : decode cX9_change 129 = .ok (.ireturn, 1) := by decide +kernel
theorem dX9_beginAct_0 : decode cX9_beginAct 0 = .ok (.aload_n 0, 1) := by decide +kernel
theorem dX9_beginAct_1 : decode cX9_beginAct 1 = .ok (.getfield 37, 3) := by decide +kernel
theorem dX9_beginAct_4 : decode cX9_beginAct 4 = .ok (.iload_n 1, 1) := by decide +kernel
theorem dX9_beginAct_5 : decode cX9_beginAct 5 = .ok (.aload_n 0, 1) := by decide +kernel
theorem dX9_beginAct_6 : decode cX9_beginAct 6 = .ok (.getfield 16, 3) := by decide +kernel
theorem dX9_beginAct_9 : decode cX9_beginAct 9 = .ok (.getfield 98, 3) := by decide +kernel
theorem dX9_beginAct_12 : decode cX9_beginAct 12 = .ok (.iload_n 1, 1) := by decide +kernel
theorem dX9_beginAct_13 : decode cX9_beginAct 13 = .ok (.aaload, 1) := by decide +kernel
theorem dX9_beginAct_14 : decode cX9_beginAct 14 = .ok (.invokevirtual 182, 3) := by decide +kernel
theorem dX9_beginAct_17 : decode cX9_beginAct 17 = .ok (.aload_n 0, 1) := by decide +kernel
theorem dX9_beginAct_18 : decode cX9_beginAct 18 = .ok (.iconst 1, 1) := by decide +kernel
theorem dX9_beginAct_19 : decode cX9_beginAct 19 = .ok (.putfield 90, 3) := by decide +kernel
theorem dX9_beginAct_22 : decode cX9_beginAct 22 = .ok (.return_, 1) := by decide +kernel
theorem dX9_undo_0 : decode cX9_undo 0 = .ok (.aload_n 0, 1) := by decide +kernel
theorem dX9_undo_1 : decode cX9_undo 1 = .ok (.getfield 37, 3) := by decide +kernel
theorem dX9_undo_4 : decode cX9_undo 4 = .ok (.getfield 186, 3) := by decide +kernel
theorem dX9_undo_7 : decode cX9_undo 7 = .ok (.ifCond .ne 5, 3) := by decide +kernel
theorem dX9_undo_10 : decode cX9_undo 10 = .ok (.iconst (-1), 1) := by decide +kernel
theorem dX9_undo_11 : decode cX9_undo 11 = .ok (.ireturn, 1) := by decide +kernel
theorem dX9_undo_12 : decode cX9_undo 12 = .ok (.aload_n 0, 1) := by decide +kernel
theorem dX9_undo_13 : decode cX9_undo 13 = .ok (.getfield 37, 3) := by decide +kernel
theorem dX9_undo_16 : decode cX9_undo 16 = .ok (.aload_n 0, 1) := by decide +kernel
theorem dX9_undo_17 : decode cX9_undo 17 = .ok (.getfield 16, 3) := by decide +kernel
theorem dX9_undo_20 : decode cX9_undo 20 = .ok (.invokevirtual 187, 3) := by decide +kernel
theorem dX9_undo_23 : decode cX9_undo 23 = .ok (.aload_n 0, 1) := by decide +kernel
theorem dX9_undo_24 : decode cX9_undo 24 = .ok (.iconst 1, 1) := by decide +kernel
theorem dX9_undo_25 : decode cX9_undo 25 = .ok (.putfield 90, 3) := by decide +kernel
theorem dX9_undo_28 : decode cX9_undo 28 = .ok (.aload_n 0, 1) := by decide +kernel
theorem dX9_undo_29 : decode cX9_undo 29 = .ok (.getfield 37, 3) := by decide +kernel
theorem dX9_undo_32 : decode cX9_undo 32 = .ok (.getfield 186, 3) := by decide +kernel
theorem dX9_undo_35 : decode cX9_undo 35 = .ok (.ireturn, 1) := by decide +kernel
theorem dX9_keep_0 : decode cX9_keep 0 = .ok (.iload_n 1, 1) := by decide +kernel
theorem dX9_keep_1 : decode cX9_keep 1 = .ok (.ifCond .lt 8, 3) := by decide +kernel
theorem dX9_keep_4 : decode cX9_keep 4 = .ok (.iload_n 1, 1) := by decide +kernel
theorem dX9_keep_5 : decode cX9_keep 5 = .ok (.iconst 2, 1) := by decide +kernel
theorem dX9_keep_6 : decode cX9_keep 6 = .ok (.if_icmp .lt 5, 3) := by decide +kernel
theorem dX9_keep_9 : decode cX9_keep 9 = .ok (.iconst (-1), 1) := by decide +kernel
theorem dX9_keep_10 : decode cX9_keep 10 = .ok (.ireturn, 1) := by decide +kernel
theorem dX9_keep_11 : decode cX9_keep 11 = .ok (.aload_n 0, 1) := by decide +kernel
theorem dX9_keep_12 : decode cX9_keep 12 = .ok (.getfield 23, 3) := by decide +kernel
theorem dX9_keep_15 : decode cX9_keep 15 = .ok (.iload_n 1, 1) := by decide +kernel
theorem dX9_keep_16 : decode cX9_keep 16 = .ok (.aaload, 1) := by decide +kernel
theorem dX9_keep_17 : decode cX9_keep 17 = .ok (.aload_n 0, 1) := by decide +kernel
theorem dX9_keep_18 : decode cX9_keep 18 = .ok (.getfield 16, 3) := by decide +kernel
theorem dX9_keep_21 : decode cX9_keep 21 = .ok (.invokevirtual 191, 3) := by decide +kernel
theorem dX9_keep_24 : decode cX9_keep 24 = .ok (.aload_n 0, 1) := by decide +kernel
theorem dX9_keep_25 : decode cX9_keep 25 = .ok (.dup, 1) := by decide +kernel
theorem dX9_keep_26 : decode cX9_keep 26 = .ok (.getfield 194, 3) := by decide +kernel
theorem dX9_keep_29 : decode cX9_keep 29 = .ok (.iconst 1, 1) := by decide +kernel
theorem dX9_keep_30 : decode cX9_keep 30 = .ok (.iload_n 1, 1) := by decide +kernel
theorem dX9_keep_31 : decode cX9_keep 31 = .ok (.ishl, 1) := by decide +kernel
theorem dX9_keep_32 : decode cX9_keep 32 = .ok (.ior, 1) := by decide +kernel
theorem dX9_keep_33 : decode cX9_keep 33 = .ok (.putfield 194, 3) := by decide +kernel
theorem dX9_keep_36 : decode cX9_keep 36 = .ok (.aload_n 0, 1) := by decide +kernel
theorem dX9_keep_37 : decode cX9_keep 37 = .ok (.getfield 16, 3) := by decide +kernel
theorem dX9_keep_40 : decode cX9_keep 40 = .ok (.getfield 84, 3) := by decide +kernel
theorem dX9_keep_43 : decode cX9_keep 43 = .ok (.ireturn, 1) := by decide +kernel
theorem dX9_back_0 : decode cX9_back 0 = .ok (.iload_n 1, 1) := by decide +kernel
theorem dX9_back_1 : decode cX9_back 1 = .ok (.ifCond .lt 8, 3) := by decide +kernel
theorem dX9_back_4 : decode cX9_back 4 = .ok (.iload_n 1, 1) := by decide +kernel
theorem dX9_back_5 : decode cX9_back 5 = .ok (.iconst 2, 1) := by decide +kernel
theorem dX9_back_6 : decode cX9_back 6 = .ok (.if_icmp .lt 5, 3) := by decide +kernel
theorem dX9_back_9 : decode cX9_back 9 = .ok (.iconst (-1), 1) := by decide +kernel
theorem dX9_back_10 : decode cX9_back 10 = .ok (.ireturn, 1) := by decide +kernel
theorem dX9_back_11 : decode cX9_back 11 = .ok (.aload_n 0, 1) := by decide +kernel
theorem dX9_back_12 : decode cX9_back 12 = .ok (.getfield 194, 3) := by decide +kernel
theorem dX9_back_15 : decode cX9_back 15 = .ok (.iload_n 1, 1) := by decide +kernel
theorem dX9_back_16 : decode cX9_back 16 = .ok (.invokestatic 197, 3) := by decide +kernel
theorem dX9_back_19 : decode cX9_back 19 = .ok (.ifCond .ne 6, 3) := by decide +kernel
theorem dX9_back_22 : decode cX9_back 22 = .ok (.bipush (-2), 2) := by decide +kernel
theorem dX9_back_24 : decode cX9_back 24 = .ok (.ireturn, 1) := by decide +kernel
theorem dX9_back_25 : decode cX9_back 25 = .ok (.aload_n 0, 1) := by decide +kernel
theorem dX9_back_26 : decode cX9_back 26 = .ok (.getfield 16, 3) := by decide +kernel
theorem dX9_back_29 : decode cX9_back 29 = .ok (.aload_n 0, 1) := by decide +kernel
theorem dX9_back_30 : decode cX9_back 30 = .ok (.getfield 23, 3) := by decide +kernel
theorem dX9_back_33 : decode cX9_back 33 = .ok (.iload_n 1, 1) := by decide +kernel
theorem dX9_back_34 : decode cX9_back 34 = .ok (.aaload, 1) := by decide +kernel
theorem dX9_back_35 : decode cX9_back 35 = .ok (.invokevirtual 191, 3) := by decide +kernel
theorem dX9_back_38 : decode cX9_back 38 = .ok (.aload_n 0, 1) := by decide +kernel
theorem dX9_back_39 : decode cX9_back 39 = .ok (.invokevirtual 81, 3) := by decide +kernel
theorem dX9_back_42 : decode cX9_back 42 = .ok (.aload_n 0, 1) := by decide +kernel
theorem dX9_back_43 : decode cX9_back 43 = .ok (.getfield 16, 3) := by decide +kernel
theorem dX9_back_46 : decode cX9_back 46 = .ok (.getfield 84, 3) := by decide +kernel
theorem dX9_back_49 : decode cX9_back 49 = .ok (.ireturn, 1) := by decide +kernel
theorem dX9_unit_0 : decode cX9_unit 0 = .ok (.aload_n 0, 1) := by decide +kernel
theorem dX9_unit_1 : decode cX9_unit 1 = .ok (.getfield 16, 3) := by decide +kernel
theorem dX9_unit_4 : decode cX9_unit 4 = .ok (.iload_n 1, 1) := by decide +kernel
theorem dX9_unit_5 : decode cX9_unit 5 = .ok (.invokevirtual 127, 3) := by decide +kernel
theorem dX9_unit_8 : decode cX9_unit 8 = .ok (.ifCond .ne 5, 3) := by decide +kernel
theorem dX9_unit_11 : decode cX9_unit 11 = .ok (.iconst (-1), 1) := by decide +kernel
theorem dX9_unit_12 : decode cX9_unit 12 = .ok (.ireturn, 1) := by decide +kernel
theorem dX9_unit_13 : decode cX9_unit 13 = .ok (.aload_n 0, 1) := by decide +kernel
theorem dX9_unit_14 : decode cX9_unit 14 = .ok (.invokevirtual 201, 3) := by decide +kernel
theorem dX9_unit_17 : decode cX9_unit 17 = .ok (.aload_n 0, 1) := by decide +kernel
theorem dX9_unit_18 : decode cX9_unit 18 = .ok (.getfield 16, 3) := by decide +kernel
theorem dX9_unit_21 : decode cX9_unit 21 = .ok (.getfield 98, 3) := by decide +kernel
theorem dX9_unit_24 : decode cX9_unit 24 = .ok (.iload_n 1, 1) := by decide +kernel
theorem dX9_unit_25 : decode cX9_unit 25 = .ok (.aaload, 1) := by decide +kernel
theorem dX9_unit_26 : decode cX9_unit 26 = .ok (.astore_n 3, 1) := by decide +kernel
theorem dX9_unit_27 : decode cX9_unit 27 = .ok (.iload_n 2, 1) := by decide +kernel
theorem dX9_unit_28 : decode cX9_unit 28 = .ok (.tableswitch 139 0 9 #[56, 69, 74, 82, 90, 95, 100, 109, 119, 129], 56) := by decide +kernel
theorem dX9_unit_84 : decode cX9_unit 84 = .ok (.aload_n 3, 1) := by decide +kernel
theorem dX9_unit_85 : decode cX9_unit 85 = .ok (.getfield 204, 3) := by decide +kernel
theorem dX9_unit_88 : decode cX9_unit 88 = .ok (.ifCond .eq 7, 3) := by decide +kernel
theorem dX9_unit_91 : decode cX9_unit 91 = .ok (.iconst 1, 1) := by decide +kernel
theorem dX9_unit_92 : decode cX9_unit 92 = .ok (.goto 4, 3) := by decide +kernel
theorem dX9_unit_95 : decode cX9_unit 95 = .ok (.iconst 0, 1) := by decide +kernel
theorem dX9_unit_96 : decode cX9_unit 96 = .ok (.ireturn, 1) := by decide +kernel
theorem dX9_unit_97 : decode cX9_unit 97 = .ok (.aload_n 3, 1) := by decide +kernel
theorem dX9_unit_98 : decode cX9_unit 98 = .ok (.getfield 207, 3) := by decide +kernel
theorem dX9_unit_101 : decode cX9_unit 101 = .ok (.ireturn, 1) := by decide +kernel
theorem dX9_unit_102 : decode cX9_unit 102 = .ok (.aload_n 3, 1) := by decide +kernel
theorem dX9_unit_103 : decode cX9_unit 103 = .ok (.getfield 102, 3) := by decide +kernel
theorem dX9_unit_106 : decode cX9_unit 106 = .ok (.getfield 114, 3) := by decide +kernel
theorem dX9_unit_109 : decode cX9_unit 109 = .ok (.ireturn, 1) := by decide +kernel
theorem dX9_unit_110 : decode cX9_unit 110 = .ok (.aload_n 3, 1) := by decide +kernel
theorem dX9_unit_111 : decode cX9_unit 111 = .ok (.getfield 166, 3) := by decide +kernel
theorem dX9_unit_114 : decode cX9_unit 114 = .ok (.getfield 114, 3) := by decide +kernel
theorem dX9_unit_117 : decode cX9_unit 117 = .ok (.ireturn, 1) := by decide +kernel
theorem dX9_unit_118 : decode cX9_unit 118 = .ok (.aload_n 3, 1) := by decide +kernel
theorem dX9_unit_119 : decode cX9_unit 119 = .ok (.invokevirtual 210, 3) := by decide +kernel
theorem dX9_unit_122 : decode cX9_unit 122 = .ok (.ireturn, 1) := by decide +kernel
theorem dX9_unit_123 : decode cX9_unit 123 = .ok (.aload_n 3, 1) := by decide +kernel
theorem dX9_unit_124 : decode cX9_unit 124 = .ok (.invokevirtual 214, 3) := by decide +kernel
theorem dX9_unit_127 : decode cX9_unit 127 = .ok (.ireturn, 1) := by decide +kernel
theorem dX9_unit_128 : decode cX9_unit 128 = .ok (.aload_n 0, 1) := by decide +kernel
theorem dX9_unit_129 : decode cX9_unit 129 = .ok (.getfield 44, 3) := by decide +kernel
theorem dX9_unit_132 : decode cX9_unit 132 = .ok (.iload_n 1, 1) := by decide +kernel
theorem dX9_unit_133 : decode cX9_unit 133 = .ok (.invokevirtual 217, 3) := by decide +kernel
theorem dX9_unit_136 : decode cX9_unit 136 = .ok (.ireturn, 1) := by decide +kernel
theorem dX9_unit_137 : decode cX9_unit 137 = .ok (.aload_n 0, 1) := by decide +kernel
theorem dX9_unit_138 : decode cX9_unit 138 = .ok (.getfield 44, 3) := by decide +kernel
theorem dX9_unit_141 : decode cX9_unit 141 = .ok (.iload_n 1, 1) := by decide +kernel
theorem dX9_unit_142 : decode cX9_unit 142 = .ok (.iconst 1, 1) := by decide +kernel
theorem dX9_unit_143 : decode cX9_unit 143 = .ok (.invokevirtual 220, 3) := by decide +kernel
theorem dX9_unit_146 : decode cX9_unit 146 = .ok (.ireturn, 1) := by decide +kernel
theorem dX9_unit_147 : decode cX9_unit 147 = .ok (.aload_n 0, 1) := by decide +kernel
theorem dX9_unit_148 : decode cX9_unit 148 = .ok (.getfield 44, 3) := by decide +kernel
theorem dX9_unit_151 : decode cX9_unit 151 = .ok (.iload_n 1, 1) := by decide +kernel
theorem dX9_unit_152 : decode cX9_unit 152 = .ok (.iconst 2, 1) := by decide +kernel
theorem dX9_unit_153 : decode cX9_unit 153 = .ok (.invokevirtual 220, 3) := by decide +kernel
theorem dX9_unit_156 : decode cX9_unit 156 = .ok (.ireturn, 1) := by decide +kernel
theorem dX9_unit_157 : decode cX9_unit 157 = .ok (.aload_n 0, 1) := by decide +kernel
theorem dX9_unit_158 : decode cX9_unit 158 = .ok (.getfield 44, 3) := by decide +kernel
theorem dX9_unit_161 : decode cX9_unit 161 = .ok (.iload_n 1, 1) := by decide +kernel
theorem dX9_unit_162 : decode cX9_unit 162 = .ok (.iconst 3, 1) := by decide +kernel
theorem dX9_unit_163 : decode cX9_unit 163 = .ok (.invokevirtual 220, 3) := by decide +kernel
theorem dX9_unit_166 : decode cX9_unit 166 = .ok (.ireturn, 1) := by decide +kernel
theorem dX9_unit_167 : decode cX9_unit 167 = .ok (.iconst (-1), 1) := by decide +kernel
theorem dX9_unit_168 : decode cX9_unit 168 = .ok (.ireturn, 1) := by decide +kernel
theorem dX9_parent_0 : decode cX9_parent 0 = .ok (.aload_n 0, 1) := by decide +kernel
theorem dX9_parent_1 : decode cX9_parent 1 = .ok (.getfield 16, 3) := by decide +kernel
theorem dX9_parent_4 : decode cX9_parent 4 = .ok (.iload_n 1, 1) := by decide +kernel
theorem dX9_parent_5 : decode cX9_parent 5 = .ok (.invokevirtual 94, 3) := by decide +kernel
theorem dX9_parent_8 : decode cX9_parent 8 = .ok (.ifCond .eq 22, 3) := by decide +kernel
theorem dX9_parent_11 : decode cX9_parent 11 = .ok (.aload_n 0, 1) := by decide +kernel
theorem dX9_parent_12 : decode cX9_parent 12 = .ok (.getfield 16, 3) := by decide +kernel
theorem dX9_parent_15 : decode cX9_parent 15 = .ok (.getfield 98, 3) := by decide +kernel
theorem dX9_parent_18 : decode cX9_parent 18 = .ok (.iload_n 1, 1) := by decide +kernel
theorem dX9_parent_19 : decode cX9_parent 19 = .ok (.aaload, 1) := by decide +kernel
theorem dX9_parent_20 : decode cX9_parent 20 = .ok (.getfield 102, 3) := by decide +kernel
theorem dX9_parent_23 : decode cX9_parent 23 = .ok (.iload_n 2, 1) := by decide +kernel
theorem dX9_parent_24 : decode cX9_parent 24 = .ok (.invokevirtual 223, 3) := by decide +kernel
theorem dX9_parent_27 : decode cX9_parent 27 = .ok (.goto 4, 3) := by decide +kernel
theorem dX9_parent_30 : decode cX9_parent 30 = .ok (.iconst (-1), 1) := by decide +kernel
theorem dX9_parent_31 : decode cX9_parent 31 = .ok (.ireturn, 1) := by decide +kernel
theorem dX9_used_0 : decode cX9_used 0 = .ok (.aload_n 0, 1) := by decide +kernel
theorem dX9_used_1 : decode cX9_used 1 = .ok (.getfield 16, 3) := by decide +kernel
theorem dX9_used_4 : decode cX9_used 4 = .ok (.iload_n 1, 1) := by decide +kernel
theorem dX9_used_5 : decode cX9_used 5 = .ok (.invokevirtual 127, 3) := by decide +kernel
theorem dX9_used_8 : decode cX9_used 8 = .ok (.ifCond .eq 22, 3) := by decide +kernel
theorem dX9_used_11 : decode cX9_used 11 = .ok (.aload_n 0, 1) := by decide +kernel
theorem dX9_used_12 : decode cX9_used 12 = .ok (.getfield 16, 3) := by decide +kernel
theorem dX9_used_15 : decode cX9_used 15 = .ok (.getfield 98, 3) := by decide +kernel
theorem dX9_used_18 : decode cX9_used 18 = .ok (.iload_n 1, 1) := by decide +kernel
theorem dX9_used_19 : decode cX9_used 19 = .ok (.aaload, 1) := by decide +kernel
theorem dX9_used_20 : decode cX9_used 20 = .ok (.getfield 166, 3) := by decide +kernel
theorem dX9_used_23 : decode cX9_used 23 = .ok (.iload_n 2, 1) := by decide +kernel
theorem dX9_used_24 : decode cX9_used 24 = .ok (.invokevirtual 223, 3) := by decide +kernel
theorem dX9_used_27 : decode cX9_used 27 = .ok (.goto 4, 3) := by decide +kernel
theorem dX9_used_30 : decode cX9_used 30 = .ok (.iconst (-1), 1) := by decide +kernel
theorem dX9_used_31 : decode cX9_used 31 = .ok (.ireturn, 1) := by decide +kernel
theorem dX9_becomes_0 : decode cX9_becomes 0 = .ok (.aload_n 0, 1) := by decide +kernel
theorem dX9_becomes_1 : decode cX9_becomes 1 = .ok (.getfield 16, 3) := by decide +kernel
theorem dX9_becomes_4 : decode cX9_becomes 4 = .ok (.iload_n 1, 1) := by decide +kernel
theorem dX9_becomes_5 : decode cX9_becomes 5 = .ok (.invokevirtual 127, 3) := by decide +kernel
theorem dX9_becomes_8 : decode cX9_becomes 8 = .ok (.ifCond .eq 10, 3) := by decide +kernel
theorem dX9_becomes_11 : decode cX9_becomes 11 = .ok (.iload_n 3, 1) := by decide +kernel
theorem dX9_becomes_12 : decode cX9_becomes 12 = .ok (.invokestatic 130, 3) := by decide +kernel
theorem dX9_becomes_15 : decode cX9_becomes 15 = .ok (.ifCond .ne 5, 3) := by decide +kernel
theorem dX9_becomes_18 : decode cX9_becomes 18 = .ok (.iconst (-1), 1) := by decide +kernel
theorem dX9_becomes_19 : decode cX9_becomes 19 = .ok (.ireturn, 1) := by decide +kernel
theorem dX9_becomes_20 : decode cX9_becomes 20 = .ok (.aload_n 0, 1) := by decide +kernel
theorem dX9_becomes_21 : decode cX9_becomes 21 = .ok (.getfield 16, 3) := by decide +kernel
theorem dX9_becomes_24 : decode cX9_becomes 24 = .ok (.getfield 98, 3) := by decide +kernel
theorem dX9_becomes_27 : decode cX9_becomes 27 = .ok (.iload_n 1, 1) := by decide +kernel
theorem dX9_becomes_28 : decode cX9_becomes 28 = .ok (.aaload, 1) := by decide +kernel
theorem dX9_becomes_29 : decode cX9_becomes 29 = .ok (.astore 4, 2) := by decide +kernel
theorem dX9_becomes_31 : decode cX9_becomes 31 = .ok (.iload_n 2, 1) := by decide +kernel
theorem dX9_becomes_32 : decode cX9_becomes 32 = .ok (.ifCond .lt 15, 3) := by decide +kernel
theorem dX9_becomes_35 : decode cX9_becomes 35 = .ok (.iload_n 2, 1) := by decide +kernel
theorem dX9_becomes_36 : decode cX9_becomes 36 = .ok (.aload 4, 2) := by decide +kernel
theorem dX9_becomes_38 : decode cX9_becomes 38 = .ok (.getfield 166, 3) := by decide +kernel
theorem dX9_becomes_41 : decode cX9_becomes 41 = .ok (.getfield 114, 3) := by decide +kernel
theorem dX9_becomes_44 : decode cX9_becomes 44 = .ok (.if_icmp .lt 5, 3) := by decide +kernel
theorem dX9_becomes_47 : decode cX9_becomes 47 = .ok (.iconst (-1), 1) := by decide +kernel
theorem dX9_becomes_48 : decode cX9_becomes 48 = .ok (.ireturn, 1) := by decide +kernel
theorem dX9_becomes_49 : decode cX9_becomes 49 = .ok (.aload 4, 2) := by decide +kernel
theorem dX9_becomes_51 : decode cX9_becomes 51 = .ok (.iload_n 2, 1) := by decide +kernel
theorem dX9_becomes_52 : decode cX9_becomes 52 = .ok (.iload_n 3, 1) := by decide +kernel
theorem dX9_becomes_53 : decode cX9_becomes 53 = .ok (.invokevirtual 172, 3) := by decide +kernel
theorem dX9_becomes_56 : decode cX9_becomes 56 = .ok (.istore 5, 2) := by decide +kernel
theorem dX9_becomes_58 : decode cX9_becomes 58 = .ok (.iload 5, 2) := by decide +kernel
theorem dX9_becomes_60 : decode cX9_becomes 60 = .ok (.iconst (-1), 1) := by decide +kernel
theorem dX9_becomes_61 : decode cX9_becomes 61 = .ok (.if_icmp .ne 8, 3) := by decide +kernel
theorem dX9_becomes_64 : decode cX9_becomes 64 = .ok (.bipush (-2), 2) := by decide +kernel
theorem dX9_becomes_66 : decode cX9_becomes 66 = .ok (.goto 5, 3) := by decide +kernel
theorem dX9_becomes_69 : decode cX9_becomes 69 = .ok (.iload 5, 2) := by decide +kernel
theorem dX9_becomes_71 : decode cX9_becomes 71 = .ok (.ireturn, 1) := by decide +kernel
theorem dX9_body_0 : decode cX9_body 0 = .ok (.aload_n 0, 1) := by decide +kernel
theorem dX9_body_1 : decode cX9_body 1 = .ok (.getfield 16, 3) := by decide +kernel
theorem dX9_body_4 : decode cX9_body 4 = .ok (.iload_n 1, 1) := by decide +kernel
theorem dX9_body_5 : decode cX9_body 5 = .ok (.invokevirtual 127, 3) := by decide +kernel
theorem dX9_body_8 : decode cX9_body 8 = .ok (.ifCond .eq 15, 3) := by decide +kernel
theorem dX9_body_11 : decode cX9_body 11 = .ok (.iload_n 2, 1) := by decide +kernel
theorem dX9_body_12 : decode cX9_body 12 = .ok (.invokestatic 130, 3) := by decide +kernel
theorem dX9_body_15 : decode cX9_body 15 = .ok (.ifCond .eq 8, 3) := by decide +kernel
theorem dX9_body_18 : decode cX9_body 18 = .ok (.iload_n 3, 1) := by decide +kernel
theorem dX9_body_19 : decode cX9_body 19 = .ok (.iconst (-1), 1) := by decide +kernel
theorem dX9_body_20 : decode cX9_body 20 = .ok (.if_icmp .ge 5, 3) := by decide +kernel
theorem dX9_body_23 : decode cX9_body 23 = .ok (.iconst (-1), 1) := by decide +kernel
theorem dX9_body_24 : decode cX9_body 24 = .ok (.ireturn, 1) := by decide +kernel
theorem dX9_body_25 : decode cX9_body 25 = .ok (.aload_n 0, 1) := by decide +kernel
theorem dX9_body_26 : decode cX9_body 26 = .ok (.getfield 16, 3) := by decide +kernel
theorem dX9_body_29 : decode cX9_body 29 = .ok (.getfield 98, 3) := by decide +kernel
theorem dX9_body_32 : decode cX9_body 32 = .ok (.iload_n 1, 1) := by decide +kernel
theorem dX9_body_33 : decode cX9_body 33 = .ok (.aaload, 1) := by decide +kernel
theorem dX9_body_34 : decode cX9_body 34 = .ok (.astore 4, 2) := by decide +kernel
theorem dX9_body_36 : decode cX9_body 36 = .ok (.aload 4, 2) := by decide +kernel
theorem dX9_body_38 : decode cX9_body 38 = .ok (.iload_n 2, 1) := by decide +kernel
theorem dX9_body_39 : decode cX9_body 39 = .ok (.invokevirtual 151, 3) := by decide +kernel
theorem dX9_body_42 : decode cX9_body 42 = .ok (.ifCond .ne 5, 3) := by decide +kernel
theorem dX9_body_45 : decode cX9_body 45 = .ok (.iconst (-1), 1) := by decide +kernel
theorem dX9_body_46 : decode cX9_body 46 = .ok (.ireturn, 1) := by decide +kernel
theorem dX9_body_47 : decode cX9_body 47 = .ok (.aload 4, 2) := by decide +kernel
theorem dX9_body_49 : decode cX9_body 49 = .ok (.getfield 133, 3) := by decide +kernel
theorem dX9_body_52 : decode cX9_body 52 = .ok (.iload_n 2, 1) := by decide +kernel
theorem dX9_body_53 : decode cX9_body 53 = .ok (.iaload, 1) := by decide +kernel
theorem dX9_body_54 : decode cX9_body 54 = .ok (.istore 5, 2) := by decide +kernel
theorem dX9_body_56 : decode cX9_body 56 = .ok (.iload_n 3, 1) := by decide +kernel
theorem dX9_body_57 : decode cX9_body 57 = .ok (.iconst (-1), 1) := by decide +kernel
theorem dX9_body_58 : decode cX9_body 58 = .ok (.if_icmp .ne 6, 3) := by decide +kernel
theorem dX9_body_61 : decode cX9_body 61 = .ok (.iload 5, 2) := by decide +kernel
theorem dX9_body_63 : decode cX9_body 63 = .ok (.ireturn, 1) := by decide +kernel
theorem dX9_body_64 : decode cX9_body 64 = .ok (.iload_n 3, 1) := by decide +kernel
theorem dX9_body_65 : decode cX9_body 65 = .ok (.iload 5, 2) := by decide +kernel
theorem dX9_body_67 : decode cX9_body 67 = .ok (.if_icmp .ge 13, 3) := by decide +kernel
theorem dX9_body_70 : decode cX9_body 70 = .ok (.aload 4, 2) := by decide +kernel
theorem dX9_body_72 : decode cX9_body 72 = .ok (.iload_n 2, 1) := by decide +kernel
theorem dX9_body_73 : decode cX9_body 73 = .ok (.iload_n 3, 1) := by decide +kernel
theorem dX9_body_74 : decode cX9_body 74 = .ok (.invokevirtual 137, 3) := by decide +kernel
theorem dX9_body_77 : decode cX9_body 77 = .ok (.goto 5, 3) := by decide +kernel
theorem dX9_body_80 : decode cX9_body 80 = .ok (.bipush (-2), 2) := by decide +kernel
theorem dX9_body_82 : decode cX9_body 82 = .ok (.ireturn, 1) := by decide +kernel
theorem dX9_flat_0 : decode cX9_flat 0 = .ok (.aload_n 0, 1) := by decide +kernel
theorem dX9_flat_1 : decode cX9_flat 1 = .ok (.getfield 16, 3) := by decide +kernel
theorem dX9_flat_4 : decode cX9_flat 4 = .ok (.iload_n 1, 1) := by decide +kernel
theorem dX9_flat_5 : decode cX9_flat 5 = .ok (.invokevirtual 127, 3) := by decide +kernel
theorem dX9_flat_8 : decode cX9_flat 8 = .ok (.ifCond .eq 19, 3) := by decide +kernel
theorem dX9_flat_11 : decode cX9_flat 11 = .ok (.iload_n 2, 1) := by decide +kernel
theorem dX9_flat_12 : decode cX9_flat 12 = .ok (.invokestatic 130, 3) := by decide +kernel
theorem dX9_flat_15 : decode cX9_flat 15 = .ok (.ifCond .eq 12, 3) := by decide +kernel
theorem dX9_flat_18 : decode cX9_flat 18 = .ok (.iload_n 3, 1) := by decide +kernel
theorem dX9_flat_19 : decode cX9_flat 19 = .ok (.ifCond .lt 8, 3) := by decide +kernel
theorem dX9_flat_22 : decode cX9_flat 22 = .ok (.iload_n 3, 1) := by decide +kernel
theorem dX9_flat_23 : decode cX9_flat 23 = .ok (.iconst 4, 1) := by decide +kernel
theorem dX9_flat_24 : decode cX9_flat 24 = .ok (.if_icmp .le 5, 3) := by decide +kernel
theorem dX9_flat_27 : decode cX9_flat 27 = .ok (.iconst (-1), 1) := by decide +kernel
theorem dX9_flat_28 : decode cX9_flat 28 = .ok (.ireturn, 1) := by decide +kernel
theorem dX9_flat_29 : decode cX9_flat 29 = .ok (.aload_n 0, 1) := by decide +kernel
theorem dX9_flat_30 : decode cX9_flat 30 = .ok (.invokevirtual 201, 3) := by decide +kernel
theorem dX9_flat_33 : decode cX9_flat 33 = .ok (.aload_n 0, 1) := by decide +kernel
theorem dX9_flat_34 : decode cX9_flat 34 = .ok (.getfield 44, 3) := by decide +kernel
theorem dX9_flat_37 : decode cX9_flat 37 = .ok (.iload_n 1, 1) := by decide +kernel
theorem dX9_flat_38 : decode cX9_flat 38 = .ok (.iload_n 2, 1) := by decide +kernel
theorem dX9_flat_39 : decode cX9_flat 39 = .ok (.invokevirtual 226, 3) := by decide +kernel
theorem dX9_flat_42 : decode cX9_flat 42 = .ok (.istore 4, 2) := by decide +kernel
theorem dX9_flat_44 : decode cX9_flat 44 = .ok (.iload 4, 2) := by decide +kernel
theorem dX9_flat_46 : decode cX9_flat 46 = .ok (.ifCond .ne 5, 3) := by decide +kernel
theorem dX9_flat_49 : decode cX9_flat 49 = .ok (.iconst (-1), 1) := by decide +kernel
theorem dX9_flat_50 : decode cX9_flat 50 = .ok (.ireturn, 1) := by decide +kernel
theorem dX9_flat_51 : decode cX9_flat 51 = .ok (.iload_n 3, 1) := by decide +kernel
theorem dX9_flat_52 : decode cX9_flat 52 = .ok (.ifCond .ne 6, 3) := by decide +kernel
theorem dX9_flat_55 : decode cX9_flat 55 = .ok (.iload 4, 2) := by decide +kernel
theorem dX9_flat_57 : decode cX9_flat 57 = .ok (.ireturn, 1) := by decide +kernel
theorem dX9_flat_58 : decode cX9_flat 58 = .ok (.iload 4, 2) := by decide +kernel
theorem dX9_flat_60 : decode cX9_flat 60 = .ok (.iconst 2, 1) := by decide +kernel
theorem dX9_flat_61 : decode cX9_flat 61 = .ok (.if_icmp .eq 14, 3) := by decide +kernel
theorem dX9_flat_64 : decode cX9_flat 64 = .ok (.iload 4, 2) := by decide +kernel
theorem dX9_flat_66 : decode cX9_flat 66 = .ok (.iconst 1, 1) := by decide +kernel
theorem dX9_flat_67 : decode cX9_flat 67 = .ok (.if_icmp .ne 11, 3) := by decide +kernel
theorem dX9_flat_70 : decode cX9_flat 70 = .ok (.iload_n 3, 1) := by decide +kernel
theorem dX9_flat_71 : decode cX9_flat 71 = .ok (.iconst 2, 1) := by decide +kernel
theorem dX9_flat_72 : decode cX9_flat 72 = .ok (.if_icmp .le 6, 3) := by decide +kernel
theorem dX9_flat_75 : decode cX9_flat 75 = .ok (.bipush (-2), 2) := by decide +kernel
theorem dX9_flat_77 : decode cX9_flat 77 = .ok (.ireturn, 1) := by decide +kernel
theorem dX9_flat_78 : decode cX9_flat 78 = .ok (.iload_n 3, 1) := by decide +kernel
theorem dX9_flat_79 : decode cX9_flat 79 = .ok (.iconst 2, 1) := by decide +kernel
theorem dX9_flat_80 : decode cX9_flat 80 = .ok (.if_icmp .gt 15, 3) := by decide +kernel
theorem dX9_flat_83 : decode cX9_flat 83 = .ok (.aload_n 0, 1) := by decide +kernel
theorem dX9_flat_84 : decode cX9_flat 84 = .ok (.getfield 44, 3) := by decide +kernel
theorem dX9_flat_87 : decode cX9_flat 87 = .ok (.iload_n 1, 1) := by decide +kernel
theorem dX9_flat_88 : decode cX9_flat 88 = .ok (.iload_n 2, 1) := by decide +kernel
theorem dX9_flat_89 : decode cX9_flat 89 = .ok (.invokevirtual 229, 3) := by decide +kernel
theorem dX9_flat_92 : decode cX9_flat 92 = .ok (.goto 12, 3) := by decide +kernel
theorem dX9_flat_95 : decode cX9_flat 95 = .ok (.aload_n 0, 1) := by decide +kernel
theorem dX9_flat_96 : decode cX9_flat 96 = .ok (.getfield 44, 3) := by decide +kernel
theorem dX9_flat_99 : decode cX9_flat 99 = .ok (.iload_n 1, 1) := by decide +kernel
theorem dX9_flat_100 : decode cX9_flat 100 = .ok (.iload_n 2, 1) := by decide +kernel
theorem dX9_flat_101 : decode cX9_flat 101 = .ok (.invokevirtual 232, 3) := by decide +kernel
theorem dX9_flat_104 : decode cX9_flat 104 = .ok (.istore 5, 2) := by decide +kernel
theorem dX9_flat_106 : decode cX9_flat 106 = .ok (.iload_n 3, 1) := by decide +kernel
theorem dX9_flat_107 : decode cX9_flat 107 = .ok (.iconst 1, 1) := by decide +kernel
theorem dX9_flat_108 : decode cX9_flat 108 = .ok (.if_icmp .eq 8, 3) := by decide +kernel
theorem dX9_flat_111 : decode cX9_flat 111 = .ok (.iload_n 3, 1) := by decide +kernel
theorem dX9_flat_112 : decode cX9_flat 112 = .ok (.iconst 3, 1) := by decide +kernel
theorem dX9_flat_113 : decode cX9_flat 113 = .ok (.if_icmp .ne 11, 3) := by decide +kernel
theorem dX9_flat_116 : decode cX9_flat 116 = .ok (.iload 5, 2) := by decide +kernel
theorem dX9_flat_118 : decode cX9_flat 118 = .ok (.bipush 26, 2) := by decide +kernel
theorem dX9_flat_120 : decode cX9_flat 120 = .ok (.idiv, 1) := by decide +kernel
theorem dX9_flat_121 : decode cX9_flat 121 = .ok (.goto 8, 3) := by decide +kernel
theorem dX9_flat_124 : decode cX9_flat 124 = .ok (.iload 5, 2) := by decide +kernel
theorem dX9_flat_126 : decode cX9_flat 126 = .ok (.bipush 26, 2) := by decide +kernel
theorem dX9_flat_128 : decode cX9_flat 128 = .ok (.irem, 1) := by decide +kernel
theorem dX9_flat_129 : decode cX9_flat 129 = .ok (.ireturn, 1) := by decide +kernel
theorem dX9_line_0 : decode cX9_line 0 = .ok (.aload_n 0, 1) := by decide +kernel
theorem dX9_line_1 : decode cX9_line 1 = .ok (.getfield 16, 3) := by decide +kernel
theorem dX9_line_4 : decode cX9_line 4 = .ok (.iload_n 1, 1) := by decide +kernel
theorem dX9_line_5 : decode cX9_line 5 = .ok (.invokevirtual 94, 3) := by decide +kernel
theorem dX9_line_8 : decode cX9_line 8 = .ok (.ifCond .eq 8, 3) := by decide +kernel
theorem dX9_line_11 : decode cX9_line 11 = .ok (.iload_n 2, 1) := by decide +kernel
theorem dX9_line_12 : decode cX9_line 12 = .ok (.iconst (-1), 1) := by decide +kernel
theorem dX9_line_13 : decode cX9_line 13 = .ok (.if_icmp .ge 5, 3) := by decide +kernel
theorem dX9_line_16 : decode cX9_line 16 = .ok (.iconst (-1), 1) := by decide +kernel
theorem dX9_line_17 : decode cX9_line 17 = .ok (.ireturn, 1) := by decide +kernel
theorem dX9_line_18 : decode cX9_line 18 = .ok (.aload_n 0, 1) := by decide +kernel
theorem dX9_line_19 : decode cX9_line 19 = .ok (.invokevirtual 201, 3) := by decide +kernel
theorem dX9_line_22 : decode cX9_line 22 = .ok (.aload_n 0, 1) := by decide +kernel
theorem dX9_line_23 : decode cX9_line 23 = .ok (.getfield 51, 3) := by decide +kernel
theorem dX9_line_26 : decode cX9_line 26 = .ok (.getfield 235, 3) := by decide +kernel
theorem dX9_line_29 : decode cX9_line 29 = .ok (.iload_n 1, 1) := by decide +kernel
theorem dX9_line_30 : decode cX9_line 30 = .ok (.aaload, 1) := by decide +kernel
theorem dX9_line_31 : decode cX9_line 31 = .ok (.aload_n 0, 1) := by decide +kernel
theorem dX9_line_32 : decode cX9_line 32 = .ok (.getfield 51, 3) := by decide +kernel
theorem dX9_line_35 : decode cX9_line 35 = .ok (.getfield 238, 3) := by decide +kernel
theorem dX9_line_38 : decode cX9_line 38 = .ok (.iload_n 1, 1) := by decide +kernel
theorem dX9_line_39 : decode cX9_line 39 = .ok (.iaload, 1) := by decide +kernel
theorem dX9_line_40 : decode cX9_line 40 = .ok (.iload_n 2, 1) := by decide +kernel
theorem dX9_line_41 : decode cX9_line 41 = .ok (.invokestatic 241, 3) := by decide +kernel
theorem dX9_line_44 : decode cX9_line 44 = .ok (.ireturn, 1) := by decide +kernel
theorem dX9_ring_0 : decode cX9_ring 0 = .ok (.aload_n 0, 1) := by decide +kernel
theorem dX9_ring_1 : decode cX9_ring 1 = .ok (.getfield 16, 3) := by decide +kernel
theorem dX9_ring_4 : decode cX9_ring 4 = .ok (.iload_n 1, 1) := by decide +kernel
theorem dX9_ring_5 : decode cX9_ring 5 = .ok (.invokevirtual 94, 3) := by decide +kernel
theorem dX9_ring_8 : decode cX9_ring 8 = .ok (.ifCond .eq 8, 3) := by decide +kernel
theorem dX9_ring_11 : decode cX9_ring 11 = .ok (.iload_n 2, 1) := by decide +kernel
theorem dX9_ring_12 : decode cX9_ring 12 = .ok (.iconst (-1), 1) := by decide +kernel
theorem dX9_ring_13 : decode cX9_ring 13 = .ok (.if_icmp .ge 5, 3) := by decide +kernel
theorem dX9_ring_16 : decode cX9_ring 16 = .ok (.iconst (-1), 1) := by decide +kernel
theorem dX9_ring_17 : decode cX9_ring 17 = .ok (.ireturn, 1) := by decide +kernel
theorem dX9_ring_18 : decode cX9_ring 18 = .ok (.aload_n 0, 1) := by decide +kernel
theorem dX9_ring_19 : decode cX9_ring 19 = .ok (.invokevirtual 201, 3) := by decide +kernel
theorem dX9_ring_22 : decode cX9_ring 22 = .ok (.aload_n 0, 1) := by decide +kernel
theorem dX9_ring_23 : decode cX9_ring 23 = .ok (.getfield 51, 3) := by decide +kernel
theorem dX9_ring_26 : decode cX9_ring 26 = .ok (.getfield 245, 3) := by decide +kernel
theorem dX9_ring_29 : decode cX9_ring 29 = .ok (.iload_n 1, 1) := by decide +kernel
theorem dX9_ring_30 : decode cX9_ring 30 = .ok (.aaload, 1) := by decide +kernel
theorem dX9_ring_31 : decode cX9_ring 31 = .ok (.aload_n 0, 1) := by decide +kernel
theorem dX9_ring_32 : decode cX9_ring 32 = .ok (.getfield 51, 3) := by decide +kernel
theorem dX9_ring_35 : decode cX9_ring 35 = .ok (.getfield 248, 3) := by decide +kernel
theorem dX9_ring_38 : decode cX9_ring 38 = .ok (.iload_n 1, 1) := by decide +kernel
theorem dX9_ring_39 : decode cX9_ring 39 = .ok (.iaload, 1) := by decide +kernel
theorem dX9_ring_40 : decode cX9_ring 40 = .ok (.iload_n 2, 1) := by decide +kernel
theorem dX9_ring_41 : decode cX9_ring 41 = .ok (.invokestatic 241, 3) := by decide +kernel
theorem dX9_ring_44 : decode cX9_ring 44 = .ok (.ireturn, 1) := by decide +kernel
theorem dX9_itemOrCount_0 : decode cX9_itemOrCount 0 = .ok (.iload_n 2, 1) := by decide +kernel
theorem dX9_itemOrCount_1 : decode cX9_itemOrCount 1 = .ok (.iconst (-1), 1) := by decide +kernel
theorem dX9_itemOrCount_2 : decode cX9_itemOrCount 2 = .ok (.if_icmp .ne 5, 3) := by decide +kernel
theorem dX9_itemOrCount_5 : decode cX9_itemOrCount 5 = .ok (.iload_n 1, 1) := by decide +kernel
theorem dX9_itemOrCount_6 : decode cX9_itemOrCount 6 = .ok (.ireturn, 1) := by decide +kernel
theorem dX9_itemOrCount_7 : decode cX9_itemOrCount 7 = .ok (.iload_n 2, 1) := by decide +kernel
theorem dX9_itemOrCount_8 : decode cX9_itemOrCount 8 = .ok (.ifCond .lt 20, 3) := by decide +kernel
theorem dX9_itemOrCount_11 : decode cX9_itemOrCount 11 = .ok (.iload_n 2, 1) := by decide +kernel
theorem dX9_itemOrCount_12 : decode cX9_itemOrCount 12 = .ok (.iload_n 1, 1) := by decide +kernel
theorem dX9_itemOrCount_13 : decode cX9_itemOrCount 13 = .ok (.if_icmp .ge 15, 3) := by decide +kernel
theorem dX9_itemOrCount_16 : decode cX9_itemOrCount 16 = .ok (.iload_n 2, 1) := by decide +kernel
theorem dX9_itemOrCount_17 : decode cX9_itemOrCount 17 = .ok (.aload_n 0, 1) := by decide +kernel
theorem dX9_itemOrCount_18 : decode cX9_itemOrCount 18 = .ok (.arraylength, 1) := by decide +kernel
theorem dX9_itemOrCount_19 : decode cX9_itemOrCount 19 = .ok (.if_icmp .ge 9, 3) := by decide +kernel
theorem dX9_itemOrCount_22 : decode cX9_itemOrCount 22 = .ok (.aload_n 0, 1) := by decide +kernel
theorem dX9_itemOrCount_23 : decode cX9_itemOrCount 23 = .ok (.iload_n 2, 1) := by decide +kernel
theorem dX9_itemOrCount_24 : decode cX9_itemOrCount 24 = .ok (.iaload, 1) := by decide +kernel
theorem dX9_itemOrCount_25 : decode cX9_itemOrCount 25 = .ok (.goto 5, 3) := by decide +kernel
theorem dX9_itemOrCount_28 : decode cX9_itemOrCount 28 = .ok (.bipush (-2), 2) := by decide +kernel
theorem dX9_itemOrCount_30 : decode cX9_itemOrCount 30 = .ok (.ireturn, 1) := by decide +kernel
theorem dX9_over_0 : decode cX9_over 0 = .ok (.aload_n 0, 1) := by decide +kernel
theorem dX9_over_1 : decode cX9_over 1 = .ok (.getfield 16, 3) := by decide +kernel
theorem dX9_over_4 : decode cX9_over 4 = .ok (.iload_n 1, 1) := by decide +kernel
theorem dX9_over_5 : decode cX9_over 5 = .ok (.invokevirtual 94, 3) := by decide +kernel
theorem dX9_over_8 : decode cX9_over 8 = .ok (.ifCond .ne 5, 3) := by decide +kernel
theorem dX9_over_11 : decode cX9_over 11 = .ok (.iconst (-1), 1) := by decide +kernel
theorem dX9_over_12 : decode cX9_over 12 = .ok (.ireturn, 1) := by decide +kernel
theorem dX9_over_13 : decode cX9_over 13 = .ok (.aload_n 0, 1) := by decide +kernel
theorem dX9_over_14 : decode cX9_over 14 = .ok (.invokevirtual 201, 3) := by decide +kernel
theorem dX9_over_17 : decode cX9_over 17 = .ok (.aload_n 0, 1) := by decide +kernel
theorem dX9_over_18 : decode cX9_over 18 = .ok (.getfield 51, 3) := by decide +kernel
theorem dX9_over_21 : decode cX9_over 21 = .ok (.getfield 251, 3) := by decide +kernel
theorem dX9_over_24 : decode cX9_over 24 = .ok (.iload_n 1, 1) := by decide +kernel
theorem dX9_over_25 : decode cX9_over 25 = .ok (.iaload, 1) := by decide +kernel
theorem dX9_over_26 : decode cX9_over 26 = .ok (.ireturn, 1) := by decide +kernel
theorem dX9_orders_0 : decode cX9_orders 0 = .ok (.aload_n 0, 1) := by decide +kernel
theorem dX9_orders_1 : decode cX9_orders 1 = .ok (.getfield 16, 3) := by decide +kernel
theorem dX9_orders_4 : decode cX9_orders 4 = .ok (.iload_n 1, 1) := by decide +kernel
theorem dX9_orders_5 : decode cX9_orders 5 = .ok (.invokevirtual 94, 3) := by decide +kernel
theorem dX9_orders_8 : decode cX9_orders 8 = .ok (.ifCond .ne 7, 3) := by decide +kernel
theorem dX9_orders_11 : decode cX9_orders 11 = .ok (.ldc2_w 254, 3) := by decide +kernel
theorem dX9_orders_14 : decode cX9_orders 14 = .ok (.lreturn, 1) := by decide +kernel
theorem dX9_orders_15 : decode cX9_orders 15 = .ok (.aload_n 0, 1) := by decide +kernel
theorem dX9_orders_16 : decode cX9_orders 16 = .ok (.invokevirtual 201, 3) := by decide +kernel
theorem dX9_orders_19 : decode cX9_orders 19 = .ok (.aload_n 0, 1) := by decide +kernel
theorem dX9_orders_20 : decode cX9_orders 20 = .ok (.getfield 58, 3) := by decide +kernel
theorem dX9_orders_23 : decode cX9_orders 23 = .ok (.aload_n 0, 1) := by decide +kernel
theorem dX9_orders_24 : decode cX9_orders 24 = .ok (.getfield 16, 3) := by decide +kernel
theorem dX9_orders_27 : decode cX9_orders 27 = .ok (.aload_n 0, 1) := by decide +kernel
theorem dX9_orders_28 : decode cX9_orders 28 = .ok (.getfield 51, 3) := by decide +kernel
theorem dX9_orders_31 : decode cX9_orders 31 = .ok (.getfield 251, 3) := by decide +kernel
theorem dX9_orders_34 : decode cX9_orders 34 = .ok (.iload_n 1, 1) := by decide +kernel
theorem dX9_orders_35 : decode cX9_orders 35 = .ok (.iaload, 1) := by decide +kernel
theorem dX9_orders_36 : decode cX9_orders 36 = .ok (.invokevirtual 256, 3) := by decide +kernel
theorem dX9_orders_39 : decode cX9_orders 39 = .ok (.aload_n 0, 1) := by decide +kernel
theorem dX9_orders_40 : decode cX9_orders 40 = .ok (.getfield 58, 3) := by decide +kernel
theorem dX9_orders_43 : decode cX9_orders 43 = .ok (.invokevirtual 260, 3) := by decide +kernel
theorem dX9_orders_46 : decode cX9_orders 46 = .ok (.lreturn, 1) := by decide +kernel
theorem dX9_first_0 : decode cX9_first 0 = .ok (.aload_n 0, 1) := by decide +kernel
theorem dX9_first_1 : decode cX9_first 1 = .ok (.getfield 16, 3) := by decide +kernel
theorem dX9_first_4 : decode cX9_first 4 = .ok (.iload_n 1, 1) := by decide +kernel
theorem dX9_first_5 : decode cX9_first 5 = .ok (.invokevirtual 94, 3) := by decide +kernel
theorem dX9_first_8 : decode cX9_first 8 = .ok (.ifCond .ne 5, 3) := by decide +kernel
theorem dX9_first_11 : decode cX9_first 11 = .ok (.iconst (-1), 1) := by decide +kernel
theorem dX9_first_12 : decode cX9_first 12 = .ok (.ireturn, 1) := by decide +kernel
theorem dX9_first_13 : decode cX9_first 13 = .ok (.aload_n 0, 1) := by decide +kernel
theorem dX9_first_14 : decode cX9_first 14 = .ok (.invokevirtual 201, 3) := by decide +kernel
theorem dX9_first_17 : decode cX9_first 17 = .ok (.aload_n 0, 1) := by decide +kernel
theorem dX9_first_18 : decode cX9_first 18 = .ok (.getfield 58, 3) := by decide +kernel
theorem dX9_first_21 : decode cX9_first 21 = .ok (.aload_n 0, 1) := by decide +kernel
theorem dX9_first_22 : decode cX9_first 22 = .ok (.getfield 16, 3) := by decide +kernel
theorem dX9_first_25 : decode cX9_first 25 = .ok (.aload_n 0, 1) := by decide +kernel
theorem dX9_first_26 : decode cX9_first 26 = .ok (.getfield 51, 3) := by decide +kernel
theorem dX9_first_29 : decode cX9_first 29 = .ok (.getfield 251, 3) := by decide +kernel
theorem dX9_first_32 : decode cX9_first 32 = .ok (.iload_n 1, 1) := by decide +kernel
theorem dX9_first_33 : decode cX9_first 33 = .ok (.iaload, 1) := by decide +kernel
theorem dX9_first_34 : decode cX9_first 34 = .ok (.invokevirtual 256, 3) := by decide +kernel
theorem dX9_first_37 : decode cX9_first 37 = .ok (.aload_n 0, 1) := by decide +kernel
theorem dX9_first_38 : decode cX9_first 38 = .ok (.getfield 58, 3) := by decide +kernel
theorem dX9_first_41 : decode cX9_first 41 = .ok (.iload_n 2, 1) := by decide +kernel
theorem dX9_first_42 : decode cX9_first 42 = .ok (.invokevirtual 264, 3) := by decide +kernel
theorem dX9_first_45 : decode cX9_first 45 = .ok (.ireturn, 1) := by decide +kernel
theorem dX9_place_0 : decode cX9_place 0 = .ok (.aload_n 0, 1) := by decide +kernel
theorem dX9_place_1 : decode cX9_place 1 = .ok (.getfield 16, 3) := by decide +kernel
theorem dX9_place_4 : decode cX9_place 4 = .ok (.iload_n 1, 1) := by decide +kernel
theorem dX9_place_5 : decode cX9_place 5 = .ok (.invokevirtual 94, 3) := by decide +kernel
theorem dX9_place_8 : decode cX9_place 8 = .ok (.ifCond .eq 14, 3) := by decide +kernel
theorem dX9_place_11 : decode cX9_place 11 = .ok (.aload_n 0, 1) := by decide +kernel
theorem dX9_place_12 : decode cX9_place 12 = .ok (.getfield 16, 3) := by decide +kernel
theorem dX9_place_15 : decode cX9_place 15 = .ok (.iload_n 2, 1) := by decide +kernel
theorem dX9_place_16 : decode cX9_place 16 = .ok (.invokevirtual 94, 3) := by decide +kernel
theorem dX9_place_19 : decode cX9_place 19 = .ok (.ifCond .ne 5, 3) := by decide +kernel
theorem dX9_place_22 : decode cX9_place 22 = .ok (.iconst (-1), 1) := by decide +kernel
theorem dX9_place_23 : decode cX9_place 23 = .ok (.ireturn, 1) := by decide +kernel
theorem dX9_place_24 : decode cX9_place 24 = .ok (.aload_n 0, 1) := by decide +kernel
theorem dX9_place_25 : decode cX9_place 25 = .ok (.invokevirtual 201, 3) := by decide +kernel
theorem dX9_place_28 : decode cX9_place 28 = .ok (.aload_n 0, 1) := by decide +kernel
theorem dX9_place_29 : decode cX9_place 29 = .ok (.getfield 51, 3) := by decide +kernel
theorem dX9_place_32 : decode cX9_place 32 = .ok (.getfield 251, 3) := by decide +kernel
theorem dX9_place_35 : decode cX9_place 35 = .ok (.iload_n 1, 1) := by decide +kernel
theorem dX9_place_36 : decode cX9_place 36 = .ok (.iaload, 1) := by decide +kernel
theorem dX9_place_37 : decode cX9_place 37 = .ok (.iload_n 2, 1) := by decide +kernel
theorem dX9_place_38 : decode cX9_place 38 = .ok (.invokestatic 197, 3) := by decide +kernel
theorem dX9_place_41 : decode cX9_place 41 = .ok (.ifCond .ne 5, 3) := by decide +kernel
theorem dX9_place_44 : decode cX9_place 44 = .ok (.iconst (-1), 1) := by decide +kernel
theorem dX9_place_45 : decode cX9_place 45 = .ok (.ireturn, 1) := by decide +kernel
theorem dX9_place_46 : decode cX9_place 46 = .ok (.aload_n 0, 1) := by decide +kernel
theorem dX9_place_47 : decode cX9_place 47 = .ok (.getfield 58, 3) := by decide +kernel
theorem dX9_place_50 : decode cX9_place 50 = .ok (.aload_n 0, 1) := by decide +kernel
theorem dX9_place_51 : decode cX9_place 51 = .ok (.getfield 16, 3) := by decide +kernel
theorem dX9_place_54 : decode cX9_place 54 = .ok (.aload_n 0, 1) := by decide +kernel
theorem dX9_place_55 : decode cX9_place 55 = .ok (.getfield 51, 3) := by decide +kernel
theorem dX9_place_58 : decode cX9_place 58 = .ok (.getfield 251, 3) := by decide +kernel
theorem dX9_place_61 : decode cX9_place 61 = .ok (.iload_n 1, 1) := by decide +kernel
theorem dX9_place_62 : decode cX9_place 62 = .ok (.iaload, 1) := by decide +kernel
theorem dX9_place_63 : decode cX9_place 63 = .ok (.invokevirtual 256, 3) := by decide +kernel
theorem dX9_place_66 : decode cX9_place 66 = .ok (.aload_n 0, 1) := by decide +kernel
theorem dX9_place_67 : decode cX9_place 67 = .ok (.getfield 58, 3) := by decide +kernel
theorem dX9_place_70 : decode cX9_place 70 = .ok (.iload_n 2, 1) := by decide +kernel
theorem dX9_place_71 : decode cX9_place 71 = .ok (.invokevirtual 267, 3) := by decide +kernel
theorem dX9_place_74 : decode cX9_place 74 = .ok (.ireturn, 1) := by decide +kernel
theorem dX9_send_0 : decode cX9_send 0 = .ok (.aload_n 0, 1) := by decide +kernel
theorem dX9_send_1 : decode cX9_send 1 = .ok (.getfield 16, 3) := by decide +kernel
theorem dX9_send_4 : decode cX9_send 4 = .ok (.iload_n 1, 1) := by decide +kernel
theorem dX9_send_5 : decode cX9_send 5 = .ok (.invokevirtual 94, 3) := by decide +kernel
theorem dX9_send_8 : decode cX9_send 8 = .ok (.ifCond .eq 19, 3) := by decide +kernel
theorem dX9_send_11 : decode cX9_send 11 = .ok (.iload_n 2, 1) := by decide +kernel
theorem dX9_send_12 : decode cX9_send 12 = .ok (.invokestatic 130, 3) := by decide +kernel
theorem dX9_send_15 : decode cX9_send 15 = .ok (.ifCond .eq 12, 3) := by decide +kernel
theorem dX9_send_18 : decode cX9_send 18 = .ok (.iload_n 3, 1) := by decide +kernel
theorem dX9_send_19 : decode cX9_send 19 = .ok (.ifCond .lt 8, 3) := by decide +kernel
theorem dX9_send_22 : decode cX9_send 22 = .ok (.iload_n 3, 1) := by decide +kernel
theorem dX9_send_23 : decode cX9_send 23 = .ok (.iconst 5, 1) := by decide +kernel
theorem dX9_send_24 : decode cX9_send 24 = .ok (.if_icmp .le 7, 3) := by decide +kernel
theorem dX9_send_27 : decode cX9_send 27 = .ok (.ldc_w 270, 3) := by decide +kernel
theorem dX9_send_30 : decode cX9_send 30 = .ok (.ireturn, 1) := by decide +kernel
theorem dX9_send_31 : decode cX9_send 31 = .ok (.aload_n 0, 1) := by decide +kernel
theorem dX9_send_32 : decode cX9_send 32 = .ok (.invokevirtual 201, 3) := by decide +kernel
theorem dX9_send_35 : decode cX9_send 35 = .ok (.aload_n 0, 1) := by decide +kernel
theorem dX9_send_36 : decode cX9_send 36 = .ok (.iload_n 1, 1) := by decide +kernel
theorem dX9_send_37 : decode cX9_send 37 = .ok (.iload_n 2, 1) := by decide +kernel
theorem dX9_send_38 : decode cX9_send 38 = .ok (.invokevirtual 271, 3) := by decide +kernel
theorem dX9_send_41 : decode cX9_send 41 = .ok (.iload_n 3, 1) := by decide +kernel
theorem dX9_send_42 : decode cX9_send 42 = .ok (.tableswitch 74 0 4 #[34, 42, 50, 58, 66], 34) := by decide +kernel
theorem dX9_send_76 : decode cX9_send 76 = .ok (.aload_n 0, 1) := by decide +kernel
theorem dX9_send_77 : decode cX9_send 77 = .ok (.getfield 65, 3) := by decide +kernel
theorem dX9_send_80 : decode cX9_send 80 = .ok (.getfield 274, 3) := by decide +kernel
theorem dX9_send_83 : decode cX9_send 83 = .ok (.ireturn, 1) := by decide +kernel
theorem dX9_send_84 : decode cX9_send 84 = .ok (.aload_n 0, 1) := by decide +kernel
theorem dX9_send_85 : decode cX9_send 85 = .ok (.getfield 65, 3) := by decide +kernel
theorem dX9_send_88 : decode cX9_send 88 = .ok (.getfield 277, 3) := by decide +kernel
theorem dX9_send_91 : decode cX9_send 91 = .ok (.ireturn, 1) := by decide +kernel
theorem dX9_send_92 : decode cX9_send 92 = .ok (.aload_n 0, 1) := by decide +kernel
theorem dX9_send_93 : decode cX9_send 93 = .ok (.getfield 65, 3) := by decide +kernel
theorem dX9_send_96 : decode cX9_send 96 = .ok (.getfield 280, 3) := by decide +kernel
theorem dX9_send_99 : decode cX9_send 99 = .ok (.ireturn, 1) := by decide +kernel
theorem dX9_send_100 : decode cX9_send 100 = .ok (.aload_n 0, 1) := by decide +kernel
theorem dX9_send_101 : decode cX9_send 101 = .ok (.getfield 65, 3) := by decide +kernel
theorem dX9_send_104 : decode cX9_send 104 = .ok (.getfield 283, 3) := by decide +kernel
theorem dX9_send_107 : decode cX9_send 107 = .ok (.ireturn, 1) := by decide +kernel
theorem dX9_send_108 : decode cX9_send 108 = .ok (.aload_n 0, 1) := by decide +kernel
theorem dX9_send_109 : decode cX9_send 109 = .ok (.getfield 65, 3) := by decide +kernel
theorem dX9_send_112 : decode cX9_send 112 = .ok (.getfield 286, 3) := by decide +kernel
theorem dX9_send_115 : decode cX9_send 115 = .ok (.ireturn, 1) := by decide +kernel
theorem dX9_send_116 : decode cX9_send 116 = .ok (.aload_n 0, 1) := by decide +kernel
theorem dX9_send_117 : decode cX9_send 117 = .ok (.getfield 65, 3) := by decide +kernel
theorem dX9_send_120 : decode cX9_send 120 = .ok (.getfield 289, 3) := by decide +kernel
theorem dX9_send_123 : decode cX9_send 123 = .ok (.ireturn, 1) := by decide +kernel
theorem dX9_runSend_0 : decode cX9_runSend 0 = .ok (.aload_n 0, 1) := by decide +kernel
theorem dX9_runSend_1 : decode cX9_runSend 1 = .ok (.getfield 65, 3) := by decide +kernel
theorem dX9_runSend_4 : decode cX9_runSend 4 = .ok (.aload_n 0, 1) := by decide +kernel
theorem dX9_runSend_5 : decode cX9_runSend 5 = .ok (.getfield 16, 3) := by decide +kernel
theorem dX9_runSend_8 : decode cX9_runSend 8 = .ok (.aload_n 0, 1) := by decide +kernel
theorem dX9_runSend_9 : decode cX9_runSend 9 = .ok (.getfield 44, 3) := by decide +kernel
theorem dX9_runSend_12 : decode cX9_runSend 12 = .ok (.aload_n 0, 1) := by decide +kernel
theorem dX9_runSend_13 : decode cX9_runSend 13 = .ok (.getfield 51, 3) := by decide +kernel
theorem dX9_runSend_16 : decode cX9_runSend 16 = .ok (.iload_n 1, 1) := by decide +kernel
theorem dX9_runSend_17 : decode cX9_runSend 17 = .ok (.iload_n 2, 1) := by decide +kernel
theorem dX9_runSend_18 : decode cX9_runSend 18 = .ok (.invokevirtual 292, 3) := by decide +kernel
theorem dX9_runSend_21 : decode cX9_runSend 21 = .ok (.return_, 1) := by decide +kernel
theorem dX9_chain_0 : decode cX9_chain 0 = .ok (.aload_n 0, 1) := by decide +kernel
theorem dX9_chain_1 : decode cX9_chain 1 = .ok (.getfield 16, 3) := by decide +kernel
theorem dX9_chain_4 : decode cX9_chain 4 = .ok (.iload_n 1, 1) := by decide +kernel
theorem dX9_chain_5 : decode cX9_chain 5 = .ok (.invokevirtual 94, 3) := by decide +kernel
theorem dX9_chain_8 : decode cX9_chain 8 = .ok (.ifCond .eq 15, 3) := by decide +kernel
theorem dX9_chain_11 : decode cX9_chain 11 = .ok (.iload_n 2, 1) := by decide +kernel
theorem dX9_chain_12 : decode cX9_chain 12 = .ok (.invokestatic 130, 3) := by decide +kernel
theorem dX9_chain_15 : decode cX9_chain 15 = .ok (.ifCond .eq 8, 3) := by decide +kernel
theorem dX9_chain_18 : decode cX9_chain 18 = .ok (.iload_n 3, 1) := by decide +kernel
theorem dX9_chain_19 : decode cX9_chain 19 = .ok (.iconst (-1), 1) := by decide +kernel
theorem dX9_chain_20 : decode cX9_chain 20 = .ok (.if_icmp .ge 5, 3) := by decide +kernel
theorem dX9_chain_23 : decode cX9_chain 23 = .ok (.iconst (-1), 1) := by decide +kernel
theorem dX9_chain_24 : decode cX9_chain 24 = .ok (.ireturn, 1) := by decide +kernel
theorem dX9_chain_25 : decode cX9_chain 25 = .ok (.aload_n 0, 1) := by decide +kernel
theorem dX9_chain_26 : decode cX9_chain 26 = .ok (.invokevirtual 201, 3) := by decide +kernel
theorem dX9_chain_29 : decode cX9_chain 29 = .ok (.aload_n 0, 1) := by decide +kernel
theorem dX9_chain_30 : decode cX9_chain 30 = .ok (.getfield 51, 3) := by decide +kernel
theorem dX9_chain_33 : decode cX9_chain 33 = .ok (.getfield 238, 3) := by decide +kernel
theorem dX9_chain_36 : decode cX9_chain 36 = .ok (.iload_n 1, 1) := by decide +kernel
theorem dX9_chain_37 : decode cX9_chain 37 = .ok (.iaload, 1) := by decide +kernel
theorem dX9_chain_38 : decode cX9_chain 38 = .ok (.ifCond .ne 5, 3) := by decide +kernel
theorem dX9_chain_41 : decode cX9_chain 41 = .ok (.iconst (-1), 1) := by decide +kernel
theorem dX9_chain_42 : decode cX9_chain 42 = .ok (.ireturn, 1) := by decide +kernel
theorem dX9_chain_43 : decode cX9_chain 43 = .ok (.iconst 0, 1) := by decide +kernel
theorem dX9_chain_44 : decode cX9_chain 44 = .ok (.istore 4, 2) := by decide +kernel
theorem dX9_chain_46 : decode cX9_chain 46 = .ok (.iconst 0, 1) := by decide +kernel
theorem dX9_chain_47 : decode cX9_chain 47 = .ok (.istore 5, 2) := by decide +kernel
theorem dX9_chain_49 : decode cX9_chain 49 = .ok (.iload 5, 2) := by decide +kernel
theorem dX9_chain_51 : decode cX9_chain 51 = .ok (.aload_n 0, 1) := by decide +kernel
theorem dX9_chain_52 : decode cX9_chain 52 = .ok (.getfield 51, 3) := by decide +kernel
theorem dX9_chain_55 : decode cX9_chain 55 = .ok (.getfield 238, 3) := by decide +kernel
theorem dX9_chain_58 : decode cX9_chain 58 = .ok (.iload_n 1, 1) := by decide +kernel
theorem dX9_chain_59 : decode cX9_chain 59 = .ok (.iaload, 1) := by decide +kernel
theorem dX9_chain_60 : decode cX9_chain 60 = .ok (.if_icmp .ge 49, 3) := by decide +kernel
theorem dX9_chain_63 : decode cX9_chain 63 = .ok (.aload_n 0, 1) := by decide +kernel
theorem dX9_chain_64 : decode cX9_chain 64 = .ok (.getfield 51, 3) := by decide +kernel
theorem dX9_chain_67 : decode cX9_chain 67 = .ok (.getfield 235, 3) := by decide +kernel
theorem dX9_chain_70 : decode cX9_chain 70 = .ok (.iload_n 1, 1) := by decide +kernel
theorem dX9_chain_71 : decode cX9_chain 71 = .ok (.aaload, 1) := by decide +kernel
theorem dX9_chain_72 : decode cX9_chain 72 = .ok (.iload 5, 2) := by decide +kernel
theorem dX9_chain_74 : decode cX9_chain 74 = .ok (.iaload, 1) := by decide +kernel
theorem dX9_chain_75 : decode cX9_chain 75 = .ok (.istore 6, 2) := by decide +kernel
theorem dX9_chain_77 : decode cX9_chain 77 = .ok (.aload_n 0, 1) := by decide +kernel
theorem dX9_chain_78 : decode cX9_chain 78 = .ok (.getfield 44, 3) := by decide +kernel
theorem dX9_chain_81 : decode cX9_chain 81 = .ok (.iload 6, 2) := by decide +kernel
theorem dX9_chain_83 : decode cX9_chain 83 = .ok (.iload_n 2, 1) := by decide +kernel
theorem dX9_chain_84 : decode cX9_chain 84 = .ok (.invokevirtual 226, 3) := by decide +kernel
theorem dX9_chain_87 : decode cX9_chain 87 = .ok (.iconst 1, 1) := by decide +kernel
theorem dX9_chain_88 : decode cX9_chain 88 = .ok (.if_icmp .ne 15, 3) := by decide +kernel
theorem dX9_chain_91 : decode cX9_chain 91 = .ok (.iload 4, 2) := by decide +kernel
theorem dX9_chain_93 : decode cX9_chain 93 = .ok (.iload_n 3, 1) := by decide +kernel
theorem dX9_chain_94 : decode cX9_chain 94 = .ok (.if_icmp .ne 6, 3) := by decide +kernel
theorem dX9_chain_97 : decode cX9_chain 97 = .ok (.iload 6, 2) := by decide +kernel
theorem dX9_chain_99 : decode cX9_chain 99 = .ok (.ireturn, 1) := by decide +kernel
theorem dX9_chain_100 : decode cX9_chain 100 = .ok (.iinc 4 1, 3) := by decide +kernel
theorem dX9_chain_103 : decode cX9_chain 103 = .ok (.iinc 5 1, 3) := by decide +kernel
theorem dX9_chain_106 : decode cX9_chain 106 = .ok (.goto (-57), 3) := by decide +kernel
theorem dX9_chain_109 : decode cX9_chain 109 = .ok (.iload_n 3, 1) := by decide +kernel
theorem dX9_chain_110 : decode cX9_chain 110 = .ok (.iconst (-1), 1) := by decide +kernel
theorem dX9_chain_111 : decode cX9_chain 111 = .ok (.if_icmp .ne 8, 3) := by decide +kernel
theorem dX9_chain_114 : decode cX9_chain 114 = .ok (.iload 4, 2) := by decide +kernel
theorem dX9_chain_116 : decode cX9_chain 116 = .ok (.goto 5, 3) := by decide +kernel
theorem dX9_chain_119 : decode cX9_chain 119 = .ok (.bipush (-2), 2) := by decide +kernel
theorem dX9_chain_121 : decode cX9_chain 121 = .ok (.ireturn, 1) := by decide +kernel
theorem dX9_lacks_0 : decode cX9_lacks 0 = .ok (.aload_n 0, 1) := by decide +kernel
theorem dX9_lacks_1 : decode cX9_lacks 1 = .ok (.getfield 16, 3) := by decide +kernel
theorem dX9_lacks_4 : decode cX9_lacks 4 = .ok (.iload_n 1, 1) := by decide +kernel
theorem dX9_lacks_5 : decode cX9_lacks 5 = .ok (.invokevirtual 94, 3) := by decide +kernel
theorem dX9_lacks_8 : decode cX9_lacks 8 = .ok (.ifCond .ne 5, 3) := by decide +kernel
theorem dX9_lacks_11 : decode cX9_lacks 11 = .ok (.iconst (-1), 1) := by decide +kernel
theorem dX9_lacks_12 : decode cX9_lacks 12 = .ok (.ireturn, 1) := by decide +kernel
theorem dX9_lacks_13 : decode cX9_lacks 13 = .ok (.aload_n 0, 1) := by decide +kernel
theorem dX9_lacks_14 : decode cX9_lacks 14 = .ok (.invokevirtual 201, 3) := by decide +kernel
theorem dX9_lacks_17 : decode cX9_lacks 17 = .ok (.aload_n 0, 1) := by decide +kernel
theorem dX9_lacks_18 : decode cX9_lacks 18 = .ok (.getfield 51, 3) := by decide +kernel
theorem dX9_lacks_21 : decode cX9_lacks 21 = .ok (.getfield 238, 3) := by decide +kernel
theorem dX9_lacks_24 : decode cX9_lacks 24 = .ok (.iload_n 1, 1) := by decide +kernel
theorem dX9_lacks_25 : decode cX9_lacks 25 = .ok (.iaload, 1) := by decide +kernel
theorem dX9_lacks_26 : decode cX9_lacks 26 = .ok (.ifCond .ne 7, 3) := by decide +kernel
theorem dX9_lacks_29 : decode cX9_lacks 29 = .ok (.iconst (-1), 1) := by decide +kernel
theorem dX9_lacks_30 : decode cX9_lacks 30 = .ok (.goto 8, 3) := by decide +kernel
theorem dX9_lacks_33 : decode cX9_lacks 33 = .ok (.aload_n 0, 1) := by decide +kernel
theorem dX9_lacks_34 : decode cX9_lacks 34 = .ok (.iload_n 1, 1) := by decide +kernel
theorem dX9_lacks_35 : decode cX9_lacks 35 = .ok (.invokevirtual 296, 3) := by decide +kernel
theorem dX9_lacks_38 : decode cX9_lacks 38 = .ok (.ireturn, 1) := by decide +kernel
theorem dX9_lackedBits_0 : decode cX9_lackedBits 0 = .ok (.aload_n 0, 1) := by decide +kernel
theorem dX9_lackedBits_1 : decode cX9_lackedBits 1 = .ok (.iload_n 1, 1) := by decide +kernel
theorem dX9_lackedBits_2 : decode cX9_lackedBits 2 = .ok (.iconst 2, 1) := by decide +kernel
theorem dX9_lackedBits_3 : decode cX9_lackedBits 3 = .ok (.invokevirtual 299, 3) := by decide +kernel
theorem dX9_lackedBits_6 : decode cX9_lackedBits 6 = .ok (.istore_n 2, 1) := by decide +kernel
theorem dX9_lackedBits_7 : decode cX9_lackedBits 7 = .ok (.iload_n 2, 1) := by decide +kernel
theorem dX9_lackedBits_8 : decode cX9_lackedBits 8 = .ok (.aload_n 0, 1) := by decide +kernel
theorem dX9_lackedBits_9 : decode cX9_lackedBits 9 = .ok (.iload_n 1, 1) := by decide +kernel
theorem dX9_lackedBits_10 : decode cX9_lackedBits 10 = .ok (.iconst 1, 1) := by decide +kernel
theorem dX9_lackedBits_11 : decode cX9_lackedBits 11 = .ok (.invokevirtual 299, 3) := by decide +kernel
theorem dX9_lackedBits_14 : decode cX9_lackedBits 14 = .ok (.iconst (-1), 1) := by decide +kernel
theorem dX9_lackedBits_15 : decode cX9_lackedBits 15 = .ok (.ixor, 1) := by decide +kernel
theorem dX9_lackedBits_16 : decode cX9_lackedBits 16 = .ok (.iand, 1) := by decide +kernel
theorem dX9_lackedBits_17 : decode cX9_lackedBits 17 = .ok (.aload_n 0, 1) := by decide +kernel
theorem dX9_lackedBits_18 : decode cX9_lackedBits 18 = .ok (.iload_n 1, 1) := by decide +kernel
theorem dX9_lackedBits_19 : decode cX9_lackedBits 19 = .ok (.iconst 3, 1) := by decide +kernel
theorem dX9_lackedBits_20 : decode cX9_lackedBits 20 = .ok (.invokevirtual 299, 3) := by decide +kernel
theorem dX9_lackedBits_23 : decode cX9_lackedBits 23 = .ok (.iconst (-1), 1) := by decide +kernel
theorem dX9_lackedBits_24 : decode cX9_lackedBits 24 = .ok (.ixor, 1) := by decide +kernel
theorem dX9_lackedBits_25 : decode cX9_lackedBits 25 = .ok (.iand, 1) := by decide +kernel
theorem dX9_lackedBits_26 : decode cX9_lackedBits 26 = .ok (.ireturn, 1) := by decide +kernel
theorem dX9_bitsAlongLine_0 : decode cX9_bitsAlongLine 0 = .ok (.iconst 0, 1) := by decide +kernel
theorem dX9_bitsAlongLine_1 : decode cX9_bitsAlongLine 1 = .ok (.istore_n 3, 1) := by decide +kernel
theorem dX9_bitsAlongLine_2 : decode cX9_bitsAlongLine 2 = .ok (.iconst 0, 1) := by decide +kernel
theorem dX9_bitsAlongLine_3 : decode cX9_bitsAlongLine 3 = .ok (.istore 4, 2) := by decide +kernel
theorem dX9_bitsAlongLine_5 : decode cX9_bitsAlongLine 5 = .ok (.iload 4, 2) := by decide +kernel
theorem dX9_bitsAlongLine_7 : decode cX9_bitsAlongLine 7 = .ok (.aload_n 0, 1) := by decide +kernel
theorem dX9_bitsAlongLine_8 : decode cX9_bitsAlongLine 8 = .ok (.getfield 51, 3) := by decide +kernel
theorem dX9_bitsAlongLine_11 : decode cX9_bitsAlongLine 11 = .ok (.getfield 238, 3) := by decide +kernel
theorem dX9_bitsAlongLine_14 : decode cX9_bitsAlongLine 14 = .ok (.iload_n 1, 1) := by decide +kernel
theorem dX9_bitsAlongLine_15 : decode cX9_bitsAlongLine 15 = .ok (.iaload, 1) := by decide +kernel
theorem dX9_bitsAlongLine_16 : decode cX9_bitsAlongLine 16 = .ok (.if_icmp .ge 32, 3) := by decide +kernel
theorem dX9_bitsAlongLine_19 : decode cX9_bitsAlongLine 19 = .ok (.iload_n 3, 1) := by decide +kernel
theorem dX9_bitsAlongLine_20 : decode cX9_bitsAlongLine 20 = .ok (.aload_n 0, 1) := by decide +kernel
theorem dX9_bitsAlongLine_21 : decode cX9_bitsAlongLine 21 = .ok (.getfield 44, 3) := by decide +kernel
theorem dX9_bitsAlongLine_24 : decode cX9_bitsAlongLine 24 = .ok (.aload_n 0, 1) := by decide +kernel
theorem dX9_bitsAlongLine_25 : decode cX9_bitsAlongLine 25 = .ok (.getfield 51, 3) := by decide +kernel
theorem dX9_bitsAlongLine_28 : decode cX9_bitsAlongLine 28 = .ok (.getfield 235, 3) := by decide +kernel
theorem dX9_bitsAlongLine_31 : decode cX9_bitsAlongLine 31 = .ok (.iload_n 1, 1) := by decide +kernel
theorem dX9_bitsAlongLine_32 : decode cX9_bitsAlongLine 32 = .ok (.aaload, 1) := by decide +kernel
theorem dX9_bitsAlongLine_33 : decode cX9_bitsAlongLine 33 = .ok (.iload 4, 2) := by decide +kernel
theorem dX9_bitsAlongLine_35 : decode cX9_bitsAlongLine 35 = .ok (.iaload, 1) := by decide +kernel
theorem dX9_bitsAlongLine_36 : decode cX9_bitsAlongLine 36 = .ok (.iload_n 2, 1) := by decide +kernel
theorem dX9_bitsAlongLine_37 : decode cX9_bitsAlongLine 37 = .ok (.invokevirtual 220, 3) := by decide +kernel
theorem dX9_bitsAlongLine_40 : decode cX9_bitsAlongLine 40 = .ok (.ior, 1) := by decide +kernel
theorem dX9_bitsAlongLine_41 : decode cX9_bitsAlongLine 41 = .ok (.istore_n 3, 1) := by decide +kernel
theorem dX9_bitsAlongLine_42 : decode cX9_bitsAlongLine 42 = .ok (.iinc 4 1, 3) := by decide +kernel
theorem dX9_bitsAlongLine_45 : decode cX9_bitsAlongLine 45 = .ok (.goto (-40), 3) := by decide +kernel
theorem dX9_bitsAlongLine_48 : decode cX9_bitsAlongLine 48 = .ok (.iload_n 3, 1) := by decide +kernel
theorem dX9_bitsAlongLine_49 : decode cX9_bitsAlongLine 49 = .ok (.ireturn, 1) := by decide +kernel
theorem dX9_answers_0 : decode cX9_answers 0 = .ok (.aload_n 0, 1) := by decide +kernel
theorem dX9_answers_1 : decode cX9_answers 1 = .ok (.getfield 16, 3) := by decide +kernel
theorem dX9_answers_4 : decode cX9_answers 4 = .ok (.iload_n 1, 1) := by decide +kernel
theorem dX9_answers_5 : decode cX9_answers 5 = .ok (.invokevirtual 94, 3) := by decide +kernel
theorem dX9_answers_8 : decode cX9_answers 8 = .ok (.ifCond .ne 5, 3) := by decide +kernel
theorem dX9_answers_11 : decode cX9_answers 11 = .ok (.iconst (-1), 1) := by decide +kernel
theorem dX9_answers_12 : decode cX9_answers 12 = .ok (.ireturn, 1) := by decide +kernel
theorem dX9_answers_13 : decode cX9_answers 13 = .ok (.aload_n 0, 1) := by decide +kernel
theorem dX9_answers_14 : decode cX9_answers 14 = .ok (.invokevirtual 201, 3) := by decide +kernel
theorem dX9_answers_17 : decode cX9_answers 17 = .ok (.iconst 0, 1) := by decide +kernel
theorem dX9_answers_18 : decode cX9_answers 18 = .ok (.istore_n 2, 1) := by decide +kernel
theorem dX9_answers_19 : decode cX9_answers 19 = .ok (.iconst 0, 1) := by decide +kernel
theorem dX9_answers_20 : decode cX9_answers 20 = .ok (.istore_n 3, 1) := by decide +kernel
theorem dX9_answers_21 : decode cX9_answers 21 = .ok (.iload_n 3, 1) := by decide +kernel
theorem dX9_answers_22 : decode cX9_answers 22 = .ok (.bipush 26, 2) := by decide +kernel
theorem dX9_answers_24 : decode cX9_answers 24 = .ok (.if_icmp .ge 31, 3) := by decide +kernel
theorem dX9_answers_27 : decode cX9_answers 27 = .ok (.aload_n 0, 1) := by decide +kernel
theorem dX9_answers_28 : decode cX9_answers 28 = .ok (.iload_n 1, 1) := by decide +kernel
theorem dX9_answers_29 : decode cX9_answers 29 = .ok (.iload_n 3, 1) := by decide +kernel
theorem dX9_answers_30 : decode cX9_answers 30 = .ok (.invokevirtual 271, 3) := by decide +kernel
theorem dX9_answers_33 : decode cX9_answers 33 = .ok (.aload_n 0, 1) := by decide +kernel
theorem dX9_answers_34 : decode cX9_answers 34 = .ok (.getfield 65, 3) := by decide +kernel
theorem dX9_answers_37 : decode cX9_answers 37 = .ok (.getfield 274, 3) := by decide +kernel
theorem dX9_answers_40 : decode cX9_answers 40 = .ok (.ifCond .ne 9, 3) := by decide +kernel
theorem dX9_answers_43 : decode cX9_answers 43 = .ok (.iload_n 2, 1) := by decide +kernel
theorem dX9_answers_44 : decode cX9_answers 44 = .ok (.iconst 1, 1) := by decide +kernel
theorem dX9_answers_45 : decode cX9_answers 45 = .ok (.iload_n 3, 1) := by decide +kernel
theorem dX9_answers_46 : decode cX9_answers 46 = .ok (.ishl, 1) := by decide +kernel
theorem dX9_answers_47 : decode cX9_answers 47 = .ok (.ior, 1) := by decide +kernel
theorem dX9_answers_48 : decode cX9_answers 48 = .ok (.istore_n 2, 1) := by decide +kernel
theorem dX9_answers_49 : decode cX9_answers 49 = .ok (.iinc 3 1, 3) := by decide +kernel
theorem dX9_answers_52 : decode cX9_answers 52 = .ok (.goto (-31), 3) := by decide +kernel
theorem dX9_answers_55 : decode cX9_answers 55 = .ok (.iload_n 2, 1) := by decide +kernel
theorem dX9_answers_56 : decode cX9_answers 56 = .ok (.ireturn, 1) := by decide +kernel
theorem dX9_alike_0 : decode cX9_alike 0 = .ok (.aload_n 0, 1) := by decide +kernel
theorem dX9_alike_1 : decode cX9_alike 1 = .ok (.getfield 16, 3) := by decide +kernel
theorem dX9_alike_4 : decode cX9_alike 4 = .ok (.iload_n 1, 1) := by decide +kernel
theorem dX9_alike_5 : decode cX9_alike 5 = .ok (.invokevirtual 94, 3) := by decide +kernel
theorem dX9_alike_8 : decode cX9_alike 8 = .ok (.ifCond .eq 14, 3) := by decide +kernel
theorem dX9_alike_11 : decode cX9_alike 11 = .ok (.aload_n 0, 1) := by decide +kernel
theorem dX9_alike_12 : decode cX9_alike 12 = .ok (.getfield 16, 3) := by decide +kernel
theorem dX9_alike_15 : decode cX9_alike 15 = .ok (.iload_n 2, 1) := by decide +kernel
theorem dX9_alike_16 : decode cX9_alike 16 = .ok (.invokevirtual 94, 3) := by decide +kernel
theorem dX9_alike_19 : decode cX9_alike 19 = .ok (.ifCond .ne 5, 3) := by decide +kernel
theorem dX9_alike_22 : decode cX9_alike 22 = .ok (.iconst (-1), 1) := by decide +kernel
theorem dX9_alike_23 : decode cX9_alike 23 = .ok (.ireturn, 1) := by decide +kernel
theorem dX9_alike_24 : decode cX9_alike 24 = .ok (.aload_n 0, 1) := by decide +kernel
theorem dX9_alike_25 : decode cX9_alike 25 = .ok (.invokevirtual 201, 3) := by decide +kernel
theorem dX9_alike_28 : decode cX9_alike 28 = .ok (.iconst 0, 1) := by decide +kernel
theorem dX9_alike_29 : decode cX9_alike 29 = .ok (.istore_n 3, 1) := by decide +kernel
theorem dX9_alike_30 : decode cX9_alike 30 = .ok (.iload_n 3, 1) := by decide +kernel
theorem dX9_alike_31 : decode cX9_alike 31 = .ok (.bipush 26, 2) := by decide +kernel
theorem dX9_alike_33 : decode cX9_alike 33 = .ok (.if_icmp .ge 65, 3) := by decide +kernel
theorem dX9_alike_36 : decode cX9_alike 36 = .ok (.aload_n 0, 1) := by decide +kernel
theorem dX9_alike_37 : decode cX9_alike 37 = .ok (.iload_n 1, 1) := by decide +kernel
theorem dX9_alike_38 : decode cX9_alike 38 = .ok (.iload_n 3, 1) := by decide +kernel
theorem dX9_alike_39 : decode cX9_alike 39 = .ok (.invokevirtual 271, 3) := by decide +kernel
theorem dX9_alike_42 : decode cX9_alike 42 = .ok (.aload_n 0, 1) := by decide +kernel
theorem dX9_alike_43 : decode cX9_alike 43 = .ok (.getfield 65, 3) := by decide +kernel
theorem dX9_alike_46 : decode cX9_alike 46 = .ok (.getfield 274, 3) := by decide +kernel
theorem dX9_alike_49 : decode cX9_alike 49 = .ok (.istore 4, 2) := by decide +kernel
theorem dX9_alike_51 : decode cX9_alike 51 = .ok (.aload_n 0, 1) := by decide +kernel
theorem dX9_alike_52 : decode cX9_alike 52 = .ok (.getfield 65, 3) := by decide +kernel
theorem dX9_alike_55 : decode cX9_alike 55 = .ok (.getfield 277, 3) := by decide +kernel
theorem dX9_alike_58 : decode cX9_alike 58 = .ok (.istore 5, 2) := by decide +kernel
theorem dX9_alike_60 : decode cX9_alike 60 = .ok (.aload_n 0, 1) := by decide +kernel
theorem dX9_alike_61 : decode cX9_alike 61 = .ok (.iload_n 2, 1) := by decide +kernel
theorem dX9_alike_62 : decode cX9_alike 62 = .ok (.iload_n 3, 1) := by decide +kernel
theorem dX9_alike_63 : decode cX9_alike 63 = .ok (.invokevirtual 271, 3) := by decide +kernel
theorem dX9_alike_66 : decode cX9_alike 66 = .ok (.aload_n 0, 1) := by decide +kernel
theorem dX9_alike_67 : decode cX9_alike 67 = .ok (.getfield 65, 3) := by decide +kernel
theorem dX9_alike_70 : decode cX9_alike 70 = .ok (.getfield 274, 3) := by decide +kernel
theorem dX9_alike_73 : decode cX9_alike 73 = .ok (.iload 4, 2) := by decide +kernel
theorem dX9_alike_75 : decode cX9_alike 75 = .ok (.if_icmp .ne 15, 3) := by decide +kernel
theorem dX9_alike_78 : decode cX9_alike 78 = .ok (.aload_n 0, 1) := by decide +kernel
theorem dX9_alike_79 : decode cX9_alike 79 = .ok (.getfield 65, 3) := by decide +kernel
theorem dX9_alike_82 : decode cX9_alike 82 = .ok (.getfield 277, 3) := by decide +kernel
theorem dX9_alike_85 : decode cX9_alike 85 = .ok (.iload 5, 2) := by decide +kernel
theorem dX9_alike_87 : decode cX9_alike 87 = .ok (.if_icmp .eq 5, 3) := by decide +kernel
theorem dX9_alike_90 : decode cX9_alike 90 = .ok (.iconst 0, 1) := by decide +kernel
theorem dX9_alike_91 : decode cX9_alike 91 = .ok (.ireturn, 1) := by decide +kernel
theorem dX9_alike_92 : decode cX9_alike 92 = .ok (.iinc 3 1, 3) := by decide +kernel
theorem dX9_alike_95 : decode cX9_alike 95 = .ok (.goto (-65), 3) := by decide +kernel
theorem dX9_alike_98 : decode cX9_alike 98 = .ok (.iconst 1, 1) := by decide +kernel
theorem dX9_alike_99 : decode cX9_alike 99 = .ok (.ireturn, 1) := by decide +kernel
theorem dX9_origins_0 : decode cX9_origins 0 = .ok (.aload_n 0, 1) := by decide +kernel
theorem dX9_origins_1 : decode cX9_origins 1 = .ok (.getfield 16, 3) := by decide +kernel
theorem dX9_origins_4 : decode cX9_origins 4 = .ok (.iload_n 1, 1) := by decide +kernel
theorem dX9_origins_5 : decode cX9_origins 5 = .ok (.invokevirtual 94, 3) := by decide +kernel
theorem dX9_origins_8 : decode cX9_origins 8 = .ok (.ifCond .eq 10, 3) := by decide +kernel
theorem dX9_origins_11 : decode cX9_origins 11 = .ok (.iload_n 2, 1) := by decide +kernel
theorem dX9_origins_12 : decode cX9_origins 12 = .ok (.invokestatic 130, 3) := by decide +kernel
theorem dX9_origins_15 : decode cX9_origins 15 = .ok (.ifCond .ne 5, 3) := by decide +kernel
theorem dX9_origins_18 : decode cX9_origins 18 = .ok (.iconst (-1), 1) := by decide +kernel
theorem dX9_origins_19 : decode cX9_origins 19 = .ok (.ireturn, 1) := by decide +kernel
theorem dX9_origins_20 : decode cX9_origins 20 = .ok (.aload_n 0, 1) := by decide +kernel
theorem dX9_origins_21 : decode cX9_origins 21 = .ok (.invokevirtual 201, 3) := by decide +kernel
theorem dX9_origins_24 : decode cX9_origins 24 = .ok (.aload_n 0, 1) := by decide +kernel
theorem dX9_origins_25 : decode cX9_origins 25 = .ok (.iload_n 1, 1) := by decide +kernel
theorem dX9_origins_26 : decode cX9_origins 26 = .ok (.iload_n 2, 1) := by decide +kernel
theorem dX9_origins_27 : decode cX9_origins 27 = .ok (.invokevirtual 271, 3) := by decide +kernel
theorem dX9_origins_30 : decode cX9_origins 30 = .ok (.aload_n 0, 1) := by decide +kernel
theorem dX9_origins_31 : decode cX9_origins 31 = .ok (.getfield 65, 3) := by decide +kernel
theorem dX9_origins_34 : decode cX9_origins 34 = .ok (.getfield 302, 3) := by decide +kernel
theorem dX9_origins_37 : decode cX9_origins 37 = .ok (.ireturn, 1) := by decide +kernel
theorem dX9_mean_0 : decode cX9_mean 0 = .ok (.aload_n 0, 1) := by decide +kernel
theorem dX9_mean_1 : decode cX9_mean 1 = .ok (.getfield 16, 3) := by decide +kernel
theorem dX9_mean_4 : decode cX9_mean 4 = .ok (.iload_n 1, 1) := by decide +kernel
theorem dX9_mean_5 : decode cX9_mean 5 = .ok (.invokevirtual 94, 3) := by decide +kernel
theorem dX9_mean_8 : decode cX9_mean 8 = .ok (.ifCond .ne 7, 3) := by decide +kernel
theorem dX9_mean_11 : decode cX9_mean 11 = .ok (.ldc2_w 305, 3) := by decide +kernel
theorem dX9_mean_14 : decode cX9_mean 14 = .ok (.lreturn, 1) := by decide +kernel
theorem dX9_mean_15 : decode cX9_mean 15 = .ok (.aload_n 0, 1) := by decide +kernel
theorem dX9_mean_16 : decode cX9_mean 16 = .ok (.invokevirtual 201, 3) := by decide +kernel
theorem dX9_mean_19 : decode cX9_mean 19 = .ok (.iconst 0, 1) := by decide +kernel
theorem dX9_mean_20 : decode cX9_mean 20 = .ok (.istore_n 2, 1) := by decide +kernel
theorem dX9_mean_21 : decode cX9_mean 21 = .ok (.iconst 0, 1) := by decide +kernel
theorem dX9_mean_22 : decode cX9_mean 22 = .ok (.istore_n 3, 1) := by decide +kernel
theorem dX9_mean_23 : decode cX9_mean 23 = .ok (.iconst 0, 1) := by decide +kernel
theorem dX9_mean_24 : decode cX9_mean 24 = .ok (.istore 4, 2) := by decide +kernel
theorem dX9_mean_26 : decode cX9_mean 26 = .ok (.iload 4, 2) := by decide +kernel
theorem dX9_mean_28 : decode cX9_mean 28 = .ok (.bipush 26, 2) := by decide +kernel
theorem dX9_mean_30 : decode cX9_mean 30 = .ok (.if_icmp .ge 39, 3) := by decide +kernel
theorem dX9_mean_33 : decode cX9_mean 33 = .ok (.aload_n 0, 1) := by decide +kernel
theorem dX9_mean_34 : decode cX9_mean 34 = .ok (.iload_n 1, 1) := by decide +kernel
theorem dX9_mean_35 : decode cX9_mean 35 = .ok (.iload 4, 2) := by decide +kernel
theorem dX9_mean_37 : decode cX9_mean 37 = .ok (.invokevirtual 271, 3) := by decide +kernel
theorem dX9_mean_40 : decode cX9_mean 40 = .ok (.aload_n 0, 1) := by decide +kernel
theorem dX9_mean_41 : decode cX9_mean 41 = .ok (.getfield 65, 3) := by decide +kernel
theorem dX9_mean_44 : decode cX9_mean 44 = .ok (.getfield 274, 3) := by decide +kernel
theorem dX9_mean_47 : decode cX9_mean 47 = .ok (.ifCond .ne 16, 3) := by decide +kernel
theorem dX9_mean_50 : decode cX9_mean 50 = .ok (.iload_n 2, 1) := by decide +kernel
theorem dX9_mean_51 : decode cX9_mean 51 = .ok (.aload_n 0, 1) := by decide +kernel
theorem dX9_mean_52 : decode cX9_mean 52 = .ok (.getfield 65, 3) := by decide +kernel
theorem dX9_mean_55 : decode cX9_mean 55 = .ok (.getfield 280, 3) := by decide +kernel
theorem dX9_mean_58 : decode cX9_mean 58 = .ok (.iadd, 1) := by decide +kernel
theorem dX9_mean_59 : decode cX9_mean 59 = .ok (.istore_n 2, 1) := by decide +kernel
theorem dX9_mean_60 : decode cX9_mean 60 = .ok (.iinc 3 1, 3) := by decide +kernel
theorem dX9_mean_63 : decode cX9_mean 63 = .ok (.iinc 4 1, 3) := by decide +kernel
theorem dX9_mean_66 : decode cX9_mean 66 = .ok (.goto (-40), 3) := by decide +kernel
theorem dX9_mean_69 : decode cX9_mean 69 = .ok (.iload_n 2, 1) := by decide +kernel
theorem dX9_mean_70 : decode cX9_mean 70 = .ok (.iload_n 3, 1) := by decide +kernel
theorem dX9_mean_71 : decode cX9_mean 71 = .ok (.invokestatic 307, 3) := by decide +kernel
theorem dX9_mean_74 : decode cX9_mean 74 = .ok (.lreturn, 1) := by decide +kernel
theorem dX9_quotientBits_0 : decode cX9_quotientBits 0 = .ok (.iload_n 1, 1) := by decide +kernel
theorem dX9_quotientBits_1 : decode cX9_quotientBits 1 = .ok (.ifCond .le 8, 3) := by decide +kernel
theorem dX9_quotientBits_4 : decode cX9_quotientBits 4 = .ok (.iload_n 0, 1) := by decide +kernel
theorem dX9_quotientBits_5 : decode cX9_quotientBits 5 = .ok (.iload_n 1, 1) := by decide +kernel
theorem dX9_quotientBits_6 : decode cX9_quotientBits 6 = .ok (.if_icmp .ge 7, 3) := by decide +kernel
theorem dX9_quotientBits_9 : decode cX9_quotientBits 9 = .ok (.ldc2_w 305, 3) := by decide +kernel
theorem dX9_quotientBits_12 : decode cX9_quotientBits 12 = .ok (.lreturn, 1) := by decide +kernel
theorem dX9_quotientBits_13 : decode cX9_quotientBits 13 = .ok (.iload_n 1, 1) := by decide +kernel
theorem dX9_quotientBits_14 : decode cX9_quotientBits 14 = .ok (.i2l, 1) := by decide +kernel
theorem dX9_quotientBits_15 : decode cX9_quotientBits 15 = .ok (.lstore_n 2, 1) := by decide +kernel
theorem dX9_quotientBits_16 : decode cX9_quotientBits 16 = .ok (.iconst 0, 1) := by decide +kernel
theorem dX9_quotientBits_17 : decode cX9_quotientBits 17 = .ok (.istore 4, 2) := by decide +kernel
theorem dX9_quotientBits_19 : decode cX9_quotientBits 19 = .ok (.iload 4, 2) := by decide +kernel
theorem dX9_quotientBits_21 : decode cX9_quotientBits 21 = .ok (.bipush 31, 2) := by decide +kernel
theorem dX9_quotientBits_23 : decode cX9_quotientBits 23 = .ok (.if_icmp .ge 26, 3) := by decide +kernel
theorem dX9_quotientBits_26 : decode cX9_quotientBits 26 = .ok (.lload_n 2, 1) := by decide +kernel
theorem dX9_quotientBits_27 : decode cX9_quotientBits 27 = .ok (.ldc2_w 311, 3) := by decide +kernel
theorem dX9_quotientBits_30 : decode cX9_quotientBits 30 = .ok (.lmul, 1) := by decide +kernel
theorem dX9_quotientBits_31 : decode cX9_quotientBits 31 = .ok (.iload_n 0, 1) := by decide +kernel
theorem dX9_quotientBits_32 : decode cX9_quotientBits 32 = .ok (.i2l, 1) := by decide +kernel
theorem dX9_quotientBits_33 : decode cX9_quotientBits 33 = .ok (.lcmp, 1) := by decide +kernel
theorem dX9_quotientBits_34 : decode cX9_quotientBits 34 = .ok (.ifCond .gt 15, 3) := by decide +kernel
theorem dX9_quotientBits_37 : decode cX9_quotientBits 37 = .ok (.lload_n 2, 1) := by decide +kernel
theorem dX9_quotientBits_38 : decode cX9_quotientBits 38 = .ok (.ldc2_w 311, 3) := by decide +kernel
theorem dX9_quotientBits_41 : decode cX9_quotientBits 41 = .ok (.lmul, 1) := by decide +kernel
theorem dX9_quotientBits_42 : decode cX9_quotientBits 42 = .ok (.lstore_n 2, 1) := by decide +kernel
theorem dX9_quotientBits_43 : decode cX9_quotientBits 43 = .ok (.iinc 4 1, 3) := by decide +kernel
theorem dX9_quotientBits_46 : decode cX9_quotientBits 46 = .ok (.goto (-27), 3) := by decide +kernel
theorem dX9_quotientBits_49 : decode cX9_quotientBits 49 = .ok (.iload_n 0, 1) := by decide +kernel
theorem dX9_quotientBits_50 : decode cX9_quotientBits 50 = .ok (.i2l, 1) := by decide +kernel
theorem dX9_quotientBits_51 : decode cX9_quotientBits 51 = .ok (.lload_n 2, 1) := by decide +kernel
theorem dX9_quotientBits_52 : decode cX9_quotientBits 52 = .ok (.lsub, 1) := by decide +kernel
theorem dX9_quotientBits_53 : decode cX9_quotientBits 53 = .ok (.lstore 5, 2) := by decide +kernel
theorem dX9_quotientBits_55 : decode cX9_quotientBits 55 = .ok (.lconst 0, 1) := by decide +kernel
theorem dX9_quotientBits_56 : decode cX9_quotientBits 56 = .ok (.lstore 7, 2) := by decide +kernel
theorem dX9_quotientBits_58 : decode cX9_quotientBits 58 = .ok (.iconst 0, 1) := by decide +kernel
theorem dX9_quotientBits_59 : decode cX9_quotientBits 59 = .ok (.istore 9, 2) := by decide +kernel
theorem dX9_quotientBits_61 : decode cX9_quotientBits 61 = .ok (.iload 9, 2) := by decide +kernel
theorem dX9_quotientBits_63 : decode cX9_quotientBits 63 = .ok (.bipush 52, 2) := by decide +kernel
theorem dX9_quotientBits_65 : decode cX9_quotientBits 65 = .ok (.if_icmp .ge 44, 3) := by decide +kernel
theorem dX9_quotientBits_68 : decode cX9_quotientBits 68 = .ok (.lload 5, 2) := by decide +kernel
theorem dX9_quotientBits_70 : decode cX9_quotientBits 70 = .ok (.ldc2_w 311, 3) := by decide +kernel
theorem dX9_quotientBits_73 : decode cX9_quotientBits 73 = .ok (.lmul, 1) := by decide +kernel
theorem dX9_quotientBits_74 : decode cX9_quotientBits 74 = .ok (.lstore 5, 2) := by decide +kernel
theorem dX9_quotientBits_76 : decode cX9_quotientBits 76 = .ok (.lload 7, 2) := by decide +kernel
theorem dX9_quotientBits_78 : decode cX9_quotientBits 78 = .ok (.ldc2_w 311, 3) := by decide +kernel
theorem dX9_quotientBits_81 : decode cX9_quotientBits 81 = .ok (.lmul, 1) := by decide +kernel
theorem dX9_quotientBits_82 : decode cX9_quotientBits 82 = .ok (.lstore 7, 2) := by decide +kernel
theorem dX9_quotientBits_84 : decode cX9_quotientBits 84 = .ok (.lload 5, 2) := by decide +kernel
theorem dX9_quotientBits_86 : decode cX9_quotientBits 86 = .ok (.lload_n 2, 1) := by decide +kernel
theorem dX9_quotientBits_87 : decode cX9_quotientBits 87 = .ok (.lcmp, 1) := by decide +kernel
theorem dX9_quotientBits_88 : decode cX9_quotientBits 88 = .ok (.ifCond .lt 15, 3) := by decide +kernel
theorem dX9_quotientBits_91 : decode cX9_quotientBits 91 = .ok (.lload 5, 2) := by decide +kernel
theorem dX9_quotientBits_93 : decode cX9_quotientBits 93 = .ok (.lload_n 2, 1) := by decide +kernel
theorem dX9_quotientBits_94 : decode cX9_quotientBits 94 = .ok (.lsub, 1) := by decide +kernel
theorem dX9_quotientBits_95 : decode cX9_quotientBits 95 = .ok (.lstore 5, 2) := by decide +kernel
theorem dX9_quotientBits_97 : decode cX9_quotientBits 97 = .ok (.lload 7, 2) := by decide +kernel
theorem dX9_quotientBits_99 : decode cX9_quotientBits 99 = .ok (.lconst 1, 1) := by decide +kernel
theorem dX9_quotientBits_100 : decode cX9_quotientBits 100 = .ok (.ladd, 1) := by decide +kernel
theorem dX9_quotientBits_101 : decode cX9_quotientBits 101 = .ok (.lstore 7, 2) := by decide +kernel
theorem dX9_quotientBits_103 : decode cX9_quotientBits 103 = .ok (.iinc 9 1, 3) := by decide +kernel
theorem dX9_quotientBits_106 : decode cX9_quotientBits 106 = .ok (.goto (-45), 3) := by decide +kernel
theorem dX9_quotientBits_109 : decode cX9_quotientBits 109 = .ok (.lload 5, 2) := by decide +kernel
theorem dX9_quotientBits_111 : decode cX9_quotientBits 111 = .ok (.ldc2_w 311, 3) := by decide +kernel
theorem dX9_quotientBits_114 : decode cX9_quotientBits 114 = .ok (.lmul, 1) := by decide +kernel
theorem dX9_quotientBits_115 : decode cX9_quotientBits 115 = .ok (.lload_n 2, 1) := by decide +kernel
theorem dX9_quotientBits_116 : decode cX9_quotientBits 116 = .ok (.lcmp, 1) := by decide +kernel
theorem dX9_quotientBits_117 : decode cX9_quotientBits 117 = .ok (.ifCond .le 9, 3) := by decide +kernel
theorem dX9_quotientBits_120 : decode cX9_quotientBits 120 = .ok (.lload 7, 2) := by decide +kernel
theorem dX9_quotientBits_122 : decode cX9_quotientBits 122 = .ok (.lconst 1, 1) := by decide +kernel
theorem dX9_quotientBits_123 : decode cX9_quotientBits 123 = .ok (.ladd, 1) := by decide +kernel
theorem dX9_quotientBits_124 : decode cX9_quotientBits 124 = .ok (.lstore 7, 2) := by decide +kernel
theorem dX9_quotientBits_126 : decode cX9_quotientBits 126 = .ok (.ldc2_w 313, 3) := by decide +kernel
theorem dX9_quotientBits_129 : decode cX9_quotientBits 129 = .ok (.iload 4, 2) := by decide +kernel
theorem dX9_quotientBits_131 : decode cX9_quotientBits 131 = .ok (.i2l, 1) := by decide +kernel
theorem dX9_quotientBits_132 : decode cX9_quotientBits 132 = .ok (.ladd, 1) := by decide +kernel
theorem dX9_quotientBits_133 : decode cX9_quotientBits 133 = .ok (.bipush 52, 2) := by decide +kernel
theorem dX9_quotientBits_135 : decode cX9_quotientBits 135 = .ok (.lshl, 1) := by decide +kernel
theorem dX9_quotientBits_136 : decode cX9_quotientBits 136 = .ok (.lload 7, 2) := by decide +kernel
theorem dX9_quotientBits_138 : decode cX9_quotientBits 138 = .ok (.ladd, 1) := by decide +kernel
theorem dX9_quotientBits_139 : decode cX9_quotientBits 139 = .ok (.lreturn, 1) := by decide +kernel
theorem dX9_find_0 : decode cX9_find 0 = .ok (.aload_n 0, 1) := by decide +kernel
theorem dX9_find_1 : decode cX9_find 1 = .ok (.getfield 16, 3) := by decide +kernel
theorem dX9_find_4 : decode cX9_find 4 = .ok (.iload_n 1, 1) := by decide +kernel
theorem dX9_find_5 : decode cX9_find 5 = .ok (.invokevirtual 315, 3) := by decide +kernel
theorem dX9_find_8 : decode cX9_find 8 = .ok (.ireturn, 1) := by decide +kernel
theorem dX9_count_0 : decode cX9_count 0 = .ok (.aload_n 0, 1) := by decide +kernel
theorem dX9_count_1 : decode cX9_count 1 = .ok (.invokevirtual 201, 3) := by decide +kernel
theorem dX9_count_4 : decode cX9_count 4 = .ok (.iload_n 1, 1) := by decide +kernel
theorem dX9_count_5 : decode cX9_count 5 = .ok (.tableswitch 134 0 10 #[59, 67, 83, 91, 96, 101, 106, 111, 119, 124, 129], 59) := by decide +kernel
theorem dX9_count_64 : decode cX9_count 64 = .ok (.aload_n 0, 1) := by decide +kernel
theorem dX9_count_65 : decode cX9_count 65 = .ok (.getfield 16, 3) := by decide +kernel
theorem dX9_count_68 : decode cX9_count 68 = .ok (.getfield 84, 3) := by decide +kernel
theorem dX9_count_71 : decode cX9_count 71 = .ok (.ireturn, 1) := by decide +kernel
theorem dX9_count_72 : decode cX9_count 72 = .ok (.aload_n 0, 1) := by decide +kernel
theorem dX9_count_73 : decode cX9_count 73 = .ok (.getfield 16, 3) := by decide +kernel
theorem dX9_count_76 : decode cX9_count 76 = .ok (.getfield 84, 3) := by decide +kernel
theorem dX9_count_79 : decode cX9_count 79 = .ok (.aload_n 0, 1) := by decide +kernel
theorem dX9_count_80 : decode cX9_count 80 = .ok (.getfield 16, 3) := by decide +kernel
theorem dX9_count_83 : decode cX9_count 83 = .ok (.invokevirtual 318, 3) := by decide +kernel
theorem dX9_count_86 : decode cX9_count 86 = .ok (.isub, 1) := by decide +kernel
theorem dX9_count_87 : decode cX9_count 87 = .ok (.ireturn, 1) := by decide +kernel
theorem dX9_count_88 : decode cX9_count 88 = .ok (.aload_n 0, 1) := by decide +kernel
theorem dX9_count_89 : decode cX9_count 89 = .ok (.getfield 16, 3) := by decide +kernel
theorem dX9_count_92 : decode cX9_count 92 = .ok (.invokevirtual 318, 3) := by decide +kernel
theorem dX9_count_95 : decode cX9_count 95 = .ok (.ireturn, 1) := by decide +kernel
theorem dX9_count_96 : decode cX9_count 96 = .ok (.aload_n 0, 1) := by decide +kernel
theorem dX9_count_97 : decode cX9_count 97 = .ok (.invokevirtual 321, 3) := by decide +kernel
theorem dX9_count_100 : decode cX9_count 100 = .ok (.ireturn, 1) := by decide +kernel
theorem dX9_count_101 : decode cX9_count 101 = .ok (.aload_n 0, 1) := by decide +kernel
theorem dX9_count_102 : decode cX9_count 102 = .ok (.invokevirtual 324, 3) := by decide +kernel
theorem dX9_count_105 : decode cX9_count 105 = .ok (.ireturn, 1) := by decide +kernel
theorem dX9_count_106 : decode cX9_count 106 = .ok (.aload_n 0, 1) := by decide +kernel
theorem dX9_count_107 : decode cX9_count 107 = .ok (.invokevirtual 327, 3) := by decide +kernel
theorem dX9_count_110 : decode cX9_count 110 = .ok (.ireturn, 1) := by decide +kernel
theorem dX9_count_111 : decode cX9_count 111 = .ok (.aload_n 0, 1) := by decide +kernel
theorem dX9_count_112 : decode cX9_count 112 = .ok (.invokevirtual 330, 3) := by decide +kernel
theorem dX9_count_115 : decode cX9_count 115 = .ok (.ireturn, 1) := by decide +kernel
theorem dX9_count_116 : decode cX9_count 116 = .ok (.aload_n 0, 1) := by decide +kernel
theorem dX9_count_117 : decode cX9_count 117 = .ok (.getfield 37, 3) := by decide +kernel
theorem dX9_count_120 : decode cX9_count 120 = .ok (.getfield 186, 3) := by decide +kernel
theorem dX9_count_123 : decode cX9_count 123 = .ok (.ireturn, 1) := by decide +kernel
theorem dX9_count_124 : decode cX9_count 124 = .ok (.aload_n 0, 1) := by decide +kernel
theorem dX9_count_125 : decode cX9_count 125 = .ok (.getfield 69, 3) := by decide +kernel
theorem dX9_count_128 : decode cX9_count 128 = .ok (.ireturn, 1) := by decide +kernel
theorem dX9_count_129 : decode cX9_count 129 = .ok (.aload_n 0, 1) := by decide +kernel
theorem dX9_count_130 : decode cX9_count 130 = .ok (.getfield 194, 3) := by decide +kernel
theorem dX9_count_133 : decode cX9_count 133 = .ok (.ireturn, 1) := by decide +kernel
theorem dX9_count_134 : decode cX9_count 134 = .ok (.aload_n 0, 1) := by decide +kernel
theorem dX9_count_135 : decode cX9_count 135 = .ok (.invokevirtual 333, 3) := by decide +kernel
theorem dX9_count_138 : decode cX9_count 138 = .ok (.ireturn, 1) := by decide +kernel
theorem dX9_count_139 : decode cX9_count 139 = .ok (.iconst (-1), 1) := by decide +kernel
theorem dX9_count_140 : decode cX9_count 140 = .ok (.ireturn, 1) := by decide +kernel
theorem dX9_bitsWithoutLine_0 : decode cX9_bitsWithoutLine 0 = .ok (.iconst 0, 1) := by decide +kernel
theorem dX9_bitsWithoutLine_1 : decode cX9_bitsWithoutLine 1 = .ok (.istore_n 1, 1) := by decide +kernel
theorem dX9_bitsWithoutLine_2 : decode cX9_bitsWithoutLine 2 = .ok (.iconst 0, 1) := by decide +kernel
theorem dX9_bitsWithoutLine_3 : decode cX9_bitsWithoutLine 3 = .ok (.istore_n 2, 1) := by decide +kernel
theorem dX9_bitsWithoutLine_4 : decode cX9_bitsWithoutLine 4 = .ok (.iload_n 2, 1) := by decide +kernel
theorem dX9_bitsWithoutLine_5 : decode cX9_bitsWithoutLine 5 = .ok (.aload_n 0, 1) := by decide +kernel
theorem dX9_bitsWithoutLine_6 : decode cX9_bitsWithoutLine 6 = .ok (.getfield 16, 3) := by decide +kernel
theorem dX9_bitsWithoutLine_9 : decode cX9_bitsWithoutLine 9 = .ok (.getfield 84, 3) := by decide +kernel
theorem dX9_bitsWithoutLine_12 : decode cX9_bitsWithoutLine 12 = .ok (.if_icmp .ge 38, 3) := by decide +kernel
theorem dX9_bitsWithoutLine_15 : decode cX9_bitsWithoutLine 15 = .ok (.aload_n 0, 1) := by decide +kernel
theorem dX9_bitsWithoutLine_16 : decode cX9_bitsWithoutLine 16 = .ok (.getfield 16, 3) := by decide +kernel
theorem dX9_bitsWithoutLine_19 : decode cX9_bitsWithoutLine 19 = .ok (.iload_n 2, 1) := by decide +kernel
theorem dX9_bitsWithoutLine_20 : decode cX9_bitsWithoutLine 20 = .ok (.invokevirtual 94, 3) := by decide +kernel
theorem dX9_bitsWithoutLine_23 : decode cX9_bitsWithoutLine 23 = .ok (.ifCond .eq 21, 3) := by decide +kernel
theorem dX9_bitsWithoutLine_26 : decode cX9_bitsWithoutLine 26 = .ok (.aload_n 0, 1) := by decide +kernel
theorem dX9_bitsWithoutLine_27 : decode cX9_bitsWithoutLine 27 = .ok (.getfield 51, 3) := by decide +kernel
theorem dX9_bitsWithoutLine_30 : decode cX9_bitsWithoutLine 30 = .ok (.getfield 238, 3) := by decide +kernel
theorem dX9_bitsWithoutLine_33 : decode cX9_bitsWithoutLine 33 = .ok (.iload_n 2, 1) := by decide +kernel
theorem dX9_bitsWithoutLine_34 : decode cX9_bitsWithoutLine 34 = .ok (.iaload, 1) := by decide +kernel
theorem dX9_bitsWithoutLine_35 : decode cX9_bitsWithoutLine 35 = .ok (.ifCond .ne 9, 3) := by decide +kernel
theorem dX9_bitsWithoutLine_38 : decode cX9_bitsWithoutLine 38 = .ok (.iload_n 1, 1) := by decide +kernel
theorem dX9_bitsWithoutLine_39 : decode cX9_bitsWithoutLine 39 = .ok (.iconst 1, 1) := by decide +kernel
theorem dX9_bitsWithoutLine_40 : decode cX9_bitsWithoutLine 40 = .ok (.iload_n 2, 1) := by decide +kernel
theorem dX9_bitsWithoutLine_41 : decode cX9_bitsWithoutLine 41 = .ok (.ishl, 1) := by decide +kernel
theorem dX9_bitsWithoutLine_42 : decode cX9_bitsWithoutLine 42 = .ok (.ior, 1) := by decide +kernel
theorem dX9_bitsWithoutLine_43 : decode cX9_bitsWithoutLine 43 = .ok (.istore_n 1, 1) := by decide +kernel
theorem dX9_bitsWithoutLine_44 : decode cX9_bitsWithoutLine 44 = .ok (.iinc 2 1, 3) := by decide +kernel
theorem dX9_bitsWithoutLine_47 : decode cX9_bitsWithoutLine 47 = .ok (.goto (-43), 3) := by decide +kernel
theorem dX9_bitsWithoutLine_50 : decode cX9_bitsWithoutLine 50 = .ok (.iload_n 1, 1) := by decide +kernel
theorem dX9_bitsWithoutLine_51 : decode cX9_bitsWithoutLine 51 = .ok (.ireturn, 1) := by decide +kernel
theorem dX9_bitsOfWhole_0 : decode cX9_bitsOfWhole 0 = .ok (.iconst 0, 1) := by decide +kernel
theorem dX9_bitsOfWhole_1 : decode cX9_bitsOfWhole 1 = .ok (.istore_n 1, 1) := by decide +kernel
theorem dX9_bitsOfWhole_2 : decode cX9_bitsOfWhole 2 = .ok (.iconst 0, 1) := by decide +kernel
theorem dX9_bitsOfWhole_3 : decode cX9_bitsOfWhole 3 = .ok (.istore_n 2, 1) := by decide +kernel
theorem dX9_bitsOfWhole_4 : decode cX9_bitsOfWhole 4 = .ok (.iload_n 2, 1) := by decide +kernel
theorem dX9_bitsOfWhole_5 : decode cX9_bitsOfWhole 5 = .ok (.aload_n 0, 1) := by decide +kernel
theorem dX9_bitsOfWhole_6 : decode cX9_bitsOfWhole 6 = .ok (.getfield 16, 3) := by decide +kernel
theorem dX9_bitsOfWhole_9 : decode cX9_bitsOfWhole 9 = .ok (.getfield 84, 3) := by decide +kernel
theorem dX9_bitsOfWhole_12 : decode cX9_bitsOfWhole 12 = .ok (.if_icmp .ge 65, 3) := by decide +kernel
theorem dX9_bitsOfWhole_15 : decode cX9_bitsOfWhole 15 = .ok (.aload_n 0, 1) := by decide +kernel
theorem dX9_bitsOfWhole_16 : decode cX9_bitsOfWhole 16 = .ok (.getfield 16, 3) := by decide +kernel
theorem dX9_bitsOfWhole_19 : decode cX9_bitsOfWhole 19 = .ok (.iload_n 2, 1) := by decide +kernel
theorem dX9_bitsOfWhole_20 : decode cX9_bitsOfWhole 20 = .ok (.invokevirtual 94, 3) := by decide +kernel
theorem dX9_bitsOfWhole_23 : decode cX9_bitsOfWhole 23 = .ok (.ifCond .eq 19, 3) := by decide +kernel
theorem dX9_bitsOfWhole_26 : decode cX9_bitsOfWhole 26 = .ok (.aload_n 0, 1) := by decide +kernel
theorem dX9_bitsOfWhole_27 : decode cX9_bitsOfWhole 27 = .ok (.getfield 51, 3) := by decide +kernel
theorem dX9_bitsOfWhole_30 : decode cX9_bitsOfWhole 30 = .ok (.getfield 238, 3) := by decide +kernel
theorem dX9_bitsOfWhole_33 : decode cX9_bitsOfWhole 33 = .ok (.iload_n 2, 1) := by decide +kernel
theorem dX9_bitsOfWhole_34 : decode cX9_bitsOfWhole 34 = .ok (.iaload, 1) := by decide +kernel
theorem dX9_bitsOfWhole_35 : decode cX9_bitsOfWhole 35 = .ok (.ifCond .le 7, 3) := by decide +kernel
theorem dX9_bitsOfWhole_38 : decode cX9_bitsOfWhole 38 = .ok (.iconst 1, 1) := by decide +kernel
theorem dX9_bitsOfWhole_39 : decode cX9_bitsOfWhole 39 = .ok (.goto 4, 3) := by decide +kernel
theorem dX9_bitsOfWhole_42 : decode cX9_bitsOfWhole 42 = .ok (.iconst 0, 1) := by decide +kernel
theorem dX9_bitsOfWhole_43 : decode cX9_bitsOfWhole 43 = .ok (.istore_n 3, 1) := by decide +kernel
theorem dX9_bitsOfWhole_44 : decode cX9_bitsOfWhole 44 = .ok (.iload_n 3, 1) := by decide +kernel
theorem dX9_bitsOfWhole_45 : decode cX9_bitsOfWhole 45 = .ok (.ifCond .eq 26, 3) := by decide +kernel
theorem dX9_bitsOfWhole_48 : decode cX9_bitsOfWhole 48 = .ok (.aload_n 0, 1) := by decide +kernel
theorem dX9_bitsOfWhole_49 : decode cX9_bitsOfWhole 49 = .ok (.iload_n 2, 1) := by decide +kernel
theorem dX9_bitsOfWhole_50 : decode cX9_bitsOfWhole 50 = .ok (.invokevirtual 296, 3) := by decide +kernel
theorem dX9_bitsOfWhole_53 : decode cX9_bitsOfWhole 53 = .ok (.ifCond .ne 18, 3) := by decide +kernel
theorem dX9_bitsOfWhole_56 : decode cX9_bitsOfWhole 56 = .ok (.aload_n 0, 1) := by decide +kernel
theorem dX9_bitsOfWhole_57 : decode cX9_bitsOfWhole 57 = .ok (.iload_n 2, 1) := by decide +kernel
theorem dX9_bitsOfWhole_58 : decode cX9_bitsOfWhole 58 = .ok (.iconst 3, 1) := by decide +kernel
theorem dX9_bitsOfWhole_59 : decode cX9_bitsOfWhole 59 = .ok (.invokevirtual 299, 3) := by decide +kernel
theorem dX9_bitsOfWhole_62 : decode cX9_bitsOfWhole 62 = .ok (.ifCond .ne 9, 3) := by decide +kernel
theorem dX9_bitsOfWhole_65 : decode cX9_bitsOfWhole 65 = .ok (.iload_n 1, 1) := by decide +kernel
theorem dX9_bitsOfWhole_66 : decode cX9_bitsOfWhole 66 = .ok (.iconst 1, 1) := by decide +kernel
theorem dX9_bitsOfWhole_67 : decode cX9_bitsOfWhole 67 = .ok (.iload_n 2, 1) := by decide +kernel
theorem dX9_bitsOfWhole_68 : decode cX9_bitsOfWhole 68 = .ok (.ishl, 1) := by decide +kernel
theorem dX9_bitsOfWhole_69 : decode cX9_bitsOfWhole 69 = .ok (.ior, 1) := by decide +kernel
theorem dX9_bitsOfWhole_70 : decode cX9_bitsOfWhole 70 = .ok (.istore_n 1, 1) := by decide +kernel
theorem dX9_bitsOfWhole_71 : decode cX9_bitsOfWhole 71 = .ok (.iinc 2 1, 3) := by decide +kernel
theorem dX9_bitsOfWhole_74 : decode cX9_bitsOfWhole 74 = .ok (.goto (-70), 3) := by decide +kernel
theorem dX9_bitsOfWhole_77 : decode cX9_bitsOfWhole 77 = .ok (.iload_n 1, 1) := by decide +kernel
theorem dX9_bitsOfWhole_78 : decode cX9_bitsOfWhole 78 = .ok (.ireturn, 1) := by decide +kernel
theorem dX9_longestLine_0 : decode cX9_longestLine 0 = .ok (.iconst 0, 1) := by decide +kernel
theorem dX9_longestLine_1 : decode cX9_longestLine 1 = .ok (.istore_n 1, 1) := by decide +kernel
theorem dX9_longestLine_2 : decode cX9_longestLine 2 = .ok (.iconst 0, 1) := by decide +kernel
theorem dX9_longestLine_3 : decode cX9_longestLine 3 = .ok (.istore_n 2, 1) := by decide +kernel
theorem dX9_longestLine_4 : decode cX9_longestLine 4 = .ok (.iload_n 2, 1) := by decide +kernel
theorem dX9_longestLine_5 : decode cX9_longestLine 5 = .ok (.aload_n 0, 1) := by decide +kernel
theorem dX9_longestLine_6 : decode cX9_longestLine 6 = .ok (.getfield 16, 3) := by decide +kernel
theorem dX9_longestLine_9 : decode cX9_longestLine 9 = .ok (.getfield 84, 3) := by decide +kernel
theorem dX9_longestLine_12 : decode cX9_longestLine 12 = .ok (.if_icmp .ge 23, 3) := by decide +kernel
theorem dX9_longestLine_15 : decode cX9_longestLine 15 = .ok (.iload_n 1, 1) := by decide +kernel
theorem dX9_longestLine_16 : decode cX9_longestLine 16 = .ok (.aload_n 0, 1) := by decide +kernel
theorem dX9_longestLine_17 : decode cX9_longestLine 17 = .ok (.getfield 51, 3) := by decide +kernel
theorem dX9_longestLine_20 : decode cX9_longestLine 20 = .ok (.getfield 238, 3) := by decide +kernel
theorem dX9_longestLine_23 : decode cX9_longestLine 23 = .ok (.iload_n 2, 1) := by decide +kernel
theorem dX9_longestLine_24 : decode cX9_longestLine 24 = .ok (.iaload, 1) := by decide +kernel
theorem dX9_longestLine_25 : decode cX9_longestLine 25 = .ok (.invokestatic 336, 3) := by decide +kernel
theorem dX9_longestLine_28 : decode cX9_longestLine 28 = .ok (.istore_n 1, 1) := by decide +kernel
theorem dX9_longestLine_29 : decode cX9_longestLine 29 = .ok (.iinc 2 1, 3) := by decide +kernel
theorem dX9_longestLine_32 : decode cX9_longestLine 32 = .ok (.goto (-28), 3) := by decide +kernel
theorem dX9_longestLine_35 : decode cX9_longestLine 35 = .ok (.iload_n 1, 1) := by decide +kernel
theorem dX9_longestLine_36 : decode cX9_longestLine 36 = .ok (.ireturn, 1) := by decide +kernel
theorem dX9_conflictCount_0 : decode cX9_conflictCount 0 = .ok (.iconst 0, 1) := by decide +kernel
theorem dX9_conflictCount_1 : decode cX9_conflictCount 1 = .ok (.istore_n 1, 1) := by decide +kernel
theorem dX9_conflictCount_2 : decode cX9_conflictCount 2 = .ok (.iconst 0, 1) := by decide +kernel
theorem dX9_conflictCount_3 : decode cX9_conflictCount 3 = .ok (.istore_n 2, 1) := by decide +kernel
theorem dX9_conflictCount_4 : decode cX9_conflictCount 4 = .ok (.iload_n 2, 1) := by decide +kernel
theorem dX9_conflictCount_5 : decode cX9_conflictCount 5 = .ok (.aload_n 0, 1) := by decide +kernel
theorem dX9_conflictCount_6 : decode cX9_conflictCount 6 = .ok (.getfield 16, 3) := by decide +kernel
theorem dX9_conflictCount_9 : decode cX9_conflictCount 9 = .ok (.getfield 84, 3) := by decide +kernel
theorem dX9_conflictCount_12 : decode cX9_conflictCount 12 = .ok (.if_icmp .ge 24, 3) := by decide +kernel
theorem dX9_conflictCount_15 : decode cX9_conflictCount 15 = .ok (.iload_n 1, 1) := by decide +kernel
theorem dX9_conflictCount_16 : decode cX9_conflictCount 16 = .ok (.aload_n 0, 1) := by decide +kernel
theorem dX9_conflictCount_17 : decode cX9_conflictCount 17 = .ok (.getfield 44, 3) := by decide +kernel
theorem dX9_conflictCount_20 : decode cX9_conflictCount 20 = .ok (.iload_n 2, 1) := by decide +kernel
theorem dX9_conflictCount_21 : decode cX9_conflictCount 21 = .ok (.iconst 3, 1) := by decide +kernel
theorem dX9_conflictCount_22 : decode cX9_conflictCount 22 = .ok (.invokevirtual 220, 3) := by decide +kernel
theorem dX9_conflictCount_25 : decode cX9_conflictCount 25 = .ok (.invokestatic 341, 3) := by decide +kernel
theorem dX9_conflictCount_28 : decode cX9_conflictCount 28 = .ok (.iadd, 1) := by decide +kernel
theorem dX9_conflictCount_29 : decode cX9_conflictCount 29 = .ok (.istore_n 1, 1) := by decide +kernel
theorem dX9_conflictCount_30 : decode cX9_conflictCount 30 = .ok (.iinc 2 1, 3) := by decide +kernel
theorem dX9_conflictCount_33 : decode cX9_conflictCount 33 = .ok (.goto (-29), 3) := by decide +kernel
theorem dX9_conflictCount_36 : decode cX9_conflictCount 36 = .ok (.iload_n 1, 1) := by decide +kernel
theorem dX9_conflictCount_37 : decode cX9_conflictCount 37 = .ok (.ireturn, 1) := by decide +kernel
theorem dX9_bitsOfLowest_0 : decode cX9_bitsOfLowest 0 = .ok (.iconst 0, 1) := by decide +kernel
theorem dX9_bitsOfLowest_1 : decode cX9_bitsOfLowest 1 = .ok (.istore_n 1, 1) := by decide +kernel
theorem dX9_bitsOfLowest_2 : decode cX9_bitsOfLowest 2 = .ok (.iconst 0, 1) := by decide +kernel
theorem dX9_bitsOfLowest_3 : decode cX9_bitsOfLowest 3 = .ok (.istore_n 2, 1) := by decide +kernel
theorem dX9_bitsOfLowest_4 : decode cX9_bitsOfLowest 4 = .ok (.iconst 0, 1) := by decide +kernel
theorem dX9_bitsOfLowest_5 : decode cX9_bitsOfLowest 5 = .ok (.istore_n 3, 1) := by decide +kernel
theorem dX9_bitsOfLowest_6 : decode cX9_bitsOfLowest 6 = .ok (.iload_n 3, 1) := by decide +kernel
theorem dX9_bitsOfLowest_7 : decode cX9_bitsOfLowest 7 = .ok (.aload_n 0, 1) := by decide +kernel
theorem dX9_bitsOfLowest_8 : decode cX9_bitsOfLowest 8 = .ok (.getfield 16, 3) := by decide +kernel
theorem dX9_bitsOfLowest_11 : decode cX9_bitsOfLowest 11 = .ok (.getfield 84, 3) := by decide +kernel
theorem dX9_bitsOfLowest_14 : decode cX9_bitsOfLowest 14 = .ok (.if_icmp .ge 44, 3) := by decide +kernel
theorem dX9_bitsOfLowest_17 : decode cX9_bitsOfLowest 17 = .ok (.aload_n 0, 1) := by decide +kernel
theorem dX9_bitsOfLowest_18 : decode cX9_bitsOfLowest 18 = .ok (.getfield 16, 3) := by decide +kernel
theorem dX9_bitsOfLowest_21 : decode cX9_bitsOfLowest 21 = .ok (.iload_n 3, 1) := by decide +kernel
theorem dX9_bitsOfLowest_22 : decode cX9_bitsOfLowest 22 = .ok (.invokevirtual 94, 3) := by decide +kernel
theorem dX9_bitsOfLowest_25 : decode cX9_bitsOfLowest 25 = .ok (.ifCond .eq 27, 3) := by decide +kernel
theorem dX9_bitsOfLowest_28 : decode cX9_bitsOfLowest 28 = .ok (.iload_n 1, 1) := by decide +kernel
theorem dX9_bitsOfLowest_29 : decode cX9_bitsOfLowest 29 = .ok (.iconst 1, 1) := by decide +kernel
theorem dX9_bitsOfLowest_30 : decode cX9_bitsOfLowest 30 = .ok (.iload_n 3, 1) := by decide +kernel
theorem dX9_bitsOfLowest_31 : decode cX9_bitsOfLowest 31 = .ok (.ishl, 1) := by decide +kernel
theorem dX9_bitsOfLowest_32 : decode cX9_bitsOfLowest 32 = .ok (.ior, 1) := by decide +kernel
theorem dX9_bitsOfLowest_33 : decode cX9_bitsOfLowest 33 = .ok (.istore_n 1, 1) := by decide +kernel
theorem dX9_bitsOfLowest_34 : decode cX9_bitsOfLowest 34 = .ok (.iload_n 2, 1) := by decide +kernel
theorem dX9_bitsOfLowest_35 : decode cX9_bitsOfLowest 35 = .ok (.aload_n 0, 1) := by decide +kernel
theorem dX9_bitsOfLowest_36 : decode cX9_bitsOfLowest 36 = .ok (.getfield 51, 3) := by decide +kernel
theorem dX9_bitsOfLowest_39 : decode cX9_bitsOfLowest 39 = .ok (.getfield 251, 3) := by decide +kernel
theorem dX9_bitsOfLowest_42 : decode cX9_bitsOfLowest 42 = .ok (.iload_n 3, 1) := by decide +kernel
theorem dX9_bitsOfLowest_43 : decode cX9_bitsOfLowest 43 = .ok (.iaload, 1) := by decide +kernel
theorem dX9_bitsOfLowest_44 : decode cX9_bitsOfLowest 44 = .ok (.iconst 1, 1) := by decide +kernel
theorem dX9_bitsOfLowest_45 : decode cX9_bitsOfLowest 45 = .ok (.iload_n 3, 1) := by decide +kernel
theorem dX9_bitsOfLowest_46 : decode cX9_bitsOfLowest 46 = .ok (.ishl, 1) := by decide +kernel
theorem dX9_bitsOfLowest_47 : decode cX9_bitsOfLowest 47 = .ok (.iconst (-1), 1) := by decide +kernel
theorem dX9_bitsOfLowest_48 : decode cX9_bitsOfLowest 48 = .ok (.ixor, 1) := by decide +kernel
theorem dX9_bitsOfLowest_49 : decode cX9_bitsOfLowest 49 = .ok (.iand, 1) := by decide +kernel
theorem dX9_bitsOfLowest_50 : decode cX9_bitsOfLowest 50 = .ok (.ior, 1) := by decide +kernel
theorem dX9_bitsOfLowest_51 : decode cX9_bitsOfLowest 51 = .ok (.istore_n 2, 1) := by decide +kernel
theorem dX9_bitsOfLowest_52 : decode cX9_bitsOfLowest 52 = .ok (.iinc 3 1, 3) := by decide +kernel
theorem dX9_bitsOfLowest_55 : decode cX9_bitsOfLowest 55 = .ok (.goto (-49), 3) := by decide +kernel
theorem dX9_bitsOfLowest_58 : decode cX9_bitsOfLowest 58 = .ok (.iload_n 1, 1) := by decide +kernel
theorem dX9_bitsOfLowest_59 : decode cX9_bitsOfLowest 59 = .ok (.iload_n 2, 1) := by decide +kernel
theorem dX9_bitsOfLowest_60 : decode cX9_bitsOfLowest 60 = .ok (.iconst (-1), 1) := by decide +kernel
theorem dX9_bitsOfLowest_61 : decode cX9_bitsOfLowest 61 = .ok (.ixor, 1) := by decide +kernel
theorem dX9_bitsOfLowest_62 : decode cX9_bitsOfLowest 62 = .ok (.iand, 1) := by decide +kernel
theorem dX9_bitsOfLowest_63 : decode cX9_bitsOfLowest 63 = .ok (.ireturn, 1) := by decide +kernel
theorem dX9_settle_0 : decode cX9_settle 0 = .ok (.aload_n 0, 1) := by decide +kernel
theorem dX9_settle_1 : decode cX9_settle 1 = .ok (.getfield 90, 3) := by decide +kernel
theorem dX9_settle_4 : decode cX9_settle 4 = .ok (.ifCond .eq 30, 3) := by decide +kernel
theorem dX9_settle_7 : decode cX9_settle 7 = .ok (.aload_n 0, 1) := by decide +kernel
theorem dX9_settle_8 : decode cX9_settle 8 = .ok (.getfield 44, 3) := by decide +kernel
theorem dX9_settle_11 : decode cX9_settle 11 = .ok (.aload_n 0, 1) := by decide +kernel
theorem dX9_settle_12 : decode cX9_settle 12 = .ok (.getfield 16, 3) := by decide +kernel
theorem dX9_settle_15 : decode cX9_settle 15 = .ok (.invokevirtual 346, 3) := by decide +kernel
theorem dX9_settle_18 : decode cX9_settle 18 = .ok (.aload_n 0, 1) := by decide +kernel
theorem dX9_settle_19 : decode cX9_settle 19 = .ok (.getfield 51, 3) := by decide +kernel
theorem dX9_settle_22 : decode cX9_settle 22 = .ok (.aload_n 0, 1) := by decide +kernel
theorem dX9_settle_23 : decode cX9_settle 23 = .ok (.getfield 16, 3) := by decide +kernel
theorem dX9_settle_26 : decode cX9_settle 26 = .ok (.invokevirtual 349, 3) := by decide +kernel
theorem dX9_settle_29 : decode cX9_settle 29 = .ok (.aload_n 0, 1) := by decide +kernel
theorem dX9_settle_30 : decode cX9_settle 30 = .ok (.iconst 0, 1) := by decide +kernel
theorem dX9_settle_31 : decode cX9_settle 31 = .ok (.putfield 90, 3) := by decide +kernel
theorem dX9_settle_34 : decode cX9_settle 34 = .ok (.return_, 1) := by decide +kernel
theorem dX9_isLetter_0 : decode cX9_isLetter 0 = .ok (.iload_n 0, 1) := by decide +kernel
theorem dX9_isLetter_1 : decode cX9_isLetter 1 = .ok (.ifCond .lt 13, 3) := by decide +kernel
theorem dX9_isLetter_4 : decode cX9_isLetter 4 = .ok (.iload_n 0, 1) := by decide +kernel
theorem dX9_isLetter_5 : decode cX9_isLetter 5 = .ok (.bipush 26, 2) := by decide +kernel
theorem dX9_isLetter_7 : decode cX9_isLetter 7 = .ok (.if_icmp .ge 7, 3) := by decide +kernel
theorem dX9_isLetter_10 : decode cX9_isLetter 10 = .ok (.iconst 1, 1) := by decide +kernel
theorem dX9_isLetter_11 : decode cX9_isLetter 11 = .ok (.goto 4, 3) := by decide +kernel
theorem dX9_isLetter_14 : decode cX9_isLetter 14 = .ok (.iconst 0, 1) := by decide +kernel
theorem dX9_isLetter_15 : decode cX9_isLetter 15 = .ok (.ireturn, 1) := by decide +kernel
theorem dX9_hasBit_0 : decode cX9_hasBit 0 = .ok (.iload_n 0, 1) := by decide +kernel
theorem dX9_hasBit_1 : decode cX9_hasBit 1 = .ok (.iload_n 1, 1) := by decide +kernel
theorem dX9_hasBit_2 : decode cX9_hasBit 2 = .ok (.ishr, 1) := by decide +kernel
theorem dX9_hasBit_3 : decode cX9_hasBit 3 = .ok (.iconst 1, 1) := by decide +kernel
theorem dX9_hasBit_4 : decode cX9_hasBit 4 = .ok (.iand, 1) := by decide +kernel
theorem dX9_hasBit_5 : decode cX9_hasBit 5 = .ok (.ifCond .eq 7, 3) := by decide +kernel
theorem dX9_hasBit_8 : decode cX9_hasBit 8 = .ok (.iconst 1, 1) := by decide +kernel
theorem dX9_hasBit_9 : decode cX9_hasBit 9 = .ok (.goto 4, 3) := by decide +kernel
theorem dX9_hasBit_12 : decode cX9_hasBit 12 = .ok (.iconst 0, 1) := by decide +kernel
theorem dX9_hasBit_13 : decode cX9_hasBit 13 = .ok (.ireturn, 1) := by decide +kernel
theorem dX10_init_0 : decode cX10_init 0 = .ok (.aload_n 0, 1) := by decide +kernel
theorem dX10_init_1 : decode cX10_init 1 = .ok (.invokespecial 3, 3) := by decide +kernel
theorem dX10_init_4 : decode cX10_init 4 = .ok (.aload_n 0, 1) := by decide +kernel
theorem dX10_init_5 : decode cX10_init 5 = .ok (.sipush 1357, 3) := by decide +kernel
theorem dX10_init_8 : decode cX10_init 8 = .ok (.newarray .int, 2) := by decide +kernel
theorem dX10_init_10 : decode cX10_init 10 = .ok (.putfield 11, 3) := by decide +kernel
theorem dX10_init_13 : decode cX10_init 13 = .ok (.aload_n 0, 1) := by decide +kernel
theorem dX10_init_14 : decode cX10_init 14 = .ok (.sipush 1357, 3) := by decide +kernel
theorem dX10_init_17 : decode cX10_init 17 = .ok (.newarray .int, 2) := by decide +kernel
theorem dX10_init_19 : decode cX10_init 19 = .ok (.putfield 15, 3) := by decide +kernel
theorem dX10_init_22 : decode cX10_init 22 = .ok (.aload_n 0, 1) := by decide +kernel
theorem dX10_init_23 : decode cX10_init 23 = .ok (.sipush 13570, 3) := by decide +kernel
theorem dX10_init_26 : decode cX10_init 26 = .ok (.newarray .int, 2) := by decide +kernel
theorem dX10_init_28 : decode cX10_init 28 = .ok (.putfield 18, 3) := by decide +kernel
theorem dX10_init_31 : decode cX10_init 31 = .ok (.aload_n 0, 1) := by decide +kernel
theorem dX10_init_32 : decode cX10_init 32 = .ok (.sipush 2714, 3) := by decide +kernel
theorem dX10_init_35 : decode cX10_init 35 = .ok (.newarray .int, 2) := by decide +kernel
theorem dX10_init_37 : decode cX10_init 37 = .ok (.putfield 21, 3) := by decide +kernel
theorem dX10_init_40 : decode cX10_init 40 = .ok (.aload_n 0, 1) := by decide +kernel
theorem dX10_init_41 : decode cX10_init 41 = .ok (.iconst 2, 1) := by decide +kernel
theorem dX10_init_42 : decode cX10_init 42 = .ok (.newarray .boolean, 2) := by decide +kernel
theorem dX10_init_44 : decode cX10_init 44 = .ok (.putfield 24, 3) := by decide +kernel
theorem dX10_init_47 : decode cX10_init 47 = .ok (.aload_n 0, 1) := by decide +kernel
theorem dX10_init_48 : decode cX10_init 48 = .ok (.sipush 400, 3) := by decide +kernel
theorem dX10_init_51 : decode cX10_init 51 = .ok (.newarray .byte, 2) := by decide +kernel
theorem dX10_init_53 : decode cX10_init 53 = .ok (.putfield 28, 3) := by decide +kernel
theorem dX10_init_56 : decode cX10_init 56 = .ok (.aload_n 0, 1) := by decide +kernel
theorem dX10_init_57 : decode cX10_init 57 = .ok (.sipush 1560, 3) := by decide +kernel
theorem dX10_init_60 : decode cX10_init 60 = .ok (.newarray .int, 2) := by decide +kernel
theorem dX10_init_62 : decode cX10_init 62 = .ok (.putfield 32, 3) := by decide +kernel
theorem dX10_init_65 : decode cX10_init 65 = .ok (.aload_n 0, 1) := by decide +kernel
theorem dX10_init_66 : decode cX10_init 66 = .ok (.sipush 144, 3) := by decide +kernel
theorem dX10_init_69 : decode cX10_init 69 = .ok (.newarray .int, 2) := by decide +kernel
theorem dX10_init_71 : decode cX10_init 71 = .ok (.putfield 35, 3) := by decide +kernel
theorem dX10_init_74 : decode cX10_init 74 = .ok (.aload_n 0, 1) := by decide +kernel
theorem dX10_init_75 : decode cX10_init 75 = .ok (.bipush 12, 2) := by decide +kernel
theorem dX10_init_77 : decode cX10_init 77 = .ok (.newarray .int, 2) := by decide +kernel
theorem dX10_init_79 : decode cX10_init 79 = .ok (.putfield 38, 3) := by decide +kernel
theorem dX10_init_82 : decode cX10_init 82 = .ok (.aload_n 0, 1) := by decide +kernel
theorem dX10_init_83 : decode cX10_init 83 = .ok (.sipush 144, 3) := by decide +kernel
theorem dX10_init_86 : decode cX10_init 86 = .ok (.newarray .int, 2) := by decide +kernel
theorem dX10_init_88 : decode cX10_init 88 = .ok (.putfield 41, 3) := by decide +kernel
theorem dX10_init_91 : decode cX10_init 91 = .ok (.aload_n 0, 1) := by decide +kernel
theorem dX10_init_92 : decode cX10_init 92 = .ok (.bipush 12, 2) := by decide +kernel
theorem dX10_init_94 : decode cX10_init 94 = .ok (.newarray .int, 2) := by decide +kernel
theorem dX10_init_96 : decode cX10_init 96 = .ok (.putfield 44, 3) := by decide +kernel
theorem dX10_init_99 : decode cX10_init 99 = .ok (.aload_n 0, 1) := by decide +kernel
theorem dX10_init_100 : decode cX10_init 100 = .ok (.bipush 60, 2) := by decide +kernel
theorem dX10_init_102 : decode cX10_init 102 = .ok (.newarray .int, 2) := by decide +kernel
theorem dX10_init_104 : decode cX10_init 104 = .ok (.putfield 47, 3) := by decide +kernel
theorem dX10_init_107 : decode cX10_init 107 = .ok (.aload_n 0, 1) := by decide +kernel
theorem dX10_init_108 : decode cX10_init 108 = .ok (.iconst 5, 1) := by decide +kernel
theorem dX10_init_109 : decode cX10_init 109 = .ok (.newarray .int, 2) := by decide +kernel
theorem dX10_init_111 : decode cX10_init 111 = .ok (.putfield 50, 3) := by decide +kernel
theorem dX10_init_114 : decode cX10_init 114 = .ok (.aload_n 0, 1) := by decide +kernel
theorem dX10_init_115 : decode cX10_init 115 = .ok (.iconst 5, 1) := by decide +kernel
theorem dX10_init_116 : decode cX10_init 116 = .ok (.newarray .int, 2) := by decide +kernel
theorem dX10_init_118 : decode cX10_init 118 = .ok (.putfield 53, 3) := by decide +kernel
theorem dX10_init_121 : decode cX10_init 121 = .ok (.aload_n 0, 1) := by decide +kernel
theorem dX10_init_122 : decode cX10_init 122 = .ok (.bipush 12, 2) := by decide +kernel
theorem dX10_init_124 : decode cX10_init 124 = .ok (.newarray .int, 2) := by decide +kernel
theorem dX10_init_126 : decode cX10_init 126 = .ok (.putfield 56, 3) := by decide +kernel
theorem dX10_init_129 : decode cX10_init 129 = .ok (.aload_n 0, 1) := by decide +kernel
theorem dX10_init_130 : decode cX10_init 130 = .ok (.sipush 4096, 3) := by decide +kernel
theorem dX10_init_133 : decode cX10_init 133 = .ok (.newarray .long, 2) := by decide +kernel
theorem dX10_init_135 : decode cX10_init 135 = .ok (.putfield 59, 3) := by decide +kernel
theorem dX10_init_138 : decode cX10_init 138 = .ok (.return_, 1) := by decide +kernel
theorem dX10_in_0 : decode cX10_in 0 = .ok (.iload_n 0, 1) := by decide +kernel
theorem dX10_in_1 : decode cX10_in 1 = .ok (.iload_n 1, 1) := by decide +kernel
theorem dX10_in_2 : decode cX10_in 2 = .ok (.if_icmp .lt 12, 3) := by decide +kernel
theorem dX10_in_5 : decode cX10_in 5 = .ok (.iload_n 0, 1) := by decide +kernel
theorem dX10_in_6 : decode cX10_in 6 = .ok (.iload_n 2, 1) := by decide +kernel
theorem dX10_in_7 : decode cX10_in 7 = .ok (.if_icmp .gt 7, 3) := by decide +kernel
theorem dX10_in_10 : decode cX10_in 10 = .ok (.iconst 1, 1) := by decide +kernel
theorem dX10_in_11 : decode cX10_in 11 = .ok (.goto 4, 3) := by decide +kernel
theorem dX10_in_14 : decode cX10_in 14 = .ok (.iconst 0, 1) := by decide +kernel
theorem dX10_in_15 : decode cX10_in 15 = .ok (.ireturn, 1) := by decide +kernel
theorem dX10_truth_0 : decode cX10_truth 0 = .ok (.iload_n 0, 1) := by decide +kernel
theorem dX10_truth_1 : decode cX10_truth 1 = .ok (.ifCond .eq 7, 3) := by decide +kernel
theorem dX10_truth_4 : decode cX10_truth 4 = .ok (.iconst 1, 1) := by decide +kernel
theorem dX10_truth_5 : decode cX10_truth 5 = .ok (.goto 4, 3) := by decide +kernel
theorem dX10_truth_8 : decode cX10_truth 8 = .ok (.iconst 0, 1) := by decide +kernel
theorem dX10_truth_9 : decode cX10_truth 9 = .ok (.ireturn, 1) := by decide +kernel
theorem dX10_has_0 : decode cX10_has 0 = .ok (.iload_n 0, 1) := by decide +kernel
theorem dX10_has_1 : decode cX10_has 1 = .ok (.iload_n 1, 1) := by decide +kernel
theorem dX10_has_2 : decode cX10_has 2 = .ok (.ishr, 1) := by decide +kernel
theorem dX10_has_3 : decode cX10_has 3 = .ok (.iconst 1, 1) := by decide +kernel
theorem dX10_has_4 : decode cX10_has 4 = .ok (.iand, 1) := by decide +kernel
theorem dX10_has_5 : decode cX10_has 5 = .ok (.iconst 1, 1) := by decide +kernel
theorem dX10_has_6 : decode cX10_has 6 = .ok (.if_icmp .ne 7, 3) := by decide +kernel
theorem dX10_has_9 : decode cX10_has 9 = .ok (.iconst 1, 1) := by decide +kernel
theorem dX10_has_10 : decode cX10_has 10 = .ok (.goto 4, 3) := by decide +kernel
theorem dX10_has_13 : decode cX10_has 13 = .ok (.iconst 0, 1) := by decide +kernel
theorem dX10_has_14 : decode cX10_has 14 = .ok (.ireturn, 1) := by decide +kernel
theorem dX10_moves_0 : decode cX10_moves 0 = .ok (.iconst 0, 1) := by decide +kernel
theorem dX10_moves_1 : decode cX10_moves 1 = .ok (.istore 4, 2) := by decide +kernel
theorem dX10_moves_3 : decode cX10_moves 3 = .ok (.iload 4, 2) := by decide +kernel
theorem dX10_moves_5 : decode cX10_moves 5 = .ok (.sipush 1357, 3) := by decide +kernel
theorem dX10_moves_8 : decode cX10_moves 8 = .ok (.if_icmp .ge 21, 3) := by decide +kernel
theorem dX10_moves_11 : decode cX10_moves 11 = .ok (.aload_n 2, 1) := by decide +kernel
theorem dX10_moves_12 : decode cX10_moves 12 = .ok (.iload_n 3, 1) := by decide +kernel
theorem dX10_moves_13 : decode cX10_moves 13 = .ok (.iload 4, 2) := by decide +kernel
theorem dX10_moves_15 : decode cX10_moves 15 = .ok (.iadd, 1) := by decide +kernel
theorem dX10_moves_16 : decode cX10_moves 16 = .ok (.aload_n 0, 1) := by decide +kernel
theorem dX10_moves_17 : decode cX10_moves 17 = .ok (.iload_n 1, 1) := by decide +kernel
theorem dX10_moves_18 : decode cX10_moves 18 = .ok (.iload 4, 2) := by decide +kernel
theorem dX10_moves_20 : decode cX10_moves 20 = .ok (.iadd, 1) := by decide +kernel
theorem dX10_moves_21 : decode cX10_moves 21 = .ok (.iaload, 1) := by decide +kernel
theorem dX10_moves_22 : decode cX10_moves 22 = .ok (.iastore, 1) := by decide +kernel
theorem dX10_moves_23 : decode cX10_moves 23 = .ok (.iinc 4 1, 3) := by decide +kernel
theorem dX10_moves_26 : decode cX10_moves 26 = .ok (.goto (-23), 3) := by decide +kernel
theorem dX10_moves_29 : decode cX10_moves 29 = .ok (.return_, 1) := by decide +kernel
theorem dX10_useAt_0 : decode cX10_useAt 0 = .ok (.bipush 113, 2) := by decide +kernel
theorem dX10_useAt_2 : decode cX10_useAt 2 = .ok (.iload_n 0, 1) := by decide +kernel
theorem dX10_useAt_3 : decode cX10_useAt 3 = .ok (.imul, 1) := by decide +kernel
theorem dX10_useAt_4 : decode cX10_useAt 4 = .ok (.bipush 7, 2) := by decide +kernel
theorem dX10_useAt_6 : decode cX10_useAt 6 = .ok (.iadd, 1) := by decide +kernel
theorem dX10_useAt_7 : decode cX10_useAt 7 = .ok (.iconst 1, 1) := by decide +kernel
theorem dX10_useAt_8 : decode cX10_useAt 8 = .ok (.iadd, 1) := by decide +kernel
theorem dX10_useAt_9 : decode cX10_useAt 9 = .ok (.bipush 14, 2) := by decide +kernel
theorem dX10_useAt_11 : decode cX10_useAt 11 = .ok (.iload_n 1, 1) := by decide +kernel
theorem dX10_useAt_12 : decode cX10_useAt 12 = .ok (.imul, 1) := by decide +kernel
theorem dX10_useAt_13 : decode cX10_useAt 13 = .ok (.iadd, 1) := by decide +kernel
theorem dX10_useAt_14 : decode cX10_useAt 14 = .ok (.ireturn, 1) := by decide +kernel
theorem dX10_ownAt_0 : decode cX10_ownAt 0 = .ok (.bipush 113, 2) := by decide +kernel
theorem dX10_ownAt_2 : decode cX10_ownAt 2 = .ok (.iload_n 0, 1) := by decide +kernel
theorem dX10_ownAt_3 : decode cX10_ownAt 3 = .ok (.imul, 1) := by decide +kernel
theorem dX10_ownAt_4 : decode cX10_ownAt 4 = .ok (.bipush 64, 2) := by decide +kernel
theorem dX10_ownAt_6 : decode cX10_ownAt 6 = .ok (.iadd, 1) := by decide +kernel
theorem dX10_ownAt_7 : decode cX10_ownAt 7 = .ok (.iconst 1, 1) := by decide +kernel
theorem dX10_ownAt_8 : decode cX10_ownAt 8 = .ok (.iadd, 1) := by decide +kernel
theorem dX10_ownAt_9 : decode cX10_ownAt 9 = .ok (.bipush 6, 2) := by decide +kernel
theorem dX10_ownAt_11 : decode cX10_ownAt 11 = .ok (.iload_n 1, 1) := by decide +kernel
theorem dX10_ownAt_12 : decode cX10_ownAt 12 = .ok (.imul, 1) := by decide +kernel
theorem dX10_ownAt_13 : decode cX10_ownAt 13 = .ok (.iadd, 1) := by decide +kernel
theorem dX10_ownAt_14 : decode cX10_ownAt 14 = .ok (.ireturn, 1) := by decide +kernel
theorem dX10_feed_0 : decode cX10_feed 0 = .ok (.aload_n 0, 1) := by decide +kernel
theorem dX10_feed_1 : decode cX10_feed 1 = .ok (.getfield 63, 3) := by decide +kernel
theorem dX10_feed_4 : decode cX10_feed 4 = .ok (.bipush 20, 2) := by decide +kernel
theorem dX10_feed_6 : decode cX10_feed 6 = .ok (.iadd, 1) := by decide +kernel
theorem dX10_feed_7 : decode cX10_feed 7 = .ok (.sipush 400, 3) := by decide +kernel
theorem dX10_feed_10 : decode cX10_feed 10 = .ok (.if_icmp .le 5, 3) := by decide +kernel
theorem dX10_feed_13 : decode cX10_feed 13 = .ok (.iconst (-1), 1) := by decide +kernel
theorem dX10_feed_14 : decode cX10_feed 14 = .ok (.ireturn, 1) := by decide +kernel
theorem dX10_feed_15 : decode cX10_feed 15 = .ok (.aload_n 0, 1) := by decide +kernel
theorem dX10_feed_16 : decode cX10_feed 16 = .ok (.iload_n 1, 1) := by decide +kernel
theorem dX10_feed_17 : decode cX10_feed 17 = .ok (.invokevirtual 67, 3) := by decide +kernel
theorem dX10_feed_20 : decode cX10_feed 20 = .ok (.aload_n 0, 1) := by decide +kernel
theorem dX10_feed_21 : decode cX10_feed 21 = .ok (.iload_n 2, 1) := by decide +kernel
theorem dX10_feed_22 : decode cX10_feed 22 = .ok (.invokevirtual 67, 3) := by decide +kernel
theorem dX10_feed_25 : decode cX10_feed 25 = .ok (.aload_n 0, 1) := by decide +kernel
theorem dX10_feed_26 : decode cX10_feed 26 = .ok (.iload_n 3, 1) := by decide +kernel
theorem dX10_feed_27 : decode cX10_feed 27 = .ok (.invokevirtual 67, 3) := by decide +kernel
theorem dX10_feed_30 : decode cX10_feed 30 = .ok (.aload_n 0, 1) := by decide +kernel
theorem dX10_feed_31 : decode cX10_feed 31 = .ok (.iload 4, 2) := by decide +kernel
theorem dX10_feed_33 : decode cX10_feed 33 = .ok (.invokevirtual 67, 3) := by decide +kernel
theorem dX10_feed_36 : decode cX10_feed 36 = .ok (.aload_n 0, 1) := by decide +kernel
theorem dX10_feed_37 : decode cX10_feed 37 = .ok (.iload 5, 2) := by decide +kernel
theorem dX10_feed_39 : decode cX10_feed 39 = .ok (.invokevirtual 67, 3) := by decide +kernel
theorem dX10_feed_42 : decode cX10_feed 42 = .ok (.aload_n 0, 1) := by decide +kernel
theorem dX10_feed_43 : decode cX10_feed 43 = .ok (.getfield 63, 3) := by decide +kernel
theorem dX10_feed_46 : decode cX10_feed 46 = .ok (.ireturn, 1) := by decide +kernel
theorem dX10_puts_0 : decode cX10_puts 0 = .ok (.bipush 24, 2) := by decide +kernel
theorem dX10_puts_2 : decode cX10_puts 2 = .ok (.istore_n 2, 1) := by decide +kernel
theorem dX10_puts_3 : decode cX10_puts 3 = .ok (.iload_n 2, 1) := by decide +kernel
theorem dX10_puts_4 : decode cX10_puts 4 = .ok (.ifCond .lt 32, 3) := by decide +kernel
theorem dX10_puts_7 : decode cX10_puts 7 = .ok (.aload_n 0, 1) := by decide +kernel
theorem dX10_puts_8 : decode cX10_puts 8 = .ok (.getfield 28, 3) := by decide +kernel
theorem dX10_puts_11 : decode cX10_puts 11 = .ok (.aload_n 0, 1) := by decide +kernel
theorem dX10_puts_12 : decode cX10_puts 12 = .ok (.getfield 63, 3) := by decide +kernel
theorem dX10_puts_15 : decode cX10_puts 15 = .ok (.iload_n 1, 1) := by decide +kernel
theorem dX10_puts_16 : decode cX10_puts 16 = .ok (.iload_n 2, 1) := by decide +kernel
theorem dX10_puts_17 : decode cX10_puts 17 = .ok (.ishr, 1) := by decide +kernel
theorem dX10_puts_18 : decode cX10_puts 18 = .ok (.i2b, 1) := by decide +kernel
theorem dX10_puts_19 : decode cX10_puts 19 = .ok (.bastore, 1) := by decide +kernel
theorem dX10_puts_20 : decode cX10_puts 20 = .ok (.aload_n 0, 1) := by decide +kernel
theorem dX10_puts_21 : decode cX10_puts 21 = .ok (.dup, 1) := by decide +kernel
theorem dX10_puts_22 : decode cX10_puts 22 = .ok (.getfield 63, 3) := by decide +kernel
theorem dX10_puts_25 : decode cX10_puts 25 = .ok (.iconst 1, 1) := by decide +kernel
theorem dX10_puts_26 : decode cX10_puts 26 = .ok (.iadd, 1) := by decide +kernel
theorem dX10_puts_27 : decode cX10_puts 27 = .ok (.putfield 63, 3) := by decide +kernel
theorem dX10_puts_30 : decode cX10_puts 30 = .ok (.iinc 2 (-8), 3) := by decide +kernel
theorem dX10_puts_33 : decode cX10_puts 33 = .ok (.goto (-30), 3) := by decide +kernel
theorem dX10_puts_36 : decode cX10_puts 36 = .ok (.return_, 1) := by decide +kernel
theorem dX10_end_0 : decode cX10_end 0 = .ok (.iload_n 1, 1) := by decide +kernel
theorem dX10_end_1 : decode cX10_end 1 = .ok (.ifCond .lt 11, 3) := by decide +kernel
theorem dX10_end_4 : decode cX10_end 4 = .ok (.iload_n 1, 1) := by decide +kernel
theorem dX10_end_5 : decode cX10_end 5 = .ok (.aload_n 0, 1) := by decide +kernel
theorem dX10_end_6 : decode cX10_end 6 = .ok (.getfield 63, 3) := by decide +kernel
theorem dX10_end_9 : decode cX10_end 9 = .ok (.if_icmp .le 5, 3) := by decide +kernel
theorem dX10_end_12 : decode cX10_end 12 = .ok (.iconst (-1), 1) := by decide +kernel
theorem dX10_end_13 : decode cX10_end 13 = .ok (.ireturn, 1) := by decide +kernel
theorem dX10_end_14 : decode cX10_end 14 = .ok (.aload_n 0, 1) := by decide +kernel
theorem dX10_end_15 : decode cX10_end 15 = .ok (.iload_n 1, 1) := by decide +kernel
theorem dX10_end_16 : decode cX10_end 16 = .ok (.putfield 63, 3) := by decide +kernel
theorem dX10_end_19 : decode cX10_end 19 = .ok (.iload_n 1, 1) := by decide +kernel
theorem dX10_end_20 : decode cX10_end 20 = .ok (.ireturn, 1) := by decide +kernel
theorem dX10_sign_0 : decode cX10_sign 0 = .ok (.aload_n 0, 1) := by decide +kernel
theorem dX10_sign_1 : decode cX10_sign 1 = .ok (.getfield 71, 3) := by decide +kernel
theorem dX10_sign_4 : decode cX10_sign 4 = .ok (.aload_n 0, 1) := by decide +kernel
theorem dX10_sign_5 : decode cX10_sign 5 = .ok (.getfield 63, 3) := by decide +kernel
theorem dX10_sign_8 : decode cX10_sign 8 = .ok (.if_icmp .ge 19, 3) := by decide +kernel
theorem dX10_sign_11 : decode cX10_sign 11 = .ok (.aload_n 0, 1) := by decide +kernel
theorem dX10_sign_12 : decode cX10_sign 12 = .ok (.getfield 28, 3) := by decide +kernel
theorem dX10_sign_15 : decode cX10_sign 15 = .ok (.aload_n 0, 1) := by decide +kernel
theorem dX10_sign_16 : decode cX10_sign 16 = .ok (.getfield 71, 3) := by decide +kernel
theorem dX10_sign_19 : decode cX10_sign 19 = .ok (.baload, 1) := by decide +kernel
theorem dX10_sign_20 : decode cX10_sign 20 = .ok (.sipush 255, 3) := by decide +kernel
theorem dX10_sign_23 : decode cX10_sign 23 = .ok (.iand, 1) := by decide +kernel
theorem dX10_sign_24 : decode cX10_sign 24 = .ok (.goto 4, 3) := by decide +kernel
theorem dX10_sign_27 : decode cX10_sign 27 = .ok (.iconst (-1), 1) := by decide +kernel
theorem dX10_sign_28 : decode cX10_sign 28 = .ok (.ireturn, 1) := by decide +kernel
theorem dX10_next_0 : decode cX10_next 0 = .ok (.aload_n 0, 1) := by decide +kernel
theorem dX10_next_1 : decode cX10_next 1 = .ok (.invokevirtual 74, 3) := by decide +kernel
theorem dX10_next_4 : decode cX10_next 4 = .ok (.bipush 32, 2) := by decide +kernel
theorem dX10_next_6 : decode cX10_next 6 = .ok (.if_icmp .ne 16, 3) := by decide +kernel
theorem dX10_next_9 : decode cX10_next 9 = .ok (.aload_n 0, 1) := by decide +kernel
theorem dX10_next_10 : decode cX10_next 10 = .ok (.dup, 1) := by decide +kernel
theorem dX10_next_11 : decode cX10_next 11 = .ok (.getfield 71, 3) := by decide +kernel
theorem dX10_next_14 : decode cX10_next 14 = .ok (.iconst 1, 1) := by decide +kernel
theorem dX10_next_15 : decode cX10_next 15 = .ok (.iadd, 1) := by decide +kernel
theorem dX10_next_16 : decode cX10_next 16 = .ok (.putfield 71, 3) := by decide +kernel
theorem dX10_next_19 : decode cX10_next 19 = .ok (.goto (-19), 3) := by decide +kernel
theorem dX10_next_22 : decode cX10_next 22 = .ok (.aload_n 0, 1) := by decide +kernel
theorem dX10_next_23 : decode cX10_next 23 = .ok (.invokevirtual 74, 3) := by decide +kernel
theorem dX10_next_26 : decode cX10_next 26 = .ok (.ireturn, 1) := by decide +kernel
theorem dX10_isRight_0 : decode cX10_isRight 0 = .ok (.aload_n 0, 1) := by decide +kernel
theorem dX10_isRight_1 : decode cX10_isRight 1 = .ok (.getfield 78, 3) := by decide +kernel
theorem dX10_isRight_4 : decode cX10_isRight 4 = .ok (.iconst (-1), 1) := by decide +kernel
theorem dX10_isRight_5 : decode cX10_isRight 5 = .ok (.if_icmp .ne 7, 3) := by decide +kernel
theorem dX10_isRight_8 : decode cX10_isRight 8 = .ok (.iconst 1, 1) := by decide +kernel
theorem dX10_isRight_9 : decode cX10_isRight 9 = .ok (.goto 4, 3) := by decide +kernel
theorem dX10_isRight_12 : decode cX10_isRight 12 = .ok (.iconst 0, 1) := by decide +kernel
theorem dX10_isRight_13 : decode cX10_isRight 13 = .ok (.ireturn, 1) := by decide +kernel
theorem dX10_fails_0 : decode cX10_fails 0 = .ok (.aload_n 0, 1) := by decide +kernel
theorem dX10_fails_1 : decode cX10_fails 1 = .ok (.invokevirtual 81, 3) := by decide +kernel
theorem dX10_fails_4 : decode cX10_fails 4 = .ok (.ifCond .eq 13, 3) := by decide +kernel
theorem dX10_fails_7 : decode cX10_fails 7 = .ok (.aload_n 0, 1) := by decide +kernel
theorem dX10_fails_8 : decode cX10_fails 8 = .ok (.bipush 8, 2) := by decide +kernel
theorem dX10_fails_10 : decode cX10_fails 10 = .ok (.iload_n 2, 1) := by decide +kernel
theorem dX10_fails_11 : decode cX10_fails 11 = .ok (.imul, 1) := by decide +kernel
theorem dX10_fails_12 : decode cX10_fails 12 = .ok (.iload_n 1, 1) := by decide +kernel
theorem dX10_fails_13 : decode cX10_fails 13 = .ok (.iadd, 1) := by decide +kernel
theorem dX10_fails_14 : decode cX10_fails 14 = .ok (.putfield 78, 3) := by decide +kernel
theorem dX10_fails_17 : decode cX10_fails 17 = .ok (.return_, 1) := by decide +kernel
theorem dX10_wordLong_0 : decode cX10_wordLong 0 = .ok (.aload_n 0, 1) := by decide +kernel
theorem dX10_wordLong_1 : decode cX10_wordLong 1 = .ok (.invokevirtual 85, 3) := by decide +kernel
theorem dX10_wordLong_4 : decode cX10_wordLong 4 = .ok (.pop, 1) := by decide +kernel
theorem dX10_wordLong_5 : decode cX10_wordLong 5 = .ok (.iconst 0, 1) := by decide +kernel
theorem dX10_wordLong_6 : decode cX10_wordLong 6 = .ok (.istore_n 1, 1) := by decide +kernel
theorem dX10_wordLong_7 : decode cX10_wordLong 7 = .ok (.aload_n 0, 1) := by decide +kernel
theorem dX10_wordLong_8 : decode cX10_wordLong 8 = .ok (.getfield 71, 3) := by decide +kernel
theorem dX10_wordLong_11 : decode cX10_wordLong 11 = .ok (.iload_n 1, 1) := by decide +kernel
theorem dX10_wordLong_12 : decode cX10_wordLong 12 = .ok (.iadd, 1) := by decide +kernel
theorem dX10_wordLong_13 : decode cX10_wordLong 13 = .ok (.aload_n 0, 1) := by decide +kernel
theorem dX10_wordLong_14 : decode cX10_wordLong 14 = .ok (.getfield 63, 3) := by decide +kernel
theorem dX10_wordLong_17 : decode cX10_wordLong 17 = .ok (.if_icmp .ge 30, 3) := by decide +kernel
theorem dX10_wordLong_20 : decode cX10_wordLong 20 = .ok (.aload_n 0, 1) := by decide +kernel
theorem dX10_wordLong_21 : decode cX10_wordLong 21 = .ok (.getfield 28, 3) := by decide +kernel
theorem dX10_wordLong_24 : decode cX10_wordLong 24 = .ok (.aload_n 0, 1) := by decide +kernel
theorem dX10_wordLong_25 : decode cX10_wordLong 25 = .ok (.getfield 71, 3) := by decide +kernel
theorem dX10_wordLong_28 : decode cX10_wordLong 28 = .ok (.iload_n 1, 1) := by decide +kernel
theorem dX10_wordLong_29 : decode cX10_wordLong 29 = .ok (.iadd, 1) := by decide +kernel
theorem dX10_wordLong_30 : decode cX10_wordLong 30 = .ok (.baload, 1) := by decide +kernel
theorem dX10_wordLong_31 : decode cX10_wordLong 31 = .ok (.bipush 97, 2) := by decide +kernel
theorem dX10_wordLong_33 : decode cX10_wordLong 33 = .ok (.bipush 122, 2) := by decide +kernel
theorem dX10_wordLong_35 : decode cX10_wordLong 35 = .ok (.invokestatic 88, 3) := by decide +kernel
theorem dX10_wordLong_38 : decode cX10_wordLong 38 = .ok (.ifCond .eq 9, 3) := by decide +kernel
theorem dX10_wordLong_41 : decode cX10_wordLong 41 = .ok (.iinc 1 1, 3) := by decide +kernel
theorem dX10_wordLong_44 : decode cX10_wordLong 44 = .ok (.goto (-37), 3) := by decide +kernel
theorem dX10_wordLong_47 : decode cX10_wordLong 47 = .ok (.iload_n 1, 1) := by decide +kernel
theorem dX10_wordLong_48 : decode cX10_wordLong 48 = .ok (.ireturn, 1) := by decide +kernel
theorem dX10_takes_0 : decode cX10_takes 0 = .ok (.aload_n 0, 1) := by decide +kernel
theorem dX10_takes_1 : decode cX10_takes 1 = .ok (.invokevirtual 92, 3) := by decide +kernel
theorem dX10_takes_4 : decode cX10_takes 4 = .ok (.istore_n 2, 1) := by decide +kernel
theorem dX10_takes_5 : decode cX10_takes 5 = .ok (.aload_n 0, 1) := by decide +kernel
theorem dX10_takes_6 : decode cX10_takes 6 = .ok (.invokevirtual 81, 3) := by decide +kernel
theorem dX10_takes_9 : decode cX10_takes 9 = .ok (.ifCond .eq 15, 3) := by decide +kernel
theorem dX10_takes_12 : decode cX10_takes 12 = .ok (.iload_n 2, 1) := by decide +kernel
theorem dX10_takes_13 : decode cX10_takes 13 = .ok (.aload_n 1, 1) := by decide +kernel
theorem dX10_takes_14 : decode cX10_takes 14 = .ok (.invokevirtual 95, 3) := by decide +kernel
theorem dX10_takes_17 : decode cX10_takes 17 = .ok (.if_icmp .ne 7, 3) := by decide +kernel
theorem dX10_takes_20 : decode cX10_takes 20 = .ok (.iconst 1, 1) := by decide +kernel
theorem dX10_takes_21 : decode cX10_takes 21 = .ok (.goto 4, 3) := by decide +kernel
theorem dX10_takes_24 : decode cX10_takes 24 = .ok (.iconst 0, 1) := by decide +kernel
theorem dX10_takes_25 : decode cX10_takes 25 = .ok (.istore_n 3, 1) := by decide +kernel
theorem dX10_takes_26 : decode cX10_takes 26 = .ok (.iconst 0, 1) := by decide +kernel
theorem dX10_takes_27 : decode cX10_takes 27 = .ok (.istore 4, 2) := by decide +kernel
theorem dX10_takes_29 : decode cX10_takes 29 = .ok (.iload 4, 2) := by decide +kernel
theorem dX10_takes_31 : decode cX10_takes 31 = .ok (.iload_n 2, 1) := by decide +kernel
theorem dX10_takes_32 : decode cX10_takes 32 = .ok (.if_icmp .ge 40, 3) := by decide +kernel
theorem dX10_takes_35 : decode cX10_takes 35 = .ok (.iload_n 3, 1) := by decide +kernel
theorem dX10_takes_36 : decode cX10_takes 36 = .ok (.ifCond .eq 36, 3) := by decide +kernel
theorem dX10_takes_39 : decode cX10_takes 39 = .ok (.aload_n 0, 1) := by decide +kernel
theorem dX10_takes_40 : decode cX10_takes 40 = .ok (.getfield 28, 3) := by decide +kernel
theorem dX10_takes_43 : decode cX10_takes 43 = .ok (.aload_n 0, 1) := by decide +kernel
theorem dX10_takes_44 : decode cX10_takes 44 = .ok (.getfield 71, 3) := by decide +kernel
theorem dX10_takes_47 : decode cX10_takes 47 = .ok (.iload 4, 2) := by decide +kernel
theorem dX10_takes_49 : decode cX10_takes 49 = .ok (.iadd, 1) := by decide +kernel
theorem dX10_takes_50 : decode cX10_takes 50 = .ok (.baload, 1) := by decide +kernel
theorem dX10_takes_51 : decode cX10_takes 51 = .ok (.aload_n 1, 1) := by decide +kernel
theorem dX10_takes_52 : decode cX10_takes 52 = .ok (.iload 4, 2) := by decide +kernel
theorem dX10_takes_54 : decode cX10_takes 54 = .ok (.invokevirtual 100, 3) := by decide +kernel
theorem dX10_takes_57 : decode cX10_takes 57 = .ok (.if_icmp .ne 7, 3) := by decide +kernel
theorem dX10_takes_60 : decode cX10_takes 60 = .ok (.iconst 1, 1) := by decide +kernel
theorem dX10_takes_61 : decode cX10_takes 61 = .ok (.goto 4, 3) := by decide +kernel
theorem dX10_takes_64 : decode cX10_takes 64 = .ok (.iconst 0, 1) := by decide +kernel
theorem dX10_takes_65 : decode cX10_takes 65 = .ok (.istore_n 3, 1) := by decide +kernel
theorem dX10_takes_66 : decode cX10_takes 66 = .ok (.iinc 4 1, 3) := by decide +kernel
theorem dX10_takes_69 : decode cX10_takes 69 = .ok (.goto (-40), 3) := by decide +kernel
theorem dX10_takes_72 : decode cX10_takes 72 = .ok (.aload_n 0, 1) := by decide +kernel
theorem dX10_takes_73 : decode cX10_takes 73 = .ok (.dup, 1) := by decide +kernel
theorem dX10_takes_74 : decode cX10_takes 74 = .ok (.getfield 71, 3) := by decide +kernel
theorem dX10_takes_77 : decode cX10_takes 77 = .ok (.iload_n 3, 1) := by decide +kernel
theorem dX10_takes_78 : decode cX10_takes 78 = .ok (.ifCond .eq 7, 3) := by decide +kernel
theorem dX10_takes_81 : decode cX10_takes 81 = .ok (.iload_n 2, 1) := by decide +kernel
theorem dX10_takes_82 : decode cX10_takes 82 = .ok (.goto 4, 3) := by decide +kernel
theorem dX10_takes_85 : decode cX10_takes 85 = .ok (.iconst 0, 1) := by decide +kernel
theorem dX10_takes_86 : decode cX10_takes 86 = .ok (.iadd, 1) := by decide +kernel
theorem dX10_takes_87 : decode cX10_takes 87 = .ok (.putfield 71, 3) := by decide +kernel
theorem dX10_takes_90 : decode cX10_takes 90 = .ok (.iload_n 3, 1) := by decide +kernel
theorem dX10_takes_91 : decode cX10_takes 91 = .ok (.ireturn, 1) := by decide +kernel
theorem dX10_takesSign_0 : decode cX10_takesSign 0 = .ok (.aload_n 0, 1) := by decide +kernel
theorem dX10_takesSign_1 : decode cX10_takesSign 1 = .ok (.invokevirtual 81, 3) := by decide +kernel
theorem dX10_takesSign_4 : decode cX10_takesSign 4 = .ok (.ifCond .eq 15, 3) := by decide +kernel
theorem dX10_takesSign_7 : decode cX10_takesSign 7 = .ok (.aload_n 0, 1) := by decide +kernel
theorem dX10_takesSign_8 : decode cX10_takesSign 8 = .ok (.invokevirtual 85, 3) := by decide +kernel
theorem dX10_takesSign_11 : decode cX10_takesSign 11 = .ok (.iload_n 1, 1) := by decide +kernel
theorem dX10_takesSign_12 : decode cX10_takesSign 12 = .ok (.if_icmp .ne 7, 3) := by decide +kernel
theorem dX10_takesSign_15 : decode cX10_takesSign 15 = .ok (.iconst 1, 1) := by decide +kernel
theorem dX10_takesSign_16 : decode cX10_takesSign 16 = .ok (.goto 4, 3) := by decide +kernel
theorem dX10_takesSign_19 : decode cX10_takesSign 19 = .ok (.iconst 0, 1) := by decide +kernel
theorem dX10_takesSign_20 : decode cX10_takesSign 20 = .ok (.istore_n 2, 1) := by decide +kernel
theorem dX10_takesSign_21 : decode cX10_takesSign 21 = .ok (.aload_n 0, 1) := by decide +kernel
theorem dX10_takesSign_22 : decode cX10_takesSign 22 = .ok (.dup, 1) := by decide +kernel
theorem dX10_takesSign_23 : decode cX10_takesSign 23 = .ok (.getfield 71, 3) := by decide +kernel
theorem dX10_takesSign_26 : decode cX10_takesSign 26 = .ok (.iload_n 2, 1) := by decide +kernel
theorem dX10_takesSign_27 : decode cX10_takesSign 27 = .ok (.invokestatic 104, 3) := by decide +kernel
theorem dX10_takesSign_30 : decode cX10_takesSign 30 = .ok (.iadd, 1) := by decide +kernel
theorem dX10_takesSign_31 : decode cX10_takesSign 31 = .ok (.putfield 71, 3) := by decide +kernel
theorem dX10_takesSign_34 : decode cX10_takesSign 34 = .ok (.iload_n 2, 1) := by decide +kernel
theorem dX10_takesSign_35 : decode cX10_takesSign 35 = .ok (.ireturn, 1) := by decide +kernel
theorem dX10_must_0 : decode cX10_must 0 = .ok (.aload_n 0, 1) := by decide +kernel
theorem dX10_must_1 : decode cX10_must 1 = .ok (.iload_n 1, 1) := by decide +kernel
theorem dX10_must_2 : decode cX10_must 2 = .ok (.invokevirtual 108, 3) := by decide +kernel
theorem dX10_must_5 : decode cX10_must 5 = .ok (.ifCond .ne 12, 3) := by decide +kernel
theorem dX10_must_8 : decode cX10_must 8 = .ok (.aload_n 0, 1) := by decide +kernel
theorem dX10_must_9 : decode cX10_must 9 = .ok (.iconst 1, 1) := by decide +kernel
theorem dX10_must_10 : decode cX10_must 10 = .ok (.aload_n 0, 1) := by decide +kernel
theorem dX10_must_11 : decode cX10_must 11 = .ok (.getfield 71, 3) := by decide +kernel
theorem dX10_must_14 : decode cX10_must 14 = .ok (.invokevirtual 112, 3) := by decide +kernel
theorem dX10_must_17 : decode cX10_must 17 = .ok (.return_, 1) := by decide +kernel
theorem dX10_isCapital_0 : decode cX10_isCapital 0 = .ok (.aload_n 0, 1) := by decide +kernel
theorem dX10_isCapital_1 : decode cX10_isCapital 1 = .ok (.invokevirtual 85, 3) := by decide +kernel
theorem dX10_isCapital_4 : decode cX10_isCapital 4 = .ok (.bipush 65, 2) := by decide +kernel
theorem dX10_isCapital_6 : decode cX10_isCapital 6 = .ok (.bipush 90, 2) := by decide +kernel
theorem dX10_isCapital_8 : decode cX10_isCapital 8 = .ok (.invokestatic 88, 3) := by decide +kernel
theorem dX10_isCapital_11 : decode cX10_isCapital 11 = .ok (.ireturn, 1) := by decide +kernel
theorem dX10_letter_0 : decode cX10_letter 0 = .ok (.aload_n 0, 1) := by decide +kernel
theorem dX10_letter_1 : decode cX10_letter 1 = .ok (.invokevirtual 92, 3) := by decide +kernel
theorem dX10_letter_4 : decode cX10_letter 4 = .ok (.istore_n 1, 1) := by decide +kernel
theorem dX10_letter_5 : decode cX10_letter 5 = .ok (.aload_n 0, 1) := by decide +kernel
theorem dX10_letter_6 : decode cX10_letter 6 = .ok (.aload_n 0, 1) := by decide +kernel
theorem dX10_letter_7 : decode cX10_letter 7 = .ok (.getfield 71, 3) := by decide +kernel
theorem dX10_letter_10 : decode cX10_letter 10 = .ok (.putfield 116, 3) := by decide +kernel
theorem dX10_letter_13 : decode cX10_letter 13 = .ok (.iload_n 1, 1) := by decide +kernel
theorem dX10_letter_14 : decode cX10_letter 14 = .ok (.iconst 1, 1) := by decide +kernel
theorem dX10_letter_15 : decode cX10_letter 15 = .ok (.if_icmp .eq 14, 3) := by decide +kernel
theorem dX10_letter_18 : decode cX10_letter 18 = .ok (.aload_n 0, 1) := by decide +kernel
theorem dX10_letter_19 : decode cX10_letter 19 = .ok (.iconst 1, 1) := by decide +kernel
theorem dX10_letter_20 : decode cX10_letter 20 = .ok (.aload_n 0, 1) := by decide +kernel
theorem dX10_letter_21 : decode cX10_letter 21 = .ok (.getfield 71, 3) := by decide +kernel
theorem dX10_letter_24 : decode cX10_letter 24 = .ok (.invokevirtual 112, 3) := by decide +kernel
theorem dX10_letter_27 : decode cX10_letter 27 = .ok (.iconst 0, 1) := by decide +kernel
theorem dX10_letter_28 : decode cX10_letter 28 = .ok (.ireturn, 1) := by decide +kernel
theorem dX10_letter_29 : decode cX10_letter 29 = .ok (.aload_n 0, 1) := by decide +kernel
theorem dX10_letter_30 : decode cX10_letter 30 = .ok (.dup, 1) := by decide +kernel
theorem dX10_letter_31 : decode cX10_letter 31 = .ok (.getfield 71, 3) := by decide +kernel
theorem dX10_letter_34 : decode cX10_letter 34 = .ok (.iconst 1, 1) := by decide +kernel
theorem dX10_letter_35 : decode cX10_letter 35 = .ok (.iadd, 1) := by decide +kernel
theorem dX10_letter_36 : decode cX10_letter 36 = .ok (.putfield 71, 3) := by decide +kernel
theorem dX10_letter_39 : decode cX10_letter 39 = .ok (.aload_n 0, 1) := by decide +kernel
theorem dX10_letter_40 : decode cX10_letter 40 = .ok (.getfield 28, 3) := by decide +kernel
theorem dX10_letter_43 : decode cX10_letter 43 = .ok (.aload_n 0, 1) := by decide +kernel
theorem dX10_letter_44 : decode cX10_letter 44 = .ok (.getfield 71, 3) := by decide +kernel
theorem dX10_letter_47 : decode cX10_letter 47 = .ok (.iconst 1, 1) := by decide +kernel
theorem dX10_letter_48 : decode cX10_letter 48 = .ok (.isub, 1) := by decide +kernel
theorem dX10_letter_49 : decode cX10_letter 49 = .ok (.baload, 1) := by decide +kernel
theorem dX10_letter_50 : decode cX10_letter 50 = .ok (.bipush 97, 2) := by decide +kernel
theorem dX10_letter_52 : decode cX10_letter 52 = .ok (.isub, 1) := by decide +kernel
theorem dX10_letter_53 : decode cX10_letter 53 = .ok (.ireturn, 1) := by decide +kernel
theorem dX10_unitOf_0 : decode cX10_unitOf 0 = .ok (.iconst 0, 1) := by decide +kernel
theorem dX10_unitOf_1 : decode cX10_unitOf 1 = .ok (.istore_n 2, 1) := by decide +kernel
theorem dX10_unitOf_2 : decode cX10_unitOf 2 = .ok (.iload_n 2, 1) := by decide +kernel
theorem dX10_unitOf_3 : decode cX10_unitOf 3 = .ok (.aload_n 0, 1) := by decide +kernel
theorem dX10_unitOf_4 : decode cX10_unitOf 4 = .ok (.getfield 15, 3) := by decide +kernel
theorem dX10_unitOf_7 : decode cX10_unitOf 7 = .ok (.sipush 1356, 3) := by decide +kernel
theorem dX10_unitOf_10 : decode cX10_unitOf 10 = .ok (.iaload, 1) := by decide +kernel
theorem dX10_unitOf_11 : decode cX10_unitOf 11 = .ok (.if_icmp .ge 26, 3) := by decide +kernel
theorem dX10_unitOf_14 : decode cX10_unitOf 14 = .ok (.aload_n 0, 1) := by decide +kernel
theorem dX10_unitOf_15 : decode cX10_unitOf 15 = .ok (.getfield 15, 3) := by decide +kernel
theorem dX10_unitOf_18 : decode cX10_unitOf 18 = .ok (.bipush 113, 2) := by decide +kernel
theorem dX10_unitOf_20 : decode cX10_unitOf 20 = .ok (.iload_n 2, 1) := by decide +kernel
theorem dX10_unitOf_21 : decode cX10_unitOf 21 = .ok (.imul, 1) := by decide +kernel
theorem dX10_unitOf_22 : decode cX10_unitOf 22 = .ok (.iconst 1, 1) := by decide +kernel
theorem dX10_unitOf_23 : decode cX10_unitOf 23 = .ok (.iadd, 1) := by decide +kernel
theorem dX10_unitOf_24 : decode cX10_unitOf 24 = .ok (.iaload, 1) := by decide +kernel
theorem dX10_unitOf_25 : decode cX10_unitOf 25 = .ok (.iload_n 1, 1) := by decide +kernel
theorem dX10_unitOf_26 : decode cX10_unitOf 26 = .ok (.if_icmp .ne 5, 3) := by decide +kernel
theorem dX10_unitOf_29 : decode cX10_unitOf 29 = .ok (.iload_n 2, 1) := by decide +kernel
theorem dX10_unitOf_30 : decode cX10_unitOf 30 = .ok (.ireturn, 1) := by decide +kernel
theorem dX10_unitOf_31 : decode cX10_unitOf 31 = .ok (.iinc 2 1, 3) := by decide +kernel
theorem dX10_unitOf_34 : decode cX10_unitOf 34 = .ok (.goto (-32), 3) := by decide +kernel
theorem dX10_unitOf_37 : decode cX10_unitOf 37 = .ok (.iconst (-1), 1) := by decide +kernel
theorem dX10_unitOf_38 : decode cX10_unitOf 38 = .ok (.ireturn, 1) := by decide +kernel
theorem dX10_named_0 : decode cX10_named 0 = .ok (.aload_n 0, 1) := by decide +kernel
theorem dX10_named_1 : decode cX10_named 1 = .ok (.invokevirtual 81, 3) := by decide +kernel
theorem dX10_named_4 : decode cX10_named 4 = .ok (.ifCond .eq 10, 3) := by decide +kernel
theorem dX10_named_7 : decode cX10_named 7 = .ok (.aload_n 0, 1) := by decide +kernel
theorem dX10_named_8 : decode cX10_named 8 = .ok (.invokevirtual 119, 3) := by decide +kernel
theorem dX10_named_11 : decode cX10_named 11 = .ok (.ifCond .ne 14, 3) := by decide +kernel
theorem dX10_named_14 : decode cX10_named 14 = .ok (.aload_n 0, 1) := by decide +kernel
theorem dX10_named_15 : decode cX10_named 15 = .ok (.iconst 1, 1) := by decide +kernel
theorem dX10_named_16 : decode cX10_named 16 = .ok (.aload_n 0, 1) := by decide +kernel
theorem dX10_named_17 : decode cX10_named 17 = .ok (.getfield 71, 3) := by decide +kernel
theorem dX10_named_20 : decode cX10_named 20 = .ok (.invokevirtual 112, 3) := by decide +kernel
theorem dX10_named_23 : decode cX10_named 23 = .ok (.iconst 0, 1) := by decide +kernel
theorem dX10_named_24 : decode cX10_named 24 = .ok (.ireturn, 1) := by decide +kernel
theorem dX10_named_25 : decode cX10_named 25 = .ok (.aload_n 0, 1) := by decide +kernel
theorem dX10_named_26 : decode cX10_named 26 = .ok (.aload_n 0, 1) := by decide +kernel
theorem dX10_named_27 : decode cX10_named 27 = .ok (.invokevirtual 74, 3) := by decide +kernel
theorem dX10_named_30 : decode cX10_named 30 = .ok (.bipush 65, 2) := by decide +kernel
theorem dX10_named_32 : decode cX10_named 32 = .ok (.isub, 1) := by decide +kernel
theorem dX10_named_33 : decode cX10_named 33 = .ok (.invokevirtual 122, 3) := by decide +kernel
theorem dX10_named_36 : decode cX10_named 36 = .ok (.istore 5, 2) := by decide +kernel
theorem dX10_named_38 : decode cX10_named 38 = .ok (.iload 5, 2) := by decide +kernel
theorem dX10_named_40 : decode cX10_named 40 = .ok (.iconst (-1), 1) := by decide +kernel
theorem dX10_named_41 : decode cX10_named 41 = .ok (.if_icmp .eq 23, 3) := by decide +kernel
theorem dX10_named_44 : decode cX10_named 44 = .ok (.aload_n 0, 1) := by decide +kernel
theorem dX10_named_45 : decode cX10_named 45 = .ok (.getfield 15, 3) := by decide +kernel
theorem dX10_named_48 : decode cX10_named 48 = .ok (.bipush 113, 2) := by decide +kernel
theorem dX10_named_50 : decode cX10_named 50 = .ok (.iload 5, 2) := by decide +kernel
theorem dX10_named_52 : decode cX10_named 52 = .ok (.imul, 1) := by decide +kernel
theorem dX10_named_53 : decode cX10_named 53 = .ok (.iconst 0, 1) := by decide +kernel
theorem dX10_named_54 : decode cX10_named 54 = .ok (.iadd, 1) := by decide +kernel
theorem dX10_named_55 : decode cX10_named 55 = .ok (.iaload, 1) := by decide +kernel
theorem dX10_named_56 : decode cX10_named 56 = .ok (.iload_n 1, 1) := by decide +kernel
theorem dX10_named_57 : decode cX10_named 57 = .ok (.if_icmp .ne 7, 3) := by decide +kernel
theorem dX10_named_60 : decode cX10_named 60 = .ok (.iconst 1, 1) := by decide +kernel
theorem dX10_named_61 : decode cX10_named 61 = .ok (.goto 4, 3) := by decide +kernel
theorem dX10_named_64 : decode cX10_named 64 = .ok (.iconst 0, 1) := by decide +kernel
theorem dX10_named_65 : decode cX10_named 65 = .ok (.istore 6, 2) := by decide +kernel
theorem dX10_named_67 : decode cX10_named 67 = .ok (.iconst 0, 1) := by decide +kernel
theorem dX10_named_68 : decode cX10_named 68 = .ok (.istore 7, 2) := by decide +kernel
theorem dX10_named_70 : decode cX10_named 70 = .ok (.iload 7, 2) := by decide +kernel
theorem dX10_named_72 : decode cX10_named 72 = .ok (.iload 4, 2) := by decide +kernel
theorem dX10_named_74 : decode cX10_named 74 = .ok (.if_icmp .ge 37, 3) := by decide +kernel
theorem dX10_named_77 : decode cX10_named 77 = .ok (.iload 6, 2) := by decide +kernel
theorem dX10_named_79 : decode cX10_named 79 = .ok (.ifCond .eq 32, 3) := by decide +kernel
theorem dX10_named_82 : decode cX10_named 82 = .ok (.aload_n 0, 1) := by decide +kernel
theorem dX10_named_83 : decode cX10_named 83 = .ok (.getfield 15, 3) := by decide +kernel
theorem dX10_named_86 : decode cX10_named 86 = .ok (.iload_n 2, 1) := by decide +kernel
theorem dX10_named_87 : decode cX10_named 87 = .ok (.iload_n 3, 1) := by decide +kernel
theorem dX10_named_88 : decode cX10_named 88 = .ok (.iload 7, 2) := by decide +kernel
theorem dX10_named_90 : decode cX10_named 90 = .ok (.imul, 1) := by decide +kernel
theorem dX10_named_91 : decode cX10_named 91 = .ok (.iadd, 1) := by decide +kernel
theorem dX10_named_92 : decode cX10_named 92 = .ok (.iaload, 1) := by decide +kernel
theorem dX10_named_93 : decode cX10_named 93 = .ok (.iload 5, 2) := by decide +kernel
theorem dX10_named_95 : decode cX10_named 95 = .ok (.if_icmp .eq 7, 3) := by decide +kernel
theorem dX10_named_98 : decode cX10_named 98 = .ok (.iconst 1, 1) := by decide +kernel
theorem dX10_named_99 : decode cX10_named 99 = .ok (.goto 4, 3) := by decide +kernel
theorem dX10_named_102 : decode cX10_named 102 = .ok (.iconst 0, 1) := by decide +kernel
theorem dX10_named_103 : decode cX10_named 103 = .ok (.istore 6, 2) := by decide +kernel
theorem dX10_named_105 : decode cX10_named 105 = .ok (.iinc 7 1, 3) := by decide +kernel
theorem dX10_named_108 : decode cX10_named 108 = .ok (.goto (-38), 3) := by decide +kernel
theorem dX10_named_111 : decode cX10_named 111 = .ok (.iload 6, 2) := by decide +kernel
theorem dX10_named_113 : decode cX10_named 113 = .ok (.ifCond .ne 15, 3) := by decide +kernel
theorem dX10_named_116 : decode cX10_named 116 = .ok (.aload_n 0, 1) := by decide +kernel
theorem dX10_named_117 : decode cX10_named 117 = .ok (.iconst 2, 1) := by decide +kernel
theorem dX10_named_118 : decode cX10_named 118 = .ok (.aload_n 0, 1) := by decide +kernel
theorem dX10_named_119 : decode cX10_named 119 = .ok (.getfield 71, 3) := by decide +kernel
theorem dX10_named_122 : decode cX10_named 122 = .ok (.invokevirtual 112, 3) := by decide +kernel
theorem dX10_named_125 : decode cX10_named 125 = .ok (.goto 18, 3) := by decide +kernel
theorem dX10_named_128 : decode cX10_named 128 = .ok (.iload 4, 2) := by decide +kernel
theorem dX10_named_130 : decode cX10_named 130 = .ok (.iconst 4, 1) := by decide +kernel
theorem dX10_named_131 : decode cX10_named 131 = .ok (.if_icmp .ne 12, 3) := by decide +kernel
theorem dX10_named_134 : decode cX10_named 134 = .ok (.aload_n 0, 1) := by decide +kernel
theorem dX10_named_135 : decode cX10_named 135 = .ok (.iconst 3, 1) := by decide +kernel
theorem dX10_named_136 : decode cX10_named 136 = .ok (.aload_n 0, 1) := by decide +kernel
theorem dX10_named_137 : decode cX10_named 137 = .ok (.getfield 71, 3) := by decide +kernel
theorem dX10_named_140 : decode cX10_named 140 = .ok (.invokevirtual 112, 3) := by decide +kernel
theorem dX10_named_143 : decode cX10_named 143 = .ok (.aload_n 0, 1) := by decide +kernel
theorem dX10_named_144 : decode cX10_named 144 = .ok (.dup, 1) := by decide +kernel
theorem dX10_named_145 : decode cX10_named 145 = .ok (.getfield 71, 3) := by decide +kernel
