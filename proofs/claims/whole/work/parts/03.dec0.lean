theorem dX0_init_0 : decode cX0_init 0 = .ok (.aload_n 0, 1) := by decide +kernel
theorem dX0_init_1 : decode cX0_init 1 = .ok (.invokespecial 3, 3) := by decide +kernel
theorem dX0_init_4 : decode cX0_init 4 = .ok (.aload_n 0, 1) := by decide +kernel
theorem dX0_init_5 : decode cX0_init 5 = .ok (.sipush 312, 3) := by decide +kernel
theorem dX0_init_8 : decode cX0_init 8 = .ok (.newarray .int, 2) := by decide +kernel
theorem dX0_init_10 : decode cX0_init 10 = .ok (.putfield 9, 3) := by decide +kernel
theorem dX0_init_13 : decode cX0_init 13 = .ok (.aload_n 0, 1) := by decide +kernel
theorem dX0_init_14 : decode cX0_init 14 = .ok (.sipush 312, 3) := by decide +kernel
theorem dX0_init_17 : decode cX0_init 17 = .ok (.newarray .int, 2) := by decide +kernel
theorem dX0_init_19 : decode cX0_init 19 = .ok (.putfield 15, 3) := by decide +kernel
theorem dX0_init_22 : decode cX0_init 22 = .ok (.aload_n 0, 1) := by decide +kernel
theorem dX0_init_23 : decode cX0_init 23 = .ok (.sipush 312, 3) := by decide +kernel
theorem dX0_init_26 : decode cX0_init 26 = .ok (.newarray .int, 2) := by decide +kernel
theorem dX0_init_28 : decode cX0_init 28 = .ok (.putfield 18, 3) := by decide +kernel
theorem dX0_init_31 : decode cX0_init 31 = .ok (.return_, 1) := by decide +kernel
theorem dX0_layAll_0 : decode cX0_layAll 0 = .ok (.aload_n 0, 1) := by decide +kernel
theorem dX0_layAll_1 : decode cX0_layAll 1 = .ok (.getfield 9, 3) := by decide +kernel
theorem dX0_layAll_4 : decode cX0_layAll 4 = .ok (.iconst 0, 1) := by decide +kernel
theorem dX0_layAll_5 : decode cX0_layAll 5 = .ok (.invokestatic 21, 3) := by decide +kernel
theorem dX0_layAll_8 : decode cX0_layAll 8 = .ok (.iconst 0, 1) := by decide +kernel
theorem dX0_layAll_9 : decode cX0_layAll 9 = .ok (.istore_n 2, 1) := by decide +kernel
theorem dX0_layAll_10 : decode cX0_layAll 10 = .ok (.iload_n 2, 1) := by decide +kernel
theorem dX0_layAll_11 : decode cX0_layAll 11 = .ok (.aload_n 1, 1) := by decide +kernel
theorem dX0_layAll_12 : decode cX0_layAll 12 = .ok (.getfield 27, 3) := by decide +kernel
theorem dX0_layAll_15 : decode cX0_layAll 15 = .ok (.if_icmp .ge 56, 3) := by decide +kernel
theorem dX0_layAll_18 : decode cX0_layAll 18 = .ok (.aload_n 0, 1) := by decide +kernel
theorem dX0_layAll_19 : decode cX0_layAll 19 = .ok (.aload_n 1, 1) := by decide +kernel
theorem dX0_layAll_20 : decode cX0_layAll 20 = .ok (.getfield 33, 3) := by decide +kernel
theorem dX0_layAll_23 : decode cX0_layAll 23 = .ok (.iload_n 2, 1) := by decide +kernel
theorem dX0_layAll_24 : decode cX0_layAll 24 = .ok (.aaload, 1) := by decide +kernel
theorem dX0_layAll_25 : decode cX0_layAll 25 = .ok (.iload_n 2, 1) := by decide +kernel
theorem dX0_layAll_26 : decode cX0_layAll 26 = .ok (.invokevirtual 37, 3) := by decide +kernel
theorem dX0_layAll_29 : decode cX0_layAll 29 = .ok (.iconst 0, 1) := by decide +kernel
theorem dX0_layAll_30 : decode cX0_layAll 30 = .ok (.istore_n 3, 1) := by decide +kernel
theorem dX0_layAll_31 : decode cX0_layAll 31 = .ok (.iload_n 3, 1) := by decide +kernel
theorem dX0_layAll_32 : decode cX0_layAll 32 = .ok (.aload_n 1, 1) := by decide +kernel
theorem dX0_layAll_33 : decode cX0_layAll 33 = .ok (.getfield 33, 3) := by decide +kernel
theorem dX0_layAll_36 : decode cX0_layAll 36 = .ok (.iload_n 2, 1) := by decide +kernel
theorem dX0_layAll_37 : decode cX0_layAll 37 = .ok (.aaload, 1) := by decide +kernel
theorem dX0_layAll_38 : decode cX0_layAll 38 = .ok (.getfield 41, 3) := by decide +kernel
theorem dX0_layAll_41 : decode cX0_layAll 41 = .ok (.getfield 47, 3) := by decide +kernel
theorem dX0_layAll_44 : decode cX0_layAll 44 = .ok (.if_icmp .ge 21, 3) := by decide +kernel
theorem dX0_layAll_47 : decode cX0_layAll 47 = .ok (.aload_n 0, 1) := by decide +kernel
theorem dX0_layAll_48 : decode cX0_layAll 48 = .ok (.aload_n 1, 1) := by decide +kernel
theorem dX0_layAll_49 : decode cX0_layAll 49 = .ok (.getfield 33, 3) := by decide +kernel
theorem dX0_layAll_52 : decode cX0_layAll 52 = .ok (.iload_n 2, 1) := by decide +kernel
theorem dX0_layAll_53 : decode cX0_layAll 53 = .ok (.aaload, 1) := by decide +kernel
theorem dX0_layAll_54 : decode cX0_layAll 54 = .ok (.iload_n 2, 1) := by decide +kernel
theorem dX0_layAll_55 : decode cX0_layAll 55 = .ok (.iload_n 3, 1) := by decide +kernel
theorem dX0_layAll_56 : decode cX0_layAll 56 = .ok (.invokevirtual 50, 3) := by decide +kernel
theorem dX0_layAll_59 : decode cX0_layAll 59 = .ok (.iinc 3 1, 3) := by decide +kernel
theorem dX0_layAll_62 : decode cX0_layAll 62 = .ok (.goto (-31), 3) := by decide +kernel
theorem dX0_layAll_65 : decode cX0_layAll 65 = .ok (.iinc 2 1, 3) := by decide +kernel
theorem dX0_layAll_68 : decode cX0_layAll 68 = .ok (.goto (-58), 3) := by decide +kernel
theorem dX0_layAll_71 : decode cX0_layAll 71 = .ok (.return_, 1) := by decide +kernel
theorem dX0_layOwn_0 : decode cX0_layOwn 0 = .ok (.iconst 0, 1) := by decide +kernel
theorem dX0_layOwn_1 : decode cX0_layOwn 1 = .ok (.istore_n 3, 1) := by decide +kernel
theorem dX0_layOwn_2 : decode cX0_layOwn 2 = .ok (.iload_n 3, 1) := by decide +kernel
theorem dX0_layOwn_3 : decode cX0_layOwn 3 = .ok (.bipush 26, 2) := by decide +kernel
theorem dX0_layOwn_5 : decode cX0_layOwn 5 = .ok (.if_icmp .ge 61, 3) := by decide +kernel
theorem dX0_layOwn_8 : decode cX0_layOwn 8 = .ok (.iload_n 2, 1) := by decide +kernel
theorem dX0_layOwn_9 : decode cX0_layOwn 9 = .ok (.bipush 26, 2) := by decide +kernel
theorem dX0_layOwn_11 : decode cX0_layOwn 11 = .ok (.imul, 1) := by decide +kernel
theorem dX0_layOwn_12 : decode cX0_layOwn 12 = .ok (.iload_n 3, 1) := by decide +kernel
theorem dX0_layOwn_13 : decode cX0_layOwn 13 = .ok (.iadd, 1) := by decide +kernel
theorem dX0_layOwn_14 : decode cX0_layOwn 14 = .ok (.istore 4, 2) := by decide +kernel
theorem dX0_layOwn_16 : decode cX0_layOwn 16 = .ok (.aload_n 1, 1) := by decide +kernel
theorem dX0_layOwn_17 : decode cX0_layOwn 17 = .ok (.iload_n 3, 1) := by decide +kernel
theorem dX0_layOwn_18 : decode cX0_layOwn 18 = .ok (.invokevirtual 54, 3) := by decide +kernel
theorem dX0_layOwn_21 : decode cX0_layOwn 21 = .ok (.ifCond .eq 23, 3) := by decide +kernel
theorem dX0_layOwn_24 : decode cX0_layOwn 24 = .ok (.aload_n 0, 1) := by decide +kernel
theorem dX0_layOwn_25 : decode cX0_layOwn 25 = .ok (.getfield 9, 3) := by decide +kernel
theorem dX0_layOwn_28 : decode cX0_layOwn 28 = .ok (.iload 4, 2) := by decide +kernel
theorem dX0_layOwn_30 : decode cX0_layOwn 30 = .ok (.iconst 1, 1) := by decide +kernel
theorem dX0_layOwn_31 : decode cX0_layOwn 31 = .ok (.iastore, 1) := by decide +kernel
theorem dX0_layOwn_32 : decode cX0_layOwn 32 = .ok (.aload_n 0, 1) := by decide +kernel
theorem dX0_layOwn_33 : decode cX0_layOwn 33 = .ok (.getfield 15, 3) := by decide +kernel
theorem dX0_layOwn_36 : decode cX0_layOwn 36 = .ok (.iload 4, 2) := by decide +kernel
theorem dX0_layOwn_38 : decode cX0_layOwn 38 = .ok (.iload 4, 2) := by decide +kernel
theorem dX0_layOwn_40 : decode cX0_layOwn 40 = .ok (.iastore, 1) := by decide +kernel
theorem dX0_layOwn_41 : decode cX0_layOwn 41 = .ok (.goto 19, 3) := by decide +kernel
theorem dX0_layOwn_44 : decode cX0_layOwn 44 = .ok (.aload_n 1, 1) := by decide +kernel
theorem dX0_layOwn_45 : decode cX0_layOwn 45 = .ok (.iload_n 3, 1) := by decide +kernel
theorem dX0_layOwn_46 : decode cX0_layOwn 46 = .ok (.invokevirtual 58, 3) := by decide +kernel
theorem dX0_layOwn_49 : decode cX0_layOwn 49 = .ok (.ifCond .eq 11, 3) := by decide +kernel
theorem dX0_layOwn_52 : decode cX0_layOwn 52 = .ok (.aload_n 0, 1) := by decide +kernel
theorem dX0_layOwn_53 : decode cX0_layOwn 53 = .ok (.getfield 9, 3) := by decide +kernel
theorem dX0_layOwn_56 : decode cX0_layOwn 56 = .ok (.iload 4, 2) := by decide +kernel
theorem dX0_layOwn_58 : decode cX0_layOwn 58 = .ok (.iconst 2, 1) := by decide +kernel
theorem dX0_layOwn_59 : decode cX0_layOwn 59 = .ok (.iastore, 1) := by decide +kernel
theorem dX0_layOwn_60 : decode cX0_layOwn 60 = .ok (.iinc 3 1, 3) := by decide +kernel
theorem dX0_layOwn_63 : decode cX0_layOwn 63 = .ok (.goto (-61), 3) := by decide +kernel
theorem dX0_layOwn_66 : decode cX0_layOwn 66 = .ok (.return_, 1) := by decide +kernel
theorem dX0_layTrait_0 : decode cX0_layTrait 0 = .ok (.aload_n 1, 1) := by decide +kernel
theorem dX0_layTrait_1 : decode cX0_layTrait 1 = .ok (.getfield 41, 3) := by decide +kernel
theorem dX0_layTrait_4 : decode cX0_layTrait 4 = .ok (.iload_n 3, 1) := by decide +kernel
theorem dX0_layTrait_5 : decode cX0_layTrait 5 = .ok (.invokevirtual 61, 3) := by decide +kernel
theorem dX0_layTrait_8 : decode cX0_layTrait 8 = .ok (.istore 4, 2) := by decide +kernel
theorem dX0_layTrait_10 : decode cX0_layTrait 10 = .ok (.iconst 0, 1) := by decide +kernel
theorem dX0_layTrait_11 : decode cX0_layTrait 11 = .ok (.istore 5, 2) := by decide +kernel
theorem dX0_layTrait_13 : decode cX0_layTrait 13 = .ok (.iload 5, 2) := by decide +kernel
theorem dX0_layTrait_15 : decode cX0_layTrait 15 = .ok (.bipush 26, 2) := by decide +kernel
theorem dX0_layTrait_17 : decode cX0_layTrait 17 = .ok (.if_icmp .ge 52, 3) := by decide +kernel
theorem dX0_layTrait_20 : decode cX0_layTrait 20 = .ok (.aload_n 1, 1) := by decide +kernel
theorem dX0_layTrait_21 : decode cX0_layTrait 21 = .ok (.iload_n 3, 1) := by decide +kernel
theorem dX0_layTrait_22 : decode cX0_layTrait 22 = .ok (.iload 5, 2) := by decide +kernel
theorem dX0_layTrait_24 : decode cX0_layTrait 24 = .ok (.invokevirtual 65, 3) := by decide +kernel
theorem dX0_layTrait_27 : decode cX0_layTrait 27 = .ok (.istore 6, 2) := by decide +kernel
theorem dX0_layTrait_29 : decode cX0_layTrait 29 = .ok (.iload 6, 2) := by decide +kernel
theorem dX0_layTrait_31 : decode cX0_layTrait 31 = .ok (.iconst (-1), 1) := by decide +kernel
theorem dX0_layTrait_32 : decode cX0_layTrait 32 = .ok (.if_icmp .eq 31, 3) := by decide +kernel
theorem dX0_layTrait_35 : decode cX0_layTrait 35 = .ok (.aload_n 1, 1) := by decide +kernel
theorem dX0_layTrait_36 : decode cX0_layTrait 36 = .ok (.iload 6, 2) := by decide +kernel
theorem dX0_layTrait_38 : decode cX0_layTrait 38 = .ok (.invokevirtual 54, 3) := by decide +kernel
theorem dX0_layTrait_41 : decode cX0_layTrait 41 = .ok (.ifCond .ne 22, 3) := by decide +kernel
theorem dX0_layTrait_44 : decode cX0_layTrait 44 = .ok (.aload_n 0, 1) := by decide +kernel
theorem dX0_layTrait_45 : decode cX0_layTrait 45 = .ok (.iload 4, 2) := by decide +kernel
theorem dX0_layTrait_47 : decode cX0_layTrait 47 = .ok (.bipush 26, 2) := by decide +kernel
theorem dX0_layTrait_49 : decode cX0_layTrait 49 = .ok (.imul, 1) := by decide +kernel
theorem dX0_layTrait_50 : decode cX0_layTrait 50 = .ok (.iload 5, 2) := by decide +kernel
theorem dX0_layTrait_52 : decode cX0_layTrait 52 = .ok (.iadd, 1) := by decide +kernel
theorem dX0_layTrait_53 : decode cX0_layTrait 53 = .ok (.iload_n 2, 1) := by decide +kernel
theorem dX0_layTrait_54 : decode cX0_layTrait 54 = .ok (.bipush 26, 2) := by decide +kernel
theorem dX0_layTrait_56 : decode cX0_layTrait 56 = .ok (.imul, 1) := by decide +kernel
theorem dX0_layTrait_57 : decode cX0_layTrait 57 = .ok (.iload 6, 2) := by decide +kernel
theorem dX0_layTrait_59 : decode cX0_layTrait 59 = .ok (.iadd, 1) := by decide +kernel
theorem dX0_layTrait_60 : decode cX0_layTrait 60 = .ok (.invokevirtual 69, 3) := by decide +kernel
theorem dX0_layTrait_63 : decode cX0_layTrait 63 = .ok (.iinc 5 1, 3) := by decide +kernel
theorem dX0_layTrait_66 : decode cX0_layTrait 66 = .ok (.goto (-53), 3) := by decide +kernel
theorem dX0_layTrait_69 : decode cX0_layTrait 69 = .ok (.return_, 1) := by decide +kernel
theorem dX0_layOver_0 : decode cX0_layOver 0 = .ok (.aload_n 0, 1) := by decide +kernel
theorem dX0_layOver_1 : decode cX0_layOver 1 = .ok (.getfield 9, 3) := by decide +kernel
theorem dX0_layOver_4 : decode cX0_layOver 4 = .ok (.iload_n 1, 1) := by decide +kernel
theorem dX0_layOver_5 : decode cX0_layOver 5 = .ok (.iaload, 1) := by decide +kernel
theorem dX0_layOver_6 : decode cX0_layOver 6 = .ok (.istore_n 3, 1) := by decide +kernel
theorem dX0_layOver_7 : decode cX0_layOver 7 = .ok (.iload_n 3, 1) := by decide +kernel
theorem dX0_layOver_8 : decode cX0_layOver 8 = .ok (.iconst 2, 1) := by decide +kernel
theorem dX0_layOver_9 : decode cX0_layOver 9 = .ok (.if_icmp .ne 19, 3) := by decide +kernel
theorem dX0_layOver_12 : decode cX0_layOver 12 = .ok (.aload_n 0, 1) := by decide +kernel
theorem dX0_layOver_13 : decode cX0_layOver 13 = .ok (.getfield 9, 3) := by decide +kernel
theorem dX0_layOver_16 : decode cX0_layOver 16 = .ok (.iload_n 2, 1) := by decide +kernel
theorem dX0_layOver_17 : decode cX0_layOver 17 = .ok (.iaload, 1) := by decide +kernel
theorem dX0_layOver_18 : decode cX0_layOver 18 = .ok (.ifCond .ne 10, 3) := by decide +kernel
theorem dX0_layOver_21 : decode cX0_layOver 21 = .ok (.aload_n 0, 1) := by decide +kernel
theorem dX0_layOver_22 : decode cX0_layOver 22 = .ok (.getfield 9, 3) := by decide +kernel
theorem dX0_layOver_25 : decode cX0_layOver 25 = .ok (.iload_n 2, 1) := by decide +kernel
theorem dX0_layOver_26 : decode cX0_layOver 26 = .ok (.iconst 2, 1) := by decide +kernel
theorem dX0_layOver_27 : decode cX0_layOver 27 = .ok (.iastore, 1) := by decide +kernel
theorem dX0_layOver_28 : decode cX0_layOver 28 = .ok (.iload_n 3, 1) := by decide +kernel
theorem dX0_layOver_29 : decode cX0_layOver 29 = .ok (.iconst 1, 1) := by decide +kernel
theorem dX0_layOver_30 : decode cX0_layOver 30 = .ok (.if_icmp .eq 8, 3) := by decide +kernel
theorem dX0_layOver_33 : decode cX0_layOver 33 = .ok (.iload_n 3, 1) := by decide +kernel
theorem dX0_layOver_34 : decode cX0_layOver 34 = .ok (.iconst 3, 1) := by decide +kernel
theorem dX0_layOver_35 : decode cX0_layOver 35 = .ok (.if_icmp .ne 14, 3) := by decide +kernel
theorem dX0_layOver_38 : decode cX0_layOver 38 = .ok (.aload_n 0, 1) := by decide +kernel
theorem dX0_layOver_39 : decode cX0_layOver 39 = .ok (.iload_n 2, 1) := by decide +kernel
theorem dX0_layOver_40 : decode cX0_layOver 40 = .ok (.aload_n 0, 1) := by decide +kernel
theorem dX0_layOver_41 : decode cX0_layOver 41 = .ok (.getfield 15, 3) := by decide +kernel
theorem dX0_layOver_44 : decode cX0_layOver 44 = .ok (.iload_n 1, 1) := by decide +kernel
theorem dX0_layOver_45 : decode cX0_layOver 45 = .ok (.iaload, 1) := by decide +kernel
theorem dX0_layOver_46 : decode cX0_layOver 46 = .ok (.invokevirtual 73, 3) := by decide +kernel
theorem dX0_layOver_49 : decode cX0_layOver 49 = .ok (.iload_n 3, 1) := by decide +kernel
theorem dX0_layOver_50 : decode cX0_layOver 50 = .ok (.iconst 3, 1) := by decide +kernel
theorem dX0_layOver_51 : decode cX0_layOver 51 = .ok (.if_icmp .ne 14, 3) := by decide +kernel
theorem dX0_layOver_54 : decode cX0_layOver 54 = .ok (.aload_n 0, 1) := by decide +kernel
theorem dX0_layOver_55 : decode cX0_layOver 55 = .ok (.iload_n 2, 1) := by decide +kernel
theorem dX0_layOver_56 : decode cX0_layOver 56 = .ok (.aload_n 0, 1) := by decide +kernel
theorem dX0_layOver_57 : decode cX0_layOver 57 = .ok (.getfield 18, 3) := by decide +kernel
theorem dX0_layOver_60 : decode cX0_layOver 60 = .ok (.iload_n 1, 1) := by decide +kernel
theorem dX0_layOver_61 : decode cX0_layOver 61 = .ok (.iaload, 1) := by decide +kernel
theorem dX0_layOver_62 : decode cX0_layOver 62 = .ok (.invokevirtual 73, 3) := by decide +kernel
theorem dX0_layOver_65 : decode cX0_layOver 65 = .ok (.return_, 1) := by decide +kernel
theorem dX0_addSource_0 : decode cX0_addSource 0 = .ok (.aload_n 0, 1) := by decide +kernel
theorem dX0_addSource_1 : decode cX0_addSource 1 = .ok (.getfield 9, 3) := by decide +kernel
theorem dX0_addSource_4 : decode cX0_addSource 4 = .ok (.iload_n 1, 1) := by decide +kernel
theorem dX0_addSource_5 : decode cX0_addSource 5 = .ok (.iaload, 1) := by decide +kernel
theorem dX0_addSource_6 : decode cX0_addSource 6 = .ok (.ifCond .eq 13, 3) := by decide +kernel
theorem dX0_addSource_9 : decode cX0_addSource 9 = .ok (.aload_n 0, 1) := by decide +kernel
theorem dX0_addSource_10 : decode cX0_addSource 10 = .ok (.getfield 9, 3) := by decide +kernel
theorem dX0_addSource_13 : decode cX0_addSource 13 = .ok (.iload_n 1, 1) := by decide +kernel
theorem dX0_addSource_14 : decode cX0_addSource 14 = .ok (.iaload, 1) := by decide +kernel
theorem dX0_addSource_15 : decode cX0_addSource 15 = .ok (.iconst 2, 1) := by decide +kernel
theorem dX0_addSource_16 : decode cX0_addSource 16 = .ok (.if_icmp .ne 20, 3) := by decide +kernel
theorem dX0_addSource_19 : decode cX0_addSource 19 = .ok (.aload_n 0, 1) := by decide +kernel
theorem dX0_addSource_20 : decode cX0_addSource 20 = .ok (.getfield 9, 3) := by decide +kernel
theorem dX0_addSource_23 : decode cX0_addSource 23 = .ok (.iload_n 1, 1) := by decide +kernel
theorem dX0_addSource_24 : decode cX0_addSource 24 = .ok (.iconst 1, 1) := by decide +kernel
theorem dX0_addSource_25 : decode cX0_addSource 25 = .ok (.iastore, 1) := by decide +kernel
theorem dX0_addSource_26 : decode cX0_addSource 26 = .ok (.aload_n 0, 1) := by decide +kernel
theorem dX0_addSource_27 : decode cX0_addSource 27 = .ok (.getfield 15, 3) := by decide +kernel
theorem dX0_addSource_30 : decode cX0_addSource 30 = .ok (.iload_n 1, 1) := by decide +kernel
theorem dX0_addSource_31 : decode cX0_addSource 31 = .ok (.iload_n 2, 1) := by decide +kernel
theorem dX0_addSource_32 : decode cX0_addSource 32 = .ok (.iastore, 1) := by decide +kernel
theorem dX0_addSource_33 : decode cX0_addSource 33 = .ok (.goto 37, 3) := by decide +kernel
theorem dX0_addSource_36 : decode cX0_addSource 36 = .ok (.aload_n 0, 1) := by decide +kernel
theorem dX0_addSource_37 : decode cX0_addSource 37 = .ok (.getfield 9, 3) := by decide +kernel
theorem dX0_addSource_40 : decode cX0_addSource 40 = .ok (.iload_n 1, 1) := by decide +kernel
theorem dX0_addSource_41 : decode cX0_addSource 41 = .ok (.iaload, 1) := by decide +kernel
theorem dX0_addSource_42 : decode cX0_addSource 42 = .ok (.iconst 1, 1) := by decide +kernel
theorem dX0_addSource_43 : decode cX0_addSource 43 = .ok (.if_icmp .ne 27, 3) := by decide +kernel
theorem dX0_addSource_46 : decode cX0_addSource 46 = .ok (.aload_n 0, 1) := by decide +kernel
theorem dX0_addSource_47 : decode cX0_addSource 47 = .ok (.getfield 15, 3) := by decide +kernel
theorem dX0_addSource_50 : decode cX0_addSource 50 = .ok (.iload_n 1, 1) := by decide +kernel
theorem dX0_addSource_51 : decode cX0_addSource 51 = .ok (.iaload, 1) := by decide +kernel
theorem dX0_addSource_52 : decode cX0_addSource 52 = .ok (.iload_n 2, 1) := by decide +kernel
theorem dX0_addSource_53 : decode cX0_addSource 53 = .ok (.if_icmp .eq 17, 3) := by decide +kernel
theorem dX0_addSource_56 : decode cX0_addSource 56 = .ok (.aload_n 0, 1) := by decide +kernel
theorem dX0_addSource_57 : decode cX0_addSource 57 = .ok (.getfield 9, 3) := by decide +kernel
theorem dX0_addSource_60 : decode cX0_addSource 60 = .ok (.iload_n 1, 1) := by decide +kernel
theorem dX0_addSource_61 : decode cX0_addSource 61 = .ok (.iconst 3, 1) := by decide +kernel
theorem dX0_addSource_62 : decode cX0_addSource 62 = .ok (.iastore, 1) := by decide +kernel
theorem dX0_addSource_63 : decode cX0_addSource 63 = .ok (.aload_n 0, 1) := by decide +kernel
theorem dX0_addSource_64 : decode cX0_addSource 64 = .ok (.getfield 18, 3) := by decide +kernel
theorem dX0_addSource_67 : decode cX0_addSource 67 = .ok (.iload_n 1, 1) := by decide +kernel
theorem dX0_addSource_68 : decode cX0_addSource 68 = .ok (.iload_n 2, 1) := by decide +kernel
theorem dX0_addSource_69 : decode cX0_addSource 69 = .ok (.iastore, 1) := by decide +kernel
theorem dX0_addSource_70 : decode cX0_addSource 70 = .ok (.return_, 1) := by decide +kernel
theorem dX0_kindOf_0 : decode cX0_kindOf 0 = .ok (.aload_n 0, 1) := by decide +kernel
theorem dX0_kindOf_1 : decode cX0_kindOf 1 = .ok (.getfield 9, 3) := by decide +kernel
theorem dX0_kindOf_4 : decode cX0_kindOf 4 = .ok (.iload_n 1, 1) := by decide +kernel
theorem dX0_kindOf_5 : decode cX0_kindOf 5 = .ok (.bipush 26, 2) := by decide +kernel
theorem dX0_kindOf_7 : decode cX0_kindOf 7 = .ok (.imul, 1) := by decide +kernel
theorem dX0_kindOf_8 : decode cX0_kindOf 8 = .ok (.iload_n 2, 1) := by decide +kernel
theorem dX0_kindOf_9 : decode cX0_kindOf 9 = .ok (.iadd, 1) := by decide +kernel
theorem dX0_kindOf_10 : decode cX0_kindOf 10 = .ok (.iaload, 1) := by decide +kernel
theorem dX0_kindOf_11 : decode cX0_kindOf 11 = .ok (.ireturn, 1) := by decide +kernel
theorem dX0_firstSource_0 : decode cX0_firstSource 0 = .ok (.aload_n 0, 1) := by decide +kernel
theorem dX0_firstSource_1 : decode cX0_firstSource 1 = .ok (.getfield 15, 3) := by decide +kernel
theorem dX0_firstSource_4 : decode cX0_firstSource 4 = .ok (.iload_n 1, 1) := by decide +kernel
theorem dX0_firstSource_5 : decode cX0_firstSource 5 = .ok (.bipush 26, 2) := by decide +kernel
theorem dX0_firstSource_7 : decode cX0_firstSource 7 = .ok (.imul, 1) := by decide +kernel
theorem dX0_firstSource_8 : decode cX0_firstSource 8 = .ok (.iload_n 2, 1) := by decide +kernel
theorem dX0_firstSource_9 : decode cX0_firstSource 9 = .ok (.iadd, 1) := by decide +kernel
theorem dX0_firstSource_10 : decode cX0_firstSource 10 = .ok (.iaload, 1) := by decide +kernel
theorem dX0_firstSource_11 : decode cX0_firstSource 11 = .ok (.ireturn, 1) := by decide +kernel
theorem dX0_secondSource_0 : decode cX0_secondSource 0 = .ok (.aload_n 0, 1) := by decide +kernel
theorem dX0_secondSource_1 : decode cX0_secondSource 1 = .ok (.getfield 18, 3) := by decide +kernel
theorem dX0_secondSource_4 : decode cX0_secondSource 4 = .ok (.iload_n 1, 1) := by decide +kernel
theorem dX0_secondSource_5 : decode cX0_secondSource 5 = .ok (.bipush 26, 2) := by decide +kernel
theorem dX0_secondSource_7 : decode cX0_secondSource 7 = .ok (.imul, 1) := by decide +kernel
theorem dX0_secondSource_8 : decode cX0_secondSource 8 = .ok (.iload_n 2, 1) := by decide +kernel
theorem dX0_secondSource_9 : decode cX0_secondSource 9 = .ok (.iadd, 1) := by decide +kernel
theorem dX0_secondSource_10 : decode cX0_secondSource 10 = .ok (.iaload, 1) := by decide +kernel
theorem dX0_secondSource_11 : decode cX0_secondSource 11 = .ok (.ireturn, 1) := by decide +kernel
theorem dX0_bitsOf_0 : decode cX0_bitsOf 0 = .ok (.iconst 0, 1) := by decide +kernel
theorem dX0_bitsOf_1 : decode cX0_bitsOf 1 = .ok (.istore_n 3, 1) := by decide +kernel
theorem dX0_bitsOf_2 : decode cX0_bitsOf 2 = .ok (.iconst 0, 1) := by decide +kernel
theorem dX0_bitsOf_3 : decode cX0_bitsOf 3 = .ok (.istore 4, 2) := by decide +kernel
theorem dX0_bitsOf_5 : decode cX0_bitsOf 5 = .ok (.iload 4, 2) := by decide +kernel
theorem dX0_bitsOf_7 : decode cX0_bitsOf 7 = .ok (.bipush 26, 2) := by decide +kernel
theorem dX0_bitsOf_9 : decode cX0_bitsOf 9 = .ok (.if_icmp .ge 27, 3) := by decide +kernel
theorem dX0_bitsOf_12 : decode cX0_bitsOf 12 = .ok (.aload_n 0, 1) := by decide +kernel
theorem dX0_bitsOf_13 : decode cX0_bitsOf 13 = .ok (.iload_n 1, 1) := by decide +kernel
theorem dX0_bitsOf_14 : decode cX0_bitsOf 14 = .ok (.iload 4, 2) := by decide +kernel
theorem dX0_bitsOf_16 : decode cX0_bitsOf 16 = .ok (.invokevirtual 76, 3) := by decide +kernel
theorem dX0_bitsOf_19 : decode cX0_bitsOf 19 = .ok (.iload_n 2, 1) := by decide +kernel
theorem dX0_bitsOf_20 : decode cX0_bitsOf 20 = .ok (.if_icmp .ne 10, 3) := by decide +kernel
theorem dX0_bitsOf_23 : decode cX0_bitsOf 23 = .ok (.iload_n 3, 1) := by decide +kernel
theorem dX0_bitsOf_24 : decode cX0_bitsOf 24 = .ok (.iconst 1, 1) := by decide +kernel
theorem dX0_bitsOf_25 : decode cX0_bitsOf 25 = .ok (.iload 4, 2) := by decide +kernel
theorem dX0_bitsOf_27 : decode cX0_bitsOf 27 = .ok (.ishl, 1) := by decide +kernel
theorem dX0_bitsOf_28 : decode cX0_bitsOf 28 = .ok (.ior, 1) := by decide +kernel
theorem dX0_bitsOf_29 : decode cX0_bitsOf 29 = .ok (.istore_n 3, 1) := by decide +kernel
theorem dX0_bitsOf_30 : decode cX0_bitsOf 30 = .ok (.iinc 4 1, 3) := by decide +kernel
theorem dX0_bitsOf_33 : decode cX0_bitsOf 33 = .ok (.goto (-28), 3) := by decide +kernel
theorem dX0_bitsOf_36 : decode cX0_bitsOf 36 = .ok (.iload_n 3, 1) := by decide +kernel
theorem dX0_bitsOf_37 : decode cX0_bitsOf 37 = .ok (.ireturn, 1) := by decide +kernel
theorem dX0_bitsOfAll_0 : decode cX0_bitsOfAll 0 = .ok (.aload_n 0, 1) := by decide +kernel
theorem dX0_bitsOfAll_1 : decode cX0_bitsOfAll 1 = .ok (.iload_n 1, 1) := by decide +kernel
theorem dX0_bitsOfAll_2 : decode cX0_bitsOfAll 2 = .ok (.iconst 1, 1) := by decide +kernel
theorem dX0_bitsOfAll_3 : decode cX0_bitsOfAll 3 = .ok (.invokevirtual 79, 3) := by decide +kernel
theorem dX0_bitsOfAll_6 : decode cX0_bitsOfAll 6 = .ok (.aload_n 0, 1) := by decide +kernel
theorem dX0_bitsOfAll_7 : decode cX0_bitsOfAll 7 = .ok (.iload_n 1, 1) := by decide +kernel
theorem dX0_bitsOfAll_8 : decode cX0_bitsOfAll 8 = .ok (.iconst 2, 1) := by decide +kernel
theorem dX0_bitsOfAll_9 : decode cX0_bitsOfAll 9 = .ok (.invokevirtual 79, 3) := by decide +kernel
theorem dX0_bitsOfAll_12 : decode cX0_bitsOfAll 12 = .ok (.ior, 1) := by decide +kernel
theorem dX0_bitsOfAll_13 : decode cX0_bitsOfAll 13 = .ok (.aload_n 0, 1) := by decide +kernel
theorem dX0_bitsOfAll_14 : decode cX0_bitsOfAll 14 = .ok (.iload_n 1, 1) := by decide +kernel
theorem dX0_bitsOfAll_15 : decode cX0_bitsOfAll 15 = .ok (.iconst 3, 1) := by decide +kernel
theorem dX0_bitsOfAll_16 : decode cX0_bitsOfAll 16 = .ok (.invokevirtual 79, 3) := by decide +kernel
theorem dX0_bitsOfAll_19 : decode cX0_bitsOfAll 19 = .ok (.ior, 1) := by decide +kernel
theorem dX0_bitsOfAll_20 : decode cX0_bitsOfAll 20 = .ok (.ireturn, 1) := by decide +kernel
theorem dX1_init_0 : decode cX1_init 0 = .ok (.aload_n 0, 1) := by decide +kernel
theorem dX1_init_1 : decode cX1_init 1 = .ok (.invokespecial 3, 3) := by decide +kernel
theorem dX1_init_4 : decode cX1_init 4 = .ok (.aload_n 0, 1) := by decide +kernel
theorem dX1_init_5 : decode cX1_init 5 = .ok (.bipush 10, 2) := by decide +kernel
theorem dX1_init_7 : decode cX1_init 7 = .ok (.anewarray 9, 3) := by decide +kernel
theorem dX1_init_10 : decode cX1_init 10 = .ok (.putfield 11, 3) := by decide +kernel
theorem dX1_init_13 : decode cX1_init 13 = .ok (.aload_n 0, 1) := by decide +kernel
theorem dX1_init_14 : decode cX1_init 14 = .ok (.bipush 10, 2) := by decide +kernel
theorem dX1_init_16 : decode cX1_init 16 = .ok (.newarray .int, 2) := by decide +kernel
theorem dX1_init_18 : decode cX1_init 18 = .ok (.putfield 17, 3) := by decide +kernel
theorem dX1_init_21 : decode cX1_init 21 = .ok (.iconst 0, 1) := by decide +kernel
theorem dX1_init_22 : decode cX1_init 22 = .ok (.istore_n 1, 1) := by decide +kernel
theorem dX1_init_23 : decode cX1_init 23 = .ok (.iload_n 1, 1) := by decide +kernel
theorem dX1_init_24 : decode cX1_init 24 = .ok (.bipush 10, 2) := by decide +kernel
theorem dX1_init_26 : decode cX1_init 26 = .ok (.if_icmp .ge 22, 3) := by decide +kernel
theorem dX1_init_29 : decode cX1_init 29 = .ok (.aload_n 0, 1) := by decide +kernel
theorem dX1_init_30 : decode cX1_init 30 = .ok (.getfield 11, 3) := by decide +kernel
theorem dX1_init_33 : decode cX1_init 33 = .ok (.iload_n 1, 1) := by decide +kernel
theorem dX1_init_34 : decode cX1_init 34 = .ok (.new 9, 3) := by decide +kernel
theorem dX1_init_37 : decode cX1_init 37 = .ok (.dup, 1) := by decide +kernel
theorem dX1_init_38 : decode cX1_init 38 = .ok (.invokespecial 21, 3) := by decide +kernel
theorem dX1_init_41 : decode cX1_init 41 = .ok (.aastore, 1) := by decide +kernel
theorem dX1_init_42 : decode cX1_init 42 = .ok (.iinc 1 1, 3) := by decide +kernel
theorem dX1_init_45 : decode cX1_init 45 = .ok (.goto (-22), 3) := by decide +kernel
theorem dX1_init_48 : decode cX1_init 48 = .ok (.return_, 1) := by decide +kernel
theorem dX1_forgetAll_0 : decode cX1_forgetAll 0 = .ok (.aload_n 0, 1) := by decide +kernel
theorem dX1_forgetAll_1 : decode cX1_forgetAll 1 = .ok (.iconst 0, 1) := by decide +kernel
theorem dX1_forgetAll_2 : decode cX1_forgetAll 2 = .ok (.putfield 22, 3) := by decide +kernel
theorem dX1_forgetAll_5 : decode cX1_forgetAll 5 = .ok (.return_, 1) := by decide +kernel
theorem dX1_record_0 : decode cX1_record 0 = .ok (.aload_n 0, 1) := by decide +kernel
theorem dX1_record_1 : decode cX1_record 1 = .ok (.getfield 11, 3) := by decide +kernel
theorem dX1_record_4 : decode cX1_record 4 = .ok (.aload_n 0, 1) := by decide +kernel
theorem dX1_record_5 : decode cX1_record 5 = .ok (.getfield 26, 3) := by decide +kernel
theorem dX1_record_8 : decode cX1_record 8 = .ok (.aaload, 1) := by decide +kernel
theorem dX1_record_9 : decode cX1_record 9 = .ok (.aload_n 2, 1) := by decide +kernel
theorem dX1_record_10 : decode cX1_record 10 = .ok (.invokevirtual 29, 3) := by decide +kernel
theorem dX1_record_13 : decode cX1_record 13 = .ok (.aload_n 0, 1) := by decide +kernel
theorem dX1_record_14 : decode cX1_record 14 = .ok (.getfield 17, 3) := by decide +kernel
theorem dX1_record_17 : decode cX1_record 17 = .ok (.aload_n 0, 1) := by decide +kernel
theorem dX1_record_18 : decode cX1_record 18 = .ok (.getfield 26, 3) := by decide +kernel
theorem dX1_record_21 : decode cX1_record 21 = .ok (.iload_n 1, 1) := by decide +kernel
theorem dX1_record_22 : decode cX1_record 22 = .ok (.iastore, 1) := by decide +kernel
theorem dX1_record_23 : decode cX1_record 23 = .ok (.aload_n 0, 1) := by decide +kernel
theorem dX1_record_24 : decode cX1_record 24 = .ok (.aload_n 0, 1) := by decide +kernel
theorem dX1_record_25 : decode cX1_record 25 = .ok (.getfield 26, 3) := by decide +kernel
theorem dX1_record_28 : decode cX1_record 28 = .ok (.iconst 1, 1) := by decide +kernel
theorem dX1_record_29 : decode cX1_record 29 = .ok (.iadd, 1) := by decide +kernel
theorem dX1_record_30 : decode cX1_record 30 = .ok (.bipush 10, 2) := by decide +kernel
theorem dX1_record_32 : decode cX1_record 32 = .ok (.irem, 1) := by decide +kernel
theorem dX1_record_33 : decode cX1_record 33 = .ok (.putfield 26, 3) := by decide +kernel
theorem dX1_record_36 : decode cX1_record 36 = .ok (.aload_n 0, 1) := by decide +kernel
theorem dX1_record_37 : decode cX1_record 37 = .ok (.aload_n 0, 1) := by decide +kernel
theorem dX1_record_38 : decode cX1_record 38 = .ok (.getfield 22, 3) := by decide +kernel
theorem dX1_record_41 : decode cX1_record 41 = .ok (.iconst 1, 1) := by decide +kernel
theorem dX1_record_42 : decode cX1_record 42 = .ok (.iadd, 1) := by decide +kernel
theorem dX1_record_43 : decode cX1_record 43 = .ok (.bipush 10, 2) := by decide +kernel
theorem dX1_record_45 : decode cX1_record 45 = .ok (.invokestatic 33, 3) := by decide +kernel
theorem dX1_record_48 : decode cX1_record 48 = .ok (.putfield 22, 3) := by decide +kernel
theorem dX1_record_51 : decode cX1_record 51 = .ok (.return_, 1) := by decide +kernel
theorem dX1_restoreLast_0 : decode cX1_restoreLast 0 = .ok (.aload_n 0, 1) := by decide +kernel
theorem dX1_restoreLast_1 : decode cX1_restoreLast 1 = .ok (.aload_n 0, 1) := by decide +kernel
theorem dX1_restoreLast_2 : decode cX1_restoreLast 2 = .ok (.getfield 26, 3) := by decide +kernel
theorem dX1_restoreLast_5 : decode cX1_restoreLast 5 = .ok (.bipush 10, 2) := by decide +kernel
theorem dX1_restoreLast_7 : decode cX1_restoreLast 7 = .ok (.iadd, 1) := by decide +kernel
theorem dX1_restoreLast_8 : decode cX1_restoreLast 8 = .ok (.iconst 1, 1) := by decide +kernel
theorem dX1_restoreLast_9 : decode cX1_restoreLast 9 = .ok (.isub, 1) := by decide +kernel
theorem dX1_restoreLast_10 : decode cX1_restoreLast 10 = .ok (.bipush 10, 2) := by decide +kernel
theorem dX1_restoreLast_12 : decode cX1_restoreLast 12 = .ok (.irem, 1) := by decide +kernel
theorem dX1_restoreLast_13 : decode cX1_restoreLast 13 = .ok (.putfield 26, 3) := by decide +kernel
theorem dX1_restoreLast_16 : decode cX1_restoreLast 16 = .ok (.aload_n 0, 1) := by decide +kernel
theorem dX1_restoreLast_17 : decode cX1_restoreLast 17 = .ok (.dup, 1) := by decide +kernel
theorem dX1_restoreLast_18 : decode cX1_restoreLast 18 = .ok (.getfield 22, 3) := by decide +kernel
theorem dX1_restoreLast_21 : decode cX1_restoreLast 21 = .ok (.iconst 1, 1) := by decide +kernel
theorem dX1_restoreLast_22 : decode cX1_restoreLast 22 = .ok (.isub, 1) := by decide +kernel
theorem dX1_restoreLast_23 : decode cX1_restoreLast 23 = .ok (.putfield 22, 3) := by decide +kernel
theorem dX1_restoreLast_26 : decode cX1_restoreLast 26 = .ok (.aload_n 1, 1) := by decide +kernel
theorem dX1_restoreLast_27 : decode cX1_restoreLast 27 = .ok (.getfield 39, 3) := by decide +kernel
theorem dX1_restoreLast_30 : decode cX1_restoreLast 30 = .ok (.aload_n 0, 1) := by decide +kernel
theorem dX1_restoreLast_31 : decode cX1_restoreLast 31 = .ok (.getfield 17, 3) := by decide +kernel
theorem dX1_restoreLast_34 : decode cX1_restoreLast 34 = .ok (.aload_n 0, 1) := by decide +kernel
theorem dX1_restoreLast_35 : decode cX1_restoreLast 35 = .ok (.getfield 26, 3) := by decide +kernel
theorem dX1_restoreLast_38 : decode cX1_restoreLast 38 = .ok (.iaload, 1) := by decide +kernel
theorem dX1_restoreLast_39 : decode cX1_restoreLast 39 = .ok (.aaload, 1) := by decide +kernel
theorem dX1_restoreLast_40 : decode cX1_restoreLast 40 = .ok (.aload_n 0, 1) := by decide +kernel
theorem dX1_restoreLast_41 : decode cX1_restoreLast 41 = .ok (.getfield 11, 3) := by decide +kernel
theorem dX1_restoreLast_44 : decode cX1_restoreLast 44 = .ok (.aload_n 0, 1) := by decide +kernel
theorem dX1_restoreLast_45 : decode cX1_restoreLast 45 = .ok (.getfield 26, 3) := by decide +kernel
theorem dX1_restoreLast_48 : decode cX1_restoreLast 48 = .ok (.aaload, 1) := by decide +kernel
theorem dX1_restoreLast_49 : decode cX1_restoreLast 49 = .ok (.invokevirtual 29, 3) := by decide +kernel
theorem dX1_restoreLast_52 : decode cX1_restoreLast 52 = .ok (.return_, 1) := by decide +kernel
theorem dX2_init_0 : decode cX2_init 0 = .ok (.aload_n 0, 1) := by decide +kernel
theorem dX2_init_1 : decode cX2_init 1 = .ok (.invokespecial 3, 3) := by decide +kernel
theorem dX2_init_4 : decode cX2_init 4 = .ok (.aload_n 0, 1) := by decide +kernel
theorem dX2_init_5 : decode cX2_init 5 = .ok (.bipush 12, 2) := by decide +kernel
theorem dX2_init_7 : decode cX2_init 7 = .ok (.bipush 12, 2) := by decide +kernel
theorem dX2_init_9 : decode cX2_init 9 = .ok (.multianewarray 9 2, 4) := by decide +kernel
theorem dX2_init_13 : decode cX2_init 13 = .ok (.putfield 11, 3) := by decide +kernel
theorem dX2_init_16 : decode cX2_init 16 = .ok (.aload_n 0, 1) := by decide +kernel
theorem dX2_init_17 : decode cX2_init 17 = .ok (.bipush 12, 2) := by decide +kernel
theorem dX2_init_19 : decode cX2_init 19 = .ok (.newarray .int, 2) := by decide +kernel
theorem dX2_init_21 : decode cX2_init 21 = .ok (.putfield 16, 3) := by decide +kernel
theorem dX2_init_24 : decode cX2_init 24 = .ok (.aload_n 0, 1) := by decide +kernel
theorem dX2_init_25 : decode cX2_init 25 = .ok (.bipush 12, 2) := by decide +kernel
theorem dX2_init_27 : decode cX2_init 27 = .ok (.bipush 12, 2) := by decide +kernel
theorem dX2_init_29 : decode cX2_init 29 = .ok (.multianewarray 9 2, 4) := by decide +kernel
theorem dX2_init_33 : decode cX2_init 33 = .ok (.putfield 20, 3) := by decide +kernel
theorem dX2_init_36 : decode cX2_init 36 = .ok (.aload_n 0, 1) := by decide +kernel
theorem dX2_init_37 : decode cX2_init 37 = .ok (.bipush 12, 2) := by decide +kernel
theorem dX2_init_39 : decode cX2_init 39 = .ok (.newarray .int, 2) := by decide +kernel
theorem dX2_init_41 : decode cX2_init 41 = .ok (.putfield 23, 3) := by decide +kernel
theorem dX2_init_44 : decode cX2_init 44 = .ok (.aload_n 0, 1) := by decide +kernel
theorem dX2_init_45 : decode cX2_init 45 = .ok (.bipush 12, 2) := by decide +kernel
theorem dX2_init_47 : decode cX2_init 47 = .ok (.newarray .int, 2) := by decide +kernel
theorem dX2_init_49 : decode cX2_init 49 = .ok (.putfield 26, 3) := by decide +kernel
theorem dX2_init_52 : decode cX2_init 52 = .ok (.aload_n 0, 1) := by decide +kernel
theorem dX2_init_53 : decode cX2_init 53 = .ok (.iconst 5, 1) := by decide +kernel
theorem dX2_init_54 : decode cX2_init 54 = .ok (.bipush 12, 2) := by decide +kernel
theorem dX2_init_56 : decode cX2_init 56 = .ok (.multianewarray 9 2, 4) := by decide +kernel
theorem dX2_init_60 : decode cX2_init 60 = .ok (.putfield 29, 3) := by decide +kernel
theorem dX2_init_63 : decode cX2_init 63 = .ok (.aload_n 0, 1) := by decide +kernel
theorem dX2_init_64 : decode cX2_init 64 = .ok (.iconst 5, 1) := by decide +kernel
theorem dX2_init_65 : decode cX2_init 65 = .ok (.newarray .int, 2) := by decide +kernel
theorem dX2_init_67 : decode cX2_init 67 = .ok (.putfield 32, 3) := by decide +kernel
theorem dX2_init_70 : decode cX2_init 70 = .ok (.aload_n 0, 1) := by decide +kernel
theorem dX2_init_71 : decode cX2_init 71 = .ok (.iconst 5, 1) := by decide +kernel
theorem dX2_init_72 : decode cX2_init 72 = .ok (.newarray .int, 2) := by decide +kernel
theorem dX2_init_74 : decode cX2_init 74 = .ok (.putfield 35, 3) := by decide +kernel
theorem dX2_init_77 : decode cX2_init 77 = .ok (.aload_n 0, 1) := by decide +kernel
theorem dX2_init_78 : decode cX2_init 78 = .ok (.bipush 12, 2) := by decide +kernel
theorem dX2_init_80 : decode cX2_init 80 = .ok (.newarray .int, 2) := by decide +kernel
theorem dX2_init_82 : decode cX2_init 82 = .ok (.putfield 38, 3) := by decide +kernel
theorem dX2_init_85 : decode cX2_init 85 = .ok (.return_, 1) := by decide +kernel
theorem dX2_mergeAll_0 : decode cX2_mergeAll 0 = .ok (.iconst 0, 1) := by decide +kernel
theorem dX2_mergeAll_1 : decode cX2_mergeAll 1 = .ok (.istore_n 2, 1) := by decide +kernel
theorem dX2_mergeAll_2 : decode cX2_mergeAll 2 = .ok (.iload_n 2, 1) := by decide +kernel
theorem dX2_mergeAll_3 : decode cX2_mergeAll 3 = .ok (.aload_n 1, 1) := by decide +kernel
theorem dX2_mergeAll_4 : decode cX2_mergeAll 4 = .ok (.getfield 41, 3) := by decide +kernel
theorem dX2_mergeAll_7 : decode cX2_mergeAll 7 = .ok (.if_icmp .ge 67, 3) := by decide +kernel
theorem dX2_mergeAll_10 : decode cX2_mergeAll 10 = .ok (.aload_n 0, 1) := by decide +kernel
theorem dX2_mergeAll_11 : decode cX2_mergeAll 11 = .ok (.getfield 16, 3) := by decide +kernel
theorem dX2_mergeAll_14 : decode cX2_mergeAll 14 = .ok (.iload_n 2, 1) := by decide +kernel
theorem dX2_mergeAll_15 : decode cX2_mergeAll 15 = .ok (.iconst 0, 1) := by decide +kernel
theorem dX2_mergeAll_16 : decode cX2_mergeAll 16 = .ok (.iastore, 1) := by decide +kernel
theorem dX2_mergeAll_17 : decode cX2_mergeAll 17 = .ok (.aload_n 0, 1) := by decide +kernel
theorem dX2_mergeAll_18 : decode cX2_mergeAll 18 = .ok (.getfield 23, 3) := by decide +kernel
theorem dX2_mergeAll_21 : decode cX2_mergeAll 21 = .ok (.iload_n 2, 1) := by decide +kernel
theorem dX2_mergeAll_22 : decode cX2_mergeAll 22 = .ok (.iconst 0, 1) := by decide +kernel
theorem dX2_mergeAll_23 : decode cX2_mergeAll 23 = .ok (.iastore, 1) := by decide +kernel
theorem dX2_mergeAll_24 : decode cX2_mergeAll 24 = .ok (.aload_n 0, 1) := by decide +kernel
theorem dX2_mergeAll_25 : decode cX2_mergeAll 25 = .ok (.getfield 26, 3) := by decide +kernel
theorem dX2_mergeAll_28 : decode cX2_mergeAll 28 = .ok (.iload_n 2, 1) := by decide +kernel
theorem dX2_mergeAll_29 : decode cX2_mergeAll 29 = .ok (.iconst 0, 1) := by decide +kernel
theorem dX2_mergeAll_30 : decode cX2_mergeAll 30 = .ok (.iastore, 1) := by decide +kernel
theorem dX2_mergeAll_31 : decode cX2_mergeAll 31 = .ok (.aload_n 1, 1) := by decide +kernel
theorem dX2_mergeAll_32 : decode cX2_mergeAll 32 = .ok (.iload_n 2, 1) := by decide +kernel
theorem dX2_mergeAll_33 : decode cX2_mergeAll 33 = .ok (.invokevirtual 47, 3) := by decide +kernel
theorem dX2_mergeAll_36 : decode cX2_mergeAll 36 = .ok (.ifCond .eq 32, 3) := by decide +kernel
theorem dX2_mergeAll_39 : decode cX2_mergeAll 39 = .ok (.aload_n 1, 1) := by decide +kernel
theorem dX2_mergeAll_40 : decode cX2_mergeAll 40 = .ok (.getfield 51, 3) := by decide +kernel
theorem dX2_mergeAll_43 : decode cX2_mergeAll 43 = .ok (.iload_n 2, 1) := by decide +kernel
theorem dX2_mergeAll_44 : decode cX2_mergeAll 44 = .ok (.aaload, 1) := by decide +kernel
theorem dX2_mergeAll_45 : decode cX2_mergeAll 45 = .ok (.getfield 55, 3) := by decide +kernel
theorem dX2_mergeAll_48 : decode cX2_mergeAll 48 = .ok (.astore_n 3, 1) := by decide +kernel
theorem dX2_mergeAll_49 : decode cX2_mergeAll 49 = .ok (.aload_n 0, 1) := by decide +kernel
theorem dX2_mergeAll_50 : decode cX2_mergeAll 50 = .ok (.iload_n 2, 1) := by decide +kernel
theorem dX2_mergeAll_51 : decode cX2_mergeAll 51 = .ok (.aload_n 3, 1) := by decide +kernel
theorem dX2_mergeAll_52 : decode cX2_mergeAll 52 = .ok (.invokevirtual 61, 3) := by decide +kernel
theorem dX2_mergeAll_55 : decode cX2_mergeAll 55 = .ok (.aload_n 0, 1) := by decide +kernel
theorem dX2_mergeAll_56 : decode cX2_mergeAll 56 = .ok (.aload_n 3, 1) := by decide +kernel
theorem dX2_mergeAll_57 : decode cX2_mergeAll 57 = .ok (.invokevirtual 65, 3) := by decide +kernel
theorem dX2_mergeAll_60 : decode cX2_mergeAll 60 = .ok (.ifCond .eq 8, 3) := by decide +kernel
theorem dX2_mergeAll_63 : decode cX2_mergeAll 63 = .ok (.aload_n 0, 1) := by decide +kernel
theorem dX2_mergeAll_64 : decode cX2_mergeAll 64 = .ok (.iload_n 2, 1) := by decide +kernel
theorem dX2_mergeAll_65 : decode cX2_mergeAll 65 = .ok (.invokevirtual 69, 3) := by decide +kernel
theorem dX2_mergeAll_68 : decode cX2_mergeAll 68 = .ok (.iinc 2 1, 3) := by decide +kernel
theorem dX2_mergeAll_71 : decode cX2_mergeAll 71 = .ok (.goto (-69), 3) := by decide +kernel
theorem dX2_mergeAll_74 : decode cX2_mergeAll 74 = .ok (.return_, 1) := by decide +kernel
theorem dX2_gatherOver_0 : decode cX2_gatherOver 0 = .ok (.iconst 1, 1) := by decide +kernel
theorem dX2_gatherOver_1 : decode cX2_gatherOver 1 = .ok (.iload_n 1, 1) := by decide +kernel
theorem dX2_gatherOver_2 : decode cX2_gatherOver 2 = .ok (.ishl, 1) := by decide +kernel
theorem dX2_gatherOver_3 : decode cX2_gatherOver 3 = .ok (.istore_n 3, 1) := by decide +kernel
theorem dX2_gatherOver_4 : decode cX2_gatherOver 4 = .ok (.iconst 0, 1) := by decide +kernel
theorem dX2_gatherOver_5 : decode cX2_gatherOver 5 = .ok (.istore 4, 2) := by decide +kernel
theorem dX2_gatherOver_7 : decode cX2_gatherOver 7 = .ok (.iload 4, 2) := by decide +kernel
theorem dX2_gatherOver_9 : decode cX2_gatherOver 9 = .ok (.aload_n 2, 1) := by decide +kernel
theorem dX2_gatherOver_10 : decode cX2_gatherOver 10 = .ok (.getfield 73, 3) := by decide +kernel
theorem dX2_gatherOver_13 : decode cX2_gatherOver 13 = .ok (.if_icmp .ge 24, 3) := by decide +kernel
theorem dX2_gatherOver_16 : decode cX2_gatherOver 16 = .ok (.iload_n 3, 1) := by decide +kernel
theorem dX2_gatherOver_17 : decode cX2_gatherOver 17 = .ok (.aload_n 0, 1) := by decide +kernel
theorem dX2_gatherOver_18 : decode cX2_gatherOver 18 = .ok (.getfield 26, 3) := by decide +kernel
theorem dX2_gatherOver_21 : decode cX2_gatherOver 21 = .ok (.aload_n 2, 1) := by decide +kernel
theorem dX2_gatherOver_22 : decode cX2_gatherOver 22 = .ok (.getfield 76, 3) := by decide +kernel
theorem dX2_gatherOver_25 : decode cX2_gatherOver 25 = .ok (.iload 4, 2) := by decide +kernel
theorem dX2_gatherOver_27 : decode cX2_gatherOver 27 = .ok (.iaload, 1) := by decide +kernel
theorem dX2_gatherOver_28 : decode cX2_gatherOver 28 = .ok (.iaload, 1) := by decide +kernel
theorem dX2_gatherOver_29 : decode cX2_gatherOver 29 = .ok (.ior, 1) := by decide +kernel
theorem dX2_gatherOver_30 : decode cX2_gatherOver 30 = .ok (.istore_n 3, 1) := by decide +kernel
theorem dX2_gatherOver_31 : decode cX2_gatherOver 31 = .ok (.iinc 4 1, 3) := by decide +kernel
theorem dX2_gatherOver_34 : decode cX2_gatherOver 34 = .ok (.goto (-27), 3) := by decide +kernel
theorem dX2_gatherOver_37 : decode cX2_gatherOver 37 = .ok (.aload_n 0, 1) := by decide +kernel
theorem dX2_gatherOver_38 : decode cX2_gatherOver 38 = .ok (.getfield 26, 3) := by decide +kernel
theorem dX2_gatherOver_41 : decode cX2_gatherOver 41 = .ok (.iload_n 1, 1) := by decide +kernel
theorem dX2_gatherOver_42 : decode cX2_gatherOver 42 = .ok (.iload_n 3, 1) := by decide +kernel
theorem dX2_gatherOver_43 : decode cX2_gatherOver 43 = .ok (.iastore, 1) := by decide +kernel
theorem dX2_gatherOver_44 : decode cX2_gatherOver 44 = .ok (.return_, 1) := by decide +kernel
theorem dX2_loadRows_0 : decode cX2_loadRows 0 = .ok (.aload_n 0, 1) := by decide +kernel
theorem dX2_loadRows_1 : decode cX2_loadRows 1 = .ok (.aload_n 1, 1) := by decide +kernel
theorem dX2_loadRows_2 : decode cX2_loadRows 2 = .ok (.getfield 73, 3) := by decide +kernel
theorem dX2_loadRows_5 : decode cX2_loadRows 5 = .ok (.iconst 1, 1) := by decide +kernel
theorem dX2_loadRows_6 : decode cX2_loadRows 6 = .ok (.iadd, 1) := by decide +kernel
theorem dX2_loadRows_7 : decode cX2_loadRows 7 = .ok (.putfield 79, 3) := by decide +kernel
theorem dX2_loadRows_10 : decode cX2_loadRows 10 = .ok (.iconst 0, 1) := by decide +kernel
theorem dX2_loadRows_11 : decode cX2_loadRows 11 = .ok (.istore_n 2, 1) := by decide +kernel
theorem dX2_loadRows_12 : decode cX2_loadRows 12 = .ok (.iload_n 2, 1) := by decide +kernel
theorem dX2_loadRows_13 : decode cX2_loadRows 13 = .ok (.aload_n 1, 1) := by decide +kernel
theorem dX2_loadRows_14 : decode cX2_loadRows 14 = .ok (.getfield 73, 3) := by decide +kernel
theorem dX2_loadRows_17 : decode cX2_loadRows 17 = .ok (.if_icmp .ge 69, 3) := by decide +kernel
theorem dX2_loadRows_20 : decode cX2_loadRows 20 = .ok (.aload_n 1, 1) := by decide +kernel
theorem dX2_loadRows_21 : decode cX2_loadRows 21 = .ok (.getfield 76, 3) := by decide +kernel
theorem dX2_loadRows_24 : decode cX2_loadRows 24 = .ok (.iload_n 2, 1) := by decide +kernel
theorem dX2_loadRows_25 : decode cX2_loadRows 25 = .ok (.iaload, 1) := by decide +kernel
theorem dX2_loadRows_26 : decode cX2_loadRows 26 = .ok (.istore_n 3, 1) := by decide +kernel
theorem dX2_loadRows_27 : decode cX2_loadRows 27 = .ok (.aload_n 0, 1) := by decide +kernel
theorem dX2_loadRows_28 : decode cX2_loadRows 28 = .ok (.getfield 16, 3) := by decide +kernel
theorem dX2_loadRows_31 : decode cX2_loadRows 31 = .ok (.iload_n 3, 1) := by decide +kernel
theorem dX2_loadRows_32 : decode cX2_loadRows 32 = .ok (.iaload, 1) := by decide +kernel
theorem dX2_loadRows_33 : decode cX2_loadRows 33 = .ok (.ifCond .ne 5, 3) := by decide +kernel
theorem dX2_loadRows_36 : decode cX2_loadRows 36 = .ok (.iconst 0, 1) := by decide +kernel
theorem dX2_loadRows_37 : decode cX2_loadRows 37 = .ok (.ireturn, 1) := by decide +kernel
theorem dX2_loadRows_38 : decode cX2_loadRows 38 = .ok (.aload_n 0, 1) := by decide +kernel
theorem dX2_loadRows_39 : decode cX2_loadRows 39 = .ok (.getfield 11, 3) := by decide +kernel
theorem dX2_loadRows_42 : decode cX2_loadRows 42 = .ok (.iload_n 3, 1) := by decide +kernel
theorem dX2_loadRows_43 : decode cX2_loadRows 43 = .ok (.aaload, 1) := by decide +kernel
theorem dX2_loadRows_44 : decode cX2_loadRows 44 = .ok (.iconst 0, 1) := by decide +kernel
theorem dX2_loadRows_45 : decode cX2_loadRows 45 = .ok (.aload_n 0, 1) := by decide +kernel
theorem dX2_loadRows_46 : decode cX2_loadRows 46 = .ok (.getfield 29, 3) := by decide +kernel
theorem dX2_loadRows_49 : decode cX2_loadRows 49 = .ok (.iload_n 2, 1) := by decide +kernel
theorem dX2_loadRows_50 : decode cX2_loadRows 50 = .ok (.aaload, 1) := by decide +kernel
theorem dX2_loadRows_51 : decode cX2_loadRows 51 = .ok (.iconst 0, 1) := by decide +kernel
theorem dX2_loadRows_52 : decode cX2_loadRows 52 = .ok (.aload_n 0, 1) := by decide +kernel
theorem dX2_loadRows_53 : decode cX2_loadRows 53 = .ok (.getfield 16, 3) := by decide +kernel
theorem dX2_loadRows_56 : decode cX2_loadRows 56 = .ok (.iload_n 3, 1) := by decide +kernel
theorem dX2_loadRows_57 : decode cX2_loadRows 57 = .ok (.iaload, 1) := by decide +kernel
theorem dX2_loadRows_58 : decode cX2_loadRows 58 = .ok (.invokestatic 82, 3) := by decide +kernel
theorem dX2_loadRows_61 : decode cX2_loadRows 61 = .ok (.aload_n 0, 1) := by decide +kernel
theorem dX2_loadRows_62 : decode cX2_loadRows 62 = .ok (.getfield 32, 3) := by decide +kernel
theorem dX2_loadRows_65 : decode cX2_loadRows 65 = .ok (.iload_n 2, 1) := by decide +kernel
theorem dX2_loadRows_66 : decode cX2_loadRows 66 = .ok (.iconst 0, 1) := by decide +kernel
theorem dX2_loadRows_67 : decode cX2_loadRows 67 = .ok (.iastore, 1) := by decide +kernel
theorem dX2_loadRows_68 : decode cX2_loadRows 68 = .ok (.aload_n 0, 1) := by decide +kernel
theorem dX2_loadRows_69 : decode cX2_loadRows 69 = .ok (.getfield 35, 3) := by decide +kernel
theorem dX2_loadRows_72 : decode cX2_loadRows 72 = .ok (.iload_n 2, 1) := by decide +kernel
theorem dX2_loadRows_73 : decode cX2_loadRows 73 = .ok (.aload_n 0, 1) := by decide +kernel
theorem dX2_loadRows_74 : decode cX2_loadRows 74 = .ok (.getfield 16, 3) := by decide +kernel
theorem dX2_loadRows_77 : decode cX2_loadRows 77 = .ok (.iload_n 3, 1) := by decide +kernel
theorem dX2_loadRows_78 : decode cX2_loadRows 78 = .ok (.iaload, 1) := by decide +kernel
theorem dX2_loadRows_79 : decode cX2_loadRows 79 = .ok (.iastore, 1) := by decide +kernel
theorem dX2_loadRows_80 : decode cX2_loadRows 80 = .ok (.iinc 2 1, 3) := by decide +kernel
theorem dX2_loadRows_83 : decode cX2_loadRows 83 = .ok (.goto (-71), 3) := by decide +kernel
theorem dX2_loadRows_86 : decode cX2_loadRows 86 = .ok (.aload_n 1, 1) := by decide +kernel
theorem dX2_loadRows_87 : decode cX2_loadRows 87 = .ok (.getfield 76, 3) := by decide +kernel
theorem dX2_loadRows_90 : decode cX2_loadRows 90 = .ok (.iconst 0, 1) := by decide +kernel
theorem dX2_loadRows_91 : decode cX2_loadRows 91 = .ok (.aload_n 0, 1) := by decide +kernel
theorem dX2_loadRows_92 : decode cX2_loadRows 92 = .ok (.getfield 29, 3) := by decide +kernel
theorem dX2_loadRows_95 : decode cX2_loadRows 95 = .ok (.aload_n 1, 1) := by decide +kernel
theorem dX2_loadRows_96 : decode cX2_loadRows 96 = .ok (.getfield 73, 3) := by decide +kernel
theorem dX2_loadRows_99 : decode cX2_loadRows 99 = .ok (.aaload, 1) := by decide +kernel
theorem dX2_loadRows_100 : decode cX2_loadRows 100 = .ok (.iconst 0, 1) := by decide +kernel
theorem dX2_loadRows_101 : decode cX2_loadRows 101 = .ok (.aload_n 1, 1) := by decide +kernel
theorem dX2_loadRows_102 : decode cX2_loadRows 102 = .ok (.getfield 73, 3) := by decide +kernel
theorem dX2_loadRows_105 : decode cX2_loadRows 105 = .ok (.invokestatic 82, 3) := by decide +kernel
theorem dX2_loadRows_108 : decode cX2_loadRows 108 = .ok (.aload_n 0, 1) := by decide +kernel
theorem dX2_loadRows_109 : decode cX2_loadRows 109 = .ok (.getfield 32, 3) := by decide +kernel
theorem dX2_loadRows_112 : decode cX2_loadRows 112 = .ok (.aload_n 1, 1) := by decide +kernel
theorem dX2_loadRows_113 : decode cX2_loadRows 113 = .ok (.getfield 73, 3) := by decide +kernel
theorem dX2_loadRows_116 : decode cX2_loadRows 116 = .ok (.iconst 0, 1) := by decide +kernel
theorem dX2_loadRows_117 : decode cX2_loadRows 117 = .ok (.iastore, 1) := by decide +kernel
theorem dX2_loadRows_118 : decode cX2_loadRows 118 = .ok (.aload_n 0, 1) := by decide +kernel
theorem dX2_loadRows_119 : decode cX2_loadRows 119 = .ok (.getfield 35, 3) := by decide +kernel
theorem dX2_loadRows_122 : decode cX2_loadRows 122 = .ok (.aload_n 1, 1) := by decide +kernel
theorem dX2_loadRows_123 : decode cX2_loadRows 123 = .ok (.getfield 73, 3) := by decide +kernel
theorem dX2_loadRows_126 : decode cX2_loadRows 126 = .ok (.aload_n 1, 1) := by decide +kernel
theorem dX2_loadRows_127 : decode cX2_loadRows 127 = .ok (.getfield 73, 3) := by decide +kernel
theorem dX2_loadRows_130 : decode cX2_loadRows 130 = .ok (.iastore, 1) := by decide +kernel
theorem dX2_loadRows_131 : decode cX2_loadRows 131 = .ok (.iconst 1, 1) := by decide +kernel
theorem dX2_loadRows_132 : decode cX2_loadRows 132 = .ok (.ireturn, 1) := by decide +kernel
theorem dX2_merge_0 : decode cX2_merge 0 = .ok (.aload_n 0, 1) := by decide +kernel
theorem dX2_merge_1 : decode cX2_merge 1 = .ok (.getfield 11, 3) := by decide +kernel
theorem dX2_merge_4 : decode cX2_merge 4 = .ok (.iload_n 1, 1) := by decide +kernel
theorem dX2_merge_5 : decode cX2_merge 5 = .ok (.aaload, 1) := by decide +kernel
theorem dX2_merge_6 : decode cX2_merge 6 = .ok (.astore_n 2, 1) := by decide +kernel
theorem dX2_merge_7 : decode cX2_merge 7 = .ok (.aload_n 2, 1) := by decide +kernel
theorem dX2_merge_8 : decode cX2_merge 8 = .ok (.iconst 0, 1) := by decide +kernel
theorem dX2_merge_9 : decode cX2_merge 9 = .ok (.iload_n 1, 1) := by decide +kernel
theorem dX2_merge_10 : decode cX2_merge 10 = .ok (.iastore, 1) := by decide +kernel
theorem dX2_merge_11 : decode cX2_merge 11 = .ok (.iconst 1, 1) := by decide +kernel
theorem dX2_merge_12 : decode cX2_merge 12 = .ok (.istore_n 3, 1) := by decide +kernel
theorem dX2_merge_13 : decode cX2_merge 13 = .ok (.aload_n 0, 1) := by decide +kernel
theorem dX2_merge_14 : decode cX2_merge 14 = .ok (.invokevirtual 88, 3) := by decide +kernel
theorem dX2_merge_17 : decode cX2_merge 17 = .ok (.istore 4, 2) := by decide +kernel
theorem dX2_merge_19 : decode cX2_merge 19 = .ok (.iload 4, 2) := by decide +kernel
theorem dX2_merge_21 : decode cX2_merge 21 = .ok (.iconst (-1), 1) := by decide +kernel
theorem dX2_merge_22 : decode cX2_merge 22 = .ok (.if_icmp .eq 32, 3) := by decide +kernel
theorem dX2_merge_25 : decode cX2_merge 25 = .ok (.iload_n 3, 1) := by decide +kernel
theorem dX2_merge_26 : decode cX2_merge 26 = .ok (.bipush 12, 2) := by decide +kernel
theorem dX2_merge_28 : decode cX2_merge 28 = .ok (.if_icmp .ge 26, 3) := by decide +kernel
theorem dX2_merge_31 : decode cX2_merge 31 = .ok (.aload_n 2, 1) := by decide +kernel
theorem dX2_merge_32 : decode cX2_merge 32 = .ok (.iload_n 3, 1) := by decide +kernel
theorem dX2_merge_33 : decode cX2_merge 33 = .ok (.iload 4, 2) := by decide +kernel
theorem dX2_merge_35 : decode cX2_merge 35 = .ok (.iastore, 1) := by decide +kernel
theorem dX2_merge_36 : decode cX2_merge 36 = .ok (.iinc 3 1, 3) := by decide +kernel
theorem dX2_merge_39 : decode cX2_merge 39 = .ok (.aload_n 0, 1) := by decide +kernel
theorem dX2_merge_40 : decode cX2_merge 40 = .ok (.iload 4, 2) := by decide +kernel
theorem dX2_merge_42 : decode cX2_merge 42 = .ok (.invokevirtual 92, 3) := by decide +kernel
theorem dX2_merge_45 : decode cX2_merge 45 = .ok (.aload_n 0, 1) := by decide +kernel
theorem dX2_merge_46 : decode cX2_merge 46 = .ok (.invokevirtual 88, 3) := by decide +kernel
theorem dX2_merge_49 : decode cX2_merge 49 = .ok (.istore 4, 2) := by decide +kernel
theorem dX2_merge_51 : decode cX2_merge 51 = .ok (.goto (-32), 3) := by decide +kernel
theorem dX2_merge_54 : decode cX2_merge 54 = .ok (.aload_n 0, 1) := by decide +kernel
theorem dX2_merge_55 : decode cX2_merge 55 = .ok (.invokevirtual 95, 3) := by decide +kernel
theorem dX2_merge_58 : decode cX2_merge 58 = .ok (.istore 4, 2) := by decide +kernel
theorem dX2_merge_60 : decode cX2_merge 60 = .ok (.iload 4, 2) := by decide +kernel
theorem dX2_merge_62 : decode cX2_merge 62 = .ok (.iconst (-1), 1) := by decide +kernel
theorem dX2_merge_63 : decode cX2_merge 63 = .ok (.if_icmp .ne 13, 3) := by decide +kernel
theorem dX2_merge_66 : decode cX2_merge 66 = .ok (.aload_n 0, 1) := by decide +kernel
theorem dX2_merge_67 : decode cX2_merge 67 = .ok (.getfield 16, 3) := by decide +kernel
theorem dX2_merge_70 : decode cX2_merge 70 = .ok (.iload_n 1, 1) := by decide +kernel
theorem dX2_merge_71 : decode cX2_merge 71 = .ok (.iload_n 3, 1) := by decide +kernel
theorem dX2_merge_72 : decode cX2_merge 72 = .ok (.iastore, 1) := by decide +kernel
theorem dX2_merge_73 : decode cX2_merge 73 = .ok (.goto 23, 3) := by decide +kernel
theorem dX2_merge_76 : decode cX2_merge 76 = .ok (.aload_n 0, 1) := by decide +kernel
theorem dX2_merge_77 : decode cX2_merge 77 = .ok (.iload_n 1, 1) := by decide +kernel
theorem dX2_merge_78 : decode cX2_merge 78 = .ok (.aload_n 0, 1) := by decide +kernel
theorem dX2_merge_79 : decode cX2_merge 79 = .ok (.getfield 29, 3) := by decide +kernel
theorem dX2_merge_82 : decode cX2_merge 82 = .ok (.iload 4, 2) := by decide +kernel
theorem dX2_merge_84 : decode cX2_merge 84 = .ok (.aaload, 1) := by decide +kernel
theorem dX2_merge_85 : decode cX2_merge 85 = .ok (.aload_n 0, 1) := by decide +kernel
theorem dX2_merge_86 : decode cX2_merge 86 = .ok (.getfield 32, 3) := by decide +kernel
theorem dX2_merge_89 : decode cX2_merge 89 = .ok (.iload 4, 2) := by decide +kernel
theorem dX2_merge_91 : decode cX2_merge 91 = .ok (.iaload, 1) := by decide +kernel
theorem dX2_merge_92 : decode cX2_merge 92 = .ok (.iaload, 1) := by decide +kernel
theorem dX2_merge_93 : decode cX2_merge 93 = .ok (.invokevirtual 98, 3) := by decide +kernel
theorem dX2_merge_96 : decode cX2_merge 96 = .ok (.return_, 1) := by decide +kernel
theorem dX2_freeHead_0 : decode cX2_freeHead 0 = .ok (.iconst 0, 1) := by decide +kernel
theorem dX2_freeHead_1 : decode cX2_freeHead 1 = .ok (.istore_n 1, 1) := by decide +kernel
theorem dX2_freeHead_2 : decode cX2_freeHead 2 = .ok (.iload_n 1, 1) := by decide +kernel
theorem dX2_freeHead_3 : decode cX2_freeHead 3 = .ok (.aload_n 0, 1) := by decide +kernel
theorem dX2_freeHead_4 : decode cX2_freeHead 4 = .ok (.getfield 79, 3) := by decide +kernel
theorem dX2_freeHead_7 : decode cX2_freeHead 7 = .ok (.if_icmp .ge 49, 3) := by decide +kernel
theorem dX2_freeHead_10 : decode cX2_freeHead 10 = .ok (.aload_n 0, 1) := by decide +kernel
theorem dX2_freeHead_11 : decode cX2_freeHead 11 = .ok (.getfield 32, 3) := by decide +kernel
theorem dX2_freeHead_14 : decode cX2_freeHead 14 = .ok (.iload_n 1, 1) := by decide +kernel
theorem dX2_freeHead_15 : decode cX2_freeHead 15 = .ok (.iaload, 1) := by decide +kernel
theorem dX2_freeHead_16 : decode cX2_freeHead 16 = .ok (.aload_n 0, 1) := by decide +kernel
theorem dX2_freeHead_17 : decode cX2_freeHead 17 = .ok (.getfield 35, 3) := by decide +kernel
theorem dX2_freeHead_20 : decode cX2_freeHead 20 = .ok (.iload_n 1, 1) := by decide +kernel
theorem dX2_freeHead_21 : decode cX2_freeHead 21 = .ok (.iaload, 1) := by decide +kernel
theorem dX2_freeHead_22 : decode cX2_freeHead 22 = .ok (.if_icmp .ge 28, 3) := by decide +kernel
theorem dX2_freeHead_25 : decode cX2_freeHead 25 = .ok (.aload_n 0, 1) := by decide +kernel
theorem dX2_freeHead_26 : decode cX2_freeHead 26 = .ok (.getfield 29, 3) := by decide +kernel
theorem dX2_freeHead_29 : decode cX2_freeHead 29 = .ok (.iload_n 1, 1) := by decide +kernel
theorem dX2_freeHead_30 : decode cX2_freeHead 30 = .ok (.aaload, 1) := by decide +kernel
theorem dX2_freeHead_31 : decode cX2_freeHead 31 = .ok (.aload_n 0, 1) := by decide +kernel
theorem dX2_freeHead_32 : decode cX2_freeHead 32 = .ok (.getfield 32, 3) := by decide +kernel
theorem dX2_freeHead_35 : decode cX2_freeHead 35 = .ok (.iload_n 1, 1) := by decide +kernel
theorem dX2_freeHead_36 : decode cX2_freeHead 36 = .ok (.iaload, 1) := by decide +kernel
theorem dX2_freeHead_37 : decode cX2_freeHead 37 = .ok (.iaload, 1) := by decide +kernel
theorem dX2_freeHead_38 : decode cX2_freeHead 38 = .ok (.istore_n 2, 1) := by decide +kernel
theorem dX2_freeHead_39 : decode cX2_freeHead 39 = .ok (.aload_n 0, 1) := by decide +kernel
theorem dX2_freeHead_40 : decode cX2_freeHead 40 = .ok (.iload_n 2, 1) := by decide +kernel
theorem dX2_freeHead_41 : decode cX2_freeHead 41 = .ok (.invokevirtual 102, 3) := by decide +kernel
theorem dX2_freeHead_44 : decode cX2_freeHead 44 = .ok (.iconst (-1), 1) := by decide +kernel
theorem dX2_freeHead_45 : decode cX2_freeHead 45 = .ok (.if_icmp .ne 5, 3) := by decide +kernel
theorem dX2_freeHead_48 : decode cX2_freeHead 48 = .ok (.iload_n 2, 1) := by decide +kernel
theorem dX2_freeHead_49 : decode cX2_freeHead 49 = .ok (.ireturn, 1) := by decide +kernel
theorem dX2_freeHead_50 : decode cX2_freeHead 50 = .ok (.iinc 1 1, 3) := by decide +kernel
theorem dX2_freeHead_53 : decode cX2_freeHead 53 = .ok (.goto (-51), 3) := by decide +kernel
theorem dX2_freeHead_56 : decode cX2_freeHead 56 = .ok (.iconst (-1), 1) := by decide +kernel
theorem dX2_freeHead_57 : decode cX2_freeHead 57 = .ok (.ireturn, 1) := by decide +kernel
theorem dX2_rowWithInTail_0 : decode cX2_rowWithInTail 0 = .ok (.iconst 0, 1) := by decide +kernel
theorem dX2_rowWithInTail_1 : decode cX2_rowWithInTail 1 = .ok (.istore_n 2, 1) := by decide +kernel
theorem dX2_rowWithInTail_2 : decode cX2_rowWithInTail 2 = .ok (.iload_n 2, 1) := by decide +kernel
theorem dX2_rowWithInTail_3 : decode cX2_rowWithInTail 3 = .ok (.aload_n 0, 1) := by decide +kernel
theorem dX2_rowWithInTail_4 : decode cX2_rowWithInTail 4 = .ok (.getfield 79, 3) := by decide +kernel
theorem dX2_rowWithInTail_7 : decode cX2_rowWithInTail 7 = .ok (.if_icmp .ge 48, 3) := by decide +kernel
theorem dX2_rowWithInTail_10 : decode cX2_rowWithInTail 10 = .ok (.aload_n 0, 1) := by decide +kernel
theorem dX2_rowWithInTail_11 : decode cX2_rowWithInTail 11 = .ok (.getfield 32, 3) := by decide +kernel
theorem dX2_rowWithInTail_14 : decode cX2_rowWithInTail 14 = .ok (.iload_n 2, 1) := by decide +kernel
theorem dX2_rowWithInTail_15 : decode cX2_rowWithInTail 15 = .ok (.iaload, 1) := by decide +kernel
theorem dX2_rowWithInTail_16 : decode cX2_rowWithInTail 16 = .ok (.iconst 1, 1) := by decide +kernel
theorem dX2_rowWithInTail_17 : decode cX2_rowWithInTail 17 = .ok (.iadd, 1) := by decide +kernel
theorem dX2_rowWithInTail_18 : decode cX2_rowWithInTail 18 = .ok (.istore_n 3, 1) := by decide +kernel
theorem dX2_rowWithInTail_19 : decode cX2_rowWithInTail 19 = .ok (.iload_n 3, 1) := by decide +kernel
theorem dX2_rowWithInTail_20 : decode cX2_rowWithInTail 20 = .ok (.aload_n 0, 1) := by decide +kernel
theorem dX2_rowWithInTail_21 : decode cX2_rowWithInTail 21 = .ok (.getfield 35, 3) := by decide +kernel
theorem dX2_rowWithInTail_24 : decode cX2_rowWithInTail 24 = .ok (.iload_n 2, 1) := by decide +kernel
theorem dX2_rowWithInTail_25 : decode cX2_rowWithInTail 25 = .ok (.iaload, 1) := by decide +kernel
theorem dX2_rowWithInTail_26 : decode cX2_rowWithInTail 26 = .ok (.if_icmp .ge 23, 3) := by decide +kernel
theorem dX2_rowWithInTail_29 : decode cX2_rowWithInTail 29 = .ok (.aload_n 0, 1) := by decide +kernel
theorem dX2_rowWithInTail_30 : decode cX2_rowWithInTail 30 = .ok (.getfield 29, 3) := by decide +kernel
theorem dX2_rowWithInTail_33 : decode cX2_rowWithInTail 33 = .ok (.iload_n 2, 1) := by decide +kernel
theorem dX2_rowWithInTail_34 : decode cX2_rowWithInTail 34 = .ok (.aaload, 1) := by decide +kernel
theorem dX2_rowWithInTail_35 : decode cX2_rowWithInTail 35 = .ok (.iload_n 3, 1) := by decide +kernel
theorem dX2_rowWithInTail_36 : decode cX2_rowWithInTail 36 = .ok (.iaload, 1) := by decide +kernel
theorem dX2_rowWithInTail_37 : decode cX2_rowWithInTail 37 = .ok (.iload_n 1, 1) := by decide +kernel
theorem dX2_rowWithInTail_38 : decode cX2_rowWithInTail 38 = .ok (.if_icmp .ne 5, 3) := by decide +kernel
theorem dX2_rowWithInTail_41 : decode cX2_rowWithInTail 41 = .ok (.iload_n 2, 1) := by decide +kernel
theorem dX2_rowWithInTail_42 : decode cX2_rowWithInTail 42 = .ok (.ireturn, 1) := by decide +kernel
theorem dX2_rowWithInTail_43 : decode cX2_rowWithInTail 43 = .ok (.iinc 3 1, 3) := by decide +kernel
theorem dX2_rowWithInTail_46 : decode cX2_rowWithInTail 46 = .ok (.goto (-27), 3) := by decide +kernel
theorem dX2_rowWithInTail_49 : decode cX2_rowWithInTail 49 = .ok (.iinc 2 1, 3) := by decide +kernel
theorem dX2_rowWithInTail_52 : decode cX2_rowWithInTail 52 = .ok (.goto (-50), 3) := by decide +kernel
theorem dX2_rowWithInTail_55 : decode cX2_rowWithInTail 55 = .ok (.iconst (-1), 1) := by decide +kernel
theorem dX2_rowWithInTail_56 : decode cX2_rowWithInTail 56 = .ok (.ireturn, 1) := by decide +kernel
theorem dX2_dropHead_0 : decode cX2_dropHead 0 = .ok (.iconst 0, 1) := by decide +kernel
theorem dX2_dropHead_1 : decode cX2_dropHead 1 = .ok (.istore_n 2, 1) := by decide +kernel
theorem dX2_dropHead_2 : decode cX2_dropHead 2 = .ok (.iload_n 2, 1) := by decide +kernel
theorem dX2_dropHead_3 : decode cX2_dropHead 3 = .ok (.aload_n 0, 1) := by decide +kernel
theorem dX2_dropHead_4 : decode cX2_dropHead 4 = .ok (.getfield 79, 3) := by decide +kernel
theorem dX2_dropHead_7 : decode cX2_dropHead 7 = .ok (.if_icmp .ge 51, 3) := by decide +kernel
theorem dX2_dropHead_10 : decode cX2_dropHead 10 = .ok (.aload_n 0, 1) := by decide +kernel
theorem dX2_dropHead_11 : decode cX2_dropHead 11 = .ok (.getfield 32, 3) := by decide +kernel
theorem dX2_dropHead_14 : decode cX2_dropHead 14 = .ok (.iload_n 2, 1) := by decide +kernel
theorem dX2_dropHead_15 : decode cX2_dropHead 15 = .ok (.iaload, 1) := by decide +kernel
theorem dX2_dropHead_16 : decode cX2_dropHead 16 = .ok (.aload_n 0, 1) := by decide +kernel
theorem dX2_dropHead_17 : decode cX2_dropHead 17 = .ok (.getfield 35, 3) := by decide +kernel
theorem dX2_dropHead_20 : decode cX2_dropHead 20 = .ok (.iload_n 2, 1) := by decide +kernel
theorem dX2_dropHead_21 : decode cX2_dropHead 21 = .ok (.iaload, 1) := by decide +kernel
theorem dX2_dropHead_22 : decode cX2_dropHead 22 = .ok (.if_icmp .ge 30, 3) := by decide +kernel
theorem dX2_dropHead_25 : decode cX2_dropHead 25 = .ok (.aload_n 0, 1) := by decide +kernel
theorem dX2_dropHead_26 : decode cX2_dropHead 26 = .ok (.getfield 29, 3) := by decide +kernel
theorem dX2_dropHead_29 : decode cX2_dropHead 29 = .ok (.iload_n 2, 1) := by decide +kernel
theorem dX2_dropHead_30 : decode cX2_dropHead 30 = .ok (.aaload, 1) := by decide +kernel
theorem dX2_dropHead_31 : decode cX2_dropHead 31 = .ok (.aload_n 0, 1) := by decide +kernel
theorem dX2_dropHead_32 : decode cX2_dropHead 32 = .ok (.getfield 32, 3) := by decide +kernel
theorem dX2_dropHead_35 : decode cX2_dropHead 35 = .ok (.iload_n 2, 1) := by decide +kernel
theorem dX2_dropHead_36 : decode cX2_dropHead 36 = .ok (.iaload, 1) := by decide +kernel
theorem dX2_dropHead_37 : decode cX2_dropHead 37 = .ok (.iaload, 1) := by decide +kernel
theorem dX2_dropHead_38 : decode cX2_dropHead 38 = .ok (.iload_n 1, 1) := by decide +kernel
theorem dX2_dropHead_39 : decode cX2_dropHead 39 = .ok (.if_icmp .ne 13, 3) := by decide +kernel
theorem dX2_dropHead_42 : decode cX2_dropHead 42 = .ok (.aload_n 0, 1) := by decide +kernel
theorem dX2_dropHead_43 : decode cX2_dropHead 43 = .ok (.getfield 32, 3) := by decide +kernel
theorem dX2_dropHead_46 : decode cX2_dropHead 46 = .ok (.iload_n 2, 1) := by decide +kernel
theorem dX2_dropHead_47 : decode cX2_dropHead 47 = .ok (.dup2, 1) := by decide +kernel
theorem dX2_dropHead_48 : decode cX2_dropHead 48 = .ok (.iaload, 1) := by decide +kernel
theorem dX2_dropHead_49 : decode cX2_dropHead 49 = .ok (.iconst 1, 1) := by decide +kernel
theorem dX2_dropHead_50 : decode cX2_dropHead 50 = .ok (.iadd, 1) := by decide +kernel
theorem dX2_dropHead_51 : decode cX2_dropHead 51 = .ok (.iastore, 1) := by decide +kernel
theorem dX2_dropHead_52 : decode cX2_dropHead 52 = .ok (.iinc 2 1, 3) := by decide +kernel
theorem dX2_dropHead_55 : decode cX2_dropHead 55 = .ok (.goto (-53), 3) := by decide +kernel
theorem dX2_dropHead_58 : decode cX2_dropHead 58 = .ok (.return_, 1) := by decide +kernel
theorem dX2_firstRowLeft_0 : decode cX2_firstRowLeft 0 = .ok (.iconst 0, 1) := by decide +kernel
theorem dX2_firstRowLeft_1 : decode cX2_firstRowLeft 1 = .ok (.istore_n 1, 1) := by decide +kernel
theorem dX2_firstRowLeft_2 : decode cX2_firstRowLeft 2 = .ok (.iload_n 1, 1) := by decide +kernel
theorem dX2_firstRowLeft_3 : decode cX2_firstRowLeft 3 = .ok (.aload_n 0, 1) := by decide +kernel
theorem dX2_firstRowLeft_4 : decode cX2_firstRowLeft 4 = .ok (.getfield 79, 3) := by decide +kernel
theorem dX2_firstRowLeft_7 : decode cX2_firstRowLeft 7 = .ok (.if_icmp .ge 26, 3) := by decide +kernel
theorem dX2_firstRowLeft_10 : decode cX2_firstRowLeft 10 = .ok (.aload_n 0, 1) := by decide +kernel
theorem dX2_firstRowLeft_11 : decode cX2_firstRowLeft 11 = .ok (.getfield 32, 3) := by decide +kernel
theorem dX2_firstRowLeft_14 : decode cX2_firstRowLeft 14 = .ok (.iload_n 1, 1) := by decide +kernel
theorem dX2_firstRowLeft_15 : decode cX2_firstRowLeft 15 = .ok (.iaload, 1) := by decide +kernel
theorem dX2_firstRowLeft_16 : decode cX2_firstRowLeft 16 = .ok (.aload_n 0, 1) := by decide +kernel
theorem dX2_firstRowLeft_17 : decode cX2_firstRowLeft 17 = .ok (.getfield 35, 3) := by decide +kernel
theorem dX2_firstRowLeft_20 : decode cX2_firstRowLeft 20 = .ok (.iload_n 1, 1) := by decide +kernel
theorem dX2_firstRowLeft_21 : decode cX2_firstRowLeft 21 = .ok (.iaload, 1) := by decide +kernel
theorem dX2_firstRowLeft_22 : decode cX2_firstRowLeft 22 = .ok (.if_icmp .ge 5, 3) := by decide +kernel
theorem dX2_firstRowLeft_25 : decode cX2_firstRowLeft 25 = .ok (.iload_n 1, 1) := by decide +kernel
theorem dX2_firstRowLeft_26 : decode cX2_firstRowLeft 26 = .ok (.ireturn, 1) := by decide +kernel
theorem dX2_firstRowLeft_27 : decode cX2_firstRowLeft 27 = .ok (.iinc 1 1, 3) := by decide +kernel
theorem dX2_firstRowLeft_30 : decode cX2_firstRowLeft 30 = .ok (.goto (-28), 3) := by decide +kernel
theorem dX2_firstRowLeft_33 : decode cX2_firstRowLeft 33 = .ok (.iconst (-1), 1) := by decide +kernel
theorem dX2_firstRowLeft_34 : decode cX2_firstRowLeft 34 = .ok (.ireturn, 1) := by decide +kernel
theorem dX2_ringFrom_0 : decode cX2_ringFrom 0 = .ok (.iload_n 2, 1) := by decide +kernel
theorem dX2_ringFrom_1 : decode cX2_ringFrom 1 = .ok (.istore_n 3, 1) := by decide +kernel
theorem dX2_ringFrom_2 : decode cX2_ringFrom 2 = .ok (.iconst 0, 1) := by decide +kernel
theorem dX2_ringFrom_3 : decode cX2_ringFrom 3 = .ok (.istore 4, 2) := by decide +kernel
theorem dX2_ringFrom_5 : decode cX2_ringFrom 5 = .ok (.iconst 0, 1) := by decide +kernel
theorem dX2_ringFrom_6 : decode cX2_ringFrom 6 = .ok (.istore 5, 2) := by decide +kernel
theorem dX2_ringFrom_8 : decode cX2_ringFrom 8 = .ok (.iload 4, 2) := by decide +kernel
theorem dX2_ringFrom_10 : decode cX2_ringFrom 10 = .ok (.bipush 12, 2) := by decide +kernel
theorem dX2_ringFrom_12 : decode cX2_ringFrom 12 = .ok (.if_icmp .ge 67, 3) := by decide +kernel
theorem dX2_ringFrom_15 : decode cX2_ringFrom 15 = .ok (.iload 5, 2) := by decide +kernel
theorem dX2_ringFrom_17 : decode cX2_ringFrom 17 = .ok (.iload_n 3, 1) := by decide +kernel
theorem dX2_ringFrom_18 : decode cX2_ringFrom 18 = .ok (.invokestatic 106, 3) := by decide +kernel
theorem dX2_ringFrom_21 : decode cX2_ringFrom 21 = .ok (.ifCond .ne 58, 3) := by decide +kernel
theorem dX2_ringFrom_24 : decode cX2_ringFrom 24 = .ok (.aload_n 0, 1) := by decide +kernel
theorem dX2_ringFrom_25 : decode cX2_ringFrom 25 = .ok (.getfield 38, 3) := by decide +kernel
theorem dX2_ringFrom_28 : decode cX2_ringFrom 28 = .ok (.iload 4, 2) := by decide +kernel
theorem dX2_ringFrom_30 : decode cX2_ringFrom 30 = .ok (.iload_n 3, 1) := by decide +kernel
theorem dX2_ringFrom_31 : decode cX2_ringFrom 31 = .ok (.iastore, 1) := by decide +kernel
theorem dX2_ringFrom_32 : decode cX2_ringFrom 32 = .ok (.iinc 4 1, 3) := by decide +kernel
theorem dX2_ringFrom_35 : decode cX2_ringFrom 35 = .ok (.iload 5, 2) := by decide +kernel
theorem dX2_ringFrom_37 : decode cX2_ringFrom 37 = .ok (.iconst 1, 1) := by decide +kernel
theorem dX2_ringFrom_38 : decode cX2_ringFrom 38 = .ok (.iload_n 3, 1) := by decide +kernel
theorem dX2_ringFrom_39 : decode cX2_ringFrom 39 = .ok (.ishl, 1) := by decide +kernel
theorem dX2_ringFrom_40 : decode cX2_ringFrom 40 = .ok (.ior, 1) := by decide +kernel
theorem dX2_ringFrom_41 : decode cX2_ringFrom 41 = .ok (.istore 5, 2) := by decide +kernel
theorem dX2_ringFrom_43 : decode cX2_ringFrom 43 = .ok (.aload_n 0, 1) := by decide +kernel
theorem dX2_ringFrom_44 : decode cX2_ringFrom 44 = .ok (.iload_n 3, 1) := by decide +kernel
theorem dX2_ringFrom_45 : decode cX2_ringFrom 45 = .ok (.invokevirtual 102, 3) := by decide +kernel
theorem dX2_ringFrom_48 : decode cX2_ringFrom 48 = .ok (.istore 6, 2) := by decide +kernel
theorem dX2_ringFrom_50 : decode cX2_ringFrom 50 = .ok (.iload 6, 2) := by decide +kernel
theorem dX2_ringFrom_52 : decode cX2_ringFrom 52 = .ok (.iconst (-1), 1) := by decide +kernel
theorem dX2_ringFrom_53 : decode cX2_ringFrom 53 = .ok (.if_icmp .ne 7, 3) := by decide +kernel
theorem dX2_ringFrom_56 : decode cX2_ringFrom 56 = .ok (.iload_n 3, 1) := by decide +kernel
theorem dX2_ringFrom_57 : decode cX2_ringFrom 57 = .ok (.goto 18, 3) := by decide +kernel
theorem dX2_ringFrom_60 : decode cX2_ringFrom 60 = .ok (.aload_n 0, 1) := by decide +kernel
theorem dX2_ringFrom_61 : decode cX2_ringFrom 61 = .ok (.getfield 29, 3) := by decide +kernel
theorem dX2_ringFrom_64 : decode cX2_ringFrom 64 = .ok (.iload 6, 2) := by decide +kernel
theorem dX2_ringFrom_66 : decode cX2_ringFrom 66 = .ok (.aaload, 1) := by decide +kernel
theorem dX2_ringFrom_67 : decode cX2_ringFrom 67 = .ok (.aload_n 0, 1) := by decide +kernel
theorem dX2_ringFrom_68 : decode cX2_ringFrom 68 = .ok (.getfield 32, 3) := by decide +kernel
theorem dX2_ringFrom_71 : decode cX2_ringFrom 71 = .ok (.iload 6, 2) := by decide +kernel
theorem dX2_ringFrom_73 : decode cX2_ringFrom 73 = .ok (.iaload, 1) := by decide +kernel
theorem dX2_ringFrom_74 : decode cX2_ringFrom 74 = .ok (.iaload, 1) := by decide +kernel
theorem dX2_ringFrom_75 : decode cX2_ringFrom 75 = .ok (.istore_n 3, 1) := by decide +kernel
theorem dX2_ringFrom_76 : decode cX2_ringFrom 76 = .ok (.goto (-68), 3) := by decide +kernel
theorem dX2_ringFrom_79 : decode cX2_ringFrom 79 = .ok (.iconst 0, 1) := by decide +kernel
theorem dX2_ringFrom_80 : decode cX2_ringFrom 80 = .ok (.istore 6, 2) := by decide +kernel
theorem dX2_ringFrom_82 : decode cX2_ringFrom 82 = .ok (.iload 6, 2) := by decide +kernel
theorem dX2_ringFrom_84 : decode cX2_ringFrom 84 = .ok (.iload 4, 2) := by decide +kernel
theorem dX2_ringFrom_86 : decode cX2_ringFrom 86 = .ok (.if_icmp .ge 20, 3) := by decide +kernel
theorem dX2_ringFrom_89 : decode cX2_ringFrom 89 = .ok (.aload_n 0, 1) := by decide +kernel
theorem dX2_ringFrom_90 : decode cX2_ringFrom 90 = .ok (.getfield 38, 3) := by decide +kernel
theorem dX2_ringFrom_93 : decode cX2_ringFrom 93 = .ok (.iload 6, 2) := by decide +kernel
theorem dX2_ringFrom_95 : decode cX2_ringFrom 95 = .ok (.iaload, 1) := by decide +kernel
theorem dX2_ringFrom_96 : decode cX2_ringFrom 96 = .ok (.iload_n 3, 1) := by decide +kernel
theorem dX2_ringFrom_97 : decode cX2_ringFrom 97 = .ok (.if_icmp .eq 9, 3) := by decide +kernel
theorem dX2_ringFrom_100 : decode cX2_ringFrom 100 = .ok (.iinc 6 1, 3) := by decide +kernel
theorem dX2_ringFrom_103 : decode cX2_ringFrom 103 = .ok (.goto (-21), 3) := by decide +kernel
theorem dX2_ringFrom_106 : decode cX2_ringFrom 106 = .ok (.aload_n 0, 1) := by decide +kernel
theorem dX2_ringFrom_107 : decode cX2_ringFrom 107 = .ok (.getfield 38, 3) := by decide +kernel
theorem dX2_ringFrom_110 : decode cX2_ringFrom 110 = .ok (.iload 6, 2) := by decide +kernel
theorem dX2_ringFrom_112 : decode cX2_ringFrom 112 = .ok (.aload_n 0, 1) := by decide +kernel
theorem dX2_ringFrom_113 : decode cX2_ringFrom 113 = .ok (.getfield 20, 3) := by decide +kernel
theorem dX2_ringFrom_116 : decode cX2_ringFrom 116 = .ok (.iload_n 1, 1) := by decide +kernel
theorem dX2_ringFrom_117 : decode cX2_ringFrom 117 = .ok (.aaload, 1) := by decide +kernel
theorem dX2_ringFrom_118 : decode cX2_ringFrom 118 = .ok (.iconst 0, 1) := by decide +kernel
theorem dX2_ringFrom_119 : decode cX2_ringFrom 119 = .ok (.iload 4, 2) := by decide +kernel
theorem dX2_ringFrom_121 : decode cX2_ringFrom 121 = .ok (.iload 6, 2) := by decide +kernel
theorem dX2_ringFrom_123 : decode cX2_ringFrom 123 = .ok (.isub, 1) := by decide +kernel
theorem dX2_ringFrom_124 : decode cX2_ringFrom 124 = .ok (.invokestatic 82, 3) := by decide +kernel
theorem dX2_ringFrom_127 : decode cX2_ringFrom 127 = .ok (.aload_n 0, 1) := by decide +kernel
theorem dX2_ringFrom_128 : decode cX2_ringFrom 128 = .ok (.getfield 23, 3) := by decide +kernel
theorem dX2_ringFrom_131 : decode cX2_ringFrom 131 = .ok (.iload_n 1, 1) := by decide +kernel
theorem dX2_ringFrom_132 : decode cX2_ringFrom 132 = .ok (.iload 4, 2) := by decide +kernel
theorem dX2_ringFrom_134 : decode cX2_ringFrom 134 = .ok (.iload 6, 2) := by decide +kernel
theorem dX2_ringFrom_136 : decode cX2_ringFrom 136 = .ok (.isub, 1) := by decide +kernel
theorem dX2_ringFrom_137 : decode cX2_ringFrom 137 = .ok (.iastore, 1) := by decide +kernel
theorem dX2_ringFrom_138 : decode cX2_ringFrom 138 = .ok (.return_, 1) := by decide +kernel
theorem dX3_init_0 : decode cX3_init 0 = .ok (.aload_n 0, 1) := by decide +kernel
theorem dX3_init_1 : decode cX3_init 1 = .ok (.invokespecial 3, 3) := by decide +kernel
theorem dX3_init_4 : decode cX3_init 4 = .ok (.aload_n 0, 1) := by decide +kernel
theorem dX3_init_5 : decode cX3_init 5 = .ok (.bipush 12, 2) := by decide +kernel
theorem dX3_init_7 : decode cX3_init 7 = .ok (.newarray .int, 2) := by decide +kernel
theorem dX3_init_9 : decode cX3_init 9 = .ok (.putfield 9, 3) := by decide +kernel
theorem dX3_init_12 : decode cX3_init 12 = .ok (.aload_n 0, 1) := by decide +kernel
theorem dX3_init_13 : decode cX3_init 13 = .ok (.sipush 4096, 3) := by decide +kernel
theorem dX3_init_16 : decode cX3_init 16 = .ok (.newarray .int, 2) := by decide +kernel
theorem dX3_init_18 : decode cX3_init 18 = .ok (.putfield 15, 3) := by decide +kernel
theorem dX3_init_21 : decode cX3_init 21 = .ok (.return_, 1) := by decide +kernel
theorem dX3_prepare_0 : decode cX3_prepare 0 = .ok (.aload_n 0, 1) := by decide +kernel
theorem dX3_prepare_1 : decode cX3_prepare 1 = .ok (.iload_n 2, 1) := by decide +kernel
theorem dX3_prepare_2 : decode cX3_prepare 2 = .ok (.putfield 18, 3) := by decide +kernel
theorem dX3_prepare_5 : decode cX3_prepare 5 = .ok (.aload_n 0, 1) := by decide +kernel
theorem dX3_prepare_6 : decode cX3_prepare 6 = .ok (.getfield 9, 3) := by decide +kernel
theorem dX3_prepare_9 : decode cX3_prepare 9 = .ok (.iconst 0, 1) := by decide +kernel
theorem dX3_prepare_10 : decode cX3_prepare 10 = .ok (.invokestatic 22, 3) := by decide +kernel
theorem dX3_prepare_13 : decode cX3_prepare 13 = .ok (.iconst 0, 1) := by decide +kernel
theorem dX3_prepare_14 : decode cX3_prepare 14 = .ok (.istore_n 3, 1) := by decide +kernel
theorem dX3_prepare_15 : decode cX3_prepare 15 = .ok (.iload_n 3, 1) := by decide +kernel
theorem dX3_prepare_16 : decode cX3_prepare 16 = .ok (.aload_n 1, 1) := by decide +kernel
theorem dX3_prepare_17 : decode cX3_prepare 17 = .ok (.getfield 28, 3) := by decide +kernel
theorem dX3_prepare_20 : decode cX3_prepare 20 = .ok (.if_icmp .ge 34, 3) := by decide +kernel
theorem dX3_prepare_23 : decode cX3_prepare 23 = .ok (.aload_n 0, 1) := by decide +kernel
theorem dX3_prepare_24 : decode cX3_prepare 24 = .ok (.getfield 18, 3) := by decide +kernel
theorem dX3_prepare_27 : decode cX3_prepare 27 = .ok (.iload_n 3, 1) := by decide +kernel
theorem dX3_prepare_28 : decode cX3_prepare 28 = .ok (.invokestatic 33, 3) := by decide +kernel
theorem dX3_prepare_31 : decode cX3_prepare 31 = .ok (.ifCond .eq 17, 3) := by decide +kernel
theorem dX3_prepare_34 : decode cX3_prepare 34 = .ok (.aload_n 0, 1) := by decide +kernel
theorem dX3_prepare_35 : decode cX3_prepare 35 = .ok (.iload_n 3, 1) := by decide +kernel
theorem dX3_prepare_36 : decode cX3_prepare 36 = .ok (.aload_n 1, 1) := by decide +kernel
theorem dX3_prepare_37 : decode cX3_prepare 37 = .ok (.getfield 37, 3) := by decide +kernel
theorem dX3_prepare_40 : decode cX3_prepare 40 = .ok (.iload_n 3, 1) := by decide +kernel
theorem dX3_prepare_41 : decode cX3_prepare 41 = .ok (.aaload, 1) := by decide +kernel
theorem dX3_prepare_42 : decode cX3_prepare 42 = .ok (.getfield 41, 3) := by decide +kernel
theorem dX3_prepare_45 : decode cX3_prepare 45 = .ok (.invokevirtual 47, 3) := by decide +kernel
theorem dX3_prepare_48 : decode cX3_prepare 48 = .ok (.iinc 3 1, 3) := by decide +kernel
theorem dX3_prepare_51 : decode cX3_prepare 51 = .ok (.goto (-36), 3) := by decide +kernel
theorem dX3_prepare_54 : decode cX3_prepare 54 = .ok (.aload_n 0, 1) := by decide +kernel
theorem dX3_prepare_55 : decode cX3_prepare 55 = .ok (.invokevirtual 51, 3) := by decide +kernel
theorem dX3_prepare_58 : decode cX3_prepare 58 = .ok (.return_, 1) := by decide +kernel
theorem dX3_tellParents_0 : decode cX3_tellParents 0 = .ok (.iconst 1, 1) := by decide +kernel
theorem dX3_tellParents_1 : decode cX3_tellParents 1 = .ok (.iload_n 1, 1) := by decide +kernel
theorem dX3_tellParents_2 : decode cX3_tellParents 2 = .ok (.ishl, 1) := by decide +kernel
theorem dX3_tellParents_3 : decode cX3_tellParents 3 = .ok (.istore_n 3, 1) := by decide +kernel
theorem dX3_tellParents_4 : decode cX3_tellParents 4 = .ok (.iconst 0, 1) := by decide +kernel
theorem dX3_tellParents_5 : decode cX3_tellParents 5 = .ok (.istore 4, 2) := by decide +kernel
theorem dX3_tellParents_7 : decode cX3_tellParents 7 = .ok (.iload 4, 2) := by decide +kernel
theorem dX3_tellParents_9 : decode cX3_tellParents 9 = .ok (.aload_n 2, 1) := by decide +kernel
theorem dX3_tellParents_10 : decode cX3_tellParents 10 = .ok (.getfield 54, 3) := by decide +kernel
theorem dX3_tellParents_13 : decode cX3_tellParents 13 = .ok (.if_icmp .ge 36, 3) := by decide +kernel
theorem dX3_tellParents_16 : decode cX3_tellParents 16 = .ok (.aload_n 2, 1) := by decide +kernel
theorem dX3_tellParents_17 : decode cX3_tellParents 17 = .ok (.getfield 57, 3) := by decide +kernel
theorem dX3_tellParents_20 : decode cX3_tellParents 20 = .ok (.iload 4, 2) := by decide +kernel
theorem dX3_tellParents_22 : decode cX3_tellParents 22 = .ok (.iaload, 1) := by decide +kernel
theorem dX3_tellParents_23 : decode cX3_tellParents 23 = .ok (.istore 5, 2) := by decide +kernel
theorem dX3_tellParents_25 : decode cX3_tellParents 25 = .ok (.aload_n 0, 1) := by decide +kernel
theorem dX3_tellParents_26 : decode cX3_tellParents 26 = .ok (.getfield 9, 3) := by decide +kernel
theorem dX3_tellParents_29 : decode cX3_tellParents 29 = .ok (.iload 5, 2) := by decide +kernel
theorem dX3_tellParents_31 : decode cX3_tellParents 31 = .ok (.dup2, 1) := by decide +kernel
theorem dX3_tellParents_32 : decode cX3_tellParents 32 = .ok (.iaload, 1) := by decide +kernel
theorem dX3_tellParents_33 : decode cX3_tellParents 33 = .ok (.iload_n 3, 1) := by decide +kernel
theorem dX3_tellParents_34 : decode cX3_tellParents 34 = .ok (.ior, 1) := by decide +kernel
theorem dX3_tellParents_35 : decode cX3_tellParents 35 = .ok (.iastore, 1) := by decide +kernel
theorem dX3_tellParents_36 : decode cX3_tellParents 36 = .ok (.iload_n 3, 1) := by decide +kernel
theorem dX3_tellParents_37 : decode cX3_tellParents 37 = .ok (.iconst 1, 1) := by decide +kernel
theorem dX3_tellParents_38 : decode cX3_tellParents 38 = .ok (.iload 5, 2) := by decide +kernel
theorem dX3_tellParents_40 : decode cX3_tellParents 40 = .ok (.ishl, 1) := by decide +kernel
theorem dX3_tellParents_41 : decode cX3_tellParents 41 = .ok (.ior, 1) := by decide +kernel
theorem dX3_tellParents_42 : decode cX3_tellParents 42 = .ok (.istore_n 3, 1) := by decide +kernel
theorem dX3_tellParents_43 : decode cX3_tellParents 43 = .ok (.iinc 4 1, 3) := by decide +kernel
theorem dX3_tellParents_46 : decode cX3_tellParents 46 = .ok (.goto (-39), 3) := by decide +kernel
theorem dX3_tellParents_49 : decode cX3_tellParents 49 = .ok (.return_, 1) := by decide +kernel
theorem dX3_closeAhead_0 : decode cX3_closeAhead 0 = .ok (.iconst 0, 1) := by decide +kernel
theorem dX3_closeAhead_1 : decode cX3_closeAhead 1 = .ok (.istore_n 1, 1) := by decide +kernel
theorem dX3_closeAhead_2 : decode cX3_closeAhead 2 = .ok (.iload_n 1, 1) := by decide +kernel
theorem dX3_closeAhead_3 : decode cX3_closeAhead 3 = .ok (.bipush 12, 2) := by decide +kernel
theorem dX3_closeAhead_5 : decode cX3_closeAhead 5 = .ok (.if_icmp .ge 51, 3) := by decide +kernel
theorem dX3_closeAhead_8 : decode cX3_closeAhead 8 = .ok (.iconst 0, 1) := by decide +kernel
theorem dX3_closeAhead_9 : decode cX3_closeAhead 9 = .ok (.istore_n 2, 1) := by decide +kernel
theorem dX3_closeAhead_10 : decode cX3_closeAhead 10 = .ok (.iload_n 2, 1) := by decide +kernel
theorem dX3_closeAhead_11 : decode cX3_closeAhead 11 = .ok (.bipush 12, 2) := by decide +kernel
theorem dX3_closeAhead_13 : decode cX3_closeAhead 13 = .ok (.if_icmp .ge 37, 3) := by decide +kernel
theorem dX3_closeAhead_16 : decode cX3_closeAhead 16 = .ok (.aload_n 0, 1) := by decide +kernel
theorem dX3_closeAhead_17 : decode cX3_closeAhead 17 = .ok (.getfield 9, 3) := by decide +kernel
theorem dX3_closeAhead_20 : decode cX3_closeAhead 20 = .ok (.iload_n 2, 1) := by decide +kernel
theorem dX3_closeAhead_21 : decode cX3_closeAhead 21 = .ok (.iaload, 1) := by decide +kernel
theorem dX3_closeAhead_22 : decode cX3_closeAhead 22 = .ok (.iload_n 1, 1) := by decide +kernel
theorem dX3_closeAhead_23 : decode cX3_closeAhead 23 = .ok (.invokestatic 33, 3) := by decide +kernel
theorem dX3_closeAhead_26 : decode cX3_closeAhead 26 = .ok (.ifCond .eq 18, 3) := by decide +kernel
theorem dX3_closeAhead_29 : decode cX3_closeAhead 29 = .ok (.aload_n 0, 1) := by decide +kernel
theorem dX3_closeAhead_30 : decode cX3_closeAhead 30 = .ok (.getfield 9, 3) := by decide +kernel
theorem dX3_closeAhead_33 : decode cX3_closeAhead 33 = .ok (.iload_n 2, 1) := by decide +kernel
theorem dX3_closeAhead_34 : decode cX3_closeAhead 34 = .ok (.dup2, 1) := by decide +kernel
theorem dX3_closeAhead_35 : decode cX3_closeAhead 35 = .ok (.iaload, 1) := by decide +kernel
theorem dX3_closeAhead_36 : decode cX3_closeAhead 36 = .ok (.aload_n 0, 1) := by decide +kernel
theorem dX3_closeAhead_37 : decode cX3_closeAhead 37 = .ok (.getfield 9, 3) := by decide +kernel
theorem dX3_closeAhead_40 : decode cX3_closeAhead 40 = .ok (.iload_n 1, 1) := by decide +kernel
theorem dX3_closeAhead_41 : decode cX3_closeAhead 41 = .ok (.iaload, 1) := by decide +kernel
theorem dX3_closeAhead_42 : decode cX3_closeAhead 42 = .ok (.ior, 1) := by decide +kernel
theorem dX3_closeAhead_43 : decode cX3_closeAhead 43 = .ok (.iastore, 1) := by decide +kernel
theorem dX3_closeAhead_44 : decode cX3_closeAhead 44 = .ok (.iinc 2 1, 3) := by decide +kernel
theorem dX3_closeAhead_47 : decode cX3_closeAhead 47 = .ok (.goto (-37), 3) := by decide +kernel
theorem dX3_closeAhead_50 : decode cX3_closeAhead 50 = .ok (.iinc 1 1, 3) := by decide +kernel
theorem dX3_closeAhead_53 : decode cX3_closeAhead 53 = .ok (.goto (-51), 3) := by decide +kernel
theorem dX3_closeAhead_56 : decode cX3_closeAhead 56 = .ok (.return_, 1) := by decide +kernel
theorem dX3_hasNone_0 : decode cX3_hasNone 0 = .ok (.iconst 0, 1) := by decide +kernel
theorem dX3_hasNone_1 : decode cX3_hasNone 1 = .ok (.istore_n 1, 1) := by decide +kernel
theorem dX3_hasNone_2 : decode cX3_hasNone 2 = .ok (.iload_n 1, 1) := by decide +kernel
theorem dX3_hasNone_3 : decode cX3_hasNone 3 = .ok (.bipush 12, 2) := by decide +kernel
theorem dX3_hasNone_5 : decode cX3_hasNone 5 = .ok (.if_icmp .ge 24, 3) := by decide +kernel
theorem dX3_hasNone_8 : decode cX3_hasNone 8 = .ok (.aload_n 0, 1) := by decide +kernel
theorem dX3_hasNone_9 : decode cX3_hasNone 9 = .ok (.getfield 9, 3) := by decide +kernel
theorem dX3_hasNone_12 : decode cX3_hasNone 12 = .ok (.iload_n 1, 1) := by decide +kernel
theorem dX3_hasNone_13 : decode cX3_hasNone 13 = .ok (.iaload, 1) := by decide +kernel
theorem dX3_hasNone_14 : decode cX3_hasNone 14 = .ok (.iload_n 1, 1) := by decide +kernel
theorem dX3_hasNone_15 : decode cX3_hasNone 15 = .ok (.invokestatic 33, 3) := by decide +kernel
theorem dX3_hasNone_18 : decode cX3_hasNone 18 = .ok (.ifCond .eq 5, 3) := by decide +kernel
theorem dX3_hasNone_21 : decode cX3_hasNone 21 = .ok (.iconst 1, 1) := by decide +kernel
theorem dX3_hasNone_22 : decode cX3_hasNone 22 = .ok (.ireturn, 1) := by decide +kernel
theorem dX3_hasNone_23 : decode cX3_hasNone 23 = .ok (.iinc 1 1, 3) := by decide +kernel
theorem dX3_hasNone_26 : decode cX3_hasNone 26 = .ok (.goto (-24), 3) := by decide +kernel
theorem dX3_hasNone_29 : decode cX3_hasNone 29 = .ok (.iconst 0, 1) := by decide +kernel
theorem dX3_hasNone_30 : decode cX3_hasNone 30 = .ok (.ireturn, 1) := by decide +kernel
theorem dX3_howMany_0 : decode cX3_howMany 0 = .ok (.aload_n 0, 1) := by decide +kernel
theorem dX3_howMany_1 : decode cX3_howMany 1 = .ok (.invokevirtual 60, 3) := by decide +kernel
theorem dX3_howMany_4 : decode cX3_howMany 4 = .ok (.ifCond .eq 5, 3) := by decide +kernel
theorem dX3_howMany_7 : decode cX3_howMany 7 = .ok (.lconst 0, 1) := by decide +kernel
theorem dX3_howMany_8 : decode cX3_howMany 8 = .ok (.lreturn, 1) := by decide +kernel
theorem dX3_howMany_9 : decode cX3_howMany 9 = .ok (.aload_n 0, 1) := by decide +kernel
theorem dX3_howMany_10 : decode cX3_howMany 10 = .ok (.getfield 15, 3) := by decide +kernel
theorem dX3_howMany_13 : decode cX3_howMany 13 = .ok (.iconst 0, 1) := by decide +kernel
theorem dX3_howMany_14 : decode cX3_howMany 14 = .ok (.invokestatic 22, 3) := by decide +kernel
theorem dX3_howMany_17 : decode cX3_howMany 17 = .ok (.aload_n 0, 1) := by decide +kernel
theorem dX3_howMany_18 : decode cX3_howMany 18 = .ok (.getfield 15, 3) := by decide +kernel
theorem dX3_howMany_21 : decode cX3_howMany 21 = .ok (.iconst 0, 1) := by decide +kernel
theorem dX3_howMany_22 : decode cX3_howMany 22 = .ok (.iconst 1, 1) := by decide +kernel
theorem dX3_howMany_23 : decode cX3_howMany 23 = .ok (.iastore, 1) := by decide +kernel
theorem dX3_howMany_24 : decode cX3_howMany 24 = .ok (.iconst 0, 1) := by decide +kernel
theorem dX3_howMany_25 : decode cX3_howMany 25 = .ok (.istore_n 1, 1) := by decide +kernel
theorem dX3_howMany_26 : decode cX3_howMany 26 = .ok (.iload_n 1, 1) := by decide +kernel
theorem dX3_howMany_27 : decode cX3_howMany 27 = .ok (.aload_n 0, 1) := by decide +kernel
theorem dX3_howMany_28 : decode cX3_howMany 28 = .ok (.getfield 18, 3) := by decide +kernel
theorem dX3_howMany_31 : decode cX3_howMany 31 = .ok (.if_icmp .ge 23, 3) := by decide +kernel
theorem dX3_howMany_34 : decode cX3_howMany 34 = .ok (.aload_n 0, 1) := by decide +kernel
theorem dX3_howMany_35 : decode cX3_howMany 35 = .ok (.getfield 15, 3) := by decide +kernel
theorem dX3_howMany_38 : decode cX3_howMany 38 = .ok (.iload_n 1, 1) := by decide +kernel
theorem dX3_howMany_39 : decode cX3_howMany 39 = .ok (.iaload, 1) := by decide +kernel
theorem dX3_howMany_40 : decode cX3_howMany 40 = .ok (.ifCond .eq 8, 3) := by decide +kernel
theorem dX3_howMany_43 : decode cX3_howMany 43 = .ok (.aload_n 0, 1) := by decide +kernel
theorem dX3_howMany_44 : decode cX3_howMany 44 = .ok (.iload_n 1, 1) := by decide +kernel
theorem dX3_howMany_45 : decode cX3_howMany 45 = .ok (.invokevirtual 64, 3) := by decide +kernel
theorem dX3_howMany_48 : decode cX3_howMany 48 = .ok (.iinc 1 1, 3) := by decide +kernel
theorem dX3_howMany_51 : decode cX3_howMany 51 = .ok (.goto (-25), 3) := by decide +kernel
theorem dX3_howMany_54 : decode cX3_howMany 54 = .ok (.aload_n 0, 1) := by decide +kernel
theorem dX3_howMany_55 : decode cX3_howMany 55 = .ok (.getfield 15, 3) := by decide +kernel
theorem dX3_howMany_58 : decode cX3_howMany 58 = .ok (.aload_n 0, 1) := by decide +kernel
theorem dX3_howMany_59 : decode cX3_howMany 59 = .ok (.getfield 18, 3) := by decide +kernel
theorem dX3_howMany_62 : decode cX3_howMany 62 = .ok (.iaload, 1) := by decide +kernel
theorem dX3_howMany_63 : decode cX3_howMany 63 = .ok (.i2l, 1) := by decide +kernel
theorem dX3_howMany_64 : decode cX3_howMany 64 = .ok (.lreturn, 1) := by decide +kernel
theorem dX3_addNext_0 : decode cX3_addNext 0 = .ok (.iconst 0, 1) := by decide +kernel
theorem dX3_addNext_1 : decode cX3_addNext 1 = .ok (.istore_n 2, 1) := by decide +kernel
theorem dX3_addNext_2 : decode cX3_addNext 2 = .ok (.iload_n 2, 1) := by decide +kernel
theorem dX3_addNext_3 : decode cX3_addNext 3 = .ok (.bipush 12, 2) := by decide +kernel
theorem dX3_addNext_5 : decode cX3_addNext 5 = .ok (.if_icmp .ge 37, 3) := by decide +kernel
theorem dX3_addNext_8 : decode cX3_addNext 8 = .ok (.aload_n 0, 1) := by decide +kernel
theorem dX3_addNext_9 : decode cX3_addNext 9 = .ok (.iload_n 1, 1) := by decide +kernel
theorem dX3_addNext_10 : decode cX3_addNext 10 = .ok (.iload_n 2, 1) := by decide +kernel
theorem dX3_addNext_11 : decode cX3_addNext 11 = .ok (.invokevirtual 68, 3) := by decide +kernel
theorem dX3_addNext_14 : decode cX3_addNext 14 = .ok (.ifCond .eq 22, 3) := by decide +kernel
theorem dX3_addNext_17 : decode cX3_addNext 17 = .ok (.aload_n 0, 1) := by decide +kernel
theorem dX3_addNext_18 : decode cX3_addNext 18 = .ok (.getfield 15, 3) := by decide +kernel
theorem dX3_addNext_21 : decode cX3_addNext 21 = .ok (.iload_n 1, 1) := by decide +kernel
theorem dX3_addNext_22 : decode cX3_addNext 22 = .ok (.iconst 1, 1) := by decide +kernel
theorem dX3_addNext_23 : decode cX3_addNext 23 = .ok (.iload_n 2, 1) := by decide +kernel
theorem dX3_addNext_24 : decode cX3_addNext 24 = .ok (.ishl, 1) := by decide +kernel
theorem dX3_addNext_25 : decode cX3_addNext 25 = .ok (.ior, 1) := by decide +kernel
theorem dX3_addNext_26 : decode cX3_addNext 26 = .ok (.dup2, 1) := by decide +kernel
theorem dX3_addNext_27 : decode cX3_addNext 27 = .ok (.iaload, 1) := by decide +kernel
theorem dX3_addNext_28 : decode cX3_addNext 28 = .ok (.aload_n 0, 1) := by decide +kernel
theorem dX3_addNext_29 : decode cX3_addNext 29 = .ok (.getfield 15, 3) := by decide +kernel
theorem dX3_addNext_32 : decode cX3_addNext 32 = .ok (.iload_n 1, 1) := by decide +kernel
theorem dX3_addNext_33 : decode cX3_addNext 33 = .ok (.iaload, 1) := by decide +kernel
theorem dX3_addNext_34 : decode cX3_addNext 34 = .ok (.iadd, 1) := by decide +kernel
theorem dX3_addNext_35 : decode cX3_addNext 35 = .ok (.iastore, 1) := by decide +kernel
theorem dX3_addNext_36 : decode cX3_addNext 36 = .ok (.iinc 2 1, 3) := by decide +kernel
theorem dX3_addNext_39 : decode cX3_addNext 39 = .ok (.goto (-37), 3) := by decide +kernel
theorem dX3_addNext_42 : decode cX3_addNext 42 = .ok (.return_, 1) := by decide +kernel
theorem dX3_canFollow_0 : decode cX3_canFollow 0 = .ok (.aload_n 0, 1) := by decide +kernel
theorem dX3_canFollow_1 : decode cX3_canFollow 1 = .ok (.getfield 18, 3) := by decide +kernel
theorem dX3_canFollow_4 : decode cX3_canFollow 4 = .ok (.iload_n 1, 1) := by decide +kernel
theorem dX3_canFollow_5 : decode cX3_canFollow 5 = .ok (.iconst (-1), 1) := by decide +kernel
theorem dX3_canFollow_6 : decode cX3_canFollow 6 = .ok (.ixor, 1) := by decide +kernel
theorem dX3_canFollow_7 : decode cX3_canFollow 7 = .ok (.iand, 1) := by decide +kernel
theorem dX3_canFollow_8 : decode cX3_canFollow 8 = .ok (.iload_n 2, 1) := by decide +kernel
theorem dX3_canFollow_9 : decode cX3_canFollow 9 = .ok (.invokestatic 33, 3) := by decide +kernel
theorem dX3_canFollow_12 : decode cX3_canFollow 12 = .ok (.ifCond .eq 20, 3) := by decide +kernel
theorem dX3_canFollow_15 : decode cX3_canFollow 15 = .ok (.aload_n 0, 1) := by decide +kernel
theorem dX3_canFollow_16 : decode cX3_canFollow 16 = .ok (.getfield 9, 3) := by decide +kernel
theorem dX3_canFollow_19 : decode cX3_canFollow 19 = .ok (.iload_n 2, 1) := by decide +kernel
theorem dX3_canFollow_20 : decode cX3_canFollow 20 = .ok (.iaload, 1) := by decide +kernel
theorem dX3_canFollow_21 : decode cX3_canFollow 21 = .ok (.iload_n 1, 1) := by decide +kernel
theorem dX3_canFollow_22 : decode cX3_canFollow 22 = .ok (.iconst (-1), 1) := by decide +kernel
theorem dX3_canFollow_23 : decode cX3_canFollow 23 = .ok (.ixor, 1) := by decide +kernel
theorem dX3_canFollow_24 : decode cX3_canFollow 24 = .ok (.iand, 1) := by decide +kernel
theorem dX3_canFollow_25 : decode cX3_canFollow 25 = .ok (.ifCond .ne 7, 3) := by decide +kernel
theorem dX3_canFollow_28 : decode cX3_canFollow 28 = .ok (.iconst 1, 1) := by decide +kernel
theorem dX3_canFollow_29 : decode cX3_canFollow 29 = .ok (.goto 4, 3) := by decide +kernel
theorem dX3_canFollow_32 : decode cX3_canFollow 32 = .ok (.iconst 0, 1) := by decide +kernel
theorem dX3_canFollow_33 : decode cX3_canFollow 33 = .ok (.ireturn, 1) := by decide +kernel
theorem dX3_inFirst_0 : decode cX3_inFirst 0 = .ok (.iload_n 1, 1) := by decide +kernel
theorem dX3_inFirst_1 : decode cX3_inFirst 1 = .ok (.ifCond .lt 21, 3) := by decide +kernel
theorem dX3_inFirst_4 : decode cX3_inFirst 4 = .ok (.iload_n 1, 1) := by decide +kernel
theorem dX3_inFirst_5 : decode cX3_inFirst 5 = .ok (.aload_n 0, 1) := by decide +kernel
theorem dX3_inFirst_6 : decode cX3_inFirst 6 = .ok (.getfield 18, 3) := by decide +kernel
theorem dX3_inFirst_9 : decode cX3_inFirst 9 = .ok (.invokestatic 71, 3) := by decide +kernel
theorem dX3_inFirst_12 : decode cX3_inFirst 12 = .ok (.if_icmp .ge 10, 3) := by decide +kernel
theorem dX3_inFirst_15 : decode cX3_inFirst 15 = .ok (.aload_n 0, 1) := by decide +kernel
theorem dX3_inFirst_16 : decode cX3_inFirst 16 = .ok (.invokevirtual 60, 3) := by decide +kernel
theorem dX3_inFirst_19 : decode cX3_inFirst 19 = .ok (.ifCond .eq 5, 3) := by decide +kernel
theorem dX3_inFirst_22 : decode cX3_inFirst 22 = .ok (.iconst (-1), 1) := by decide +kernel
theorem dX3_inFirst_23 : decode cX3_inFirst 23 = .ok (.ireturn, 1) := by decide +kernel
theorem dX3_inFirst_24 : decode cX3_inFirst 24 = .ok (.iconst 0, 1) := by decide +kernel
theorem dX3_inFirst_25 : decode cX3_inFirst 25 = .ok (.istore_n 2, 1) := by decide +kernel
theorem dX3_inFirst_26 : decode cX3_inFirst 26 = .ok (.iconst (-1), 1) := by decide +kernel
theorem dX3_inFirst_27 : decode cX3_inFirst 27 = .ok (.istore_n 3, 1) := by decide +kernel
theorem dX3_inFirst_28 : decode cX3_inFirst 28 = .ok (.iconst 0, 1) := by decide +kernel
theorem dX3_inFirst_29 : decode cX3_inFirst 29 = .ok (.istore 4, 2) := by decide +kernel
theorem dX3_inFirst_31 : decode cX3_inFirst 31 = .ok (.iload 4, 2) := by decide +kernel
theorem dX3_inFirst_33 : decode cX3_inFirst 33 = .ok (.iload_n 1, 1) := by decide +kernel
theorem dX3_inFirst_34 : decode cX3_inFirst 34 = .ok (.if_icmp .gt 28, 3) := by decide +kernel
theorem dX3_inFirst_37 : decode cX3_inFirst 37 = .ok (.aload_n 0, 1) := by decide +kernel
theorem dX3_inFirst_38 : decode cX3_inFirst 38 = .ok (.iload_n 2, 1) := by decide +kernel
theorem dX3_inFirst_39 : decode cX3_inFirst 39 = .ok (.invokevirtual 77, 3) := by decide +kernel
theorem dX3_inFirst_42 : decode cX3_inFirst 42 = .ok (.istore_n 3, 1) := by decide +kernel
theorem dX3_inFirst_43 : decode cX3_inFirst 43 = .ok (.iload_n 3, 1) := by decide +kernel
theorem dX3_inFirst_44 : decode cX3_inFirst 44 = .ok (.iconst (-1), 1) := by decide +kernel
theorem dX3_inFirst_45 : decode cX3_inFirst 45 = .ok (.if_icmp .ne 5, 3) := by decide +kernel
theorem dX3_inFirst_48 : decode cX3_inFirst 48 = .ok (.iconst (-1), 1) := by decide +kernel
theorem dX3_inFirst_49 : decode cX3_inFirst 49 = .ok (.ireturn, 1) := by decide +kernel
theorem dX3_inFirst_50 : decode cX3_inFirst 50 = .ok (.iload_n 2, 1) := by decide +kernel
theorem dX3_inFirst_51 : decode cX3_inFirst 51 = .ok (.iconst 1, 1) := by decide +kernel
theorem dX3_inFirst_52 : decode cX3_inFirst 52 = .ok (.iload_n 3, 1) := by decide +kernel
theorem dX3_inFirst_53 : decode cX3_inFirst 53 = .ok (.ishl, 1) := by decide +kernel
theorem dX3_inFirst_54 : decode cX3_inFirst 54 = .ok (.ior, 1) := by decide +kernel
theorem dX3_inFirst_55 : decode cX3_inFirst 55 = .ok (.istore_n 2, 1) := by decide +kernel
theorem dX3_inFirst_56 : decode cX3_inFirst 56 = .ok (.iinc 4 1, 3) := by decide +kernel
theorem dX3_inFirst_59 : decode cX3_inFirst 59 = .ok (.goto (-28), 3) := by decide +kernel
theorem dX3_inFirst_62 : decode cX3_inFirst 62 = .ok (.iload_n 3, 1) := by decide +kernel
theorem dX3_inFirst_63 : decode cX3_inFirst 63 = .ok (.ireturn, 1) := by decide +kernel
theorem dX3_leastThatCanFollow_0 : decode cX3_leastThatCanFollow 0 = .ok (.iconst 0, 1) := by decide +kernel
theorem dX3_leastThatCanFollow_1 : decode cX3_leastThatCanFollow 1 = .ok (.istore_n 2, 1) := by decide +kernel
theorem dX3_leastThatCanFollow_2 : decode cX3_leastThatCanFollow 2 = .ok (.iload_n 2, 1) := by decide +kernel
theorem dX3_leastThatCanFollow_3 : decode cX3_leastThatCanFollow 3 = .ok (.bipush 12, 2) := by decide +kernel
theorem dX3_leastThatCanFollow_5 : decode cX3_leastThatCanFollow 5 = .ok (.if_icmp .ge 20, 3) := by decide +kernel
theorem dX3_leastThatCanFollow_8 : decode cX3_leastThatCanFollow 8 = .ok (.aload_n 0, 1) := by decide +kernel
theorem dX3_leastThatCanFollow_9 : decode cX3_leastThatCanFollow 9 = .ok (.iload_n 1, 1) := by decide +kernel
theorem dX3_leastThatCanFollow_10 : decode cX3_leastThatCanFollow 10 = .ok (.iload_n 2, 1) := by decide +kernel
theorem dX3_leastThatCanFollow_11 : decode cX3_leastThatCanFollow 11 = .ok (.invokevirtual 68, 3) := by decide +kernel
theorem dX3_leastThatCanFollow_14 : decode cX3_leastThatCanFollow 14 = .ok (.ifCond .eq 5, 3) := by decide +kernel
theorem dX3_leastThatCanFollow_17 : decode cX3_leastThatCanFollow 17 = .ok (.iload_n 2, 1) := by decide +kernel
theorem dX3_leastThatCanFollow_18 : decode cX3_leastThatCanFollow 18 = .ok (.ireturn, 1) := by decide +kernel
theorem dX3_leastThatCanFollow_19 : decode cX3_leastThatCanFollow 19 = .ok (.iinc 2 1, 3) := by decide +kernel
theorem dX3_leastThatCanFollow_22 : decode cX3_leastThatCanFollow 22 = .ok (.goto (-20), 3) := by decide +kernel
theorem dX3_leastThatCanFollow_25 : decode cX3_leastThatCanFollow 25 = .ok (.iconst (-1), 1) := by decide +kernel
theorem dX3_leastThatCanFollow_26 : decode cX3_leastThatCanFollow 26 = .ok (.ireturn, 1) := by decide +kernel
theorem dX3_placesOf_0 : decode cX3_placesOf 0 = .ok (.aload_n 0, 1) := by decide +kernel
theorem dX3_placesOf_1 : decode cX3_placesOf 1 = .ok (.invokevirtual 60, 3) := by decide +kernel
theorem dX3_placesOf_4 : decode cX3_placesOf 4 = .ok (.ifCond .eq 5, 3) := by decide +kernel
theorem dX3_placesOf_7 : decode cX3_placesOf 7 = .ok (.iconst 0, 1) := by decide +kernel
theorem dX3_placesOf_8 : decode cX3_placesOf 8 = .ok (.ireturn, 1) := by decide +kernel
theorem dX3_placesOf_9 : decode cX3_placesOf 9 = .ok (.iconst 0, 1) := by decide +kernel
theorem dX3_placesOf_10 : decode cX3_placesOf 10 = .ok (.istore_n 2, 1) := by decide +kernel
theorem dX3_placesOf_11 : decode cX3_placesOf 11 = .ok (.iconst 0, 1) := by decide +kernel
theorem dX3_placesOf_12 : decode cX3_placesOf 12 = .ok (.istore_n 3, 1) := by decide +kernel
theorem dX3_placesOf_13 : decode cX3_placesOf 13 = .ok (.iload_n 3, 1) := by decide +kernel
theorem dX3_placesOf_14 : decode cX3_placesOf 14 = .ok (.bipush 12, 2) := by decide +kernel
theorem dX3_placesOf_16 : decode cX3_placesOf 16 = .ok (.if_icmp .ge 25, 3) := by decide +kernel
theorem dX3_placesOf_19 : decode cX3_placesOf 19 = .ok (.aload_n 0, 1) := by decide +kernel
theorem dX3_placesOf_20 : decode cX3_placesOf 20 = .ok (.getfield 9, 3) := by decide +kernel
theorem dX3_placesOf_23 : decode cX3_placesOf 23 = .ok (.iload_n 3, 1) := by decide +kernel
theorem dX3_placesOf_24 : decode cX3_placesOf 24 = .ok (.iaload, 1) := by decide +kernel
theorem dX3_placesOf_25 : decode cX3_placesOf 25 = .ok (.iload_n 1, 1) := by decide +kernel
theorem dX3_placesOf_26 : decode cX3_placesOf 26 = .ok (.invokestatic 33, 3) := by decide +kernel
theorem dX3_placesOf_29 : decode cX3_placesOf 29 = .ok (.ifCond .eq 6, 3) := by decide +kernel
theorem dX3_placesOf_32 : decode cX3_placesOf 32 = .ok (.iinc 2 1, 3) := by decide +kernel
theorem dX3_placesOf_35 : decode cX3_placesOf 35 = .ok (.iinc 3 1, 3) := by decide +kernel
theorem dX3_placesOf_38 : decode cX3_placesOf 38 = .ok (.goto (-25), 3) := by decide +kernel
theorem dX3_placesOf_41 : decode cX3_placesOf 41 = .ok (.aload_n 0, 1) := by decide +kernel
theorem dX3_placesOf_42 : decode cX3_placesOf 42 = .ok (.getfield 9, 3) := by decide +kernel
theorem dX3_placesOf_45 : decode cX3_placesOf 45 = .ok (.iload_n 1, 1) := by decide +kernel
theorem dX3_placesOf_46 : decode cX3_placesOf 46 = .ok (.iaload, 1) := by decide +kernel
theorem dX3_placesOf_47 : decode cX3_placesOf 47 = .ok (.invokestatic 71, 3) := by decide +kernel
theorem dX3_placesOf_50 : decode cX3_placesOf 50 = .ok (.istore_n 3, 1) := by decide +kernel
theorem dX3_placesOf_51 : decode cX3_placesOf 51 = .ok (.aload_n 0, 1) := by decide +kernel
theorem dX3_placesOf_52 : decode cX3_placesOf 52 = .ok (.getfield 18, 3) := by decide +kernel
theorem dX3_placesOf_55 : decode cX3_placesOf 55 = .ok (.invokestatic 71, 3) := by decide +kernel
theorem dX3_placesOf_58 : decode cX3_placesOf 58 = .ok (.iconst 1, 1) := by decide +kernel
theorem dX3_placesOf_59 : decode cX3_placesOf 59 = .ok (.isub, 1) := by decide +kernel
theorem dX3_placesOf_60 : decode cX3_placesOf 60 = .ok (.iload_n 2, 1) := by decide +kernel
theorem dX3_placesOf_61 : decode cX3_placesOf 61 = .ok (.isub, 1) := by decide +kernel
theorem dX3_placesOf_62 : decode cX3_placesOf 62 = .ok (.istore 4, 2) := by decide +kernel
theorem dX3_placesOf_64 : decode cX3_placesOf 64 = .ok (.iconst 0, 1) := by decide +kernel
theorem dX3_placesOf_65 : decode cX3_placesOf 65 = .ok (.istore 5, 2) := by decide +kernel
theorem dX3_placesOf_67 : decode cX3_placesOf 67 = .ok (.iload_n 3, 1) := by decide +kernel
theorem dX3_placesOf_68 : decode cX3_placesOf 68 = .ok (.istore 6, 2) := by decide +kernel
theorem dX3_placesOf_70 : decode cX3_placesOf 70 = .ok (.iload 6, 2) := by decide +kernel
theorem dX3_placesOf_72 : decode cX3_placesOf 72 = .ok (.iload 4, 2) := by decide +kernel
theorem dX3_placesOf_74 : decode cX3_placesOf 74 = .ok (.if_icmp .gt 18, 3) := by decide +kernel
theorem dX3_placesOf_77 : decode cX3_placesOf 77 = .ok (.iload 5, 2) := by decide +kernel
theorem dX3_placesOf_79 : decode cX3_placesOf 79 = .ok (.iconst 1, 1) := by decide +kernel
theorem dX3_placesOf_80 : decode cX3_placesOf 80 = .ok (.iload 6, 2) := by decide +kernel
theorem dX3_placesOf_82 : decode cX3_placesOf 82 = .ok (.ishl, 1) := by decide +kernel
theorem dX3_placesOf_83 : decode cX3_placesOf 83 = .ok (.ior, 1) := by decide +kernel
theorem dX3_placesOf_84 : decode cX3_placesOf 84 = .ok (.istore 5, 2) := by decide +kernel
theorem dX3_placesOf_86 : decode cX3_placesOf 86 = .ok (.iinc 6 1, 3) := by decide +kernel
theorem dX3_placesOf_89 : decode cX3_placesOf 89 = .ok (.goto (-19), 3) := by decide +kernel
theorem dX3_placesOf_92 : decode cX3_placesOf 92 = .ok (.iload 5, 2) := by decide +kernel
theorem dX3_placesOf_94 : decode cX3_placesOf 94 = .ok (.ireturn, 1) := by decide +kernel
theorem dX4_init_0 : decode cX4_init 0 = .ok (.aload_n 0, 1) := by decide +kernel
theorem dX4_init_1 : decode cX4_init 1 = .ok (.invokespecial 3, 3) := by decide +kernel
theorem dX4_init_4 : decode cX4_init 4 = .ok (.return_, 1) := by decide +kernel
theorem dX4_read_0 : decode cX4_read 0 = .ok (.aload_n 0, 1) := by decide +kernel
theorem dX4_read_1 : decode cX4_read 1 = .ok (.aload_n 1, 1) := by decide +kernel
theorem dX4_read_2 : decode cX4_read 2 = .ok (.putfield 9, 3) := by decide +kernel
theorem dX4_read_5 : decode cX4_read 5 = .ok (.aload_n 0, 1) := by decide +kernel
theorem dX4_read_6 : decode cX4_read 6 = .ok (.iload_n 2, 1) := by decide +kernel
theorem dX4_read_7 : decode cX4_read 7 = .ok (.aload_n 0, 1) := by decide +kernel
theorem dX4_read_8 : decode cX4_read 8 = .ok (.getfield 9, 3) := by decide +kernel
theorem dX4_read_11 : decode cX4_read 11 = .ok (.arraylength, 1) := by decide +kernel
theorem dX4_read_12 : decode cX4_read 12 = .ok (.invokestatic 15, 3) := by decide +kernel
theorem dX4_read_15 : decode cX4_read 15 = .ok (.putfield 21, 3) := by decide +kernel
theorem dX4_read_18 : decode cX4_read 18 = .ok (.aload_n 0, 1) := by decide +kernel
theorem dX4_read_19 : decode cX4_read 19 = .ok (.aload_n 3, 1) := by decide +kernel
theorem dX4_read_20 : decode cX4_read 20 = .ok (.putfield 25, 3) := by decide +kernel
theorem dX4_read_23 : decode cX4_read 23 = .ok (.aload_n 0, 1) := by decide +kernel
theorem dX4_read_24 : decode cX4_read 24 = .ok (.getfield 25, 3) := by decide +kernel
theorem dX4_read_27 : decode cX4_read 27 = .ok (.iconst 0, 1) := by decide +kernel
theorem dX4_read_28 : decode cX4_read 28 = .ok (.putfield 29, 3) := by decide +kernel
theorem dX4_read_31 : decode cX4_read 31 = .ok (.aload_n 0, 1) := by decide +kernel
theorem dX4_read_32 : decode cX4_read 32 = .ok (.iconst 0, 1) := by decide +kernel
theorem dX4_read_33 : decode cX4_read 33 = .ok (.putfield 34, 3) := by decide +kernel
theorem dX4_read_36 : decode cX4_read 36 = .ok (.aload_n 0, 1) := by decide +kernel
theorem dX4_read_37 : decode cX4_read 37 = .ok (.iconst 0, 1) := by decide +kernel
theorem dX4_read_38 : decode cX4_read 38 = .ok (.putfield 37, 3) := by decide +kernel
theorem dX4_read_41 : decode cX4_read 41 = .ok (.aload_n 0, 1) := by decide +kernel
theorem dX4_read_42 : decode cX4_read 42 = .ok (.invokevirtual 40, 3) := by decide +kernel
theorem dX4_read_45 : decode cX4_read 45 = .ok (.aload_n 0, 1) := by decide +kernel
theorem dX4_read_46 : decode cX4_read 46 = .ok (.getfield 43, 3) := by decide +kernel
theorem dX4_read_49 : decode cX4_read 49 = .ok (.aload_n 0, 1) := by decide +kernel
theorem dX4_read_50 : decode cX4_read 50 = .ok (.getfield 21, 3) := by decide +kernel
theorem dX4_read_53 : decode cX4_read 53 = .ok (.if_icmp .ge 7, 3) := by decide +kernel
theorem dX4_read_56 : decode cX4_read 56 = .ok (.iconst 1, 1) := by decide +kernel
theorem dX4_read_57 : decode cX4_read 57 = .ok (.goto 4, 3) := by decide +kernel
theorem dX4_read_60 : decode cX4_read 60 = .ok (.iconst 0, 1) := by decide +kernel
theorem dX4_read_61 : decode cX4_read 61 = .ok (.istore 4, 2) := by decide +kernel
theorem dX4_read_63 : decode cX4_read 63 = .ok (.iconst 0, 1) := by decide +kernel
theorem dX4_read_64 : decode cX4_read 64 = .ok (.istore 5, 2) := by decide +kernel
theorem dX4_read_66 : decode cX4_read 66 = .ok (.iload 4, 2) := by decide +kernel
theorem dX4_read_68 : decode cX4_read 68 = .ok (.ifCond .eq 48, 3) := by decide +kernel
theorem dX4_read_71 : decode cX4_read 71 = .ok (.iload 5, 2) := by decide +kernel
theorem dX4_read_73 : decode cX4_read 73 = .ok (.bipush 12, 2) := by decide +kernel
theorem dX4_read_75 : decode cX4_read 75 = .ok (.if_icmp .gt 41, 3) := by decide +kernel
theorem dX4_read_78 : decode cX4_read 78 = .ok (.aload_n 0, 1) := by decide +kernel
theorem dX4_read_79 : decode cX4_read 79 = .ok (.invokevirtual 46, 3) := by decide +kernel
theorem dX4_read_82 : decode cX4_read 82 = .ok (.ifCond .eq 25, 3) := by decide +kernel
theorem dX4_read_85 : decode cX4_read 85 = .ok (.aload_n 0, 1) := by decide +kernel
theorem dX4_read_86 : decode cX4_read 86 = .ok (.getfield 43, 3) := by decide +kernel
theorem dX4_read_89 : decode cX4_read 89 = .ok (.aload_n 0, 1) := by decide +kernel
theorem dX4_read_90 : decode cX4_read 90 = .ok (.getfield 21, 3) := by decide +kernel
theorem dX4_read_93 : decode cX4_read 93 = .ok (.if_icmp .ge 14, 3) := by decide +kernel
theorem dX4_read_96 : decode cX4_read 96 = .ok (.aload_n 0, 1) := by decide +kernel
theorem dX4_read_97 : decode cX4_read 97 = .ok (.invokevirtual 50, 3) := by decide +kernel
theorem dX4_read_100 : decode cX4_read 100 = .ok (.ifCond .eq 7, 3) := by decide +kernel
theorem dX4_read_103 : decode cX4_read 103 = .ok (.iconst 1, 1) := by decide +kernel
theorem dX4_read_104 : decode cX4_read 104 = .ok (.goto 4, 3) := by decide +kernel
theorem dX4_read_107 : decode cX4_read 107 = .ok (.iconst 0, 1) := by decide +kernel
theorem dX4_read_108 : decode cX4_read 108 = .ok (.istore 4, 2) := by decide +kernel
theorem dX4_read_110 : decode cX4_read 110 = .ok (.iinc 5 1, 3) := by decide +kernel
theorem dX4_read_113 : decode cX4_read 113 = .ok (.goto (-47), 3) := by decide +kernel
theorem dX4_read_116 : decode cX4_read 116 = .ok (.aload_n 0, 1) := by decide +kernel
theorem dX4_read_117 : decode cX4_read 117 = .ok (.getfield 34, 3) := by decide +kernel
theorem dX4_read_120 : decode cX4_read 120 = .ok (.ireturn, 1) := by decide +kernel
theorem dX4_readBreak_0 : decode cX4_readBreak 0 = .ok (.aload_n 0, 1) := by decide +kernel
theorem dX4_readBreak_1 : decode cX4_readBreak 1 = .ok (.getfield 53, 3) := by decide +kernel
theorem dX4_readBreak_4 : decode cX4_readBreak 4 = .ok (.bipush 59, 2) := by decide +kernel
theorem dX4_readBreak_6 : decode cX4_readBreak 6 = .ok (.if_icmp .eq 9, 3) := by decide +kernel
theorem dX4_readBreak_9 : decode cX4_readBreak 9 = .ok (.aload_n 0, 1) := by decide +kernel
theorem dX4_readBreak_10 : decode cX4_readBreak 10 = .ok (.iconst 1, 1) := by decide +kernel
theorem dX4_readBreak_11 : decode cX4_readBreak 11 = .ok (.invokevirtual 56, 3) := by decide +kernel
theorem dX4_readBreak_14 : decode cX4_readBreak 14 = .ok (.ireturn, 1) := by decide +kernel
theorem dX4_readBreak_15 : decode cX4_readBreak 15 = .ok (.aload_n 0, 1) := by decide +kernel
theorem dX4_readBreak_16 : decode cX4_readBreak 16 = .ok (.invokevirtual 40, 3) := by decide +kernel
theorem dX4_readBreak_19 : decode cX4_readBreak 19 = .ok (.iconst 1, 1) := by decide +kernel
theorem dX4_readBreak_20 : decode cX4_readBreak 20 = .ok (.ireturn, 1) := by decide +kernel
theorem dX4_readUnit_0 : decode cX4_readUnit 0 = .ok (.aload_n 0, 1) := by decide +kernel
theorem dX4_readUnit_1 : decode cX4_readUnit 1 = .ok (.ldc 60, 2) := by decide +kernel
theorem dX4_readUnit_3 : decode cX4_readUnit 3 = .ok (.invokevirtual 62, 3) := by decide +kernel
theorem dX4_readUnit_6 : decode cX4_readUnit 6 = .ok (.istore_n 1, 1) := by decide +kernel
theorem dX4_readUnit_7 : decode cX4_readUnit 7 = .ok (.iload_n 1, 1) := by decide +kernel
theorem dX4_readUnit_8 : decode cX4_readUnit 8 = .ok (.ifCond .ne 18, 3) := by decide +kernel
theorem dX4_readUnit_11 : decode cX4_readUnit 11 = .ok (.aload_n 0, 1) := by decide +kernel
theorem dX4_readUnit_12 : decode cX4_readUnit 12 = .ok (.ldc 66, 2) := by decide +kernel
theorem dX4_readUnit_14 : decode cX4_readUnit 14 = .ok (.invokevirtual 62, 3) := by decide +kernel
theorem dX4_readUnit_17 : decode cX4_readUnit 17 = .ok (.ifCond .ne 9, 3) := by decide +kernel
theorem dX4_readUnit_20 : decode cX4_readUnit 20 = .ok (.aload_n 0, 1) := by decide +kernel
theorem dX4_readUnit_21 : decode cX4_readUnit 21 = .ok (.iconst 1, 1) := by decide +kernel
theorem dX4_readUnit_22 : decode cX4_readUnit 22 = .ok (.invokevirtual 56, 3) := by decide +kernel
theorem dX4_readUnit_25 : decode cX4_readUnit 25 = .ok (.ireturn, 1) := by decide +kernel
theorem dX4_readUnit_26 : decode cX4_readUnit 26 = .ok (.aload_n 0, 1) := by decide +kernel
theorem dX4_readUnit_27 : decode cX4_readUnit 27 = .ok (.getfield 25, 3) := by decide +kernel
theorem dX4_readUnit_30 : decode cX4_readUnit 30 = .ok (.getfield 29, 3) := by decide +kernel
theorem dX4_readUnit_33 : decode cX4_readUnit 33 = .ok (.bipush 12, 2) := by decide +kernel
theorem dX4_readUnit_35 : decode cX4_readUnit 35 = .ok (.if_icmp .lt 9, 3) := by decide +kernel
theorem dX4_readUnit_38 : decode cX4_readUnit 38 = .ok (.aload_n 0, 1) := by decide +kernel
theorem dX4_readUnit_39 : decode cX4_readUnit 39 = .ok (.iconst 3, 1) := by decide +kernel
theorem dX4_readUnit_40 : decode cX4_readUnit 40 = .ok (.invokevirtual 56, 3) := by decide +kernel
theorem dX4_readUnit_43 : decode cX4_readUnit 43 = .ok (.ireturn, 1) := by decide +kernel
theorem dX4_readUnit_44 : decode cX4_readUnit 44 = .ok (.aload_n 0, 1) := by decide +kernel
theorem dX4_readUnit_45 : decode cX4_readUnit 45 = .ok (.invokevirtual 40, 3) := by decide +kernel
theorem dX4_readUnit_48 : decode cX4_readUnit 48 = .ok (.aload_n 0, 1) := by decide +kernel
theorem dX4_readUnit_49 : decode cX4_readUnit 49 = .ok (.invokevirtual 68, 3) := by decide +kernel
theorem dX4_readUnit_52 : decode cX4_readUnit 52 = .ok (.istore_n 2, 1) := by decide +kernel
theorem dX4_readUnit_53 : decode cX4_readUnit 53 = .ok (.iload_n 2, 1) := by decide +kernel
theorem dX4_readUnit_54 : decode cX4_readUnit 54 = .ok (.iconst (-1), 1) := by decide +kernel
theorem dX4_readUnit_55 : decode cX4_readUnit 55 = .ok (.if_icmp .ne 9, 3) := by decide +kernel
theorem dX4_readUnit_58 : decode cX4_readUnit 58 = .ok (.aload_n 0, 1) := by decide +kernel
theorem dX4_readUnit_59 : decode cX4_readUnit 59 = .ok (.iconst 1, 1) := by decide +kernel
theorem dX4_readUnit_60 : decode cX4_readUnit 60 = .ok (.invokevirtual 56, 3) := by decide +kernel
theorem dX4_readUnit_63 : decode cX4_readUnit 63 = .ok (.ireturn, 1) := by decide +kernel
theorem dX4_readUnit_64 : decode cX4_readUnit 64 = .ok (.aload_n 0, 1) := by decide +kernel
theorem dX4_readUnit_65 : decode cX4_readUnit 65 = .ok (.getfield 25, 3) := by decide +kernel
theorem dX4_readUnit_68 : decode cX4_readUnit 68 = .ok (.iload_n 2, 1) := by decide +kernel
theorem dX4_readUnit_69 : decode cX4_readUnit 69 = .ok (.invokevirtual 72, 3) := by decide +kernel
theorem dX4_readUnit_72 : decode cX4_readUnit 72 = .ok (.iconst (-1), 1) := by decide +kernel
theorem dX4_readUnit_73 : decode cX4_readUnit 73 = .ok (.if_icmp .eq 9, 3) := by decide +kernel
theorem dX4_readUnit_76 : decode cX4_readUnit 76 = .ok (.aload_n 0, 1) := by decide +kernel
theorem dX4_readUnit_77 : decode cX4_readUnit 77 = .ok (.iconst 2, 1) := by decide +kernel
theorem dX4_readUnit_78 : decode cX4_readUnit 78 = .ok (.invokevirtual 56, 3) := by decide +kernel
theorem dX4_readUnit_81 : decode cX4_readUnit 81 = .ok (.ireturn, 1) := by decide +kernel
theorem dX4_readUnit_82 : decode cX4_readUnit 82 = .ok (.aload_n 0, 1) := by decide +kernel
theorem dX4_readUnit_83 : decode cX4_readUnit 83 = .ok (.invokevirtual 40, 3) := by decide +kernel
theorem dX4_readUnit_86 : decode cX4_readUnit 86 = .ok (.aload_n 0, 1) := by decide +kernel
theorem dX4_readUnit_87 : decode cX4_readUnit 87 = .ok (.getfield 25, 3) := by decide +kernel
theorem dX4_readUnit_90 : decode cX4_readUnit 90 = .ok (.getfield 76, 3) := by decide +kernel
theorem dX4_readUnit_93 : decode cX4_readUnit 93 = .ok (.aload_n 0, 1) := by decide +kernel
theorem dX4_readUnit_94 : decode cX4_readUnit 94 = .ok (.getfield 25, 3) := by decide +kernel
theorem dX4_readUnit_97 : decode cX4_readUnit 97 = .ok (.getfield 29, 3) := by decide +kernel
theorem dX4_readUnit_100 : decode cX4_readUnit 100 = .ok (.aaload, 1) := by decide +kernel
theorem dX4_readUnit_101 : decode cX4_readUnit 101 = .ok (.astore_n 3, 1) := by decide +kernel
theorem dX4_readUnit_102 : decode cX4_readUnit 102 = .ok (.aload_n 3, 1) := by decide +kernel
theorem dX4_readUnit_103 : decode cX4_readUnit 103 = .ok (.iload_n 1, 1) := by decide +kernel
theorem dX4_readUnit_104 : decode cX4_readUnit 104 = .ok (.iload_n 2, 1) := by decide +kernel
theorem dX4_readUnit_105 : decode cX4_readUnit 105 = .ok (.invokevirtual 80, 3) := by decide +kernel
theorem dX4_readUnit_108 : decode cX4_readUnit 108 = .ok (.iload_n 1, 1) := by decide +kernel
theorem dX4_readUnit_109 : decode cX4_readUnit 109 = .ok (.ifCond .ne 20, 3) := by decide +kernel
theorem dX4_readUnit_112 : decode cX4_readUnit 112 = .ok (.aload_n 0, 1) := by decide +kernel
theorem dX4_readUnit_113 : decode cX4_readUnit 113 = .ok (.ldc 86, 2) := by decide +kernel
theorem dX4_readUnit_115 : decode cX4_readUnit 115 = .ok (.invokevirtual 62, 3) := by decide +kernel
theorem dX4_readUnit_118 : decode cX4_readUnit 118 = .ok (.ifCond .eq 11, 3) := by decide +kernel
theorem dX4_readUnit_121 : decode cX4_readUnit 121 = .ok (.aload_n 0, 1) := by decide +kernel
theorem dX4_readUnit_122 : decode cX4_readUnit 122 = .ok (.aload_n 3, 1) := by decide +kernel
theorem dX4_readUnit_123 : decode cX4_readUnit 123 = .ok (.invokevirtual 88, 3) := by decide +kernel
theorem dX4_readUnit_126 : decode cX4_readUnit 126 = .ok (.ifCond .eq 7, 3) := by decide +kernel
theorem dX4_readUnit_129 : decode cX4_readUnit 129 = .ok (.iconst 1, 1) := by decide +kernel
theorem dX4_readUnit_130 : decode cX4_readUnit 130 = .ok (.goto 4, 3) := by decide +kernel
theorem dX4_readUnit_133 : decode cX4_readUnit 133 = .ok (.iconst 0, 1) := by decide +kernel
theorem dX4_readUnit_134 : decode cX4_readUnit 134 = .ok (.istore 4, 2) := by decide +kernel
theorem dX4_readUnit_136 : decode cX4_readUnit 136 = .ok (.iload 4, 2) := by decide +kernel
theorem dX4_readUnit_138 : decode cX4_readUnit 138 = .ok (.ifCond .eq 24, 3) := by decide +kernel
theorem dX4_readUnit_141 : decode cX4_readUnit 141 = .ok (.aload_n 0, 1) := by decide +kernel
theorem dX4_readUnit_142 : decode cX4_readUnit 142 = .ok (.ldc 92, 2) := by decide +kernel
theorem dX4_readUnit_144 : decode cX4_readUnit 144 = .ok (.invokevirtual 62, 3) := by decide +kernel
theorem dX4_readUnit_147 : decode cX4_readUnit 147 = .ok (.ifCond .eq 11, 3) := by decide +kernel
theorem dX4_readUnit_150 : decode cX4_readUnit 150 = .ok (.aload_n 0, 1) := by decide +kernel
theorem dX4_readUnit_151 : decode cX4_readUnit 151 = .ok (.aload_n 3, 1) := by decide +kernel
theorem dX4_readUnit_152 : decode cX4_readUnit 152 = .ok (.invokevirtual 94, 3) := by decide +kernel
theorem dX4_readUnit_155 : decode cX4_readUnit 155 = .ok (.ifCond .eq 7, 3) := by decide +kernel
theorem dX4_readUnit_158 : decode cX4_readUnit 158 = .ok (.iconst 1, 1) := by decide +kernel
theorem dX4_readUnit_159 : decode cX4_readUnit 159 = .ok (.goto 4, 3) := by decide +kernel
theorem dX4_readUnit_162 : decode cX4_readUnit 162 = .ok (.iconst 0, 1) := by decide +kernel
theorem dX4_readUnit_163 : decode cX4_readUnit 163 = .ok (.istore 4, 2) := by decide +kernel
theorem dX4_readUnit_165 : decode cX4_readUnit 165 = .ok (.iload 4, 2) := by decide +kernel
theorem dX4_readUnit_167 : decode cX4_readUnit 167 = .ok (.ifCond .eq 24, 3) := by decide +kernel
theorem dX4_readUnit_170 : decode cX4_readUnit 170 = .ok (.aload_n 0, 1) := by decide +kernel
theorem dX4_readUnit_171 : decode cX4_readUnit 171 = .ok (.getfield 53, 3) := by decide +kernel
theorem dX4_readUnit_174 : decode cX4_readUnit 174 = .ok (.bipush 58, 2) := by decide +kernel
theorem dX4_readUnit_176 : decode cX4_readUnit 176 = .ok (.if_icmp .ne 11, 3) := by decide +kernel
theorem dX4_readUnit_179 : decode cX4_readUnit 179 = .ok (.aload_n 0, 1) := by decide +kernel
theorem dX4_readUnit_180 : decode cX4_readUnit 180 = .ok (.aload_n 3, 1) := by decide +kernel
theorem dX4_readUnit_181 : decode cX4_readUnit 181 = .ok (.invokevirtual 97, 3) := by decide +kernel
theorem dX4_readUnit_184 : decode cX4_readUnit 184 = .ok (.ifCond .eq 7, 3) := by decide +kernel
theorem dX4_readUnit_187 : decode cX4_readUnit 187 = .ok (.iconst 1, 1) := by decide +kernel
theorem dX4_readUnit_188 : decode cX4_readUnit 188 = .ok (.goto 4, 3) := by decide +kernel
theorem dX4_readUnit_191 : decode cX4_readUnit 191 = .ok (.iconst 0, 1) := by decide +kernel
theorem dX4_readUnit_192 : decode cX4_readUnit 192 = .ok (.istore 4, 2) := by decide +kernel
theorem dX4_readUnit_194 : decode cX4_readUnit 194 = .ok (.iload 4, 2) := by decide +kernel
theorem dX4_readUnit_196 : decode cX4_readUnit 196 = .ok (.ifCond .eq 16, 3) := by decide +kernel
theorem dX4_readUnit_199 : decode cX4_readUnit 199 = .ok (.aload_n 0, 1) := by decide +kernel
theorem dX4_readUnit_200 : decode cX4_readUnit 200 = .ok (.getfield 25, 3) := by decide +kernel
theorem dX4_readUnit_203 : decode cX4_readUnit 203 = .ok (.dup, 1) := by decide +kernel
theorem dX4_readUnit_204 : decode cX4_readUnit 204 = .ok (.getfield 29, 3) := by decide +kernel
theorem dX4_readUnit_207 : decode cX4_readUnit 207 = .ok (.iconst 1, 1) := by decide +kernel
theorem dX4_readUnit_208 : decode cX4_readUnit 208 = .ok (.iadd, 1) := by decide +kernel
theorem dX4_readUnit_209 : decode cX4_readUnit 209 = .ok (.putfield 29, 3) := by decide +kernel
theorem dX4_readUnit_212 : decode cX4_readUnit 212 = .ok (.iload 4, 2) := by decide +kernel
theorem dX4_readUnit_214 : decode cX4_readUnit 214 = .ok (.ireturn, 1) := by decide +kernel
theorem dX4_readParents_0 : decode cX4_readParents 0 = .ok (.aload_n 0, 1) := by decide +kernel
theorem dX4_readParents_1 : decode cX4_readParents 1 = .ok (.invokevirtual 40, 3) := by decide +kernel
theorem dX4_readParents_4 : decode cX4_readParents 4 = .ok (.iconst 0, 1) := by decide +kernel
theorem dX4_readParents_5 : decode cX4_readParents 5 = .ok (.istore_n 2, 1) := by decide +kernel
theorem dX4_readParents_6 : decode cX4_readParents 6 = .ok (.iload_n 2, 1) := by decide +kernel
theorem dX4_readParents_7 : decode cX4_readParents 7 = .ok (.iconst 4, 1) := by decide +kernel
theorem dX4_readParents_8 : decode cX4_readParents 8 = .ok (.if_icmp .gt 60, 3) := by decide +kernel
theorem dX4_readParents_11 : decode cX4_readParents 11 = .ok (.aload_n 0, 1) := by decide +kernel
theorem dX4_readParents_12 : decode cX4_readParents 12 = .ok (.invokevirtual 68, 3) := by decide +kernel
theorem dX4_readParents_15 : decode cX4_readParents 15 = .ok (.iconst (-1), 1) := by decide +kernel
theorem dX4_readParents_16 : decode cX4_readParents 16 = .ok (.if_icmp .ne 21, 3) := by decide +kernel
theorem dX4_readParents_19 : decode cX4_readParents 19 = .ok (.iload_n 2, 1) := by decide +kernel
theorem dX4_readParents_20 : decode cX4_readParents 20 = .ok (.ifCond .gt 11, 3) := by decide +kernel
theorem dX4_readParents_23 : decode cX4_readParents 23 = .ok (.aload_n 0, 1) := by decide +kernel
theorem dX4_readParents_24 : decode cX4_readParents 24 = .ok (.iconst 1, 1) := by decide +kernel
theorem dX4_readParents_25 : decode cX4_readParents 25 = .ok (.invokevirtual 56, 3) := by decide +kernel
theorem dX4_readParents_28 : decode cX4_readParents 28 = .ok (.ifCond .eq 7, 3) := by decide +kernel
theorem dX4_readParents_31 : decode cX4_readParents 31 = .ok (.iconst 1, 1) := by decide +kernel
theorem dX4_readParents_32 : decode cX4_readParents 32 = .ok (.goto 4, 3) := by decide +kernel
theorem dX4_readParents_35 : decode cX4_readParents 35 = .ok (.iconst 0, 1) := by decide +kernel
theorem dX4_readParents_36 : decode cX4_readParents 36 = .ok (.ireturn, 1) := by decide +kernel
theorem dX4_readParents_37 : decode cX4_readParents 37 = .ok (.aload_n 0, 1) := by decide +kernel
theorem dX4_readParents_38 : decode cX4_readParents 38 = .ok (.aload_n 1, 1) := by decide +kernel
theorem dX4_readParents_39 : decode cX4_readParents 39 = .ok (.getfield 100, 3) := by decide +kernel
theorem dX4_readParents_42 : decode cX4_readParents 42 = .ok (.iconst 0, 1) := by decide +kernel
theorem dX4_readParents_43 : decode cX4_readParents 43 = .ok (.invokevirtual 104, 3) := by decide +kernel
theorem dX4_readParents_46 : decode cX4_readParents 46 = .ok (.istore_n 3, 1) := by decide +kernel
theorem dX4_readParents_47 : decode cX4_readParents 47 = .ok (.iload_n 3, 1) := by decide +kernel
theorem dX4_readParents_48 : decode cX4_readParents 48 = .ok (.iconst (-1), 1) := by decide +kernel
theorem dX4_readParents_49 : decode cX4_readParents 49 = .ok (.if_icmp .ne 5, 3) := by decide +kernel
theorem dX4_readParents_52 : decode cX4_readParents 52 = .ok (.iconst 0, 1) := by decide +kernel
theorem dX4_readParents_53 : decode cX4_readParents 53 = .ok (.ireturn, 1) := by decide +kernel
theorem dX4_readParents_54 : decode cX4_readParents 54 = .ok (.aload_n 1, 1) := by decide +kernel
theorem dX4_readParents_55 : decode cX4_readParents 55 = .ok (.getfield 100, 3) := by decide +kernel
theorem dX4_readParents_58 : decode cX4_readParents 58 = .ok (.iload_n 3, 1) := by decide +kernel
theorem dX4_readParents_59 : decode cX4_readParents 59 = .ok (.invokevirtual 108, 3) := by decide +kernel
theorem dX4_readParents_62 : decode cX4_readParents 62 = .ok (.iinc 2 1, 3) := by decide +kernel
theorem dX4_readParents_65 : decode cX4_readParents 65 = .ok (.goto (-59), 3) := by decide +kernel
theorem dX4_readParents_68 : decode cX4_readParents 68 = .ok (.iconst 1, 1) := by decide +kernel
theorem dX4_readParents_69 : decode cX4_readParents 69 = .ok (.ireturn, 1) := by decide +kernel
theorem dX4_readTraits_0 : decode cX4_readTraits 0 = .ok (.aload_n 0, 1) := by decide +kernel
theorem dX4_readTraits_1 : decode cX4_readTraits 1 = .ok (.invokevirtual 40, 3) := by decide +kernel
theorem dX4_readTraits_4 : decode cX4_readTraits 4 = .ok (.iconst 0, 1) := by decide +kernel
theorem dX4_readTraits_5 : decode cX4_readTraits 5 = .ok (.istore_n 2, 1) := by decide +kernel
theorem dX4_readTraits_6 : decode cX4_readTraits 6 = .ok (.iload_n 2, 1) := by decide +kernel
theorem dX4_readTraits_7 : decode cX4_readTraits 7 = .ok (.iconst 4, 1) := by decide +kernel
theorem dX4_readTraits_8 : decode cX4_readTraits 8 = .ok (.if_icmp .gt 77, 3) := by decide +kernel
theorem dX4_readTraits_11 : decode cX4_readTraits 11 = .ok (.aload_n 0, 1) := by decide +kernel
theorem dX4_readTraits_12 : decode cX4_readTraits 12 = .ok (.invokevirtual 68, 3) := by decide +kernel
theorem dX4_readTraits_15 : decode cX4_readTraits 15 = .ok (.iconst (-1), 1) := by decide +kernel
theorem dX4_readTraits_16 : decode cX4_readTraits 16 = .ok (.if_icmp .ne 21, 3) := by decide +kernel
theorem dX4_readTraits_19 : decode cX4_readTraits 19 = .ok (.iload_n 2, 1) := by decide +kernel
theorem dX4_readTraits_20 : decode cX4_readTraits 20 = .ok (.ifCond .gt 11, 3) := by decide +kernel
theorem dX4_readTraits_23 : decode cX4_readTraits 23 = .ok (.aload_n 0, 1) := by decide +kernel
theorem dX4_readTraits_24 : decode cX4_readTraits 24 = .ok (.iconst 1, 1) := by decide +kernel
theorem dX4_readTraits_25 : decode cX4_readTraits 25 = .ok (.invokevirtual 56, 3) := by decide +kernel
theorem dX4_readTraits_28 : decode cX4_readTraits 28 = .ok (.ifCond .eq 7, 3) := by decide +kernel
theorem dX4_readTraits_31 : decode cX4_readTraits 31 = .ok (.iconst 1, 1) := by decide +kernel
theorem dX4_readTraits_32 : decode cX4_readTraits 32 = .ok (.goto 4, 3) := by decide +kernel
theorem dX4_readTraits_35 : decode cX4_readTraits 35 = .ok (.iconst 0, 1) := by decide +kernel
theorem dX4_readTraits_36 : decode cX4_readTraits 36 = .ok (.ireturn, 1) := by decide +kernel
theorem dX4_readTraits_37 : decode cX4_readTraits 37 = .ok (.aload_n 0, 1) := by decide +kernel
theorem dX4_readTraits_38 : decode cX4_readTraits 38 = .ok (.aload_n 1, 1) := by decide +kernel
theorem dX4_readTraits_39 : decode cX4_readTraits 39 = .ok (.getfield 114, 3) := by decide +kernel
theorem dX4_readTraits_42 : decode cX4_readTraits 42 = .ok (.iconst 1, 1) := by decide +kernel
theorem dX4_readTraits_43 : decode cX4_readTraits 43 = .ok (.invokevirtual 104, 3) := by decide +kernel
theorem dX4_readTraits_46 : decode cX4_readTraits 46 = .ok (.istore_n 3, 1) := by decide +kernel
theorem dX4_readTraits_47 : decode cX4_readTraits 47 = .ok (.iload_n 3, 1) := by decide +kernel
theorem dX4_readTraits_48 : decode cX4_readTraits 48 = .ok (.iconst (-1), 1) := by decide +kernel
theorem dX4_readTraits_49 : decode cX4_readTraits 49 = .ok (.if_icmp .ne 5, 3) := by decide +kernel
theorem dX4_readTraits_52 : decode cX4_readTraits 52 = .ok (.iconst 0, 1) := by decide +kernel
theorem dX4_readTraits_53 : decode cX4_readTraits 53 = .ok (.ireturn, 1) := by decide +kernel
theorem dX4_readTraits_54 : decode cX4_readTraits 54 = .ok (.aload_n 1, 1) := by decide +kernel
theorem dX4_readTraits_55 : decode cX4_readTraits 55 = .ok (.iload_n 3, 1) := by decide +kernel
theorem dX4_readTraits_56 : decode cX4_readTraits 56 = .ok (.invokevirtual 117, 3) := by decide +kernel
theorem dX4_readTraits_59 : decode cX4_readTraits 59 = .ok (.aload_n 0, 1) := by decide +kernel
theorem dX4_readTraits_60 : decode cX4_readTraits 60 = .ok (.getfield 53, 3) := by decide +kernel
theorem dX4_readTraits_63 : decode cX4_readTraits 63 = .ok (.bipush 40, 2) := by decide +kernel
theorem dX4_readTraits_65 : decode cX4_readTraits 65 = .ok (.if_icmp .ne 14, 3) := by decide +kernel
theorem dX4_readTraits_68 : decode cX4_readTraits 68 = .ok (.aload_n 0, 1) := by decide +kernel
theorem dX4_readTraits_69 : decode cX4_readTraits 69 = .ok (.aload_n 1, 1) := by decide +kernel
theorem dX4_readTraits_70 : decode cX4_readTraits 70 = .ok (.iload_n 2, 1) := by decide +kernel
theorem dX4_readTraits_71 : decode cX4_readTraits 71 = .ok (.invokevirtual 120, 3) := by decide +kernel
theorem dX4_readTraits_74 : decode cX4_readTraits 74 = .ok (.ifCond .ne 5, 3) := by decide +kernel
theorem dX4_readTraits_77 : decode cX4_readTraits 77 = .ok (.iconst 0, 1) := by decide +kernel
theorem dX4_readTraits_78 : decode cX4_readTraits 78 = .ok (.ireturn, 1) := by decide +kernel
theorem dX4_readTraits_79 : decode cX4_readTraits 79 = .ok (.iinc 2 1, 3) := by decide +kernel
theorem dX4_readTraits_82 : decode cX4_readTraits 82 = .ok (.goto (-76), 3) := by decide +kernel
theorem dX4_readTraits_85 : decode cX4_readTraits 85 = .ok (.iconst 1, 1) := by decide +kernel
theorem dX4_readTraits_86 : decode cX4_readTraits 86 = .ok (.ireturn, 1) := by decide +kernel
theorem dX4_readOfRow_0 : decode cX4_readOfRow 0 = .ok (.aload_n 0, 1) := by decide +kernel
theorem dX4_readOfRow_1 : decode cX4_readOfRow 1 = .ok (.getfield 25, 3) := by decide +kernel
theorem dX4_readOfRow_4 : decode cX4_readOfRow 4 = .ok (.aload_n 0, 1) := by decide +kernel
theorem dX4_readOfRow_5 : decode cX4_readOfRow 5 = .ok (.invokevirtual 68, 3) := by decide +kernel
theorem dX4_readOfRow_8 : decode cX4_readOfRow 8 = .ok (.invokevirtual 72, 3) := by decide +kernel
theorem dX4_readOfRow_11 : decode cX4_readOfRow 11 = .ok (.istore_n 3, 1) := by decide +kernel
theorem dX4_readOfRow_12 : decode cX4_readOfRow 12 = .ok (.iload_n 2, 1) := by decide +kernel
theorem dX4_readOfRow_13 : decode cX4_readOfRow 13 = .ok (.ifCond .eq 14, 3) := by decide +kernel
theorem dX4_readOfRow_16 : decode cX4_readOfRow 16 = .ok (.aload_n 0, 1) := by decide +kernel
theorem dX4_readOfRow_17 : decode cX4_readOfRow 17 = .ok (.getfield 25, 3) := by decide +kernel
theorem dX4_readOfRow_20 : decode cX4_readOfRow 20 = .ok (.iload_n 3, 1) := by decide +kernel
theorem dX4_readOfRow_21 : decode cX4_readOfRow 21 = .ok (.invokevirtual 124, 3) := by decide +kernel
theorem dX4_readOfRow_24 : decode cX4_readOfRow 24 = .ok (.goto 11, 3) := by decide +kernel
theorem dX4_readOfRow_27 : decode cX4_readOfRow 27 = .ok (.aload_n 0, 1) := by decide +kernel
theorem dX4_readOfRow_28 : decode cX4_readOfRow 28 = .ok (.getfield 25, 3) := by decide +kernel
theorem dX4_readOfRow_31 : decode cX4_readOfRow 31 = .ok (.iload_n 3, 1) := by decide +kernel
theorem dX4_readOfRow_32 : decode cX4_readOfRow 32 = .ok (.invokevirtual 127, 3) := by decide +kernel
theorem dX4_readOfRow_35 : decode cX4_readOfRow 35 = .ok (.istore 4, 2) := by decide +kernel
theorem dX4_readOfRow_37 : decode cX4_readOfRow 37 = .ok (.iload 4, 2) := by decide +kernel
theorem dX4_readOfRow_39 : decode cX4_readOfRow 39 = .ok (.ifCond .eq 12, 3) := by decide +kernel
theorem dX4_readOfRow_42 : decode cX4_readOfRow 42 = .ok (.aload_n 1, 1) := by decide +kernel
theorem dX4_readOfRow_43 : decode cX4_readOfRow 43 = .ok (.iload_n 3, 1) := by decide +kernel
theorem dX4_readOfRow_44 : decode cX4_readOfRow 44 = .ok (.invokevirtual 130, 3) := by decide +kernel
theorem dX4_readOfRow_47 : decode cX4_readOfRow 47 = .ok (.iconst (-1), 1) := by decide +kernel
theorem dX4_readOfRow_48 : decode cX4_readOfRow 48 = .ok (.if_icmp .eq 11, 3) := by decide +kernel
theorem dX4_readOfRow_51 : decode cX4_readOfRow 51 = .ok (.aload_n 0, 1) := by decide +kernel
theorem dX4_readOfRow_52 : decode cX4_readOfRow 52 = .ok (.iconst 2, 1) := by decide +kernel
theorem dX4_readOfRow_53 : decode cX4_readOfRow 53 = .ok (.invokevirtual 56, 3) := by decide +kernel
theorem dX4_readOfRow_56 : decode cX4_readOfRow 56 = .ok (.pop, 1) := by decide +kernel
theorem dX4_readOfRow_57 : decode cX4_readOfRow 57 = .ok (.iconst (-1), 1) := by decide +kernel
theorem dX4_readOfRow_58 : decode cX4_readOfRow 58 = .ok (.ireturn, 1) := by decide +kernel
theorem dX4_readOfRow_59 : decode cX4_readOfRow 59 = .ok (.aload_n 1, 1) := by decide +kernel
theorem dX4_readOfRow_60 : decode cX4_readOfRow 60 = .ok (.getfield 133, 3) := by decide +kernel
theorem dX4_readOfRow_63 : decode cX4_readOfRow 63 = .ok (.iconst 4, 1) := by decide +kernel
theorem dX4_readOfRow_64 : decode cX4_readOfRow 64 = .ok (.if_icmp .lt 11, 3) := by decide +kernel
theorem dX4_readOfRow_67 : decode cX4_readOfRow 67 = .ok (.aload_n 0, 1) := by decide +kernel
theorem dX4_readOfRow_68 : decode cX4_readOfRow 68 = .ok (.iconst 3, 1) := by decide +kernel
theorem dX4_readOfRow_69 : decode cX4_readOfRow 69 = .ok (.invokevirtual 56, 3) := by decide +kernel
theorem dX4_readOfRow_72 : decode cX4_readOfRow 72 = .ok (.pop, 1) := by decide +kernel
theorem dX4_readOfRow_73 : decode cX4_readOfRow 73 = .ok (.iconst (-1), 1) := by decide +kernel
theorem dX4_readOfRow_74 : decode cX4_readOfRow 74 = .ok (.ireturn, 1) := by decide +kernel
theorem dX4_readOfRow_75 : decode cX4_readOfRow 75 = .ok (.aload_n 0, 1) := by decide +kernel
theorem dX4_readOfRow_76 : decode cX4_readOfRow 76 = .ok (.invokevirtual 40, 3) := by decide +kernel
theorem dX4_readOfRow_79 : decode cX4_readOfRow 79 = .ok (.iload_n 3, 1) := by decide +kernel
theorem dX4_readOfRow_80 : decode cX4_readOfRow 80 = .ok (.ireturn, 1) := by decide +kernel
theorem dX4_readChanges_0 : decode cX4_readChanges 0 = .ok (.aload_n 0, 1) := by decide +kernel
theorem dX4_readChanges_1 : decode cX4_readChanges 1 = .ok (.invokevirtual 40, 3) := by decide +kernel
theorem dX4_readChanges_4 : decode cX4_readChanges 4 = .ok (.aload_n 0, 1) := by decide +kernel
theorem dX4_readChanges_5 : decode cX4_readChanges 5 = .ok (.iconst 0, 1) := by decide +kernel
theorem dX4_readChanges_6 : decode cX4_readChanges 6 = .ok (.putfield 134, 3) := by decide +kernel
theorem dX4_readChanges_9 : decode cX4_readChanges 9 = .ok (.iconst 0, 1) := by decide +kernel
theorem dX4_readChanges_10 : decode cX4_readChanges 10 = .ok (.istore_n 3, 1) := by decide +kernel
theorem dX4_readChanges_11 : decode cX4_readChanges 11 = .ok (.iload_n 3, 1) := by decide +kernel
theorem dX4_readChanges_12 : decode cX4_readChanges 12 = .ok (.bipush 6, 2) := by decide +kernel
theorem dX4_readChanges_14 : decode cX4_readChanges 14 = .ok (.if_icmp .gt 40, 3) := by decide +kernel
theorem dX4_readChanges_17 : decode cX4_readChanges 17 = .ok (.iload_n 3, 1) := by decide +kernel
theorem dX4_readChanges_18 : decode cX4_readChanges 18 = .ok (.ifCond .le 18, 3) := by decide +kernel
theorem dX4_readChanges_21 : decode cX4_readChanges 21 = .ok (.aload_n 0, 1) := by decide +kernel
theorem dX4_readChanges_22 : decode cX4_readChanges 22 = .ok (.getfield 53, 3) := by decide +kernel
theorem dX4_readChanges_25 : decode cX4_readChanges 25 = .ok (.bipush 41, 2) := by decide +kernel
theorem dX4_readChanges_27 : decode cX4_readChanges 27 = .ok (.if_icmp .ne 9, 3) := by decide +kernel
theorem dX4_readChanges_30 : decode cX4_readChanges 30 = .ok (.aload_n 0, 1) := by decide +kernel
theorem dX4_readChanges_31 : decode cX4_readChanges 31 = .ok (.invokevirtual 40, 3) := by decide +kernel
theorem dX4_readChanges_34 : decode cX4_readChanges 34 = .ok (.iconst 1, 1) := by decide +kernel
theorem dX4_readChanges_35 : decode cX4_readChanges 35 = .ok (.ireturn, 1) := by decide +kernel
theorem dX4_readChanges_36 : decode cX4_readChanges 36 = .ok (.aload_n 0, 1) := by decide +kernel
theorem dX4_readChanges_37 : decode cX4_readChanges 37 = .ok (.aload_n 1, 1) := by decide +kernel
theorem dX4_readChanges_38 : decode cX4_readChanges 38 = .ok (.iload_n 2, 1) := by decide +kernel
theorem dX4_readChanges_39 : decode cX4_readChanges 39 = .ok (.iload_n 3, 1) := by decide +kernel
theorem dX4_readChanges_40 : decode cX4_readChanges 40 = .ok (.invokevirtual 137, 3) := by decide +kernel
theorem dX4_readChanges_43 : decode cX4_readChanges 43 = .ok (.ifCond .ne 5, 3) := by decide +kernel
theorem dX4_readChanges_46 : decode cX4_readChanges 46 = .ok (.iconst 0, 1) := by decide +kernel
theorem dX4_readChanges_47 : decode cX4_readChanges 47 = .ok (.ireturn, 1) := by decide +kernel
theorem dX4_readChanges_48 : decode cX4_readChanges 48 = .ok (.iinc 3 1, 3) := by decide +kernel
theorem dX4_readChanges_51 : decode cX4_readChanges 51 = .ok (.goto (-40), 3) := by decide +kernel
theorem dX4_readChanges_54 : decode cX4_readChanges 54 = .ok (.iconst 1, 1) := by decide +kernel
theorem dX4_readChanges_55 : decode cX4_readChanges 55 = .ok (.ireturn, 1) := by decide +kernel
theorem dX4_readChange_0 : decode cX4_readChange 0 = .ok (.aload_n 0, 1) := by decide +kernel
theorem dX4_readChange_1 : decode cX4_readChange 1 = .ok (.getfield 53, 3) := by decide +kernel
theorem dX4_readChange_4 : decode cX4_readChange 4 = .ok (.bipush 45, 2) := by decide +kernel
theorem dX4_readChange_6 : decode cX4_readChange 6 = .ok (.if_icmp .ne 7, 3) := by decide +kernel
theorem dX4_readChange_9 : decode cX4_readChange 9 = .ok (.iconst 1, 1) := by decide +kernel
theorem dX4_readChange_10 : decode cX4_readChange 10 = .ok (.goto 4, 3) := by decide +kernel
theorem dX4_readChange_13 : decode cX4_readChange 13 = .ok (.iconst 0, 1) := by decide +kernel
theorem dX4_readChange_14 : decode cX4_readChange 14 = .ok (.istore 4, 2) := by decide +kernel
theorem dX4_readChange_16 : decode cX4_readChange 16 = .ok (.iload 4, 2) := by decide +kernel
theorem dX4_readChange_18 : decode cX4_readChange 18 = .ok (.ifCond .eq 19, 3) := by decide +kernel
theorem dX4_readChange_21 : decode cX4_readChange 21 = .ok (.iload_n 3, 1) := by decide +kernel
theorem dX4_readChange_22 : decode cX4_readChange 22 = .ok (.bipush 6, 2) := by decide +kernel
theorem dX4_readChange_24 : decode cX4_readChange 24 = .ok (.if_icmp .lt 9, 3) := by decide +kernel
theorem dX4_readChange_27 : decode cX4_readChange 27 = .ok (.aload_n 0, 1) := by decide +kernel
theorem dX4_readChange_28 : decode cX4_readChange 28 = .ok (.iconst 3, 1) := by decide +kernel
theorem dX4_readChange_29 : decode cX4_readChange 29 = .ok (.invokevirtual 56, 3) := by decide +kernel
theorem dX4_readChange_32 : decode cX4_readChange 32 = .ok (.ireturn, 1) := by decide +kernel
theorem dX4_readChange_33 : decode cX4_readChange 33 = .ok (.aload_n 0, 1) := by decide +kernel
theorem dX4_readChange_34 : decode cX4_readChange 34 = .ok (.invokevirtual 40, 3) := by decide +kernel
theorem dX4_readChange_37 : decode cX4_readChange 37 = .ok (.aload_n 0, 1) := by decide +kernel
theorem dX4_readChange_38 : decode cX4_readChange 38 = .ok (.invokevirtual 141, 3) := by decide +kernel
theorem dX4_readChange_41 : decode cX4_readChange 41 = .ok (.istore 5, 2) := by decide +kernel
theorem dX4_readChange_43 : decode cX4_readChange 43 = .ok (.iload 5, 2) := by decide +kernel
theorem dX4_readChange_45 : decode cX4_readChange 45 = .ok (.iconst (-1), 1) := by decide +kernel
theorem dX4_readChange_46 : decode cX4_readChange 46 = .ok (.if_icmp .ne 9, 3) := by decide +kernel
theorem dX4_readChange_49 : decode cX4_readChange 49 = .ok (.aload_n 0, 1) := by decide +kernel
theorem dX4_readChange_50 : decode cX4_readChange 50 = .ok (.iconst 1, 1) := by decide +kernel
theorem dX4_readChange_51 : decode cX4_readChange 51 = .ok (.invokevirtual 56, 3) := by decide +kernel
theorem dX4_readChange_54 : decode cX4_readChange 54 = .ok (.ireturn, 1) := by decide +kernel
theorem dX4_readChange_55 : decode cX4_readChange 55 = .ok (.aload_n 0, 1) := by decide +kernel
theorem dX4_readChange_56 : decode cX4_readChange 56 = .ok (.getfield 134, 3) := by decide +kernel
theorem dX4_readChange_59 : decode cX4_readChange 59 = .ok (.iload 5, 2) := by decide +kernel
theorem dX4_readChange_61 : decode cX4_readChange 61 = .ok (.invokestatic 144, 3) := by decide +kernel
theorem dX4_readChange_64 : decode cX4_readChange 64 = .ok (.ifCond .eq 9, 3) := by decide +kernel
theorem dX4_readChange_67 : decode cX4_readChange 67 = .ok (.aload_n 0, 1) := by decide +kernel
theorem dX4_readChange_68 : decode cX4_readChange 68 = .ok (.iconst 2, 1) := by decide +kernel
theorem dX4_readChange_69 : decode cX4_readChange 69 = .ok (.invokevirtual 56, 3) := by decide +kernel
theorem dX4_readChange_72 : decode cX4_readChange 72 = .ok (.ireturn, 1) := by decide +kernel
theorem dX4_readChange_73 : decode cX4_readChange 73 = .ok (.iload_n 3, 1) := by decide +kernel
theorem dX4_readChange_74 : decode cX4_readChange 74 = .ok (.bipush 6, 2) := by decide +kernel
theorem dX4_readChange_76 : decode cX4_readChange 76 = .ok (.if_icmp .lt 9, 3) := by decide +kernel
theorem dX4_readChange_79 : decode cX4_readChange 79 = .ok (.aload_n 0, 1) := by decide +kernel
theorem dX4_readChange_80 : decode cX4_readChange 80 = .ok (.iconst 3, 1) := by decide +kernel
theorem dX4_readChange_81 : decode cX4_readChange 81 = .ok (.invokevirtual 56, 3) := by decide +kernel
theorem dX4_readChange_84 : decode cX4_readChange 84 = .ok (.ireturn, 1) := by decide +kernel
theorem dX4_readChange_85 : decode cX4_readChange 85 = .ok (.aload_n 0, 1) := by decide +kernel
theorem dX4_readChange_86 : decode cX4_readChange 86 = .ok (.dup, 1) := by decide +kernel
theorem dX4_readChange_87 : decode cX4_readChange 87 = .ok (.getfield 134, 3) := by decide +kernel
theorem dX4_readChange_90 : decode cX4_readChange 90 = .ok (.iconst 1, 1) := by decide +kernel
theorem dX4_readChange_91 : decode cX4_readChange 91 = .ok (.iload 5, 2) := by decide +kernel
theorem dX4_readChange_93 : decode cX4_readChange 93 = .ok (.ishl, 1) := by decide +kernel
theorem dX4_readChange_94 : decode cX4_readChange 94 = .ok (.ior, 1) := by decide +kernel
theorem dX4_readChange_95 : decode cX4_readChange 95 = .ok (.putfield 134, 3) := by decide +kernel
theorem dX4_readChange_98 : decode cX4_readChange 98 = .ok (.aload_n 0, 1) := by decide +kernel
theorem dX4_readChange_99 : decode cX4_readChange 99 = .ok (.invokevirtual 40, 3) := by decide +kernel
theorem dX4_readChange_102 : decode cX4_readChange 102 = .ok (.iconst (-1), 1) := by decide +kernel
theorem dX4_readChange_103 : decode cX4_readChange 103 = .ok (.istore 6, 2) := by decide +kernel
theorem dX4_readChange_105 : decode cX4_readChange 105 = .ok (.iload 4, 2) := by decide +kernel
theorem dX4_readChange_107 : decode cX4_readChange 107 = .ok (.ifCond .ne 44, 3) := by decide +kernel
theorem dX4_readChange_110 : decode cX4_readChange 110 = .ok (.aload_n 0, 1) := by decide +kernel
theorem dX4_readChange_111 : decode cX4_readChange 111 = .ok (.getfield 53, 3) := by decide +kernel
theorem dX4_readChange_114 : decode cX4_readChange 114 = .ok (.bipush 62, 2) := by decide +kernel
theorem dX4_readChange_116 : decode cX4_readChange 116 = .ok (.if_icmp .eq 9, 3) := by decide +kernel
theorem dX4_readChange_119 : decode cX4_readChange 119 = .ok (.aload_n 0, 1) := by decide +kernel
theorem dX4_readChange_120 : decode cX4_readChange 120 = .ok (.iconst 1, 1) := by decide +kernel
theorem dX4_readChange_121 : decode cX4_readChange 121 = .ok (.invokevirtual 56, 3) := by decide +kernel
theorem dX4_readChange_124 : decode cX4_readChange 124 = .ok (.ireturn, 1) := by decide +kernel
theorem dX4_readChange_125 : decode cX4_readChange 125 = .ok (.aload_n 0, 1) := by decide +kernel
theorem dX4_readChange_126 : decode cX4_readChange 126 = .ok (.invokevirtual 40, 3) := by decide +kernel
theorem dX4_readChange_129 : decode cX4_readChange 129 = .ok (.aload_n 0, 1) := by decide +kernel
theorem dX4_readChange_130 : decode cX4_readChange 130 = .ok (.invokevirtual 141, 3) := by decide +kernel
theorem dX4_readChange_133 : decode cX4_readChange 133 = .ok (.istore 6, 2) := by decide +kernel
theorem dX4_readChange_135 : decode cX4_readChange 135 = .ok (.iload 6, 2) := by decide +kernel
theorem dX4_readChange_137 : decode cX4_readChange 137 = .ok (.iconst (-1), 1) := by decide +kernel
theorem dX4_readChange_138 : decode cX4_readChange 138 = .ok (.if_icmp .ne 9, 3) := by decide +kernel
theorem dX4_readChange_141 : decode cX4_readChange 141 = .ok (.aload_n 0, 1) := by decide +kernel
theorem dX4_readChange_142 : decode cX4_readChange 142 = .ok (.iconst 1, 1) := by decide +kernel
theorem dX4_readChange_143 : decode cX4_readChange 143 = .ok (.invokevirtual 56, 3) := by decide +kernel
theorem dX4_readChange_146 : decode cX4_readChange 146 = .ok (.ireturn, 1) := by decide +kernel
theorem dX4_readChange_147 : decode cX4_readChange 147 = .ok (.aload_n 0, 1) := by decide +kernel
theorem dX4_readChange_148 : decode cX4_readChange 148 = .ok (.invokevirtual 40, 3) := by decide +kernel
theorem dX4_readChange_151 : decode cX4_readChange 151 = .ok (.aload_n 1, 1) := by decide +kernel
theorem dX4_readChange_152 : decode cX4_readChange 152 = .ok (.iload_n 2, 1) := by decide +kernel
theorem dX4_readChange_153 : decode cX4_readChange 153 = .ok (.iload 5, 2) := by decide +kernel
theorem dX4_readChange_155 : decode cX4_readChange 155 = .ok (.iload 6, 2) := by decide +kernel
theorem dX4_readChange_157 : decode cX4_readChange 157 = .ok (.invokevirtual 148, 3) := by decide +kernel
theorem dX4_readChange_160 : decode cX4_readChange 160 = .ok (.iconst 1, 1) := by decide +kernel
theorem dX4_readChange_161 : decode cX4_readChange 161 = .ok (.ireturn, 1) := by decide +kernel
theorem dX4_readMembers_0 : decode cX4_readMembers 0 = .ok (.aload_n 0, 1) := by decide +kernel
theorem dX4_readMembers_1 : decode cX4_readMembers 1 = .ok (.invokevirtual 40, 3) := by decide +kernel
theorem dX4_readMembers_4 : decode cX4_readMembers 4 = .ok (.iconst 0, 1) := by decide +kernel
theorem dX4_readMembers_5 : decode cX4_readMembers 5 = .ok (.istore_n 2, 1) := by decide +kernel
theorem dX4_readMembers_6 : decode cX4_readMembers 6 = .ok (.iload_n 2, 1) := by decide +kernel
theorem dX4_readMembers_7 : decode cX4_readMembers 7 = .ok (.bipush 8, 2) := by decide +kernel
theorem dX4_readMembers_9 : decode cX4_readMembers 9 = .ok (.if_icmp .gt 128, 3) := by decide +kernel
theorem dX4_readMembers_12 : decode cX4_readMembers 12 = .ok (.aload_n 0, 1) := by decide +kernel
theorem dX4_readMembers_13 : decode cX4_readMembers 13 = .ok (.invokevirtual 141, 3) := by decide +kernel
theorem dX4_readMembers_16 : decode cX4_readMembers 16 = .ok (.istore_n 3, 1) := by decide +kernel
theorem dX4_readMembers_17 : decode cX4_readMembers 17 = .ok (.iload_n 3, 1) := by decide +kernel
theorem dX4_readMembers_18 : decode cX4_readMembers 18 = .ok (.iconst (-1), 1) := by decide +kernel
theorem dX4_readMembers_19 : decode cX4_readMembers 19 = .ok (.if_icmp .ne 21, 3) := by decide +kernel
theorem dX4_readMembers_22 : decode cX4_readMembers 22 = .ok (.iload_n 2, 1) := by decide +kernel
theorem dX4_readMembers_23 : decode cX4_readMembers 23 = .ok (.ifCond .gt 11, 3) := by decide +kernel
theorem dX4_readMembers_26 : decode cX4_readMembers 26 = .ok (.aload_n 0, 1) := by decide +kernel
theorem dX4_readMembers_27 : decode cX4_readMembers 27 = .ok (.iconst 1, 1) := by decide +kernel
theorem dX4_readMembers_28 : decode cX4_readMembers 28 = .ok (.invokevirtual 56, 3) := by decide +kernel
theorem dX4_readMembers_31 : decode cX4_readMembers 31 = .ok (.ifCond .eq 7, 3) := by decide +kernel
theorem dX4_readMembers_34 : decode cX4_readMembers 34 = .ok (.iconst 1, 1) := by decide +kernel
theorem dX4_readMembers_35 : decode cX4_readMembers 35 = .ok (.goto 4, 3) := by decide +kernel
theorem dX4_readMembers_38 : decode cX4_readMembers 38 = .ok (.iconst 0, 1) := by decide +kernel
theorem dX4_readMembers_39 : decode cX4_readMembers 39 = .ok (.ireturn, 1) := by decide +kernel
theorem dX4_readMembers_40 : decode cX4_readMembers 40 = .ok (.aload_n 1, 1) := by decide +kernel
theorem dX4_readMembers_41 : decode cX4_readMembers 41 = .ok (.iload_n 3, 1) := by decide +kernel
theorem dX4_readMembers_42 : decode cX4_readMembers 42 = .ok (.invokevirtual 152, 3) := by decide +kernel
theorem dX4_readMembers_45 : decode cX4_readMembers 45 = .ok (.ifCond .eq 9, 3) := by decide +kernel
theorem dX4_readMembers_48 : decode cX4_readMembers 48 = .ok (.aload_n 0, 1) := by decide +kernel
theorem dX4_readMembers_49 : decode cX4_readMembers 49 = .ok (.iconst 2, 1) := by decide +kernel
theorem dX4_readMembers_50 : decode cX4_readMembers 50 = .ok (.invokevirtual 56, 3) := by decide +kernel
theorem dX4_readMembers_53 : decode cX4_readMembers 53 = .ok (.ireturn, 1) := by decide +kernel
theorem dX4_readMembers_54 : decode cX4_readMembers 54 = .ok (.iload_n 2, 1) := by decide +kernel
theorem dX4_readMembers_55 : decode cX4_readMembers 55 = .ok (.bipush 8, 2) := by decide +kernel
theorem dX4_readMembers_57 : decode cX4_readMembers 57 = .ok (.if_icmp .lt 9, 3) := by decide +kernel
theorem dX4_readMembers_60 : decode cX4_readMembers 60 = .ok (.aload_n 0, 1) := by decide +kernel
theorem dX4_readMembers_61 : decode cX4_readMembers 61 = .ok (.iconst 3, 1) := by decide +kernel
theorem dX4_readMembers_62 : decode cX4_readMembers 62 = .ok (.invokevirtual 56, 3) := by decide +kernel
theorem dX4_readMembers_65 : decode cX4_readMembers 65 = .ok (.ireturn, 1) := by decide +kernel
theorem dX4_readMembers_66 : decode cX4_readMembers 66 = .ok (.aload_n 1, 1) := by decide +kernel
theorem dX4_readMembers_67 : decode cX4_readMembers 67 = .ok (.iload_n 3, 1) := by decide +kernel
theorem dX4_readMembers_68 : decode cX4_readMembers 68 = .ok (.invokevirtual 155, 3) := by decide +kernel
theorem dX4_readMembers_71 : decode cX4_readMembers 71 = .ok (.aload_n 0, 1) := by decide +kernel
theorem dX4_readMembers_72 : decode cX4_readMembers 72 = .ok (.invokevirtual 40, 3) := by decide +kernel
theorem dX4_readMembers_75 : decode cX4_readMembers 75 = .ok (.aload_n 0, 1) := by decide +kernel
theorem dX4_readMembers_76 : decode cX4_readMembers 76 = .ok (.getfield 53, 3) := by decide +kernel
theorem dX4_readMembers_79 : decode cX4_readMembers 79 = .ok (.bipush 61, 2) := by decide +kernel
theorem dX4_readMembers_81 : decode cX4_readMembers 81 = .ok (.if_icmp .ne 7, 3) := by decide +kernel
theorem dX4_readMembers_84 : decode cX4_readMembers 84 = .ok (.iconst 1, 1) := by decide +kernel
theorem dX4_readMembers_85 : decode cX4_readMembers 85 = .ok (.goto 4, 3) := by decide +kernel
theorem dX4_readMembers_88 : decode cX4_readMembers 88 = .ok (.iconst 0, 1) := by decide +kernel
theorem dX4_readMembers_89 : decode cX4_readMembers 89 = .ok (.istore 4, 2) := by decide +kernel
theorem dX4_readMembers_91 : decode cX4_readMembers 91 = .ok (.iload 4, 2) := by decide +kernel
theorem dX4_readMembers_93 : decode cX4_readMembers 93 = .ok (.ifCond .ne 18, 3) := by decide +kernel
theorem dX4_readMembers_96 : decode cX4_readMembers 96 = .ok (.aload_n 0, 1) := by decide +kernel
theorem dX4_readMembers_97 : decode cX4_readMembers 97 = .ok (.getfield 53, 3) := by decide +kernel
theorem dX4_readMembers_100 : decode cX4_readMembers 100 = .ok (.bipush 63, 2) := by decide +kernel
theorem dX4_readMembers_102 : decode cX4_readMembers 102 = .ok (.if_icmp .eq 9, 3) := by decide +kernel
theorem dX4_readMembers_105 : decode cX4_readMembers 105 = .ok (.aload_n 0, 1) := by decide +kernel
theorem dX4_readMembers_106 : decode cX4_readMembers 106 = .ok (.iconst 1, 1) := by decide +kernel
theorem dX4_readMembers_107 : decode cX4_readMembers 107 = .ok (.invokevirtual 56, 3) := by decide +kernel
theorem dX4_readMembers_110 : decode cX4_readMembers 110 = .ok (.ireturn, 1) := by decide +kernel
theorem dX4_readMembers_111 : decode cX4_readMembers 111 = .ok (.aload_n 0, 1) := by decide +kernel
theorem dX4_readMembers_112 : decode cX4_readMembers 112 = .ok (.invokevirtual 40, 3) := by decide +kernel
theorem dX4_readMembers_115 : decode cX4_readMembers 115 = .ok (.iload 4, 2) := by decide +kernel
theorem dX4_readMembers_117 : decode cX4_readMembers 117 = .ok (.ifCond .eq 14, 3) := by decide +kernel
theorem dX4_readMembers_120 : decode cX4_readMembers 120 = .ok (.aload_n 0, 1) := by decide +kernel
theorem dX4_readMembers_121 : decode cX4_readMembers 121 = .ok (.aload_n 1, 1) := by decide +kernel
theorem dX4_readMembers_122 : decode cX4_readMembers 122 = .ok (.iload_n 3, 1) := by decide +kernel
theorem dX4_readMembers_123 : decode cX4_readMembers 123 = .ok (.invokevirtual 158, 3) := by decide +kernel
theorem dX4_readMembers_126 : decode cX4_readMembers 126 = .ok (.ifCond .ne 5, 3) := by decide +kernel
theorem dX4_readMembers_129 : decode cX4_readMembers 129 = .ok (.iconst 0, 1) := by decide +kernel
theorem dX4_readMembers_130 : decode cX4_readMembers 130 = .ok (.ireturn, 1) := by decide +kernel
theorem dX4_readMembers_131 : decode cX4_readMembers 131 = .ok (.iinc 2 1, 3) := by decide +kernel
theorem dX4_readMembers_134 : decode cX4_readMembers 134 = .ok (.goto (-128), 3) := by decide +kernel
theorem dX4_readMembers_137 : decode cX4_readMembers 137 = .ok (.iconst 1, 1) := by decide +kernel
theorem dX4_readMembers_138 : decode cX4_readMembers 138 = .ok (.ireturn, 1) := by decide +kernel
theorem dX4_readTerms_0 : decode cX4_readTerms 0 = .ok (.iconst 0, 1) := by decide +kernel
theorem dX4_readTerms_1 : decode cX4_readTerms 1 = .ok (.istore_n 3, 1) := by decide +kernel
theorem dX4_readTerms_2 : decode cX4_readTerms 2 = .ok (.iload_n 3, 1) := by decide +kernel
theorem dX4_readTerms_3 : decode cX4_readTerms 3 = .ok (.iconst 4, 1) := by decide +kernel
theorem dX4_readTerms_4 : decode cX4_readTerms 4 = .ok (.if_icmp .gt 74, 3) := by decide +kernel
theorem dX4_readTerms_7 : decode cX4_readTerms 7 = .ok (.aload_n 0, 1) := by decide +kernel
theorem dX4_readTerms_8 : decode cX4_readTerms 8 = .ok (.invokevirtual 161, 3) := by decide +kernel
theorem dX4_readTerms_11 : decode cX4_readTerms 11 = .ok (.istore 4, 2) := by decide +kernel
theorem dX4_readTerms_13 : decode cX4_readTerms 13 = .ok (.iload 4, 2) := by decide +kernel
theorem dX4_readTerms_15 : decode cX4_readTerms 15 = .ok (.ifCond .ge 20, 3) := by decide +kernel
theorem dX4_readTerms_18 : decode cX4_readTerms 18 = .ok (.aload_n 0, 1) := by decide +kernel
theorem dX4_readTerms_19 : decode cX4_readTerms 19 = .ok (.iload 4, 2) := by decide +kernel
theorem dX4_readTerms_21 : decode cX4_readTerms 21 = .ok (.bipush (-2), 2) := by decide +kernel
theorem dX4_readTerms_23 : decode cX4_readTerms 23 = .ok (.if_icmp .ne 7, 3) := by decide +kernel
theorem dX4_readTerms_26 : decode cX4_readTerms 26 = .ok (.iconst 2, 1) := by decide +kernel
theorem dX4_readTerms_27 : decode cX4_readTerms 27 = .ok (.goto 4, 3) := by decide +kernel
theorem dX4_readTerms_30 : decode cX4_readTerms 30 = .ok (.iconst 1, 1) := by decide +kernel
theorem dX4_readTerms_31 : decode cX4_readTerms 31 = .ok (.invokevirtual 56, 3) := by decide +kernel
theorem dX4_readTerms_34 : decode cX4_readTerms 34 = .ok (.ireturn, 1) := by decide +kernel
theorem dX4_readTerms_35 : decode cX4_readTerms 35 = .ok (.iload_n 3, 1) := by decide +kernel
theorem dX4_readTerms_36 : decode cX4_readTerms 36 = .ok (.iconst 4, 1) := by decide +kernel
theorem dX4_readTerms_37 : decode cX4_readTerms 37 = .ok (.if_icmp .lt 9, 3) := by decide +kernel
theorem dX4_readTerms_40 : decode cX4_readTerms 40 = .ok (.aload_n 0, 1) := by decide +kernel
theorem dX4_readTerms_41 : decode cX4_readTerms 41 = .ok (.iconst 3, 1) := by decide +kernel
theorem dX4_readTerms_42 : decode cX4_readTerms 42 = .ok (.invokevirtual 56, 3) := by decide +kernel
theorem dX4_readTerms_45 : decode cX4_readTerms 45 = .ok (.ireturn, 1) := by decide +kernel
theorem dX4_readTerms_46 : decode cX4_readTerms 46 = .ok (.aload_n 1, 1) := by decide +kernel
theorem dX4_readTerms_47 : decode cX4_readTerms 47 = .ok (.iload_n 2, 1) := by decide +kernel
theorem dX4_readTerms_48 : decode cX4_readTerms 48 = .ok (.iload 4, 2) := by decide +kernel
theorem dX4_readTerms_50 : decode cX4_readTerms 50 = .ok (.invokevirtual 164, 3) := by decide +kernel
theorem dX4_readTerms_53 : decode cX4_readTerms 53 = .ok (.aload_n 0, 1) := by decide +kernel
theorem dX4_readTerms_54 : decode cX4_readTerms 54 = .ok (.invokevirtual 40, 3) := by decide +kernel
theorem dX4_readTerms_57 : decode cX4_readTerms 57 = .ok (.aload_n 0, 1) := by decide +kernel
theorem dX4_readTerms_58 : decode cX4_readTerms 58 = .ok (.getfield 53, 3) := by decide +kernel
theorem dX4_readTerms_61 : decode cX4_readTerms 61 = .ok (.bipush 43, 2) := by decide +kernel
theorem dX4_readTerms_63 : decode cX4_readTerms 63 = .ok (.if_icmp .eq 5, 3) := by decide +kernel
theorem dX4_readTerms_66 : decode cX4_readTerms 66 = .ok (.iconst 1, 1) := by decide +kernel
theorem dX4_readTerms_67 : decode cX4_readTerms 67 = .ok (.ireturn, 1) := by decide +kernel
theorem dX4_readTerms_68 : decode cX4_readTerms 68 = .ok (.aload_n 0, 1) := by decide +kernel
theorem dX4_readTerms_69 : decode cX4_readTerms 69 = .ok (.invokevirtual 40, 3) := by decide +kernel
theorem dX4_readTerms_72 : decode cX4_readTerms 72 = .ok (.iinc 3 1, 3) := by decide +kernel
theorem dX4_readTerms_75 : decode cX4_readTerms 75 = .ok (.goto (-73), 3) := by decide +kernel
theorem dX4_readTerms_78 : decode cX4_readTerms 78 = .ok (.iconst 1, 1) := by decide +kernel
theorem dX4_readTerms_79 : decode cX4_readTerms 79 = .ok (.ireturn, 1) := by decide +kernel
theorem dX4_termHere_0 : decode cX4_termHere 0 = .ok (.aload_n 0, 1) := by decide +kernel
theorem dX4_termHere_1 : decode cX4_termHere 1 = .ok (.getfield 53, 3) := by decide +kernel
theorem dX4_termHere_4 : decode cX4_termHere 4 = .ok (.bipush 48, 2) := by decide +kernel
theorem dX4_termHere_6 : decode cX4_termHere 6 = .ok (.if_icmp .lt 17, 3) := by decide +kernel
theorem dX4_termHere_9 : decode cX4_termHere 9 = .ok (.aload_n 0, 1) := by decide +kernel
theorem dX4_termHere_10 : decode cX4_termHere 10 = .ok (.getfield 53, 3) := by decide +kernel
theorem dX4_termHere_13 : decode cX4_termHere 13 = .ok (.bipush 57, 2) := by decide +kernel
theorem dX4_termHere_15 : decode cX4_termHere 15 = .ok (.if_icmp .gt 8, 3) := by decide +kernel
theorem dX4_termHere_18 : decode cX4_termHere 18 = .ok (.aload_n 0, 1) := by decide +kernel
theorem dX4_termHere_19 : decode cX4_termHere 19 = .ok (.invokevirtual 168, 3) := by decide +kernel
theorem dX4_termHere_22 : decode cX4_termHere 22 = .ok (.ireturn, 1) := by decide +kernel
theorem dX4_termHere_23 : decode cX4_termHere 23 = .ok (.aload_n 0, 1) := by decide +kernel
theorem dX4_termHere_24 : decode cX4_termHere 24 = .ok (.ldc 171, 2) := by decide +kernel
theorem dX4_termHere_26 : decode cX4_termHere 26 = .ok (.invokevirtual 62, 3) := by decide +kernel
theorem dX4_termHere_29 : decode cX4_termHere 29 = .ok (.ifCond .eq 7, 3) := by decide +kernel
theorem dX4_termHere_32 : decode cX4_termHere 32 = .ok (.sipush 1000, 3) := by decide +kernel
theorem dX4_termHere_35 : decode cX4_termHere 35 = .ok (.ireturn, 1) := by decide +kernel
theorem dX4_termHere_36 : decode cX4_termHere 36 = .ok (.aload_n 0, 1) := by decide +kernel
theorem dX4_termHere_37 : decode cX4_termHere 37 = .ok (.invokevirtual 141, 3) := by decide +kernel
theorem dX4_termHere_40 : decode cX4_termHere 40 = .ok (.istore_n 1, 1) := by decide +kernel
theorem dX4_termHere_41 : decode cX4_termHere 41 = .ok (.iload_n 1, 1) := by decide +kernel
theorem dX4_termHere_42 : decode cX4_termHere 42 = .ok (.iconst (-1), 1) := by decide +kernel
theorem dX4_termHere_43 : decode cX4_termHere 43 = .ok (.if_icmp .ne 7, 3) := by decide +kernel
theorem dX4_termHere_46 : decode cX4_termHere 46 = .ok (.iconst (-1), 1) := by decide +kernel
theorem dX4_termHere_47 : decode cX4_termHere 47 = .ok (.goto 8, 3) := by decide +kernel
theorem dX4_termHere_50 : decode cX4_termHere 50 = .ok (.sipush 1001, 3) := by decide +kernel
theorem dX4_termHere_53 : decode cX4_termHere 53 = .ok (.iload_n 1, 1) := by decide +kernel
theorem dX4_termHere_54 : decode cX4_termHere 54 = .ok (.iadd, 1) := by decide +kernel
theorem dX4_termHere_55 : decode cX4_termHere 55 = .ok (.ireturn, 1) := by decide +kernel
theorem dX4_numberHere_0 : decode cX4_numberHere 0 = .ok (.iconst 0, 1) := by decide +kernel
theorem dX4_numberHere_1 : decode cX4_numberHere 1 = .ok (.istore_n 1, 1) := by decide +kernel
theorem dX4_numberHere_2 : decode cX4_numberHere 2 = .ok (.aload_n 0, 1) := by decide +kernel
theorem dX4_numberHere_3 : decode cX4_numberHere 3 = .ok (.getfield 43, 3) := by decide +kernel
theorem dX4_numberHere_6 : decode cX4_numberHere 6 = .ok (.istore_n 2, 1) := by decide +kernel
theorem dX4_numberHere_7 : decode cX4_numberHere 7 = .ok (.iload_n 2, 1) := by decide +kernel
theorem dX4_numberHere_8 : decode cX4_numberHere 8 = .ok (.aload_n 0, 1) := by decide +kernel
theorem dX4_numberHere_9 : decode cX4_numberHere 9 = .ok (.getfield 37, 3) := by decide +kernel
theorem dX4_numberHere_12 : decode cX4_numberHere 12 = .ok (.if_icmp .ge 34, 3) := by decide +kernel
theorem dX4_numberHere_15 : decode cX4_numberHere 15 = .ok (.iload_n 1, 1) := by decide +kernel
theorem dX4_numberHere_16 : decode cX4_numberHere 16 = .ok (.bipush 10, 2) := by decide +kernel
theorem dX4_numberHere_18 : decode cX4_numberHere 18 = .ok (.imul, 1) := by decide +kernel
theorem dX4_numberHere_19 : decode cX4_numberHere 19 = .ok (.aload_n 0, 1) := by decide +kernel
theorem dX4_numberHere_20 : decode cX4_numberHere 20 = .ok (.getfield 9, 3) := by decide +kernel
theorem dX4_numberHere_23 : decode cX4_numberHere 23 = .ok (.iload_n 2, 1) := by decide +kernel
theorem dX4_numberHere_24 : decode cX4_numberHere 24 = .ok (.baload, 1) := by decide +kernel
theorem dX4_numberHere_25 : decode cX4_numberHere 25 = .ok (.iadd, 1) := by decide +kernel
theorem dX4_numberHere_26 : decode cX4_numberHere 26 = .ok (.bipush 48, 2) := by decide +kernel
theorem dX4_numberHere_28 : decode cX4_numberHere 28 = .ok (.isub, 1) := by decide +kernel
theorem dX4_numberHere_29 : decode cX4_numberHere 29 = .ok (.istore_n 1, 1) := by decide +kernel
theorem dX4_numberHere_30 : decode cX4_numberHere 30 = .ok (.iload_n 1, 1) := by decide +kernel
theorem dX4_numberHere_31 : decode cX4_numberHere 31 = .ok (.sipush 999, 3) := by decide +kernel
theorem dX4_numberHere_34 : decode cX4_numberHere 34 = .ok (.if_icmp .le 6, 3) := by decide +kernel
theorem dX4_numberHere_37 : decode cX4_numberHere 37 = .ok (.bipush (-2), 2) := by decide +kernel
theorem dX4_numberHere_39 : decode cX4_numberHere 39 = .ok (.ireturn, 1) := by decide +kernel
theorem dX4_numberHere_40 : decode cX4_numberHere 40 = .ok (.iinc 2 1, 3) := by decide +kernel
theorem dX4_numberHere_43 : decode cX4_numberHere 43 = .ok (.goto (-36), 3) := by decide +kernel
theorem dX4_numberHere_46 : decode cX4_numberHere 46 = .ok (.iload_n 1, 1) := by decide +kernel
theorem dX4_numberHere_47 : decode cX4_numberHere 47 = .ok (.ireturn, 1) := by decide +kernel
theorem dX4_nameHere_0 : decode cX4_nameHere 0 = .ok (.aload_n 0, 1) := by decide +kernel
theorem dX4_nameHere_1 : decode cX4_nameHere 1 = .ok (.getfield 53, 3) := by decide +kernel
theorem dX4_nameHere_4 : decode cX4_nameHere 4 = .ok (.bipush 65, 2) := by decide +kernel
theorem dX4_nameHere_6 : decode cX4_nameHere 6 = .ok (.if_icmp .lt 22, 3) := by decide +kernel
theorem dX4_nameHere_9 : decode cX4_nameHere 9 = .ok (.aload_n 0, 1) := by decide +kernel
theorem dX4_nameHere_10 : decode cX4_nameHere 10 = .ok (.getfield 53, 3) := by decide +kernel
theorem dX4_nameHere_13 : decode cX4_nameHere 13 = .ok (.bipush 90, 2) := by decide +kernel
theorem dX4_nameHere_15 : decode cX4_nameHere 15 = .ok (.if_icmp .gt 13, 3) := by decide +kernel
theorem dX4_nameHere_18 : decode cX4_nameHere 18 = .ok (.aload_n 0, 1) := by decide +kernel
theorem dX4_nameHere_19 : decode cX4_nameHere 19 = .ok (.getfield 53, 3) := by decide +kernel
theorem dX4_nameHere_22 : decode cX4_nameHere 22 = .ok (.bipush 65, 2) := by decide +kernel
theorem dX4_nameHere_24 : decode cX4_nameHere 24 = .ok (.isub, 1) := by decide +kernel
theorem dX4_nameHere_25 : decode cX4_nameHere 25 = .ok (.goto 4, 3) := by decide +kernel
theorem dX4_nameHere_28 : decode cX4_nameHere 28 = .ok (.iconst (-1), 1) := by decide +kernel
theorem dX4_nameHere_29 : decode cX4_nameHere 29 = .ok (.ireturn, 1) := by decide +kernel
theorem dX4_memberHere_0 : decode cX4_memberHere 0 = .ok (.aload_n 0, 1) := by decide +kernel
theorem dX4_memberHere_1 : decode cX4_memberHere 1 = .ok (.getfield 37, 3) := by decide +kernel
theorem dX4_memberHere_4 : decode cX4_memberHere 4 = .ok (.aload_n 0, 1) := by decide +kernel
theorem dX4_memberHere_5 : decode cX4_memberHere 5 = .ok (.getfield 43, 3) := by decide +kernel
theorem dX4_memberHere_8 : decode cX4_memberHere 8 = .ok (.iconst 1, 1) := by decide +kernel
theorem dX4_memberHere_9 : decode cX4_memberHere 9 = .ok (.iadd, 1) := by decide +kernel
theorem dX4_memberHere_10 : decode cX4_memberHere 10 = .ok (.if_icmp .ne 31, 3) := by decide +kernel
theorem dX4_memberHere_13 : decode cX4_memberHere 13 = .ok (.aload_n 0, 1) := by decide +kernel
theorem dX4_memberHere_14 : decode cX4_memberHere 14 = .ok (.getfield 53, 3) := by decide +kernel
theorem dX4_memberHere_17 : decode cX4_memberHere 17 = .ok (.bipush 97, 2) := by decide +kernel
theorem dX4_memberHere_19 : decode cX4_memberHere 19 = .ok (.if_icmp .lt 22, 3) := by decide +kernel
theorem dX4_memberHere_22 : decode cX4_memberHere 22 = .ok (.aload_n 0, 1) := by decide +kernel
theorem dX4_memberHere_23 : decode cX4_memberHere 23 = .ok (.getfield 53, 3) := by decide +kernel
theorem dX4_memberHere_26 : decode cX4_memberHere 26 = .ok (.bipush 122, 2) := by decide +kernel
theorem dX4_memberHere_28 : decode cX4_memberHere 28 = .ok (.if_icmp .gt 13, 3) := by decide +kernel
theorem dX4_memberHere_31 : decode cX4_memberHere 31 = .ok (.aload_n 0, 1) := by decide +kernel
theorem dX4_memberHere_32 : decode cX4_memberHere 32 = .ok (.getfield 53, 3) := by decide +kernel
theorem dX4_memberHere_35 : decode cX4_memberHere 35 = .ok (.bipush 97, 2) := by decide +kernel
theorem dX4_memberHere_37 : decode cX4_memberHere 37 = .ok (.isub, 1) := by decide +kernel
theorem dX4_memberHere_38 : decode cX4_memberHere 38 = .ok (.goto 4, 3) := by decide +kernel
theorem dX4_memberHere_41 : decode cX4_memberHere 41 = .ok (.iconst (-1), 1) := by decide +kernel
theorem dX4_memberHere_42 : decode cX4_memberHere 42 = .ok (.ireturn, 1) := by decide +kernel
theorem dX4_isWord_0 : decode cX4_isWord 0 = .ok (.aload_n 0, 1) := by decide +kernel
theorem dX4_isWord_1 : decode cX4_isWord 1 = .ok (.getfield 37, 3) := by decide +kernel
theorem dX4_isWord_4 : decode cX4_isWord 4 = .ok (.aload_n 0, 1) := by decide +kernel
theorem dX4_isWord_5 : decode cX4_isWord 5 = .ok (.getfield 43, 3) := by decide +kernel
theorem dX4_isWord_8 : decode cX4_isWord 8 = .ok (.isub, 1) := by decide +kernel
theorem dX4_isWord_9 : decode cX4_isWord 9 = .ok (.aload_n 1, 1) := by decide +kernel
theorem dX4_isWord_10 : decode cX4_isWord 10 = .ok (.invokevirtual 173, 3) := by decide +kernel
theorem dX4_isWord_13 : decode cX4_isWord 13 = .ok (.if_icmp .eq 5, 3) := by decide +kernel
theorem dX4_isWord_16 : decode cX4_isWord 16 = .ok (.iconst 0, 1) := by decide +kernel
theorem dX4_isWord_17 : decode cX4_isWord 17 = .ok (.ireturn, 1) := by decide +kernel
theorem dX4_isWord_18 : decode cX4_isWord 18 = .ok (.iconst 0, 1) := by decide +kernel
theorem dX4_isWord_19 : decode cX4_isWord 19 = .ok (.istore_n 2, 1) := by decide +kernel
theorem dX4_isWord_20 : decode cX4_isWord 20 = .ok (.iload_n 2, 1) := by decide +kernel
theorem dX4_isWord_21 : decode cX4_isWord 21 = .ok (.aload_n 1, 1) := by decide +kernel
theorem dX4_isWord_22 : decode cX4_isWord 22 = .ok (.invokevirtual 173, 3) := by decide +kernel
theorem dX4_isWord_25 : decode cX4_isWord 25 = .ok (.if_icmp .ge 30, 3) := by decide +kernel
theorem dX4_isWord_28 : decode cX4_isWord 28 = .ok (.aload_n 0, 1) := by decide +kernel
theorem dX4_isWord_29 : decode cX4_isWord 29 = .ok (.getfield 9, 3) := by decide +kernel
theorem dX4_isWord_32 : decode cX4_isWord 32 = .ok (.aload_n 0, 1) := by decide +kernel
theorem dX4_isWord_33 : decode cX4_isWord 33 = .ok (.getfield 43, 3) := by decide +kernel
theorem dX4_isWord_36 : decode cX4_isWord 36 = .ok (.iload_n 2, 1) := by decide +kernel
theorem dX4_isWord_37 : decode cX4_isWord 37 = .ok (.iadd, 1) := by decide +kernel
theorem dX4_isWord_38 : decode cX4_isWord 38 = .ok (.baload, 1) := by decide +kernel
theorem dX4_isWord_39 : decode cX4_isWord 39 = .ok (.aload_n 1, 1) := by decide +kernel
theorem dX4_isWord_40 : decode cX4_isWord 40 = .ok (.iload_n 2, 1) := by decide +kernel
theorem dX4_isWord_41 : decode cX4_isWord 41 = .ok (.invokevirtual 177, 3) := by decide +kernel
theorem dX4_isWord_44 : decode cX4_isWord 44 = .ok (.if_icmp .eq 5, 3) := by decide +kernel
theorem dX4_isWord_47 : decode cX4_isWord 47 = .ok (.iconst 0, 1) := by decide +kernel
theorem dX4_isWord_48 : decode cX4_isWord 48 = .ok (.ireturn, 1) := by decide +kernel
theorem dX4_isWord_49 : decode cX4_isWord 49 = .ok (.iinc 2 1, 3) := by decide +kernel
theorem dX4_isWord_52 : decode cX4_isWord 52 = .ok (.goto (-32), 3) := by decide +kernel
theorem dX4_isWord_55 : decode cX4_isWord 55 = .ok (.iconst 1, 1) := by decide +kernel
theorem dX4_isWord_56 : decode cX4_isWord 56 = .ok (.ireturn, 1) := by decide +kernel
theorem dX4_pass_0 : decode cX4_pass 0 = .ok (.aload_n 0, 1) := by decide +kernel
theorem dX4_pass_1 : decode cX4_pass 1 = .ok (.aload_n 0, 1) := by decide +kernel
theorem dX4_pass_2 : decode cX4_pass 2 = .ok (.getfield 37, 3) := by decide +kernel
theorem dX4_pass_5 : decode cX4_pass 5 = .ok (.putfield 43, 3) := by decide +kernel
theorem dX4_pass_8 : decode cX4_pass 8 = .ok (.aload_n 0, 1) := by decide +kernel
theorem dX4_pass_9 : decode cX4_pass 9 = .ok (.getfield 43, 3) := by decide +kernel
theorem dX4_pass_12 : decode cX4_pass 12 = .ok (.aload_n 0, 1) := by decide +kernel
theorem dX4_pass_13 : decode cX4_pass 13 = .ok (.getfield 21, 3) := by decide +kernel
theorem dX4_pass_16 : decode cX4_pass 16 = .ok (.if_icmp .ge 30, 3) := by decide +kernel
theorem dX4_pass_19 : decode cX4_pass 19 = .ok (.aload_n 0, 1) := by decide +kernel
theorem dX4_pass_20 : decode cX4_pass 20 = .ok (.getfield 9, 3) := by decide +kernel
theorem dX4_pass_23 : decode cX4_pass 23 = .ok (.aload_n 0, 1) := by decide +kernel
theorem dX4_pass_24 : decode cX4_pass 24 = .ok (.getfield 43, 3) := by decide +kernel
theorem dX4_pass_27 : decode cX4_pass 27 = .ok (.baload, 1) := by decide +kernel
theorem dX4_pass_28 : decode cX4_pass 28 = .ok (.bipush 32, 2) := by decide +kernel
theorem dX4_pass_30 : decode cX4_pass 30 = .ok (.if_icmp .ne 16, 3) := by decide +kernel
theorem dX4_pass_33 : decode cX4_pass 33 = .ok (.aload_n 0, 1) := by decide +kernel
theorem dX4_pass_34 : decode cX4_pass 34 = .ok (.dup, 1) := by decide +kernel
theorem dX4_pass_35 : decode cX4_pass 35 = .ok (.getfield 43, 3) := by decide +kernel
theorem dX4_pass_38 : decode cX4_pass 38 = .ok (.iconst 1, 1) := by decide +kernel
theorem dX4_pass_39 : decode cX4_pass 39 = .ok (.iadd, 1) := by decide +kernel
theorem dX4_pass_40 : decode cX4_pass 40 = .ok (.putfield 43, 3) := by decide +kernel
theorem dX4_pass_43 : decode cX4_pass 43 = .ok (.goto (-35), 3) := by decide +kernel
theorem dX4_pass_46 : decode cX4_pass 46 = .ok (.aload_n 0, 1) := by decide +kernel
theorem dX4_pass_47 : decode cX4_pass 47 = .ok (.aload_n 0, 1) := by decide +kernel
theorem dX4_pass_48 : decode cX4_pass 48 = .ok (.getfield 43, 3) := by decide +kernel
theorem dX4_pass_51 : decode cX4_pass 51 = .ok (.putfield 37, 3) := by decide +kernel
theorem dX4_pass_54 : decode cX4_pass 54 = .ok (.aload_n 0, 1) := by decide +kernel
theorem dX4_pass_55 : decode cX4_pass 55 = .ok (.getfield 43, 3) := by decide +kernel
theorem dX4_pass_58 : decode cX4_pass 58 = .ok (.aload_n 0, 1) := by decide +kernel
theorem dX4_pass_59 : decode cX4_pass 59 = .ok (.getfield 21, 3) := by decide +kernel
theorem dX4_pass_62 : decode cX4_pass 62 = .ok (.if_icmp .lt 11, 3) := by decide +kernel
theorem dX4_pass_65 : decode cX4_pass 65 = .ok (.aload_n 0, 1) := by decide +kernel
theorem dX4_pass_66 : decode cX4_pass 66 = .ok (.sipush 256, 3) := by decide +kernel
theorem dX4_pass_69 : decode cX4_pass 69 = .ok (.putfield 53, 3) := by decide +kernel
theorem dX4_pass_72 : decode cX4_pass 72 = .ok (.return_, 1) := by decide +kernel
theorem dX4_pass_73 : decode cX4_pass 73 = .ok (.aload_n 0, 1) := by decide +kernel
theorem dX4_pass_74 : decode cX4_pass 74 = .ok (.aload_n 0, 1) := by decide +kernel
theorem dX4_pass_75 : decode cX4_pass 75 = .ok (.getfield 9, 3) := by decide +kernel
theorem dX4_pass_78 : decode cX4_pass 78 = .ok (.aload_n 0, 1) := by decide +kernel
theorem dX4_pass_79 : decode cX4_pass 79 = .ok (.getfield 43, 3) := by decide +kernel
theorem dX4_pass_82 : decode cX4_pass 82 = .ok (.baload, 1) := by decide +kernel
theorem dX4_pass_83 : decode cX4_pass 83 = .ok (.putfield 53, 3) := by decide +kernel
theorem dX4_pass_86 : decode cX4_pass 86 = .ok (.aload_n 0, 1) := by decide +kernel
theorem dX4_pass_87 : decode cX4_pass 87 = .ok (.getfield 53, 3) := by decide +kernel
theorem dX4_pass_90 : decode cX4_pass 90 = .ok (.bipush 97, 2) := by decide +kernel
theorem dX4_pass_92 : decode cX4_pass 92 = .ok (.if_icmp .lt 16, 3) := by decide +kernel
theorem dX4_pass_95 : decode cX4_pass 95 = .ok (.aload_n 0, 1) := by decide +kernel
theorem dX4_pass_96 : decode cX4_pass 96 = .ok (.getfield 53, 3) := by decide +kernel
theorem dX4_pass_99 : decode cX4_pass 99 = .ok (.bipush 122, 2) := by decide +kernel
theorem dX4_pass_101 : decode cX4_pass 101 = .ok (.if_icmp .gt 7, 3) := by decide +kernel
theorem dX4_pass_104 : decode cX4_pass 104 = .ok (.iconst 1, 1) := by decide +kernel
theorem dX4_pass_105 : decode cX4_pass 105 = .ok (.goto 4, 3) := by decide +kernel
theorem dX4_pass_108 : decode cX4_pass 108 = .ok (.iconst 0, 1) := by decide +kernel
theorem dX4_pass_109 : decode cX4_pass 109 = .ok (.istore_n 1, 1) := by decide +kernel
theorem dX4_pass_110 : decode cX4_pass 110 = .ok (.iload_n 1, 1) := by decide +kernel
theorem dX4_pass_111 : decode cX4_pass 111 = .ok (.ifCond .eq 8, 3) := by decide +kernel
theorem dX4_pass_114 : decode cX4_pass 114 = .ok (.bipush 97, 2) := by decide +kernel
theorem dX4_pass_116 : decode cX4_pass 116 = .ok (.goto 5, 3) := by decide +kernel
theorem dX4_pass_119 : decode cX4_pass 119 = .ok (.bipush 48, 2) := by decide +kernel
theorem dX4_pass_121 : decode cX4_pass 121 = .ok (.istore_n 2, 1) := by decide +kernel
theorem dX4_pass_122 : decode cX4_pass 122 = .ok (.iload_n 1, 1) := by decide +kernel
theorem dX4_pass_123 : decode cX4_pass 123 = .ok (.ifCond .eq 8, 3) := by decide +kernel
theorem dX4_pass_126 : decode cX4_pass 126 = .ok (.bipush 122, 2) := by decide +kernel
theorem dX4_pass_128 : decode cX4_pass 128 = .ok (.goto 5, 3) := by decide +kernel
theorem dX4_pass_131 : decode cX4_pass 131 = .ok (.bipush 57, 2) := by decide +kernel
theorem dX4_pass_133 : decode cX4_pass 133 = .ok (.istore_n 3, 1) := by decide +kernel
theorem dX4_pass_134 : decode cX4_pass 134 = .ok (.aload_n 0, 1) := by decide +kernel
theorem dX4_pass_135 : decode cX4_pass 135 = .ok (.getfield 37, 3) := by decide +kernel
theorem dX4_pass_138 : decode cX4_pass 138 = .ok (.aload_n 0, 1) := by decide +kernel
theorem dX4_pass_139 : decode cX4_pass 139 = .ok (.getfield 21, 3) := by decide +kernel
theorem dX4_pass_142 : decode cX4_pass 142 = .ok (.if_icmp .ge 42, 3) := by decide +kernel
theorem dX4_pass_145 : decode cX4_pass 145 = .ok (.aload_n 0, 1) := by decide +kernel
theorem dX4_pass_146 : decode cX4_pass 146 = .ok (.getfield 9, 3) := by decide +kernel
theorem dX4_pass_149 : decode cX4_pass 149 = .ok (.aload_n 0, 1) := by decide +kernel
theorem dX4_pass_150 : decode cX4_pass 150 = .ok (.getfield 37, 3) := by decide +kernel
theorem dX4_pass_153 : decode cX4_pass 153 = .ok (.baload, 1) := by decide +kernel
theorem dX4_pass_154 : decode cX4_pass 154 = .ok (.iload_n 2, 1) := by decide +kernel
theorem dX4_pass_155 : decode cX4_pass 155 = .ok (.if_icmp .lt 29, 3) := by decide +kernel
theorem dX4_pass_158 : decode cX4_pass 158 = .ok (.aload_n 0, 1) := by decide +kernel
theorem dX4_pass_159 : decode cX4_pass 159 = .ok (.getfield 9, 3) := by decide +kernel
theorem dX4_pass_162 : decode cX4_pass 162 = .ok (.aload_n 0, 1) := by decide +kernel
theorem dX4_pass_163 : decode cX4_pass 163 = .ok (.getfield 37, 3) := by decide +kernel
theorem dX4_pass_166 : decode cX4_pass 166 = .ok (.baload, 1) := by decide +kernel
theorem dX4_pass_167 : decode cX4_pass 167 = .ok (.iload_n 3, 1) := by decide +kernel
theorem dX4_pass_168 : decode cX4_pass 168 = .ok (.if_icmp .gt 16, 3) := by decide +kernel
theorem dX4_pass_171 : decode cX4_pass 171 = .ok (.aload_n 0, 1) := by decide +kernel
theorem dX4_pass_172 : decode cX4_pass 172 = .ok (.dup, 1) := by decide +kernel
theorem dX4_pass_173 : decode cX4_pass 173 = .ok (.getfield 37, 3) := by decide +kernel
theorem dX4_pass_176 : decode cX4_pass 176 = .ok (.iconst 1, 1) := by decide +kernel
theorem dX4_pass_177 : decode cX4_pass 177 = .ok (.iadd, 1) := by decide +kernel
theorem dX4_pass_178 : decode cX4_pass 178 = .ok (.putfield 37, 3) := by decide +kernel
theorem dX4_pass_181 : decode cX4_pass 181 = .ok (.goto (-47), 3) := by decide +kernel
theorem dX4_pass_184 : decode cX4_pass 184 = .ok (.aload_n 0, 1) := by decide +kernel
theorem dX4_pass_185 : decode cX4_pass 185 = .ok (.getfield 37, 3) := by decide +kernel
theorem dX4_pass_188 : decode cX4_pass 188 = .ok (.aload_n 0, 1) := by decide +kernel
theorem dX4_pass_189 : decode cX4_pass 189 = .ok (.getfield 43, 3) := by decide +kernel
theorem dX4_pass_192 : decode cX4_pass 192 = .ok (.if_icmp .ne 13, 3) := by decide +kernel
theorem dX4_pass_195 : decode cX4_pass 195 = .ok (.aload_n 0, 1) := by decide +kernel
theorem dX4_pass_196 : decode cX4_pass 196 = .ok (.dup, 1) := by decide +kernel
theorem dX4_pass_197 : decode cX4_pass 197 = .ok (.getfield 37, 3) := by decide +kernel
theorem dX4_pass_200 : decode cX4_pass 200 = .ok (.iconst 1, 1) := by decide +kernel
theorem dX4_pass_201 : decode cX4_pass 201 = .ok (.iadd, 1) := by decide +kernel
theorem dX4_pass_202 : decode cX4_pass 202 = .ok (.putfield 37, 3) := by decide +kernel
theorem dX4_pass_205 : decode cX4_pass 205 = .ok (.return_, 1) := by decide +kernel
theorem dX4_refuse_0 : decode cX4_refuse 0 = .ok (.aload_n 0, 1) := by decide +kernel
theorem dX4_refuse_1 : decode cX4_refuse 1 = .ok (.bipush 8, 2) := by decide +kernel
theorem dX4_refuse_3 : decode cX4_refuse 3 = .ok (.aload_n 0, 1) := by decide +kernel
theorem dX4_refuse_4 : decode cX4_refuse 4 = .ok (.getfield 43, 3) := by decide +kernel
theorem dX4_refuse_7 : decode cX4_refuse 7 = .ok (.imul, 1) := by decide +kernel
theorem dX4_refuse_8 : decode cX4_refuse 8 = .ok (.iload_n 1, 1) := by decide +kernel
theorem dX4_refuse_9 : decode cX4_refuse 9 = .ok (.iadd, 1) := by decide +kernel
theorem dX4_refuse_10 : decode cX4_refuse 10 = .ok (.putfield 34, 3) := by decide +kernel
theorem dX4_refuse_13 : decode cX4_refuse 13 = .ok (.iconst 0, 1) := by decide +kernel
theorem dX4_refuse_14 : decode cX4_refuse 14 = .ok (.ireturn, 1) := by decide +kernel
theorem dX5_init_0 : decode cX5_init 0 = .ok (.aload_n 0, 1) := by decide +kernel
theorem dX5_init_1 : decode cX5_init 1 = .ok (.invokespecial 3, 3) := by decide +kernel
theorem dX5_init_4 : decode cX5_init 4 = .ok (.aload_n 0, 1) := by decide +kernel
theorem dX5_init_5 : decode cX5_init 5 = .ok (.iconst 4, 1) := by decide +kernel
theorem dX5_init_6 : decode cX5_init 6 = .ok (.newarray .int, 2) := by decide +kernel
theorem dX5_init_8 : decode cX5_init 8 = .ok (.putfield 9, 3) := by decide +kernel
theorem dX5_init_11 : decode cX5_init 11 = .ok (.return_, 1) := by decide +kernel
theorem dX5_placeOf_0 : decode cX5_placeOf 0 = .ok (.iconst 0, 1) := by decide +kernel
theorem dX5_placeOf_1 : decode cX5_placeOf 1 = .ok (.istore_n 2, 1) := by decide +kernel
theorem dX5_placeOf_2 : decode cX5_placeOf 2 = .ok (.iload_n 2, 1) := by decide +kernel
theorem dX5_placeOf_3 : decode cX5_placeOf 3 = .ok (.aload_n 0, 1) := by decide +kernel
theorem dX5_placeOf_4 : decode cX5_placeOf 4 = .ok (.getfield 15, 3) := by decide +kernel
theorem dX5_placeOf_7 : decode cX5_placeOf 7 = .ok (.if_icmp .ge 21, 3) := by decide +kernel
theorem dX5_placeOf_10 : decode cX5_placeOf 10 = .ok (.aload_n 0, 1) := by decide +kernel
theorem dX5_placeOf_11 : decode cX5_placeOf 11 = .ok (.getfield 9, 3) := by decide +kernel
theorem dX5_placeOf_14 : decode cX5_placeOf 14 = .ok (.iload_n 2, 1) := by decide +kernel
theorem dX5_placeOf_15 : decode cX5_placeOf 15 = .ok (.iaload, 1) := by decide +kernel
theorem dX5_placeOf_16 : decode cX5_placeOf 16 = .ok (.iload_n 1, 1) := by decide +kernel
theorem dX5_placeOf_17 : decode cX5_placeOf 17 = .ok (.if_icmp .ne 5, 3) := by decide +kernel
theorem dX5_placeOf_20 : decode cX5_placeOf 20 = .ok (.iload_n 2, 1) := by decide +kernel
theorem dX5_placeOf_21 : decode cX5_placeOf 21 = .ok (.ireturn, 1) := by decide +kernel
theorem dX5_placeOf_22 : decode cX5_placeOf 22 = .ok (.iinc 2 1, 3) := by decide +kernel
theorem dX5_placeOf_25 : decode cX5_placeOf 25 = .ok (.goto (-23), 3) := by decide +kernel
theorem dX5_placeOf_28 : decode cX5_placeOf 28 = .ok (.iconst (-1), 1) := by decide +kernel
theorem dX5_placeOf_29 : decode cX5_placeOf 29 = .ok (.ireturn, 1) := by decide +kernel
theorem dX5_itemAt_0 : decode cX5_itemAt 0 = .ok (.iload_n 1, 1) := by decide +kernel
theorem dX5_itemAt_1 : decode cX5_itemAt 1 = .ok (.ifCond .lt 20, 3) := by decide +kernel
theorem dX5_itemAt_4 : decode cX5_itemAt 4 = .ok (.iload_n 1, 1) := by decide +kernel
theorem dX5_itemAt_5 : decode cX5_itemAt 5 = .ok (.aload_n 0, 1) := by decide +kernel
theorem dX5_itemAt_6 : decode cX5_itemAt 6 = .ok (.getfield 15, 3) := by decide +kernel
theorem dX5_itemAt_9 : decode cX5_itemAt 9 = .ok (.if_icmp .ge 12, 3) := by decide +kernel
theorem dX5_itemAt_12 : decode cX5_itemAt 12 = .ok (.aload_n 0, 1) := by decide +kernel
theorem dX5_itemAt_13 : decode cX5_itemAt 13 = .ok (.getfield 9, 3) := by decide +kernel
theorem dX5_itemAt_16 : decode cX5_itemAt 16 = .ok (.iload_n 1, 1) := by decide +kernel
theorem dX5_itemAt_17 : decode cX5_itemAt 17 = .ok (.iaload, 1) := by decide +kernel
theorem dX5_itemAt_18 : decode cX5_itemAt 18 = .ok (.goto 4, 3) := by decide +kernel
theorem dX5_itemAt_21 : decode cX5_itemAt 21 = .ok (.iconst (-1), 1) := by decide +kernel
theorem dX5_itemAt_22 : decode cX5_itemAt 22 = .ok (.ireturn, 1) := by decide +kernel
theorem dX5_add_0 : decode cX5_add 0 = .ok (.aload_n 0, 1) := by decide +kernel
theorem dX5_add_1 : decode cX5_add 1 = .ok (.getfield 15, 3) := by decide +kernel
theorem dX5_add_4 : decode cX5_add 4 = .ok (.iconst 4, 1) := by decide +kernel
theorem dX5_add_5 : decode cX5_add 5 = .ok (.if_icmp .ge 23, 3) := by decide +kernel
theorem dX5_add_8 : decode cX5_add 8 = .ok (.aload_n 0, 1) := by decide +kernel
theorem dX5_add_9 : decode cX5_add 9 = .ok (.getfield 9, 3) := by decide +kernel
theorem dX5_add_12 : decode cX5_add 12 = .ok (.aload_n 0, 1) := by decide +kernel
theorem dX5_add_13 : decode cX5_add 13 = .ok (.getfield 15, 3) := by decide +kernel
theorem dX5_add_16 : decode cX5_add 16 = .ok (.iload_n 1, 1) := by decide +kernel
theorem dX5_add_17 : decode cX5_add 17 = .ok (.iastore, 1) := by decide +kernel
theorem dX5_add_18 : decode cX5_add 18 = .ok (.aload_n 0, 1) := by decide +kernel
theorem dX5_add_19 : decode cX5_add 19 = .ok (.dup, 1) := by decide +kernel
theorem dX5_add_20 : decode cX5_add 20 = .ok (.getfield 15, 3) := by decide +kernel
theorem dX5_add_23 : decode cX5_add 23 = .ok (.iconst 1, 1) := by decide +kernel
theorem dX5_add_24 : decode cX5_add 24 = .ok (.iadd, 1) := by decide +kernel
theorem dX5_add_25 : decode cX5_add 25 = .ok (.putfield 15, 3) := by decide +kernel
theorem dX5_add_28 : decode cX5_add 28 = .ok (.return_, 1) := by decide +kernel
theorem dX5_removeAt_0 : decode cX5_removeAt 0 = .ok (.iload_n 1, 1) := by decide +kernel
theorem dX5_removeAt_1 : decode cX5_removeAt 1 = .ok (.ifCond .lt 11, 3) := by decide +kernel
theorem dX5_removeAt_4 : decode cX5_removeAt 4 = .ok (.iload_n 1, 1) := by decide +kernel
theorem dX5_removeAt_5 : decode cX5_removeAt 5 = .ok (.aload_n 0, 1) := by decide +kernel
theorem dX5_removeAt_6 : decode cX5_removeAt 6 = .ok (.getfield 15, 3) := by decide +kernel
theorem dX5_removeAt_9 : decode cX5_removeAt 9 = .ok (.if_icmp .lt 4, 3) := by decide +kernel
theorem dX5_removeAt_12 : decode cX5_removeAt 12 = .ok (.return_, 1) := by decide +kernel
theorem dX5_removeAt_13 : decode cX5_removeAt 13 = .ok (.iload_n 1, 1) := by decide +kernel
theorem dX5_removeAt_14 : decode cX5_removeAt 14 = .ok (.iconst 1, 1) := by decide +kernel
theorem dX5_removeAt_15 : decode cX5_removeAt 15 = .ok (.iadd, 1) := by decide +kernel
theorem dX5_removeAt_16 : decode cX5_removeAt 16 = .ok (.istore_n 2, 1) := by decide +kernel
theorem dX5_removeAt_17 : decode cX5_removeAt 17 = .ok (.iload_n 2, 1) := by decide +kernel
theorem dX5_removeAt_18 : decode cX5_removeAt 18 = .ok (.aload_n 0, 1) := by decide +kernel
theorem dX5_removeAt_19 : decode cX5_removeAt 19 = .ok (.getfield 15, 3) := by decide +kernel
theorem dX5_removeAt_22 : decode cX5_removeAt 22 = .ok (.if_icmp .ge 23, 3) := by decide +kernel
theorem dX5_removeAt_25 : decode cX5_removeAt 25 = .ok (.aload_n 0, 1) := by decide +kernel
theorem dX5_removeAt_26 : decode cX5_removeAt 26 = .ok (.getfield 9, 3) := by decide +kernel
theorem dX5_removeAt_29 : decode cX5_removeAt 29 = .ok (.iload_n 2, 1) := by decide +kernel
theorem dX5_removeAt_30 : decode cX5_removeAt 30 = .ok (.iconst 1, 1) := by decide +kernel
theorem dX5_removeAt_31 : decode cX5_removeAt 31 = .ok (.isub, 1) := by decide +kernel
theorem dX5_removeAt_32 : decode cX5_removeAt 32 = .ok (.aload_n 0, 1) := by decide +kernel
theorem dX5_removeAt_33 : decode cX5_removeAt 33 = .ok (.getfield 9, 3) := by decide +kernel
theorem dX5_removeAt_36 : decode cX5_removeAt 36 = .ok (.iload_n 2, 1) := by decide +kernel
theorem dX5_removeAt_37 : decode cX5_removeAt 37 = .ok (.iaload, 1) := by decide +kernel
theorem dX5_removeAt_38 : decode cX5_removeAt 38 = .ok (.iastore, 1) := by decide +kernel
theorem dX5_removeAt_39 : decode cX5_removeAt 39 = .ok (.iinc 2 1, 3) := by decide +kernel
theorem dX5_removeAt_42 : decode cX5_removeAt 42 = .ok (.goto (-25), 3) := by decide +kernel
theorem dX5_removeAt_45 : decode cX5_removeAt 45 = .ok (.aload_n 0, 1) := by decide +kernel
theorem dX5_removeAt_46 : decode cX5_removeAt 46 = .ok (.dup, 1) := by decide +kernel
theorem dX5_removeAt_47 : decode cX5_removeAt 47 = .ok (.getfield 15, 3) := by decide +kernel
theorem dX5_removeAt_50 : decode cX5_removeAt 50 = .ok (.iconst 1, 1) := by decide +kernel
theorem dX5_removeAt_51 : decode cX5_removeAt 51 = .ok (.isub, 1) := by decide +kernel
theorem dX5_removeAt_52 : decode cX5_removeAt 52 = .ok (.putfield 15, 3) := by decide +kernel
theorem dX5_removeAt_55 : decode cX5_removeAt 55 = .ok (.return_, 1) := by decide +kernel
theorem dX5_reverse_0 : decode cX5_reverse 0 = .ok (.iconst 0, 1) := by decide +kernel
theorem dX5_reverse_1 : decode cX5_reverse 1 = .ok (.istore_n 1, 1) := by decide +kernel
theorem dX5_reverse_2 : decode cX5_reverse 2 = .ok (.aload_n 0, 1) := by decide +kernel
theorem dX5_reverse_3 : decode cX5_reverse 3 = .ok (.getfield 15, 3) := by decide +kernel
theorem dX5_reverse_6 : decode cX5_reverse 6 = .ok (.iconst 1, 1) := by decide +kernel
theorem dX5_reverse_7 : decode cX5_reverse 7 = .ok (.isub, 1) := by decide +kernel
theorem dX5_reverse_8 : decode cX5_reverse 8 = .ok (.istore_n 2, 1) := by decide +kernel
theorem dX5_reverse_9 : decode cX5_reverse 9 = .ok (.iload_n 1, 1) := by decide +kernel
theorem dX5_reverse_10 : decode cX5_reverse 10 = .ok (.iload_n 2, 1) := by decide +kernel
theorem dX5_reverse_11 : decode cX5_reverse 11 = .ok (.if_icmp .ge 38, 3) := by decide +kernel
theorem dX5_reverse_14 : decode cX5_reverse 14 = .ok (.aload_n 0, 1) := by decide +kernel
theorem dX5_reverse_15 : decode cX5_reverse 15 = .ok (.getfield 9, 3) := by decide +kernel
theorem dX5_reverse_18 : decode cX5_reverse 18 = .ok (.iload_n 1, 1) := by decide +kernel
theorem dX5_reverse_19 : decode cX5_reverse 19 = .ok (.iaload, 1) := by decide +kernel
theorem dX5_reverse_20 : decode cX5_reverse 20 = .ok (.istore_n 3, 1) := by decide +kernel
theorem dX5_reverse_21 : decode cX5_reverse 21 = .ok (.aload_n 0, 1) := by decide +kernel
theorem dX5_reverse_22 : decode cX5_reverse 22 = .ok (.getfield 9, 3) := by decide +kernel
theorem dX5_reverse_25 : decode cX5_reverse 25 = .ok (.iload_n 1, 1) := by decide +kernel
theorem dX5_reverse_26 : decode cX5_reverse 26 = .ok (.aload_n 0, 1) := by decide +kernel
theorem dX5_reverse_27 : decode cX5_reverse 27 = .ok (.getfield 9, 3) := by decide +kernel
theorem dX5_reverse_30 : decode cX5_reverse 30 = .ok (.iload_n 2, 1) := by decide +kernel
theorem dX5_reverse_31 : decode cX5_reverse 31 = .ok (.iaload, 1) := by decide +kernel
theorem dX5_reverse_32 : decode cX5_reverse 32 = .ok (.iastore, 1) := by decide +kernel
theorem dX5_reverse_33 : decode cX5_reverse 33 = .ok (.aload_n 0, 1) := by decide +kernel
theorem dX5_reverse_34 : decode cX5_reverse 34 = .ok (.getfield 9, 3) := by decide +kernel
theorem dX5_reverse_37 : decode cX5_reverse 37 = .ok (.iload_n 2, 1) := by decide +kernel
theorem dX5_reverse_38 : decode cX5_reverse 38 = .ok (.iload_n 3, 1) := by decide +kernel
theorem dX5_reverse_39 : decode cX5_reverse 39 = .ok (.iastore, 1) := by decide +kernel
theorem dX5_reverse_40 : decode cX5_reverse 40 = .ok (.iinc 1 1, 3) := by decide +kernel
theorem dX5_reverse_43 : decode cX5_reverse 43 = .ok (.iinc 2 (-1), 3) := by decide +kernel
theorem dX5_reverse_46 : decode cX5_reverse 46 = .ok (.goto (-37), 3) := by decide +kernel
theorem dX5_reverse_49 : decode cX5_reverse 49 = .ok (.return_, 1) := by decide +kernel
theorem dX5_copyFrom_0 : decode cX5_copyFrom 0 = .ok (.aload_n 1, 1) := by decide +kernel
theorem dX5_copyFrom_1 : decode cX5_copyFrom 1 = .ok (.getfield 9, 3) := by decide +kernel
theorem dX5_copyFrom_4 : decode cX5_copyFrom 4 = .ok (.iconst 0, 1) := by decide +kernel
theorem dX5_copyFrom_5 : decode cX5_copyFrom 5 = .ok (.aload_n 0, 1) := by decide +kernel
theorem dX5_copyFrom_6 : decode cX5_copyFrom 6 = .ok (.getfield 9, 3) := by decide +kernel
theorem dX5_copyFrom_9 : decode cX5_copyFrom 9 = .ok (.iconst 0, 1) := by decide +kernel
theorem dX5_copyFrom_10 : decode cX5_copyFrom 10 = .ok (.iconst 4, 1) := by decide +kernel
theorem dX5_copyFrom_11 : decode cX5_copyFrom 11 = .ok (.invokestatic 19, 3) := by decide +kernel
theorem dX5_copyFrom_14 : decode cX5_copyFrom 14 = .ok (.aload_n 0, 1) := by decide +kernel
theorem dX5_copyFrom_15 : decode cX5_copyFrom 15 = .ok (.aload_n 1, 1) := by decide +kernel
theorem dX5_copyFrom_16 : decode cX5_copyFrom 16 = .ok (.getfield 15, 3) := by decide +kernel
theorem dX5_copyFrom_19 : decode cX5_copyFrom 19 = .ok (.putfield 15, 3) := by decide +kernel
theorem dX5_copyFrom_22 : decode cX5_copyFrom 22 = .ok (.return_, 1) := by decide +kernel
theorem dX6_init_0 : decode cX6_init 0 = .ok (.aload_n 0, 1) := by decide +kernel
theorem dX6_init_1 : decode cX6_init 1 = .ok (.invokespecial 3, 3) := by decide +kernel
theorem dX6_init_4 : decode cX6_init 4 = .ok (.return_, 1) := by decide +kernel
theorem dX6_run_0 : decode cX6_run 0 = .ok (.aload_n 0, 1) := by decide +kernel
theorem dX6_run_1 : decode cX6_run 1 = .ok (.aload_n 1, 1) := by decide +kernel
theorem dX6_run_2 : decode cX6_run 2 = .ok (.putfield 9, 3) := by decide +kernel
theorem dX6_run_5 : decode cX6_run 5 = .ok (.aload_n 0, 1) := by decide +kernel
theorem dX6_run_6 : decode cX6_run 6 = .ok (.aload_n 2, 1) := by decide +kernel
theorem dX6_run_7 : decode cX6_run 7 = .ok (.putfield 15, 3) := by decide +kernel
theorem dX6_run_10 : decode cX6_run 10 = .ok (.aload_n 0, 1) := by decide +kernel
theorem dX6_run_11 : decode cX6_run 11 = .ok (.aload_n 3, 1) := by decide +kernel
theorem dX6_run_12 : decode cX6_run 12 = .ok (.putfield 19, 3) := by decide +kernel
theorem dX6_run_15 : decode cX6_run 15 = .ok (.aload_n 0, 1) := by decide +kernel
theorem dX6_run_16 : decode cX6_run 16 = .ok (.iload 4, 2) := by decide +kernel
theorem dX6_run_18 : decode cX6_run 18 = .ok (.putfield 23, 3) := by decide +kernel
theorem dX6_run_21 : decode cX6_run 21 = .ok (.aload_n 0, 1) := by decide +kernel
theorem dX6_run_22 : decode cX6_run 22 = .ok (.iconst 0, 1) := by decide +kernel
theorem dX6_run_23 : decode cX6_run 23 = .ok (.putfield 27, 3) := by decide +kernel
theorem dX6_run_26 : decode cX6_run 26 = .ok (.aload_n 0, 1) := by decide +kernel
theorem dX6_run_27 : decode cX6_run 27 = .ok (.iconst 0, 1) := by decide +kernel
theorem dX6_run_28 : decode cX6_run 28 = .ok (.putfield 30, 3) := by decide +kernel
theorem dX6_run_31 : decode cX6_run 31 = .ok (.aload_n 0, 1) := by decide +kernel
theorem dX6_run_32 : decode cX6_run 32 = .ok (.iconst (-1), 1) := by decide +kernel
theorem dX6_run_33 : decode cX6_run 33 = .ok (.putfield 33, 3) := by decide +kernel
theorem dX6_run_36 : decode cX6_run 36 = .ok (.aload_n 0, 1) := by decide +kernel
theorem dX6_run_37 : decode cX6_run 37 = .ok (.iconst (-1), 1) := by decide +kernel
theorem dX6_run_38 : decode cX6_run 38 = .ok (.putfield 36, 3) := by decide +kernel
theorem dX6_run_41 : decode cX6_run 41 = .ok (.aload_n 0, 1) := by decide +kernel
theorem dX6_run_42 : decode cX6_run 42 = .ok (.iconst (-1), 1) := by decide +kernel
theorem dX6_run_43 : decode cX6_run 43 = .ok (.putfield 39, 3) := by decide +kernel
theorem dX6_run_46 : decode cX6_run 46 = .ok (.aload_n 0, 1) := by decide +kernel
theorem dX6_run_47 : decode cX6_run 47 = .ok (.iconst 0, 1) := by decide +kernel
theorem dX6_run_48 : decode cX6_run 48 = .ok (.putfield 42, 3) := by decide +kernel
theorem dX6_run_51 : decode cX6_run 51 = .ok (.aload_n 0, 1) := by decide +kernel
theorem dX6_run_52 : decode cX6_run 52 = .ok (.iconst 0, 1) := by decide +kernel
theorem dX6_run_53 : decode cX6_run 53 = .ok (.putfield 45, 3) := by decide +kernel
theorem dX6_run_56 : decode cX6_run 56 = .ok (.aload_n 0, 1) := by decide +kernel
theorem dX6_run_57 : decode cX6_run 57 = .ok (.getfield 19, 3) := by decide +kernel
theorem dX6_run_60 : decode cX6_run 60 = .ok (.getfield 48, 3) := by decide +kernel
theorem dX6_run_63 : decode cX6_run 63 = .ok (.iload 4, 2) := by decide +kernel
theorem dX6_run_65 : decode cX6_run 65 = .ok (.iaload, 1) := by decide +kernel
theorem dX6_run_66 : decode cX6_run 66 = .ok (.ifCond .ne 9, 3) := by decide +kernel
theorem dX6_run_69 : decode cX6_run 69 = .ok (.aload_n 0, 1) := by decide +kernel
theorem dX6_run_70 : decode cX6_run 70 = .ok (.iconst 4, 1) := by decide +kernel
theorem dX6_run_71 : decode cX6_run 71 = .ok (.putfield 27, 3) := by decide +kernel
theorem dX6_run_74 : decode cX6_run 74 = .ok (.return_, 1) := by decide +kernel
theorem dX6_run_75 : decode cX6_run 75 = .ok (.aload_n 0, 1) := by decide +kernel
theorem dX6_run_76 : decode cX6_run 76 = .ok (.iload 5, 2) := by decide +kernel
theorem dX6_run_78 : decode cX6_run 78 = .ok (.iconst 0, 1) := by decide +kernel
theorem dX6_run_79 : decode cX6_run 79 = .ok (.iconst 0, 1) := by decide +kernel
theorem dX6_run_80 : decode cX6_run 80 = .ok (.invokevirtual 54, 3) := by decide +kernel
theorem dX6_run_83 : decode cX6_run 83 = .ok (.istore 6, 2) := by decide +kernel
theorem dX6_run_85 : decode cX6_run 85 = .ok (.aload_n 0, 1) := by decide +kernel
theorem dX6_run_86 : decode cX6_run 86 = .ok (.aload_n 0, 1) := by decide +kernel
theorem dX6_run_87 : decode cX6_run 87 = .ok (.getfield 27, 3) := by decide +kernel
theorem dX6_run_90 : decode cX6_run 90 = .ok (.ifCond .ne 8, 3) := by decide +kernel
theorem dX6_run_93 : decode cX6_run 93 = .ok (.iload 6, 2) := by decide +kernel
theorem dX6_run_95 : decode cX6_run 95 = .ok (.goto 4, 3) := by decide +kernel
theorem dX6_run_98 : decode cX6_run 98 = .ok (.iconst 0, 1) := by decide +kernel
theorem dX6_run_99 : decode cX6_run 99 = .ok (.putfield 45, 3) := by decide +kernel
theorem dX6_run_102 : decode cX6_run 102 = .ok (.return_, 1) := by decide +kernel
theorem dX6_lookFor_0 : decode cX6_lookFor 0 = .ok (.iload_n 3, 1) := by decide +kernel
theorem dX6_lookFor_1 : decode cX6_lookFor 1 = .ok (.bipush 16, 2) := by decide +kernel
theorem dX6_lookFor_3 : decode cX6_lookFor 3 = .ok (.if_icmp .ge 12, 3) := by decide +kernel
theorem dX6_lookFor_6 : decode cX6_lookFor 6 = .ok (.aload_n 0, 1) := by decide +kernel
theorem dX6_lookFor_7 : decode cX6_lookFor 7 = .ok (.getfield 30, 3) := by decide +kernel
theorem dX6_lookFor_10 : decode cX6_lookFor 10 = .ok (.bipush 100, 2) := by decide +kernel
theorem dX6_lookFor_12 : decode cX6_lookFor 12 = .ok (.if_icmp .lt 10, 3) := by decide +kernel
theorem dX6_lookFor_15 : decode cX6_lookFor 15 = .ok (.aload_n 0, 1) := by decide +kernel
theorem dX6_lookFor_16 : decode cX6_lookFor 16 = .ok (.iconst 5, 1) := by decide +kernel
theorem dX6_lookFor_17 : decode cX6_lookFor 17 = .ok (.iload_n 3, 1) := by decide +kernel
theorem dX6_lookFor_18 : decode cX6_lookFor 18 = .ok (.invokevirtual 58, 3) := by decide +kernel
theorem dX6_lookFor_21 : decode cX6_lookFor 21 = .ok (.ireturn, 1) := by decide +kernel
theorem dX6_lookFor_22 : decode cX6_lookFor 22 = .ok (.aload_n 0, 1) := by decide +kernel
theorem dX6_lookFor_23 : decode cX6_lookFor 23 = .ok (.dup, 1) := by decide +kernel
theorem dX6_lookFor_24 : decode cX6_lookFor 24 = .ok (.getfield 30, 3) := by decide +kernel
theorem dX6_lookFor_27 : decode cX6_lookFor 27 = .ok (.iconst 1, 1) := by decide +kernel
theorem dX6_lookFor_28 : decode cX6_lookFor 28 = .ok (.iadd, 1) := by decide +kernel
theorem dX6_lookFor_29 : decode cX6_lookFor 29 = .ok (.putfield 30, 3) := by decide +kernel
theorem dX6_lookFor_32 : decode cX6_lookFor 32 = .ok (.aload_n 0, 1) := by decide +kernel
theorem dX6_lookFor_33 : decode cX6_lookFor 33 = .ok (.aload_n 0, 1) := by decide +kernel
theorem dX6_lookFor_34 : decode cX6_lookFor 34 = .ok (.getfield 33, 3) := by decide +kernel
theorem dX6_lookFor_37 : decode cX6_lookFor 37 = .ok (.iload_n 3, 1) := by decide +kernel
theorem dX6_lookFor_38 : decode cX6_lookFor 38 = .ok (.invokestatic 62, 3) := by decide +kernel
theorem dX6_lookFor_41 : decode cX6_lookFor 41 = .ok (.putfield 33, 3) := by decide +kernel
theorem dX6_lookFor_44 : decode cX6_lookFor 44 = .ok (.iconst 0, 1) := by decide +kernel
theorem dX6_lookFor_45 : decode cX6_lookFor 45 = .ok (.istore 4, 2) := by decide +kernel
theorem dX6_lookFor_47 : decode cX6_lookFor 47 = .ok (.iload_n 2, 1) := by decide +kernel
theorem dX6_lookFor_48 : decode cX6_lookFor 48 = .ok (.istore 5, 2) := by decide +kernel
theorem dX6_lookFor_50 : decode cX6_lookFor 50 = .ok (.iload 5, 2) := by decide +kernel
theorem dX6_lookFor_52 : decode cX6_lookFor 52 = .ok (.aload_n 0, 1) := by decide +kernel
theorem dX6_lookFor_53 : decode cX6_lookFor 53 = .ok (.getfield 19, 3) := by decide +kernel
theorem dX6_lookFor_56 : decode cX6_lookFor 56 = .ok (.getfield 48, 3) := by decide +kernel
theorem dX6_lookFor_59 : decode cX6_lookFor 59 = .ok (.aload_n 0, 1) := by decide +kernel
theorem dX6_lookFor_60 : decode cX6_lookFor 60 = .ok (.getfield 23, 3) := by decide +kernel
theorem dX6_lookFor_63 : decode cX6_lookFor 63 = .ok (.iaload, 1) := by decide +kernel
theorem dX6_lookFor_64 : decode cX6_lookFor 64 = .ok (.if_icmp .ge 80, 3) := by decide +kernel
theorem dX6_lookFor_67 : decode cX6_lookFor 67 = .ok (.aload_n 0, 1) := by decide +kernel
theorem dX6_lookFor_68 : decode cX6_lookFor 68 = .ok (.getfield 15, 3) := by decide +kernel
theorem dX6_lookFor_71 : decode cX6_lookFor 71 = .ok (.aload_n 0, 1) := by decide +kernel
theorem dX6_lookFor_72 : decode cX6_lookFor 72 = .ok (.getfield 19, 3) := by decide +kernel
theorem dX6_lookFor_75 : decode cX6_lookFor 75 = .ok (.getfield 67, 3) := by decide +kernel
theorem dX6_lookFor_78 : decode cX6_lookFor 78 = .ok (.aload_n 0, 1) := by decide +kernel
theorem dX6_lookFor_79 : decode cX6_lookFor 79 = .ok (.getfield 23, 3) := by decide +kernel
theorem dX6_lookFor_82 : decode cX6_lookFor 82 = .ok (.aaload, 1) := by decide +kernel
theorem dX6_lookFor_83 : decode cX6_lookFor 83 = .ok (.iload 5, 2) := by decide +kernel
theorem dX6_lookFor_85 : decode cX6_lookFor 85 = .ok (.iaload, 1) := by decide +kernel
theorem dX6_lookFor_86 : decode cX6_lookFor 86 = .ok (.iload_n 1, 1) := by decide +kernel
theorem dX6_lookFor_87 : decode cX6_lookFor 87 = .ok (.invokevirtual 70, 3) := by decide +kernel
theorem dX6_lookFor_90 : decode cX6_lookFor 90 = .ok (.istore 6, 2) := by decide +kernel
theorem dX6_lookFor_92 : decode cX6_lookFor 92 = .ok (.iload 6, 2) := by decide +kernel
theorem dX6_lookFor_94 : decode cX6_lookFor 94 = .ok (.iconst 1, 1) := by decide +kernel
theorem dX6_lookFor_95 : decode cX6_lookFor 95 = .ok (.if_icmp .ne 12, 3) := by decide +kernel
theorem dX6_lookFor_98 : decode cX6_lookFor 98 = .ok (.aload_n 0, 1) := by decide +kernel
theorem dX6_lookFor_99 : decode cX6_lookFor 99 = .ok (.iload_n 1, 1) := by decide +kernel
theorem dX6_lookFor_100 : decode cX6_lookFor 100 = .ok (.iload 5, 2) := by decide +kernel
theorem dX6_lookFor_102 : decode cX6_lookFor 102 = .ok (.iload_n 3, 1) := by decide +kernel
theorem dX6_lookFor_103 : decode cX6_lookFor 103 = .ok (.invokevirtual 75, 3) := by decide +kernel
theorem dX6_lookFor_106 : decode cX6_lookFor 106 = .ok (.ireturn, 1) := by decide +kernel
theorem dX6_lookFor_107 : decode cX6_lookFor 107 = .ok (.iload 6, 2) := by decide +kernel
theorem dX6_lookFor_109 : decode cX6_lookFor 109 = .ok (.iconst 3, 1) := by decide +kernel
theorem dX6_lookFor_110 : decode cX6_lookFor 110 = .ok (.if_icmp .ne 10, 3) := by decide +kernel
theorem dX6_lookFor_113 : decode cX6_lookFor 113 = .ok (.aload_n 0, 1) := by decide +kernel
theorem dX6_lookFor_114 : decode cX6_lookFor 114 = .ok (.iconst 3, 1) := by decide +kernel
theorem dX6_lookFor_115 : decode cX6_lookFor 115 = .ok (.iload_n 3, 1) := by decide +kernel
theorem dX6_lookFor_116 : decode cX6_lookFor 116 = .ok (.invokevirtual 58, 3) := by decide +kernel
theorem dX6_lookFor_119 : decode cX6_lookFor 119 = .ok (.ireturn, 1) := by decide +kernel
theorem dX6_lookFor_120 : decode cX6_lookFor 120 = .ok (.iload 4, 2) := by decide +kernel
theorem dX6_lookFor_122 : decode cX6_lookFor 122 = .ok (.ifCond .ne 9, 3) := by decide +kernel
theorem dX6_lookFor_125 : decode cX6_lookFor 125 = .ok (.iload 6, 2) := by decide +kernel
theorem dX6_lookFor_127 : decode cX6_lookFor 127 = .ok (.iconst 2, 1) := by decide +kernel
theorem dX6_lookFor_128 : decode cX6_lookFor 128 = .ok (.if_icmp .ne 7, 3) := by decide +kernel
theorem dX6_lookFor_131 : decode cX6_lookFor 131 = .ok (.iconst 1, 1) := by decide +kernel
theorem dX6_lookFor_132 : decode cX6_lookFor 132 = .ok (.goto 4, 3) := by decide +kernel
theorem dX6_lookFor_135 : decode cX6_lookFor 135 = .ok (.iconst 0, 1) := by decide +kernel
theorem dX6_lookFor_136 : decode cX6_lookFor 136 = .ok (.istore 4, 2) := by decide +kernel
theorem dX6_lookFor_138 : decode cX6_lookFor 138 = .ok (.iinc 5 1, 3) := by decide +kernel
theorem dX6_lookFor_141 : decode cX6_lookFor 141 = .ok (.goto (-91), 3) := by decide +kernel
theorem dX6_lookFor_144 : decode cX6_lookFor 144 = .ok (.aload_n 0, 1) := by decide +kernel
theorem dX6_lookFor_145 : decode cX6_lookFor 145 = .ok (.iload 4, 2) := by decide +kernel
theorem dX6_lookFor_147 : decode cX6_lookFor 147 = .ok (.ifCond .eq 7, 3) := by decide +kernel
theorem dX6_lookFor_150 : decode cX6_lookFor 150 = .ok (.iconst 2, 1) := by decide +kernel
theorem dX6_lookFor_151 : decode cX6_lookFor 151 = .ok (.goto 4, 3) := by decide +kernel
theorem dX6_lookFor_154 : decode cX6_lookFor 154 = .ok (.iconst 1, 1) := by decide +kernel
theorem dX6_lookFor_155 : decode cX6_lookFor 155 = .ok (.iload_n 3, 1) := by decide +kernel
theorem dX6_lookFor_156 : decode cX6_lookFor 156 = .ok (.invokevirtual 58, 3) := by decide +kernel
theorem dX6_lookFor_159 : decode cX6_lookFor 159 = .ok (.ireturn, 1) := by decide +kernel
theorem dX6_addTerms_0 : decode cX6_addTerms 0 = .ok (.aload_n 0, 1) := by decide +kernel
theorem dX6_addTerms_1 : decode cX6_addTerms 1 = .ok (.getfield 19, 3) := by decide +kernel
theorem dX6_addTerms_4 : decode cX6_addTerms 4 = .ok (.getfield 67, 3) := by decide +kernel
theorem dX6_addTerms_7 : decode cX6_addTerms 7 = .ok (.aload_n 0, 1) := by decide +kernel
theorem dX6_addTerms_8 : decode cX6_addTerms 8 = .ok (.getfield 23, 3) := by decide +kernel
theorem dX6_addTerms_11 : decode cX6_addTerms 11 = .ok (.aaload, 1) := by decide +kernel
theorem dX6_addTerms_12 : decode cX6_addTerms 12 = .ok (.iload_n 2, 1) := by decide +kernel
theorem dX6_addTerms_13 : decode cX6_addTerms 13 = .ok (.iaload, 1) := by decide +kernel
theorem dX6_addTerms_14 : decode cX6_addTerms 14 = .ok (.istore 4, 2) := by decide +kernel
theorem dX6_addTerms_16 : decode cX6_addTerms 16 = .ok (.aload_n 0, 1) := by decide +kernel
theorem dX6_addTerms_17 : decode cX6_addTerms 17 = .ok (.getfield 15, 3) := by decide +kernel
theorem dX6_addTerms_20 : decode cX6_addTerms 20 = .ok (.iload 4, 2) := by decide +kernel
theorem dX6_addTerms_22 : decode cX6_addTerms 22 = .ok (.iload_n 1, 1) := by decide +kernel
theorem dX6_addTerms_23 : decode cX6_addTerms 23 = .ok (.invokevirtual 78, 3) := by decide +kernel
theorem dX6_addTerms_26 : decode cX6_addTerms 26 = .ok (.istore 5, 2) := by decide +kernel
theorem dX6_addTerms_28 : decode cX6_addTerms 28 = .ok (.aload_n 0, 1) := by decide +kernel
theorem dX6_addTerms_29 : decode cX6_addTerms 29 = .ok (.getfield 9, 3) := by decide +kernel
theorem dX6_addTerms_32 : decode cX6_addTerms 32 = .ok (.getfield 81, 3) := by decide +kernel
theorem dX6_addTerms_35 : decode cX6_addTerms 35 = .ok (.iload 5, 2) := by decide +kernel
theorem dX6_addTerms_37 : decode cX6_addTerms 37 = .ok (.bipush 26, 2) := by decide +kernel
theorem dX6_addTerms_39 : decode cX6_addTerms 39 = .ok (.idiv, 1) := by decide +kernel
theorem dX6_addTerms_40 : decode cX6_addTerms 40 = .ok (.aaload, 1) := by decide +kernel
theorem dX6_addTerms_41 : decode cX6_addTerms 41 = .ok (.astore 6, 2) := by decide +kernel
theorem dX6_addTerms_43 : decode cX6_addTerms 43 = .ok (.iload 5, 2) := by decide +kernel
theorem dX6_addTerms_45 : decode cX6_addTerms 45 = .ok (.bipush 26, 2) := by decide +kernel
theorem dX6_addTerms_47 : decode cX6_addTerms 47 = .ok (.irem, 1) := by decide +kernel
theorem dX6_addTerms_48 : decode cX6_addTerms 48 = .ok (.istore 7, 2) := by decide +kernel
theorem dX6_addTerms_50 : decode cX6_addTerms 50 = .ok (.aload_n 0, 1) := by decide +kernel
theorem dX6_addTerms_51 : decode cX6_addTerms 51 = .ok (.dup, 1) := by decide +kernel
theorem dX6_addTerms_52 : decode cX6_addTerms 52 = .ok (.getfield 42, 3) := by decide +kernel
theorem dX6_addTerms_55 : decode cX6_addTerms 55 = .ok (.iconst 1, 1) := by decide +kernel
theorem dX6_addTerms_56 : decode cX6_addTerms 56 = .ok (.iload 5, 2) := by decide +kernel
theorem dX6_addTerms_58 : decode cX6_addTerms 58 = .ok (.bipush 26, 2) := by decide +kernel
theorem dX6_addTerms_60 : decode cX6_addTerms 60 = .ok (.idiv, 1) := by decide +kernel
theorem dX6_addTerms_61 : decode cX6_addTerms 61 = .ok (.ishl, 1) := by decide +kernel
theorem dX6_addTerms_62 : decode cX6_addTerms 62 = .ok (.ior, 1) := by decide +kernel
theorem dX6_addTerms_63 : decode cX6_addTerms 63 = .ok (.putfield 42, 3) := by decide +kernel
theorem dX6_addTerms_66 : decode cX6_addTerms 66 = .ok (.iload_n 3, 1) := by decide +kernel
theorem dX6_addTerms_67 : decode cX6_addTerms 67 = .ok (.ifCond .ne 9, 3) := by decide +kernel
theorem dX6_addTerms_70 : decode cX6_addTerms 70 = .ok (.aload_n 0, 1) := by decide +kernel
theorem dX6_addTerms_71 : decode cX6_addTerms 71 = .ok (.iload 4, 2) := by decide +kernel
theorem dX6_addTerms_73 : decode cX6_addTerms 73 = .ok (.putfield 36, 3) := by decide +kernel
theorem dX6_addTerms_76 : decode cX6_addTerms 76 = .ok (.iconst 0, 1) := by decide +kernel
theorem dX6_addTerms_77 : decode cX6_addTerms 77 = .ok (.istore 8, 2) := by decide +kernel
theorem dX6_addTerms_79 : decode cX6_addTerms 79 = .ok (.iconst 0, 1) := by decide +kernel
theorem dX6_addTerms_80 : decode cX6_addTerms 80 = .ok (.istore 9, 2) := by decide +kernel
theorem dX6_addTerms_82 : decode cX6_addTerms 82 = .ok (.iload 9, 2) := by decide +kernel
theorem dX6_addTerms_84 : decode cX6_addTerms 84 = .ok (.aload 6, 2) := by decide +kernel
theorem dX6_addTerms_86 : decode cX6_addTerms 86 = .ok (.getfield 87, 3) := by decide +kernel
theorem dX6_addTerms_89 : decode cX6_addTerms 89 = .ok (.iload 7, 2) := by decide +kernel
theorem dX6_addTerms_91 : decode cX6_addTerms 91 = .ok (.iaload, 1) := by decide +kernel
theorem dX6_addTerms_92 : decode cX6_addTerms 92 = .ok (.if_icmp .ge 91, 3) := by decide +kernel
theorem dX6_addTerms_95 : decode cX6_addTerms 95 = .ok (.aload_n 0, 1) := by decide +kernel
theorem dX6_addTerms_96 : decode cX6_addTerms 96 = .ok (.getfield 27, 3) := by decide +kernel
theorem dX6_addTerms_99 : decode cX6_addTerms 99 = .ok (.ifCond .ne 84, 3) := by decide +kernel
theorem dX6_addTerms_102 : decode cX6_addTerms 102 = .ok (.aload 6, 2) := by decide +kernel
theorem dX6_addTerms_104 : decode cX6_addTerms 104 = .ok (.iload 7, 2) := by decide +kernel
theorem dX6_addTerms_106 : decode cX6_addTerms 106 = .ok (.iload 9, 2) := by decide +kernel
theorem dX6_addTerms_108 : decode cX6_addTerms 108 = .ok (.invokevirtual 92, 3) := by decide +kernel
theorem dX6_addTerms_111 : decode cX6_addTerms 111 = .ok (.istore 10, 2) := by decide +kernel
theorem dX6_addTerms_113 : decode cX6_addTerms 113 = .ok (.iload 10, 2) := by decide +kernel
theorem dX6_addTerms_115 : decode cX6_addTerms 115 = .ok (.sipush 1000, 3) := by decide +kernel
theorem dX6_addTerms_118 : decode cX6_addTerms 118 = .ok (.if_icmp .ge 13, 3) := by decide +kernel
theorem dX6_addTerms_121 : decode cX6_addTerms 121 = .ok (.iload 8, 2) := by decide +kernel
theorem dX6_addTerms_123 : decode cX6_addTerms 123 = .ok (.iload 10, 2) := by decide +kernel
theorem dX6_addTerms_125 : decode cX6_addTerms 125 = .ok (.iadd, 1) := by decide +kernel
theorem dX6_addTerms_126 : decode cX6_addTerms 126 = .ok (.istore 8, 2) := by decide +kernel
theorem dX6_addTerms_128 : decode cX6_addTerms 128 = .ok (.goto 49, 3) := by decide +kernel
theorem dX6_addTerms_131 : decode cX6_addTerms 131 = .ok (.iload 10, 2) := by decide +kernel
theorem dX6_addTerms_133 : decode cX6_addTerms 133 = .ok (.sipush 1000, 3) := by decide +kernel
theorem dX6_addTerms_136 : decode cX6_addTerms 136 = .ok (.if_icmp .ne 22, 3) := by decide +kernel
theorem dX6_addTerms_139 : decode cX6_addTerms 139 = .ok (.iload 8, 2) := by decide +kernel
theorem dX6_addTerms_141 : decode cX6_addTerms 141 = .ok (.aload_n 0, 1) := by decide +kernel
theorem dX6_addTerms_142 : decode cX6_addTerms 142 = .ok (.iload_n 1, 1) := by decide +kernel
theorem dX6_addTerms_143 : decode cX6_addTerms 143 = .ok (.iload_n 2, 1) := by decide +kernel
theorem dX6_addTerms_144 : decode cX6_addTerms 144 = .ok (.iconst 1, 1) := by decide +kernel
theorem dX6_addTerms_145 : decode cX6_addTerms 145 = .ok (.iadd, 1) := by decide +kernel
theorem dX6_addTerms_146 : decode cX6_addTerms 146 = .ok (.iload_n 3, 1) := by decide +kernel
theorem dX6_addTerms_147 : decode cX6_addTerms 147 = .ok (.iconst 1, 1) := by decide +kernel
theorem dX6_addTerms_148 : decode cX6_addTerms 148 = .ok (.iadd, 1) := by decide +kernel
theorem dX6_addTerms_149 : decode cX6_addTerms 149 = .ok (.invokevirtual 54, 3) := by decide +kernel
theorem dX6_addTerms_152 : decode cX6_addTerms 152 = .ok (.iadd, 1) := by decide +kernel
theorem dX6_addTerms_153 : decode cX6_addTerms 153 = .ok (.istore 8, 2) := by decide +kernel
theorem dX6_addTerms_155 : decode cX6_addTerms 155 = .ok (.goto 22, 3) := by decide +kernel
theorem dX6_addTerms_158 : decode cX6_addTerms 158 = .ok (.iload 8, 2) := by decide +kernel
theorem dX6_addTerms_160 : decode cX6_addTerms 160 = .ok (.aload_n 0, 1) := by decide +kernel
theorem dX6_addTerms_161 : decode cX6_addTerms 161 = .ok (.iload 10, 2) := by decide +kernel
theorem dX6_addTerms_163 : decode cX6_addTerms 163 = .ok (.sipush 1001, 3) := by decide +kernel
theorem dX6_addTerms_166 : decode cX6_addTerms 166 = .ok (.isub, 1) := by decide +kernel
theorem dX6_addTerms_167 : decode cX6_addTerms 167 = .ok (.iconst 0, 1) := by decide +kernel
theorem dX6_addTerms_168 : decode cX6_addTerms 168 = .ok (.iload_n 3, 1) := by decide +kernel
theorem dX6_addTerms_169 : decode cX6_addTerms 169 = .ok (.iconst 1, 1) := by decide +kernel
theorem dX6_addTerms_170 : decode cX6_addTerms 170 = .ok (.iadd, 1) := by decide +kernel
theorem dX6_addTerms_171 : decode cX6_addTerms 171 = .ok (.invokevirtual 54, 3) := by decide +kernel
theorem dX6_addTerms_174 : decode cX6_addTerms 174 = .ok (.iadd, 1) := by decide +kernel
theorem dX6_addTerms_175 : decode cX6_addTerms 175 = .ok (.istore 8, 2) := by decide +kernel
theorem dX6_addTerms_177 : decode cX6_addTerms 177 = .ok (.iinc 9 1, 3) := by decide +kernel
theorem dX6_addTerms_180 : decode cX6_addTerms 180 = .ok (.goto (-98), 3) := by decide +kernel
theorem dX6_addTerms_183 : decode cX6_addTerms 183 = .ok (.iload 8, 2) := by decide +kernel
theorem dX6_addTerms_185 : decode cX6_addTerms 185 = .ok (.ireturn, 1) := by decide +kernel
theorem dX6_stop_0 : decode cX6_stop 0 = .ok (.aload_n 0, 1) := by decide +kernel
theorem dX6_stop_1 : decode cX6_stop 1 = .ok (.iload_n 1, 1) := by decide +kernel
theorem dX6_stop_2 : decode cX6_stop 2 = .ok (.putfield 27, 3) := by decide +kernel
theorem dX6_stop_5 : decode cX6_stop 5 = .ok (.aload_n 0, 1) := by decide +kernel
theorem dX6_stop_6 : decode cX6_stop 6 = .ok (.iload_n 2, 1) := by decide +kernel
theorem dX6_stop_7 : decode cX6_stop 7 = .ok (.putfield 39, 3) := by decide +kernel
theorem dX6_stop_10 : decode cX6_stop 10 = .ok (.iconst 0, 1) := by decide +kernel
theorem dX6_stop_11 : decode cX6_stop 11 = .ok (.ireturn, 1) := by decide +kernel
theorem dX7_init_0 : decode cX7_init 0 = .ok (.aload_n 0, 1) := by decide +kernel
theorem dX7_init_1 : decode cX7_init 1 = .ok (.invokespecial 3, 3) := by decide +kernel
theorem dX7_init_4 : decode cX7_init 4 = .ok (.aload_n 0, 1) := by decide +kernel
theorem dX7_init_5 : decode cX7_init 5 = .ok (.new 9, 3) := by decide +kernel
theorem dX7_init_8 : decode cX7_init 8 = .ok (.dup, 1) := by decide +kernel
theorem dX7_init_9 : decode cX7_init 9 = .ok (.invokespecial 11, 3) := by decide +kernel
theorem dX7_init_12 : decode cX7_init 12 = .ok (.putfield 12, 3) := by decide +kernel
theorem dX7_init_15 : decode cX7_init 15 = .ok (.aload_n 0, 1) := by decide +kernel
theorem dX7_init_16 : decode cX7_init 16 = .ok (.new 9, 3) := by decide +kernel
theorem dX7_init_19 : decode cX7_init 19 = .ok (.dup, 1) := by decide +kernel
theorem dX7_init_20 : decode cX7_init 20 = .ok (.invokespecial 11, 3) := by decide +kernel
theorem dX7_init_23 : decode cX7_init 23 = .ok (.putfield 18, 3) := by decide +kernel
theorem dX7_init_26 : decode cX7_init 26 = .ok (.aload_n 0, 1) := by decide +kernel
theorem dX7_init_27 : decode cX7_init 27 = .ok (.iconst 4, 1) := by decide +kernel
theorem dX7_init_28 : decode cX7_init 28 = .ok (.newarray .int, 2) := by decide +kernel
theorem dX7_init_30 : decode cX7_init 30 = .ok (.putfield 21, 3) := by decide +kernel
theorem dX7_init_33 : decode cX7_init 33 = .ok (.aload_n 0, 1) := by decide +kernel
theorem dX7_init_34 : decode cX7_init 34 = .ok (.bipush 26, 2) := by decide +kernel
theorem dX7_init_36 : decode cX7_init 36 = .ok (.newarray .int, 2) := by decide +kernel
theorem dX7_init_38 : decode cX7_init 38 = .ok (.putfield 25, 3) := by decide +kernel
theorem dX7_init_41 : decode cX7_init 41 = .ok (.aload_n 0, 1) := by decide +kernel
theorem dX7_init_42 : decode cX7_init 42 = .ok (.bipush 104, 2) := by decide +kernel
theorem dX7_init_44 : decode cX7_init 44 = .ok (.newarray .int, 2) := by decide +kernel
theorem dX7_init_46 : decode cX7_init 46 = .ok (.putfield 28, 3) := by decide +kernel
theorem dX7_init_49 : decode cX7_init 49 = .ok (.aload_n 0, 1) := by decide +kernel
theorem dX7_init_50 : decode cX7_init 50 = .ok (.bipush 104, 2) := by decide +kernel
theorem dX7_init_52 : decode cX7_init 52 = .ok (.newarray .int, 2) := by decide +kernel
theorem dX7_init_54 : decode cX7_init 54 = .ok (.putfield 31, 3) := by decide +kernel
theorem dX7_init_57 : decode cX7_init 57 = .ok (.return_, 1) := by decide +kernel
theorem dX7_open_0 : decode cX7_open 0 = .ok (.aload_n 0, 1) := by decide +kernel
theorem dX7_open_1 : decode cX7_open 1 = .ok (.iload_n 1, 1) := by decide +kernel
theorem dX7_open_2 : decode cX7_open 2 = .ok (.putfield 34, 3) := by decide +kernel
theorem dX7_open_5 : decode cX7_open 5 = .ok (.aload_n 0, 1) := by decide +kernel
theorem dX7_open_6 : decode cX7_open 6 = .ok (.iload_n 2, 1) := by decide +kernel
theorem dX7_open_7 : decode cX7_open 7 = .ok (.putfield 38, 3) := by decide +kernel
theorem dX7_open_10 : decode cX7_open 10 = .ok (.aload_n 0, 1) := by decide +kernel
theorem dX7_open_11 : decode cX7_open 11 = .ok (.iconst 0, 1) := by decide +kernel
theorem dX7_open_12 : decode cX7_open 12 = .ok (.putfield 42, 3) := by decide +kernel
theorem dX7_open_15 : decode cX7_open 15 = .ok (.aload_n 0, 1) := by decide +kernel
theorem dX7_open_16 : decode cX7_open 16 = .ok (.getfield 12, 3) := by decide +kernel
theorem dX7_open_19 : decode cX7_open 19 = .ok (.iconst 0, 1) := by decide +kernel
theorem dX7_open_20 : decode cX7_open 20 = .ok (.putfield 45, 3) := by decide +kernel
theorem dX7_open_23 : decode cX7_open 23 = .ok (.aload_n 0, 1) := by decide +kernel
theorem dX7_open_24 : decode cX7_open 24 = .ok (.getfield 18, 3) := by decide +kernel
theorem dX7_open_27 : decode cX7_open 27 = .ok (.iconst 0, 1) := by decide +kernel
theorem dX7_open_28 : decode cX7_open 28 = .ok (.putfield 45, 3) := by decide +kernel
theorem dX7_open_31 : decode cX7_open 31 = .ok (.aload_n 0, 1) := by decide +kernel
theorem dX7_open_32 : decode cX7_open 32 = .ok (.getfield 25, 3) := by decide +kernel
theorem dX7_open_35 : decode cX7_open 35 = .ok (.iconst (-1), 1) := by decide +kernel
theorem dX7_open_36 : decode cX7_open 36 = .ok (.invokestatic 48, 3) := by decide +kernel
theorem dX7_open_39 : decode cX7_open 39 = .ok (.return_, 1) := by decide +kernel
theorem dX7_tells_0 : decode cX7_tells 0 = .ok (.aload_n 0, 1) := by decide +kernel
theorem dX7_tells_1 : decode cX7_tells 1 = .ok (.getfield 25, 3) := by decide +kernel
theorem dX7_tells_4 : decode cX7_tells 4 = .ok (.iload_n 1, 1) := by decide +kernel
theorem dX7_tells_5 : decode cX7_tells 5 = .ok (.iaload, 1) := by decide +kernel
theorem dX7_tells_6 : decode cX7_tells 6 = .ok (.iconst (-1), 1) := by decide +kernel
theorem dX7_tells_7 : decode cX7_tells 7 = .ok (.if_icmp .eq 7, 3) := by decide +kernel
theorem dX7_tells_10 : decode cX7_tells 10 = .ok (.iconst 1, 1) := by decide +kernel
theorem dX7_tells_11 : decode cX7_tells 11 = .ok (.goto 4, 3) := by decide +kernel
theorem dX7_tells_14 : decode cX7_tells 14 = .ok (.iconst 0, 1) := by decide +kernel
theorem dX7_tells_15 : decode cX7_tells 15 = .ok (.ireturn, 1) := by decide +kernel
theorem dX7_requires_0 : decode cX7_requires 0 = .ok (.aload_n 0, 1) := by decide +kernel
theorem dX7_requires_1 : decode cX7_requires 1 = .ok (.getfield 25, 3) := by decide +kernel
theorem dX7_requires_4 : decode cX7_requires 4 = .ok (.iload_n 1, 1) := by decide +kernel
theorem dX7_requires_5 : decode cX7_requires 5 = .ok (.iaload, 1) := by decide +kernel
theorem dX7_requires_6 : decode cX7_requires 6 = .ok (.ifCond .ne 7, 3) := by decide +kernel
theorem dX7_requires_9 : decode cX7_requires 9 = .ok (.iconst 1, 1) := by decide +kernel
theorem dX7_requires_10 : decode cX7_requires 10 = .ok (.goto 4, 3) := by decide +kernel
theorem dX7_requires_13 : decode cX7_requires 13 = .ok (.iconst 0, 1) := by decide +kernel
theorem dX7_requires_14 : decode cX7_requires 14 = .ok (.ireturn, 1) := by decide +kernel
theorem dX7_hasBody_0 : decode cX7_hasBody 0 = .ok (.aload_n 0, 1) := by decide +kernel
theorem dX7_hasBody_1 : decode cX7_hasBody 1 = .ok (.getfield 25, 3) := by decide +kernel
theorem dX7_hasBody_4 : decode cX7_hasBody 4 = .ok (.iload_n 1, 1) := by decide +kernel
theorem dX7_hasBody_5 : decode cX7_hasBody 5 = .ok (.iaload, 1) := by decide +kernel
theorem dX7_hasBody_6 : decode cX7_hasBody 6 = .ok (.ifCond .le 7, 3) := by decide +kernel
theorem dX7_hasBody_9 : decode cX7_hasBody 9 = .ok (.iconst 1, 1) := by decide +kernel
theorem dX7_hasBody_10 : decode cX7_hasBody 10 = .ok (.goto 4, 3) := by decide +kernel
theorem dX7_hasBody_13 : decode cX7_hasBody 13 = .ok (.iconst 0, 1) := by decide +kernel
theorem dX7_hasBody_14 : decode cX7_hasBody 14 = .ok (.ireturn, 1) := by decide +kernel
theorem dX7_termAt_0 : decode cX7_termAt 0 = .ok (.aload_n 0, 1) := by decide +kernel
theorem dX7_termAt_1 : decode cX7_termAt 1 = .ok (.getfield 28, 3) := by decide +kernel
theorem dX7_termAt_4 : decode cX7_termAt 4 = .ok (.iload_n 1, 1) := by decide +kernel
theorem dX7_termAt_5 : decode cX7_termAt 5 = .ok (.iconst 4, 1) := by decide +kernel
theorem dX7_termAt_6 : decode cX7_termAt 6 = .ok (.imul, 1) := by decide +kernel
theorem dX7_termAt_7 : decode cX7_termAt 7 = .ok (.iload_n 2, 1) := by decide +kernel
theorem dX7_termAt_8 : decode cX7_termAt 8 = .ok (.iadd, 1) := by decide +kernel
theorem dX7_termAt_9 : decode cX7_termAt 9 = .ok (.iaload, 1) := by decide +kernel
theorem dX7_termAt_10 : decode cX7_termAt 10 = .ok (.ireturn, 1) := by decide +kernel
theorem dX7_require_0 : decode cX7_require 0 = .ok (.aload_n 0, 1) := by decide +kernel
theorem dX7_require_1 : decode cX7_require 1 = .ok (.iload_n 1, 1) := by decide +kernel
theorem dX7_require_2 : decode cX7_require 2 = .ok (.invokevirtual 54, 3) := by decide +kernel
theorem dX7_require_5 : decode cX7_require 5 = .ok (.ifCond .ne 13, 3) := by decide +kernel
theorem dX7_require_8 : decode cX7_require 8 = .ok (.aload_n 0, 1) := by decide +kernel
theorem dX7_require_9 : decode cX7_require 9 = .ok (.dup, 1) := by decide +kernel
theorem dX7_require_10 : decode cX7_require 10 = .ok (.getfield 42, 3) := by decide +kernel
theorem dX7_require_13 : decode cX7_require 13 = .ok (.iconst 1, 1) := by decide +kernel
theorem dX7_require_14 : decode cX7_require 14 = .ok (.iadd, 1) := by decide +kernel
theorem dX7_require_15 : decode cX7_require 15 = .ok (.putfield 42, 3) := by decide +kernel
theorem dX7_require_18 : decode cX7_require 18 = .ok (.aload_n 0, 1) := by decide +kernel
theorem dX7_require_19 : decode cX7_require 19 = .ok (.getfield 25, 3) := by decide +kernel
theorem dX7_require_22 : decode cX7_require 22 = .ok (.iload_n 1, 1) := by decide +kernel
theorem dX7_require_23 : decode cX7_require 23 = .ok (.iconst 0, 1) := by decide +kernel
theorem dX7_require_24 : decode cX7_require 24 = .ok (.iastore, 1) := by decide +kernel
theorem dX7_require_25 : decode cX7_require 25 = .ok (.return_, 1) := by decide +kernel
theorem dX7_addTerm_0 : decode cX7_addTerm 0 = .ok (.aload_n 0, 1) := by decide +kernel
theorem dX7_addTerm_1 : decode cX7_addTerm 1 = .ok (.getfield 25, 3) := by decide +kernel
theorem dX7_addTerm_4 : decode cX7_addTerm 4 = .ok (.iload_n 1, 1) := by decide +kernel
theorem dX7_addTerm_5 : decode cX7_addTerm 5 = .ok (.iaload, 1) := by decide +kernel
theorem dX7_addTerm_6 : decode cX7_addTerm 6 = .ok (.istore_n 3, 1) := by decide +kernel
theorem dX7_addTerm_7 : decode cX7_addTerm 7 = .ok (.iload_n 3, 1) := by decide +kernel
theorem dX7_addTerm_8 : decode cX7_addTerm 8 = .ok (.ifCond .lt 28, 3) := by decide +kernel
theorem dX7_addTerm_11 : decode cX7_addTerm 11 = .ok (.iload_n 3, 1) := by decide +kernel
theorem dX7_addTerm_12 : decode cX7_addTerm 12 = .ok (.iconst 4, 1) := by decide +kernel
theorem dX7_addTerm_13 : decode cX7_addTerm 13 = .ok (.if_icmp .ge 23, 3) := by decide +kernel
theorem dX7_addTerm_16 : decode cX7_addTerm 16 = .ok (.aload_n 0, 1) := by decide +kernel
theorem dX7_addTerm_17 : decode cX7_addTerm 17 = .ok (.getfield 28, 3) := by decide +kernel
theorem dX7_addTerm_20 : decode cX7_addTerm 20 = .ok (.iload_n 1, 1) := by decide +kernel
theorem dX7_addTerm_21 : decode cX7_addTerm 21 = .ok (.iconst 4, 1) := by decide +kernel
theorem dX7_addTerm_22 : decode cX7_addTerm 22 = .ok (.imul, 1) := by decide +kernel
theorem dX7_addTerm_23 : decode cX7_addTerm 23 = .ok (.iload_n 3, 1) := by decide +kernel
theorem dX7_addTerm_24 : decode cX7_addTerm 24 = .ok (.iadd, 1) := by decide +kernel
theorem dX7_addTerm_25 : decode cX7_addTerm 25 = .ok (.iload_n 2, 1) := by decide +kernel
theorem dX7_addTerm_26 : decode cX7_addTerm 26 = .ok (.iastore, 1) := by decide +kernel
theorem dX7_addTerm_27 : decode cX7_addTerm 27 = .ok (.aload_n 0, 1) := by decide +kernel
theorem dX7_addTerm_28 : decode cX7_addTerm 28 = .ok (.getfield 25, 3) := by decide +kernel
theorem dX7_addTerm_31 : decode cX7_addTerm 31 = .ok (.iload_n 1, 1) := by decide +kernel
theorem dX7_addTerm_32 : decode cX7_addTerm 32 = .ok (.iload_n 3, 1) := by decide +kernel
theorem dX7_addTerm_33 : decode cX7_addTerm 33 = .ok (.iconst 1, 1) := by decide +kernel
theorem dX7_addTerm_34 : decode cX7_addTerm 34 = .ok (.iadd, 1) := by decide +kernel
theorem dX7_addTerm_35 : decode cX7_addTerm 35 = .ok (.iastore, 1) := by decide +kernel
theorem dX7_addTerm_36 : decode cX7_addTerm 36 = .ok (.return_, 1) := by decide +kernel
theorem dX7_forget_0 : decode cX7_forget 0 = .ok (.aload_n 0, 1) := by decide +kernel
theorem dX7_forget_1 : decode cX7_forget 1 = .ok (.iload_n 1, 1) := by decide +kernel
theorem dX7_forget_2 : decode cX7_forget 2 = .ok (.invokevirtual 54, 3) := by decide +kernel
theorem dX7_forget_5 : decode cX7_forget 5 = .ok (.ifCond .eq 13, 3) := by decide +kernel
theorem dX7_forget_8 : decode cX7_forget 8 = .ok (.aload_n 0, 1) := by decide +kernel
theorem dX7_forget_9 : decode cX7_forget 9 = .ok (.dup, 1) := by decide +kernel
theorem dX7_forget_10 : decode cX7_forget 10 = .ok (.getfield 42, 3) := by decide +kernel
theorem dX7_forget_13 : decode cX7_forget 13 = .ok (.iconst 1, 1) := by decide +kernel
theorem dX7_forget_14 : decode cX7_forget 14 = .ok (.isub, 1) := by decide +kernel
theorem dX7_forget_15 : decode cX7_forget 15 = .ok (.putfield 42, 3) := by decide +kernel
theorem dX7_forget_18 : decode cX7_forget 18 = .ok (.aload_n 0, 1) := by decide +kernel
theorem dX7_forget_19 : decode cX7_forget 19 = .ok (.getfield 25, 3) := by decide +kernel
theorem dX7_forget_22 : decode cX7_forget 22 = .ok (.iload_n 1, 1) := by decide +kernel
theorem dX7_forget_23 : decode cX7_forget 23 = .ok (.iconst (-1), 1) := by decide +kernel
theorem dX7_forget_24 : decode cX7_forget 24 = .ok (.iastore, 1) := by decide +kernel
theorem dX7_forget_25 : decode cX7_forget 25 = .ok (.return_, 1) := by decide +kernel
theorem dX7_toldBits_0 : decode cX7_toldBits 0 = .ok (.iconst 0, 1) := by decide +kernel
theorem dX7_toldBits_1 : decode cX7_toldBits 1 = .ok (.istore_n 1, 1) := by decide +kernel
theorem dX7_toldBits_2 : decode cX7_toldBits 2 = .ok (.iconst 0, 1) := by decide +kernel
theorem dX7_toldBits_3 : decode cX7_toldBits 3 = .ok (.istore_n 2, 1) := by decide +kernel
theorem dX7_toldBits_4 : decode cX7_toldBits 4 = .ok (.iload_n 2, 1) := by decide +kernel
