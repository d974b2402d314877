theorem dX0_init_0 : decode cX0_init 0 = .ok (.aload_n 0, 1) := by decide +kernel
theorem dX0_init_1 : decode cX0_init 1 = .ok (.invokespecial 3, 3) := by decide +kernel
theorem dX0_init_4 : decode cX0_init 4 = .ok (.aload_n 0, 1) := by decide +kernel
theorem dX0_init_5 : decode cX0_init 5 = .ok (.bipush 8, 2) := by decide +kernel
theorem dX0_init_7 : decode cX0_init 7 = .ok (.newarray .int, 2) := by decide +kernel
theorem dX0_init_9 : decode cX0_init 9 = .ok (.putfield 9, 3) := by decide +kernel
theorem dX0_init_12 : decode cX0_init 12 = .ok (.aload_n 0, 1) := by decide +kernel
theorem dX0_init_13 : decode cX0_init 13 = .ok (.bipush 8, 2) := by decide +kernel
theorem dX0_init_15 : decode cX0_init 15 = .ok (.newarray .int, 2) := by decide +kernel
theorem dX0_init_17 : decode cX0_init 17 = .ok (.putfield 15, 3) := by decide +kernel
theorem dX0_init_20 : decode cX0_init 20 = .ok (.return_, 1) := by decide +kernel
theorem dX0_read_0 : decode cX0_read 0 = .ok (.aload_n 1, 1) := by decide +kernel
theorem dX0_read_1 : decode cX0_read 1 = .ok (.invokevirtual 18, 3) := by decide +kernel
theorem dX0_read_4 : decode cX0_read 4 = .ok (.bipush 23, 2) := by decide +kernel
theorem dX0_read_6 : decode cX0_read 6 = .ok (.invokestatic 24, 3) := by decide +kernel
theorem dX0_read_9 : decode cX0_read 9 = .ok (.istore_n 2, 1) := by decide +kernel
theorem dX0_read_10 : decode cX0_read 10 = .ok (.iconst 0, 1) := by decide +kernel
theorem dX0_read_11 : decode cX0_read 11 = .ok (.istore_n 3, 1) := by decide +kernel
theorem dX0_read_12 : decode cX0_read 12 = .ok (.iload_n 3, 1) := by decide +kernel
theorem dX0_read_13 : decode cX0_read 13 = .ok (.iload_n 2, 1) := by decide +kernel
theorem dX0_read_14 : decode cX0_read 14 = .ok (.if_icmp .ge 36, 3) := by decide +kernel
theorem dX0_read_17 : decode cX0_read 17 = .ok (.aload_n 0, 1) := by decide +kernel
theorem dX0_read_18 : decode cX0_read 18 = .ok (.aload_n 1, 1) := by decide +kernel
theorem dX0_read_19 : decode cX0_read 19 = .ok (.iload_n 3, 1) := by decide +kernel
theorem dX0_read_20 : decode cX0_read 20 = .ok (.invokevirtual 30, 3) := by decide +kernel
theorem dX0_read_23 : decode cX0_read 23 = .ok (.iload_n 3, 1) := by decide +kernel
theorem dX0_read_24 : decode cX0_read 24 = .ok (.iconst 3, 1) := by decide +kernel
theorem dX0_read_25 : decode cX0_read 25 = .ok (.irem, 1) := by decide +kernel
theorem dX0_read_26 : decode cX0_read 26 = .ok (.aload_n 0, 1) := by decide +kernel
theorem dX0_read_27 : decode cX0_read 27 = .ok (.getfield 34, 3) := by decide +kernel
theorem dX0_read_30 : decode cX0_read 30 = .ok (.iload_n 3, 1) := by decide +kernel
theorem dX0_read_31 : decode cX0_read 31 = .ok (.iconst 3, 1) := by decide +kernel
theorem dX0_read_32 : decode cX0_read 32 = .ok (.idiv, 1) := by decide +kernel
theorem dX0_read_33 : decode cX0_read 33 = .ok (.iadd, 1) := by decide +kernel
theorem dX0_read_34 : decode cX0_read 34 = .ok (.invokevirtual 37, 3) := by decide +kernel
theorem dX0_read_37 : decode cX0_read 37 = .ok (.ifCond .ne 7, 3) := by decide +kernel
theorem dX0_read_40 : decode cX0_read 40 = .ok (.iconst (-1), 1) := by decide +kernel
theorem dX0_read_41 : decode cX0_read 41 = .ok (.iload_n 3, 1) := by decide +kernel
theorem dX0_read_42 : decode cX0_read 42 = .ok (.isub, 1) := by decide +kernel
theorem dX0_read_43 : decode cX0_read 43 = .ok (.ireturn, 1) := by decide +kernel
theorem dX0_read_44 : decode cX0_read 44 = .ok (.iinc 3 1, 3) := by decide +kernel
theorem dX0_read_47 : decode cX0_read 47 = .ok (.goto (-35), 3) := by decide +kernel
theorem dX0_read_50 : decode cX0_read 50 = .ok (.aload_n 1, 1) := by decide +kernel
theorem dX0_read_51 : decode cX0_read 51 = .ok (.invokevirtual 18, 3) := by decide +kernel
theorem dX0_read_54 : decode cX0_read 54 = .ok (.ifCond .ne 5, 3) := by decide +kernel
theorem dX0_read_57 : decode cX0_read 57 = .ok (.iconst 0, 1) := by decide +kernel
theorem dX0_read_58 : decode cX0_read 58 = .ok (.ireturn, 1) := by decide +kernel
theorem dX0_read_59 : decode cX0_read 59 = .ok (.aload_n 1, 1) := by decide +kernel
theorem dX0_read_60 : decode cX0_read 60 = .ok (.invokevirtual 18, 3) := by decide +kernel
theorem dX0_read_63 : decode cX0_read 63 = .ok (.bipush 23, 2) := by decide +kernel
theorem dX0_read_65 : decode cX0_read 65 = .ok (.if_icmp .gt 10, 3) := by decide +kernel
theorem dX0_read_68 : decode cX0_read 68 = .ok (.iload_n 2, 1) := by decide +kernel
theorem dX0_read_69 : decode cX0_read 69 = .ok (.iconst 3, 1) := by decide +kernel
theorem dX0_read_70 : decode cX0_read 70 = .ok (.irem, 1) := by decide +kernel
theorem dX0_read_71 : decode cX0_read 71 = .ok (.iconst 2, 1) := by decide +kernel
theorem dX0_read_72 : decode cX0_read 72 = .ok (.if_icmp .eq 7, 3) := by decide +kernel
theorem dX0_read_75 : decode cX0_read 75 = .ok (.iconst (-1), 1) := by decide +kernel
theorem dX0_read_76 : decode cX0_read 76 = .ok (.iload_n 2, 1) := by decide +kernel
theorem dX0_read_77 : decode cX0_read 77 = .ok (.isub, 1) := by decide +kernel
theorem dX0_read_78 : decode cX0_read 78 = .ok (.ireturn, 1) := by decide +kernel
theorem dX0_read_79 : decode cX0_read 79 = .ok (.iload_n 2, 1) := by decide +kernel
theorem dX0_read_80 : decode cX0_read 80 = .ok (.iconst 1, 1) := by decide +kernel
theorem dX0_read_81 : decode cX0_read 81 = .ok (.iadd, 1) := by decide +kernel
theorem dX0_read_82 : decode cX0_read 82 = .ok (.iconst 3, 1) := by decide +kernel
theorem dX0_read_83 : decode cX0_read 83 = .ok (.idiv, 1) := by decide +kernel
theorem dX0_read_84 : decode cX0_read 84 = .ok (.istore_n 3, 1) := by decide +kernel
theorem dX0_read_85 : decode cX0_read 85 = .ok (.aload_n 0, 1) := by decide +kernel
theorem dX0_read_86 : decode cX0_read 86 = .ok (.dup, 1) := by decide +kernel
theorem dX0_read_87 : decode cX0_read 87 = .ok (.getfield 34, 3) := by decide +kernel
theorem dX0_read_90 : decode cX0_read 90 = .ok (.iload_n 3, 1) := by decide +kernel
theorem dX0_read_91 : decode cX0_read 91 = .ok (.iadd, 1) := by decide +kernel
theorem dX0_read_92 : decode cX0_read 92 = .ok (.putfield 34, 3) := by decide +kernel
theorem dX0_read_95 : decode cX0_read 95 = .ok (.iload_n 3, 1) := by decide +kernel
theorem dX0_read_96 : decode cX0_read 96 = .ok (.ireturn, 1) := by decide +kernel
theorem dX0_readSign_0 : decode cX0_readSign 0 = .ok (.iload_n 2, 1) := by decide +kernel
theorem dX0_readSign_1 : decode cX0_readSign 1 = .ok (.iconst 2, 1) := by decide +kernel
theorem dX0_readSign_2 : decode cX0_readSign 2 = .ok (.if_icmp .ne 15, 3) := by decide +kernel
theorem dX0_readSign_5 : decode cX0_readSign 5 = .ok (.iload_n 1, 1) := by decide +kernel
theorem dX0_readSign_6 : decode cX0_readSign 6 = .ok (.bipush 59, 2) := by decide +kernel
theorem dX0_readSign_8 : decode cX0_readSign 8 = .ok (.if_icmp .ne 7, 3) := by decide +kernel
theorem dX0_readSign_11 : decode cX0_readSign 11 = .ok (.iconst 1, 1) := by decide +kernel
theorem dX0_readSign_12 : decode cX0_readSign 12 = .ok (.goto 4, 3) := by decide +kernel
theorem dX0_readSign_15 : decode cX0_readSign 15 = .ok (.iconst 0, 1) := by decide +kernel
theorem dX0_readSign_16 : decode cX0_readSign 16 = .ok (.ireturn, 1) := by decide +kernel
theorem dX0_readSign_17 : decode cX0_readSign 17 = .ok (.iload_n 3, 1) := by decide +kernel
theorem dX0_readSign_18 : decode cX0_readSign 18 = .ok (.ifCond .lt 9, 3) := by decide +kernel
theorem dX0_readSign_21 : decode cX0_readSign 21 = .ok (.iload_n 3, 1) := by decide +kernel
theorem dX0_readSign_22 : decode cX0_readSign 22 = .ok (.bipush 8, 2) := by decide +kernel
theorem dX0_readSign_24 : decode cX0_readSign 24 = .ok (.if_icmp .lt 5, 3) := by decide +kernel
theorem dX0_readSign_27 : decode cX0_readSign 27 = .ok (.iconst 0, 1) := by decide +kernel
theorem dX0_readSign_28 : decode cX0_readSign 28 = .ok (.ireturn, 1) := by decide +kernel
theorem dX0_readSign_29 : decode cX0_readSign 29 = .ok (.iload_n 2, 1) := by decide +kernel
theorem dX0_readSign_30 : decode cX0_readSign 30 = .ok (.ifCond .ne 31, 3) := by decide +kernel
theorem dX0_readSign_33 : decode cX0_readSign 33 = .ok (.aload_n 0, 1) := by decide +kernel
theorem dX0_readSign_34 : decode cX0_readSign 34 = .ok (.getfield 9, 3) := by decide +kernel
theorem dX0_readSign_37 : decode cX0_readSign 37 = .ok (.iload_n 3, 1) := by decide +kernel
theorem dX0_readSign_38 : decode cX0_readSign 38 = .ok (.iload_n 1, 1) := by decide +kernel
theorem dX0_readSign_39 : decode cX0_readSign 39 = .ok (.bipush 48, 2) := by decide +kernel
theorem dX0_readSign_41 : decode cX0_readSign 41 = .ok (.isub, 1) := by decide +kernel
theorem dX0_readSign_42 : decode cX0_readSign 42 = .ok (.iastore, 1) := by decide +kernel
theorem dX0_readSign_43 : decode cX0_readSign 43 = .ok (.iload_n 1, 1) := by decide +kernel
theorem dX0_readSign_44 : decode cX0_readSign 44 = .ok (.bipush 48, 2) := by decide +kernel
theorem dX0_readSign_46 : decode cX0_readSign 46 = .ok (.if_icmp .lt 13, 3) := by decide +kernel
theorem dX0_readSign_49 : decode cX0_readSign 49 = .ok (.iload_n 1, 1) := by decide +kernel
theorem dX0_readSign_50 : decode cX0_readSign 50 = .ok (.bipush 52, 2) := by decide +kernel
theorem dX0_readSign_52 : decode cX0_readSign 52 = .ok (.if_icmp .gt 7, 3) := by decide +kernel
theorem dX0_readSign_55 : decode cX0_readSign 55 = .ok (.iconst 1, 1) := by decide +kernel
theorem dX0_readSign_56 : decode cX0_readSign 56 = .ok (.goto 4, 3) := by decide +kernel
theorem dX0_readSign_59 : decode cX0_readSign 59 = .ok (.iconst 0, 1) := by decide +kernel
theorem dX0_readSign_60 : decode cX0_readSign 60 = .ok (.ireturn, 1) := by decide +kernel
theorem dX0_readSign_61 : decode cX0_readSign 61 = .ok (.aload_n 0, 1) := by decide +kernel
theorem dX0_readSign_62 : decode cX0_readSign 62 = .ok (.getfield 15, 3) := by decide +kernel
theorem dX0_readSign_65 : decode cX0_readSign 65 = .ok (.iload_n 3, 1) := by decide +kernel
theorem dX0_readSign_66 : decode cX0_readSign 66 = .ok (.iload_n 1, 1) := by decide +kernel
theorem dX0_readSign_67 : decode cX0_readSign 67 = .ok (.bipush 48, 2) := by decide +kernel
theorem dX0_readSign_69 : decode cX0_readSign 69 = .ok (.isub, 1) := by decide +kernel
theorem dX0_readSign_70 : decode cX0_readSign 70 = .ok (.iastore, 1) := by decide +kernel
theorem dX0_readSign_71 : decode cX0_readSign 71 = .ok (.iload_n 1, 1) := by decide +kernel
theorem dX0_readSign_72 : decode cX0_readSign 72 = .ok (.bipush 49, 2) := by decide +kernel
theorem dX0_readSign_74 : decode cX0_readSign 74 = .ok (.if_icmp .lt 13, 3) := by decide +kernel
theorem dX0_readSign_77 : decode cX0_readSign 77 = .ok (.iload_n 1, 1) := by decide +kernel
theorem dX0_readSign_78 : decode cX0_readSign 78 = .ok (.bipush 57, 2) := by decide +kernel
theorem dX0_readSign_80 : decode cX0_readSign 80 = .ok (.if_icmp .gt 7, 3) := by decide +kernel
theorem dX0_readSign_83 : decode cX0_readSign 83 = .ok (.iconst 1, 1) := by decide +kernel
theorem dX0_readSign_84 : decode cX0_readSign 84 = .ok (.goto 4, 3) := by decide +kernel
theorem dX0_readSign_87 : decode cX0_readSign 87 = .ok (.iconst 0, 1) := by decide +kernel
theorem dX0_readSign_88 : decode cX0_readSign 88 = .ok (.ireturn, 1) := by decide +kernel
theorem dX0_size_0 : decode cX0_size 0 = .ok (.aload_n 0, 1) := by decide +kernel
theorem dX0_size_1 : decode cX0_size 1 = .ok (.getfield 34, 3) := by decide +kernel
theorem dX0_size_4 : decode cX0_size 4 = .ok (.ireturn, 1) := by decide +kernel
theorem dX0_has_0 : decode cX0_has 0 = .ok (.iload_n 1, 1) := by decide +kernel
theorem dX0_has_1 : decode cX0_has 1 = .ok (.ifCond .lt 21, 3) := by decide +kernel
theorem dX0_has_4 : decode cX0_has 4 = .ok (.iload_n 1, 1) := by decide +kernel
theorem dX0_has_5 : decode cX0_has 5 = .ok (.aload_n 0, 1) := by decide +kernel
theorem dX0_has_6 : decode cX0_has 6 = .ok (.getfield 34, 3) := by decide +kernel
theorem dX0_has_9 : decode cX0_has 9 = .ok (.if_icmp .ge 13, 3) := by decide +kernel
theorem dX0_has_12 : decode cX0_has 12 = .ok (.iload_n 1, 1) := by decide +kernel
theorem dX0_has_13 : decode cX0_has 13 = .ok (.bipush 8, 2) := by decide +kernel
theorem dX0_has_15 : decode cX0_has 15 = .ok (.if_icmp .ge 7, 3) := by decide +kernel
theorem dX0_has_18 : decode cX0_has 18 = .ok (.iconst 1, 1) := by decide +kernel
theorem dX0_has_19 : decode cX0_has 19 = .ok (.goto 4, 3) := by decide +kernel
theorem dX0_has_22 : decode cX0_has 22 = .ok (.iconst 0, 1) := by decide +kernel
theorem dX0_has_23 : decode cX0_has 23 = .ok (.ireturn, 1) := by decide +kernel
theorem dX0_kindOf_0 : decode cX0_kindOf 0 = .ok (.aload_n 0, 1) := by decide +kernel
theorem dX0_kindOf_1 : decode cX0_kindOf 1 = .ok (.iload_n 1, 1) := by decide +kernel
theorem dX0_kindOf_2 : decode cX0_kindOf 2 = .ok (.invokevirtual 41, 3) := by decide +kernel
theorem dX0_kindOf_5 : decode cX0_kindOf 5 = .ok (.ifCond .eq 12, 3) := by decide +kernel
theorem dX0_kindOf_8 : decode cX0_kindOf 8 = .ok (.aload_n 0, 1) := by decide +kernel
theorem dX0_kindOf_9 : decode cX0_kindOf 9 = .ok (.getfield 9, 3) := by decide +kernel
theorem dX0_kindOf_12 : decode cX0_kindOf 12 = .ok (.iload_n 1, 1) := by decide +kernel
theorem dX0_kindOf_13 : decode cX0_kindOf 13 = .ok (.iaload, 1) := by decide +kernel
theorem dX0_kindOf_14 : decode cX0_kindOf 14 = .ok (.goto 4, 3) := by decide +kernel
theorem dX0_kindOf_17 : decode cX0_kindOf 17 = .ok (.iconst (-1), 1) := by decide +kernel
theorem dX0_kindOf_18 : decode cX0_kindOf 18 = .ok (.ireturn, 1) := by decide +kernel
theorem dX0_loadOf_0 : decode cX0_loadOf 0 = .ok (.aload_n 0, 1) := by decide +kernel
theorem dX0_loadOf_1 : decode cX0_loadOf 1 = .ok (.iload_n 1, 1) := by decide +kernel
theorem dX0_loadOf_2 : decode cX0_loadOf 2 = .ok (.invokevirtual 41, 3) := by decide +kernel
theorem dX0_loadOf_5 : decode cX0_loadOf 5 = .ok (.ifCond .eq 12, 3) := by decide +kernel
theorem dX0_loadOf_8 : decode cX0_loadOf 8 = .ok (.aload_n 0, 1) := by decide +kernel
theorem dX0_loadOf_9 : decode cX0_loadOf 9 = .ok (.getfield 15, 3) := by decide +kernel
theorem dX0_loadOf_12 : decode cX0_loadOf 12 = .ok (.iload_n 1, 1) := by decide +kernel
theorem dX0_loadOf_13 : decode cX0_loadOf 13 = .ok (.iaload, 1) := by decide +kernel
theorem dX0_loadOf_14 : decode cX0_loadOf 14 = .ok (.goto 4, 3) := by decide +kernel
theorem dX0_loadOf_17 : decode cX0_loadOf 17 = .ok (.iconst 0, 1) := by decide +kernel
theorem dX0_loadOf_18 : decode cX0_loadOf 18 = .ok (.ireturn, 1) := by decide +kernel
theorem dX0_loadsOf_0 : decode cX0_loadsOf 0 = .ok (.iconst 0, 1) := by decide +kernel
theorem dX0_loadsOf_1 : decode cX0_loadsOf 1 = .ok (.istore_n 2, 1) := by decide +kernel
theorem dX0_loadsOf_2 : decode cX0_loadsOf 2 = .ok (.iconst 0, 1) := by decide +kernel
theorem dX0_loadsOf_3 : decode cX0_loadsOf 3 = .ok (.istore_n 3, 1) := by decide +kernel
theorem dX0_loadsOf_4 : decode cX0_loadsOf 4 = .ok (.iload_n 3, 1) := by decide +kernel
theorem dX0_loadsOf_5 : decode cX0_loadsOf 5 = .ok (.aload_n 0, 1) := by decide +kernel
theorem dX0_loadsOf_6 : decode cX0_loadsOf 6 = .ok (.getfield 34, 3) := by decide +kernel
theorem dX0_loadsOf_9 : decode cX0_loadsOf 9 = .ok (.if_icmp .ge 25, 3) := by decide +kernel
theorem dX0_loadsOf_12 : decode cX0_loadsOf 12 = .ok (.iload_n 1, 1) := by decide +kernel
theorem dX0_loadsOf_13 : decode cX0_loadsOf 13 = .ok (.iload_n 3, 1) := by decide +kernel
theorem dX0_loadsOf_14 : decode cX0_loadsOf 14 = .ok (.ishr, 1) := by decide +kernel
theorem dX0_loadsOf_15 : decode cX0_loadsOf 15 = .ok (.iconst 1, 1) := by decide +kernel
theorem dX0_loadsOf_16 : decode cX0_loadsOf 16 = .ok (.iand, 1) := by decide +kernel
theorem dX0_loadsOf_17 : decode cX0_loadsOf 17 = .ok (.ifCond .eq 11, 3) := by decide +kernel
theorem dX0_loadsOf_20 : decode cX0_loadsOf 20 = .ok (.iload_n 2, 1) := by decide +kernel
theorem dX0_loadsOf_21 : decode cX0_loadsOf 21 = .ok (.aload_n 0, 1) := by decide +kernel
theorem dX0_loadsOf_22 : decode cX0_loadsOf 22 = .ok (.iload_n 3, 1) := by decide +kernel
theorem dX0_loadsOf_23 : decode cX0_loadsOf 23 = .ok (.invokevirtual 45, 3) := by decide +kernel
theorem dX0_loadsOf_26 : decode cX0_loadsOf 26 = .ok (.iadd, 1) := by decide +kernel
theorem dX0_loadsOf_27 : decode cX0_loadsOf 27 = .ok (.istore_n 2, 1) := by decide +kernel
theorem dX0_loadsOf_28 : decode cX0_loadsOf 28 = .ok (.iinc 3 1, 3) := by decide +kernel
theorem dX0_loadsOf_31 : decode cX0_loadsOf 31 = .ok (.goto (-27), 3) := by decide +kernel
theorem dX0_loadsOf_34 : decode cX0_loadsOf 34 = .ok (.iload_n 2, 1) := by decide +kernel
theorem dX0_loadsOf_35 : decode cX0_loadsOf 35 = .ok (.ireturn, 1) := by decide +kernel
theorem dX0_heavy_0 : decode cX0_heavy 0 = .ok (.iconst 0, 1) := by decide +kernel
theorem dX0_heavy_1 : decode cX0_heavy 1 = .ok (.istore_n 2, 1) := by decide +kernel
theorem dX0_heavy_2 : decode cX0_heavy 2 = .ok (.iconst 0, 1) := by decide +kernel
theorem dX0_heavy_3 : decode cX0_heavy 3 = .ok (.istore_n 3, 1) := by decide +kernel
theorem dX0_heavy_4 : decode cX0_heavy 4 = .ok (.iload_n 3, 1) := by decide +kernel
theorem dX0_heavy_5 : decode cX0_heavy 5 = .ok (.aload_n 0, 1) := by decide +kernel
theorem dX0_heavy_6 : decode cX0_heavy 6 = .ok (.getfield 34, 3) := by decide +kernel
theorem dX0_heavy_9 : decode cX0_heavy 9 = .ok (.if_icmp .ge 24, 3) := by decide +kernel
theorem dX0_heavy_12 : decode cX0_heavy 12 = .ok (.aload_n 0, 1) := by decide +kernel
theorem dX0_heavy_13 : decode cX0_heavy 13 = .ok (.iload_n 3, 1) := by decide +kernel
theorem dX0_heavy_14 : decode cX0_heavy 14 = .ok (.invokevirtual 45, 3) := by decide +kernel
theorem dX0_heavy_17 : decode cX0_heavy 17 = .ok (.iload_n 1, 1) := by decide +kernel
theorem dX0_heavy_18 : decode cX0_heavy 18 = .ok (.if_icmp .lt 9, 3) := by decide +kernel
theorem dX0_heavy_21 : decode cX0_heavy 21 = .ok (.iload_n 2, 1) := by decide +kernel
theorem dX0_heavy_22 : decode cX0_heavy 22 = .ok (.iconst 1, 1) := by decide +kernel
theorem dX0_heavy_23 : decode cX0_heavy 23 = .ok (.iload_n 3, 1) := by decide +kernel
theorem dX0_heavy_24 : decode cX0_heavy 24 = .ok (.ishl, 1) := by decide +kernel
theorem dX0_heavy_25 : decode cX0_heavy 25 = .ok (.ior, 1) := by decide +kernel
theorem dX0_heavy_26 : decode cX0_heavy 26 = .ok (.istore_n 2, 1) := by decide +kernel
theorem dX0_heavy_27 : decode cX0_heavy 27 = .ok (.iinc 3 1, 3) := by decide +kernel
theorem dX0_heavy_30 : decode cX0_heavy 30 = .ok (.goto (-26), 3) := by decide +kernel
theorem dX0_heavy_33 : decode cX0_heavy 33 = .ok (.iload_n 2, 1) := by decide +kernel
theorem dX0_heavy_34 : decode cX0_heavy 34 = .ok (.ireturn, 1) := by decide +kernel
theorem dX1_init_0 : decode cX1_init 0 = .ok (.aload_n 0, 1) := by decide +kernel
theorem dX1_init_1 : decode cX1_init 1 = .ok (.invokespecial 3, 3) := by decide +kernel
theorem dX1_init_4 : decode cX1_init 4 = .ok (.aload_n 0, 1) := by decide +kernel
theorem dX1_init_5 : decode cX1_init 5 = .ok (.bipush 12, 2) := by decide +kernel
theorem dX1_init_7 : decode cX1_init 7 = .ok (.newarray .int, 2) := by decide +kernel
theorem dX1_init_9 : decode cX1_init 9 = .ok (.putfield 9, 3) := by decide +kernel
theorem dX1_init_12 : decode cX1_init 12 = .ok (.aload_n 0, 1) := by decide +kernel
theorem dX1_init_13 : decode cX1_init 13 = .ok (.aload_n 1, 1) := by decide +kernel
theorem dX1_init_14 : decode cX1_init 14 = .ok (.putfield 15, 3) := by decide +kernel
theorem dX1_init_17 : decode cX1_init 17 = .ok (.aload_n 0, 1) := by decide +kernel
theorem dX1_init_18 : decode cX1_init 18 = .ok (.aload_n 2, 1) := by decide +kernel
theorem dX1_init_19 : decode cX1_init 19 = .ok (.putfield 19, 3) := by decide +kernel
theorem dX1_init_22 : decode cX1_init 22 = .ok (.return_, 1) := by decide +kernel
theorem dX1_dangerOf_0 : decode cX1_dangerOf 0 = .ok (.aload_n 0, 1) := by decide +kernel
theorem dX1_dangerOf_1 : decode cX1_dangerOf 1 = .ok (.getfield 15, 3) := by decide +kernel
theorem dX1_dangerOf_4 : decode cX1_dangerOf 4 = .ok (.iload_n 3, 1) := by decide +kernel
theorem dX1_dangerOf_5 : decode cX1_dangerOf 5 = .ok (.invokevirtual 23, 3) := by decide +kernel
theorem dX1_dangerOf_8 : decode cX1_dangerOf 8 = .ok (.istore 5, 2) := by decide +kernel
theorem dX1_dangerOf_10 : decode cX1_dangerOf 10 = .ok (.iload 5, 2) := by decide +kernel
theorem dX1_dangerOf_12 : decode cX1_dangerOf 12 = .ok (.iconst 4, 1) := by decide +kernel
theorem dX1_dangerOf_13 : decode cX1_dangerOf 13 = .ok (.if_icmp .ne 10, 3) := by decide +kernel
theorem dX1_dangerOf_16 : decode cX1_dangerOf 16 = .ok (.iconst 2, 1) := by decide +kernel
theorem dX1_dangerOf_17 : decode cX1_dangerOf 17 = .ok (.aload_n 2, 1) := by decide +kernel
theorem dX1_dangerOf_18 : decode cX1_dangerOf 18 = .ok (.invokevirtual 29, 3) := by decide +kernel
theorem dX1_dangerOf_21 : decode cX1_dangerOf 21 = .ok (.imul, 1) := by decide +kernel
theorem dX1_dangerOf_22 : decode cX1_dangerOf 22 = .ok (.ireturn, 1) := by decide +kernel
theorem dX1_dangerOf_23 : decode cX1_dangerOf 23 = .ok (.aload_n 2, 1) := by decide +kernel
theorem dX1_dangerOf_24 : decode cX1_dangerOf 24 = .ok (.iload 4, 2) := by decide +kernel
theorem dX1_dangerOf_26 : decode cX1_dangerOf 26 = .ok (.invokevirtual 35, 3) := by decide +kernel
theorem dX1_dangerOf_29 : decode cX1_dangerOf 29 = .ok (.iload 5, 2) := by decide +kernel
theorem dX1_dangerOf_31 : decode cX1_dangerOf 31 = .ok (.iconst 3, 1) := by decide +kernel
theorem dX1_dangerOf_32 : decode cX1_dangerOf 32 = .ok (.if_icmp .ne 7, 3) := by decide +kernel
theorem dX1_dangerOf_35 : decode cX1_dangerOf 35 = .ok (.iconst 1, 1) := by decide +kernel
theorem dX1_dangerOf_36 : decode cX1_dangerOf 36 = .ok (.goto 4, 3) := by decide +kernel
theorem dX1_dangerOf_39 : decode cX1_dangerOf 39 = .ok (.iconst 0, 1) := by decide +kernel
theorem dX1_dangerOf_40 : decode cX1_dangerOf 40 = .ok (.if_icmp .eq 6, 3) := by decide +kernel
theorem dX1_dangerOf_43 : decode cX1_dangerOf 43 = .ok (.bipush (-2), 2) := by decide +kernel
theorem dX1_dangerOf_45 : decode cX1_dangerOf 45 = .ok (.ireturn, 1) := by decide +kernel
theorem dX1_dangerOf_46 : decode cX1_dangerOf 46 = .ok (.aload_n 2, 1) := by decide +kernel
theorem dX1_dangerOf_47 : decode cX1_dangerOf 47 = .ok (.iload 4, 2) := by decide +kernel
theorem dX1_dangerOf_49 : decode cX1_dangerOf 49 = .ok (.invokevirtual 39, 3) := by decide +kernel
theorem dX1_dangerOf_52 : decode cX1_dangerOf 52 = .ok (.istore 6, 2) := by decide +kernel
theorem dX1_dangerOf_54 : decode cX1_dangerOf 54 = .ok (.iload 5, 2) := by decide +kernel
theorem dX1_dangerOf_56 : decode cX1_dangerOf 56 = .ok (.iconst 1, 1) := by decide +kernel
theorem dX1_dangerOf_57 : decode cX1_dangerOf 57 = .ok (.if_icmp .ne 12, 3) := by decide +kernel
theorem dX1_dangerOf_60 : decode cX1_dangerOf 60 = .ok (.iload 6, 2) := by decide +kernel
theorem dX1_dangerOf_62 : decode cX1_dangerOf 62 = .ok (.iconst 2, 1) := by decide +kernel
theorem dX1_dangerOf_63 : decode cX1_dangerOf 63 = .ok (.idiv, 1) := by decide +kernel
theorem dX1_dangerOf_64 : decode cX1_dangerOf 64 = .ok (.istore 6, 2) := by decide +kernel
theorem dX1_dangerOf_66 : decode cX1_dangerOf 66 = .ok (.goto 31, 3) := by decide +kernel
theorem dX1_dangerOf_69 : decode cX1_dangerOf 69 = .ok (.iload 5, 2) := by decide +kernel
theorem dX1_dangerOf_71 : decode cX1_dangerOf 71 = .ok (.iconst 2, 1) := by decide +kernel
theorem dX1_dangerOf_72 : decode cX1_dangerOf 72 = .ok (.if_icmp .ne 25, 3) := by decide +kernel
theorem dX1_dangerOf_75 : decode cX1_dangerOf 75 = .ok (.aload_n 0, 1) := by decide +kernel
theorem dX1_dangerOf_76 : decode cX1_dangerOf 76 = .ok (.getfield 19, 3) := by decide +kernel
theorem dX1_dangerOf_79 : decode cX1_dangerOf 79 = .ok (.aload_n 2, 1) := by decide +kernel
theorem dX1_dangerOf_80 : decode cX1_dangerOf 80 = .ok (.invokevirtual 42, 3) := by decide +kernel
theorem dX1_dangerOf_83 : decode cX1_dangerOf 83 = .ok (.invokevirtual 45, 3) := by decide +kernel
theorem dX1_dangerOf_86 : decode cX1_dangerOf 86 = .ok (.bipush 114, 2) := by decide +kernel
theorem dX1_dangerOf_88 : decode cX1_dangerOf 88 = .ok (.if_icmp .eq 6, 3) := by decide +kernel
theorem dX1_dangerOf_91 : decode cX1_dangerOf 91 = .ok (.bipush (-2), 2) := by decide +kernel
theorem dX1_dangerOf_93 : decode cX1_dangerOf 93 = .ok (.ireturn, 1) := by decide +kernel
theorem dX1_dangerOf_94 : decode cX1_dangerOf 94 = .ok (.iconst 0, 1) := by decide +kernel
theorem dX1_dangerOf_95 : decode cX1_dangerOf 95 = .ok (.istore 6, 2) := by decide +kernel
theorem dX1_dangerOf_97 : decode cX1_dangerOf 97 = .ok (.aload_n 1, 1) := by decide +kernel
theorem dX1_dangerOf_98 : decode cX1_dangerOf 98 = .ok (.iload 6, 2) := by decide +kernel
theorem dX1_dangerOf_100 : decode cX1_dangerOf 100 = .ok (.aload_n 2, 1) := by decide +kernel
theorem dX1_dangerOf_101 : decode cX1_dangerOf 101 = .ok (.iload 4, 2) := by decide +kernel
theorem dX1_dangerOf_103 : decode cX1_dangerOf 103 = .ok (.invokevirtual 50, 3) := by decide +kernel
theorem dX1_dangerOf_106 : decode cX1_dangerOf 106 = .ok (.aload_n 0, 1) := by decide +kernel
theorem dX1_dangerOf_107 : decode cX1_dangerOf 107 = .ok (.getfield 15, 3) := by decide +kernel
theorem dX1_dangerOf_110 : decode cX1_dangerOf 110 = .ok (.iload_n 3, 1) := by decide +kernel
theorem dX1_dangerOf_111 : decode cX1_dangerOf 111 = .ok (.invokevirtual 53, 3) := by decide +kernel
theorem dX1_dangerOf_114 : decode cX1_dangerOf 114 = .ok (.aload_n 2, 1) := by decide +kernel
theorem dX1_dangerOf_115 : decode cX1_dangerOf 115 = .ok (.invokevirtual 42, 3) := by decide +kernel
theorem dX1_dangerOf_118 : decode cX1_dangerOf 118 = .ok (.aload_n 2, 1) := by decide +kernel
theorem dX1_dangerOf_119 : decode cX1_dangerOf 119 = .ok (.iload 4, 2) := by decide +kernel
theorem dX1_dangerOf_121 : decode cX1_dangerOf 121 = .ok (.invokevirtual 56, 3) := by decide +kernel
theorem dX1_dangerOf_124 : decode cX1_dangerOf 124 = .ok (.invokevirtual 59, 3) := by decide +kernel
theorem dX1_dangerOf_127 : decode cX1_dangerOf 127 = .ok (.istore 7, 2) := by decide +kernel
theorem dX1_dangerOf_129 : decode cX1_dangerOf 129 = .ok (.iload 5, 2) := by decide +kernel
theorem dX1_dangerOf_131 : decode cX1_dangerOf 131 = .ok (.iconst 3, 1) := by decide +kernel
theorem dX1_dangerOf_132 : decode cX1_dangerOf 132 = .ok (.if_icmp .ne 10, 3) := by decide +kernel
theorem dX1_dangerOf_135 : decode cX1_dangerOf 135 = .ok (.iload 7, 2) := by decide +kernel
theorem dX1_dangerOf_137 : decode cX1_dangerOf 137 = .ok (.iconst 2, 1) := by decide +kernel
theorem dX1_dangerOf_138 : decode cX1_dangerOf 138 = .ok (.idiv, 1) := by decide +kernel
theorem dX1_dangerOf_139 : decode cX1_dangerOf 139 = .ok (.goto 5, 3) := by decide +kernel
theorem dX1_dangerOf_142 : decode cX1_dangerOf 142 = .ok (.iload 7, 2) := by decide +kernel
theorem dX1_dangerOf_144 : decode cX1_dangerOf 144 = .ok (.ireturn, 1) := by decide +kernel
theorem dX1_safest_0 : decode cX1_safest 0 = .ok (.iconst (-1), 1) := by decide +kernel
theorem dX1_safest_1 : decode cX1_safest 1 = .ok (.istore 4, 2) := by decide +kernel
theorem dX1_safest_3 : decode cX1_safest 3 = .ok (.aload_n 0, 1) := by decide +kernel
theorem dX1_safest_4 : decode cX1_safest 4 = .ok (.iconst (-1), 1) := by decide +kernel
theorem dX1_safest_5 : decode cX1_safest 5 = .ok (.putfield 65, 3) := by decide +kernel
theorem dX1_safest_8 : decode cX1_safest 8 = .ok (.iconst 0, 1) := by decide +kernel
theorem dX1_safest_9 : decode cX1_safest 9 = .ok (.istore 5, 2) := by decide +kernel
theorem dX1_safest_11 : decode cX1_safest 11 = .ok (.iload 5, 2) := by decide +kernel
theorem dX1_safest_13 : decode cX1_safest 13 = .ok (.aload_n 2, 1) := by decide +kernel
theorem dX1_safest_14 : decode cX1_safest 14 = .ok (.invokevirtual 69, 3) := by decide +kernel
theorem dX1_safest_17 : decode cX1_safest 17 = .ok (.if_icmp .ge 59, 3) := by decide +kernel
theorem dX1_safest_20 : decode cX1_safest 20 = .ok (.aload_n 0, 1) := by decide +kernel
theorem dX1_safest_21 : decode cX1_safest 21 = .ok (.getfield 65, 3) := by decide +kernel
theorem dX1_safest_24 : decode cX1_safest 24 = .ok (.ifCond .eq 52, 3) := by decide +kernel
theorem dX1_safest_27 : decode cX1_safest 27 = .ok (.aload_n 0, 1) := by decide +kernel
theorem dX1_safest_28 : decode cX1_safest 28 = .ok (.aload_n 1, 1) := by decide +kernel
theorem dX1_safest_29 : decode cX1_safest 29 = .ok (.aload_n 2, 1) := by decide +kernel
theorem dX1_safest_30 : decode cX1_safest 30 = .ok (.iload_n 3, 1) := by decide +kernel
theorem dX1_safest_31 : decode cX1_safest 31 = .ok (.iload 5, 2) := by decide +kernel
theorem dX1_safest_33 : decode cX1_safest 33 = .ok (.invokevirtual 72, 3) := by decide +kernel
theorem dX1_safest_36 : decode cX1_safest 36 = .ok (.istore 6, 2) := by decide +kernel
theorem dX1_safest_38 : decode cX1_safest 38 = .ok (.iload 6, 2) := by decide +kernel
theorem dX1_safest_40 : decode cX1_safest 40 = .ok (.bipush (-2), 2) := by decide +kernel
theorem dX1_safest_42 : decode cX1_safest 42 = .ok (.if_icmp .eq 28, 3) := by decide +kernel
theorem dX1_safest_45 : decode cX1_safest 45 = .ok (.iload 4, 2) := by decide +kernel
theorem dX1_safest_47 : decode cX1_safest 47 = .ok (.iconst (-1), 1) := by decide +kernel
theorem dX1_safest_48 : decode cX1_safest 48 = .ok (.if_icmp .eq 12, 3) := by decide +kernel
theorem dX1_safest_51 : decode cX1_safest 51 = .ok (.iload 6, 2) := by decide +kernel
theorem dX1_safest_53 : decode cX1_safest 53 = .ok (.aload_n 0, 1) := by decide +kernel
theorem dX1_safest_54 : decode cX1_safest 54 = .ok (.getfield 65, 3) := by decide +kernel
theorem dX1_safest_57 : decode cX1_safest 57 = .ok (.if_icmp .ge 13, 3) := by decide +kernel
theorem dX1_safest_60 : decode cX1_safest 60 = .ok (.iload 5, 2) := by decide +kernel
theorem dX1_safest_62 : decode cX1_safest 62 = .ok (.istore 4, 2) := by decide +kernel
theorem dX1_safest_64 : decode cX1_safest 64 = .ok (.aload_n 0, 1) := by decide +kernel
theorem dX1_safest_65 : decode cX1_safest 65 = .ok (.iload 6, 2) := by decide +kernel
theorem dX1_safest_67 : decode cX1_safest 67 = .ok (.putfield 65, 3) := by decide +kernel
theorem dX1_safest_70 : decode cX1_safest 70 = .ok (.iinc 5 1, 3) := by decide +kernel
theorem dX1_safest_73 : decode cX1_safest 73 = .ok (.goto (-62), 3) := by decide +kernel
theorem dX1_safest_76 : decode cX1_safest 76 = .ok (.iload 4, 2) := by decide +kernel
theorem dX1_safest_78 : decode cX1_safest 78 = .ok (.ireturn, 1) := by decide +kernel
theorem dX1_least_0 : decode cX1_least 0 = .ok (.aload_n 0, 1) := by decide +kernel
theorem dX1_least_1 : decode cX1_least 1 = .ok (.getfield 65, 3) := by decide +kernel
theorem dX1_least_4 : decode cX1_least 4 = .ok (.ireturn, 1) := by decide +kernel
theorem dX1_gain_0 : decode cX1_gain 0 = .ok (.aload_n 0, 1) := by decide +kernel
theorem dX1_gain_1 : decode cX1_gain 1 = .ok (.getfield 15, 3) := by decide +kernel
theorem dX1_gain_4 : decode cX1_gain 4 = .ok (.iload_n 2, 1) := by decide +kernel
theorem dX1_gain_5 : decode cX1_gain 5 = .ok (.invokevirtual 53, 3) := by decide +kernel
theorem dX1_gain_8 : decode cX1_gain 8 = .ok (.aload_n 1, 1) := by decide +kernel
theorem dX1_gain_9 : decode cX1_gain 9 = .ok (.invokevirtual 76, 3) := by decide +kernel
theorem dX1_gain_12 : decode cX1_gain 12 = .ok (.aload_n 1, 1) := by decide +kernel
theorem dX1_gain_13 : decode cX1_gain 13 = .ok (.invokevirtual 79, 3) := by decide +kernel
theorem dX1_gain_16 : decode cX1_gain 16 = .ok (.isub, 1) := by decide +kernel
theorem dX1_gain_17 : decode cX1_gain 17 = .ok (.imul, 1) := by decide +kernel
theorem dX1_gain_18 : decode cX1_gain 18 = .ok (.ireturn, 1) := by decide +kernel
theorem dX1_goal_0 : decode cX1_goal 0 = .ok (.aload_n 0, 1) := by decide +kernel
theorem dX1_goal_1 : decode cX1_goal 1 = .ok (.aload_n 1, 1) := by decide +kernel
theorem dX1_goal_2 : decode cX1_goal 2 = .ok (.aload_n 2, 1) := by decide +kernel
theorem dX1_goal_3 : decode cX1_goal 3 = .ok (.iload_n 3, 1) := by decide +kernel
theorem dX1_goal_4 : decode cX1_goal 4 = .ok (.invokevirtual 82, 3) := by decide +kernel
theorem dX1_goal_7 : decode cX1_goal 7 = .ok (.istore 4, 2) := by decide +kernel
theorem dX1_goal_9 : decode cX1_goal 9 = .ok (.iload 4, 2) := by decide +kernel
theorem dX1_goal_11 : decode cX1_goal 11 = .ok (.iconst (-1), 1) := by decide +kernel
theorem dX1_goal_12 : decode cX1_goal 12 = .ok (.if_icmp .eq 21, 3) := by decide +kernel
theorem dX1_goal_15 : decode cX1_goal 15 = .ok (.aload_n 0, 1) := by decide +kernel
theorem dX1_goal_16 : decode cX1_goal 16 = .ok (.aload_n 2, 1) := by decide +kernel
theorem dX1_goal_17 : decode cX1_goal 17 = .ok (.iload_n 3, 1) := by decide +kernel
theorem dX1_goal_18 : decode cX1_goal 18 = .ok (.invokevirtual 86, 3) := by decide +kernel
theorem dX1_goal_21 : decode cX1_goal 21 = .ok (.aload_n 0, 1) := by decide +kernel
theorem dX1_goal_22 : decode cX1_goal 22 = .ok (.getfield 65, 3) := by decide +kernel
theorem dX1_goal_25 : decode cX1_goal 25 = .ok (.if_icmp .le 8, 3) := by decide +kernel
theorem dX1_goal_28 : decode cX1_goal 28 = .ok (.iload 4, 2) := by decide +kernel
theorem dX1_goal_30 : decode cX1_goal 30 = .ok (.goto 4, 3) := by decide +kernel
theorem dX1_goal_33 : decode cX1_goal 33 = .ok (.iconst (-1), 1) := by decide +kernel
theorem dX1_goal_34 : decode cX1_goal 34 = .ok (.ireturn, 1) := by decide +kernel
theorem dX1_cross_0 : decode cX1_cross 0 = .ok (.aload_n 0, 1) := by decide +kernel
theorem dX1_cross_1 : decode cX1_cross 1 = .ok (.getfield 9, 3) := by decide +kernel
theorem dX1_cross_4 : decode cX1_cross 4 = .ok (.iconst 0, 1) := by decide +kernel
theorem dX1_cross_5 : decode cX1_cross 5 = .ok (.invokestatic 90, 3) := by decide +kernel
theorem dX1_cross_8 : decode cX1_cross 8 = .ok (.aload_n 0, 1) := by decide +kernel
theorem dX1_cross_9 : decode cX1_cross 9 = .ok (.iconst 0, 1) := by decide +kernel
theorem dX1_cross_10 : decode cX1_cross 10 = .ok (.putfield 96, 3) := by decide +kernel
theorem dX1_cross_13 : decode cX1_cross 13 = .ok (.iconst 0, 1) := by decide +kernel
theorem dX1_cross_14 : decode cX1_cross 14 = .ok (.istore 4, 2) := by decide +kernel
theorem dX1_cross_16 : decode cX1_cross 16 = .ok (.iconst 0, 1) := by decide +kernel
theorem dX1_cross_17 : decode cX1_cross 17 = .ok (.istore 5, 2) := by decide +kernel
theorem dX1_cross_19 : decode cX1_cross 19 = .ok (.iload 5, 2) := by decide +kernel
theorem dX1_cross_21 : decode cX1_cross 21 = .ok (.aload_n 0, 1) := by decide +kernel
theorem dX1_cross_22 : decode cX1_cross 22 = .ok (.getfield 15, 3) := by decide +kernel
theorem dX1_cross_25 : decode cX1_cross 25 = .ok (.invokevirtual 99, 3) := by decide +kernel
theorem dX1_cross_28 : decode cX1_cross 28 = .ok (.if_icmp .ge 152, 3) := by decide +kernel
theorem dX1_cross_31 : decode cX1_cross 31 = .ok (.iload_n 3, 1) := by decide +kernel
theorem dX1_cross_32 : decode cX1_cross 32 = .ok (.iload 5, 2) := by decide +kernel
theorem dX1_cross_34 : decode cX1_cross 34 = .ok (.ishr, 1) := by decide +kernel
theorem dX1_cross_35 : decode cX1_cross 35 = .ok (.iconst 1, 1) := by decide +kernel
theorem dX1_cross_36 : decode cX1_cross 36 = .ok (.iand, 1) := by decide +kernel
theorem dX1_cross_37 : decode cX1_cross 37 = .ok (.ifCond .eq 6, 3) := by decide +kernel
theorem dX1_cross_40 : decode cX1_cross 40 = .ok (.goto 134, 3) := by decide +kernel
theorem dX1_cross_43 : decode cX1_cross 43 = .ok (.aload_n 0, 1) := by decide +kernel
theorem dX1_cross_44 : decode cX1_cross 44 = .ok (.aload_n 1, 1) := by decide +kernel
theorem dX1_cross_45 : decode cX1_cross 45 = .ok (.aload_n 2, 1) := by decide +kernel
theorem dX1_cross_46 : decode cX1_cross 46 = .ok (.iload 5, 2) := by decide +kernel
theorem dX1_cross_48 : decode cX1_cross 48 = .ok (.invokevirtual 82, 3) := by decide +kernel
theorem dX1_cross_51 : decode cX1_cross 51 = .ok (.istore 6, 2) := by decide +kernel
theorem dX1_cross_53 : decode cX1_cross 53 = .ok (.iload 6, 2) := by decide +kernel
theorem dX1_cross_55 : decode cX1_cross 55 = .ok (.iconst (-1), 1) := by decide +kernel
theorem dX1_cross_56 : decode cX1_cross 56 = .ok (.if_icmp .eq 118, 3) := by decide +kernel
theorem dX1_cross_59 : decode cX1_cross 59 = .ok (.aload_n 0, 1) := by decide +kernel
theorem dX1_cross_60 : decode cX1_cross 60 = .ok (.aload_n 2, 1) := by decide +kernel
theorem dX1_cross_61 : decode cX1_cross 61 = .ok (.iload 5, 2) := by decide +kernel
theorem dX1_cross_63 : decode cX1_cross 63 = .ok (.invokevirtual 86, 3) := by decide +kernel
theorem dX1_cross_66 : decode cX1_cross 66 = .ok (.aload_n 0, 1) := by decide +kernel
theorem dX1_cross_67 : decode cX1_cross 67 = .ok (.getfield 65, 3) := by decide +kernel
theorem dX1_cross_70 : decode cX1_cross 70 = .ok (.if_icmp .gt 6, 3) := by decide +kernel
theorem dX1_cross_73 : decode cX1_cross 73 = .ok (.goto 101, 3) := by decide +kernel
theorem dX1_cross_76 : decode cX1_cross 76 = .ok (.aload_n 0, 1) := by decide +kernel
theorem dX1_cross_77 : decode cX1_cross 77 = .ok (.dup, 1) := by decide +kernel
theorem dX1_cross_78 : decode cX1_cross 78 = .ok (.getfield 96, 3) := by decide +kernel
theorem dX1_cross_81 : decode cX1_cross 81 = .ok (.iconst 1, 1) := by decide +kernel
theorem dX1_cross_82 : decode cX1_cross 82 = .ok (.iload 5, 2) := by decide +kernel
theorem dX1_cross_84 : decode cX1_cross 84 = .ok (.ishl, 1) := by decide +kernel
theorem dX1_cross_85 : decode cX1_cross 85 = .ok (.ior, 1) := by decide +kernel
theorem dX1_cross_86 : decode cX1_cross 86 = .ok (.putfield 96, 3) := by decide +kernel
theorem dX1_cross_89 : decode cX1_cross 89 = .ok (.iload 4, 2) := by decide +kernel
theorem dX1_cross_91 : decode cX1_cross 91 = .ok (.aload_n 0, 1) := by decide +kernel
theorem dX1_cross_92 : decode cX1_cross 92 = .ok (.getfield 15, 3) := by decide +kernel
theorem dX1_cross_95 : decode cX1_cross 95 = .ok (.iload 5, 2) := by decide +kernel
theorem dX1_cross_97 : decode cX1_cross 97 = .ok (.invokevirtual 53, 3) := by decide +kernel
theorem dX1_cross_100 : decode cX1_cross 100 = .ok (.iadd, 1) := by decide +kernel
theorem dX1_cross_101 : decode cX1_cross 101 = .ok (.istore 4, 2) := by decide +kernel
theorem dX1_cross_103 : decode cX1_cross 103 = .ok (.aload_n 0, 1) := by decide +kernel
theorem dX1_cross_104 : decode cX1_cross 104 = .ok (.getfield 15, 3) := by decide +kernel
theorem dX1_cross_107 : decode cX1_cross 107 = .ok (.iload 5, 2) := by decide +kernel
theorem dX1_cross_109 : decode cX1_cross 109 = .ok (.invokevirtual 23, 3) := by decide +kernel
theorem dX1_cross_112 : decode cX1_cross 112 = .ok (.iconst 4, 1) := by decide +kernel
theorem dX1_cross_113 : decode cX1_cross 113 = .ok (.if_icmp .eq 34, 3) := by decide +kernel
theorem dX1_cross_116 : decode cX1_cross 116 = .ok (.iload 6, 2) := by decide +kernel
theorem dX1_cross_118 : decode cX1_cross 118 = .ok (.ifCond .lt 29, 3) := by decide +kernel
theorem dX1_cross_121 : decode cX1_cross 121 = .ok (.iload 6, 2) := by decide +kernel
theorem dX1_cross_123 : decode cX1_cross 123 = .ok (.bipush 12, 2) := by decide +kernel
theorem dX1_cross_125 : decode cX1_cross 125 = .ok (.if_icmp .ge 22, 3) := by decide +kernel
theorem dX1_cross_128 : decode cX1_cross 128 = .ok (.aload_n 0, 1) := by decide +kernel
theorem dX1_cross_129 : decode cX1_cross 129 = .ok (.getfield 9, 3) := by decide +kernel
theorem dX1_cross_132 : decode cX1_cross 132 = .ok (.iload 6, 2) := by decide +kernel
theorem dX1_cross_134 : decode cX1_cross 134 = .ok (.dup2, 1) := by decide +kernel
theorem dX1_cross_135 : decode cX1_cross 135 = .ok (.iaload, 1) := by decide +kernel
theorem dX1_cross_136 : decode cX1_cross 136 = .ok (.aload_n 0, 1) := by decide +kernel
theorem dX1_cross_137 : decode cX1_cross 137 = .ok (.getfield 15, 3) := by decide +kernel
theorem dX1_cross_140 : decode cX1_cross 140 = .ok (.iload 5, 2) := by decide +kernel
theorem dX1_cross_142 : decode cX1_cross 142 = .ok (.invokevirtual 53, 3) := by decide +kernel
theorem dX1_cross_145 : decode cX1_cross 145 = .ok (.iadd, 1) := by decide +kernel
theorem dX1_cross_146 : decode cX1_cross 146 = .ok (.iastore, 1) := by decide +kernel
theorem dX1_cross_147 : decode cX1_cross 147 = .ok (.aload_n 0, 1) := by decide +kernel
theorem dX1_cross_148 : decode cX1_cross 148 = .ok (.getfield 15, 3) := by decide +kernel
theorem dX1_cross_151 : decode cX1_cross 151 = .ok (.iload 5, 2) := by decide +kernel
theorem dX1_cross_153 : decode cX1_cross 153 = .ok (.invokevirtual 23, 3) := by decide +kernel
theorem dX1_cross_156 : decode cX1_cross 156 = .ok (.iconst 1, 1) := by decide +kernel
theorem dX1_cross_157 : decode cX1_cross 157 = .ok (.if_icmp .ne 17, 3) := by decide +kernel
theorem dX1_cross_160 : decode cX1_cross 160 = .ok (.aload_n 2, 1) := by decide +kernel
theorem dX1_cross_161 : decode cX1_cross 161 = .ok (.iload 6, 2) := by decide +kernel
theorem dX1_cross_163 : decode cX1_cross 163 = .ok (.aload_n 2, 1) := by decide +kernel
theorem dX1_cross_164 : decode cX1_cross 164 = .ok (.iload 6, 2) := by decide +kernel
theorem dX1_cross_166 : decode cX1_cross 166 = .ok (.invokevirtual 39, 3) := by decide +kernel
theorem dX1_cross_169 : decode cX1_cross 169 = .ok (.iconst 2, 1) := by decide +kernel
theorem dX1_cross_170 : decode cX1_cross 170 = .ok (.isub, 1) := by decide +kernel
theorem dX1_cross_171 : decode cX1_cross 171 = .ok (.invokevirtual 102, 3) := by decide +kernel
theorem dX1_cross_174 : decode cX1_cross 174 = .ok (.iinc 5 1, 3) := by decide +kernel
theorem dX1_cross_177 : decode cX1_cross 177 = .ok (.goto (-158), 3) := by decide +kernel
theorem dX1_cross_180 : decode cX1_cross 180 = .ok (.iload 4, 2) := by decide +kernel
theorem dX1_cross_182 : decode cX1_cross 182 = .ok (.ireturn, 1) := by decide +kernel
theorem dX1_went_0 : decode cX1_went 0 = .ok (.aload_n 0, 1) := by decide +kernel
theorem dX1_went_1 : decode cX1_went 1 = .ok (.getfield 96, 3) := by decide +kernel
theorem dX1_went_4 : decode cX1_went 4 = .ok (.ireturn, 1) := by decide +kernel
theorem dX1_busiest_0 : decode cX1_busiest 0 = .ok (.iconst (-1), 1) := by decide +kernel
theorem dX1_busiest_1 : decode cX1_busiest 1 = .ok (.istore_n 1, 1) := by decide +kernel
theorem dX1_busiest_2 : decode cX1_busiest 2 = .ok (.iconst 0, 1) := by decide +kernel
theorem dX1_busiest_3 : decode cX1_busiest 3 = .ok (.istore_n 2, 1) := by decide +kernel
theorem dX1_busiest_4 : decode cX1_busiest 4 = .ok (.iconst 0, 1) := by decide +kernel
theorem dX1_busiest_5 : decode cX1_busiest 5 = .ok (.istore_n 3, 1) := by decide +kernel
theorem dX1_busiest_6 : decode cX1_busiest 6 = .ok (.iload_n 3, 1) := by decide +kernel
theorem dX1_busiest_7 : decode cX1_busiest 7 = .ok (.bipush 12, 2) := by decide +kernel
theorem dX1_busiest_9 : decode cX1_busiest 9 = .ok (.if_icmp .ge 28, 3) := by decide +kernel
theorem dX1_busiest_12 : decode cX1_busiest 12 = .ok (.aload_n 0, 1) := by decide +kernel
theorem dX1_busiest_13 : decode cX1_busiest 13 = .ok (.getfield 9, 3) := by decide +kernel
theorem dX1_busiest_16 : decode cX1_busiest 16 = .ok (.iload_n 3, 1) := by decide +kernel
theorem dX1_busiest_17 : decode cX1_busiest 17 = .ok (.iaload, 1) := by decide +kernel
theorem dX1_busiest_18 : decode cX1_busiest 18 = .ok (.iload_n 2, 1) := by decide +kernel
theorem dX1_busiest_19 : decode cX1_busiest 19 = .ok (.if_icmp .le 12, 3) := by decide +kernel
theorem dX1_busiest_22 : decode cX1_busiest 22 = .ok (.aload_n 0, 1) := by decide +kernel
theorem dX1_busiest_23 : decode cX1_busiest 23 = .ok (.getfield 9, 3) := by decide +kernel
theorem dX1_busiest_26 : decode cX1_busiest 26 = .ok (.iload_n 3, 1) := by decide +kernel
theorem dX1_busiest_27 : decode cX1_busiest 27 = .ok (.iaload, 1) := by decide +kernel
theorem dX1_busiest_28 : decode cX1_busiest 28 = .ok (.istore_n 2, 1) := by decide +kernel
theorem dX1_busiest_29 : decode cX1_busiest 29 = .ok (.iload_n 3, 1) := by decide +kernel
theorem dX1_busiest_30 : decode cX1_busiest 30 = .ok (.istore_n 1, 1) := by decide +kernel
theorem dX1_busiest_31 : decode cX1_busiest 31 = .ok (.iinc 3 1, 3) := by decide +kernel
theorem dX1_busiest_34 : decode cX1_busiest 34 = .ok (.goto (-28), 3) := by decide +kernel
theorem dX1_busiest_37 : decode cX1_busiest 37 = .ok (.iload_n 1, 1) := by decide +kernel
theorem dX1_busiest_38 : decode cX1_busiest 38 = .ok (.ireturn, 1) := by decide +kernel
theorem dX1_pass_0 : decode cX1_pass 0 = .ok (.aload_n 0, 1) := by decide +kernel
theorem dX1_pass_1 : decode cX1_pass 1 = .ok (.iconst 0, 1) := by decide +kernel
theorem dX1_pass_2 : decode cX1_pass 2 = .ok (.putfield 106, 3) := by decide +kernel
theorem dX1_pass_5 : decode cX1_pass 5 = .ok (.aload_n 0, 1) := by decide +kernel
theorem dX1_pass_6 : decode cX1_pass 6 = .ok (.iconst 0, 1) := by decide +kernel
theorem dX1_pass_7 : decode cX1_pass 7 = .ok (.putfield 109, 3) := by decide +kernel
theorem dX1_pass_10 : decode cX1_pass 10 = .ok (.iconst 0, 1) := by decide +kernel
theorem dX1_pass_11 : decode cX1_pass 11 = .ok (.istore 4, 2) := by decide +kernel
theorem dX1_pass_13 : decode cX1_pass 13 = .ok (.iconst 0, 1) := by decide +kernel
theorem dX1_pass_14 : decode cX1_pass 14 = .ok (.istore 5, 2) := by decide +kernel
theorem dX1_pass_16 : decode cX1_pass 16 = .ok (.iload 5, 2) := by decide +kernel
theorem dX1_pass_18 : decode cX1_pass 18 = .ok (.iload_n 3, 1) := by decide +kernel
theorem dX1_pass_19 : decode cX1_pass 19 = .ok (.if_icmp .ge 74, 3) := by decide +kernel
theorem dX1_pass_22 : decode cX1_pass 22 = .ok (.aload_n 0, 1) := by decide +kernel
theorem dX1_pass_23 : decode cX1_pass 23 = .ok (.aload_n 1, 1) := by decide +kernel
theorem dX1_pass_24 : decode cX1_pass 24 = .ok (.aload_n 2, 1) := by decide +kernel
theorem dX1_pass_25 : decode cX1_pass 25 = .ok (.iconst 0, 1) := by decide +kernel
theorem dX1_pass_26 : decode cX1_pass 26 = .ok (.invokevirtual 112, 3) := by decide +kernel
theorem dX1_pass_29 : decode cX1_pass 29 = .ok (.istore 6, 2) := by decide +kernel
theorem dX1_pass_31 : decode cX1_pass 31 = .ok (.aload_n 0, 1) := by decide +kernel
theorem dX1_pass_32 : decode cX1_pass 32 = .ok (.dup, 1) := by decide +kernel
theorem dX1_pass_33 : decode cX1_pass 33 = .ok (.getfield 106, 3) := by decide +kernel
theorem dX1_pass_36 : decode cX1_pass 36 = .ok (.aload_n 0, 1) := by decide +kernel
theorem dX1_pass_37 : decode cX1_pass 37 = .ok (.getfield 96, 3) := by decide +kernel
theorem dX1_pass_40 : decode cX1_pass 40 = .ok (.ior, 1) := by decide +kernel
theorem dX1_pass_41 : decode cX1_pass 41 = .ok (.putfield 106, 3) := by decide +kernel
theorem dX1_pass_44 : decode cX1_pass 44 = .ok (.iload 6, 2) := by decide +kernel
theorem dX1_pass_46 : decode cX1_pass 46 = .ok (.ifCond .ne 13, 3) := by decide +kernel
theorem dX1_pass_49 : decode cX1_pass 49 = .ok (.aload_n 0, 1) := by decide +kernel
theorem dX1_pass_50 : decode cX1_pass 50 = .ok (.dup, 1) := by decide +kernel
theorem dX1_pass_51 : decode cX1_pass 51 = .ok (.getfield 109, 3) := by decide +kernel
theorem dX1_pass_54 : decode cX1_pass 54 = .ok (.iconst 1, 1) := by decide +kernel
theorem dX1_pass_55 : decode cX1_pass 55 = .ok (.iadd, 1) := by decide +kernel
theorem dX1_pass_56 : decode cX1_pass 56 = .ok (.putfield 109, 3) := by decide +kernel
theorem dX1_pass_59 : decode cX1_pass 59 = .ok (.iload 4, 2) := by decide +kernel
theorem dX1_pass_61 : decode cX1_pass 61 = .ok (.iload 6, 2) := by decide +kernel
theorem dX1_pass_63 : decode cX1_pass 63 = .ok (.iadd, 1) := by decide +kernel
theorem dX1_pass_64 : decode cX1_pass 64 = .ok (.istore 4, 2) := by decide +kernel
theorem dX1_pass_66 : decode cX1_pass 66 = .ok (.aload_n 2, 1) := by decide +kernel
theorem dX1_pass_67 : decode cX1_pass 67 = .ok (.iload 6, 2) := by decide +kernel
theorem dX1_pass_69 : decode cX1_pass 69 = .ok (.invokevirtual 115, 3) := by decide +kernel
theorem dX1_pass_72 : decode cX1_pass 72 = .ok (.aload_n 2, 1) := by decide +kernel
theorem dX1_pass_73 : decode cX1_pass 73 = .ok (.aload_n 0, 1) := by decide +kernel
theorem dX1_pass_74 : decode cX1_pass 74 = .ok (.getfield 19, 3) := by decide +kernel
theorem dX1_pass_77 : decode cX1_pass 77 = .ok (.aload_n 2, 1) := by decide +kernel
theorem dX1_pass_78 : decode cX1_pass 78 = .ok (.invokevirtual 42, 3) := by decide +kernel
theorem dX1_pass_81 : decode cX1_pass 81 = .ok (.invokevirtual 45, 3) := by decide +kernel
theorem dX1_pass_84 : decode cX1_pass 84 = .ok (.invokevirtual 119, 3) := by decide +kernel
theorem dX1_pass_87 : decode cX1_pass 87 = .ok (.iinc 5 1, 3) := by decide +kernel
theorem dX1_pass_90 : decode cX1_pass 90 = .ok (.goto (-74), 3) := by decide +kernel
theorem dX1_pass_93 : decode cX1_pass 93 = .ok (.iload 4, 2) := by decide +kernel
theorem dX1_pass_95 : decode cX1_pass 95 = .ok (.ireturn, 1) := by decide +kernel
theorem dX1_everWent_0 : decode cX1_everWent 0 = .ok (.aload_n 0, 1) := by decide +kernel
theorem dX1_everWent_1 : decode cX1_everWent 1 = .ok (.getfield 106, 3) := by decide +kernel
theorem dX1_everWent_4 : decode cX1_everWent 4 = .ok (.ireturn, 1) := by decide +kernel
theorem dX1_quietWeeks_0 : decode cX1_quietWeeks 0 = .ok (.aload_n 0, 1) := by decide +kernel
theorem dX1_quietWeeks_1 : decode cX1_quietWeeks 1 = .ok (.getfield 109, 3) := by decide +kernel
theorem dX1_quietWeeks_4 : decode cX1_quietWeeks 4 = .ok (.ireturn, 1) := by decide +kernel
theorem dX2_init_0 : decode cX2_init 0 = .ok (.aload_n 0, 1) := by decide +kernel
theorem dX2_init_1 : decode cX2_init 1 = .ok (.invokespecial 3, 3) := by decide +kernel
theorem dX2_init_4 : decode cX2_init 4 = .ok (.aload_n 0, 1) := by decide +kernel
theorem dX2_init_5 : decode cX2_init 5 = .ok (.bipush 12, 2) := by decide +kernel
theorem dX2_init_7 : decode cX2_init 7 = .ok (.newarray .int, 2) := by decide +kernel
theorem dX2_init_9 : decode cX2_init 9 = .ok (.putfield 9, 3) := by decide +kernel
theorem dX2_init_12 : decode cX2_init 12 = .ok (.aload_n 0, 1) := by decide +kernel
theorem dX2_init_13 : decode cX2_init 13 = .ok (.bipush 12, 2) := by decide +kernel
theorem dX2_init_15 : decode cX2_init 15 = .ok (.newarray .int, 2) := by decide +kernel
theorem dX2_init_17 : decode cX2_init 17 = .ok (.putfield 15, 3) := by decide +kernel
theorem dX2_init_20 : decode cX2_init 20 = .ok (.aload_n 0, 1) := by decide +kernel
theorem dX2_init_21 : decode cX2_init 21 = .ok (.iconst 1, 1) := by decide +kernel
theorem dX2_init_22 : decode cX2_init 22 = .ok (.putfield 18, 3) := by decide +kernel
theorem dX2_init_25 : decode cX2_init 25 = .ok (.aload_n 0, 1) := by decide +kernel
theorem dX2_init_26 : decode cX2_init 26 = .ok (.iconst 5, 1) := by decide +kernel
theorem dX2_init_27 : decode cX2_init 27 = .ok (.putfield 22, 3) := by decide +kernel
theorem dX2_init_30 : decode cX2_init 30 = .ok (.aload_n 0, 1) := by decide +kernel
theorem dX2_init_31 : decode cX2_init 31 = .ok (.bipush 20, 2) := by decide +kernel
theorem dX2_init_33 : decode cX2_init 33 = .ok (.putfield 25, 3) := by decide +kernel
theorem dX2_init_36 : decode cX2_init 36 = .ok (.return_, 1) := by decide +kernel
theorem dX2_copyFrom_0 : decode cX2_copyFrom 0 = .ok (.aload_n 1, 1) := by decide +kernel
theorem dX2_copyFrom_1 : decode cX2_copyFrom 1 = .ok (.getfield 9, 3) := by decide +kernel
theorem dX2_copyFrom_4 : decode cX2_copyFrom 4 = .ok (.iconst 0, 1) := by decide +kernel
theorem dX2_copyFrom_5 : decode cX2_copyFrom 5 = .ok (.aload_n 0, 1) := by decide +kernel
theorem dX2_copyFrom_6 : decode cX2_copyFrom 6 = .ok (.getfield 9, 3) := by decide +kernel
theorem dX2_copyFrom_9 : decode cX2_copyFrom 9 = .ok (.iconst 0, 1) := by decide +kernel
theorem dX2_copyFrom_10 : decode cX2_copyFrom 10 = .ok (.bipush 12, 2) := by decide +kernel
theorem dX2_copyFrom_12 : decode cX2_copyFrom 12 = .ok (.invokestatic 28, 3) := by decide +kernel
theorem dX2_copyFrom_15 : decode cX2_copyFrom 15 = .ok (.aload_n 1, 1) := by decide +kernel
theorem dX2_copyFrom_16 : decode cX2_copyFrom 16 = .ok (.getfield 15, 3) := by decide +kernel
theorem dX2_copyFrom_19 : decode cX2_copyFrom 19 = .ok (.iconst 0, 1) := by decide +kernel
theorem dX2_copyFrom_20 : decode cX2_copyFrom 20 = .ok (.aload_n 0, 1) := by decide +kernel
theorem dX2_copyFrom_21 : decode cX2_copyFrom 21 = .ok (.getfield 15, 3) := by decide +kernel
theorem dX2_copyFrom_24 : decode cX2_copyFrom 24 = .ok (.iconst 0, 1) := by decide +kernel
theorem dX2_copyFrom_25 : decode cX2_copyFrom 25 = .ok (.bipush 12, 2) := by decide +kernel
theorem dX2_copyFrom_27 : decode cX2_copyFrom 27 = .ok (.invokestatic 28, 3) := by decide +kernel
theorem dX2_copyFrom_30 : decode cX2_copyFrom 30 = .ok (.aload_n 0, 1) := by decide +kernel
theorem dX2_copyFrom_31 : decode cX2_copyFrom 31 = .ok (.aload_n 1, 1) := by decide +kernel
theorem dX2_copyFrom_32 : decode cX2_copyFrom 32 = .ok (.getfield 18, 3) := by decide +kernel
theorem dX2_copyFrom_35 : decode cX2_copyFrom 35 = .ok (.putfield 18, 3) := by decide +kernel
theorem dX2_copyFrom_38 : decode cX2_copyFrom 38 = .ok (.aload_n 0, 1) := by decide +kernel
theorem dX2_copyFrom_39 : decode cX2_copyFrom 39 = .ok (.aload_n 1, 1) := by decide +kernel
theorem dX2_copyFrom_40 : decode cX2_copyFrom 40 = .ok (.getfield 34, 3) := by decide +kernel
theorem dX2_copyFrom_43 : decode cX2_copyFrom 43 = .ok (.putfield 34, 3) := by decide +kernel
theorem dX2_copyFrom_46 : decode cX2_copyFrom 46 = .ok (.aload_n 0, 1) := by decide +kernel
theorem dX2_copyFrom_47 : decode cX2_copyFrom 47 = .ok (.aload_n 1, 1) := by decide +kernel
theorem dX2_copyFrom_48 : decode cX2_copyFrom 48 = .ok (.getfield 37, 3) := by decide +kernel
theorem dX2_copyFrom_51 : decode cX2_copyFrom 51 = .ok (.putfield 37, 3) := by decide +kernel
theorem dX2_copyFrom_54 : decode cX2_copyFrom 54 = .ok (.aload_n 0, 1) := by decide +kernel
theorem dX2_copyFrom_55 : decode cX2_copyFrom 55 = .ok (.aload_n 1, 1) := by decide +kernel
theorem dX2_copyFrom_56 : decode cX2_copyFrom 56 = .ok (.getfield 40, 3) := by decide +kernel
theorem dX2_copyFrom_59 : decode cX2_copyFrom 59 = .ok (.putfield 40, 3) := by decide +kernel
theorem dX2_copyFrom_62 : decode cX2_copyFrom 62 = .ok (.aload_n 0, 1) := by decide +kernel
theorem dX2_copyFrom_63 : decode cX2_copyFrom 63 = .ok (.aload_n 1, 1) := by decide +kernel
theorem dX2_copyFrom_64 : decode cX2_copyFrom 64 = .ok (.getfield 22, 3) := by decide +kernel
theorem dX2_copyFrom_67 : decode cX2_copyFrom 67 = .ok (.putfield 22, 3) := by decide +kernel
theorem dX2_copyFrom_70 : decode cX2_copyFrom 70 = .ok (.aload_n 0, 1) := by decide +kernel
theorem dX2_copyFrom_71 : decode cX2_copyFrom 71 = .ok (.aload_n 1, 1) := by decide +kernel
theorem dX2_copyFrom_72 : decode cX2_copyFrom 72 = .ok (.getfield 25, 3) := by decide +kernel
theorem dX2_copyFrom_75 : decode cX2_copyFrom 75 = .ok (.putfield 25, 3) := by decide +kernel
theorem dX2_copyFrom_78 : decode cX2_copyFrom 78 = .ok (.aload_n 0, 1) := by decide +kernel
theorem dX2_copyFrom_79 : decode cX2_copyFrom 79 = .ok (.aload_n 1, 1) := by decide +kernel
theorem dX2_copyFrom_80 : decode cX2_copyFrom 80 = .ok (.getfield 43, 3) := by decide +kernel
theorem dX2_copyFrom_83 : decode cX2_copyFrom 83 = .ok (.putfield 43, 3) := by decide +kernel
theorem dX2_copyFrom_86 : decode cX2_copyFrom 86 = .ok (.aload_n 0, 1) := by decide +kernel
theorem dX2_copyFrom_87 : decode cX2_copyFrom 87 = .ok (.aload_n 1, 1) := by decide +kernel
theorem dX2_copyFrom_88 : decode cX2_copyFrom 88 = .ok (.getfield 46, 3) := by decide +kernel
theorem dX2_copyFrom_91 : decode cX2_copyFrom 91 = .ok (.putfield 46, 3) := by decide +kernel
theorem dX2_copyFrom_94 : decode cX2_copyFrom 94 = .ok (.return_, 1) := by decide +kernel
theorem dX2_beginAnew_0 : decode cX2_beginAnew 0 = .ok (.aload_n 0, 1) := by decide +kernel
theorem dX2_beginAnew_1 : decode cX2_beginAnew 1 = .ok (.getfield 9, 3) := by decide +kernel
theorem dX2_beginAnew_4 : decode cX2_beginAnew 4 = .ok (.iconst 0, 1) := by decide +kernel
theorem dX2_beginAnew_5 : decode cX2_beginAnew 5 = .ok (.invokestatic 49, 3) := by decide +kernel
theorem dX2_beginAnew_8 : decode cX2_beginAnew 8 = .ok (.aload_n 0, 1) := by decide +kernel
theorem dX2_beginAnew_9 : decode cX2_beginAnew 9 = .ok (.getfield 15, 3) := by decide +kernel
theorem dX2_beginAnew_12 : decode cX2_beginAnew 12 = .ok (.iconst 0, 1) := by decide +kernel
theorem dX2_beginAnew_13 : decode cX2_beginAnew 13 = .ok (.invokestatic 49, 3) := by decide +kernel
theorem dX2_beginAnew_16 : decode cX2_beginAnew 16 = .ok (.aload_n 0, 1) := by decide +kernel
theorem dX2_beginAnew_17 : decode cX2_beginAnew 17 = .ok (.iconst 1, 1) := by decide +kernel
theorem dX2_beginAnew_18 : decode cX2_beginAnew 18 = .ok (.aload_n 1, 1) := by decide +kernel
theorem dX2_beginAnew_19 : decode cX2_beginAnew 19 = .ok (.invokevirtual 55, 3) := by decide +kernel
theorem dX2_beginAnew_22 : decode cX2_beginAnew 22 = .ok (.bipush 12, 2) := by decide +kernel
theorem dX2_beginAnew_24 : decode cX2_beginAnew 24 = .ok (.invokestatic 61, 3) := by decide +kernel
theorem dX2_beginAnew_27 : decode cX2_beginAnew 27 = .ok (.invokestatic 67, 3) := by decide +kernel
theorem dX2_beginAnew_30 : decode cX2_beginAnew 30 = .ok (.putfield 18, 3) := by decide +kernel
theorem dX2_beginAnew_33 : decode cX2_beginAnew 33 = .ok (.aload_n 0, 1) := by decide +kernel
theorem dX2_beginAnew_34 : decode cX2_beginAnew 34 = .ok (.iconst 0, 1) := by decide +kernel
theorem dX2_beginAnew_35 : decode cX2_beginAnew 35 = .ok (.putfield 34, 3) := by decide +kernel
theorem dX2_beginAnew_38 : decode cX2_beginAnew 38 = .ok (.aload_n 0, 1) := by decide +kernel
theorem dX2_beginAnew_39 : decode cX2_beginAnew 39 = .ok (.iconst 0, 1) := by decide +kernel
theorem dX2_beginAnew_40 : decode cX2_beginAnew 40 = .ok (.putfield 37, 3) := by decide +kernel
theorem dX2_beginAnew_43 : decode cX2_beginAnew 43 = .ok (.aload_n 0, 1) := by decide +kernel
theorem dX2_beginAnew_44 : decode cX2_beginAnew 44 = .ok (.iconst 0, 1) := by decide +kernel
theorem dX2_beginAnew_45 : decode cX2_beginAnew 45 = .ok (.putfield 40, 3) := by decide +kernel
theorem dX2_beginAnew_48 : decode cX2_beginAnew 48 = .ok (.aload_n 0, 1) := by decide +kernel
theorem dX2_beginAnew_49 : decode cX2_beginAnew 49 = .ok (.iconst 0, 1) := by decide +kernel
theorem dX2_beginAnew_50 : decode cX2_beginAnew 50 = .ok (.putfield 43, 3) := by decide +kernel
theorem dX2_beginAnew_53 : decode cX2_beginAnew 53 = .ok (.aload_n 0, 1) := by decide +kernel
theorem dX2_beginAnew_54 : decode cX2_beginAnew 54 = .ok (.iconst 0, 1) := by decide +kernel
theorem dX2_beginAnew_55 : decode cX2_beginAnew 55 = .ok (.putfield 46, 3) := by decide +kernel
theorem dX2_beginAnew_58 : decode cX2_beginAnew 58 = .ok (.iconst 0, 1) := by decide +kernel
theorem dX2_beginAnew_59 : decode cX2_beginAnew 59 = .ok (.istore_n 2, 1) := by decide +kernel
theorem dX2_beginAnew_60 : decode cX2_beginAnew 60 = .ok (.iload_n 2, 1) := by decide +kernel
theorem dX2_beginAnew_61 : decode cX2_beginAnew 61 = .ok (.aload_n 0, 1) := by decide +kernel
theorem dX2_beginAnew_62 : decode cX2_beginAnew 62 = .ok (.getfield 18, 3) := by decide +kernel
theorem dX2_beginAnew_65 : decode cX2_beginAnew 65 = .ok (.if_icmp .ge 45, 3) := by decide +kernel
theorem dX2_beginAnew_68 : decode cX2_beginAnew 68 = .ok (.aload_n 1, 1) := by decide +kernel
theorem dX2_beginAnew_69 : decode cX2_beginAnew 69 = .ok (.iload_n 2, 1) := by decide +kernel
theorem dX2_beginAnew_70 : decode cX2_beginAnew 70 = .ok (.invokevirtual 70, 3) := by decide +kernel
theorem dX2_beginAnew_73 : decode cX2_beginAnew 73 = .ok (.bipush 71, 2) := by decide +kernel
theorem dX2_beginAnew_75 : decode cX2_beginAnew 75 = .ok (.if_icmp .ne 18, 3) := by decide +kernel
theorem dX2_beginAnew_78 : decode cX2_beginAnew 78 = .ok (.aload_n 0, 1) := by decide +kernel
theorem dX2_beginAnew_79 : decode cX2_beginAnew 79 = .ok (.dup, 1) := by decide +kernel
theorem dX2_beginAnew_80 : decode cX2_beginAnew 80 = .ok (.getfield 34, 3) := by decide +kernel
theorem dX2_beginAnew_83 : decode cX2_beginAnew 83 = .ok (.iconst 1, 1) := by decide +kernel
theorem dX2_beginAnew_84 : decode cX2_beginAnew 84 = .ok (.iload_n 2, 1) := by decide +kernel
theorem dX2_beginAnew_85 : decode cX2_beginAnew 85 = .ok (.ishl, 1) := by decide +kernel
theorem dX2_beginAnew_86 : decode cX2_beginAnew 86 = .ok (.ior, 1) := by decide +kernel
theorem dX2_beginAnew_87 : decode cX2_beginAnew 87 = .ok (.putfield 34, 3) := by decide +kernel
theorem dX2_beginAnew_90 : decode cX2_beginAnew 90 = .ok (.goto 14, 3) := by decide +kernel
theorem dX2_beginAnew_93 : decode cX2_beginAnew 93 = .ok (.aload_n 0, 1) := by decide +kernel
theorem dX2_beginAnew_94 : decode cX2_beginAnew 94 = .ok (.iload_n 2, 1) := by decide +kernel
theorem dX2_beginAnew_95 : decode cX2_beginAnew 95 = .ok (.aload_n 1, 1) := by decide +kernel
theorem dX2_beginAnew_96 : decode cX2_beginAnew 96 = .ok (.iload_n 2, 1) := by decide +kernel
theorem dX2_beginAnew_97 : decode cX2_beginAnew 97 = .ok (.iconst 1, 1) := by decide +kernel
theorem dX2_beginAnew_98 : decode cX2_beginAnew 98 = .ok (.invokevirtual 74, 3) := by decide +kernel
theorem dX2_beginAnew_101 : decode cX2_beginAnew 101 = .ok (.invokevirtual 77, 3) := by decide +kernel
theorem dX2_beginAnew_104 : decode cX2_beginAnew 104 = .ok (.iinc 2 1, 3) := by decide +kernel
theorem dX2_beginAnew_107 : decode cX2_beginAnew 107 = .ok (.goto (-47), 3) := by decide +kernel
theorem dX2_beginAnew_110 : decode cX2_beginAnew 110 = .ok (.return_, 1) := by decide +kernel
theorem dX2_has_0 : decode cX2_has 0 = .ok (.iload_n 1, 1) := by decide +kernel
theorem dX2_has_1 : decode cX2_has 1 = .ok (.ifCond .lt 21, 3) := by decide +kernel
theorem dX2_has_4 : decode cX2_has 4 = .ok (.iload_n 1, 1) := by decide +kernel
theorem dX2_has_5 : decode cX2_has 5 = .ok (.aload_n 0, 1) := by decide +kernel
theorem dX2_has_6 : decode cX2_has 6 = .ok (.getfield 18, 3) := by decide +kernel
theorem dX2_has_9 : decode cX2_has 9 = .ok (.if_icmp .ge 13, 3) := by decide +kernel
theorem dX2_has_12 : decode cX2_has 12 = .ok (.iload_n 1, 1) := by decide +kernel
theorem dX2_has_13 : decode cX2_has 13 = .ok (.bipush 12, 2) := by decide +kernel
theorem dX2_has_15 : decode cX2_has 15 = .ok (.if_icmp .ge 7, 3) := by decide +kernel
theorem dX2_has_18 : decode cX2_has 18 = .ok (.iconst 1, 1) := by decide +kernel
theorem dX2_has_19 : decode cX2_has 19 = .ok (.goto 4, 3) := by decide +kernel
theorem dX2_has_22 : decode cX2_has 22 = .ok (.iconst 0, 1) := by decide +kernel
theorem dX2_has_23 : decode cX2_has 23 = .ok (.ireturn, 1) := by decide +kernel
theorem dX2_miles_0 : decode cX2_miles 0 = .ok (.aload_n 0, 1) := by decide +kernel
theorem dX2_miles_1 : decode cX2_miles 1 = .ok (.getfield 18, 3) := by decide +kernel
theorem dX2_miles_4 : decode cX2_miles 4 = .ok (.ireturn, 1) := by decide +kernel
theorem dX2_hedgeAt_0 : decode cX2_hedgeAt 0 = .ok (.aload_n 0, 1) := by decide +kernel
theorem dX2_hedgeAt_1 : decode cX2_hedgeAt 1 = .ok (.iload_n 1, 1) := by decide +kernel
theorem dX2_hedgeAt_2 : decode cX2_hedgeAt 2 = .ok (.invokevirtual 81, 3) := by decide +kernel
theorem dX2_hedgeAt_5 : decode cX2_hedgeAt 5 = .ok (.ifCond .eq 12, 3) := by decide +kernel
theorem dX2_hedgeAt_8 : decode cX2_hedgeAt 8 = .ok (.aload_n 0, 1) := by decide +kernel
theorem dX2_hedgeAt_9 : decode cX2_hedgeAt 9 = .ok (.getfield 9, 3) := by decide +kernel
theorem dX2_hedgeAt_12 : decode cX2_hedgeAt 12 = .ok (.iload_n 1, 1) := by decide +kernel
theorem dX2_hedgeAt_13 : decode cX2_hedgeAt 13 = .ok (.iaload, 1) := by decide +kernel
theorem dX2_hedgeAt_14 : decode cX2_hedgeAt 14 = .ok (.goto 4, 3) := by decide +kernel
theorem dX2_hedgeAt_17 : decode cX2_hedgeAt 17 = .ok (.iconst 0, 1) := by decide +kernel
theorem dX2_hedgeAt_18 : decode cX2_hedgeAt 18 = .ok (.ireturn, 1) := by decide +kernel
theorem dX2_setHedge_0 : decode cX2_setHedge 0 = .ok (.aload_n 0, 1) := by decide +kernel
theorem dX2_setHedge_1 : decode cX2_setHedge 1 = .ok (.iload_n 1, 1) := by decide +kernel
theorem dX2_setHedge_2 : decode cX2_setHedge 2 = .ok (.invokevirtual 81, 3) := by decide +kernel
theorem dX2_setHedge_5 : decode cX2_setHedge 5 = .ok (.ifCond .eq 15, 3) := by decide +kernel
theorem dX2_setHedge_8 : decode cX2_setHedge 8 = .ok (.aload_n 0, 1) := by decide +kernel
theorem dX2_setHedge_9 : decode cX2_setHedge 9 = .ok (.getfield 9, 3) := by decide +kernel
theorem dX2_setHedge_12 : decode cX2_setHedge 12 = .ok (.iload_n 1, 1) := by decide +kernel
theorem dX2_setHedge_13 : decode cX2_setHedge 13 = .ok (.iload_n 2, 1) := by decide +kernel
theorem dX2_setHedge_14 : decode cX2_setHedge 14 = .ok (.bipush 9, 2) := by decide +kernel
theorem dX2_setHedge_16 : decode cX2_setHedge 16 = .ok (.invokestatic 85, 3) := by decide +kernel
theorem dX2_setHedge_19 : decode cX2_setHedge 19 = .ok (.iastore, 1) := by decide +kernel
theorem dX2_setHedge_20 : decode cX2_setHedge 20 = .ok (.return_, 1) := by decide +kernel
theorem dX2_allHedges_0 : decode cX2_allHedges 0 = .ok (.iconst 0, 1) := by decide +kernel
theorem dX2_allHedges_1 : decode cX2_allHedges 1 = .ok (.istore_n 1, 1) := by decide +kernel
theorem dX2_allHedges_2 : decode cX2_allHedges 2 = .ok (.iconst 0, 1) := by decide +kernel
theorem dX2_allHedges_3 : decode cX2_allHedges 3 = .ok (.istore_n 2, 1) := by decide +kernel
theorem dX2_allHedges_4 : decode cX2_allHedges 4 = .ok (.iload_n 2, 1) := by decide +kernel
theorem dX2_allHedges_5 : decode cX2_allHedges 5 = .ok (.aload_n 0, 1) := by decide +kernel
theorem dX2_allHedges_6 : decode cX2_allHedges 6 = .ok (.getfield 18, 3) := by decide +kernel
theorem dX2_allHedges_9 : decode cX2_allHedges 9 = .ok (.if_icmp .ge 17, 3) := by decide +kernel
theorem dX2_allHedges_12 : decode cX2_allHedges 12 = .ok (.iload_n 1, 1) := by decide +kernel
theorem dX2_allHedges_13 : decode cX2_allHedges 13 = .ok (.aload_n 0, 1) := by decide +kernel
theorem dX2_allHedges_14 : decode cX2_allHedges 14 = .ok (.iload_n 2, 1) := by decide +kernel
theorem dX2_allHedges_15 : decode cX2_allHedges 15 = .ok (.invokevirtual 88, 3) := by decide +kernel
theorem dX2_allHedges_18 : decode cX2_allHedges 18 = .ok (.iadd, 1) := by decide +kernel
theorem dX2_allHedges_19 : decode cX2_allHedges 19 = .ok (.istore_n 1, 1) := by decide +kernel
theorem dX2_allHedges_20 : decode cX2_allHedges 20 = .ok (.iinc 2 1, 3) := by decide +kernel
theorem dX2_allHedges_23 : decode cX2_allHedges 23 = .ok (.goto (-19), 3) := by decide +kernel
theorem dX2_allHedges_26 : decode cX2_allHedges 26 = .ok (.iload_n 1, 1) := by decide +kernel
theorem dX2_allHedges_27 : decode cX2_allHedges 27 = .ok (.ireturn, 1) := by decide +kernel
theorem dX2_hasGate_0 : decode cX2_hasGate 0 = .ok (.aload_n 0, 1) := by decide +kernel
theorem dX2_hasGate_1 : decode cX2_hasGate 1 = .ok (.iload_n 1, 1) := by decide +kernel
theorem dX2_hasGate_2 : decode cX2_hasGate 2 = .ok (.invokevirtual 81, 3) := by decide +kernel
theorem dX2_hasGate_5 : decode cX2_hasGate 5 = .ok (.ifCond .eq 18, 3) := by decide +kernel
theorem dX2_hasGate_8 : decode cX2_hasGate 8 = .ok (.aload_n 0, 1) := by decide +kernel
theorem dX2_hasGate_9 : decode cX2_hasGate 9 = .ok (.getfield 34, 3) := by decide +kernel
theorem dX2_hasGate_12 : decode cX2_hasGate 12 = .ok (.iload_n 1, 1) := by decide +kernel
theorem dX2_hasGate_13 : decode cX2_hasGate 13 = .ok (.ishr, 1) := by decide +kernel
theorem dX2_hasGate_14 : decode cX2_hasGate 14 = .ok (.iconst 1, 1) := by decide +kernel
theorem dX2_hasGate_15 : decode cX2_hasGate 15 = .ok (.iand, 1) := by decide +kernel
theorem dX2_hasGate_16 : decode cX2_hasGate 16 = .ok (.ifCond .eq 7, 3) := by decide +kernel
theorem dX2_hasGate_19 : decode cX2_hasGate 19 = .ok (.iconst 1, 1) := by decide +kernel
theorem dX2_hasGate_20 : decode cX2_hasGate 20 = .ok (.goto 4, 3) := by decide +kernel
theorem dX2_hasGate_23 : decode cX2_hasGate 23 = .ok (.iconst 0, 1) := by decide +kernel
theorem dX2_hasGate_24 : decode cX2_hasGate 24 = .ok (.ireturn, 1) := by decide +kernel
theorem dX2_gates_0 : decode cX2_gates 0 = .ok (.aload_n 0, 1) := by decide +kernel
theorem dX2_gates_1 : decode cX2_gates 1 = .ok (.getfield 34, 3) := by decide +kernel
theorem dX2_gates_4 : decode cX2_gates 4 = .ok (.ireturn, 1) := by decide +kernel
theorem dX2_turnGate_0 : decode cX2_turnGate 0 = .ok (.aload_n 0, 1) := by decide +kernel
theorem dX2_turnGate_1 : decode cX2_turnGate 1 = .ok (.iload_n 1, 1) := by decide +kernel
theorem dX2_turnGate_2 : decode cX2_turnGate 2 = .ok (.invokevirtual 81, 3) := by decide +kernel
theorem dX2_turnGate_5 : decode cX2_turnGate 5 = .ok (.ifCond .ne 4, 3) := by decide +kernel
theorem dX2_turnGate_8 : decode cX2_turnGate 8 = .ok (.return_, 1) := by decide +kernel
theorem dX2_turnGate_9 : decode cX2_turnGate 9 = .ok (.aload_n 0, 1) := by decide +kernel
theorem dX2_turnGate_10 : decode cX2_turnGate 10 = .ok (.dup, 1) := by decide +kernel
theorem dX2_turnGate_11 : decode cX2_turnGate 11 = .ok (.getfield 34, 3) := by decide +kernel
theorem dX2_turnGate_14 : decode cX2_turnGate 14 = .ok (.iconst 1, 1) := by decide +kernel
theorem dX2_turnGate_15 : decode cX2_turnGate 15 = .ok (.iload_n 1, 1) := by decide +kernel
theorem dX2_turnGate_16 : decode cX2_turnGate 16 = .ok (.ishl, 1) := by decide +kernel
theorem dX2_turnGate_17 : decode cX2_turnGate 17 = .ok (.ixor, 1) := by decide +kernel
theorem dX2_turnGate_18 : decode cX2_turnGate 18 = .ok (.putfield 34, 3) := by decide +kernel
theorem dX2_turnGate_21 : decode cX2_turnGate 21 = .ok (.aload_n 0, 1) := by decide +kernel
theorem dX2_turnGate_22 : decode cX2_turnGate 22 = .ok (.iload_n 1, 1) := by decide +kernel
theorem dX2_turnGate_23 : decode cX2_turnGate 23 = .ok (.invokevirtual 91, 3) := by decide +kernel
theorem dX2_turnGate_26 : decode cX2_turnGate 26 = .ok (.ifCond .eq 10, 3) := by decide +kernel
theorem dX2_turnGate_29 : decode cX2_turnGate 29 = .ok (.aload_n 0, 1) := by decide +kernel
theorem dX2_turnGate_30 : decode cX2_turnGate 30 = .ok (.getfield 9, 3) := by decide +kernel
theorem dX2_turnGate_33 : decode cX2_turnGate 33 = .ok (.iload_n 1, 1) := by decide +kernel
theorem dX2_turnGate_34 : decode cX2_turnGate 34 = .ok (.iconst 0, 1) := by decide +kernel
theorem dX2_turnGate_35 : decode cX2_turnGate 35 = .ok (.iastore, 1) := by decide +kernel
theorem dX2_turnGate_36 : decode cX2_turnGate 36 = .ok (.return_, 1) := by decide +kernel
theorem dX2_menAt_0 : decode cX2_menAt 0 = .ok (.aload_n 0, 1) := by decide +kernel
theorem dX2_menAt_1 : decode cX2_menAt 1 = .ok (.iload_n 1, 1) := by decide +kernel
theorem dX2_menAt_2 : decode cX2_menAt 2 = .ok (.invokevirtual 81, 3) := by decide +kernel
theorem dX2_menAt_5 : decode cX2_menAt 5 = .ok (.ifCond .eq 12, 3) := by decide +kernel
theorem dX2_menAt_8 : decode cX2_menAt 8 = .ok (.aload_n 0, 1) := by decide +kernel
theorem dX2_menAt_9 : decode cX2_menAt 9 = .ok (.getfield 15, 3) := by decide +kernel
theorem dX2_menAt_12 : decode cX2_menAt 12 = .ok (.iload_n 1, 1) := by decide +kernel
theorem dX2_menAt_13 : decode cX2_menAt 13 = .ok (.iaload, 1) := by decide +kernel
theorem dX2_menAt_14 : decode cX2_menAt 14 = .ok (.goto 4, 3) := by decide +kernel
theorem dX2_menAt_17 : decode cX2_menAt 17 = .ok (.iconst 0, 1) := by decide +kernel
theorem dX2_menAt_18 : decode cX2_menAt 18 = .ok (.ireturn, 1) := by decide +kernel
theorem dX2_setMen_0 : decode cX2_setMen 0 = .ok (.aload_n 0, 1) := by decide +kernel
theorem dX2_setMen_1 : decode cX2_setMen 1 = .ok (.iload_n 1, 1) := by decide +kernel
theorem dX2_setMen_2 : decode cX2_setMen 2 = .ok (.invokevirtual 81, 3) := by decide +kernel
theorem dX2_setMen_5 : decode cX2_setMen 5 = .ok (.ifCond .ne 4, 3) := by decide +kernel
theorem dX2_setMen_8 : decode cX2_setMen 8 = .ok (.return_, 1) := by decide +kernel
theorem dX2_setMen_9 : decode cX2_setMen 9 = .ok (.aload_n 0, 1) := by decide +kernel
theorem dX2_setMen_10 : decode cX2_setMen 10 = .ok (.getfield 15, 3) := by decide +kernel
theorem dX2_setMen_13 : decode cX2_setMen 13 = .ok (.iload_n 1, 1) := by decide +kernel
theorem dX2_setMen_14 : decode cX2_setMen 14 = .ok (.iaload, 1) := by decide +kernel
theorem dX2_setMen_15 : decode cX2_setMen 15 = .ok (.istore_n 3, 1) := by decide +kernel
theorem dX2_setMen_16 : decode cX2_setMen 16 = .ok (.iload_n 2, 1) := by decide +kernel
theorem dX2_setMen_17 : decode cX2_setMen 17 = .ok (.bipush 9, 2) := by decide +kernel
theorem dX2_setMen_19 : decode cX2_setMen 19 = .ok (.invokestatic 85, 3) := by decide +kernel
theorem dX2_setMen_22 : decode cX2_setMen 22 = .ok (.istore 4, 2) := by decide +kernel
theorem dX2_setMen_24 : decode cX2_setMen 24 = .ok (.aload_n 0, 1) := by decide +kernel
theorem dX2_setMen_25 : decode cX2_setMen 25 = .ok (.getfield 15, 3) := by decide +kernel
theorem dX2_setMen_28 : decode cX2_setMen 28 = .ok (.iload_n 1, 1) := by decide +kernel
theorem dX2_setMen_29 : decode cX2_setMen 29 = .ok (.iload 4, 2) := by decide +kernel
theorem dX2_setMen_31 : decode cX2_setMen 31 = .ok (.iastore, 1) := by decide +kernel
theorem dX2_setMen_32 : decode cX2_setMen 32 = .ok (.aload_n 0, 1) := by decide +kernel
theorem dX2_setMen_33 : decode cX2_setMen 33 = .ok (.dup, 1) := by decide +kernel
theorem dX2_setMen_34 : decode cX2_setMen 34 = .ok (.getfield 37, 3) := by decide +kernel
theorem dX2_setMen_37 : decode cX2_setMen 37 = .ok (.iload 4, 2) := by decide +kernel
theorem dX2_setMen_39 : decode cX2_setMen 39 = .ok (.iload_n 3, 1) := by decide +kernel
theorem dX2_setMen_40 : decode cX2_setMen 40 = .ok (.isub, 1) := by decide +kernel
theorem dX2_setMen_41 : decode cX2_setMen 41 = .ok (.iadd, 1) := by decide +kernel
theorem dX2_setMen_42 : decode cX2_setMen 42 = .ok (.putfield 37, 3) := by decide +kernel
theorem dX2_setMen_45 : decode cX2_setMen 45 = .ok (.aload_n 0, 1) := by decide +kernel
theorem dX2_setMen_46 : decode cX2_setMen 46 = .ok (.dup, 1) := by decide +kernel
theorem dX2_setMen_47 : decode cX2_setMen 47 = .ok (.getfield 40, 3) := by decide +kernel
theorem dX2_setMen_50 : decode cX2_setMen 50 = .ok (.iload 4, 2) := by decide +kernel
theorem dX2_setMen_52 : decode cX2_setMen 52 = .ok (.ifCond .le 7, 3) := by decide +kernel
theorem dX2_setMen_55 : decode cX2_setMen 55 = .ok (.iconst 1, 1) := by decide +kernel
theorem dX2_setMen_56 : decode cX2_setMen 56 = .ok (.goto 4, 3) := by decide +kernel
theorem dX2_setMen_59 : decode cX2_setMen 59 = .ok (.iconst 0, 1) := by decide +kernel
theorem dX2_setMen_60 : decode cX2_setMen 60 = .ok (.iload_n 3, 1) := by decide +kernel
theorem dX2_setMen_61 : decode cX2_setMen 61 = .ok (.ifCond .le 7, 3) := by decide +kernel
theorem dX2_setMen_64 : decode cX2_setMen 64 = .ok (.iconst 1, 1) := by decide +kernel
theorem dX2_setMen_65 : decode cX2_setMen 65 = .ok (.goto 4, 3) := by decide +kernel
theorem dX2_setMen_68 : decode cX2_setMen 68 = .ok (.iconst 0, 1) := by decide +kernel
theorem dX2_setMen_69 : decode cX2_setMen 69 = .ok (.isub, 1) := by decide +kernel
theorem dX2_setMen_70 : decode cX2_setMen 70 = .ok (.iadd, 1) := by decide +kernel
theorem dX2_setMen_71 : decode cX2_setMen 71 = .ok (.putfield 40, 3) := by decide +kernel
theorem dX2_setMen_74 : decode cX2_setMen 74 = .ok (.return_, 1) := by decide +kernel
theorem dX2_allMen_0 : decode cX2_allMen 0 = .ok (.aload_n 0, 1) := by decide +kernel
theorem dX2_allMen_1 : decode cX2_allMen 1 = .ok (.getfield 37, 3) := by decide +kernel
theorem dX2_allMen_4 : decode cX2_allMen 4 = .ok (.ireturn, 1) := by decide +kernel
theorem dX2_mannedBeside_0 : decode cX2_mannedBeside 0 = .ok (.aload_n 0, 1) := by decide +kernel
theorem dX2_mannedBeside_1 : decode cX2_mannedBeside 1 = .ok (.iload_n 1, 1) := by decide +kernel
theorem dX2_mannedBeside_2 : decode cX2_mannedBeside 2 = .ok (.invokevirtual 81, 3) := by decide +kernel
theorem dX2_mannedBeside_5 : decode cX2_mannedBeside 5 = .ok (.ifCond .eq 21, 3) := by decide +kernel
theorem dX2_mannedBeside_8 : decode cX2_mannedBeside 8 = .ok (.aload_n 0, 1) := by decide +kernel
theorem dX2_mannedBeside_9 : decode cX2_mannedBeside 9 = .ok (.getfield 15, 3) := by decide +kernel
theorem dX2_mannedBeside_12 : decode cX2_mannedBeside 12 = .ok (.iload_n 1, 1) := by decide +kernel
theorem dX2_mannedBeside_13 : decode cX2_mannedBeside 13 = .ok (.iaload, 1) := by decide +kernel
theorem dX2_mannedBeside_14 : decode cX2_mannedBeside 14 = .ok (.ifCond .le 12, 3) := by decide +kernel
theorem dX2_mannedBeside_17 : decode cX2_mannedBeside 17 = .ok (.aload_n 0, 1) := by decide +kernel
theorem dX2_mannedBeside_18 : decode cX2_mannedBeside 18 = .ok (.getfield 40, 3) := by decide +kernel
theorem dX2_mannedBeside_21 : decode cX2_mannedBeside 21 = .ok (.iconst 1, 1) := by decide +kernel
theorem dX2_mannedBeside_22 : decode cX2_mannedBeside 22 = .ok (.isub, 1) := by decide +kernel
theorem dX2_mannedBeside_23 : decode cX2_mannedBeside 23 = .ok (.goto 7, 3) := by decide +kernel
theorem dX2_mannedBeside_26 : decode cX2_mannedBeside 26 = .ok (.aload_n 0, 1) := by decide +kernel
theorem dX2_mannedBeside_27 : decode cX2_mannedBeside 27 = .ok (.getfield 40, 3) := by decide +kernel
theorem dX2_mannedBeside_30 : decode cX2_mannedBeside 30 = .ok (.ireturn, 1) := by decide +kernel
theorem dX2_cheap_0 : decode cX2_cheap 0 = .ok (.aload_n 0, 1) := by decide +kernel
theorem dX2_cheap_1 : decode cX2_cheap 1 = .ok (.getfield 22, 3) := by decide +kernel
theorem dX2_cheap_4 : decode cX2_cheap 4 = .ok (.ireturn, 1) := by decide +kernel
theorem dX2_setCheap_0 : decode cX2_setCheap 0 = .ok (.aload_n 0, 1) := by decide +kernel
theorem dX2_setCheap_1 : decode cX2_setCheap 1 = .ok (.iload_n 1, 1) := by decide +kernel
theorem dX2_setCheap_2 : decode cX2_setCheap 2 = .ok (.putfield 22, 3) := by decide +kernel
theorem dX2_setCheap_5 : decode cX2_setCheap 5 = .ok (.return_, 1) := by decide +kernel
theorem dX2_dear_0 : decode cX2_dear 0 = .ok (.aload_n 0, 1) := by decide +kernel
theorem dX2_dear_1 : decode cX2_dear 1 = .ok (.getfield 25, 3) := by decide +kernel
theorem dX2_dear_4 : decode cX2_dear 4 = .ok (.ireturn, 1) := by decide +kernel
theorem dX2_setDear_0 : decode cX2_setDear 0 = .ok (.aload_n 0, 1) := by decide +kernel
theorem dX2_setDear_1 : decode cX2_setDear 1 = .ok (.iload_n 1, 1) := by decide +kernel
theorem dX2_setDear_2 : decode cX2_setDear 2 = .ok (.putfield 25, 3) := by decide +kernel
theorem dX2_setDear_5 : decode cX2_setDear 5 = .ok (.return_, 1) := by decide +kernel
theorem dX2_week_0 : decode cX2_week 0 = .ok (.aload_n 0, 1) := by decide +kernel
theorem dX2_week_1 : decode cX2_week 1 = .ok (.getfield 43, 3) := by decide +kernel
theorem dX2_week_4 : decode cX2_week 4 = .ok (.ireturn, 1) := by decide +kernel
theorem dX2_over_0 : decode cX2_over 0 = .ok (.aload_n 0, 1) := by decide +kernel
theorem dX2_over_1 : decode cX2_over 1 = .ok (.getfield 46, 3) := by decide +kernel
theorem dX2_over_4 : decode cX2_over 4 = .ok (.ireturn, 1) := by decide +kernel
theorem dX2_comeOver_0 : decode cX2_comeOver 0 = .ok (.aload_n 0, 1) := by decide +kernel
theorem dX2_comeOver_1 : decode cX2_comeOver 1 = .ok (.dup, 1) := by decide +kernel
theorem dX2_comeOver_2 : decode cX2_comeOver 2 = .ok (.getfield 46, 3) := by decide +kernel
theorem dX2_comeOver_5 : decode cX2_comeOver 5 = .ok (.iload_n 1, 1) := by decide +kernel
theorem dX2_comeOver_6 : decode cX2_comeOver 6 = .ok (.iadd, 1) := by decide +kernel
theorem dX2_comeOver_7 : decode cX2_comeOver 7 = .ok (.putfield 46, 3) := by decide +kernel
theorem dX2_comeOver_10 : decode cX2_comeOver 10 = .ok (.return_, 1) := by decide +kernel
theorem dX2_endWeek_0 : decode cX2_endWeek 0 = .ok (.iload_n 1, 1) := by decide +kernel
theorem dX2_endWeek_1 : decode cX2_endWeek 1 = .ok (.bipush 100, 2) := by decide +kernel
theorem dX2_endWeek_3 : decode cX2_endWeek 3 = .ok (.if_icmp .eq 9, 3) := by decide +kernel
theorem dX2_endWeek_6 : decode cX2_endWeek 6 = .ok (.iload_n 1, 1) := by decide +kernel
theorem dX2_endWeek_7 : decode cX2_endWeek 7 = .ok (.bipush 114, 2) := by decide +kernel
theorem dX2_endWeek_9 : decode cX2_endWeek 9 = .ok (.if_icmp .ne 44, 3) := by decide +kernel
theorem dX2_endWeek_12 : decode cX2_endWeek 12 = .ok (.iconst 0, 1) := by decide +kernel
theorem dX2_endWeek_13 : decode cX2_endWeek 13 = .ok (.istore_n 2, 1) := by decide +kernel
theorem dX2_endWeek_14 : decode cX2_endWeek 14 = .ok (.iload_n 2, 1) := by decide +kernel
theorem dX2_endWeek_15 : decode cX2_endWeek 15 = .ok (.aload_n 0, 1) := by decide +kernel
theorem dX2_endWeek_16 : decode cX2_endWeek 16 = .ok (.getfield 18, 3) := by decide +kernel
theorem dX2_endWeek_19 : decode cX2_endWeek 19 = .ok (.if_icmp .ge 31, 3) := by decide +kernel
theorem dX2_endWeek_22 : decode cX2_endWeek 22 = .ok (.aload_n 0, 1) := by decide +kernel
theorem dX2_endWeek_23 : decode cX2_endWeek 23 = .ok (.iload_n 2, 1) := by decide +kernel
theorem dX2_endWeek_24 : decode cX2_endWeek 24 = .ok (.aload_n 0, 1) := by decide +kernel
theorem dX2_endWeek_25 : decode cX2_endWeek 25 = .ok (.iload_n 2, 1) := by decide +kernel
theorem dX2_endWeek_26 : decode cX2_endWeek 26 = .ok (.invokevirtual 88, 3) := by decide +kernel
theorem dX2_endWeek_29 : decode cX2_endWeek 29 = .ok (.iload_n 1, 1) := by decide +kernel
theorem dX2_endWeek_30 : decode cX2_endWeek 30 = .ok (.bipush 114, 2) := by decide +kernel
theorem dX2_endWeek_32 : decode cX2_endWeek 32 = .ok (.if_icmp .ne 7, 3) := by decide +kernel
theorem dX2_endWeek_35 : decode cX2_endWeek 35 = .ok (.iconst 1, 1) := by decide +kernel
theorem dX2_endWeek_36 : decode cX2_endWeek 36 = .ok (.goto 4, 3) := by decide +kernel
theorem dX2_endWeek_39 : decode cX2_endWeek 39 = .ok (.iconst (-1), 1) := by decide +kernel
theorem dX2_endWeek_40 : decode cX2_endWeek 40 = .ok (.iadd, 1) := by decide +kernel
theorem dX2_endWeek_41 : decode cX2_endWeek 41 = .ok (.invokevirtual 77, 3) := by decide +kernel
theorem dX2_endWeek_44 : decode cX2_endWeek 44 = .ok (.iinc 2 1, 3) := by decide +kernel
theorem dX2_endWeek_47 : decode cX2_endWeek 47 = .ok (.goto (-33), 3) := by decide +kernel
theorem dX2_endWeek_50 : decode cX2_endWeek 50 = .ok (.goto 32, 3) := by decide +kernel
theorem dX2_endWeek_53 : decode cX2_endWeek 53 = .ok (.iload_n 1, 1) := by decide +kernel
theorem dX2_endWeek_54 : decode cX2_endWeek 54 = .ok (.bipush 97, 2) := by decide +kernel
theorem dX2_endWeek_56 : decode cX2_endWeek 56 = .ok (.if_icmp .ne 26, 3) := by decide +kernel
theorem dX2_endWeek_59 : decode cX2_endWeek 59 = .ok (.aload_n 0, 1) := by decide +kernel
theorem dX2_endWeek_60 : decode cX2_endWeek 60 = .ok (.getfield 18, 3) := by decide +kernel
theorem dX2_endWeek_63 : decode cX2_endWeek 63 = .ok (.ifCond .le 19, 3) := by decide +kernel
theorem dX2_endWeek_66 : decode cX2_endWeek 66 = .ok (.aload_n 0, 1) := by decide +kernel
theorem dX2_endWeek_67 : decode cX2_endWeek 67 = .ok (.aload_n 0, 1) := by decide +kernel
theorem dX2_endWeek_68 : decode cX2_endWeek 68 = .ok (.getfield 43, 3) := by decide +kernel
theorem dX2_endWeek_71 : decode cX2_endWeek 71 = .ok (.aload_n 0, 1) := by decide +kernel
theorem dX2_endWeek_72 : decode cX2_endWeek 72 = .ok (.getfield 18, 3) := by decide +kernel
theorem dX2_endWeek_75 : decode cX2_endWeek 75 = .ok (.invokestatic 94, 3) := by decide +kernel
theorem dX2_endWeek_78 : decode cX2_endWeek 78 = .ok (.iconst 0, 1) := by decide +kernel
theorem dX2_endWeek_79 : decode cX2_endWeek 79 = .ok (.invokevirtual 77, 3) := by decide +kernel
theorem dX2_endWeek_82 : decode cX2_endWeek 82 = .ok (.aload_n 0, 1) := by decide +kernel
theorem dX2_endWeek_83 : decode cX2_endWeek 83 = .ok (.dup, 1) := by decide +kernel
theorem dX2_endWeek_84 : decode cX2_endWeek 84 = .ok (.getfield 43, 3) := by decide +kernel
theorem dX2_endWeek_87 : decode cX2_endWeek 87 = .ok (.iconst 1, 1) := by decide +kernel
theorem dX2_endWeek_88 : decode cX2_endWeek 88 = .ok (.iadd, 1) := by decide +kernel
theorem dX2_endWeek_89 : decode cX2_endWeek 89 = .ok (.putfield 43, 3) := by decide +kernel
theorem dX2_endWeek_92 : decode cX2_endWeek 92 = .ok (.return_, 1) := by decide +kernel
theorem dX3_init_0 : decode cX3_init 0 = .ok (.aload_n 0, 1) := by decide +kernel
theorem dX3_init_1 : decode cX3_init 1 = .ok (.invokespecial 1, 3) := by decide +kernel
theorem dX3_init_4 : decode cX3_init 4 = .ok (.aload_n 0, 1) := by decide +kernel
theorem dX3_init_5 : decode cX3_init 5 = .ok (.bipush 15, 2) := by decide +kernel
theorem dX3_init_7 : decode cX3_init 7 = .ok (.anewarray 9, 3) := by decide +kernel
theorem dX3_init_10 : decode cX3_init 10 = .ok (.putfield 11, 3) := by decide +kernel
theorem dX3_init_13 : decode cX3_init 13 = .ok (.iconst 0, 1) := by decide +kernel
theorem dX3_init_14 : decode cX3_init 14 = .ok (.istore_n 1, 1) := by decide +kernel
theorem dX3_init_15 : decode cX3_init 15 = .ok (.iload_n 1, 1) := by decide +kernel
theorem dX3_init_16 : decode cX3_init 16 = .ok (.bipush 15, 2) := by decide +kernel
theorem dX3_init_18 : decode cX3_init 18 = .ok (.if_icmp .ge 22, 3) := by decide +kernel
theorem dX3_init_21 : decode cX3_init 21 = .ok (.aload_n 0, 1) := by decide +kernel
theorem dX3_init_22 : decode cX3_init 22 = .ok (.getfield 11, 3) := by decide +kernel
theorem dX3_init_25 : decode cX3_init 25 = .ok (.iload_n 1, 1) := by decide +kernel
theorem dX3_init_26 : decode cX3_init 26 = .ok (.new 9, 3) := by decide +kernel
theorem dX3_init_29 : decode cX3_init 29 = .ok (.dup, 1) := by decide +kernel
theorem dX3_init_30 : decode cX3_init 30 = .ok (.invokespecial 15, 3) := by decide +kernel
theorem dX3_init_33 : decode cX3_init 33 = .ok (.aastore, 1) := by decide +kernel
theorem dX3_init_34 : decode cX3_init 34 = .ok (.iinc 1 1, 3) := by decide +kernel
theorem dX3_init_37 : decode cX3_init 37 = .ok (.goto (-22), 3) := by decide +kernel
theorem dX3_init_40 : decode cX3_init 40 = .ok (.return_, 1) := by decide +kernel
theorem dX3_size_0 : decode cX3_size 0 = .ok (.aload_n 0, 1) := by decide +kernel
theorem dX3_size_1 : decode cX3_size 1 = .ok (.getfield 16, 3) := by decide +kernel
theorem dX3_size_4 : decode cX3_size 4 = .ok (.ireturn, 1) := by decide +kernel
theorem dX3_clear_0 : decode cX3_clear 0 = .ok (.aload_n 0, 1) := by decide +kernel
theorem dX3_clear_1 : decode cX3_clear 1 = .ok (.iconst 0, 1) := by decide +kernel
theorem dX3_clear_2 : decode cX3_clear 2 = .ok (.putfield 16, 3) := by decide +kernel
theorem dX3_clear_5 : decode cX3_clear 5 = .ok (.return_, 1) := by decide +kernel
theorem dX3_push_0 : decode cX3_push 0 = .ok (.aload_n 0, 1) := by decide +kernel
theorem dX3_push_1 : decode cX3_push 1 = .ok (.getfield 20, 3) := by decide +kernel
theorem dX3_push_4 : decode cX3_push 4 = .ok (.ifCond .lt 24, 3) := by decide +kernel
theorem dX3_push_7 : decode cX3_push 7 = .ok (.aload_n 0, 1) := by decide +kernel
theorem dX3_push_8 : decode cX3_push 8 = .ok (.getfield 20, 3) := by decide +kernel
theorem dX3_push_11 : decode cX3_push 11 = .ok (.bipush 15, 2) := by decide +kernel
theorem dX3_push_13 : decode cX3_push 13 = .ok (.if_icmp .ge 15, 3) := by decide +kernel
theorem dX3_push_16 : decode cX3_push 16 = .ok (.aload_n 0, 1) := by decide +kernel
theorem dX3_push_17 : decode cX3_push 17 = .ok (.getfield 11, 3) := by decide +kernel
theorem dX3_push_20 : decode cX3_push 20 = .ok (.aload_n 0, 1) := by decide +kernel
theorem dX3_push_21 : decode cX3_push 21 = .ok (.getfield 20, 3) := by decide +kernel
theorem dX3_push_24 : decode cX3_push 24 = .ok (.aaload, 1) := by decide +kernel
theorem dX3_push_25 : decode cX3_push 25 = .ok (.ifnonnull 4, 3) := by decide +kernel
theorem dX3_push_28 : decode cX3_push 28 = .ok (.return_, 1) := by decide +kernel
theorem dX3_push_29 : decode cX3_push 29 = .ok (.aload_n 0, 1) := by decide +kernel
theorem dX3_push_30 : decode cX3_push 30 = .ok (.getfield 11, 3) := by decide +kernel
theorem dX3_push_33 : decode cX3_push 33 = .ok (.aload_n 0, 1) := by decide +kernel
theorem dX3_push_34 : decode cX3_push 34 = .ok (.getfield 20, 3) := by decide +kernel
theorem dX3_push_37 : decode cX3_push 37 = .ok (.aaload, 1) := by decide +kernel
theorem dX3_push_38 : decode cX3_push 38 = .ok (.aload_n 1, 1) := by decide +kernel
theorem dX3_push_39 : decode cX3_push 39 = .ok (.invokevirtual 23, 3) := by decide +kernel
theorem dX3_push_42 : decode cX3_push 42 = .ok (.aload_n 0, 1) := by decide +kernel
theorem dX3_push_43 : decode cX3_push 43 = .ok (.aload_n 0, 1) := by decide +kernel
theorem dX3_push_44 : decode cX3_push 44 = .ok (.getfield 20, 3) := by decide +kernel
theorem dX3_push_47 : decode cX3_push 47 = .ok (.iconst 1, 1) := by decide +kernel
theorem dX3_push_48 : decode cX3_push 48 = .ok (.iadd, 1) := by decide +kernel
theorem dX3_push_49 : decode cX3_push 49 = .ok (.bipush 15, 2) := by decide +kernel
theorem dX3_push_51 : decode cX3_push 51 = .ok (.irem, 1) := by decide +kernel
theorem dX3_push_52 : decode cX3_push 52 = .ok (.putfield 20, 3) := by decide +kernel
theorem dX3_push_55 : decode cX3_push 55 = .ok (.aload_n 0, 1) := by decide +kernel
theorem dX3_push_56 : decode cX3_push 56 = .ok (.aload_n 0, 1) := by decide +kernel
theorem dX3_push_57 : decode cX3_push 57 = .ok (.getfield 16, 3) := by decide +kernel
theorem dX3_push_60 : decode cX3_push 60 = .ok (.iconst 1, 1) := by decide +kernel
theorem dX3_push_61 : decode cX3_push 61 = .ok (.iadd, 1) := by decide +kernel
theorem dX3_push_62 : decode cX3_push 62 = .ok (.bipush 15, 2) := by decide +kernel
theorem dX3_push_64 : decode cX3_push 64 = .ok (.invokestatic 27, 3) := by decide +kernel
theorem dX3_push_67 : decode cX3_push 67 = .ok (.putfield 16, 3) := by decide +kernel
theorem dX3_push_70 : decode cX3_push 70 = .ok (.return_, 1) := by decide +kernel
theorem dX3_pop_0 : decode cX3_pop 0 = .ok (.aload_n 0, 1) := by decide +kernel
theorem dX3_pop_1 : decode cX3_pop 1 = .ok (.getfield 20, 3) := by decide +kernel
theorem dX3_pop_4 : decode cX3_pop 4 = .ok (.bipush 15, 2) := by decide +kernel
theorem dX3_pop_6 : decode cX3_pop 6 = .ok (.iadd, 1) := by decide +kernel
theorem dX3_pop_7 : decode cX3_pop 7 = .ok (.iconst 1, 1) := by decide +kernel
theorem dX3_pop_8 : decode cX3_pop 8 = .ok (.isub, 1) := by decide +kernel
theorem dX3_pop_9 : decode cX3_pop 9 = .ok (.bipush 15, 2) := by decide +kernel
theorem dX3_pop_11 : decode cX3_pop 11 = .ok (.irem, 1) := by decide +kernel
theorem dX3_pop_12 : decode cX3_pop 12 = .ok (.istore_n 2, 1) := by decide +kernel
theorem dX3_pop_13 : decode cX3_pop 13 = .ok (.aload_n 0, 1) := by decide +kernel
theorem dX3_pop_14 : decode cX3_pop 14 = .ok (.getfield 16, 3) := by decide +kernel
theorem dX3_pop_17 : decode cX3_pop 17 = .ok (.ifCond .le 22, 3) := by decide +kernel
theorem dX3_pop_20 : decode cX3_pop 20 = .ok (.iload_n 2, 1) := by decide +kernel
theorem dX3_pop_21 : decode cX3_pop 21 = .ok (.ifCond .lt 18, 3) := by decide +kernel
theorem dX3_pop_24 : decode cX3_pop 24 = .ok (.iload_n 2, 1) := by decide +kernel
theorem dX3_pop_25 : decode cX3_pop 25 = .ok (.bipush 15, 2) := by decide +kernel
theorem dX3_pop_27 : decode cX3_pop 27 = .ok (.if_icmp .ge 12, 3) := by decide +kernel
theorem dX3_pop_30 : decode cX3_pop 30 = .ok (.aload_n 0, 1) := by decide +kernel
theorem dX3_pop_31 : decode cX3_pop 31 = .ok (.getfield 11, 3) := by decide +kernel
theorem dX3_pop_34 : decode cX3_pop 34 = .ok (.iload_n 2, 1) := by decide +kernel
theorem dX3_pop_35 : decode cX3_pop 35 = .ok (.aaload, 1) := by decide +kernel
theorem dX3_pop_36 : decode cX3_pop 36 = .ok (.ifnonnull 5, 3) := by decide +kernel
theorem dX3_pop_39 : decode cX3_pop 39 = .ok (.iconst 0, 1) := by decide +kernel
theorem dX3_pop_40 : decode cX3_pop 40 = .ok (.ireturn, 1) := by decide +kernel
theorem dX3_pop_41 : decode cX3_pop 41 = .ok (.aload_n 1, 1) := by decide +kernel
theorem dX3_pop_42 : decode cX3_pop 42 = .ok (.aload_n 0, 1) := by decide +kernel
theorem dX3_pop_43 : decode cX3_pop 43 = .ok (.getfield 11, 3) := by decide +kernel
theorem dX3_pop_46 : decode cX3_pop 46 = .ok (.iload_n 2, 1) := by decide +kernel
theorem dX3_pop_47 : decode cX3_pop 47 = .ok (.aaload, 1) := by decide +kernel
theorem dX3_pop_48 : decode cX3_pop 48 = .ok (.invokevirtual 23, 3) := by decide +kernel
theorem dX3_pop_51 : decode cX3_pop 51 = .ok (.aload_n 0, 1) := by decide +kernel
theorem dX3_pop_52 : decode cX3_pop 52 = .ok (.iload_n 2, 1) := by decide +kernel
theorem dX3_pop_53 : decode cX3_pop 53 = .ok (.putfield 20, 3) := by decide +kernel
theorem dX3_pop_56 : decode cX3_pop 56 = .ok (.aload_n 0, 1) := by decide +kernel
theorem dX3_pop_57 : decode cX3_pop 57 = .ok (.dup, 1) := by decide +kernel
theorem dX3_pop_58 : decode cX3_pop 58 = .ok (.getfield 16, 3) := by decide +kernel
theorem dX3_pop_61 : decode cX3_pop 61 = .ok (.iconst 1, 1) := by decide +kernel
theorem dX3_pop_62 : decode cX3_pop 62 = .ok (.isub, 1) := by decide +kernel
theorem dX3_pop_63 : decode cX3_pop 63 = .ok (.putfield 16, 3) := by decide +kernel
theorem dX3_pop_66 : decode cX3_pop 66 = .ok (.iconst 1, 1) := by decide +kernel
theorem dX3_pop_67 : decode cX3_pop 67 = .ok (.ireturn, 1) := by decide +kernel
theorem dX4_init_0 : decode cX4_init 0 = .ok (.aload_n 0, 1) := by decide +kernel
theorem dX4_init_1 : decode cX4_init 1 = .ok (.invokespecial 3, 3) := by decide +kernel
theorem dX4_init_4 : decode cX4_init 4 = .ok (.aload_n 0, 1) := by decide +kernel
theorem dX4_init_5 : decode cX4_init 5 = .ok (.bipush 40, 2) := by decide +kernel
theorem dX4_init_7 : decode cX4_init 7 = .ok (.newarray .int, 2) := by decide +kernel
theorem dX4_init_9 : decode cX4_init 9 = .ok (.putfield 9, 3) := by decide +kernel
theorem dX4_init_12 : decode cX4_init 12 = .ok (.aload_n 0, 1) := by decide +kernel
theorem dX4_init_13 : decode cX4_init 13 = .ok (.bipush 40, 2) := by decide +kernel
theorem dX4_init_15 : decode cX4_init 15 = .ok (.newarray .int, 2) := by decide +kernel
theorem dX4_init_17 : decode cX4_init 17 = .ok (.putfield 15, 3) := by decide +kernel
theorem dX4_init_20 : decode cX4_init 20 = .ok (.aload_n 0, 1) := by decide +kernel
theorem dX4_init_21 : decode cX4_init 21 = .ok (.bipush 40, 2) := by decide +kernel
theorem dX4_init_23 : decode cX4_init 23 = .ok (.newarray .int, 2) := by decide +kernel
theorem dX4_init_25 : decode cX4_init 25 = .ok (.putfield 18, 3) := by decide +kernel
theorem dX4_init_28 : decode cX4_init 28 = .ok (.aload_n 0, 1) := by decide +kernel
theorem dX4_init_29 : decode cX4_init 29 = .ok (.iconst 5, 1) := by decide +kernel
theorem dX4_init_30 : decode cX4_init 30 = .ok (.newarray .int, 2) := by decide +kernel
theorem dX4_init_32 : decode cX4_init 32 = .ok (.putfield 21, 3) := by decide +kernel
theorem dX4_init_35 : decode cX4_init 35 = .ok (.aload_n 0, 1) := by decide +kernel
theorem dX4_init_36 : decode cX4_init 36 = .ok (.invokevirtual 24, 3) := by decide +kernel
theorem dX4_init_39 : decode cX4_init 39 = .ok (.return_, 1) := by decide +kernel
theorem dX4_beUsual_0 : decode cX4_beUsual 0 = .ok (.aload_n 0, 1) := by decide +kernel
theorem dX4_beUsual_1 : decode cX4_beUsual 1 = .ok (.iconst 0, 1) := by decide +kernel
theorem dX4_beUsual_2 : decode cX4_beUsual 2 = .ok (.putfield 27, 3) := by decide +kernel
theorem dX4_beUsual_5 : decode cX4_beUsual 5 = .ok (.iconst 0, 1) := by decide +kernel
theorem dX4_beUsual_6 : decode cX4_beUsual 6 = .ok (.istore_n 1, 1) := by decide +kernel
theorem dX4_beUsual_7 : decode cX4_beUsual 7 = .ok (.iload_n 1, 1) := by decide +kernel
theorem dX4_beUsual_8 : decode cX4_beUsual 8 = .ok (.getstatic 31, 3) := by decide +kernel
theorem dX4_beUsual_11 : decode cX4_beUsual 11 = .ok (.arraylength, 1) := by decide +kernel
theorem dX4_beUsual_12 : decode cX4_beUsual 12 = .ok (.if_icmp .ge 18, 3) := by decide +kernel
theorem dX4_beUsual_15 : decode cX4_beUsual 15 = .ok (.aload_n 0, 1) := by decide +kernel
theorem dX4_beUsual_16 : decode cX4_beUsual 16 = .ok (.getstatic 31, 3) := by decide +kernel
theorem dX4_beUsual_19 : decode cX4_beUsual 19 = .ok (.iload_n 1, 1) := by decide +kernel
theorem dX4_beUsual_20 : decode cX4_beUsual 20 = .ok (.iaload, 1) := by decide +kernel
theorem dX4_beUsual_21 : decode cX4_beUsual 21 = .ok (.invokevirtual 34, 3) := by decide +kernel
theorem dX4_beUsual_24 : decode cX4_beUsual 24 = .ok (.iinc 1 1, 3) := by decide +kernel
theorem dX4_beUsual_27 : decode cX4_beUsual 27 = .ok (.goto (-20), 3) := by decide +kernel
theorem dX4_beUsual_30 : decode cX4_beUsual 30 = .ok (.return_, 1) := by decide +kernel
theorem dX4_read_0 : decode cX4_read 0 = .ok (.aload_n 0, 1) := by decide +kernel
theorem dX4_read_1 : decode cX4_read 1 = .ok (.iconst 0, 1) := by decide +kernel
theorem dX4_read_2 : decode cX4_read 2 = .ok (.putfield 27, 3) := by decide +kernel
theorem dX4_read_5 : decode cX4_read 5 = .ok (.aload_n 0, 1) := by decide +kernel
theorem dX4_read_6 : decode cX4_read 6 = .ok (.iconst 0, 1) := by decide +kernel
theorem dX4_read_7 : decode cX4_read 7 = .ok (.putfield 38, 3) := by decide +kernel
theorem dX4_read_10 : decode cX4_read 10 = .ok (.aload_n 0, 1) := by decide +kernel
theorem dX4_read_11 : decode cX4_read 11 = .ok (.iconst 0, 1) := by decide +kernel
theorem dX4_read_12 : decode cX4_read 12 = .ok (.putfield 41, 3) := by decide +kernel
theorem dX4_read_15 : decode cX4_read 15 = .ok (.aload_n 0, 1) := by decide +kernel
theorem dX4_read_16 : decode cX4_read 16 = .ok (.iconst 0, 1) := by decide +kernel
theorem dX4_read_17 : decode cX4_read 17 = .ok (.putfield 44, 3) := by decide +kernel
theorem dX4_read_20 : decode cX4_read 20 = .ok (.aload_n 0, 1) := by decide +kernel
theorem dX4_read_21 : decode cX4_read 21 = .ok (.iconst 1, 1) := by decide +kernel
theorem dX4_read_22 : decode cX4_read 22 = .ok (.putfield 47, 3) := by decide +kernel
theorem dX4_read_25 : decode cX4_read 25 = .ok (.aload_n 1, 1) := by decide +kernel
theorem dX4_read_26 : decode cX4_read 26 = .ok (.invokevirtual 51, 3) := by decide +kernel
theorem dX4_read_29 : decode cX4_read 29 = .ok (.ifCond .ne 9, 3) := by decide +kernel
theorem dX4_read_32 : decode cX4_read 32 = .ok (.aload_n 0, 1) := by decide +kernel
theorem dX4_read_33 : decode cX4_read 33 = .ok (.invokevirtual 24, 3) := by decide +kernel
theorem dX4_read_36 : decode cX4_read 36 = .ok (.iconst (-1), 1) := by decide +kernel
theorem dX4_read_37 : decode cX4_read 37 = .ok (.ireturn, 1) := by decide +kernel
theorem dX4_read_38 : decode cX4_read 38 = .ok (.aload_n 1, 1) := by decide +kernel
theorem dX4_read_39 : decode cX4_read 39 = .ok (.invokevirtual 51, 3) := by decide +kernel
theorem dX4_read_42 : decode cX4_read 42 = .ok (.bipush 40, 2) := by decide +kernel
theorem dX4_read_44 : decode cX4_read 44 = .ok (.invokestatic 57, 3) := by decide +kernel
theorem dX4_read_47 : decode cX4_read 47 = .ok (.istore_n 2, 1) := by decide +kernel
theorem dX4_read_48 : decode cX4_read 48 = .ok (.iconst 0, 1) := by decide +kernel
theorem dX4_read_49 : decode cX4_read 49 = .ok (.istore_n 3, 1) := by decide +kernel
theorem dX4_read_50 : decode cX4_read 50 = .ok (.iconst 0, 1) := by decide +kernel
theorem dX4_read_51 : decode cX4_read 51 = .ok (.istore 4, 2) := by decide +kernel
theorem dX4_read_53 : decode cX4_read 53 = .ok (.iload 4, 2) := by decide +kernel
theorem dX4_read_55 : decode cX4_read 55 = .ok (.bipush 40, 2) := by decide +kernel
theorem dX4_read_57 : decode cX4_read 57 = .ok (.if_icmp .ge 54, 3) := by decide +kernel
theorem dX4_read_60 : decode cX4_read 60 = .ok (.iload_n 3, 1) := by decide +kernel
theorem dX4_read_61 : decode cX4_read 61 = .ok (.iload_n 2, 1) := by decide +kernel
theorem dX4_read_62 : decode cX4_read 62 = .ok (.if_icmp .ge 49, 3) := by decide +kernel
theorem dX4_read_65 : decode cX4_read 65 = .ok (.aload_n 0, 1) := by decide +kernel
theorem dX4_read_66 : decode cX4_read 66 = .ok (.getfield 47, 3) := by decide +kernel
theorem dX4_read_69 : decode cX4_read 69 = .ok (.ifCond .eq 13, 3) := by decide +kernel
theorem dX4_read_72 : decode cX4_read 72 = .ok (.aload_n 0, 1) := by decide +kernel
theorem dX4_read_73 : decode cX4_read 73 = .ok (.aload_n 1, 1) := by decide +kernel
theorem dX4_read_74 : decode cX4_read 74 = .ok (.iload_n 3, 1) := by decide +kernel
theorem dX4_read_75 : decode cX4_read 75 = .ok (.iload_n 2, 1) := by decide +kernel
theorem dX4_read_76 : decode cX4_read 76 = .ok (.invokevirtual 63, 3) := by decide +kernel
theorem dX4_read_79 : decode cX4_read 79 = .ok (.goto 12, 3) := by decide +kernel
theorem dX4_read_82 : decode cX4_read 82 = .ok (.aload_n 0, 1) := by decide +kernel
theorem dX4_read_83 : decode cX4_read 83 = .ok (.aload_n 1, 1) := by decide +kernel
theorem dX4_read_84 : decode cX4_read 84 = .ok (.iload_n 3, 1) := by decide +kernel
theorem dX4_read_85 : decode cX4_read 85 = .ok (.invokevirtual 67, 3) := by decide +kernel
theorem dX4_read_88 : decode cX4_read 88 = .ok (.invokevirtual 71, 3) := by decide +kernel
theorem dX4_read_91 : decode cX4_read 91 = .ok (.istore 5, 2) := by decide +kernel
theorem dX4_read_93 : decode cX4_read 93 = .ok (.iload 5, 2) := by decide +kernel
theorem dX4_read_95 : decode cX4_read 95 = .ok (.ifCond .ne 5, 3) := by decide +kernel
theorem dX4_read_98 : decode cX4_read 98 = .ok (.iload_n 3, 1) := by decide +kernel
theorem dX4_read_99 : decode cX4_read 99 = .ok (.ireturn, 1) := by decide +kernel
theorem dX4_read_100 : decode cX4_read 100 = .ok (.iload_n 3, 1) := by decide +kernel
theorem dX4_read_101 : decode cX4_read 101 = .ok (.iload 5, 2) := by decide +kernel
theorem dX4_read_103 : decode cX4_read 103 = .ok (.iadd, 1) := by decide +kernel
theorem dX4_read_104 : decode cX4_read 104 = .ok (.istore_n 3, 1) := by decide +kernel
theorem dX4_read_105 : decode cX4_read 105 = .ok (.iinc 4 1, 3) := by decide +kernel
theorem dX4_read_108 : decode cX4_read 108 = .ok (.goto (-55), 3) := by decide +kernel
theorem dX4_read_111 : decode cX4_read 111 = .ok (.aload_n 1, 1) := by decide +kernel
theorem dX4_read_112 : decode cX4_read 112 = .ok (.invokevirtual 51, 3) := by decide +kernel
theorem dX4_read_115 : decode cX4_read 115 = .ok (.bipush 40, 2) := by decide +kernel
theorem dX4_read_117 : decode cX4_read 117 = .ok (.if_icmp .gt 17, 3) := by decide +kernel
theorem dX4_read_120 : decode cX4_read 120 = .ok (.aload_n 0, 1) := by decide +kernel
theorem dX4_read_121 : decode cX4_read 121 = .ok (.getfield 47, 3) := by decide +kernel
theorem dX4_read_124 : decode cX4_read 124 = .ok (.ifCond .ne 10, 3) := by decide +kernel
theorem dX4_read_127 : decode cX4_read 127 = .ok (.aload_n 0, 1) := by decide +kernel
theorem dX4_read_128 : decode cX4_read 128 = .ok (.getfield 41, 3) := by decide +kernel
theorem dX4_read_131 : decode cX4_read 131 = .ok (.ifCond .le 5, 3) := by decide +kernel
theorem dX4_read_134 : decode cX4_read 134 = .ok (.iload_n 2, 1) := by decide +kernel
theorem dX4_read_135 : decode cX4_read 135 = .ok (.ireturn, 1) := by decide +kernel
theorem dX4_read_136 : decode cX4_read 136 = .ok (.aload_n 0, 1) := by decide +kernel
theorem dX4_read_137 : decode cX4_read 137 = .ok (.bipush (-11), 2) := by decide +kernel
theorem dX4_read_139 : decode cX4_read 139 = .ok (.invokestatic 74, 3) := by decide +kernel
theorem dX4_read_142 : decode cX4_read 142 = .ok (.invokevirtual 77, 3) := by decide +kernel
theorem dX4_read_145 : decode cX4_read 145 = .ok (.iconst (-1), 1) := by decide +kernel
theorem dX4_read_146 : decode cX4_read 146 = .ok (.ireturn, 1) := by decide +kernel
theorem dX4_readThing_0 : decode cX4_readThing 0 = .ok (.aload_n 1, 1) := by decide +kernel
theorem dX4_readThing_1 : decode cX4_readThing 1 = .ok (.iload_n 2, 1) := by decide +kernel
theorem dX4_readThing_2 : decode cX4_readThing 2 = .ok (.iconst 3, 1) := by decide +kernel
theorem dX4_readThing_3 : decode cX4_readThing 3 = .ok (.iload_n 3, 1) := by decide +kernel
theorem dX4_readThing_4 : decode cX4_readThing 4 = .ok (.invokevirtual 80, 3) := by decide +kernel
theorem dX4_readThing_7 : decode cX4_readThing 7 = .ok (.istore 4, 2) := by decide +kernel
theorem dX4_readThing_9 : decode cX4_readThing 9 = .ok (.iload 4, 2) := by decide +kernel
theorem dX4_readThing_11 : decode cX4_readThing 11 = .ok (.ifCond .le 22, 3) := by decide +kernel
theorem dX4_readThing_14 : decode cX4_readThing 14 = .ok (.aload_n 0, 1) := by decide +kernel
theorem dX4_readThing_15 : decode cX4_readThing 15 = .ok (.aload_n 1, 1) := by decide +kernel
theorem dX4_readThing_16 : decode cX4_readThing 16 = .ok (.iload_n 2, 1) := by decide +kernel
theorem dX4_readThing_17 : decode cX4_readThing 17 = .ok (.iload 4, 2) := by decide +kernel
theorem dX4_readThing_19 : decode cX4_readThing 19 = .ok (.invokevirtual 84, 3) := by decide +kernel
theorem dX4_readThing_22 : decode cX4_readThing 22 = .ok (.invokevirtual 34, 3) := by decide +kernel
theorem dX4_readThing_25 : decode cX4_readThing 25 = .ok (.aload_n 0, 1) := by decide +kernel
theorem dX4_readThing_26 : decode cX4_readThing 26 = .ok (.iconst 0, 1) := by decide +kernel
theorem dX4_readThing_27 : decode cX4_readThing 27 = .ok (.putfield 47, 3) := by decide +kernel
theorem dX4_readThing_30 : decode cX4_readThing 30 = .ok (.iload 4, 2) := by decide +kernel
theorem dX4_readThing_32 : decode cX4_readThing 32 = .ok (.ireturn, 1) := by decide +kernel
theorem dX4_readThing_33 : decode cX4_readThing 33 = .ok (.aload_n 1, 1) := by decide +kernel
theorem dX4_readThing_34 : decode cX4_readThing 34 = .ok (.iload_n 2, 1) := by decide +kernel
theorem dX4_readThing_35 : decode cX4_readThing 35 = .ok (.invokevirtual 67, 3) := by decide +kernel
theorem dX4_readThing_38 : decode cX4_readThing 38 = .ok (.istore 5, 2) := by decide +kernel
theorem dX4_readThing_40 : decode cX4_readThing 40 = .ok (.iload 5, 2) := by decide +kernel
theorem dX4_readThing_42 : decode cX4_readThing 42 = .ok (.bipush 45, 2) := by decide +kernel
theorem dX4_readThing_44 : decode cX4_readThing 44 = .ok (.if_icmp .ne 11, 3) := by decide +kernel
theorem dX4_readThing_47 : decode cX4_readThing 47 = .ok (.aload_n 0, 1) := by decide +kernel
theorem dX4_readThing_48 : decode cX4_readThing 48 = .ok (.bipush (-6), 2) := by decide +kernel
theorem dX4_readThing_50 : decode cX4_readThing 50 = .ok (.invokevirtual 87, 3) := by decide +kernel
theorem dX4_readThing_53 : decode cX4_readThing 53 = .ok (.iconst 1, 1) := by decide +kernel
theorem dX4_readThing_54 : decode cX4_readThing 54 = .ok (.ireturn, 1) := by decide +kernel
theorem dX4_readThing_55 : decode cX4_readThing 55 = .ok (.iload 5, 2) := by decide +kernel
theorem dX4_readThing_57 : decode cX4_readThing 57 = .ok (.bipush 40, 2) := by decide +kernel
theorem dX4_readThing_59 : decode cX4_readThing 59 = .ok (.if_icmp .ne 46, 3) := by decide +kernel
theorem dX4_readThing_62 : decode cX4_readThing 62 = .ok (.aload_n 0, 1) := by decide +kernel
theorem dX4_readThing_63 : decode cX4_readThing 63 = .ok (.getfield 41, 3) := by decide +kernel
theorem dX4_readThing_66 : decode cX4_readThing 66 = .ok (.iconst 4, 1) := by decide +kernel
theorem dX4_readThing_67 : decode cX4_readThing 67 = .ok (.if_icmp .ge 38, 3) := by decide +kernel
theorem dX4_readThing_70 : decode cX4_readThing 70 = .ok (.aload_n 0, 1) := by decide +kernel
theorem dX4_readThing_71 : decode cX4_readThing 71 = .ok (.bipush (-14), 2) := by decide +kernel
theorem dX4_readThing_73 : decode cX4_readThing 73 = .ok (.invokevirtual 87, 3) := by decide +kernel
theorem dX4_readThing_76 : decode cX4_readThing 76 = .ok (.aload_n 0, 1) := by decide +kernel
theorem dX4_readThing_77 : decode cX4_readThing 77 = .ok (.dup, 1) := by decide +kernel
theorem dX4_readThing_78 : decode cX4_readThing 78 = .ok (.getfield 41, 3) := by decide +kernel
theorem dX4_readThing_81 : decode cX4_readThing 81 = .ok (.iconst 1, 1) := by decide +kernel
theorem dX4_readThing_82 : decode cX4_readThing 82 = .ok (.iadd, 1) := by decide +kernel
theorem dX4_readThing_83 : decode cX4_readThing 83 = .ok (.putfield 41, 3) := by decide +kernel
theorem dX4_readThing_86 : decode cX4_readThing 86 = .ok (.aload_n 0, 1) := by decide +kernel
theorem dX4_readThing_87 : decode cX4_readThing 87 = .ok (.dup, 1) := by decide +kernel
theorem dX4_readThing_88 : decode cX4_readThing 88 = .ok (.getfield 44, 3) := by decide +kernel
theorem dX4_readThing_91 : decode cX4_readThing 91 = .ok (.iconst 1, 1) := by decide +kernel
theorem dX4_readThing_92 : decode cX4_readThing 92 = .ok (.aload_n 0, 1) := by decide +kernel
theorem dX4_readThing_93 : decode cX4_readThing 93 = .ok (.getfield 41, 3) := by decide +kernel
theorem dX4_readThing_96 : decode cX4_readThing 96 = .ok (.ishl, 1) := by decide +kernel
theorem dX4_readThing_97 : decode cX4_readThing 97 = .ok (.iconst (-1), 1) := by decide +kernel
theorem dX4_readThing_98 : decode cX4_readThing 98 = .ok (.ixor, 1) := by decide +kernel
theorem dX4_readThing_99 : decode cX4_readThing 99 = .ok (.iand, 1) := by decide +kernel
theorem dX4_readThing_100 : decode cX4_readThing 100 = .ok (.putfield 44, 3) := by decide +kernel
theorem dX4_readThing_103 : decode cX4_readThing 103 = .ok (.iconst 1, 1) := by decide +kernel
theorem dX4_readThing_104 : decode cX4_readThing 104 = .ok (.ireturn, 1) := by decide +kernel
theorem dX4_readThing_105 : decode cX4_readThing 105 = .ok (.iload 5, 2) := by decide +kernel
theorem dX4_readThing_107 : decode cX4_readThing 107 = .ok (.invokestatic 90, 3) := by decide +kernel
theorem dX4_readThing_110 : decode cX4_readThing 110 = .ok (.istore 6, 2) := by decide +kernel
theorem dX4_readThing_112 : decode cX4_readThing 112 = .ok (.iload 6, 2) := by decide +kernel
theorem dX4_readThing_114 : decode cX4_readThing 114 = .ok (.bipush (-15), 2) := by decide +kernel
theorem dX4_readThing_116 : decode cX4_readThing 116 = .ok (.if_icmp .ne 5, 3) := by decide +kernel
theorem dX4_readThing_119 : decode cX4_readThing 119 = .ok (.iconst 0, 1) := by decide +kernel
theorem dX4_readThing_120 : decode cX4_readThing 120 = .ok (.ireturn, 1) := by decide +kernel
theorem dX4_readThing_121 : decode cX4_readThing 121 = .ok (.aload_n 0, 1) := by decide +kernel
theorem dX4_readThing_122 : decode cX4_readThing 122 = .ok (.iload 6, 2) := by decide +kernel
theorem dX4_readThing_124 : decode cX4_readThing 124 = .ok (.invokevirtual 34, 3) := by decide +kernel
theorem dX4_readThing_127 : decode cX4_readThing 127 = .ok (.aload_n 0, 1) := by decide +kernel
theorem dX4_readThing_128 : decode cX4_readThing 128 = .ok (.iconst 0, 1) := by decide +kernel
theorem dX4_readThing_129 : decode cX4_readThing 129 = .ok (.putfield 47, 3) := by decide +kernel
theorem dX4_readThing_132 : decode cX4_readThing 132 = .ok (.iconst 1, 1) := by decide +kernel
theorem dX4_readThing_133 : decode cX4_readThing 133 = .ok (.ireturn, 1) := by decide +kernel
theorem dX4_readAct_0 : decode cX4_readAct 0 = .ok (.iload_n 1, 1) := by decide +kernel
theorem dX4_readAct_1 : decode cX4_readAct 1 = .ok (.bipush 41, 2) := by decide +kernel
theorem dX4_readAct_3 : decode cX4_readAct 3 = .ok (.if_icmp .ne 45, 3) := by decide +kernel
theorem dX4_readAct_6 : decode cX4_readAct 6 = .ok (.aload_n 0, 1) := by decide +kernel
theorem dX4_readAct_7 : decode cX4_readAct 7 = .ok (.getfield 41, 3) := by decide +kernel
theorem dX4_readAct_10 : decode cX4_readAct 10 = .ok (.ifCond .le 38, 3) := by decide +kernel
theorem dX4_readAct_13 : decode cX4_readAct 13 = .ok (.aload_n 0, 1) := by decide +kernel
theorem dX4_readAct_14 : decode cX4_readAct 14 = .ok (.bipush (-11), 2) := by decide +kernel
theorem dX4_readAct_16 : decode cX4_readAct 16 = .ok (.invokestatic 74, 3) := by decide +kernel
theorem dX4_readAct_19 : decode cX4_readAct 19 = .ok (.invokevirtual 77, 3) := by decide +kernel
theorem dX4_readAct_22 : decode cX4_readAct 22 = .ok (.aload_n 0, 1) := by decide +kernel
theorem dX4_readAct_23 : decode cX4_readAct 23 = .ok (.iconst 0, 1) := by decide +kernel
theorem dX4_readAct_24 : decode cX4_readAct 24 = .ok (.aload_n 0, 1) := by decide +kernel
theorem dX4_readAct_25 : decode cX4_readAct 25 = .ok (.getfield 38, 3) := by decide +kernel
theorem dX4_readAct_28 : decode cX4_readAct 28 = .ok (.iconst 1, 1) := by decide +kernel
theorem dX4_readAct_29 : decode cX4_readAct 29 = .ok (.isub, 1) := by decide +kernel
theorem dX4_readAct_30 : decode cX4_readAct 30 = .ok (.invokestatic 93, 3) := by decide +kernel
theorem dX4_readAct_33 : decode cX4_readAct 33 = .ok (.putfield 38, 3) := by decide +kernel
theorem dX4_readAct_36 : decode cX4_readAct 36 = .ok (.aload_n 0, 1) := by decide +kernel
theorem dX4_readAct_37 : decode cX4_readAct 37 = .ok (.dup, 1) := by decide +kernel
theorem dX4_readAct_38 : decode cX4_readAct 38 = .ok (.getfield 41, 3) := by decide +kernel
theorem dX4_readAct_41 : decode cX4_readAct 41 = .ok (.iconst 1, 1) := by decide +kernel
theorem dX4_readAct_42 : decode cX4_readAct 42 = .ok (.isub, 1) := by decide +kernel
theorem dX4_readAct_43 : decode cX4_readAct 43 = .ok (.putfield 41, 3) := by decide +kernel
theorem dX4_readAct_46 : decode cX4_readAct 46 = .ok (.iconst 1, 1) := by decide +kernel
theorem dX4_readAct_47 : decode cX4_readAct 47 = .ok (.ireturn, 1) := by decide +kernel
theorem dX4_readAct_48 : decode cX4_readAct 48 = .ok (.iload_n 1, 1) := by decide +kernel
theorem dX4_readAct_49 : decode cX4_readAct 49 = .ok (.invokestatic 96, 3) := by decide +kernel
theorem dX4_readAct_52 : decode cX4_readAct 52 = .ok (.istore_n 2, 1) := by decide +kernel
theorem dX4_readAct_53 : decode cX4_readAct 53 = .ok (.iload_n 2, 1) := by decide +kernel
theorem dX4_readAct_54 : decode cX4_readAct 54 = .ok (.bipush (-15), 2) := by decide +kernel
theorem dX4_readAct_56 : decode cX4_readAct 56 = .ok (.if_icmp .ne 5, 3) := by decide +kernel
theorem dX4_readAct_59 : decode cX4_readAct 59 = .ok (.iconst 0, 1) := by decide +kernel
theorem dX4_readAct_60 : decode cX4_readAct 60 = .ok (.ireturn, 1) := by decide +kernel
theorem dX4_readAct_61 : decode cX4_readAct 61 = .ok (.iload_n 2, 1) := by decide +kernel
theorem dX4_readAct_62 : decode cX4_readAct 62 = .ok (.invokestatic 74, 3) := by decide +kernel
theorem dX4_readAct_65 : decode cX4_readAct 65 = .ok (.bipush (-11), 2) := by decide +kernel
theorem dX4_readAct_67 : decode cX4_readAct 67 = .ok (.invokestatic 74, 3) := by decide +kernel
theorem dX4_readAct_70 : decode cX4_readAct 70 = .ok (.if_icmp .ne 34, 3) := by decide +kernel
theorem dX4_readAct_73 : decode cX4_readAct 73 = .ok (.aload_n 0, 1) := by decide +kernel
theorem dX4_readAct_74 : decode cX4_readAct 74 = .ok (.getfield 44, 3) := by decide +kernel
theorem dX4_readAct_77 : decode cX4_readAct 77 = .ok (.aload_n 0, 1) := by decide +kernel
theorem dX4_readAct_78 : decode cX4_readAct 78 = .ok (.getfield 41, 3) := by decide +kernel
theorem dX4_readAct_81 : decode cX4_readAct 81 = .ok (.ishr, 1) := by decide +kernel
theorem dX4_readAct_82 : decode cX4_readAct 82 = .ok (.iconst 1, 1) := by decide +kernel
theorem dX4_readAct_83 : decode cX4_readAct 83 = .ok (.iand, 1) := by decide +kernel
theorem dX4_readAct_84 : decode cX4_readAct 84 = .ok (.ifCond .eq 5, 3) := by decide +kernel
theorem dX4_readAct_87 : decode cX4_readAct 87 = .ok (.iconst 0, 1) := by decide +kernel
theorem dX4_readAct_88 : decode cX4_readAct 88 = .ok (.ireturn, 1) := by decide +kernel
theorem dX4_readAct_89 : decode cX4_readAct 89 = .ok (.aload_n 0, 1) := by decide +kernel
theorem dX4_readAct_90 : decode cX4_readAct 90 = .ok (.dup, 1) := by decide +kernel
theorem dX4_readAct_91 : decode cX4_readAct 91 = .ok (.getfield 44, 3) := by decide +kernel
theorem dX4_readAct_94 : decode cX4_readAct 94 = .ok (.iconst 1, 1) := by decide +kernel
theorem dX4_readAct_95 : decode cX4_readAct 95 = .ok (.aload_n 0, 1) := by decide +kernel
theorem dX4_readAct_96 : decode cX4_readAct 96 = .ok (.getfield 41, 3) := by decide +kernel
theorem dX4_readAct_99 : decode cX4_readAct 99 = .ok (.ishl, 1) := by decide +kernel
theorem dX4_readAct_100 : decode cX4_readAct 100 = .ok (.ior, 1) := by decide +kernel
theorem dX4_readAct_101 : decode cX4_readAct 101 = .ok (.putfield 44, 3) := by decide +kernel
theorem dX4_readAct_104 : decode cX4_readAct 104 = .ok (.aload_n 0, 1) := by decide +kernel
theorem dX4_readAct_105 : decode cX4_readAct 105 = .ok (.iload_n 2, 1) := by decide +kernel
theorem dX4_readAct_106 : decode cX4_readAct 106 = .ok (.invokestatic 74, 3) := by decide +kernel
theorem dX4_readAct_109 : decode cX4_readAct 109 = .ok (.invokevirtual 77, 3) := by decide +kernel
theorem dX4_readAct_112 : decode cX4_readAct 112 = .ok (.aload_n 0, 1) := by decide +kernel
theorem dX4_readAct_113 : decode cX4_readAct 113 = .ok (.iload_n 2, 1) := by decide +kernel
theorem dX4_readAct_114 : decode cX4_readAct 114 = .ok (.invokevirtual 87, 3) := by decide +kernel
theorem dX4_readAct_117 : decode cX4_readAct 117 = .ok (.aload_n 0, 1) := by decide +kernel
theorem dX4_readAct_118 : decode cX4_readAct 118 = .ok (.iconst 1, 1) := by decide +kernel
theorem dX4_readAct_119 : decode cX4_readAct 119 = .ok (.putfield 47, 3) := by decide +kernel
theorem dX4_readAct_122 : decode cX4_readAct 122 = .ok (.iconst 1, 1) := by decide +kernel
theorem dX4_readAct_123 : decode cX4_readAct 123 = .ok (.ireturn, 1) := by decide +kernel
theorem dX4_addStep_0 : decode cX4_addStep 0 = .ok (.aload_n 0, 1) := by decide +kernel
theorem dX4_addStep_1 : decode cX4_addStep 1 = .ok (.getfield 27, 3) := by decide +kernel
theorem dX4_addStep_4 : decode cX4_addStep 4 = .ok (.ifCond .lt 32, 3) := by decide +kernel
theorem dX4_addStep_7 : decode cX4_addStep 7 = .ok (.aload_n 0, 1) := by decide +kernel
theorem dX4_addStep_8 : decode cX4_addStep 8 = .ok (.getfield 27, 3) := by decide +kernel
theorem dX4_addStep_11 : decode cX4_addStep 11 = .ok (.bipush 40, 2) := by decide +kernel
theorem dX4_addStep_13 : decode cX4_addStep 13 = .ok (.if_icmp .ge 23, 3) := by decide +kernel
theorem dX4_addStep_16 : decode cX4_addStep 16 = .ok (.aload_n 0, 1) := by decide +kernel
theorem dX4_addStep_17 : decode cX4_addStep 17 = .ok (.getfield 9, 3) := by decide +kernel
theorem dX4_addStep_20 : decode cX4_addStep 20 = .ok (.aload_n 0, 1) := by decide +kernel
theorem dX4_addStep_21 : decode cX4_addStep 21 = .ok (.getfield 27, 3) := by decide +kernel
theorem dX4_addStep_24 : decode cX4_addStep 24 = .ok (.iload_n 1, 1) := by decide +kernel
theorem dX4_addStep_25 : decode cX4_addStep 25 = .ok (.iastore, 1) := by decide +kernel
theorem dX4_addStep_26 : decode cX4_addStep 26 = .ok (.aload_n 0, 1) := by decide +kernel
theorem dX4_addStep_27 : decode cX4_addStep 27 = .ok (.dup, 1) := by decide +kernel
theorem dX4_addStep_28 : decode cX4_addStep 28 = .ok (.getfield 27, 3) := by decide +kernel
theorem dX4_addStep_31 : decode cX4_addStep 31 = .ok (.iconst 1, 1) := by decide +kernel
theorem dX4_addStep_32 : decode cX4_addStep 32 = .ok (.iadd, 1) := by decide +kernel
theorem dX4_addStep_33 : decode cX4_addStep 33 = .ok (.putfield 27, 3) := by decide +kernel
theorem dX4_addStep_36 : decode cX4_addStep 36 = .ok (.return_, 1) := by decide +kernel
theorem dX4_addWaiting_0 : decode cX4_addWaiting 0 = .ok (.aload_n 0, 1) := by decide +kernel
theorem dX4_addWaiting_1 : decode cX4_addWaiting 1 = .ok (.getfield 38, 3) := by decide +kernel
theorem dX4_addWaiting_4 : decode cX4_addWaiting 4 = .ok (.ifCond .lt 32, 3) := by decide +kernel
theorem dX4_addWaiting_7 : decode cX4_addWaiting 7 = .ok (.aload_n 0, 1) := by decide +kernel
theorem dX4_addWaiting_8 : decode cX4_addWaiting 8 = .ok (.getfield 38, 3) := by decide +kernel
theorem dX4_addWaiting_11 : decode cX4_addWaiting 11 = .ok (.bipush 40, 2) := by decide +kernel
theorem dX4_addWaiting_13 : decode cX4_addWaiting 13 = .ok (.if_icmp .ge 23, 3) := by decide +kernel
theorem dX4_addWaiting_16 : decode cX4_addWaiting 16 = .ok (.aload_n 0, 1) := by decide +kernel
theorem dX4_addWaiting_17 : decode cX4_addWaiting 17 = .ok (.getfield 15, 3) := by decide +kernel
theorem dX4_addWaiting_20 : decode cX4_addWaiting 20 = .ok (.aload_n 0, 1) := by decide +kernel
theorem dX4_addWaiting_21 : decode cX4_addWaiting 21 = .ok (.getfield 38, 3) := by decide +kernel
theorem dX4_addWaiting_24 : decode cX4_addWaiting 24 = .ok (.iload_n 1, 1) := by decide +kernel
theorem dX4_addWaiting_25 : decode cX4_addWaiting 25 = .ok (.iastore, 1) := by decide +kernel
theorem dX4_addWaiting_26 : decode cX4_addWaiting 26 = .ok (.aload_n 0, 1) := by decide +kernel
theorem dX4_addWaiting_27 : decode cX4_addWaiting 27 = .ok (.dup, 1) := by decide +kernel
theorem dX4_addWaiting_28 : decode cX4_addWaiting 28 = .ok (.getfield 38, 3) := by decide +kernel
theorem dX4_addWaiting_31 : decode cX4_addWaiting 31 = .ok (.iconst 1, 1) := by decide +kernel
theorem dX4_addWaiting_32 : decode cX4_addWaiting 32 = .ok (.iadd, 1) := by decide +kernel
theorem dX4_addWaiting_33 : decode cX4_addWaiting 33 = .ok (.putfield 38, 3) := by decide +kernel
theorem dX4_addWaiting_36 : decode cX4_addWaiting 36 = .ok (.return_, 1) := by decide +kernel
theorem dX4_placeWaiting_0 : decode cX4_placeWaiting 0 = .ok (.aload_n 0, 1) := by decide +kernel
theorem dX4_placeWaiting_1 : decode cX4_placeWaiting 1 = .ok (.getfield 38, 3) := by decide +kernel
theorem dX4_placeWaiting_4 : decode cX4_placeWaiting 4 = .ok (.ifCond .le 56, 3) := by decide +kernel
theorem dX4_placeWaiting_7 : decode cX4_placeWaiting 7 = .ok (.aload_n 0, 1) := by decide +kernel
theorem dX4_placeWaiting_8 : decode cX4_placeWaiting 8 = .ok (.getfield 38, 3) := by decide +kernel
theorem dX4_placeWaiting_11 : decode cX4_placeWaiting 11 = .ok (.bipush 40, 2) := by decide +kernel
theorem dX4_placeWaiting_13 : decode cX4_placeWaiting 13 = .ok (.if_icmp .gt 47, 3) := by decide +kernel
theorem dX4_placeWaiting_16 : decode cX4_placeWaiting 16 = .ok (.aload_n 0, 1) := by decide +kernel
theorem dX4_placeWaiting_17 : decode cX4_placeWaiting 17 = .ok (.getfield 15, 3) := by decide +kernel
theorem dX4_placeWaiting_20 : decode cX4_placeWaiting 20 = .ok (.aload_n 0, 1) := by decide +kernel
theorem dX4_placeWaiting_21 : decode cX4_placeWaiting 21 = .ok (.getfield 38, 3) := by decide +kernel
theorem dX4_placeWaiting_24 : decode cX4_placeWaiting 24 = .ok (.iconst 1, 1) := by decide +kernel
theorem dX4_placeWaiting_25 : decode cX4_placeWaiting 25 = .ok (.isub, 1) := by decide +kernel
theorem dX4_placeWaiting_26 : decode cX4_placeWaiting 26 = .ok (.iaload, 1) := by decide +kernel
theorem dX4_placeWaiting_27 : decode cX4_placeWaiting 27 = .ok (.invokestatic 74, 3) := by decide +kernel
theorem dX4_placeWaiting_30 : decode cX4_placeWaiting 30 = .ok (.iload_n 1, 1) := by decide +kernel
theorem dX4_placeWaiting_31 : decode cX4_placeWaiting 31 = .ok (.if_icmp .lt 29, 3) := by decide +kernel
theorem dX4_placeWaiting_34 : decode cX4_placeWaiting 34 = .ok (.aload_n 0, 1) := by decide +kernel
theorem dX4_placeWaiting_35 : decode cX4_placeWaiting 35 = .ok (.dup, 1) := by decide +kernel
theorem dX4_placeWaiting_36 : decode cX4_placeWaiting 36 = .ok (.getfield 38, 3) := by decide +kernel
theorem dX4_placeWaiting_39 : decode cX4_placeWaiting 39 = .ok (.iconst 1, 1) := by decide +kernel
theorem dX4_placeWaiting_40 : decode cX4_placeWaiting 40 = .ok (.isub, 1) := by decide +kernel
theorem dX4_placeWaiting_41 : decode cX4_placeWaiting 41 = .ok (.putfield 38, 3) := by decide +kernel
theorem dX4_placeWaiting_44 : decode cX4_placeWaiting 44 = .ok (.aload_n 0, 1) := by decide +kernel
theorem dX4_placeWaiting_45 : decode cX4_placeWaiting 45 = .ok (.aload_n 0, 1) := by decide +kernel
theorem dX4_placeWaiting_46 : decode cX4_placeWaiting 46 = .ok (.getfield 15, 3) := by decide +kernel
theorem dX4_placeWaiting_49 : decode cX4_placeWaiting 49 = .ok (.aload_n 0, 1) := by decide +kernel
theorem dX4_placeWaiting_50 : decode cX4_placeWaiting 50 = .ok (.getfield 38, 3) := by decide +kernel
theorem dX4_placeWaiting_53 : decode cX4_placeWaiting 53 = .ok (.iaload, 1) := by decide +kernel
theorem dX4_placeWaiting_54 : decode cX4_placeWaiting 54 = .ok (.invokevirtual 34, 3) := by decide +kernel
theorem dX4_placeWaiting_57 : decode cX4_placeWaiting 57 = .ok (.goto (-57), 3) := by decide +kernel
theorem dX4_placeWaiting_60 : decode cX4_placeWaiting 60 = .ok (.return_, 1) := by decide +kernel
theorem dX4_thingOf_0 : decode cX4_thingOf 0 = .ok (.iload_n 0, 1) := by decide +kernel
theorem dX4_thingOf_1 : decode cX4_thingOf 1 = .ok (.lookupswitch 65 #[(103, 53), (104, 51), (108, 56), (110, 62), (119, 59)], 51) := by decide +kernel
theorem dX4_thingOf_52 : decode cX4_thingOf 52 = .ok (.iconst (-1), 1) := by decide +kernel
theorem dX4_thingOf_53 : decode cX4_thingOf 53 = .ok (.ireturn, 1) := by decide +kernel
theorem dX4_thingOf_54 : decode cX4_thingOf 54 = .ok (.bipush (-2), 2) := by decide +kernel
theorem dX4_thingOf_56 : decode cX4_thingOf 56 = .ok (.ireturn, 1) := by decide +kernel
theorem dX4_thingOf_57 : decode cX4_thingOf 57 = .ok (.bipush (-3), 2) := by decide +kernel
theorem dX4_thingOf_59 : decode cX4_thingOf 59 = .ok (.ireturn, 1) := by decide +kernel
theorem dX4_thingOf_60 : decode cX4_thingOf 60 = .ok (.bipush (-4), 2) := by decide +kernel
theorem dX4_thingOf_62 : decode cX4_thingOf 62 = .ok (.ireturn, 1) := by decide +kernel
theorem dX4_thingOf_63 : decode cX4_thingOf 63 = .ok (.bipush (-5), 2) := by decide +kernel
theorem dX4_thingOf_65 : decode cX4_thingOf 65 = .ok (.ireturn, 1) := by decide +kernel
theorem dX4_thingOf_66 : decode cX4_thingOf 66 = .ok (.bipush (-15), 2) := by decide +kernel
theorem dX4_thingOf_68 : decode cX4_thingOf 68 = .ok (.ireturn, 1) := by decide +kernel
theorem dX4_actOf_0 : decode cX4_actOf 0 = .ok (.iload_n 0, 1) := by decide +kernel
theorem dX4_actOf_1 : decode cX4_actOf 1 = .ok (.tableswitch 120 42 62 #[99, 105, 120, 108, 120, 102, 120, 120, 120, 120, 120, 120, 120, 120, 120, 120, 120, 120, 111, 117, 114], 99) := by decide +kernel
theorem dX4_actOf_100 : decode cX4_actOf 100 = .ok (.bipush (-7), 2) := by decide +kernel
theorem dX4_actOf_102 : decode cX4_actOf 102 = .ok (.ireturn, 1) := by decide +kernel
theorem dX4_actOf_103 : decode cX4_actOf 103 = .ok (.bipush (-8), 2) := by decide +kernel
theorem dX4_actOf_105 : decode cX4_actOf 105 = .ok (.ireturn, 1) := by decide +kernel
theorem dX4_actOf_106 : decode cX4_actOf 106 = .ok (.bipush (-9), 2) := by decide +kernel
theorem dX4_actOf_108 : decode cX4_actOf 108 = .ok (.ireturn, 1) := by decide +kernel
theorem dX4_actOf_109 : decode cX4_actOf 109 = .ok (.bipush (-10), 2) := by decide +kernel
theorem dX4_actOf_111 : decode cX4_actOf 111 = .ok (.ireturn, 1) := by decide +kernel
theorem dX4_actOf_112 : decode cX4_actOf 112 = .ok (.bipush (-11), 2) := by decide +kernel
theorem dX4_actOf_114 : decode cX4_actOf 114 = .ok (.ireturn, 1) := by decide +kernel
theorem dX4_actOf_115 : decode cX4_actOf 115 = .ok (.bipush (-12), 2) := by decide +kernel
theorem dX4_actOf_117 : decode cX4_actOf 117 = .ok (.ireturn, 1) := by decide +kernel
theorem dX4_actOf_118 : decode cX4_actOf 118 = .ok (.bipush (-13), 2) := by decide +kernel
theorem dX4_actOf_120 : decode cX4_actOf 120 = .ok (.ireturn, 1) := by decide +kernel
theorem dX4_actOf_121 : decode cX4_actOf 121 = .ok (.bipush (-15), 2) := by decide +kernel
theorem dX4_actOf_123 : decode cX4_actOf 123 = .ok (.ireturn, 1) := by decide +kernel
theorem dX4_rank_0 : decode cX4_rank 0 = .ok (.iload_n 0, 1) := by decide +kernel
theorem dX4_rank_1 : decode cX4_rank 1 = .ok (.tableswitch 55 (-13) (-6) #[53, 53, 53, 51, 51, 49, 49, 47], 47) := by decide +kernel
theorem dX4_rank_48 : decode cX4_rank 48 = .ok (.iconst 4, 1) := by decide +kernel
theorem dX4_rank_49 : decode cX4_rank 49 = .ok (.ireturn, 1) := by decide +kernel
theorem dX4_rank_50 : decode cX4_rank 50 = .ok (.iconst 3, 1) := by decide +kernel
theorem dX4_rank_51 : decode cX4_rank 51 = .ok (.ireturn, 1) := by decide +kernel
theorem dX4_rank_52 : decode cX4_rank 52 = .ok (.iconst 2, 1) := by decide +kernel
theorem dX4_rank_53 : decode cX4_rank 53 = .ok (.ireturn, 1) := by decide +kernel
theorem dX4_rank_54 : decode cX4_rank 54 = .ok (.iconst 1, 1) := by decide +kernel
theorem dX4_rank_55 : decode cX4_rank 55 = .ok (.ireturn, 1) := by decide +kernel
theorem dX4_rank_56 : decode cX4_rank 56 = .ok (.iconst 0, 1) := by decide +kernel
theorem dX4_rank_57 : decode cX4_rank 57 = .ok (.ireturn, 1) := by decide +kernel
theorem dX4_risk_0 : decode cX4_risk 0 = .ok (.aload_n 0, 1) := by decide +kernel
theorem dX4_risk_1 : decode cX4_risk 1 = .ok (.getfield 21, 3) := by decide +kernel
theorem dX4_risk_4 : decode cX4_risk 4 = .ok (.iconst 0, 1) := by decide +kernel
theorem dX4_risk_5 : decode cX4_risk 5 = .ok (.iload_n 1, 1) := by decide +kernel
theorem dX4_risk_6 : decode cX4_risk 6 = .ok (.iastore, 1) := by decide +kernel
theorem dX4_risk_7 : decode cX4_risk 7 = .ok (.aload_n 0, 1) := by decide +kernel
theorem dX4_risk_8 : decode cX4_risk 8 = .ok (.getfield 21, 3) := by decide +kernel
theorem dX4_risk_11 : decode cX4_risk 11 = .ok (.iconst 1, 1) := by decide +kernel
theorem dX4_risk_12 : decode cX4_risk 12 = .ok (.iload_n 2, 1) := by decide +kernel
theorem dX4_risk_13 : decode cX4_risk 13 = .ok (.iastore, 1) := by decide +kernel
theorem dX4_risk_14 : decode cX4_risk 14 = .ok (.aload_n 0, 1) := by decide +kernel
theorem dX4_risk_15 : decode cX4_risk 15 = .ok (.getfield 21, 3) := by decide +kernel
theorem dX4_risk_18 : decode cX4_risk 18 = .ok (.iconst 2, 1) := by decide +kernel
theorem dX4_risk_19 : decode cX4_risk 19 = .ok (.iload_n 3, 1) := by decide +kernel
theorem dX4_risk_20 : decode cX4_risk 20 = .ok (.iastore, 1) := by decide +kernel
theorem dX4_risk_21 : decode cX4_risk 21 = .ok (.aload_n 0, 1) := by decide +kernel
theorem dX4_risk_22 : decode cX4_risk 22 = .ok (.getfield 21, 3) := by decide +kernel
theorem dX4_risk_25 : decode cX4_risk 25 = .ok (.iconst 3, 1) := by decide +kernel
theorem dX4_risk_26 : decode cX4_risk 26 = .ok (.iload 4, 2) := by decide +kernel
theorem dX4_risk_28 : decode cX4_risk 28 = .ok (.bipush 7, 2) := by decide +kernel
theorem dX4_risk_30 : decode cX4_risk 30 = .ok (.iand, 1) := by decide +kernel
theorem dX4_risk_31 : decode cX4_risk 31 = .ok (.iastore, 1) := by decide +kernel
theorem dX4_risk_32 : decode cX4_risk 32 = .ok (.aload_n 0, 1) := by decide +kernel
theorem dX4_risk_33 : decode cX4_risk 33 = .ok (.getfield 21, 3) := by decide +kernel
theorem dX4_risk_36 : decode cX4_risk 36 = .ok (.iconst 4, 1) := by decide +kernel
theorem dX4_risk_37 : decode cX4_risk 37 = .ok (.iload 5, 2) := by decide +kernel
theorem dX4_risk_39 : decode cX4_risk 39 = .ok (.iastore, 1) := by decide +kernel
theorem dX4_risk_40 : decode cX4_risk 40 = .ok (.iconst 0, 1) := by decide +kernel
theorem dX4_risk_41 : decode cX4_risk 41 = .ok (.istore 6, 2) := by decide +kernel
theorem dX4_risk_43 : decode cX4_risk 43 = .ok (.iconst 0, 1) := by decide +kernel
theorem dX4_risk_44 : decode cX4_risk 44 = .ok (.istore 7, 2) := by decide +kernel
theorem dX4_risk_46 : decode cX4_risk 46 = .ok (.iload 7, 2) := by decide +kernel
theorem dX4_risk_48 : decode cX4_risk 48 = .ok (.aload_n 0, 1) := by decide +kernel
theorem dX4_risk_49 : decode cX4_risk 49 = .ok (.getfield 27, 3) := by decide +kernel
theorem dX4_risk_52 : decode cX4_risk 52 = .ok (.if_icmp .ge 147, 3) := by decide +kernel
theorem dX4_risk_55 : decode cX4_risk 55 = .ok (.iload 7, 2) := by decide +kernel
theorem dX4_risk_57 : decode cX4_risk 57 = .ok (.bipush 40, 2) := by decide +kernel
theorem dX4_risk_59 : decode cX4_risk 59 = .ok (.if_icmp .ge 140, 3) := by decide +kernel
theorem dX4_risk_62 : decode cX4_risk 62 = .ok (.aload_n 0, 1) := by decide +kernel
theorem dX4_risk_63 : decode cX4_risk 63 = .ok (.getfield 9, 3) := by decide +kernel
theorem dX4_risk_66 : decode cX4_risk 66 = .ok (.iload 7, 2) := by decide +kernel
theorem dX4_risk_68 : decode cX4_risk 68 = .ok (.iaload, 1) := by decide +kernel
theorem dX4_risk_69 : decode cX4_risk 69 = .ok (.istore 8, 2) := by decide +kernel
theorem dX4_risk_71 : decode cX4_risk 71 = .ok (.iload 8, 2) := by decide +kernel
theorem dX4_risk_73 : decode cX4_risk 73 = .ok (.bipush (-5), 2) := by decide +kernel
theorem dX4_risk_75 : decode cX4_risk 75 = .ok (.if_icmp .lt 44, 3) := by decide +kernel
theorem dX4_risk_78 : decode cX4_risk 78 = .ok (.iload 6, 2) := by decide +kernel
theorem dX4_risk_80 : decode cX4_risk 80 = .ok (.bipush 40, 2) := by decide +kernel
theorem dX4_risk_82 : decode cX4_risk 82 = .ok (.if_icmp .lt 5, 3) := by decide +kernel
theorem dX4_risk_85 : decode cX4_risk 85 = .ok (.iconst 0, 1) := by decide +kernel
theorem dX4_risk_86 : decode cX4_risk 86 = .ok (.ireturn, 1) := by decide +kernel
theorem dX4_risk_87 : decode cX4_risk 87 = .ok (.aload_n 0, 1) := by decide +kernel
theorem dX4_risk_88 : decode cX4_risk 88 = .ok (.getfield 18, 3) := by decide +kernel
theorem dX4_risk_91 : decode cX4_risk 91 = .ok (.iload 6, 2) := by decide +kernel
theorem dX4_risk_93 : decode cX4_risk 93 = .ok (.iload 8, 2) := by decide +kernel
theorem dX4_risk_95 : decode cX4_risk 95 = .ok (.ifCond .lt 8, 3) := by decide +kernel
theorem dX4_risk_98 : decode cX4_risk 98 = .ok (.iload 8, 2) := by decide +kernel
theorem dX4_risk_100 : decode cX4_risk 100 = .ok (.goto 12, 3) := by decide +kernel
theorem dX4_risk_103 : decode cX4_risk 103 = .ok (.aload_n 0, 1) := by decide +kernel
theorem dX4_risk_104 : decode cX4_risk 104 = .ok (.getfield 21, 3) := by decide +kernel
theorem dX4_risk_107 : decode cX4_risk 107 = .ok (.iconst (-1), 1) := by decide +kernel
theorem dX4_risk_108 : decode cX4_risk 108 = .ok (.iload 8, 2) := by decide +kernel
theorem dX4_risk_110 : decode cX4_risk 110 = .ok (.isub, 1) := by decide +kernel
theorem dX4_risk_111 : decode cX4_risk 111 = .ok (.iaload, 1) := by decide +kernel
theorem dX4_risk_112 : decode cX4_risk 112 = .ok (.iastore, 1) := by decide +kernel
theorem dX4_risk_113 : decode cX4_risk 113 = .ok (.iinc 6 1, 3) := by decide +kernel
theorem dX4_risk_116 : decode cX4_risk 116 = .ok (.goto 77, 3) := by decide +kernel
theorem dX4_risk_119 : decode cX4_risk 119 = .ok (.iload 8, 2) := by decide +kernel
theorem dX4_risk_121 : decode cX4_risk 121 = .ok (.bipush (-6), 2) := by decide +kernel
theorem dX4_risk_123 : decode cX4_risk 123 = .ok (.if_icmp .ne 31, 3) := by decide +kernel
theorem dX4_risk_126 : decode cX4_risk 126 = .ok (.iload 6, 2) := by decide +kernel
theorem dX4_risk_128 : decode cX4_risk 128 = .ok (.iconst 1, 1) := by decide +kernel
theorem dX4_risk_129 : decode cX4_risk 129 = .ok (.if_icmp .lt 25, 3) := by decide +kernel
theorem dX4_risk_132 : decode cX4_risk 132 = .ok (.aload_n 0, 1) := by decide +kernel
theorem dX4_risk_133 : decode cX4_risk 133 = .ok (.getfield 18, 3) := by decide +kernel
theorem dX4_risk_136 : decode cX4_risk 136 = .ok (.iload 6, 2) := by decide +kernel
theorem dX4_risk_138 : decode cX4_risk 138 = .ok (.iconst 1, 1) := by decide +kernel
theorem dX4_risk_139 : decode cX4_risk 139 = .ok (.isub, 1) := by decide +kernel
theorem dX4_risk_140 : decode cX4_risk 140 = .ok (.aload_n 0, 1) := by decide +kernel
theorem dX4_risk_141 : decode cX4_risk 141 = .ok (.getfield 18, 3) := by decide +kernel
theorem dX4_risk_144 : decode cX4_risk 144 = .ok (.iload 6, 2) := by decide +kernel
theorem dX4_risk_146 : decode cX4_risk 146 = .ok (.iconst 1, 1) := by decide +kernel
theorem dX4_risk_147 : decode cX4_risk 147 = .ok (.isub, 1) := by decide +kernel
theorem dX4_risk_148 : decode cX4_risk 148 = .ok (.iaload, 1) := by decide +kernel
theorem dX4_risk_149 : decode cX4_risk 149 = .ok (.ineg, 1) := by decide +kernel
theorem dX4_risk_150 : decode cX4_risk 150 = .ok (.iastore, 1) := by decide +kernel
theorem dX4_risk_151 : decode cX4_risk 151 = .ok (.goto 42, 3) := by decide +kernel
theorem dX4_risk_154 : decode cX4_risk 154 = .ok (.iload 6, 2) := by decide +kernel
theorem dX4_risk_156 : decode cX4_risk 156 = .ok (.iconst 2, 1) := by decide +kernel
theorem dX4_risk_157 : decode cX4_risk 157 = .ok (.if_icmp .lt 36, 3) := by decide +kernel
theorem dX4_risk_160 : decode cX4_risk 160 = .ok (.iinc 6 (-1), 3) := by decide +kernel
theorem dX4_risk_163 : decode cX4_risk 163 = .ok (.aload_n 0, 1) := by decide +kernel
theorem dX4_risk_164 : decode cX4_risk 164 = .ok (.getfield 18, 3) := by decide +kernel
theorem dX4_risk_167 : decode cX4_risk 167 = .ok (.iload 6, 2) := by decide +kernel
theorem dX4_risk_169 : decode cX4_risk 169 = .ok (.iconst 1, 1) := by decide +kernel
theorem dX4_risk_170 : decode cX4_risk 170 = .ok (.isub, 1) := by decide +kernel
theorem dX4_risk_171 : decode cX4_risk 171 = .ok (.iload 8, 2) := by decide +kernel
theorem dX4_risk_173 : decode cX4_risk 173 = .ok (.aload_n 0, 1) := by decide +kernel
theorem dX4_risk_174 : decode cX4_risk 174 = .ok (.getfield 18, 3) := by decide +kernel
theorem dX4_risk_177 : decode cX4_risk 177 = .ok (.iload 6, 2) := by decide +kernel
theorem dX4_risk_179 : decode cX4_risk 179 = .ok (.iconst 1, 1) := by decide +kernel
theorem dX4_risk_180 : decode cX4_risk 180 = .ok (.isub, 1) := by decide +kernel
theorem dX4_risk_181 : decode cX4_risk 181 = .ok (.iaload, 1) := by decide +kernel
theorem dX4_risk_182 : decode cX4_risk 182 = .ok (.aload_n 0, 1) := by decide +kernel
theorem dX4_risk_183 : decode cX4_risk 183 = .ok (.getfield 18, 3) := by decide +kernel
theorem dX4_risk_186 : decode cX4_risk 186 = .ok (.iload 6, 2) := by decide +kernel
theorem dX4_risk_188 : decode cX4_risk 188 = .ok (.iaload, 1) := by decide +kernel
theorem dX4_risk_189 : decode cX4_risk 189 = .ok (.invokestatic 99, 3) := by decide +kernel
theorem dX4_risk_192 : decode cX4_risk 192 = .ok (.iastore, 1) := by decide +kernel
theorem dX4_risk_193 : decode cX4_risk 193 = .ok (.iinc 7 1, 3) := by decide +kernel
theorem dX4_risk_196 : decode cX4_risk 196 = .ok (.goto (-150), 3) := by decide +kernel
theorem dX4_risk_199 : decode cX4_risk 199 = .ok (.aload_n 0, 1) := by decide +kernel
theorem dX4_risk_200 : decode cX4_risk 200 = .ok (.getfield 18, 3) := by decide +kernel
theorem dX4_risk_203 : decode cX4_risk 203 = .ok (.iconst 0, 1) := by decide +kernel
theorem dX4_risk_204 : decode cX4_risk 204 = .ok (.iaload, 1) := by decide +kernel
theorem dX4_risk_205 : decode cX4_risk 205 = .ok (.sipush 999, 3) := by decide +kernel
theorem dX4_risk_208 : decode cX4_risk 208 = .ok (.invokestatic 102, 3) := by decide +kernel
theorem dX4_risk_211 : decode cX4_risk 211 = .ok (.ireturn, 1) := by decide +kernel
theorem dX4_apply_0 : decode cX4_apply 0 = .ok (.iload_n 0, 1) := by decide +kernel
theorem dX4_apply_1 : decode cX4_apply 1 = .ok (.tableswitch 85 (-12) (-7) #[74, 63, 59, 55, 43, 39], 39) := by decide +kernel
theorem dX4_apply_40 : decode cX4_apply 40 = .ok (.iload_n 1, 1) := by decide +kernel
theorem dX4_apply_41 : decode cX4_apply 41 = .ok (.iload_n 2, 1) := by decide +kernel
theorem dX4_apply_42 : decode cX4_apply 42 = .ok (.imul, 1) := by decide +kernel
theorem dX4_apply_43 : decode cX4_apply 43 = .ok (.ireturn, 1) := by decide +kernel
theorem dX4_apply_44 : decode cX4_apply 44 = .ok (.iload_n 2, 1) := by decide +kernel
theorem dX4_apply_45 : decode cX4_apply 45 = .ok (.ifCond .ne 7, 3) := by decide +kernel
theorem dX4_apply_48 : decode cX4_apply 48 = .ok (.iconst 0, 1) := by decide +kernel
theorem dX4_apply_49 : decode cX4_apply 49 = .ok (.goto 6, 3) := by decide +kernel
theorem dX4_apply_52 : decode cX4_apply 52 = .ok (.iload_n 1, 1) := by decide +kernel
theorem dX4_apply_53 : decode cX4_apply 53 = .ok (.iload_n 2, 1) := by decide +kernel
theorem dX4_apply_54 : decode cX4_apply 54 = .ok (.idiv, 1) := by decide +kernel
theorem dX4_apply_55 : decode cX4_apply 55 = .ok (.ireturn, 1) := by decide +kernel
theorem dX4_apply_56 : decode cX4_apply 56 = .ok (.iload_n 1, 1) := by decide +kernel
theorem dX4_apply_57 : decode cX4_apply 57 = .ok (.iload_n 2, 1) := by decide +kernel
theorem dX4_apply_58 : decode cX4_apply 58 = .ok (.iadd, 1) := by decide +kernel
theorem dX4_apply_59 : decode cX4_apply 59 = .ok (.ireturn, 1) := by decide +kernel
theorem dX4_apply_60 : decode cX4_apply 60 = .ok (.iload_n 1, 1) := by decide +kernel
theorem dX4_apply_61 : decode cX4_apply 61 = .ok (.iload_n 2, 1) := by decide +kernel
theorem dX4_apply_62 : decode cX4_apply 62 = .ok (.isub, 1) := by decide +kernel
theorem dX4_apply_63 : decode cX4_apply 63 = .ok (.ireturn, 1) := by decide +kernel
theorem dX4_apply_64 : decode cX4_apply 64 = .ok (.iload_n 1, 1) := by decide +kernel
theorem dX4_apply_65 : decode cX4_apply 65 = .ok (.iload_n 2, 1) := by decide +kernel
theorem dX4_apply_66 : decode cX4_apply 66 = .ok (.if_icmp .ge 7, 3) := by decide +kernel
theorem dX4_apply_69 : decode cX4_apply 69 = .ok (.iconst 1, 1) := by decide +kernel
theorem dX4_apply_70 : decode cX4_apply 70 = .ok (.goto 4, 3) := by decide +kernel
theorem dX4_apply_73 : decode cX4_apply 73 = .ok (.iconst 0, 1) := by decide +kernel
theorem dX4_apply_74 : decode cX4_apply 74 = .ok (.ireturn, 1) := by decide +kernel
theorem dX4_apply_75 : decode cX4_apply 75 = .ok (.iload_n 1, 1) := by decide +kernel
theorem dX4_apply_76 : decode cX4_apply 76 = .ok (.iload_n 2, 1) := by decide +kernel
theorem dX4_apply_77 : decode cX4_apply 77 = .ok (.if_icmp .le 7, 3) := by decide +kernel
theorem dX4_apply_80 : decode cX4_apply 80 = .ok (.iconst 1, 1) := by decide +kernel
theorem dX4_apply_81 : decode cX4_apply 81 = .ok (.goto 4, 3) := by decide +kernel
theorem dX4_apply_84 : decode cX4_apply 84 = .ok (.iconst 0, 1) := by decide +kernel
theorem dX4_apply_85 : decode cX4_apply 85 = .ok (.ireturn, 1) := by decide +kernel
theorem dX4_apply_86 : decode cX4_apply 86 = .ok (.iload_n 1, 1) := by decide +kernel
theorem dX4_apply_87 : decode cX4_apply 87 = .ok (.iload_n 2, 1) := by decide +kernel
theorem dX4_apply_88 : decode cX4_apply 88 = .ok (.if_icmp .ne 7, 3) := by decide +kernel
theorem dX4_apply_91 : decode cX4_apply 91 = .ok (.iconst 1, 1) := by decide +kernel
theorem dX4_apply_92 : decode cX4_apply 92 = .ok (.goto 4, 3) := by decide +kernel
theorem dX4_apply_95 : decode cX4_apply 95 = .ok (.iconst 0, 1) := by decide +kernel
theorem dX4_apply_96 : decode cX4_apply 96 = .ok (.ireturn, 1) := by decide +kernel
theorem dX5_init_0 : decode cX5_init 0 = .ok (.aload_n 0, 1) := by decide +kernel
theorem dX5_init_1 : decode cX5_init 1 = .ok (.invokespecial 1, 3) := by decide +kernel
theorem dX5_init_4 : decode cX5_init 4 = .ok (.aload_n 0, 1) := by decide +kernel
theorem dX5_init_5 : decode cX5_init 5 = .ok (.bipush 12, 2) := by decide +kernel
theorem dX5_init_7 : decode cX5_init 7 = .ok (.newarray .int, 2) := by decide +kernel
theorem dX5_init_9 : decode cX5_init 9 = .ok (.putfield 9, 3) := by decide +kernel
theorem dX5_init_12 : decode cX5_init 12 = .ok (.aload_n 0, 1) := by decide +kernel
theorem dX5_init_13 : decode cX5_init 13 = .ok (.bipush 12, 2) := by decide +kernel
theorem dX5_init_15 : decode cX5_init 15 = .ok (.newarray .int, 2) := by decide +kernel
theorem dX5_init_17 : decode cX5_init 17 = .ok (.putfield 13, 3) := by decide +kernel
theorem dX5_init_20 : decode cX5_init 20 = .ok (.return_, 1) := by decide +kernel
theorem dX5_size_0 : decode cX5_size 0 = .ok (.aload_n 0, 1) := by decide +kernel
theorem dX5_size_1 : decode cX5_size 1 = .ok (.getfield 16, 3) := by decide +kernel
theorem dX5_size_4 : decode cX5_size 4 = .ok (.ireturn, 1) := by decide +kernel
theorem dX5_clear_0 : decode cX5_clear 0 = .ok (.aload_n 0, 1) := by decide +kernel
theorem dX5_clear_1 : decode cX5_clear 1 = .ok (.iconst 0, 1) := by decide +kernel
theorem dX5_clear_2 : decode cX5_clear 2 = .ok (.putfield 16, 3) := by decide +kernel
theorem dX5_clear_5 : decode cX5_clear 5 = .ok (.return_, 1) := by decide +kernel
theorem dX5_hear_0 : decode cX5_hear 0 = .ok (.iload_n 1, 1) := by decide +kernel
theorem dX5_hear_1 : decode cX5_hear 1 = .ok (.ifCond .ne 12, 3) := by decide +kernel
theorem dX5_hear_4 : decode cX5_hear 4 = .ok (.iload_n 2, 1) := by decide +kernel
theorem dX5_hear_5 : decode cX5_hear 5 = .ok (.ifCond .lt 8, 3) := by decide +kernel
theorem dX5_hear_8 : decode cX5_hear 8 = .ok (.iload_n 2, 1) := by decide +kernel
theorem dX5_hear_9 : decode cX5_hear 9 = .ok (.iconst 4, 1) := by decide +kernel
theorem dX5_hear_10 : decode cX5_hear 10 = .ok (.if_icmp .le 33, 3) := by decide +kernel
theorem dX5_hear_13 : decode cX5_hear 13 = .ok (.iload_n 1, 1) := by decide +kernel
theorem dX5_hear_14 : decode cX5_hear 14 = .ok (.iconst 1, 1) := by decide +kernel
theorem dX5_hear_15 : decode cX5_hear 15 = .ok (.if_icmp .ne 14, 3) := by decide +kernel
theorem dX5_hear_18 : decode cX5_hear 18 = .ok (.iload_n 2, 1) := by decide +kernel
theorem dX5_hear_19 : decode cX5_hear 19 = .ok (.iconst 1, 1) := by decide +kernel
theorem dX5_hear_20 : decode cX5_hear 20 = .ok (.if_icmp .lt 9, 3) := by decide +kernel
theorem dX5_hear_23 : decode cX5_hear 23 = .ok (.iload_n 2, 1) := by decide +kernel
theorem dX5_hear_24 : decode cX5_hear 24 = .ok (.bipush 9, 2) := by decide +kernel
theorem dX5_hear_26 : decode cX5_hear 26 = .ok (.if_icmp .le 17, 3) := by decide +kernel
theorem dX5_hear_29 : decode cX5_hear 29 = .ok (.iload_n 1, 1) := by decide +kernel
theorem dX5_hear_30 : decode cX5_hear 30 = .ok (.iconst 2, 1) := by decide +kernel
theorem dX5_hear_31 : decode cX5_hear 31 = .ok (.if_icmp .ne 16, 3) := by decide +kernel
theorem dX5_hear_34 : decode cX5_hear 34 = .ok (.iload_n 2, 1) := by decide +kernel
theorem dX5_hear_35 : decode cX5_hear 35 = .ok (.ifCond .lt 12, 3) := by decide +kernel
theorem dX5_hear_38 : decode cX5_hear 38 = .ok (.iload_n 2, 1) := by decide +kernel
theorem dX5_hear_39 : decode cX5_hear 39 = .ok (.iconst 1, 1) := by decide +kernel
theorem dX5_hear_40 : decode cX5_hear 40 = .ok (.if_icmp .gt 7, 3) := by decide +kernel
theorem dX5_hear_43 : decode cX5_hear 43 = .ok (.iconst 1, 1) := by decide +kernel
theorem dX5_hear_44 : decode cX5_hear 44 = .ok (.goto 4, 3) := by decide +kernel
theorem dX5_hear_47 : decode cX5_hear 47 = .ok (.iconst 0, 1) := by decide +kernel
theorem dX5_hear_48 : decode cX5_hear 48 = .ok (.istore_n 3, 1) := by decide +kernel
theorem dX5_hear_49 : decode cX5_hear 49 = .ok (.iload_n 3, 1) := by decide +kernel
theorem dX5_hear_50 : decode cX5_hear 50 = .ok (.ifCond .eq 19, 3) := by decide +kernel
theorem dX5_hear_53 : decode cX5_hear 53 = .ok (.aload_n 0, 1) := by decide +kernel
theorem dX5_hear_54 : decode cX5_hear 54 = .ok (.getfield 16, 3) := by decide +kernel
theorem dX5_hear_57 : decode cX5_hear 57 = .ok (.ifCond .lt 12, 3) := by decide +kernel
theorem dX5_hear_60 : decode cX5_hear 60 = .ok (.aload_n 0, 1) := by decide +kernel
theorem dX5_hear_61 : decode cX5_hear 61 = .ok (.getfield 16, 3) := by decide +kernel
theorem dX5_hear_64 : decode cX5_hear 64 = .ok (.bipush 12, 2) := by decide +kernel
theorem dX5_hear_66 : decode cX5_hear 66 = .ok (.if_icmp .lt 5, 3) := by decide +kernel
theorem dX5_hear_69 : decode cX5_hear 69 = .ok (.iconst 0, 1) := by decide +kernel
theorem dX5_hear_70 : decode cX5_hear 70 = .ok (.ireturn, 1) := by decide +kernel
theorem dX5_hear_71 : decode cX5_hear 71 = .ok (.aload_n 0, 1) := by decide +kernel
theorem dX5_hear_72 : decode cX5_hear 72 = .ok (.getfield 9, 3) := by decide +kernel
theorem dX5_hear_75 : decode cX5_hear 75 = .ok (.aload_n 0, 1) := by decide +kernel
theorem dX5_hear_76 : decode cX5_hear 76 = .ok (.getfield 16, 3) := by decide +kernel
theorem dX5_hear_79 : decode cX5_hear 79 = .ok (.iload_n 1, 1) := by decide +kernel
theorem dX5_hear_80 : decode cX5_hear 80 = .ok (.iastore, 1) := by decide +kernel
theorem dX5_hear_81 : decode cX5_hear 81 = .ok (.aload_n 0, 1) := by decide +kernel
theorem dX5_hear_82 : decode cX5_hear 82 = .ok (.getfield 13, 3) := by decide +kernel
theorem dX5_hear_85 : decode cX5_hear 85 = .ok (.aload_n 0, 1) := by decide +kernel
theorem dX5_hear_86 : decode cX5_hear 86 = .ok (.getfield 16, 3) := by decide +kernel
theorem dX5_hear_89 : decode cX5_hear 89 = .ok (.iload_n 2, 1) := by decide +kernel
theorem dX5_hear_90 : decode cX5_hear 90 = .ok (.iastore, 1) := by decide +kernel
theorem dX5_hear_91 : decode cX5_hear 91 = .ok (.aload_n 0, 1) := by decide +kernel
theorem dX5_hear_92 : decode cX5_hear 92 = .ok (.dup, 1) := by decide +kernel
theorem dX5_hear_93 : decode cX5_hear 93 = .ok (.getfield 16, 3) := by decide +kernel
theorem dX5_hear_96 : decode cX5_hear 96 = .ok (.iconst 1, 1) := by decide +kernel
theorem dX5_hear_97 : decode cX5_hear 97 = .ok (.iadd, 1) := by decide +kernel
theorem dX5_hear_98 : decode cX5_hear 98 = .ok (.putfield 16, 3) := by decide +kernel
theorem dX5_hear_101 : decode cX5_hear 101 = .ok (.iconst 1, 1) := by decide +kernel
theorem dX5_hear_102 : decode cX5_hear 102 = .ok (.ireturn, 1) := by decide +kernel
theorem dX5_allow_0 : decode cX5_allow 0 = .ok (.iconst 0, 1) := by decide +kernel
theorem dX5_allow_1 : decode cX5_allow 1 = .ok (.istore 4, 2) := by decide +kernel
theorem dX5_allow_3 : decode cX5_allow 3 = .ok (.iload 4, 2) := by decide +kernel
theorem dX5_allow_5 : decode cX5_allow 5 = .ok (.aload_n 0, 1) := by decide +kernel
theorem dX5_allow_6 : decode cX5_allow 6 = .ok (.getfield 16, 3) := by decide +kernel
theorem dX5_allow_9 : decode cX5_allow 9 = .ok (.if_icmp .ge 103, 3) := by decide +kernel
theorem dX5_allow_12 : decode cX5_allow 12 = .ok (.iload 4, 2) := by decide +kernel
theorem dX5_allow_14 : decode cX5_allow 14 = .ok (.bipush 12, 2) := by decide +kernel
theorem dX5_allow_16 : decode cX5_allow 16 = .ok (.if_icmp .ge 96, 3) := by decide +kernel
theorem dX5_allow_19 : decode cX5_allow 19 = .ok (.aload_n 0, 1) := by decide +kernel
theorem dX5_allow_20 : decode cX5_allow 20 = .ok (.getfield 13, 3) := by decide +kernel
theorem dX5_allow_23 : decode cX5_allow 23 = .ok (.iload 4, 2) := by decide +kernel
theorem dX5_allow_25 : decode cX5_allow 25 = .ok (.iaload, 1) := by decide +kernel
theorem dX5_allow_26 : decode cX5_allow 26 = .ok (.istore 5, 2) := by decide +kernel
theorem dX5_allow_28 : decode cX5_allow 28 = .ok (.aload_n 0, 1) := by decide +kernel
theorem dX5_allow_29 : decode cX5_allow 29 = .ok (.getfield 9, 3) := by decide +kernel
theorem dX5_allow_32 : decode cX5_allow 32 = .ok (.iload 4, 2) := by decide +kernel
theorem dX5_allow_34 : decode cX5_allow 34 = .ok (.iaload, 1) := by decide +kernel
theorem dX5_allow_35 : decode cX5_allow 35 = .ok (.ifCond .ne 17, 3) := by decide +kernel
theorem dX5_allow_38 : decode cX5_allow 38 = .ok (.iload_n 1, 1) := by decide +kernel
theorem dX5_allow_39 : decode cX5_allow 39 = .ok (.iload 5, 2) := by decide +kernel
theorem dX5_allow_41 : decode cX5_allow 41 = .ok (.if_icmp .ne 7, 3) := by decide +kernel
theorem dX5_allow_44 : decode cX5_allow 44 = .ok (.iconst 1, 1) := by decide +kernel
theorem dX5_allow_45 : decode cX5_allow 45 = .ok (.goto 52, 3) := by decide +kernel
theorem dX5_allow_48 : decode cX5_allow 48 = .ok (.iconst 0, 1) := by decide +kernel
theorem dX5_allow_49 : decode cX5_allow 49 = .ok (.goto 48, 3) := by decide +kernel
theorem dX5_allow_52 : decode cX5_allow 52 = .ok (.aload_n 0, 1) := by decide +kernel
theorem dX5_allow_53 : decode cX5_allow 53 = .ok (.getfield 9, 3) := by decide +kernel
theorem dX5_allow_56 : decode cX5_allow 56 = .ok (.iload 4, 2) := by decide +kernel
theorem dX5_allow_58 : decode cX5_allow 58 = .ok (.iaload, 1) := by decide +kernel
theorem dX5_allow_59 : decode cX5_allow 59 = .ok (.iconst 1, 1) := by decide +kernel
theorem dX5_allow_60 : decode cX5_allow 60 = .ok (.if_icmp .ne 17, 3) := by decide +kernel
theorem dX5_allow_63 : decode cX5_allow 63 = .ok (.iload_n 2, 1) := by decide +kernel
theorem dX5_allow_64 : decode cX5_allow 64 = .ok (.iload 5, 2) := by decide +kernel
theorem dX5_allow_66 : decode cX5_allow 66 = .ok (.if_icmp .lt 7, 3) := by decide +kernel
theorem dX5_allow_69 : decode cX5_allow 69 = .ok (.iconst 1, 1) := by decide +kernel
theorem dX5_allow_70 : decode cX5_allow 70 = .ok (.goto 27, 3) := by decide +kernel
theorem dX5_allow_73 : decode cX5_allow 73 = .ok (.iconst 0, 1) := by decide +kernel
theorem dX5_allow_74 : decode cX5_allow 74 = .ok (.goto 23, 3) := by decide +kernel
theorem dX5_allow_77 : decode cX5_allow 77 = .ok (.iload_n 3, 1) := by decide +kernel
theorem dX5_allow_78 : decode cX5_allow 78 = .ok (.iload 5, 2) := by decide +kernel
theorem dX5_allow_80 : decode cX5_allow 80 = .ok (.iconst 1, 1) := by decide +kernel
theorem dX5_allow_81 : decode cX5_allow 81 = .ok (.if_icmp .ne 7, 3) := by decide +kernel
theorem dX5_allow_84 : decode cX5_allow 84 = .ok (.iconst 1, 1) := by decide +kernel
theorem dX5_allow_85 : decode cX5_allow 85 = .ok (.goto 4, 3) := by decide +kernel
theorem dX5_allow_88 : decode cX5_allow 88 = .ok (.iconst 0, 1) := by decide +kernel
theorem dX5_allow_89 : decode cX5_allow 89 = .ok (.if_icmp .ne 7, 3) := by decide +kernel
theorem dX5_allow_92 : decode cX5_allow 92 = .ok (.iconst 1, 1) := by decide +kernel
theorem dX5_allow_93 : decode cX5_allow 93 = .ok (.goto 4, 3) := by decide +kernel
theorem dX5_allow_96 : decode cX5_allow 96 = .ok (.iconst 0, 1) := by decide +kernel
theorem dX5_allow_97 : decode cX5_allow 97 = .ok (.istore 6, 2) := by decide +kernel
theorem dX5_allow_99 : decode cX5_allow 99 = .ok (.iload 6, 2) := by decide +kernel
theorem dX5_allow_101 : decode cX5_allow 101 = .ok (.ifCond .ne 5, 3) := by decide +kernel
theorem dX5_allow_104 : decode cX5_allow 104 = .ok (.iconst 0, 1) := by decide +kernel
theorem dX5_allow_105 : decode cX5_allow 105 = .ok (.ireturn, 1) := by decide +kernel
theorem dX5_allow_106 : decode cX5_allow 106 = .ok (.iinc 4 1, 3) := by decide +kernel
theorem dX5_allow_109 : decode cX5_allow 109 = .ok (.goto (-106), 3) := by decide +kernel
theorem dX5_allow_112 : decode cX5_allow 112 = .ok (.iconst 1, 1) := by decide +kernel
theorem dX5_allow_113 : decode cX5_allow 113 = .ok (.ireturn, 1) := by decide +kernel
theorem dX6_init_0 : decode cX6_init 0 = .ok (.aload_n 0, 1) := by decide +kernel
theorem dX6_init_1 : decode cX6_init 1 = .ok (.invokespecial 1, 3) := by decide +kernel
theorem dX6_init_4 : decode cX6_init 4 = .ok (.aload_n 0, 1) := by decide +kernel
theorem dX6_init_5 : decode cX6_init 5 = .ok (.iconst 3, 1) := by decide +kernel
theorem dX6_init_6 : decode cX6_init 6 = .ok (.anewarray 9, 3) := by decide +kernel
theorem dX6_init_9 : decode cX6_init 9 = .ok (.putfield 11, 3) := by decide +kernel
theorem dX6_init_12 : decode cX6_init 12 = .ok (.iconst 0, 1) := by decide +kernel
theorem dX6_init_13 : decode cX6_init 13 = .ok (.istore_n 1, 1) := by decide +kernel
theorem dX6_init_14 : decode cX6_init 14 = .ok (.iload_n 1, 1) := by decide +kernel
theorem dX6_init_15 : decode cX6_init 15 = .ok (.iconst 3, 1) := by decide +kernel
theorem dX6_init_16 : decode cX6_init 16 = .ok (.if_icmp .ge 22, 3) := by decide +kernel
theorem dX6_init_19 : decode cX6_init 19 = .ok (.aload_n 0, 1) := by decide +kernel
theorem dX6_init_20 : decode cX6_init 20 = .ok (.getfield 11, 3) := by decide +kernel
theorem dX6_init_23 : decode cX6_init 23 = .ok (.iload_n 1, 1) := by decide +kernel
theorem dX6_init_24 : decode cX6_init 24 = .ok (.new 9, 3) := by decide +kernel
theorem dX6_init_27 : decode cX6_init 27 = .ok (.dup, 1) := by decide +kernel
theorem dX6_init_28 : decode cX6_init 28 = .ok (.invokespecial 15, 3) := by decide +kernel
theorem dX6_init_31 : decode cX6_init 31 = .ok (.aastore, 1) := by decide +kernel
theorem dX6_init_32 : decode cX6_init 32 = .ok (.iinc 1 1, 3) := by decide +kernel
theorem dX6_init_35 : decode cX6_init 35 = .ok (.goto (-21), 3) := by decide +kernel
theorem dX6_init_38 : decode cX6_init 38 = .ok (.return_, 1) := by decide +kernel
theorem dX6_clear_0 : decode cX6_clear 0 = .ok (.aload_n 0, 1) := by decide +kernel
theorem dX6_clear_1 : decode cX6_clear 1 = .ok (.iconst 0, 1) := by decide +kernel
theorem dX6_clear_2 : decode cX6_clear 2 = .ok (.putfield 16, 3) := by decide +kernel
theorem dX6_clear_5 : decode cX6_clear 5 = .ok (.return_, 1) := by decide +kernel
theorem dX6_put_0 : decode cX6_put 0 = .ok (.iload_n 1, 1) := by decide +kernel
theorem dX6_put_1 : decode cX6_put 1 = .ok (.ifCond .lt 17, 3) := by decide +kernel
theorem dX6_put_4 : decode cX6_put 4 = .ok (.iload_n 1, 1) := by decide +kernel
theorem dX6_put_5 : decode cX6_put 5 = .ok (.iconst 3, 1) := by decide +kernel
theorem dX6_put_6 : decode cX6_put 6 = .ok (.if_icmp .ge 12, 3) := by decide +kernel
theorem dX6_put_9 : decode cX6_put 9 = .ok (.aload_n 0, 1) := by decide +kernel
theorem dX6_put_10 : decode cX6_put 10 = .ok (.getfield 11, 3) := by decide +kernel
theorem dX6_put_13 : decode cX6_put 13 = .ok (.iload_n 1, 1) := by decide +kernel
theorem dX6_put_14 : decode cX6_put 14 = .ok (.aaload, 1) := by decide +kernel
theorem dX6_put_15 : decode cX6_put 15 = .ok (.ifnonnull 5, 3) := by decide +kernel
theorem dX6_put_18 : decode cX6_put 18 = .ok (.iconst 0, 1) := by decide +kernel
theorem dX6_put_19 : decode cX6_put 19 = .ok (.ireturn, 1) := by decide +kernel
theorem dX6_put_20 : decode cX6_put 20 = .ok (.aload_n 0, 1) := by decide +kernel
theorem dX6_put_21 : decode cX6_put 21 = .ok (.getfield 11, 3) := by decide +kernel
theorem dX6_put_24 : decode cX6_put 24 = .ok (.iload_n 1, 1) := by decide +kernel
theorem dX6_put_25 : decode cX6_put 25 = .ok (.aaload, 1) := by decide +kernel
theorem dX6_put_26 : decode cX6_put 26 = .ok (.aload_n 2, 1) := by decide +kernel
theorem dX6_put_27 : decode cX6_put 27 = .ok (.invokevirtual 20, 3) := by decide +kernel
theorem dX6_put_30 : decode cX6_put 30 = .ok (.aload_n 0, 1) := by decide +kernel
theorem dX6_put_31 : decode cX6_put 31 = .ok (.dup, 1) := by decide +kernel
theorem dX6_put_32 : decode cX6_put 32 = .ok (.getfield 16, 3) := by decide +kernel
theorem dX6_put_35 : decode cX6_put 35 = .ok (.iconst 1, 1) := by decide +kernel
theorem dX6_put_36 : decode cX6_put 36 = .ok (.iload_n 1, 1) := by decide +kernel
theorem dX6_put_37 : decode cX6_put 37 = .ok (.ishl, 1) := by decide +kernel
theorem dX6_put_38 : decode cX6_put 38 = .ok (.ior, 1) := by decide +kernel
theorem dX6_put_39 : decode cX6_put 39 = .ok (.putfield 16, 3) := by decide +kernel
theorem dX6_put_42 : decode cX6_put 42 = .ok (.iconst 1, 1) := by decide +kernel
theorem dX6_put_43 : decode cX6_put 43 = .ok (.ireturn, 1) := by decide +kernel
theorem dX6_take_0 : decode cX6_take 0 = .ok (.iload_n 1, 1) := by decide +kernel
theorem dX6_take_1 : decode cX6_take 1 = .ok (.ifCond .lt 28, 3) := by decide +kernel
theorem dX6_take_4 : decode cX6_take 4 = .ok (.iload_n 1, 1) := by decide +kernel
theorem dX6_take_5 : decode cX6_take 5 = .ok (.iconst 3, 1) := by decide +kernel
theorem dX6_take_6 : decode cX6_take 6 = .ok (.if_icmp .ge 23, 3) := by decide +kernel
theorem dX6_take_9 : decode cX6_take 9 = .ok (.aload_n 0, 1) := by decide +kernel
theorem dX6_take_10 : decode cX6_take 10 = .ok (.getfield 11, 3) := by decide +kernel
theorem dX6_take_13 : decode cX6_take 13 = .ok (.iload_n 1, 1) := by decide +kernel
theorem dX6_take_14 : decode cX6_take 14 = .ok (.aaload, 1) := by decide +kernel
theorem dX6_take_15 : decode cX6_take 15 = .ok (.ifnull 14, 3) := by decide +kernel
theorem dX6_take_18 : decode cX6_take 18 = .ok (.aload_n 0, 1) := by decide +kernel
theorem dX6_take_19 : decode cX6_take 19 = .ok (.getfield 16, 3) := by decide +kernel
theorem dX6_take_22 : decode cX6_take 22 = .ok (.iload_n 1, 1) := by decide +kernel
theorem dX6_take_23 : decode cX6_take 23 = .ok (.ishr, 1) := by decide +kernel
theorem dX6_take_24 : decode cX6_take 24 = .ok (.iconst 1, 1) := by decide +kernel
theorem dX6_take_25 : decode cX6_take 25 = .ok (.iand, 1) := by decide +kernel
theorem dX6_take_26 : decode cX6_take 26 = .ok (.ifCond .ne 5, 3) := by decide +kernel
theorem dX6_take_29 : decode cX6_take 29 = .ok (.iconst 0, 1) := by decide +kernel
theorem dX6_take_30 : decode cX6_take 30 = .ok (.ireturn, 1) := by decide +kernel
theorem dX6_take_31 : decode cX6_take 31 = .ok (.aload_n 2, 1) := by decide +kernel
theorem dX6_take_32 : decode cX6_take 32 = .ok (.aload_n 0, 1) := by decide +kernel
theorem dX6_take_33 : decode cX6_take 33 = .ok (.getfield 11, 3) := by decide +kernel
theorem dX6_take_36 : decode cX6_take 36 = .ok (.iload_n 1, 1) := by decide +kernel
theorem dX6_take_37 : decode cX6_take 37 = .ok (.aaload, 1) := by decide +kernel
theorem dX6_take_38 : decode cX6_take 38 = .ok (.invokevirtual 20, 3) := by decide +kernel
theorem dX6_take_41 : decode cX6_take 41 = .ok (.iconst 1, 1) := by decide +kernel
theorem dX6_take_42 : decode cX6_take 42 = .ok (.ireturn, 1) := by decide +kernel
theorem dX7_init_0 : decode cX7_init 0 = .ok (.aload_n 0, 1) := by decide +kernel
theorem dX7_init_1 : decode cX7_init 1 = .ok (.invokespecial 3, 3) := by decide +kernel
theorem dX7_init_4 : decode cX7_init 4 = .ok (.aload_n 0, 1) := by decide +kernel
theorem dX7_init_5 : decode cX7_init 5 = .ok (.bipush 20, 2) := by decide +kernel
theorem dX7_init_7 : decode cX7_init 7 = .ok (.newarray .int, 2) := by decide +kernel
theorem dX7_init_9 : decode cX7_init 9 = .ok (.putfield 9, 3) := by decide +kernel
theorem dX7_init_12 : decode cX7_init 12 = .ok (.aload_n 0, 1) := by decide +kernel
theorem dX7_init_13 : decode cX7_init 13 = .ok (.iconst 1, 1) := by decide +kernel
theorem dX7_init_14 : decode cX7_init 14 = .ok (.putfield 15, 3) := by decide +kernel
theorem dX7_init_17 : decode cX7_init 17 = .ok (.aload_n 0, 1) := by decide +kernel
theorem dX7_init_18 : decode cX7_init 18 = .ok (.getfield 9, 3) := by decide +kernel
theorem dX7_init_21 : decode cX7_init 21 = .ok (.iconst 0, 1) := by decide +kernel
theorem dX7_init_22 : decode cX7_init 22 = .ok (.bipush 102, 2) := by decide +kernel
theorem dX7_init_24 : decode cX7_init 24 = .ok (.iastore, 1) := by decide +kernel
theorem dX7_init_25 : decode cX7_init 25 = .ok (.return_, 1) := by decide +kernel
theorem dX7_size_0 : decode cX7_size 0 = .ok (.aload_n 0, 1) := by decide +kernel
theorem dX7_size_1 : decode cX7_size 1 = .ok (.getfield 15, 3) := by decide +kernel
theorem dX7_size_4 : decode cX7_size 4 = .ok (.ireturn, 1) := by decide +kernel
theorem dX7_read_0 : decode cX7_read 0 = .ok (.aload_n 1, 1) := by decide +kernel
theorem dX7_read_1 : decode cX7_read 1 = .ok (.invokevirtual 19, 3) := by decide +kernel
theorem dX7_read_4 : decode cX7_read 4 = .ok (.ifCond .ne 5, 3) := by decide +kernel
theorem dX7_read_7 : decode cX7_read 7 = .ok (.iconst (-1), 1) := by decide +kernel
theorem dX7_read_8 : decode cX7_read 8 = .ok (.ireturn, 1) := by decide +kernel
theorem dX7_read_9 : decode cX7_read 9 = .ok (.iconst 0, 1) := by decide +kernel
theorem dX7_read_10 : decode cX7_read 10 = .ok (.istore_n 2, 1) := by decide +kernel
theorem dX7_read_11 : decode cX7_read 11 = .ok (.iload_n 2, 1) := by decide +kernel
theorem dX7_read_12 : decode cX7_read 12 = .ok (.aload_n 1, 1) := by decide +kernel
theorem dX7_read_13 : decode cX7_read 13 = .ok (.invokevirtual 19, 3) := by decide +kernel
theorem dX7_read_16 : decode cX7_read 16 = .ok (.if_icmp .ge 49, 3) := by decide +kernel
theorem dX7_read_19 : decode cX7_read 19 = .ok (.iload_n 2, 1) := by decide +kernel
theorem dX7_read_20 : decode cX7_read 20 = .ok (.bipush 20, 2) := by decide +kernel
theorem dX7_read_22 : decode cX7_read 22 = .ok (.if_icmp .ge 43, 3) := by decide +kernel
theorem dX7_read_25 : decode cX7_read 25 = .ok (.aload_n 1, 1) := by decide +kernel
theorem dX7_read_26 : decode cX7_read 26 = .ok (.iload_n 2, 1) := by decide +kernel
theorem dX7_read_27 : decode cX7_read 27 = .ok (.invokevirtual 24, 3) := by decide +kernel
theorem dX7_read_30 : decode cX7_read 30 = .ok (.istore_n 3, 1) := by decide +kernel
theorem dX7_read_31 : decode cX7_read 31 = .ok (.iload_n 3, 1) := by decide +kernel
theorem dX7_read_32 : decode cX7_read 32 = .ok (.bipush 102, 2) := by decide +kernel
theorem dX7_read_34 : decode cX7_read 34 = .ok (.if_icmp .eq 25, 3) := by decide +kernel
theorem dX7_read_37 : decode cX7_read 37 = .ok (.iload_n 3, 1) := by decide +kernel
theorem dX7_read_38 : decode cX7_read 38 = .ok (.bipush 100, 2) := by decide +kernel
theorem dX7_read_40 : decode cX7_read 40 = .ok (.if_icmp .eq 19, 3) := by decide +kernel
theorem dX7_read_43 : decode cX7_read 43 = .ok (.iload_n 3, 1) := by decide +kernel
theorem dX7_read_44 : decode cX7_read 44 = .ok (.bipush 114, 2) := by decide +kernel
theorem dX7_read_46 : decode cX7_read 46 = .ok (.if_icmp .eq 13, 3) := by decide +kernel
theorem dX7_read_49 : decode cX7_read 49 = .ok (.iload_n 3, 1) := by decide +kernel
theorem dX7_read_50 : decode cX7_read 50 = .ok (.bipush 97, 2) := by decide +kernel
theorem dX7_read_52 : decode cX7_read 52 = .ok (.if_icmp .eq 7, 3) := by decide +kernel
theorem dX7_read_55 : decode cX7_read 55 = .ok (.iconst (-1), 1) := by decide +kernel
theorem dX7_read_56 : decode cX7_read 56 = .ok (.iload_n 2, 1) := by decide +kernel
theorem dX7_read_57 : decode cX7_read 57 = .ok (.isub, 1) := by decide +kernel
theorem dX7_read_58 : decode cX7_read 58 = .ok (.ireturn, 1) := by decide +kernel
theorem dX7_read_59 : decode cX7_read 59 = .ok (.iinc 2 1, 3) := by decide +kernel
theorem dX7_read_62 : decode cX7_read 62 = .ok (.goto (-51), 3) := by decide +kernel
theorem dX7_read_65 : decode cX7_read 65 = .ok (.aload_n 1, 1) := by decide +kernel
theorem dX7_read_66 : decode cX7_read 66 = .ok (.invokevirtual 19, 3) := by decide +kernel
theorem dX7_read_69 : decode cX7_read 69 = .ok (.bipush 20, 2) := by decide +kernel
theorem dX7_read_71 : decode cX7_read 71 = .ok (.if_icmp .le 6, 3) := by decide +kernel
theorem dX7_read_74 : decode cX7_read 74 = .ok (.bipush (-21), 2) := by decide +kernel
theorem dX7_read_76 : decode cX7_read 76 = .ok (.ireturn, 1) := by decide +kernel
theorem dX7_read_77 : decode cX7_read 77 = .ok (.aload_n 0, 1) := by decide +kernel
theorem dX7_read_78 : decode cX7_read 78 = .ok (.aload_n 1, 1) := by decide +kernel
theorem dX7_read_79 : decode cX7_read 79 = .ok (.invokevirtual 19, 3) := by decide +kernel
theorem dX7_read_82 : decode cX7_read 82 = .ok (.putfield 15, 3) := by decide +kernel
theorem dX7_read_85 : decode cX7_read 85 = .ok (.iconst 0, 1) := by decide +kernel
theorem dX7_read_86 : decode cX7_read 86 = .ok (.istore_n 2, 1) := by decide +kernel
theorem dX7_read_87 : decode cX7_read 87 = .ok (.iload_n 2, 1) := by decide +kernel
theorem dX7_read_88 : decode cX7_read 88 = .ok (.aload_n 0, 1) := by decide +kernel
theorem dX7_read_89 : decode cX7_read 89 = .ok (.getfield 15, 3) := by decide +kernel
theorem dX7_read_92 : decode cX7_read 92 = .ok (.if_icmp .ge 26, 3) := by decide +kernel
theorem dX7_read_95 : decode cX7_read 95 = .ok (.iload_n 2, 1) := by decide +kernel
theorem dX7_read_96 : decode cX7_read 96 = .ok (.bipush 20, 2) := by decide +kernel
theorem dX7_read_98 : decode cX7_read 98 = .ok (.if_icmp .ge 20, 3) := by decide +kernel
theorem dX7_read_101 : decode cX7_read 101 = .ok (.aload_n 0, 1) := by decide +kernel
theorem dX7_read_102 : decode cX7_read 102 = .ok (.getfield 9, 3) := by decide +kernel
theorem dX7_read_105 : decode cX7_read 105 = .ok (.iload_n 2, 1) := by decide +kernel
theorem dX7_read_106 : decode cX7_read 106 = .ok (.aload_n 1, 1) := by decide +kernel
theorem dX7_read_107 : decode cX7_read 107 = .ok (.iload_n 2, 1) := by decide +kernel
theorem dX7_read_108 : decode cX7_read 108 = .ok (.invokevirtual 24, 3) := by decide +kernel
theorem dX7_read_111 : decode cX7_read 111 = .ok (.iastore, 1) := by decide +kernel
theorem dX7_read_112 : decode cX7_read 112 = .ok (.iinc 2 1, 3) := by decide +kernel
theorem dX7_read_115 : decode cX7_read 115 = .ok (.goto (-28), 3) := by decide +kernel
theorem dX7_read_118 : decode cX7_read 118 = .ok (.aload_n 0, 1) := by decide +kernel
theorem dX7_read_119 : decode cX7_read 119 = .ok (.getfield 15, 3) := by decide +kernel
theorem dX7_read_122 : decode cX7_read 122 = .ok (.ireturn, 1) := by decide +kernel
theorem dX7_of_0 : decode cX7_of 0 = .ok (.aload_n 0, 1) := by decide +kernel
theorem dX7_of_1 : decode cX7_of 1 = .ok (.getfield 15, 3) := by decide +kernel
theorem dX7_of_4 : decode cX7_of 4 = .ok (.iconst 1, 1) := by decide +kernel
theorem dX7_of_5 : decode cX7_of 5 = .ok (.if_icmp .lt 12, 3) := by decide +kernel
theorem dX7_of_8 : decode cX7_of 8 = .ok (.aload_n 0, 1) := by decide +kernel
theorem dX7_of_9 : decode cX7_of 9 = .ok (.getfield 15, 3) := by decide +kernel
theorem dX7_of_12 : decode cX7_of 12 = .ok (.bipush 20, 2) := by decide +kernel
theorem dX7_of_14 : decode cX7_of 14 = .ok (.if_icmp .le 6, 3) := by decide +kernel
theorem dX7_of_17 : decode cX7_of 17 = .ok (.bipush 102, 2) := by decide +kernel
theorem dX7_of_19 : decode cX7_of 19 = .ok (.ireturn, 1) := by decide +kernel
theorem dX7_of_20 : decode cX7_of 20 = .ok (.iload_n 1, 1) := by decide +kernel
theorem dX7_of_21 : decode cX7_of 21 = .ok (.aload_n 0, 1) := by decide +kernel
theorem dX7_of_22 : decode cX7_of 22 = .ok (.getfield 15, 3) := by decide +kernel
theorem dX7_of_25 : decode cX7_of 25 = .ok (.invokestatic 28, 3) := by decide +kernel
theorem dX7_of_28 : decode cX7_of 28 = .ok (.istore_n 2, 1) := by decide +kernel
theorem dX7_of_29 : decode cX7_of 29 = .ok (.iload_n 2, 1) := by decide +kernel
theorem dX7_of_30 : decode cX7_of 30 = .ok (.ifCond .lt 18, 3) := by decide +kernel
theorem dX7_of_33 : decode cX7_of 33 = .ok (.iload_n 2, 1) := by decide +kernel
theorem dX7_of_34 : decode cX7_of 34 = .ok (.bipush 20, 2) := by decide +kernel
theorem dX7_of_36 : decode cX7_of 36 = .ok (.if_icmp .ge 12, 3) := by decide +kernel
theorem dX7_of_39 : decode cX7_of 39 = .ok (.aload_n 0, 1) := by decide +kernel
theorem dX7_of_40 : decode cX7_of 40 = .ok (.getfield 9, 3) := by decide +kernel
theorem dX7_of_43 : decode cX7_of 43 = .ok (.iload_n 2, 1) := by decide +kernel
theorem dX7_of_44 : decode cX7_of 44 = .ok (.iaload, 1) := by decide +kernel
theorem dX7_of_45 : decode cX7_of 45 = .ok (.goto 5, 3) := by decide +kernel
theorem dX7_of_48 : decode cX7_of 48 = .ok (.bipush 102, 2) := by decide +kernel
theorem dX7_of_50 : decode cX7_of 50 = .ok (.ireturn, 1) := by decide +kernel
theorem dX8_init_0 : decode cX8_init 0 = .ok (.aload_n 0, 1) := by decide +kernel
theorem dX8_init_1 : decode cX8_init 1 = .ok (.invokespecial 3, 3) := by decide +kernel
theorem dX8_init_4 : decode cX8_init 4 = .ok (.aload_n 0, 1) := by decide +kernel
theorem dX8_init_5 : decode cX8_init 5 = .ok (.bipush 80, 2) := by decide +kernel
theorem dX8_init_7 : decode cX8_init 7 = .ok (.newarray .int, 2) := by decide +kernel
theorem dX8_init_9 : decode cX8_init 9 = .ok (.putfield 9, 3) := by decide +kernel
theorem dX8_init_12 : decode cX8_init 12 = .ok (.return_, 1) := by decide +kernel
theorem dX8_size_0 : decode cX8_size 0 = .ok (.aload_n 0, 1) := by decide +kernel
theorem dX8_size_1 : decode cX8_size 1 = .ok (.getfield 15, 3) := by decide +kernel
theorem dX8_size_4 : decode cX8_size 4 = .ok (.ireturn, 1) := by decide +kernel
theorem dX8_at_0 : decode cX8_at 0 = .ok (.iload_n 1, 1) := by decide +kernel
theorem dX8_at_1 : decode cX8_at 1 = .ok (.ifCond .lt 29, 3) := by decide +kernel
theorem dX8_at_4 : decode cX8_at 4 = .ok (.iload_n 1, 1) := by decide +kernel
theorem dX8_at_5 : decode cX8_at 5 = .ok (.aload_n 0, 1) := by decide +kernel
theorem dX8_at_6 : decode cX8_at 6 = .ok (.getfield 15, 3) := by decide +kernel
theorem dX8_at_9 : decode cX8_at 9 = .ok (.if_icmp .ge 21, 3) := by decide +kernel
theorem dX8_at_12 : decode cX8_at 12 = .ok (.iload_n 1, 1) := by decide +kernel
theorem dX8_at_13 : decode cX8_at 13 = .ok (.aload_n 0, 1) := by decide +kernel
theorem dX8_at_14 : decode cX8_at 14 = .ok (.getfield 9, 3) := by decide +kernel
theorem dX8_at_17 : decode cX8_at 17 = .ok (.arraylength, 1) := by decide +kernel
theorem dX8_at_18 : decode cX8_at 18 = .ok (.if_icmp .ge 12, 3) := by decide +kernel
theorem dX8_at_21 : decode cX8_at 21 = .ok (.aload_n 0, 1) := by decide +kernel
theorem dX8_at_22 : decode cX8_at 22 = .ok (.getfield 9, 3) := by decide +kernel
theorem dX8_at_25 : decode cX8_at 25 = .ok (.iload_n 1, 1) := by decide +kernel
theorem dX8_at_26 : decode cX8_at 26 = .ok (.iaload, 1) := by decide +kernel
theorem dX8_at_27 : decode cX8_at 27 = .ok (.goto 4, 3) := by decide +kernel
theorem dX8_at_30 : decode cX8_at 30 = .ok (.iconst (-1), 1) := by decide +kernel
theorem dX8_at_31 : decode cX8_at 31 = .ok (.ireturn, 1) := by decide +kernel
theorem dX8_take_0 : decode cX8_take 0 = .ok (.aload_n 0, 1) := by decide +kernel
theorem dX8_take_1 : decode cX8_take 1 = .ok (.getfield 15, 3) := by decide +kernel
theorem dX8_take_4 : decode cX8_take 4 = .ok (.ifCond .lt 17, 3) := by decide +kernel
theorem dX8_take_7 : decode cX8_take 7 = .ok (.aload_n 0, 1) := by decide +kernel
theorem dX8_take_8 : decode cX8_take 8 = .ok (.getfield 15, 3) := by decide +kernel
theorem dX8_take_11 : decode cX8_take 11 = .ok (.iconst 4, 1) := by decide +kernel
theorem dX8_take_12 : decode cX8_take 12 = .ok (.iadd, 1) := by decide +kernel
theorem dX8_take_13 : decode cX8_take 13 = .ok (.aload_n 0, 1) := by decide +kernel
theorem dX8_take_14 : decode cX8_take 14 = .ok (.getfield 9, 3) := by decide +kernel
theorem dX8_take_17 : decode cX8_take 17 = .ok (.arraylength, 1) := by decide +kernel
theorem dX8_take_18 : decode cX8_take 18 = .ok (.if_icmp .le 5, 3) := by decide +kernel
theorem dX8_take_21 : decode cX8_take 21 = .ok (.iconst 0, 1) := by decide +kernel
theorem dX8_take_22 : decode cX8_take 22 = .ok (.ireturn, 1) := by decide +kernel
theorem dX8_take_23 : decode cX8_take 23 = .ok (.iconst 0, 1) := by decide +kernel
theorem dX8_take_24 : decode cX8_take 24 = .ok (.istore_n 2, 1) := by decide +kernel
theorem dX8_take_25 : decode cX8_take 25 = .ok (.iload_n 2, 1) := by decide +kernel
theorem dX8_take_26 : decode cX8_take 26 = .ok (.iconst 4, 1) := by decide +kernel
theorem dX8_take_27 : decode cX8_take 27 = .ok (.if_icmp .ge 33, 3) := by decide +kernel
theorem dX8_take_30 : decode cX8_take 30 = .ok (.aload_n 0, 1) := by decide +kernel
theorem dX8_take_31 : decode cX8_take 31 = .ok (.getfield 9, 3) := by decide +kernel
theorem dX8_take_34 : decode cX8_take 34 = .ok (.aload_n 0, 1) := by decide +kernel
theorem dX8_take_35 : decode cX8_take 35 = .ok (.getfield 15, 3) := by decide +kernel
theorem dX8_take_38 : decode cX8_take 38 = .ok (.iload_n 2, 1) := by decide +kernel
theorem dX8_take_39 : decode cX8_take 39 = .ok (.iadd, 1) := by decide +kernel
theorem dX8_take_40 : decode cX8_take 40 = .ok (.iload_n 1, 1) := by decide +kernel
theorem dX8_take_41 : decode cX8_take 41 = .ok (.bipush 24, 2) := by decide +kernel
theorem dX8_take_43 : decode cX8_take 43 = .ok (.bipush 8, 2) := by decide +kernel
theorem dX8_take_45 : decode cX8_take 45 = .ok (.iload_n 2, 1) := by decide +kernel
theorem dX8_take_46 : decode cX8_take 46 = .ok (.imul, 1) := by decide +kernel
theorem dX8_take_47 : decode cX8_take 47 = .ok (.isub, 1) := by decide +kernel
theorem dX8_take_48 : decode cX8_take 48 = .ok (.iushr, 1) := by decide +kernel
theorem dX8_take_49 : decode cX8_take 49 = .ok (.sipush 255, 3) := by decide +kernel
theorem dX8_take_52 : decode cX8_take 52 = .ok (.iand, 1) := by decide +kernel
theorem dX8_take_53 : decode cX8_take 53 = .ok (.iastore, 1) := by decide +kernel
theorem dX8_take_54 : decode cX8_take 54 = .ok (.iinc 2 1, 3) := by decide +kernel
theorem dX8_take_57 : decode cX8_take 57 = .ok (.goto (-32), 3) := by decide +kernel
theorem dX8_take_60 : decode cX8_take 60 = .ok (.aload_n 0, 1) := by decide +kernel
theorem dX8_take_61 : decode cX8_take 61 = .ok (.dup, 1) := by decide +kernel
theorem dX8_take_62 : decode cX8_take 62 = .ok (.getfield 15, 3) := by decide +kernel
theorem dX8_take_65 : decode cX8_take 65 = .ok (.iconst 4, 1) := by decide +kernel
theorem dX8_take_66 : decode cX8_take 66 = .ok (.iadd, 1) := by decide +kernel
theorem dX8_take_67 : decode cX8_take 67 = .ok (.putfield 15, 3) := by decide +kernel
theorem dX8_take_70 : decode cX8_take 70 = .ok (.iconst 1, 1) := by decide +kernel
theorem dX8_take_71 : decode cX8_take 71 = .ok (.ireturn, 1) := by decide +kernel
theorem dX8_cut_0 : decode cX8_cut 0 = .ok (.iload_n 1, 1) := by decide +kernel
theorem dX8_cut_1 : decode cX8_cut 1 = .ok (.ifCond .lt 11, 3) := by decide +kernel
theorem dX8_cut_4 : decode cX8_cut 4 = .ok (.iload_n 1, 1) := by decide +kernel
theorem dX8_cut_5 : decode cX8_cut 5 = .ok (.aload_n 0, 1) := by decide +kernel
theorem dX8_cut_6 : decode cX8_cut 6 = .ok (.getfield 15, 3) := by decide +kernel
theorem dX8_cut_9 : decode cX8_cut 9 = .ok (.if_icmp .le 5, 3) := by decide +kernel
theorem dX8_cut_12 : decode cX8_cut 12 = .ok (.iconst 0, 1) := by decide +kernel
theorem dX8_cut_13 : decode cX8_cut 13 = .ok (.ireturn, 1) := by decide +kernel
theorem dX8_cut_14 : decode cX8_cut 14 = .ok (.aload_n 0, 1) := by decide +kernel
theorem dX8_cut_15 : decode cX8_cut 15 = .ok (.iload_n 1, 1) := by decide +kernel
theorem dX8_cut_16 : decode cX8_cut 16 = .ok (.putfield 15, 3) := by decide +kernel
theorem dX8_cut_19 : decode cX8_cut 19 = .ok (.iconst 1, 1) := by decide +kernel
theorem dX8_cut_20 : decode cX8_cut 20 = .ok (.ireturn, 1) := by decide +kernel
theorem dX8_clear_0 : decode cX8_clear 0 = .ok (.aload_n 0, 1) := by decide +kernel
theorem dX8_clear_1 : decode cX8_clear 1 = .ok (.iconst 0, 1) := by decide +kernel
theorem dX8_clear_2 : decode cX8_clear 2 = .ok (.putfield 15, 3) := by decide +kernel
theorem dX8_clear_5 : decode cX8_clear 5 = .ok (.return_, 1) := by decide +kernel
theorem dX8_digits_0 : decode cX8_digits 0 = .ok (.iconst 0, 1) := by decide +kernel
theorem dX8_digits_1 : decode cX8_digits 1 = .ok (.istore 4, 2) := by decide +kernel
theorem dX8_digits_3 : decode cX8_digits 3 = .ok (.iload 4, 2) := by decide +kernel
theorem dX8_digits_5 : decode cX8_digits 5 = .ok (.iload_n 2, 1) := by decide +kernel
theorem dX8_digits_6 : decode cX8_digits 6 = .ok (.if_icmp .ge 31, 3) := by decide +kernel
theorem dX8_digits_9 : decode cX8_digits 9 = .ok (.iload_n 1, 1) := by decide +kernel
theorem dX8_digits_10 : decode cX8_digits 10 = .ok (.iload 4, 2) := by decide +kernel
theorem dX8_digits_12 : decode cX8_digits 12 = .ok (.iadd, 1) := by decide +kernel
theorem dX8_digits_13 : decode cX8_digits 13 = .ok (.iload_n 3, 1) := by decide +kernel
theorem dX8_digits_14 : decode cX8_digits 14 = .ok (.if_icmp .ge 23, 3) := by decide +kernel
theorem dX8_digits_17 : decode cX8_digits 17 = .ok (.aload_n 0, 1) := by decide +kernel
theorem dX8_digits_18 : decode cX8_digits 18 = .ok (.iload_n 1, 1) := by decide +kernel
theorem dX8_digits_19 : decode cX8_digits 19 = .ok (.iload 4, 2) := by decide +kernel
theorem dX8_digits_21 : decode cX8_digits 21 = .ok (.iadd, 1) := by decide +kernel
theorem dX8_digits_22 : decode cX8_digits 22 = .ok (.invokevirtual 19, 3) := by decide +kernel
theorem dX8_digits_25 : decode cX8_digits 25 = .ok (.invokestatic 23, 3) := by decide +kernel
theorem dX8_digits_28 : decode cX8_digits 28 = .ok (.ifCond .eq 9, 3) := by decide +kernel
theorem dX8_digits_31 : decode cX8_digits 31 = .ok (.iinc 4 1, 3) := by decide +kernel
theorem dX8_digits_34 : decode cX8_digits 34 = .ok (.goto (-31), 3) := by decide +kernel
theorem dX8_digits_37 : decode cX8_digits 37 = .ok (.iload 4, 2) := by decide +kernel
theorem dX8_digits_39 : decode cX8_digits 39 = .ok (.ireturn, 1) := by decide +kernel
theorem dX8_number_0 : decode cX8_number 0 = .ok (.iconst 0, 1) := by decide +kernel
theorem dX8_number_1 : decode cX8_number 1 = .ok (.istore_n 3, 1) := by decide +kernel
theorem dX8_number_2 : decode cX8_number 2 = .ok (.iconst 0, 1) := by decide +kernel
theorem dX8_number_3 : decode cX8_number 3 = .ok (.istore 4, 2) := by decide +kernel
theorem dX8_number_5 : decode cX8_number 5 = .ok (.iload 4, 2) := by decide +kernel
theorem dX8_number_7 : decode cX8_number 7 = .ok (.iload_n 2, 1) := by decide +kernel
theorem dX8_number_8 : decode cX8_number 8 = .ok (.if_icmp .ge 26, 3) := by decide +kernel
theorem dX8_number_11 : decode cX8_number 11 = .ok (.bipush 10, 2) := by decide +kernel
theorem dX8_number_13 : decode cX8_number 13 = .ok (.iload_n 3, 1) := by decide +kernel
theorem dX8_number_14 : decode cX8_number 14 = .ok (.imul, 1) := by decide +kernel
theorem dX8_number_15 : decode cX8_number 15 = .ok (.aload_n 0, 1) := by decide +kernel
theorem dX8_number_16 : decode cX8_number 16 = .ok (.iload_n 1, 1) := by decide +kernel
theorem dX8_number_17 : decode cX8_number 17 = .ok (.iload 4, 2) := by decide +kernel
theorem dX8_number_19 : decode cX8_number 19 = .ok (.iadd, 1) := by decide +kernel
theorem dX8_number_20 : decode cX8_number 20 = .ok (.invokevirtual 19, 3) := by decide +kernel
theorem dX8_number_23 : decode cX8_number 23 = .ok (.iadd, 1) := by decide +kernel
theorem dX8_number_24 : decode cX8_number 24 = .ok (.bipush 48, 2) := by decide +kernel
theorem dX8_number_26 : decode cX8_number 26 = .ok (.isub, 1) := by decide +kernel
theorem dX8_number_27 : decode cX8_number 27 = .ok (.istore_n 3, 1) := by decide +kernel
theorem dX8_number_28 : decode cX8_number 28 = .ok (.iinc 4 1, 3) := by decide +kernel
theorem dX8_number_31 : decode cX8_number 31 = .ok (.goto (-26), 3) := by decide +kernel
theorem dX8_number_34 : decode cX8_number 34 = .ok (.iload_n 3, 1) := by decide +kernel
theorem dX8_number_35 : decode cX8_number 35 = .ok (.ireturn, 1) := by decide +kernel
theorem dX9_init_0 : decode cX9_init 0 = .ok (.aload_n 0, 1) := by decide +kernel
theorem dX9_init_1 : decode cX9_init 1 = .ok (.invokespecial 3, 3) := by decide +kernel
theorem dX9_init_4 : decode cX9_init 4 = .ok (.aload_n 0, 1) := by decide +kernel
theorem dX9_init_5 : decode cX9_init 5 = .ok (.bipush 12, 2) := by decide +kernel
theorem dX9_init_7 : decode cX9_init 7 = .ok (.newarray .long, 2) := by decide +kernel
theorem dX9_init_9 : decode cX9_init 9 = .ok (.putfield 9, 3) := by decide +kernel
theorem dX9_init_12 : decode cX9_init 12 = .ok (.return_, 1) := by decide +kernel
theorem dX9_size_0 : decode cX9_size 0 = .ok (.aload_n 0, 1) := by decide +kernel
theorem dX9_size_1 : decode cX9_size 1 = .ok (.getfield 15, 3) := by decide +kernel
theorem dX9_size_4 : decode cX9_size 4 = .ok (.ireturn, 1) := by decide +kernel
theorem dX9_at_0 : decode cX9_at 0 = .ok (.iload_n 1, 1) := by decide +kernel
theorem dX9_at_1 : decode cX9_at 1 = .ok (.ifCond .lt 29, 3) := by decide +kernel
theorem dX9_at_4 : decode cX9_at 4 = .ok (.iload_n 1, 1) := by decide +kernel
theorem dX9_at_5 : decode cX9_at 5 = .ok (.aload_n 0, 1) := by decide +kernel
theorem dX9_at_6 : decode cX9_at 6 = .ok (.getfield 15, 3) := by decide +kernel
theorem dX9_at_9 : decode cX9_at 9 = .ok (.if_icmp .ge 21, 3) := by decide +kernel
theorem dX9_at_12 : decode cX9_at 12 = .ok (.iload_n 1, 1) := by decide +kernel
theorem dX9_at_13 : decode cX9_at 13 = .ok (.aload_n 0, 1) := by decide +kernel
theorem dX9_at_14 : decode cX9_at 14 = .ok (.getfield 9, 3) := by decide +kernel
theorem dX9_at_17 : decode cX9_at 17 = .ok (.arraylength, 1) := by decide +kernel
theorem dX9_at_18 : decode cX9_at 18 = .ok (.if_icmp .ge 12, 3) := by decide +kernel
theorem dX9_at_21 : decode cX9_at 21 = .ok (.aload_n 0, 1) := by decide +kernel
theorem dX9_at_22 : decode cX9_at 22 = .ok (.getfield 9, 3) := by decide +kernel
theorem dX9_at_25 : decode cX9_at 25 = .ok (.iload_n 1, 1) := by decide +kernel
theorem dX9_at_26 : decode cX9_at 26 = .ok (.laload, 1) := by decide +kernel
theorem dX9_at_27 : decode cX9_at 27 = .ok (.goto 4, 3) := by decide +kernel
theorem dX9_at_30 : decode cX9_at 30 = .ok (.lconst 0, 1) := by decide +kernel
theorem dX9_at_31 : decode cX9_at 31 = .ok (.lreturn, 1) := by decide +kernel
theorem dX9_nothing_0 : decode cX9_nothing 0 = .ok (.aload_n 0, 1) := by decide +kernel
theorem dX9_nothing_1 : decode cX9_nothing 1 = .ok (.iconst 0, 1) := by decide +kernel
theorem dX9_nothing_2 : decode cX9_nothing 2 = .ok (.putfield 15, 3) := by decide +kernel
theorem dX9_nothing_5 : decode cX9_nothing 5 = .ok (.return_, 1) := by decide +kernel
theorem dX9_one_0 : decode cX9_one 0 = .ok (.aload_n 0, 1) := by decide +kernel
theorem dX9_one_1 : decode cX9_one 1 = .ok (.getfield 9, 3) := by decide +kernel
theorem dX9_one_4 : decode cX9_one 4 = .ok (.iconst 0, 1) := by decide +kernel
theorem dX9_one_5 : decode cX9_one 5 = .ok (.lload_n 1, 1) := by decide +kernel
theorem dX9_one_6 : decode cX9_one 6 = .ok (.lastore, 1) := by decide +kernel
theorem dX9_one_7 : decode cX9_one 7 = .ok (.aload_n 0, 1) := by decide +kernel
theorem dX9_one_8 : decode cX9_one 8 = .ok (.iconst 1, 1) := by decide +kernel
theorem dX9_one_9 : decode cX9_one 9 = .ok (.putfield 15, 3) := by decide +kernel
theorem dX9_one_12 : decode cX9_one 12 = .ok (.return_, 1) := by decide +kernel
theorem dX9_two_0 : decode cX9_two 0 = .ok (.aload_n 0, 1) := by decide +kernel
theorem dX9_two_1 : decode cX9_two 1 = .ok (.getfield 9, 3) := by decide +kernel
theorem dX9_two_4 : decode cX9_two 4 = .ok (.iconst 0, 1) := by decide +kernel
theorem dX9_two_5 : decode cX9_two 5 = .ok (.lload_n 1, 1) := by decide +kernel
theorem dX9_two_6 : decode cX9_two 6 = .ok (.lastore, 1) := by decide +kernel
theorem dX9_two_7 : decode cX9_two 7 = .ok (.aload_n 0, 1) := by decide +kernel
theorem dX9_two_8 : decode cX9_two 8 = .ok (.getfield 9, 3) := by decide +kernel
theorem dX9_two_11 : decode cX9_two 11 = .ok (.iconst 1, 1) := by decide +kernel
theorem dX9_two_12 : decode cX9_two 12 = .ok (.lload_n 3, 1) := by decide +kernel
theorem dX9_two_13 : decode cX9_two 13 = .ok (.lastore, 1) := by decide +kernel
theorem dX9_two_14 : decode cX9_two 14 = .ok (.aload_n 0, 1) := by decide +kernel
theorem dX9_two_15 : decode cX9_two 15 = .ok (.iconst 2, 1) := by decide +kernel
theorem dX9_two_16 : decode cX9_two 16 = .ok (.putfield 15, 3) := by decide +kernel
theorem dX9_two_19 : decode cX9_two 19 = .ok (.return_, 1) := by decide +kernel
theorem dX9_these_0 : decode cX9_these 0 = .ok (.aload_n 0, 1) := by decide +kernel
theorem dX9_these_1 : decode cX9_these 1 = .ok (.iconst 0, 1) := by decide +kernel
theorem dX9_these_2 : decode cX9_these 2 = .ok (.putfield 15, 3) := by decide +kernel
theorem dX9_these_5 : decode cX9_these 5 = .ok (.iconst 0, 1) := by decide +kernel
theorem dX9_these_6 : decode cX9_these 6 = .ok (.istore_n 3, 1) := by decide +kernel
theorem dX9_these_7 : decode cX9_these 7 = .ok (.iload_n 3, 1) := by decide +kernel
theorem dX9_these_8 : decode cX9_these 8 = .ok (.iload_n 2, 1) := by decide +kernel
theorem dX9_these_9 : decode cX9_these 9 = .ok (.if_icmp .ge 41, 3) := by decide +kernel
theorem dX9_these_12 : decode cX9_these 12 = .ok (.iload_n 3, 1) := by decide +kernel
theorem dX9_these_13 : decode cX9_these 13 = .ok (.aload_n 1, 1) := by decide +kernel
theorem dX9_these_14 : decode cX9_these 14 = .ok (.arraylength, 1) := by decide +kernel
theorem dX9_these_15 : decode cX9_these 15 = .ok (.if_icmp .ge 35, 3) := by decide +kernel
theorem dX9_these_18 : decode cX9_these 18 = .ok (.iload_n 3, 1) := by decide +kernel
theorem dX9_these_19 : decode cX9_these 19 = .ok (.aload_n 0, 1) := by decide +kernel
theorem dX9_these_20 : decode cX9_these 20 = .ok (.getfield 9, 3) := by decide +kernel
theorem dX9_these_23 : decode cX9_these 23 = .ok (.arraylength, 1) := by decide +kernel
theorem dX9_these_24 : decode cX9_these 24 = .ok (.if_icmp .ge 26, 3) := by decide +kernel
theorem dX9_these_27 : decode cX9_these 27 = .ok (.aload_n 0, 1) := by decide +kernel
theorem dX9_these_28 : decode cX9_these 28 = .ok (.getfield 9, 3) := by decide +kernel
theorem dX9_these_31 : decode cX9_these 31 = .ok (.iload_n 3, 1) := by decide +kernel
theorem dX9_these_32 : decode cX9_these 32 = .ok (.aload_n 1, 1) := by decide +kernel
theorem dX9_these_33 : decode cX9_these 33 = .ok (.iload_n 3, 1) := by decide +kernel
theorem dX9_these_34 : decode cX9_these 34 = .ok (.iaload, 1) := by decide +kernel
theorem dX9_these_35 : decode cX9_these 35 = .ok (.i2l, 1) := by decide +kernel
theorem dX9_these_36 : decode cX9_these 36 = .ok (.lastore, 1) := by decide +kernel
theorem dX9_these_37 : decode cX9_these 37 = .ok (.aload_n 0, 1) := by decide +kernel
theorem dX9_these_38 : decode cX9_these 38 = .ok (.iload_n 3, 1) := by decide +kernel
theorem dX9_these_39 : decode cX9_these 39 = .ok (.iconst 1, 1) := by decide +kernel
theorem dX9_these_40 : decode cX9_these 40 = .ok (.iadd, 1) := by decide +kernel
theorem dX9_these_41 : decode cX9_these 41 = .ok (.putfield 15, 3) := by decide +kernel
theorem dX9_these_44 : decode cX9_these 44 = .ok (.iinc 3 1, 3) := by decide +kernel
theorem dX9_these_47 : decode cX9_these 47 = .ok (.goto (-40), 3) := by decide +kernel
theorem dX9_these_50 : decode cX9_these 50 = .ok (.return_, 1) := by decide +kernel
theorem dX10_init_0 : decode cX10_init 0 = .ok (.aload_n 0, 1) := by decide +kernel
theorem dX10_init_1 : decode cX10_init 1 = .ok (.invokespecial 3, 3) := by decide +kernel
theorem dX10_init_4 : decode cX10_init 4 = .ok (.aload_n 0, 1) := by decide +kernel
theorem dX10_init_5 : decode cX10_init 5 = .ok (.bipush 8, 2) := by decide +kernel
theorem dX10_init_7 : decode cX10_init 7 = .ok (.newarray .int, 2) := by decide +kernel
theorem dX10_init_9 : decode cX10_init 9 = .ok (.putfield 9, 3) := by decide +kernel
theorem dX10_init_12 : decode cX10_init 12 = .ok (.aload_n 0, 1) := by decide +kernel
theorem dX10_init_13 : decode cX10_init 13 = .ok (.bipush 8, 2) := by decide +kernel
theorem dX10_init_15 : decode cX10_init 15 = .ok (.newarray .int, 2) := by decide +kernel
theorem dX10_init_17 : decode cX10_init 17 = .ok (.putfield 15, 3) := by decide +kernel
theorem dX10_init_20 : decode cX10_init 20 = .ok (.return_, 1) := by decide +kernel
theorem dX10_read_0 : decode cX10_read 0 = .ok (.aload_n 1, 1) := by decide +kernel
theorem dX10_read_1 : decode cX10_read 1 = .ok (.invokevirtual 18, 3) := by decide +kernel
theorem dX10_read_4 : decode cX10_read 4 = .ok (.ifCond .ne 5, 3) := by decide +kernel
theorem dX10_read_7 : decode cX10_read 7 = .ok (.iconst 0, 1) := by decide +kernel
theorem dX10_read_8 : decode cX10_read 8 = .ok (.ireturn, 1) := by decide +kernel
theorem dX10_read_9 : decode cX10_read 9 = .ok (.aload_n 1, 1) := by decide +kernel
theorem dX10_read_10 : decode cX10_read 10 = .ok (.invokevirtual 18, 3) := by decide +kernel
theorem dX10_read_13 : decode cX10_read 13 = .ok (.bipush 47, 2) := by decide +kernel
theorem dX10_read_15 : decode cX10_read 15 = .ok (.invokestatic 24, 3) := by decide +kernel
theorem dX10_read_18 : decode cX10_read 18 = .ok (.istore_n 2, 1) := by decide +kernel
theorem dX10_read_19 : decode cX10_read 19 = .ok (.iconst 0, 1) := by decide +kernel
theorem dX10_read_20 : decode cX10_read 20 = .ok (.istore_n 3, 1) := by decide +kernel
theorem dX10_read_21 : decode cX10_read 21 = .ok (.iconst 0, 1) := by decide +kernel
theorem dX10_read_22 : decode cX10_read 22 = .ok (.istore 4, 2) := by decide +kernel
theorem dX10_read_24 : decode cX10_read 24 = .ok (.iload 4, 2) := by decide +kernel
theorem dX10_read_26 : decode cX10_read 26 = .ok (.bipush 8, 2) := by decide +kernel
theorem dX10_read_28 : decode cX10_read 28 = .ok (.if_icmp .ge 105, 3) := by decide +kernel
theorem dX10_read_31 : decode cX10_read 31 = .ok (.aload_n 0, 1) := by decide +kernel
theorem dX10_read_32 : decode cX10_read 32 = .ok (.getfield 30, 3) := by decide +kernel
theorem dX10_read_35 : decode cX10_read 35 = .ok (.iload 4, 2) := by decide +kernel
theorem dX10_read_37 : decode cX10_read 37 = .ok (.iadd, 1) := by decide +kernel
theorem dX10_read_38 : decode cX10_read 38 = .ok (.bipush 8, 2) := by decide +kernel
theorem dX10_read_40 : decode cX10_read 40 = .ok (.if_icmp .ge 93, 3) := by decide +kernel
theorem dX10_read_43 : decode cX10_read 43 = .ok (.aload_n 0, 1) := by decide +kernel
theorem dX10_read_44 : decode cX10_read 44 = .ok (.aload_n 1, 1) := by decide +kernel
theorem dX10_read_45 : decode cX10_read 45 = .ok (.iload_n 3, 1) := by decide +kernel
theorem dX10_read_46 : decode cX10_read 46 = .ok (.iload_n 2, 1) := by decide +kernel
theorem dX10_read_47 : decode cX10_read 47 = .ok (.aload_n 0, 1) := by decide +kernel
theorem dX10_read_48 : decode cX10_read 48 = .ok (.getfield 30, 3) := by decide +kernel
theorem dX10_read_51 : decode cX10_read 51 = .ok (.iload 4, 2) := by decide +kernel
theorem dX10_read_53 : decode cX10_read 53 = .ok (.iadd, 1) := by decide +kernel
theorem dX10_read_54 : decode cX10_read 54 = .ok (.invokevirtual 33, 3) := by decide +kernel
theorem dX10_read_57 : decode cX10_read 57 = .ok (.istore 5, 2) := by decide +kernel
theorem dX10_read_59 : decode cX10_read 59 = .ok (.iload 5, 2) := by decide +kernel
theorem dX10_read_61 : decode cX10_read 61 = .ok (.ifCond .ge 6, 3) := by decide +kernel
theorem dX10_read_64 : decode cX10_read 64 = .ok (.iload 5, 2) := by decide +kernel
theorem dX10_read_66 : decode cX10_read 66 = .ok (.ireturn, 1) := by decide +kernel
theorem dX10_read_67 : decode cX10_read 67 = .ok (.iload 5, 2) := by decide +kernel
theorem dX10_read_69 : decode cX10_read 69 = .ok (.iload_n 2, 1) := by decide +kernel
theorem dX10_read_70 : decode cX10_read 70 = .ok (.if_icmp .lt 30, 3) := by decide +kernel
theorem dX10_read_73 : decode cX10_read 73 = .ok (.aload_n 1, 1) := by decide +kernel
theorem dX10_read_74 : decode cX10_read 74 = .ok (.invokevirtual 18, 3) := by decide +kernel
theorem dX10_read_77 : decode cX10_read 77 = .ok (.bipush 47, 2) := by decide +kernel
theorem dX10_read_79 : decode cX10_read 79 = .ok (.if_icmp .gt 21, 3) := by decide +kernel
theorem dX10_read_82 : decode cX10_read 82 = .ok (.aload_n 0, 1) := by decide +kernel
theorem dX10_read_83 : decode cX10_read 83 = .ok (.dup, 1) := by decide +kernel
theorem dX10_read_84 : decode cX10_read 84 = .ok (.getfield 30, 3) := by decide +kernel
theorem dX10_read_87 : decode cX10_read 87 = .ok (.iload 4, 2) := by decide +kernel
theorem dX10_read_89 : decode cX10_read 89 = .ok (.iconst 1, 1) := by decide +kernel
theorem dX10_read_90 : decode cX10_read 90 = .ok (.iadd, 1) := by decide +kernel
theorem dX10_read_91 : decode cX10_read 91 = .ok (.iadd, 1) := by decide +kernel
theorem dX10_read_92 : decode cX10_read 92 = .ok (.putfield 30, 3) := by decide +kernel
theorem dX10_read_95 : decode cX10_read 95 = .ok (.iload 4, 2) := by decide +kernel
theorem dX10_read_97 : decode cX10_read 97 = .ok (.iconst 1, 1) := by decide +kernel
theorem dX10_read_98 : decode cX10_read 98 = .ok (.iadd, 1) := by decide +kernel
theorem dX10_read_99 : decode cX10_read 99 = .ok (.ireturn, 1) := by decide +kernel
theorem dX10_read_100 : decode cX10_read 100 = .ok (.iload 5, 2) := by decide +kernel
theorem dX10_read_102 : decode cX10_read 102 = .ok (.iload_n 2, 1) := by decide +kernel
theorem dX10_read_103 : decode cX10_read 103 = .ok (.if_icmp .ge 14, 3) := by decide +kernel
theorem dX10_read_106 : decode cX10_read 106 = .ok (.aload_n 1, 1) := by decide +kernel
theorem dX10_read_107 : decode cX10_read 107 = .ok (.iload 5, 2) := by decide +kernel
theorem dX10_read_109 : decode cX10_read 109 = .ok (.invokevirtual 37, 3) := by decide +kernel
theorem dX10_read_112 : decode cX10_read 112 = .ok (.bipush 59, 2) := by decide +kernel
theorem dX10_read_114 : decode cX10_read 114 = .ok (.if_icmp .eq 8, 3) := by decide +kernel
theorem dX10_read_117 : decode cX10_read 117 = .ok (.iconst (-1), 1) := by decide +kernel
theorem dX10_read_118 : decode cX10_read 118 = .ok (.iload 5, 2) := by decide +kernel
theorem dX10_read_120 : decode cX10_read 120 = .ok (.isub, 1) := by decide +kernel
theorem dX10_read_121 : decode cX10_read 121 = .ok (.ireturn, 1) := by decide +kernel
theorem dX10_read_122 : decode cX10_read 122 = .ok (.iload 5, 2) := by decide +kernel
theorem dX10_read_124 : decode cX10_read 124 = .ok (.iconst 1, 1) := by decide +kernel
theorem dX10_read_125 : decode cX10_read 125 = .ok (.iadd, 1) := by decide +kernel
theorem dX10_read_126 : decode cX10_read 126 = .ok (.istore_n 3, 1) := by decide +kernel
theorem dX10_read_127 : decode cX10_read 127 = .ok (.iinc 4 1, 3) := by decide +kernel
theorem dX10_read_130 : decode cX10_read 130 = .ok (.goto (-106), 3) := by decide +kernel
theorem dX10_read_133 : decode cX10_read 133 = .ok (.iconst (-1), 1) := by decide +kernel
theorem dX10_read_134 : decode cX10_read 134 = .ok (.iload_n 3, 1) := by decide +kernel
theorem dX10_read_135 : decode cX10_read 135 = .ok (.isub, 1) := by decide +kernel
theorem dX10_read_136 : decode cX10_read 136 = .ok (.ireturn, 1) := by decide +kernel
theorem dX10_readLine_0 : decode cX10_readLine 0 = .ok (.aload_n 1, 1) := by decide +kernel
theorem dX10_readLine_1 : decode cX10_readLine 1 = .ok (.iload_n 2, 1) := by decide +kernel
theorem dX10_readLine_2 : decode cX10_readLine 2 = .ok (.iconst 2, 1) := by decide +kernel
theorem dX10_readLine_3 : decode cX10_readLine 3 = .ok (.iload_n 3, 1) := by decide +kernel
theorem dX10_readLine_4 : decode cX10_readLine 4 = .ok (.invokevirtual 41, 3) := by decide +kernel
theorem dX10_readLine_7 : decode cX10_readLine 7 = .ok (.istore 5, 2) := by decide +kernel
theorem dX10_readLine_9 : decode cX10_readLine 9 = .ok (.iload 5, 2) := by decide +kernel
theorem dX10_readLine_11 : decode cX10_readLine 11 = .ok (.ifCond .eq 15, 3) := by decide +kernel
theorem dX10_readLine_14 : decode cX10_readLine 14 = .ok (.iload 4, 2) := by decide +kernel
theorem dX10_readLine_16 : decode cX10_readLine 16 = .ok (.ifCond .lt 10, 3) := by decide +kernel
theorem dX10_readLine_19 : decode cX10_readLine 19 = .ok (.iload 4, 2) := by decide +kernel
theorem dX10_readLine_21 : decode cX10_readLine 21 = .ok (.bipush 8, 2) := by decide +kernel
theorem dX10_readLine_23 : decode cX10_readLine 23 = .ok (.if_icmp .lt 7, 3) := by decide +kernel
theorem dX10_readLine_26 : decode cX10_readLine 26 = .ok (.iconst (-1), 1) := by decide +kernel
theorem dX10_readLine_27 : decode cX10_readLine 27 = .ok (.iload_n 2, 1) := by decide +kernel
theorem dX10_readLine_28 : decode cX10_readLine 28 = .ok (.isub, 1) := by decide +kernel
theorem dX10_readLine_29 : decode cX10_readLine 29 = .ok (.ireturn, 1) := by decide +kernel
theorem dX10_readLine_30 : decode cX10_readLine 30 = .ok (.iload_n 2, 1) := by decide +kernel
theorem dX10_readLine_31 : decode cX10_readLine 31 = .ok (.iload 5, 2) := by decide +kernel
theorem dX10_readLine_33 : decode cX10_readLine 33 = .ok (.iadd, 1) := by decide +kernel
theorem dX10_readLine_34 : decode cX10_readLine 34 = .ok (.istore 6, 2) := by decide +kernel
theorem dX10_readLine_36 : decode cX10_readLine 36 = .ok (.aload_n 0, 1) := by decide +kernel
theorem dX10_readLine_37 : decode cX10_readLine 37 = .ok (.getfield 9, 3) := by decide +kernel
theorem dX10_readLine_40 : decode cX10_readLine 40 = .ok (.iload 4, 2) := by decide +kernel
theorem dX10_readLine_42 : decode cX10_readLine 42 = .ok (.aload_n 1, 1) := by decide +kernel
theorem dX10_readLine_43 : decode cX10_readLine 43 = .ok (.iload_n 2, 1) := by decide +kernel
theorem dX10_readLine_44 : decode cX10_readLine 44 = .ok (.iload 5, 2) := by decide +kernel
theorem dX10_readLine_46 : decode cX10_readLine 46 = .ok (.invokevirtual 45, 3) := by decide +kernel
theorem dX10_readLine_49 : decode cX10_readLine 49 = .ok (.iastore, 1) := by decide +kernel
theorem dX10_readLine_50 : decode cX10_readLine 50 = .ok (.aload_n 0, 1) := by decide +kernel
theorem dX10_readLine_51 : decode cX10_readLine 51 = .ok (.getfield 9, 3) := by decide +kernel
theorem dX10_readLine_54 : decode cX10_readLine 54 = .ok (.iload 4, 2) := by decide +kernel
theorem dX10_readLine_56 : decode cX10_readLine 56 = .ok (.iaload, 1) := by decide +kernel
theorem dX10_readLine_57 : decode cX10_readLine 57 = .ok (.ifCond .ne 10, 3) := by decide +kernel
theorem dX10_readLine_60 : decode cX10_readLine 60 = .ok (.iconst (-1), 1) := by decide +kernel
theorem dX10_readLine_61 : decode cX10_readLine 61 = .ok (.iload 6, 2) := by decide +kernel
theorem dX10_readLine_63 : decode cX10_readLine 63 = .ok (.iconst 1, 1) := by decide +kernel
theorem dX10_readLine_64 : decode cX10_readLine 64 = .ok (.isub, 1) := by decide +kernel
theorem dX10_readLine_65 : decode cX10_readLine 65 = .ok (.isub, 1) := by decide +kernel
theorem dX10_readLine_66 : decode cX10_readLine 66 = .ok (.ireturn, 1) := by decide +kernel
theorem dX10_readLine_67 : decode cX10_readLine 67 = .ok (.iload 6, 2) := by decide +kernel
theorem dX10_readLine_69 : decode cX10_readLine 69 = .ok (.iload_n 3, 1) := by decide +kernel
theorem dX10_readLine_70 : decode cX10_readLine 70 = .ok (.if_icmp .ge 14, 3) := by decide +kernel
theorem dX10_readLine_73 : decode cX10_readLine 73 = .ok (.aload_n 1, 1) := by decide +kernel
theorem dX10_readLine_74 : decode cX10_readLine 74 = .ok (.iload 6, 2) := by decide +kernel
theorem dX10_readLine_76 : decode cX10_readLine 76 = .ok (.invokevirtual 37, 3) := by decide +kernel
theorem dX10_readLine_79 : decode cX10_readLine 79 = .ok (.bipush 44, 2) := by decide +kernel
theorem dX10_readLine_81 : decode cX10_readLine 81 = .ok (.if_icmp .eq 8, 3) := by decide +kernel
theorem dX10_readLine_84 : decode cX10_readLine 84 = .ok (.iconst (-1), 1) := by decide +kernel
theorem dX10_readLine_85 : decode cX10_readLine 85 = .ok (.iload 6, 2) := by decide +kernel
theorem dX10_readLine_87 : decode cX10_readLine 87 = .ok (.isub, 1) := by decide +kernel
theorem dX10_readLine_88 : decode cX10_readLine 88 = .ok (.ireturn, 1) := by decide +kernel
theorem dX10_readLine_89 : decode cX10_readLine 89 = .ok (.aload_n 1, 1) := by decide +kernel
theorem dX10_readLine_90 : decode cX10_readLine 90 = .ok (.iload 6, 2) := by decide +kernel
theorem dX10_readLine_92 : decode cX10_readLine 92 = .ok (.iconst 1, 1) := by decide +kernel
theorem dX10_readLine_93 : decode cX10_readLine 93 = .ok (.iadd, 1) := by decide +kernel
theorem dX10_readLine_94 : decode cX10_readLine 94 = .ok (.iconst 2, 1) := by decide +kernel
theorem dX10_readLine_95 : decode cX10_readLine 95 = .ok (.iload_n 3, 1) := by decide +kernel
theorem dX10_readLine_96 : decode cX10_readLine 96 = .ok (.invokevirtual 41, 3) := by decide +kernel
theorem dX10_readLine_99 : decode cX10_readLine 99 = .ok (.istore 5, 2) := by decide +kernel
theorem dX10_readLine_101 : decode cX10_readLine 101 = .ok (.iload 5, 2) := by decide +kernel
theorem dX10_readLine_103 : decode cX10_readLine 103 = .ok (.ifCond .ne 10, 3) := by decide +kernel
theorem dX10_readLine_106 : decode cX10_readLine 106 = .ok (.iconst (-1), 1) := by decide +kernel
theorem dX10_readLine_107 : decode cX10_readLine 107 = .ok (.iload 6, 2) := by decide +kernel
theorem dX10_readLine_109 : decode cX10_readLine 109 = .ok (.iconst 1, 1) := by decide +kernel
theorem dX10_readLine_110 : decode cX10_readLine 110 = .ok (.iadd, 1) := by decide +kernel
theorem dX10_readLine_111 : decode cX10_readLine 111 = .ok (.isub, 1) := by decide +kernel
theorem dX10_readLine_112 : decode cX10_readLine 112 = .ok (.ireturn, 1) := by decide +kernel
theorem dX10_readLine_113 : decode cX10_readLine 113 = .ok (.aload_n 0, 1) := by decide +kernel
theorem dX10_readLine_114 : decode cX10_readLine 114 = .ok (.getfield 15, 3) := by decide +kernel
theorem dX10_readLine_117 : decode cX10_readLine 117 = .ok (.iload 4, 2) := by decide +kernel
theorem dX10_readLine_119 : decode cX10_readLine 119 = .ok (.aload_n 1, 1) := by decide +kernel
theorem dX10_readLine_120 : decode cX10_readLine 120 = .ok (.iload 6, 2) := by decide +kernel
theorem dX10_readLine_122 : decode cX10_readLine 122 = .ok (.iconst 1, 1) := by decide +kernel
theorem dX10_readLine_123 : decode cX10_readLine 123 = .ok (.iadd, 1) := by decide +kernel
theorem dX10_readLine_124 : decode cX10_readLine 124 = .ok (.iload 5, 2) := by decide +kernel
theorem dX10_readLine_126 : decode cX10_readLine 126 = .ok (.invokevirtual 45, 3) := by decide +kernel
theorem dX10_readLine_129 : decode cX10_readLine 129 = .ok (.iastore, 1) := by decide +kernel
theorem dX10_readLine_130 : decode cX10_readLine 130 = .ok (.iload 6, 2) := by decide +kernel
theorem dX10_readLine_132 : decode cX10_readLine 132 = .ok (.iconst 1, 1) := by decide +kernel
theorem dX10_readLine_133 : decode cX10_readLine 133 = .ok (.iadd, 1) := by decide +kernel
theorem dX10_readLine_134 : decode cX10_readLine 134 = .ok (.iload 5, 2) := by decide +kernel
theorem dX10_readLine_136 : decode cX10_readLine 136 = .ok (.iadd, 1) := by decide +kernel
theorem dX10_readLine_137 : decode cX10_readLine 137 = .ok (.ireturn, 1) := by decide +kernel
theorem dX10_size_0 : decode cX10_size 0 = .ok (.aload_n 0, 1) := by decide +kernel
theorem dX10_size_1 : decode cX10_size 1 = .ok (.getfield 30, 3) := by decide +kernel
theorem dX10_size_4 : decode cX10_size 4 = .ok (.ireturn, 1) := by decide +kernel
theorem dX10_has_0 : decode cX10_has 0 = .ok (.iload_n 1, 1) := by decide +kernel
theorem dX10_has_1 : decode cX10_has 1 = .ok (.ifCond .lt 21, 3) := by decide +kernel
theorem dX10_has_4 : decode cX10_has 4 = .ok (.iload_n 1, 1) := by decide +kernel
theorem dX10_has_5 : decode cX10_has 5 = .ok (.aload_n 0, 1) := by decide +kernel
theorem dX10_has_6 : decode cX10_has 6 = .ok (.getfield 30, 3) := by decide +kernel
theorem dX10_has_9 : decode cX10_has 9 = .ok (.if_icmp .ge 13, 3) := by decide +kernel
theorem dX10_has_12 : decode cX10_has 12 = .ok (.iload_n 1, 1) := by decide +kernel
theorem dX10_has_13 : decode cX10_has 13 = .ok (.bipush 8, 2) := by decide +kernel
theorem dX10_has_15 : decode cX10_has 15 = .ok (.if_icmp .ge 7, 3) := by decide +kernel
theorem dX10_has_18 : decode cX10_has 18 = .ok (.iconst 1, 1) := by decide +kernel
theorem dX10_has_19 : decode cX10_has 19 = .ok (.goto 4, 3) := by decide +kernel
theorem dX10_has_22 : decode cX10_has 22 = .ok (.iconst 0, 1) := by decide +kernel
theorem dX10_has_23 : decode cX10_has 23 = .ok (.ireturn, 1) := by decide +kernel
theorem dX10_peopleOf_0 : decode cX10_peopleOf 0 = .ok (.aload_n 0, 1) := by decide +kernel
theorem dX10_peopleOf_1 : decode cX10_peopleOf 1 = .ok (.iload_n 1, 1) := by decide +kernel
theorem dX10_peopleOf_2 : decode cX10_peopleOf 2 = .ok (.invokevirtual 48, 3) := by decide +kernel
theorem dX10_peopleOf_5 : decode cX10_peopleOf 5 = .ok (.ifCond .eq 12, 3) := by decide +kernel
theorem dX10_peopleOf_8 : decode cX10_peopleOf 8 = .ok (.aload_n 0, 1) := by decide +kernel
theorem dX10_peopleOf_9 : decode cX10_peopleOf 9 = .ok (.getfield 9, 3) := by decide +kernel
theorem dX10_peopleOf_12 : decode cX10_peopleOf 12 = .ok (.iload_n 1, 1) := by decide +kernel
theorem dX10_peopleOf_13 : decode cX10_peopleOf 13 = .ok (.iaload, 1) := by decide +kernel
theorem dX10_peopleOf_14 : decode cX10_peopleOf 14 = .ok (.goto 4, 3) := by decide +kernel
theorem dX10_peopleOf_17 : decode cX10_peopleOf 17 = .ok (.iconst 0, 1) := by decide +kernel
theorem dX10_peopleOf_18 : decode cX10_peopleOf 18 = .ok (.ireturn, 1) := by decide +kernel
theorem dX10_purseOf_0 : decode cX10_purseOf 0 = .ok (.aload_n 0, 1) := by decide +kernel
theorem dX10_purseOf_1 : decode cX10_purseOf 1 = .ok (.iload_n 1, 1) := by decide +kernel
theorem dX10_purseOf_2 : decode cX10_purseOf 2 = .ok (.invokevirtual 48, 3) := by decide +kernel
theorem dX10_purseOf_5 : decode cX10_purseOf 5 = .ok (.ifCond .eq 12, 3) := by decide +kernel
theorem dX10_purseOf_8 : decode cX10_purseOf 8 = .ok (.aload_n 0, 1) := by decide +kernel
theorem dX10_purseOf_9 : decode cX10_purseOf 9 = .ok (.getfield 15, 3) := by decide +kernel
theorem dX10_purseOf_12 : decode cX10_purseOf 12 = .ok (.iload_n 1, 1) := by decide +kernel
theorem dX10_purseOf_13 : decode cX10_purseOf 13 = .ok (.iaload, 1) := by decide +kernel
theorem dX10_purseOf_14 : decode cX10_purseOf 14 = .ok (.goto 4, 3) := by decide +kernel
theorem dX10_purseOf_17 : decode cX10_purseOf 17 = .ok (.iconst 0, 1) := by decide +kernel
theorem dX10_purseOf_18 : decode cX10_purseOf 18 = .ok (.ireturn, 1) := by decide +kernel
theorem dX10_everyone_0 : decode cX10_everyone 0 = .ok (.iconst 0, 1) := by decide +kernel
theorem dX10_everyone_1 : decode cX10_everyone 1 = .ok (.istore_n 1, 1) := by decide +kernel
theorem dX10_everyone_2 : decode cX10_everyone 2 = .ok (.iconst 0, 1) := by decide +kernel
theorem dX10_everyone_3 : decode cX10_everyone 3 = .ok (.istore_n 2, 1) := by decide +kernel
theorem dX10_everyone_4 : decode cX10_everyone 4 = .ok (.iload_n 2, 1) := by decide +kernel
theorem dX10_everyone_5 : decode cX10_everyone 5 = .ok (.aload_n 0, 1) := by decide +kernel
theorem dX10_everyone_6 : decode cX10_everyone 6 = .ok (.getfield 30, 3) := by decide +kernel
theorem dX10_everyone_9 : decode cX10_everyone 9 = .ok (.if_icmp .ge 17, 3) := by decide +kernel
theorem dX10_everyone_12 : decode cX10_everyone 12 = .ok (.iload_n 1, 1) := by decide +kernel
theorem dX10_everyone_13 : decode cX10_everyone 13 = .ok (.aload_n 0, 1) := by decide +kernel
theorem dX10_everyone_14 : decode cX10_everyone 14 = .ok (.iload_n 2, 1) := by decide +kernel
theorem dX10_everyone_15 : decode cX10_everyone 15 = .ok (.invokevirtual 52, 3) := by decide +kernel
theorem dX10_everyone_18 : decode cX10_everyone 18 = .ok (.iadd, 1) := by decide +kernel
theorem dX10_everyone_19 : decode cX10_everyone 19 = .ok (.istore_n 1, 1) := by decide +kernel
theorem dX10_everyone_20 : decode cX10_everyone 20 = .ok (.iinc 2 1, 3) := by decide +kernel
theorem dX10_everyone_23 : decode cX10_everyone 23 = .ok (.goto (-19), 3) := by decide +kernel
theorem dX10_everyone_26 : decode cX10_everyone 26 = .ok (.iload_n 1, 1) := by decide +kernel
theorem dX10_everyone_27 : decode cX10_everyone 27 = .ok (.ireturn, 1) := by decide +kernel
theorem dX10_poorer_0 : decode cX10_poorer 0 = .ok (.iconst 0, 1) := by decide +kernel
theorem dX10_poorer_1 : decode cX10_poorer 1 = .ok (.istore_n 2, 1) := by decide +kernel
theorem dX10_poorer_2 : decode cX10_poorer 2 = .ok (.iconst 0, 1) := by decide +kernel
theorem dX10_poorer_3 : decode cX10_poorer 3 = .ok (.istore_n 3, 1) := by decide +kernel
theorem dX10_poorer_4 : decode cX10_poorer 4 = .ok (.iload_n 3, 1) := by decide +kernel
theorem dX10_poorer_5 : decode cX10_poorer 5 = .ok (.aload_n 0, 1) := by decide +kernel
theorem dX10_poorer_6 : decode cX10_poorer 6 = .ok (.getfield 30, 3) := by decide +kernel
theorem dX10_poorer_9 : decode cX10_poorer 9 = .ok (.if_icmp .ge 26, 3) := by decide +kernel
theorem dX10_poorer_12 : decode cX10_poorer 12 = .ok (.aload_n 0, 1) := by decide +kernel
theorem dX10_poorer_13 : decode cX10_poorer 13 = .ok (.iload_n 3, 1) := by decide +kernel
theorem dX10_poorer_14 : decode cX10_poorer 14 = .ok (.invokevirtual 55, 3) := by decide +kernel
theorem dX10_poorer_17 : decode cX10_poorer 17 = .ok (.iload_n 1, 1) := by decide +kernel
theorem dX10_poorer_18 : decode cX10_poorer 18 = .ok (.if_icmp .ge 11, 3) := by decide +kernel
theorem dX10_poorer_21 : decode cX10_poorer 21 = .ok (.iload_n 2, 1) := by decide +kernel
theorem dX10_poorer_22 : decode cX10_poorer 22 = .ok (.aload_n 0, 1) := by decide +kernel
theorem dX10_poorer_23 : decode cX10_poorer 23 = .ok (.iload_n 3, 1) := by decide +kernel
theorem dX10_poorer_24 : decode cX10_poorer 24 = .ok (.invokevirtual 52, 3) := by decide +kernel
theorem dX10_poorer_27 : decode cX10_poorer 27 = .ok (.iadd, 1) := by decide +kernel
theorem dX10_poorer_28 : decode cX10_poorer 28 = .ok (.istore_n 2, 1) := by decide +kernel
theorem dX10_poorer_29 : decode cX10_poorer 29 = .ok (.iinc 3 1, 3) := by decide +kernel
theorem dX10_poorer_32 : decode cX10_poorer 32 = .ok (.goto (-28), 3) := by decide +kernel
theorem dX10_poorer_35 : decode cX10_poorer 35 = .ok (.iload_n 2, 1) := by decide +kernel
theorem dX10_poorer_36 : decode cX10_poorer 36 = .ok (.ireturn, 1) := by decide +kernel
theorem dX10_poorerSorts_0 : decode cX10_poorerSorts 0 = .ok (.iconst 0, 1) := by decide +kernel
theorem dX10_poorerSorts_1 : decode cX10_poorerSorts 1 = .ok (.istore_n 2, 1) := by decide +kernel
theorem dX10_poorerSorts_2 : decode cX10_poorerSorts 2 = .ok (.iconst 0, 1) := by decide +kernel
theorem dX10_poorerSorts_3 : decode cX10_poorerSorts 3 = .ok (.istore_n 3, 1) := by decide +kernel
theorem dX10_poorerSorts_4 : decode cX10_poorerSorts 4 = .ok (.iload_n 3, 1) := by decide +kernel
theorem dX10_poorerSorts_5 : decode cX10_poorerSorts 5 = .ok (.aload_n 0, 1) := by decide +kernel
theorem dX10_poorerSorts_6 : decode cX10_poorerSorts 6 = .ok (.getfield 30, 3) := by decide +kernel
theorem dX10_poorerSorts_9 : decode cX10_poorerSorts 9 = .ok (.if_icmp .ge 24, 3) := by decide +kernel
theorem dX10_poorerSorts_12 : decode cX10_poorerSorts 12 = .ok (.aload_n 0, 1) := by decide +kernel
theorem dX10_poorerSorts_13 : decode cX10_poorerSorts 13 = .ok (.iload_n 3, 1) := by decide +kernel
theorem dX10_poorerSorts_14 : decode cX10_poorerSorts 14 = .ok (.invokevirtual 55, 3) := by decide +kernel
theorem dX10_poorerSorts_17 : decode cX10_poorerSorts 17 = .ok (.iload_n 1, 1) := by decide +kernel
theorem dX10_poorerSorts_18 : decode cX10_poorerSorts 18 = .ok (.if_icmp .ge 9, 3) := by decide +kernel
theorem dX10_poorerSorts_21 : decode cX10_poorerSorts 21 = .ok (.iload_n 2, 1) := by decide +kernel
theorem dX10_poorerSorts_22 : decode cX10_poorerSorts 22 = .ok (.iconst 1, 1) := by decide +kernel
theorem dX10_poorerSorts_23 : decode cX10_poorerSorts 23 = .ok (.iload_n 3, 1) := by decide +kernel
theorem dX10_poorerSorts_24 : decode cX10_poorerSorts 24 = .ok (.ishl, 1) := by decide +kernel
theorem dX10_poorerSorts_25 : decode cX10_poorerSorts 25 = .ok (.ior, 1) := by decide +kernel
theorem dX10_poorerSorts_26 : decode cX10_poorerSorts 26 = .ok (.istore_n 2, 1) := by decide +kernel
theorem dX10_poorerSorts_27 : decode cX10_poorerSorts 27 = .ok (.iinc 3 1, 3) := by decide +kernel
theorem dX10_poorerSorts_30 : decode cX10_poorerSorts 30 = .ok (.goto (-26), 3) := by decide +kernel
theorem dX10_poorerSorts_33 : decode cX10_poorerSorts 33 = .ok (.iload_n 2, 1) := by decide +kernel
theorem dX10_poorerSorts_34 : decode cX10_poorerSorts 34 = .ok (.ireturn, 1) := by decide +kernel
