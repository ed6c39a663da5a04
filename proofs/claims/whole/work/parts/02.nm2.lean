theorem dX0_init_0 : decode cX0_init 0 = .ok (.aload_n 0, 1) := by decide +kernel
theorem dX0_init_1 : decode cX0_init 1 = .ok (.invokespecial 3, 3) := by decide +kernel
theorem dX0_init_4 : decode cX0_init 4 = .ok (.aload_n 0, 1) := by decide +kernel
theorem dX0_init_5 : decode cX0_init 5 = .ok (.bipush 120, 2) := by decide +kernel
theorem dX0_init_7 : decode cX0_init 7 = .ok (.newarray .int, 2) := by decide +kernel
theorem dX0_init_9 : decode cX0_init 9 = .ok (.putfield 9, 3) := by decide +kernel
theorem dX0_init_12 : decode cX0_init 12 = .ok (.aload_n 0, 1) := by decide +kernel
theorem dX0_init_13 : decode cX0_init 13 = .ok (.bipush 120, 2) := by decide +kernel
theorem dX0_init_15 : decode cX0_init 15 = .ok (.newarray .int, 2) := by decide +kernel
theorem dX0_init_17 : decode cX0_init 17 = .ok (.putfield 15, 3) := by decide +kernel
theorem dX0_init_20 : decode cX0_init 20 = .ok (.aload_n 0, 1) := by decide +kernel
theorem dX0_init_21 : decode cX0_init 21 = .ok (.bipush 120, 2) := by decide +kernel
theorem dX0_init_23 : decode cX0_init 23 = .ok (.newarray .int, 2) := by decide +kernel
theorem dX0_init_25 : decode cX0_init 25 = .ok (.putfield 18, 3) := by decide +kernel
theorem dX0_init_28 : decode cX0_init 28 = .ok (.aload_n 0, 1) := by decide +kernel
theorem dX0_init_29 : decode cX0_init 29 = .ok (.bipush 120, 2) := by decide +kernel
theorem dX0_init_31 : decode cX0_init 31 = .ok (.newarray .int, 2) := by decide +kernel
theorem dX0_init_33 : decode cX0_init 33 = .ok (.putfield 21, 3) := by decide +kernel
theorem dX0_init_36 : decode cX0_init 36 = .ok (.aload_n 0, 1) := by decide +kernel
theorem dX0_init_37 : decode cX0_init 37 = .ok (.iconst 0, 1) := by decide +kernel
theorem dX0_init_38 : decode cX0_init 38 = .ok (.putfield 24, 3) := by decide +kernel
theorem dX0_init_41 : decode cX0_init 41 = .ok (.return_, 1) := by decide +kernel
theorem dX0_listReached_0 : decode cX0_listReached 0 = .ok (.aload_n 0, 1) := by decide +kernel
theorem dX0_listReached_1 : decode cX0_listReached 1 = .ok (.iconst 0, 1) := by decide +kernel
theorem dX0_listReached_2 : decode cX0_listReached 2 = .ok (.putfield 24, 3) := by decide +kernel
theorem dX0_listReached_5 : decode cX0_listReached 5 = .ok (.aload_n 0, 1) := by decide +kernel
theorem dX0_listReached_6 : decode cX0_listReached 6 = .ok (.getfield 15, 3) := by decide +kernel
theorem dX0_listReached_9 : decode cX0_listReached 9 = .ok (.iconst 0, 1) := by decide +kernel
theorem dX0_listReached_10 : decode cX0_listReached 10 = .ok (.invokestatic 28, 3) := by decide +kernel
theorem dX0_listReached_13 : decode cX0_listReached 13 = .ok (.aload_n 0, 1) := by decide +kernel
theorem dX0_listReached_14 : decode cX0_listReached 14 = .ok (.getfield 18, 3) := by decide +kernel
theorem dX0_listReached_17 : decode cX0_listReached 17 = .ok (.iconst 0, 1) := by decide +kernel
theorem dX0_listReached_18 : decode cX0_listReached 18 = .ok (.invokestatic 28, 3) := by decide +kernel
theorem dX0_listReached_21 : decode cX0_listReached 21 = .ok (.aload_n 0, 1) := by decide +kernel
theorem dX0_listReached_22 : decode cX0_listReached 22 = .ok (.getfield 21, 3) := by decide +kernel
theorem dX0_listReached_25 : decode cX0_listReached 25 = .ok (.iconst (-1), 1) := by decide +kernel
theorem dX0_listReached_26 : decode cX0_listReached 26 = .ok (.invokestatic 28, 3) := by decide +kernel
theorem dX0_listReached_29 : decode cX0_listReached 29 = .ok (.iconst 0, 1) := by decide +kernel
theorem dX0_listReached_30 : decode cX0_listReached 30 = .ok (.istore_n 3, 1) := by decide +kernel
theorem dX0_listReached_31 : decode cX0_listReached 31 = .ok (.iload_n 3, 1) := by decide +kernel
theorem dX0_listReached_32 : decode cX0_listReached 32 = .ok (.aload_n 2, 1) := by decide +kernel
theorem dX0_listReached_33 : decode cX0_listReached 33 = .ok (.arraylength, 1) := by decide +kernel
theorem dX0_listReached_34 : decode cX0_listReached 34 = .ok (.if_icmp .ge 17, 3) := by decide +kernel
theorem dX0_listReached_37 : decode cX0_listReached 37 = .ok (.aload_n 0, 1) := by decide +kernel
theorem dX0_listReached_38 : decode cX0_listReached 38 = .ok (.aload_n 1, 1) := by decide +kernel
theorem dX0_listReached_39 : decode cX0_listReached 39 = .ok (.aload_n 2, 1) := by decide +kernel
theorem dX0_listReached_40 : decode cX0_listReached 40 = .ok (.iload_n 3, 1) := by decide +kernel
theorem dX0_listReached_41 : decode cX0_listReached 41 = .ok (.laload, 1) := by decide +kernel
theorem dX0_listReached_42 : decode cX0_listReached 42 = .ok (.invokevirtual 34, 3) := by decide +kernel
theorem dX0_listReached_45 : decode cX0_listReached 45 = .ok (.iinc 3 1, 3) := by decide +kernel
theorem dX0_listReached_48 : decode cX0_listReached 48 = .ok (.goto (-17), 3) := by decide +kernel
theorem dX0_listReached_51 : decode cX0_listReached 51 = .ok (.iconst 0, 1) := by decide +kernel
theorem dX0_listReached_52 : decode cX0_listReached 52 = .ok (.istore_n 3, 1) := by decide +kernel
theorem dX0_listReached_53 : decode cX0_listReached 53 = .ok (.iload_n 3, 1) := by decide +kernel
theorem dX0_listReached_54 : decode cX0_listReached 54 = .ok (.aload_n 0, 1) := by decide +kernel
theorem dX0_listReached_55 : decode cX0_listReached 55 = .ok (.getfield 24, 3) := by decide +kernel
theorem dX0_listReached_58 : decode cX0_listReached 58 = .ok (.if_icmp .ge 70, 3) := by decide +kernel
theorem dX0_listReached_61 : decode cX0_listReached 61 = .ok (.iload_n 3, 1) := by decide +kernel
theorem dX0_listReached_62 : decode cX0_listReached 62 = .ok (.bipush 120, 2) := by decide +kernel
theorem dX0_listReached_64 : decode cX0_listReached 64 = .ok (.if_icmp .ge 64, 3) := by decide +kernel
theorem dX0_listReached_67 : decode cX0_listReached 67 = .ok (.aload_n 0, 1) := by decide +kernel
theorem dX0_listReached_68 : decode cX0_listReached 68 = .ok (.getfield 9, 3) := by decide +kernel
theorem dX0_listReached_71 : decode cX0_listReached 71 = .ok (.iload_n 3, 1) := by decide +kernel
theorem dX0_listReached_72 : decode cX0_listReached 72 = .ok (.iaload, 1) := by decide +kernel
theorem dX0_listReached_73 : decode cX0_listReached 73 = .ok (.istore 4, 2) := by decide +kernel
theorem dX0_listReached_75 : decode cX0_listReached 75 = .ok (.aload_n 1, 1) := by decide +kernel
theorem dX0_listReached_76 : decode cX0_listReached 76 = .ok (.iload 4, 2) := by decide +kernel
theorem dX0_listReached_78 : decode cX0_listReached 78 = .ok (.invokevirtual 38, 3) := by decide +kernel
theorem dX0_listReached_81 : decode cX0_listReached 81 = .ok (.lstore 5, 2) := by decide +kernel
theorem dX0_listReached_83 : decode cX0_listReached 83 = .ok (.aload_n 0, 1) := by decide +kernel
theorem dX0_listReached_84 : decode cX0_listReached 84 = .ok (.aload_n 1, 1) := by decide +kernel
theorem dX0_listReached_85 : decode cX0_listReached 85 = .ok (.aload_n 1, 1) := by decide +kernel
theorem dX0_listReached_86 : decode cX0_listReached 86 = .ok (.iload 4, 2) := by decide +kernel
theorem dX0_listReached_88 : decode cX0_listReached 88 = .ok (.invokevirtual 44, 3) := by decide +kernel
theorem dX0_listReached_91 : decode cX0_listReached 91 = .ok (.invokevirtual 34, 3) := by decide +kernel
theorem dX0_listReached_94 : decode cX0_listReached 94 = .ok (.aload_n 0, 1) := by decide +kernel
theorem dX0_listReached_95 : decode cX0_listReached 95 = .ok (.aload_n 1, 1) := by decide +kernel
theorem dX0_listReached_96 : decode cX0_listReached 96 = .ok (.lload 5, 2) := by decide +kernel
theorem dX0_listReached_98 : decode cX0_listReached 98 = .ok (.invokevirtual 34, 3) := by decide +kernel
theorem dX0_listReached_101 : decode cX0_listReached 101 = .ok (.lload 5, 2) := by decide +kernel
theorem dX0_listReached_103 : decode cX0_listReached 103 = .ok (.invokestatic 47, 3) := by decide +kernel
theorem dX0_listReached_106 : decode cX0_listReached 106 = .ok (.iconst 2, 1) := by decide +kernel
theorem dX0_listReached_107 : decode cX0_listReached 107 = .ok (.if_icmp .ne 15, 3) := by decide +kernel
theorem dX0_listReached_110 : decode cX0_listReached 110 = .ok (.aload_n 0, 1) := by decide +kernel
theorem dX0_listReached_111 : decode cX0_listReached 111 = .ok (.getfield 18, 3) := by decide +kernel
theorem dX0_listReached_114 : decode cX0_listReached 114 = .ok (.aload_n 1, 1) := by decide +kernel
theorem dX0_listReached_115 : decode cX0_listReached 115 = .ok (.lload 5, 2) := by decide +kernel
theorem dX0_listReached_117 : decode cX0_listReached 117 = .ok (.invokevirtual 51, 3) := by decide +kernel
theorem dX0_listReached_120 : decode cX0_listReached 120 = .ok (.iconst 1, 1) := by decide +kernel
theorem dX0_listReached_121 : decode cX0_listReached 121 = .ok (.iastore, 1) := by decide +kernel
theorem dX0_listReached_122 : decode cX0_listReached 122 = .ok (.iinc 3 1, 3) := by decide +kernel
theorem dX0_listReached_125 : decode cX0_listReached 125 = .ok (.goto (-72), 3) := by decide +kernel
theorem dX0_listReached_128 : decode cX0_listReached 128 = .ok (.return_, 1) := by decide +kernel
theorem dX0_listPair_0 : decode cX0_listPair 0 = .ok (.lload_n 2, 1) := by decide +kernel
theorem dX0_listPair_1 : decode cX0_listPair 1 = .ok (.invokestatic 47, 3) := by decide +kernel
theorem dX0_listPair_4 : decode cX0_listPair 4 = .ok (.iconst 2, 1) := by decide +kernel
theorem dX0_listPair_5 : decode cX0_listPair 5 = .ok (.if_icmp .eq 4, 3) := by decide +kernel
theorem dX0_listPair_8 : decode cX0_listPair 8 = .ok (.return_, 1) := by decide +kernel
theorem dX0_listPair_9 : decode cX0_listPair 9 = .ok (.aload_n 1, 1) := by decide +kernel
theorem dX0_listPair_10 : decode cX0_listPair 10 = .ok (.lload_n 2, 1) := by decide +kernel
theorem dX0_listPair_11 : decode cX0_listPair 11 = .ok (.invokevirtual 51, 3) := by decide +kernel
theorem dX0_listPair_14 : decode cX0_listPair 14 = .ok (.istore 4, 2) := by decide +kernel
theorem dX0_listPair_16 : decode cX0_listPair 16 = .ok (.aload_n 0, 1) := by decide +kernel
theorem dX0_listPair_17 : decode cX0_listPair 17 = .ok (.getfield 15, 3) := by decide +kernel
theorem dX0_listPair_20 : decode cX0_listPair 20 = .ok (.iload 4, 2) := by decide +kernel
theorem dX0_listPair_22 : decode cX0_listPair 22 = .ok (.iaload, 1) := by decide +kernel
theorem dX0_listPair_23 : decode cX0_listPair 23 = .ok (.ifCond .ne 41, 3) := by decide +kernel
theorem dX0_listPair_26 : decode cX0_listPair 26 = .ok (.aload_n 0, 1) := by decide +kernel
theorem dX0_listPair_27 : decode cX0_listPair 27 = .ok (.getfield 24, 3) := by decide +kernel
theorem dX0_listPair_30 : decode cX0_listPair 30 = .ok (.bipush 120, 2) := by decide +kernel
theorem dX0_listPair_32 : decode cX0_listPair 32 = .ok (.if_icmp .ge 32, 3) := by decide +kernel
theorem dX0_listPair_35 : decode cX0_listPair 35 = .ok (.aload_n 0, 1) := by decide +kernel
theorem dX0_listPair_36 : decode cX0_listPair 36 = .ok (.getfield 15, 3) := by decide +kernel
theorem dX0_listPair_39 : decode cX0_listPair 39 = .ok (.iload 4, 2) := by decide +kernel
theorem dX0_listPair_41 : decode cX0_listPair 41 = .ok (.iconst 1, 1) := by decide +kernel
theorem dX0_listPair_42 : decode cX0_listPair 42 = .ok (.iastore, 1) := by decide +kernel
theorem dX0_listPair_43 : decode cX0_listPair 43 = .ok (.aload_n 0, 1) := by decide +kernel
theorem dX0_listPair_44 : decode cX0_listPair 44 = .ok (.getfield 9, 3) := by decide +kernel
theorem dX0_listPair_47 : decode cX0_listPair 47 = .ok (.aload_n 0, 1) := by decide +kernel
theorem dX0_listPair_48 : decode cX0_listPair 48 = .ok (.getfield 24, 3) := by decide +kernel
theorem dX0_listPair_51 : decode cX0_listPair 51 = .ok (.iload 4, 2) := by decide +kernel
theorem dX0_listPair_53 : decode cX0_listPair 53 = .ok (.iastore, 1) := by decide +kernel
theorem dX0_listPair_54 : decode cX0_listPair 54 = .ok (.aload_n 0, 1) := by decide +kernel
theorem dX0_listPair_55 : decode cX0_listPair 55 = .ok (.dup, 1) := by decide +kernel
theorem dX0_listPair_56 : decode cX0_listPair 56 = .ok (.getfield 24, 3) := by decide +kernel
theorem dX0_listPair_59 : decode cX0_listPair 59 = .ok (.iconst 1, 1) := by decide +kernel
theorem dX0_listPair_60 : decode cX0_listPair 60 = .ok (.iadd, 1) := by decide +kernel
theorem dX0_listPair_61 : decode cX0_listPair 61 = .ok (.putfield 24, 3) := by decide +kernel
theorem dX0_listPair_64 : decode cX0_listPair 64 = .ok (.return_, 1) := by decide +kernel
theorem dX0_layListed_0 : decode cX0_layListed 0 = .ok (.iconst 0, 1) := by decide +kernel
theorem dX0_layListed_1 : decode cX0_layListed 1 = .ok (.istore 4, 2) := by decide +kernel
theorem dX0_layListed_3 : decode cX0_layListed 3 = .ok (.iload 4, 2) := by decide +kernel
theorem dX0_layListed_5 : decode cX0_layListed 5 = .ok (.aload_n 0, 1) := by decide +kernel
theorem dX0_layListed_6 : decode cX0_layListed 6 = .ok (.getfield 24, 3) := by decide +kernel
theorem dX0_layListed_9 : decode cX0_layListed 9 = .ok (.if_icmp .ge 86, 3) := by decide +kernel
theorem dX0_layListed_12 : decode cX0_layListed 12 = .ok (.iload 4, 2) := by decide +kernel
theorem dX0_layListed_14 : decode cX0_layListed 14 = .ok (.bipush 120, 2) := by decide +kernel
theorem dX0_layListed_16 : decode cX0_layListed 16 = .ok (.if_icmp .ge 79, 3) := by decide +kernel
theorem dX0_layListed_19 : decode cX0_layListed 19 = .ok (.aload_n 0, 1) := by decide +kernel
theorem dX0_layListed_20 : decode cX0_layListed 20 = .ok (.getfield 9, 3) := by decide +kernel
theorem dX0_layListed_23 : decode cX0_layListed 23 = .ok (.iload 4, 2) := by decide +kernel
theorem dX0_layListed_25 : decode cX0_layListed 25 = .ok (.iaload, 1) := by decide +kernel
theorem dX0_layListed_26 : decode cX0_layListed 26 = .ok (.istore 5, 2) := by decide +kernel
theorem dX0_layListed_28 : decode cX0_layListed 28 = .ok (.aload_n 0, 1) := by decide +kernel
theorem dX0_layListed_29 : decode cX0_layListed 29 = .ok (.getfield 21, 3) := by decide +kernel
theorem dX0_layListed_32 : decode cX0_layListed 32 = .ok (.iload 5, 2) := by decide +kernel
theorem dX0_layListed_34 : decode cX0_layListed 34 = .ok (.iaload, 1) := by decide +kernel
theorem dX0_layListed_35 : decode cX0_layListed 35 = .ok (.iconst (-1), 1) := by decide +kernel
theorem dX0_layListed_36 : decode cX0_layListed 36 = .ok (.if_icmp .ne 53, 3) := by decide +kernel
theorem dX0_layListed_39 : decode cX0_layListed 39 = .ok (.iload_n 3, 1) := by decide +kernel
theorem dX0_layListed_40 : decode cX0_layListed 40 = .ok (.ifCond .eq 17, 3) := by decide +kernel
theorem dX0_layListed_43 : decode cX0_layListed 43 = .ok (.aload_n 0, 1) := by decide +kernel
theorem dX0_layListed_44 : decode cX0_layListed 44 = .ok (.getfield 18, 3) := by decide +kernel
theorem dX0_layListed_47 : decode cX0_layListed 47 = .ok (.iload 5, 2) := by decide +kernel
theorem dX0_layListed_49 : decode cX0_layListed 49 = .ok (.iaload, 1) := by decide +kernel
theorem dX0_layListed_50 : decode cX0_layListed 50 = .ok (.iconst 1, 1) := by decide +kernel
theorem dX0_layListed_51 : decode cX0_layListed 51 = .ok (.if_icmp .ne 6, 3) := by decide +kernel
theorem dX0_layListed_54 : decode cX0_layListed 54 = .ok (.goto 35, 3) := by decide +kernel
theorem dX0_layListed_57 : decode cX0_layListed 57 = .ok (.iconst 0, 1) := by decide +kernel
theorem dX0_layListed_58 : decode cX0_layListed 58 = .ok (.istore 6, 2) := by decide +kernel
theorem dX0_layListed_60 : decode cX0_layListed 60 = .ok (.iload 6, 2) := by decide +kernel
theorem dX0_layListed_62 : decode cX0_layListed 62 = .ok (.bipush 120, 2) := by decide +kernel
theorem dX0_layListed_64 : decode cX0_layListed 64 = .ok (.if_icmp .ge 25, 3) := by decide +kernel
theorem dX0_layListed_67 : decode cX0_layListed 67 = .ok (.iload 5, 2) := by decide +kernel
theorem dX0_layListed_69 : decode cX0_layListed 69 = .ok (.iconst (-1), 1) := by decide +kernel
theorem dX0_layListed_70 : decode cX0_layListed 70 = .ok (.if_icmp .eq 19, 3) := by decide +kernel
theorem dX0_layListed_73 : decode cX0_layListed 73 = .ok (.aload_n 0, 1) := by decide +kernel
theorem dX0_layListed_74 : decode cX0_layListed 74 = .ok (.aload_n 1, 1) := by decide +kernel
theorem dX0_layListed_75 : decode cX0_layListed 75 = .ok (.aload_n 2, 1) := by decide +kernel
theorem dX0_layListed_76 : decode cX0_layListed 76 = .ok (.iload 5, 2) := by decide +kernel
theorem dX0_layListed_78 : decode cX0_layListed 78 = .ok (.invokevirtual 54, 3) := by decide +kernel
theorem dX0_layListed_81 : decode cX0_layListed 81 = .ok (.istore 5, 2) := by decide +kernel
theorem dX0_layListed_83 : decode cX0_layListed 83 = .ok (.iinc 6 1, 3) := by decide +kernel
theorem dX0_layListed_86 : decode cX0_layListed 86 = .ok (.goto (-26), 3) := by decide +kernel
theorem dX0_layListed_89 : decode cX0_layListed 89 = .ok (.iinc 4 1, 3) := by decide +kernel
theorem dX0_layListed_92 : decode cX0_layListed 92 = .ok (.goto (-89), 3) := by decide +kernel
theorem dX0_layListed_95 : decode cX0_layListed 95 = .ok (.return_, 1) := by decide +kernel
theorem dX0_layCell_0 : decode cX0_layCell 0 = .ok (.aload_n 1, 1) := by decide +kernel
theorem dX0_layCell_1 : decode cX0_layCell 1 = .ok (.iload_n 3, 1) := by decide +kernel
theorem dX0_layCell_2 : decode cX0_layCell 2 = .ok (.invokevirtual 44, 3) := by decide +kernel
theorem dX0_layCell_5 : decode cX0_layCell 5 = .ok (.lstore 4, 2) := by decide +kernel
theorem dX0_layCell_7 : decode cX0_layCell 7 = .ok (.aload_n 1, 1) := by decide +kernel
theorem dX0_layCell_8 : decode cX0_layCell 8 = .ok (.iload_n 3, 1) := by decide +kernel
theorem dX0_layCell_9 : decode cX0_layCell 9 = .ok (.invokevirtual 38, 3) := by decide +kernel
theorem dX0_layCell_12 : decode cX0_layCell 12 = .ok (.lstore 6, 2) := by decide +kernel
theorem dX0_layCell_14 : decode cX0_layCell 14 = .ok (.aload_n 0, 1) := by decide +kernel
theorem dX0_layCell_15 : decode cX0_layCell 15 = .ok (.getfield 21, 3) := by decide +kernel
theorem dX0_layCell_18 : decode cX0_layCell 18 = .ok (.iload_n 3, 1) := by decide +kernel
theorem dX0_layCell_19 : decode cX0_layCell 19 = .ok (.aload_n 2, 1) := by decide +kernel
theorem dX0_layCell_20 : decode cX0_layCell 20 = .ok (.getfield 58, 3) := by decide +kernel
theorem dX0_layCell_23 : decode cX0_layCell 23 = .ok (.iastore, 1) := by decide +kernel
theorem dX0_layCell_24 : decode cX0_layCell 24 = .ok (.lload 6, 2) := by decide +kernel
theorem dX0_layCell_26 : decode cX0_layCell 26 = .ok (.invokestatic 47, 3) := by decide +kernel
theorem dX0_layCell_29 : decode cX0_layCell 29 = .ok (.ifCond .ne 13, 3) := by decide +kernel
theorem dX0_layCell_32 : decode cX0_layCell 32 = .ok (.aload_n 2, 1) := by decide +kernel
theorem dX0_layCell_33 : decode cX0_layCell 33 = .ok (.iconst 1, 1) := by decide +kernel
theorem dX0_layCell_34 : decode cX0_layCell 34 = .ok (.lload 4, 2) := by decide +kernel
theorem dX0_layCell_36 : decode cX0_layCell 36 = .ok (.invokevirtual 61, 3) := by decide +kernel
theorem dX0_layCell_39 : decode cX0_layCell 39 = .ok (.pop, 1) := by decide +kernel
theorem dX0_layCell_40 : decode cX0_layCell 40 = .ok (.iconst (-1), 1) := by decide +kernel
theorem dX0_layCell_41 : decode cX0_layCell 41 = .ok (.ireturn, 1) := by decide +kernel
theorem dX0_layCell_42 : decode cX0_layCell 42 = .ok (.lload 6, 2) := by decide +kernel
theorem dX0_layCell_44 : decode cX0_layCell 44 = .ok (.invokestatic 47, 3) := by decide +kernel
theorem dX0_layCell_47 : decode cX0_layCell 47 = .ok (.iconst 2, 1) := by decide +kernel
theorem dX0_layCell_48 : decode cX0_layCell 48 = .ok (.if_icmp .ne 33, 3) := by decide +kernel
theorem dX0_layCell_51 : decode cX0_layCell 51 = .ok (.aload_n 1, 1) := by decide +kernel
theorem dX0_layCell_52 : decode cX0_layCell 52 = .ok (.lload 6, 2) := by decide +kernel
theorem dX0_layCell_54 : decode cX0_layCell 54 = .ok (.invokevirtual 51, 3) := by decide +kernel
theorem dX0_layCell_57 : decode cX0_layCell 57 = .ok (.istore 8, 2) := by decide +kernel
theorem dX0_layCell_59 : decode cX0_layCell 59 = .ok (.aload_n 0, 1) := by decide +kernel
theorem dX0_layCell_60 : decode cX0_layCell 60 = .ok (.getfield 21, 3) := by decide +kernel
theorem dX0_layCell_63 : decode cX0_layCell 63 = .ok (.iload 8, 2) := by decide +kernel
theorem dX0_layCell_65 : decode cX0_layCell 65 = .ok (.iaload, 1) := by decide +kernel
theorem dX0_layCell_66 : decode cX0_layCell 66 = .ok (.iconst (-1), 1) := by decide +kernel
theorem dX0_layCell_67 : decode cX0_layCell 67 = .ok (.if_icmp .ne 14, 3) := by decide +kernel
theorem dX0_layCell_70 : decode cX0_layCell 70 = .ok (.aload_n 2, 1) := by decide +kernel
theorem dX0_layCell_71 : decode cX0_layCell 71 = .ok (.iconst 0, 1) := by decide +kernel
theorem dX0_layCell_72 : decode cX0_layCell 72 = .ok (.lload 4, 2) := by decide +kernel
theorem dX0_layCell_74 : decode cX0_layCell 74 = .ok (.invokevirtual 61, 3) := by decide +kernel
theorem dX0_layCell_77 : decode cX0_layCell 77 = .ok (.pop, 1) := by decide +kernel
theorem dX0_layCell_78 : decode cX0_layCell 78 = .ok (.iload 8, 2) := by decide +kernel
theorem dX0_layCell_80 : decode cX0_layCell 80 = .ok (.ireturn, 1) := by decide +kernel
theorem dX0_layCell_81 : decode cX0_layCell 81 = .ok (.aload_n 2, 1) := by decide +kernel
theorem dX0_layCell_82 : decode cX0_layCell 82 = .ok (.lload 4, 2) := by decide +kernel
theorem dX0_layCell_84 : decode cX0_layCell 84 = .ok (.lload 6, 2) := by decide +kernel
theorem dX0_layCell_86 : decode cX0_layCell 86 = .ok (.invokevirtual 65, 3) := by decide +kernel
theorem dX0_layCell_89 : decode cX0_layCell 89 = .ok (.pop, 1) := by decide +kernel
theorem dX0_layCell_90 : decode cX0_layCell 90 = .ok (.iconst (-1), 1) := by decide +kernel
theorem dX0_layCell_91 : decode cX0_layCell 91 = .ok (.ireturn, 1) := by decide +kernel
theorem dX0_tellNewPlaces_0 : decode cX0_tellNewPlaces 0 = .ok (.iconst 0, 1) := by decide +kernel
theorem dX0_tellNewPlaces_1 : decode cX0_tellNewPlaces 1 = .ok (.istore 4, 2) := by decide +kernel
theorem dX0_tellNewPlaces_3 : decode cX0_tellNewPlaces 3 = .ok (.iload 4, 2) := by decide +kernel
theorem dX0_tellNewPlaces_5 : decode cX0_tellNewPlaces 5 = .ok (.aload_n 2, 1) := by decide +kernel
theorem dX0_tellNewPlaces_6 : decode cX0_tellNewPlaces 6 = .ok (.getfield 58, 3) := by decide +kernel
theorem dX0_tellNewPlaces_9 : decode cX0_tellNewPlaces 9 = .ok (.if_icmp .ge 26, 3) := by decide +kernel
theorem dX0_tellNewPlaces_12 : decode cX0_tellNewPlaces 12 = .ok (.aload_n 2, 1) := by decide +kernel
theorem dX0_tellNewPlaces_13 : decode cX0_tellNewPlaces 13 = .ok (.iload 4, 2) := by decide +kernel
theorem dX0_tellNewPlaces_15 : decode cX0_tellNewPlaces 15 = .ok (.aload_n 0, 1) := by decide +kernel
theorem dX0_tellNewPlaces_16 : decode cX0_tellNewPlaces 16 = .ok (.aload_n 1, 1) := by decide +kernel
theorem dX0_tellNewPlaces_17 : decode cX0_tellNewPlaces 17 = .ok (.aload_n 2, 1) := by decide +kernel
theorem dX0_tellNewPlaces_18 : decode cX0_tellNewPlaces 18 = .ok (.iload 4, 2) := by decide +kernel
theorem dX0_tellNewPlaces_20 : decode cX0_tellNewPlaces 20 = .ok (.invokevirtual 44, 3) := by decide +kernel
theorem dX0_tellNewPlaces_23 : decode cX0_tellNewPlaces 23 = .ok (.invokevirtual 69, 3) := by decide +kernel
theorem dX0_tellNewPlaces_26 : decode cX0_tellNewPlaces 26 = .ok (.invokevirtual 73, 3) := by decide +kernel
theorem dX0_tellNewPlaces_29 : decode cX0_tellNewPlaces 29 = .ok (.iinc 4 1, 3) := by decide +kernel
theorem dX0_tellNewPlaces_32 : decode cX0_tellNewPlaces 32 = .ok (.goto (-29), 3) := by decide +kernel
theorem dX0_tellNewPlaces_35 : decode cX0_tellNewPlaces 35 = .ok (.iconst 0, 1) := by decide +kernel
theorem dX0_tellNewPlaces_36 : decode cX0_tellNewPlaces 36 = .ok (.istore 4, 2) := by decide +kernel
theorem dX0_tellNewPlaces_38 : decode cX0_tellNewPlaces 38 = .ok (.iload 4, 2) := by decide +kernel
theorem dX0_tellNewPlaces_40 : decode cX0_tellNewPlaces 40 = .ok (.aload_n 3, 1) := by decide +kernel
theorem dX0_tellNewPlaces_41 : decode cX0_tellNewPlaces 41 = .ok (.arraylength, 1) := by decide +kernel
theorem dX0_tellNewPlaces_42 : decode cX0_tellNewPlaces 42 = .ok (.if_icmp .ge 22, 3) := by decide +kernel
theorem dX0_tellNewPlaces_45 : decode cX0_tellNewPlaces 45 = .ok (.aload_n 3, 1) := by decide +kernel
theorem dX0_tellNewPlaces_46 : decode cX0_tellNewPlaces 46 = .ok (.iload 4, 2) := by decide +kernel
theorem dX0_tellNewPlaces_48 : decode cX0_tellNewPlaces 48 = .ok (.aload_n 0, 1) := by decide +kernel
theorem dX0_tellNewPlaces_49 : decode cX0_tellNewPlaces 49 = .ok (.aload_n 1, 1) := by decide +kernel
theorem dX0_tellNewPlaces_50 : decode cX0_tellNewPlaces 50 = .ok (.aload_n 3, 1) := by decide +kernel
theorem dX0_tellNewPlaces_51 : decode cX0_tellNewPlaces 51 = .ok (.iload 4, 2) := by decide +kernel
theorem dX0_tellNewPlaces_53 : decode cX0_tellNewPlaces 53 = .ok (.laload, 1) := by decide +kernel
theorem dX0_tellNewPlaces_54 : decode cX0_tellNewPlaces 54 = .ok (.invokevirtual 69, 3) := by decide +kernel
theorem dX0_tellNewPlaces_57 : decode cX0_tellNewPlaces 57 = .ok (.lastore, 1) := by decide +kernel
theorem dX0_tellNewPlaces_58 : decode cX0_tellNewPlaces 58 = .ok (.iinc 4 1, 3) := by decide +kernel
theorem dX0_tellNewPlaces_61 : decode cX0_tellNewPlaces 61 = .ok (.goto (-23), 3) := by decide +kernel
theorem dX0_tellNewPlaces_64 : decode cX0_tellNewPlaces 64 = .ok (.return_, 1) := by decide +kernel
theorem dX0_inNewHalf_0 : decode cX0_inNewHalf 0 = .ok (.lload_n 2, 1) := by decide +kernel
theorem dX0_inNewHalf_1 : decode cX0_inNewHalf 1 = .ok (.invokestatic 47, 3) := by decide +kernel
theorem dX0_inNewHalf_4 : decode cX0_inNewHalf 4 = .ok (.iconst 2, 1) := by decide +kernel
theorem dX0_inNewHalf_5 : decode cX0_inNewHalf 5 = .ok (.if_icmp .eq 5, 3) := by decide +kernel
theorem dX0_inNewHalf_8 : decode cX0_inNewHalf 8 = .ok (.lload_n 2, 1) := by decide +kernel
theorem dX0_inNewHalf_9 : decode cX0_inNewHalf 9 = .ok (.lreturn, 1) := by decide +kernel
theorem dX0_inNewHalf_10 : decode cX0_inNewHalf 10 = .ok (.iconst 2, 1) := by decide +kernel
theorem dX0_inNewHalf_11 : decode cX0_inNewHalf 11 = .ok (.aload_n 0, 1) := by decide +kernel
theorem dX0_inNewHalf_12 : decode cX0_inNewHalf 12 = .ok (.getfield 21, 3) := by decide +kernel
theorem dX0_inNewHalf_15 : decode cX0_inNewHalf 15 = .ok (.aload_n 1, 1) := by decide +kernel
theorem dX0_inNewHalf_16 : decode cX0_inNewHalf 16 = .ok (.lload_n 2, 1) := by decide +kernel
theorem dX0_inNewHalf_17 : decode cX0_inNewHalf 17 = .ok (.invokevirtual 51, 3) := by decide +kernel
theorem dX0_inNewHalf_20 : decode cX0_inNewHalf 20 = .ok (.iaload, 1) := by decide +kernel
theorem dX0_inNewHalf_21 : decode cX0_inNewHalf 21 = .ok (.i2l, 1) := by decide +kernel
theorem dX0_inNewHalf_22 : decode cX0_inNewHalf 22 = .ok (.invokestatic 77, 3) := by decide +kernel
theorem dX0_inNewHalf_25 : decode cX0_inNewHalf 25 = .ok (.lreturn, 1) := by decide +kernel
theorem dX1_init_0 : decode cX1_init 0 = .ok (.aload_n 0, 1) := by decide +kernel
theorem dX1_init_1 : decode cX1_init 1 = .ok (.invokespecial 3, 3) := by decide +kernel
theorem dX1_init_4 : decode cX1_init 4 = .ok (.aload_n 0, 1) := by decide +kernel
theorem dX1_init_5 : decode cX1_init 5 = .ok (.bipush 120, 2) := by decide +kernel
theorem dX1_init_7 : decode cX1_init 7 = .ok (.newarray .int, 2) := by decide +kernel
theorem dX1_init_9 : decode cX1_init 9 = .ok (.putfield 9, 3) := by decide +kernel
theorem dX1_init_12 : decode cX1_init 12 = .ok (.aload_n 0, 1) := by decide +kernel
theorem dX1_init_13 : decode cX1_init 13 = .ok (.bipush 120, 2) := by decide +kernel
theorem dX1_init_15 : decode cX1_init 15 = .ok (.newarray .long, 2) := by decide +kernel
theorem dX1_init_17 : decode cX1_init 17 = .ok (.putfield 15, 3) := by decide +kernel
theorem dX1_init_20 : decode cX1_init 20 = .ok (.aload_n 0, 1) := by decide +kernel
theorem dX1_init_21 : decode cX1_init 21 = .ok (.iconst 0, 1) := by decide +kernel
theorem dX1_init_22 : decode cX1_init 22 = .ok (.putfield 19, 3) := by decide +kernel
theorem dX1_init_25 : decode cX1_init 25 = .ok (.return_, 1) := by decide +kernel
theorem dX1_clear_0 : decode cX1_clear 0 = .ok (.aload_n 0, 1) := by decide +kernel
theorem dX1_clear_1 : decode cX1_clear 1 = .ok (.iconst 0, 1) := by decide +kernel
theorem dX1_clear_2 : decode cX1_clear 2 = .ok (.putfield 19, 3) := by decide +kernel
theorem dX1_clear_5 : decode cX1_clear 5 = .ok (.return_, 1) := by decide +kernel
theorem dX1_wordsLeft_0 : decode cX1_wordsLeft 0 = .ok (.bipush 120, 2) := by decide +kernel
theorem dX1_wordsLeft_2 : decode cX1_wordsLeft 2 = .ok (.aload_n 0, 1) := by decide +kernel
theorem dX1_wordsLeft_3 : decode cX1_wordsLeft 3 = .ok (.getfield 19, 3) := by decide +kernel
theorem dX1_wordsLeft_6 : decode cX1_wordsLeft 6 = .ok (.isub, 1) := by decide +kernel
theorem dX1_wordsLeft_7 : decode cX1_wordsLeft 7 = .ok (.ireturn, 1) := by decide +kernel
theorem dX1_isUsed_0 : decode cX1_isUsed 0 = .ok (.iload_n 1, 1) := by decide +kernel
theorem dX1_isUsed_1 : decode cX1_isUsed 1 = .ok (.ifCond .lt 15, 3) := by decide +kernel
theorem dX1_isUsed_4 : decode cX1_isUsed 4 = .ok (.iload_n 1, 1) := by decide +kernel
theorem dX1_isUsed_5 : decode cX1_isUsed 5 = .ok (.aload_n 0, 1) := by decide +kernel
theorem dX1_isUsed_6 : decode cX1_isUsed 6 = .ok (.getfield 19, 3) := by decide +kernel
theorem dX1_isUsed_9 : decode cX1_isUsed 9 = .ok (.if_icmp .ge 7, 3) := by decide +kernel
theorem dX1_isUsed_12 : decode cX1_isUsed 12 = .ok (.iconst 1, 1) := by decide +kernel
theorem dX1_isUsed_13 : decode cX1_isUsed 13 = .ok (.goto 4, 3) := by decide +kernel
theorem dX1_isUsed_16 : decode cX1_isUsed 16 = .ok (.iconst 0, 1) := by decide +kernel
theorem dX1_isUsed_17 : decode cX1_isUsed 17 = .ok (.ireturn, 1) := by decide +kernel
theorem dX1_codeAt_0 : decode cX1_codeAt 0 = .ok (.iload_n 1, 1) := by decide +kernel
theorem dX1_codeAt_1 : decode cX1_codeAt 1 = .ok (.ifCond .lt 18, 3) := by decide +kernel
theorem dX1_codeAt_4 : decode cX1_codeAt 4 = .ok (.iload_n 1, 1) := by decide +kernel
theorem dX1_codeAt_5 : decode cX1_codeAt 5 = .ok (.bipush 120, 2) := by decide +kernel
theorem dX1_codeAt_7 : decode cX1_codeAt 7 = .ok (.if_icmp .ge 12, 3) := by decide +kernel
theorem dX1_codeAt_10 : decode cX1_codeAt 10 = .ok (.aload_n 0, 1) := by decide +kernel
theorem dX1_codeAt_11 : decode cX1_codeAt 11 = .ok (.getfield 9, 3) := by decide +kernel
theorem dX1_codeAt_14 : decode cX1_codeAt 14 = .ok (.iload_n 1, 1) := by decide +kernel
theorem dX1_codeAt_15 : decode cX1_codeAt 15 = .ok (.iaload, 1) := by decide +kernel
theorem dX1_codeAt_16 : decode cX1_codeAt 16 = .ok (.goto 4, 3) := by decide +kernel
theorem dX1_codeAt_19 : decode cX1_codeAt 19 = .ok (.iconst 1, 1) := by decide +kernel
theorem dX1_codeAt_20 : decode cX1_codeAt 20 = .ok (.ireturn, 1) := by decide +kernel
theorem dX1_contentAt_0 : decode cX1_contentAt 0 = .ok (.iload_n 1, 1) := by decide +kernel
theorem dX1_contentAt_1 : decode cX1_contentAt 1 = .ok (.ifCond .lt 18, 3) := by decide +kernel
theorem dX1_contentAt_4 : decode cX1_contentAt 4 = .ok (.iload_n 1, 1) := by decide +kernel
theorem dX1_contentAt_5 : decode cX1_contentAt 5 = .ok (.bipush 120, 2) := by decide +kernel
theorem dX1_contentAt_7 : decode cX1_contentAt 7 = .ok (.if_icmp .ge 12, 3) := by decide +kernel
theorem dX1_contentAt_10 : decode cX1_contentAt 10 = .ok (.aload_n 0, 1) := by decide +kernel
theorem dX1_contentAt_11 : decode cX1_contentAt 11 = .ok (.getfield 15, 3) := by decide +kernel
theorem dX1_contentAt_14 : decode cX1_contentAt 14 = .ok (.iload_n 1, 1) := by decide +kernel
theorem dX1_contentAt_15 : decode cX1_contentAt 15 = .ok (.laload, 1) := by decide +kernel
theorem dX1_contentAt_16 : decode cX1_contentAt 16 = .ok (.goto 4, 3) := by decide +kernel
theorem dX1_contentAt_19 : decode cX1_contentAt 19 = .ok (.lconst 0, 1) := by decide +kernel
theorem dX1_contentAt_20 : decode cX1_contentAt 20 = .ok (.lreturn, 1) := by decide +kernel
theorem dX1_setContent_0 : decode cX1_setContent 0 = .ok (.iload_n 1, 1) := by decide +kernel
theorem dX1_setContent_1 : decode cX1_setContent 1 = .ok (.ifCond .lt 16, 3) := by decide +kernel
theorem dX1_setContent_4 : decode cX1_setContent 4 = .ok (.iload_n 1, 1) := by decide +kernel
theorem dX1_setContent_5 : decode cX1_setContent 5 = .ok (.bipush 120, 2) := by decide +kernel
theorem dX1_setContent_7 : decode cX1_setContent 7 = .ok (.if_icmp .ge 10, 3) := by decide +kernel
theorem dX1_setContent_10 : decode cX1_setContent 10 = .ok (.aload_n 0, 1) := by decide +kernel
theorem dX1_setContent_11 : decode cX1_setContent 11 = .ok (.getfield 15, 3) := by decide +kernel
theorem dX1_setContent_14 : decode cX1_setContent 14 = .ok (.iload_n 1, 1) := by decide +kernel
theorem dX1_setContent_15 : decode cX1_setContent 15 = .ok (.lload_n 2, 1) := by decide +kernel
theorem dX1_setContent_16 : decode cX1_setContent 16 = .ok (.lastore, 1) := by decide +kernel
theorem dX1_setContent_17 : decode cX1_setContent 17 = .ok (.return_, 1) := by decide +kernel
theorem dX1_take_0 : decode cX1_take 0 = .ok (.aload_n 0, 1) := by decide +kernel
theorem dX1_take_1 : decode cX1_take 1 = .ok (.getfield 19, 3) := by decide +kernel
theorem dX1_take_4 : decode cX1_take 4 = .ok (.istore 4, 2) := by decide +kernel
theorem dX1_take_6 : decode cX1_take 6 = .ok (.iload 4, 2) := by decide +kernel
theorem dX1_take_8 : decode cX1_take 8 = .ok (.ifCond .lt 34, 3) := by decide +kernel
theorem dX1_take_11 : decode cX1_take 11 = .ok (.iload 4, 2) := by decide +kernel
theorem dX1_take_13 : decode cX1_take 13 = .ok (.bipush 120, 2) := by decide +kernel
theorem dX1_take_15 : decode cX1_take 15 = .ok (.if_icmp .ge 27, 3) := by decide +kernel
theorem dX1_take_18 : decode cX1_take 18 = .ok (.aload_n 0, 1) := by decide +kernel
theorem dX1_take_19 : decode cX1_take 19 = .ok (.getfield 9, 3) := by decide +kernel
theorem dX1_take_22 : decode cX1_take 22 = .ok (.iload 4, 2) := by decide +kernel
theorem dX1_take_24 : decode cX1_take 24 = .ok (.iload_n 1, 1) := by decide +kernel
theorem dX1_take_25 : decode cX1_take 25 = .ok (.iastore, 1) := by decide +kernel
theorem dX1_take_26 : decode cX1_take 26 = .ok (.aload_n 0, 1) := by decide +kernel
theorem dX1_take_27 : decode cX1_take 27 = .ok (.getfield 15, 3) := by decide +kernel
theorem dX1_take_30 : decode cX1_take 30 = .ok (.iload 4, 2) := by decide +kernel
theorem dX1_take_32 : decode cX1_take 32 = .ok (.lload_n 2, 1) := by decide +kernel
theorem dX1_take_33 : decode cX1_take 33 = .ok (.lastore, 1) := by decide +kernel
theorem dX1_take_34 : decode cX1_take 34 = .ok (.aload_n 0, 1) := by decide +kernel
theorem dX1_take_35 : decode cX1_take 35 = .ok (.iload 4, 2) := by decide +kernel
theorem dX1_take_37 : decode cX1_take 37 = .ok (.iconst 1, 1) := by decide +kernel
theorem dX1_take_38 : decode cX1_take 38 = .ok (.iadd, 1) := by decide +kernel
theorem dX1_take_39 : decode cX1_take 39 = .ok (.putfield 19, 3) := by decide +kernel
theorem dX1_take_42 : decode cX1_take 42 = .ok (.iload 4, 2) := by decide +kernel
theorem dX1_take_44 : decode cX1_take 44 = .ok (.ireturn, 1) := by decide +kernel
theorem dX1_takeTwo_0 : decode cX1_takeTwo 0 = .ok (.aload_n 0, 1) := by decide +kernel
theorem dX1_takeTwo_1 : decode cX1_takeTwo 1 = .ok (.iconst 2, 1) := by decide +kernel
theorem dX1_takeTwo_2 : decode cX1_takeTwo 2 = .ok (.lload_n 1, 1) := by decide +kernel
theorem dX1_takeTwo_3 : decode cX1_takeTwo 3 = .ok (.invokevirtual 23, 3) := by decide +kernel
theorem dX1_takeTwo_6 : decode cX1_takeTwo 6 = .ok (.istore 5, 2) := by decide +kernel
theorem dX1_takeTwo_8 : decode cX1_takeTwo 8 = .ok (.aload_n 0, 1) := by decide +kernel
theorem dX1_takeTwo_9 : decode cX1_takeTwo 9 = .ok (.iconst 3, 1) := by decide +kernel
theorem dX1_takeTwo_10 : decode cX1_takeTwo 10 = .ok (.lload_n 3, 1) := by decide +kernel
theorem dX1_takeTwo_11 : decode cX1_takeTwo 11 = .ok (.invokevirtual 23, 3) := by decide +kernel
theorem dX1_takeTwo_14 : decode cX1_takeTwo 14 = .ok (.pop, 1) := by decide +kernel
theorem dX1_takeTwo_15 : decode cX1_takeTwo 15 = .ok (.iload 5, 2) := by decide +kernel
theorem dX1_takeTwo_17 : decode cX1_takeTwo 17 = .ok (.ireturn, 1) := by decide +kernel
theorem dX1_cellOf_0 : decode cX1_cellOf 0 = .ok (.lload_n 1, 1) := by decide +kernel
theorem dX1_cellOf_1 : decode cX1_cellOf 1 = .ok (.invokestatic 27, 3) := by decide +kernel
theorem dX1_cellOf_4 : decode cX1_cellOf 4 = .ok (.istore_n 3, 1) := by decide +kernel
theorem dX1_cellOf_5 : decode cX1_cellOf 5 = .ok (.aload_n 0, 1) := by decide +kernel
theorem dX1_cellOf_6 : decode cX1_cellOf 6 = .ok (.iload_n 3, 1) := by decide +kernel
theorem dX1_cellOf_7 : decode cX1_cellOf 7 = .ok (.invokevirtual 31, 3) := by decide +kernel
theorem dX1_cellOf_10 : decode cX1_cellOf 10 = .ok (.lstore 4, 2) := by decide +kernel
theorem dX1_cellOf_12 : decode cX1_cellOf 12 = .ok (.lload 4, 2) := by decide +kernel
theorem dX1_cellOf_14 : decode cX1_cellOf 14 = .ok (.invokestatic 35, 3) := by decide +kernel
theorem dX1_cellOf_17 : decode cX1_cellOf 17 = .ok (.iconst 3, 1) := by decide +kernel
theorem dX1_cellOf_18 : decode cX1_cellOf 18 = .ok (.if_icmp .ne 11, 3) := by decide +kernel
theorem dX1_cellOf_21 : decode cX1_cellOf 21 = .ok (.lload 4, 2) := by decide +kernel
theorem dX1_cellOf_23 : decode cX1_cellOf 23 = .ok (.invokestatic 27, 3) := by decide +kernel
theorem dX1_cellOf_26 : decode cX1_cellOf 26 = .ok (.goto 4, 3) := by decide +kernel
theorem dX1_cellOf_29 : decode cX1_cellOf 29 = .ok (.iload_n 3, 1) := by decide +kernel
theorem dX1_cellOf_30 : decode cX1_cellOf 30 = .ok (.ireturn, 1) := by decide +kernel
theorem dX1_restOf_0 : decode cX1_restOf 0 = .ok (.aload_n 0, 1) := by decide +kernel
theorem dX1_restOf_1 : decode cX1_restOf 1 = .ok (.iload_n 1, 1) := by decide +kernel
theorem dX1_restOf_2 : decode cX1_restOf 2 = .ok (.invokevirtual 38, 3) := by decide +kernel
theorem dX1_restOf_5 : decode cX1_restOf 5 = .ok (.lookupswitch 44 #[(0, 27), (2, 36)], 27) := by decide +kernel
theorem dX1_restOf_32 : decode cX1_restOf 32 = .ok (.iconst 2, 1) := by decide +kernel
theorem dX1_restOf_33 : decode cX1_restOf 33 = .ok (.iload_n 1, 1) := by decide +kernel
theorem dX1_restOf_34 : decode cX1_restOf 34 = .ok (.iconst 1, 1) := by decide +kernel
theorem dX1_restOf_35 : decode cX1_restOf 35 = .ok (.iadd, 1) := by decide +kernel
theorem dX1_restOf_36 : decode cX1_restOf 36 = .ok (.i2l, 1) := by decide +kernel
theorem dX1_restOf_37 : decode cX1_restOf 37 = .ok (.invokestatic 42, 3) := by decide +kernel
theorem dX1_restOf_40 : decode cX1_restOf 40 = .ok (.lreturn, 1) := by decide +kernel
theorem dX1_restOf_41 : decode cX1_restOf 41 = .ok (.aload_n 0, 1) := by decide +kernel
theorem dX1_restOf_42 : decode cX1_restOf 42 = .ok (.iload_n 1, 1) := by decide +kernel
theorem dX1_restOf_43 : decode cX1_restOf 43 = .ok (.iconst 1, 1) := by decide +kernel
theorem dX1_restOf_44 : decode cX1_restOf 44 = .ok (.iadd, 1) := by decide +kernel
theorem dX1_restOf_45 : decode cX1_restOf 45 = .ok (.invokevirtual 31, 3) := by decide +kernel
theorem dX1_restOf_48 : decode cX1_restOf 48 = .ok (.lreturn, 1) := by decide +kernel
theorem dX1_restOf_49 : decode cX1_restOf 49 = .ok (.lconst 0, 1) := by decide +kernel
theorem dX1_restOf_50 : decode cX1_restOf 50 = .ok (.lreturn, 1) := by decide +kernel
theorem dX1_countMoved_0 : decode cX1_countMoved 0 = .ok (.iconst 0, 1) := by decide +kernel
theorem dX1_countMoved_1 : decode cX1_countMoved 1 = .ok (.istore_n 1, 1) := by decide +kernel
theorem dX1_countMoved_2 : decode cX1_countMoved 2 = .ok (.iconst 0, 1) := by decide +kernel
theorem dX1_countMoved_3 : decode cX1_countMoved 3 = .ok (.istore_n 2, 1) := by decide +kernel
theorem dX1_countMoved_4 : decode cX1_countMoved 4 = .ok (.iload_n 2, 1) := by decide +kernel
theorem dX1_countMoved_5 : decode cX1_countMoved 5 = .ok (.aload_n 0, 1) := by decide +kernel
theorem dX1_countMoved_6 : decode cX1_countMoved 6 = .ok (.getfield 19, 3) := by decide +kernel
theorem dX1_countMoved_9 : decode cX1_countMoved 9 = .ok (.if_icmp .ge 24, 3) := by decide +kernel
theorem dX1_countMoved_12 : decode cX1_countMoved 12 = .ok (.aload_n 0, 1) := by decide +kernel
theorem dX1_countMoved_13 : decode cX1_countMoved 13 = .ok (.iload_n 2, 1) := by decide +kernel
theorem dX1_countMoved_14 : decode cX1_countMoved 14 = .ok (.invokevirtual 31, 3) := by decide +kernel
theorem dX1_countMoved_17 : decode cX1_countMoved 17 = .ok (.invokestatic 35, 3) := by decide +kernel
theorem dX1_countMoved_20 : decode cX1_countMoved 20 = .ok (.iconst 3, 1) := by decide +kernel
theorem dX1_countMoved_21 : decode cX1_countMoved 21 = .ok (.if_icmp .ne 6, 3) := by decide +kernel
theorem dX1_countMoved_24 : decode cX1_countMoved 24 = .ok (.iinc 1 1, 3) := by decide +kernel
theorem dX1_countMoved_27 : decode cX1_countMoved 27 = .ok (.iinc 2 1, 3) := by decide +kernel
theorem dX1_countMoved_30 : decode cX1_countMoved 30 = .ok (.goto (-26), 3) := by decide +kernel
theorem dX1_countMoved_33 : decode cX1_countMoved 33 = .ok (.iload_n 1, 1) := by decide +kernel
theorem dX1_countMoved_34 : decode cX1_countMoved 34 = .ok (.ireturn, 1) := by decide +kernel
theorem dX2_init_0 : decode cX2_init 0 = .ok (.aload_n 0, 1) := by decide +kernel
theorem dX2_init_1 : decode cX2_init 1 = .ok (.invokespecial 3, 3) := by decide +kernel
theorem dX2_init_4 : decode cX2_init 4 = .ok (.aload_n 0, 1) := by decide +kernel
theorem dX2_init_5 : decode cX2_init 5 = .ok (.bipush 120, 2) := by decide +kernel
theorem dX2_init_7 : decode cX2_init 7 = .ok (.newarray .int, 2) := by decide +kernel
theorem dX2_init_9 : decode cX2_init 9 = .ok (.putfield 9, 3) := by decide +kernel
theorem dX2_init_12 : decode cX2_init 12 = .ok (.aload_n 0, 1) := by decide +kernel
theorem dX2_init_13 : decode cX2_init 13 = .ok (.bipush 120, 2) := by decide +kernel
theorem dX2_init_15 : decode cX2_init 15 = .ok (.newarray .int, 2) := by decide +kernel
theorem dX2_init_17 : decode cX2_init 17 = .ok (.putfield 15, 3) := by decide +kernel
theorem dX2_init_20 : decode cX2_init 20 = .ok (.aload_n 0, 1) := by decide +kernel
theorem dX2_init_21 : decode cX2_init 21 = .ok (.bipush 120, 2) := by decide +kernel
theorem dX2_init_23 : decode cX2_init 23 = .ok (.newarray .int, 2) := by decide +kernel
theorem dX2_init_25 : decode cX2_init 25 = .ok (.putfield 18, 3) := by decide +kernel
theorem dX2_init_28 : decode cX2_init 28 = .ok (.aload_n 0, 1) := by decide +kernel
theorem dX2_init_29 : decode cX2_init 29 = .ok (.iconst 0, 1) := by decide +kernel
theorem dX2_init_30 : decode cX2_init 30 = .ok (.putfield 21, 3) := by decide +kernel
theorem dX2_init_33 : decode cX2_init 33 = .ok (.return_, 1) := by decide +kernel
theorem dX2_canBeMade_0 : decode cX2_canBeMade 0 = .ok (.aload_n 0, 1) := by decide +kernel
theorem dX2_canBeMade_1 : decode cX2_canBeMade 1 = .ok (.iconst 0, 1) := by decide +kernel
theorem dX2_canBeMade_2 : decode cX2_canBeMade 2 = .ok (.putfield 21, 3) := by decide +kernel
theorem dX2_canBeMade_5 : decode cX2_canBeMade 5 = .ok (.aload_n 0, 1) := by decide +kernel
theorem dX2_canBeMade_6 : decode cX2_canBeMade 6 = .ok (.getfield 9, 3) := by decide +kernel
theorem dX2_canBeMade_9 : decode cX2_canBeMade 9 = .ok (.iconst (-1), 1) := by decide +kernel
theorem dX2_canBeMade_10 : decode cX2_canBeMade 10 = .ok (.invokestatic 25, 3) := by decide +kernel
theorem dX2_canBeMade_13 : decode cX2_canBeMade 13 = .ok (.aload_n 0, 1) := by decide +kernel
theorem dX2_canBeMade_14 : decode cX2_canBeMade 14 = .ok (.getfield 15, 3) := by decide +kernel
theorem dX2_canBeMade_17 : decode cX2_canBeMade 17 = .ok (.iconst (-1), 1) := by decide +kernel
theorem dX2_canBeMade_18 : decode cX2_canBeMade 18 = .ok (.invokestatic 25, 3) := by decide +kernel
theorem dX2_canBeMade_21 : decode cX2_canBeMade 21 = .ok (.aload_n 0, 1) := by decide +kernel
theorem dX2_canBeMade_22 : decode cX2_canBeMade 22 = .ok (.aload_n 1, 1) := by decide +kernel
theorem dX2_canBeMade_23 : decode cX2_canBeMade 23 = .ok (.lload_n 2, 1) := by decide +kernel
theorem dX2_canBeMade_24 : decode cX2_canBeMade 24 = .ok (.lload 4, 2) := by decide +kernel
theorem dX2_canBeMade_26 : decode cX2_canBeMade 26 = .ok (.invokevirtual 31, 3) := by decide +kernel
theorem dX2_canBeMade_29 : decode cX2_canBeMade 29 = .ok (.ifCond .ne 5, 3) := by decide +kernel
theorem dX2_canBeMade_32 : decode cX2_canBeMade 32 = .ok (.iconst 0, 1) := by decide +kernel
theorem dX2_canBeMade_33 : decode cX2_canBeMade 33 = .ok (.ireturn, 1) := by decide +kernel
theorem dX2_canBeMade_34 : decode cX2_canBeMade 34 = .ok (.iconst 0, 1) := by decide +kernel
theorem dX2_canBeMade_35 : decode cX2_canBeMade 35 = .ok (.istore 6, 2) := by decide +kernel
theorem dX2_canBeMade_37 : decode cX2_canBeMade 37 = .ok (.iload 6, 2) := by decide +kernel
theorem dX2_canBeMade_39 : decode cX2_canBeMade 39 = .ok (.aload_n 0, 1) := by decide +kernel
theorem dX2_canBeMade_40 : decode cX2_canBeMade 40 = .ok (.getfield 21, 3) := by decide +kernel
theorem dX2_canBeMade_43 : decode cX2_canBeMade 43 = .ok (.if_icmp .ge 76, 3) := by decide +kernel
theorem dX2_canBeMade_46 : decode cX2_canBeMade 46 = .ok (.iload 6, 2) := by decide +kernel
theorem dX2_canBeMade_48 : decode cX2_canBeMade 48 = .ok (.bipush 120, 2) := by decide +kernel
theorem dX2_canBeMade_50 : decode cX2_canBeMade 50 = .ok (.if_icmp .ge 69, 3) := by decide +kernel
theorem dX2_canBeMade_53 : decode cX2_canBeMade 53 = .ok (.aload_n 0, 1) := by decide +kernel
theorem dX2_canBeMade_54 : decode cX2_canBeMade 54 = .ok (.getfield 18, 3) := by decide +kernel
theorem dX2_canBeMade_57 : decode cX2_canBeMade 57 = .ok (.iload 6, 2) := by decide +kernel
theorem dX2_canBeMade_59 : decode cX2_canBeMade 59 = .ok (.iaload, 1) := by decide +kernel
theorem dX2_canBeMade_60 : decode cX2_canBeMade 60 = .ok (.istore 7, 2) := by decide +kernel
theorem dX2_canBeMade_62 : decode cX2_canBeMade 62 = .ok (.aload_n 0, 1) := by decide +kernel
theorem dX2_canBeMade_63 : decode cX2_canBeMade 63 = .ok (.getfield 9, 3) := by decide +kernel
theorem dX2_canBeMade_66 : decode cX2_canBeMade 66 = .ok (.iload 7, 2) := by decide +kernel
theorem dX2_canBeMade_68 : decode cX2_canBeMade 68 = .ok (.iaload, 1) := by decide +kernel
theorem dX2_canBeMade_69 : decode cX2_canBeMade 69 = .ok (.istore 8, 2) := by decide +kernel
theorem dX2_canBeMade_71 : decode cX2_canBeMade 71 = .ok (.aload_n 0, 1) := by decide +kernel
theorem dX2_canBeMade_72 : decode cX2_canBeMade 72 = .ok (.aload_n 1, 1) := by decide +kernel
theorem dX2_canBeMade_73 : decode cX2_canBeMade 73 = .ok (.aload_n 1, 1) := by decide +kernel
theorem dX2_canBeMade_74 : decode cX2_canBeMade 74 = .ok (.iload 7, 2) := by decide +kernel
theorem dX2_canBeMade_76 : decode cX2_canBeMade 76 = .ok (.invokevirtual 35, 3) := by decide +kernel
theorem dX2_canBeMade_79 : decode cX2_canBeMade 79 = .ok (.aload_n 1, 1) := by decide +kernel
theorem dX2_canBeMade_80 : decode cX2_canBeMade 80 = .ok (.iload 8, 2) := by decide +kernel
theorem dX2_canBeMade_82 : decode cX2_canBeMade 82 = .ok (.invokevirtual 35, 3) := by decide +kernel
theorem dX2_canBeMade_85 : decode cX2_canBeMade 85 = .ok (.invokevirtual 31, 3) := by decide +kernel
theorem dX2_canBeMade_88 : decode cX2_canBeMade 88 = .ok (.ifCond .eq 23, 3) := by decide +kernel
theorem dX2_canBeMade_91 : decode cX2_canBeMade 91 = .ok (.aload_n 0, 1) := by decide +kernel
theorem dX2_canBeMade_92 : decode cX2_canBeMade 92 = .ok (.aload_n 1, 1) := by decide +kernel
theorem dX2_canBeMade_93 : decode cX2_canBeMade 93 = .ok (.aload_n 1, 1) := by decide +kernel
theorem dX2_canBeMade_94 : decode cX2_canBeMade 94 = .ok (.iload 7, 2) := by decide +kernel
theorem dX2_canBeMade_96 : decode cX2_canBeMade 96 = .ok (.invokevirtual 41, 3) := by decide +kernel
theorem dX2_canBeMade_99 : decode cX2_canBeMade 99 = .ok (.aload_n 1, 1) := by decide +kernel
theorem dX2_canBeMade_100 : decode cX2_canBeMade 100 = .ok (.iload 8, 2) := by decide +kernel
theorem dX2_canBeMade_102 : decode cX2_canBeMade 102 = .ok (.invokevirtual 41, 3) := by decide +kernel
theorem dX2_canBeMade_105 : decode cX2_canBeMade 105 = .ok (.invokevirtual 31, 3) := by decide +kernel
theorem dX2_canBeMade_108 : decode cX2_canBeMade 108 = .ok (.ifCond .ne 5, 3) := by decide +kernel
theorem dX2_canBeMade_111 : decode cX2_canBeMade 111 = .ok (.iconst 0, 1) := by decide +kernel
theorem dX2_canBeMade_112 : decode cX2_canBeMade 112 = .ok (.ireturn, 1) := by decide +kernel
theorem dX2_canBeMade_113 : decode cX2_canBeMade 113 = .ok (.iinc 6 1, 3) := by decide +kernel
theorem dX2_canBeMade_116 : decode cX2_canBeMade 116 = .ok (.goto (-79), 3) := by decide +kernel
theorem dX2_canBeMade_119 : decode cX2_canBeMade 119 = .ok (.iconst 1, 1) := by decide +kernel
theorem dX2_canBeMade_120 : decode cX2_canBeMade 120 = .ok (.ireturn, 1) := by decide +kernel
theorem dX2_fit_0 : decode cX2_fit 0 = .ok (.lload_n 2, 1) := by decide +kernel
theorem dX2_fit_1 : decode cX2_fit 1 = .ok (.invokestatic 44, 3) := by decide +kernel
theorem dX2_fit_4 : decode cX2_fit 4 = .ok (.iconst 2, 1) := by decide +kernel
theorem dX2_fit_5 : decode cX2_fit 5 = .ok (.if_icmp .ne 12, 3) := by decide +kernel
theorem dX2_fit_8 : decode cX2_fit 8 = .ok (.lload 4, 2) := by decide +kernel
theorem dX2_fit_10 : decode cX2_fit 10 = .ok (.invokestatic 44, 3) := by decide +kernel
theorem dX2_fit_13 : decode cX2_fit 13 = .ok (.iconst 2, 1) := by decide +kernel
theorem dX2_fit_14 : decode cX2_fit 14 = .ok (.if_icmp .eq 16, 3) := by decide +kernel
theorem dX2_fit_17 : decode cX2_fit 17 = .ok (.lload_n 2, 1) := by decide +kernel
theorem dX2_fit_18 : decode cX2_fit 18 = .ok (.lload 4, 2) := by decide +kernel
theorem dX2_fit_20 : decode cX2_fit 20 = .ok (.lcmp, 1) := by decide +kernel
theorem dX2_fit_21 : decode cX2_fit 21 = .ok (.ifCond .ne 7, 3) := by decide +kernel
theorem dX2_fit_24 : decode cX2_fit 24 = .ok (.iconst 1, 1) := by decide +kernel
theorem dX2_fit_25 : decode cX2_fit 25 = .ok (.goto 4, 3) := by decide +kernel
theorem dX2_fit_28 : decode cX2_fit 28 = .ok (.iconst 0, 1) := by decide +kernel
theorem dX2_fit_29 : decode cX2_fit 29 = .ok (.ireturn, 1) := by decide +kernel
theorem dX2_fit_30 : decode cX2_fit 30 = .ok (.aload_n 1, 1) := by decide +kernel
theorem dX2_fit_31 : decode cX2_fit 31 = .ok (.lload_n 2, 1) := by decide +kernel
theorem dX2_fit_32 : decode cX2_fit 32 = .ok (.invokevirtual 48, 3) := by decide +kernel
theorem dX2_fit_35 : decode cX2_fit 35 = .ok (.istore 6, 2) := by decide +kernel
theorem dX2_fit_37 : decode cX2_fit 37 = .ok (.aload_n 1, 1) := by decide +kernel
theorem dX2_fit_38 : decode cX2_fit 38 = .ok (.lload 4, 2) := by decide +kernel
theorem dX2_fit_40 : decode cX2_fit 40 = .ok (.invokevirtual 48, 3) := by decide +kernel
theorem dX2_fit_43 : decode cX2_fit 43 = .ok (.istore 7, 2) := by decide +kernel
theorem dX2_fit_45 : decode cX2_fit 45 = .ok (.aload_n 0, 1) := by decide +kernel
theorem dX2_fit_46 : decode cX2_fit 46 = .ok (.getfield 9, 3) := by decide +kernel
theorem dX2_fit_49 : decode cX2_fit 49 = .ok (.iload 6, 2) := by decide +kernel
theorem dX2_fit_51 : decode cX2_fit 51 = .ok (.iaload, 1) := by decide +kernel
theorem dX2_fit_52 : decode cX2_fit 52 = .ok (.iconst (-1), 1) := by decide +kernel
theorem dX2_fit_53 : decode cX2_fit 53 = .ok (.if_icmp .ne 64, 3) := by decide +kernel
theorem dX2_fit_56 : decode cX2_fit 56 = .ok (.aload_n 0, 1) := by decide +kernel
theorem dX2_fit_57 : decode cX2_fit 57 = .ok (.getfield 15, 3) := by decide +kernel
theorem dX2_fit_60 : decode cX2_fit 60 = .ok (.iload 7, 2) := by decide +kernel
theorem dX2_fit_62 : decode cX2_fit 62 = .ok (.iaload, 1) := by decide +kernel
theorem dX2_fit_63 : decode cX2_fit 63 = .ok (.iconst (-1), 1) := by decide +kernel
theorem dX2_fit_64 : decode cX2_fit 64 = .ok (.if_icmp .ne 53, 3) := by decide +kernel
theorem dX2_fit_67 : decode cX2_fit 67 = .ok (.aload_n 0, 1) := by decide +kernel
theorem dX2_fit_68 : decode cX2_fit 68 = .ok (.getfield 21, 3) := by decide +kernel
theorem dX2_fit_71 : decode cX2_fit 71 = .ok (.bipush 120, 2) := by decide +kernel
theorem dX2_fit_73 : decode cX2_fit 73 = .ok (.if_icmp .ge 44, 3) := by decide +kernel
theorem dX2_fit_76 : decode cX2_fit 76 = .ok (.aload_n 0, 1) := by decide +kernel
theorem dX2_fit_77 : decode cX2_fit 77 = .ok (.getfield 9, 3) := by decide +kernel
theorem dX2_fit_80 : decode cX2_fit 80 = .ok (.iload 6, 2) := by decide +kernel
theorem dX2_fit_82 : decode cX2_fit 82 = .ok (.iload 7, 2) := by decide +kernel
theorem dX2_fit_84 : decode cX2_fit 84 = .ok (.iastore, 1) := by decide +kernel
theorem dX2_fit_85 : decode cX2_fit 85 = .ok (.aload_n 0, 1) := by decide +kernel
theorem dX2_fit_86 : decode cX2_fit 86 = .ok (.getfield 15, 3) := by decide +kernel
theorem dX2_fit_89 : decode cX2_fit 89 = .ok (.iload 7, 2) := by decide +kernel
theorem dX2_fit_91 : decode cX2_fit 91 = .ok (.iload 6, 2) := by decide +kernel
theorem dX2_fit_93 : decode cX2_fit 93 = .ok (.iastore, 1) := by decide +kernel
theorem dX2_fit_94 : decode cX2_fit 94 = .ok (.aload_n 0, 1) := by decide +kernel
theorem dX2_fit_95 : decode cX2_fit 95 = .ok (.getfield 18, 3) := by decide +kernel
theorem dX2_fit_98 : decode cX2_fit 98 = .ok (.aload_n 0, 1) := by decide +kernel
theorem dX2_fit_99 : decode cX2_fit 99 = .ok (.getfield 21, 3) := by decide +kernel
theorem dX2_fit_102 : decode cX2_fit 102 = .ok (.iload 6, 2) := by decide +kernel
theorem dX2_fit_104 : decode cX2_fit 104 = .ok (.iastore, 1) := by decide +kernel
theorem dX2_fit_105 : decode cX2_fit 105 = .ok (.aload_n 0, 1) := by decide +kernel
theorem dX2_fit_106 : decode cX2_fit 106 = .ok (.dup, 1) := by decide +kernel
theorem dX2_fit_107 : decode cX2_fit 107 = .ok (.getfield 21, 3) := by decide +kernel
theorem dX2_fit_110 : decode cX2_fit 110 = .ok (.iconst 1, 1) := by decide +kernel
theorem dX2_fit_111 : decode cX2_fit 111 = .ok (.iadd, 1) := by decide +kernel
theorem dX2_fit_112 : decode cX2_fit 112 = .ok (.putfield 21, 3) := by decide +kernel
theorem dX2_fit_115 : decode cX2_fit 115 = .ok (.iconst 1, 1) := by decide +kernel
theorem dX2_fit_116 : decode cX2_fit 116 = .ok (.ireturn, 1) := by decide +kernel
theorem dX2_fit_117 : decode cX2_fit 117 = .ok (.aload_n 0, 1) := by decide +kernel
theorem dX2_fit_118 : decode cX2_fit 118 = .ok (.getfield 9, 3) := by decide +kernel
theorem dX2_fit_121 : decode cX2_fit 121 = .ok (.iload 6, 2) := by decide +kernel
theorem dX2_fit_123 : decode cX2_fit 123 = .ok (.iaload, 1) := by decide +kernel
theorem dX2_fit_124 : decode cX2_fit 124 = .ok (.iload 7, 2) := by decide +kernel
theorem dX2_fit_126 : decode cX2_fit 126 = .ok (.if_icmp .ne 7, 3) := by decide +kernel
theorem dX2_fit_129 : decode cX2_fit 129 = .ok (.iconst 1, 1) := by decide +kernel
theorem dX2_fit_130 : decode cX2_fit 130 = .ok (.goto 4, 3) := by decide +kernel
theorem dX2_fit_133 : decode cX2_fit 133 = .ok (.iconst 0, 1) := by decide +kernel
theorem dX2_fit_134 : decode cX2_fit 134 = .ok (.ireturn, 1) := by decide +kernel
theorem dX3_init_0 : decode cX3_init 0 = .ok (.aload_n 0, 1) := by decide +kernel
theorem dX3_init_1 : decode cX3_init 1 = .ok (.invokespecial 3, 3) := by decide +kernel
theorem dX3_init_4 : decode cX3_init 4 = .ok (.aload_n 0, 1) := by decide +kernel
theorem dX3_init_5 : decode cX3_init 5 = .ok (.bipush 10, 2) := by decide +kernel
theorem dX3_init_7 : decode cX3_init 7 = .ok (.newarray .long, 2) := by decide +kernel
theorem dX3_init_9 : decode cX3_init 9 = .ok (.putfield 9, 3) := by decide +kernel
theorem dX3_init_12 : decode cX3_init 12 = .ok (.aload_n 0, 1) := by decide +kernel
theorem dX3_init_13 : decode cX3_init 13 = .ok (.new 13, 3) := by decide +kernel
theorem dX3_init_16 : decode cX3_init 16 = .ok (.dup, 1) := by decide +kernel
theorem dX3_init_17 : decode cX3_init 17 = .ok (.invokespecial 15, 3) := by decide +kernel
theorem dX3_init_20 : decode cX3_init 20 = .ok (.putfield 16, 3) := by decide +kernel
theorem dX3_init_23 : decode cX3_init 23 = .ok (.aload_n 0, 1) := by decide +kernel
theorem dX3_init_24 : decode cX3_init 24 = .ok (.new 20, 3) := by decide +kernel
theorem dX3_init_27 : decode cX3_init 27 = .ok (.dup, 1) := by decide +kernel
theorem dX3_init_28 : decode cX3_init 28 = .ok (.invokespecial 22, 3) := by decide +kernel
theorem dX3_init_31 : decode cX3_init 31 = .ok (.putfield 23, 3) := by decide +kernel
theorem dX3_init_34 : decode cX3_init 34 = .ok (.aload_n 0, 1) := by decide +kernel
theorem dX3_init_35 : decode cX3_init 35 = .ok (.bipush 120, 2) := by decide +kernel
theorem dX3_init_37 : decode cX3_init 37 = .ok (.newarray .int, 2) := by decide +kernel
theorem dX3_init_39 : decode cX3_init 39 = .ok (.putfield 27, 3) := by decide +kernel
theorem dX3_init_42 : decode cX3_init 42 = .ok (.aload_n 0, 1) := by decide +kernel
theorem dX3_init_43 : decode cX3_init 43 = .ok (.new 31, 3) := by decide +kernel
theorem dX3_init_46 : decode cX3_init 46 = .ok (.dup, 1) := by decide +kernel
theorem dX3_init_47 : decode cX3_init 47 = .ok (.invokespecial 33, 3) := by decide +kernel
theorem dX3_init_50 : decode cX3_init 50 = .ok (.putfield 34, 3) := by decide +kernel
theorem dX3_init_53 : decode cX3_init 53 = .ok (.aload_n 0, 1) := by decide +kernel
theorem dX3_init_54 : decode cX3_init 54 = .ok (.new 31, 3) := by decide +kernel
theorem dX3_init_57 : decode cX3_init 57 = .ok (.dup, 1) := by decide +kernel
theorem dX3_init_58 : decode cX3_init 58 = .ok (.invokespecial 33, 3) := by decide +kernel
theorem dX3_init_61 : decode cX3_init 61 = .ok (.putfield 38, 3) := by decide +kernel
theorem dX3_init_64 : decode cX3_init 64 = .ok (.aload_n 0, 1) := by decide +kernel
theorem dX3_init_65 : decode cX3_init 65 = .ok (.iconst 0, 1) := by decide +kernel
theorem dX3_init_66 : decode cX3_init 66 = .ok (.putfield 41, 3) := by decide +kernel
theorem dX3_init_69 : decode cX3_init 69 = .ok (.return_, 1) := by decide +kernel
theorem dX3_number_0 : decode cX3_number 0 = .ok (.iload_n 1, 1) := by decide +kernel
theorem dX3_number_1 : decode cX3_number 1 = .ok (.invokestatic 45, 3) := by decide +kernel
theorem dX3_number_4 : decode cX3_number 4 = .ok (.lload_n 2, 1) := by decide +kernel
theorem dX3_number_5 : decode cX3_number 5 = .ok (.ldc2_w 49, 3) := by decide +kernel
theorem dX3_number_8 : decode cX3_number 8 = .ok (.lcmp, 1) := by decide +kernel
theorem dX3_number_9 : decode cX3_number 9 = .ok (.ifCond .lt 11, 3) := by decide +kernel
theorem dX3_number_12 : decode cX3_number 12 = .ok (.lload_n 2, 1) := by decide +kernel
theorem dX3_number_13 : decode cX3_number 13 = .ok (.ldc2_w 51, 3) := by decide +kernel
theorem dX3_number_16 : decode cX3_number 16 = .ok (.lcmp, 1) := by decide +kernel
theorem dX3_number_17 : decode cX3_number 17 = .ok (.ifCond .le 13, 3) := by decide +kernel
theorem dX3_number_20 : decode cX3_number 20 = .ok (.new 53, 3) := by decide +kernel
theorem dX3_number_23 : decode cX3_number 23 = .ok (.dup, 1) := by decide +kernel
theorem dX3_number_24 : decode cX3_number 24 = .ok (.ldc 55, 2) := by decide +kernel
theorem dX3_number_26 : decode cX3_number 26 = .ok (.invokespecial 57, 3) := by decide +kernel
theorem dX3_number_29 : decode cX3_number 29 = .ok (.athrow, 1) := by decide +kernel
theorem dX3_number_30 : decode cX3_number 30 = .ok (.aload_n 0, 1) := by decide +kernel
theorem dX3_number_31 : decode cX3_number 31 = .ok (.getfield 9, 3) := by decide +kernel
theorem dX3_number_34 : decode cX3_number 34 = .ok (.iload_n 1, 1) := by decide +kernel
theorem dX3_number_35 : decode cX3_number 35 = .ok (.iconst 1, 1) := by decide +kernel
theorem dX3_number_36 : decode cX3_number 36 = .ok (.lload_n 2, 1) := by decide +kernel
theorem dX3_number_37 : decode cX3_number 37 = .ok (.invokestatic 60, 3) := by decide +kernel
theorem dX3_number_40 : decode cX3_number 40 = .ok (.lastore, 1) := by decide +kernel
theorem dX3_number_41 : decode cX3_number 41 = .ok (.return_, 1) := by decide +kernel
theorem dX3_drop_0 : decode cX3_drop 0 = .ok (.iload_n 1, 1) := by decide +kernel
theorem dX3_drop_1 : decode cX3_drop 1 = .ok (.invokestatic 45, 3) := by decide +kernel
theorem dX3_drop_4 : decode cX3_drop 4 = .ok (.aload_n 0, 1) := by decide +kernel
theorem dX3_drop_5 : decode cX3_drop 5 = .ok (.getfield 9, 3) := by decide +kernel
theorem dX3_drop_8 : decode cX3_drop 8 = .ok (.iload_n 1, 1) := by decide +kernel
theorem dX3_drop_9 : decode cX3_drop 9 = .ok (.lconst 0, 1) := by decide +kernel
theorem dX3_drop_10 : decode cX3_drop 10 = .ok (.lastore, 1) := by decide +kernel
theorem dX3_drop_11 : decode cX3_drop 11 = .ok (.return_, 1) := by decide +kernel
theorem dX3_copy_0 : decode cX3_copy 0 = .ok (.iload_n 1, 1) := by decide +kernel
theorem dX3_copy_1 : decode cX3_copy 1 = .ok (.iload_n 2, 1) := by decide +kernel
theorem dX3_copy_2 : decode cX3_copy 2 = .ok (.invokestatic 64, 3) := by decide +kernel
theorem dX3_copy_5 : decode cX3_copy 5 = .ok (.aload_n 0, 1) := by decide +kernel
theorem dX3_copy_6 : decode cX3_copy 6 = .ok (.getfield 9, 3) := by decide +kernel
theorem dX3_copy_9 : decode cX3_copy 9 = .ok (.iload_n 1, 1) := by decide +kernel
theorem dX3_copy_10 : decode cX3_copy 10 = .ok (.aload_n 0, 1) := by decide +kernel
theorem dX3_copy_11 : decode cX3_copy 11 = .ok (.getfield 9, 3) := by decide +kernel
theorem dX3_copy_14 : decode cX3_copy 14 = .ok (.iload_n 2, 1) := by decide +kernel
theorem dX3_copy_15 : decode cX3_copy 15 = .ok (.laload, 1) := by decide +kernel
theorem dX3_copy_16 : decode cX3_copy 16 = .ok (.lastore, 1) := by decide +kernel
theorem dX3_copy_17 : decode cX3_copy 17 = .ok (.return_, 1) := by decide +kernel
theorem dX3_cons_0 : decode cX3_cons 0 = .ok (.iload_n 1, 1) := by decide +kernel
theorem dX3_cons_1 : decode cX3_cons 1 = .ok (.iload_n 2, 1) := by decide +kernel
theorem dX3_cons_2 : decode cX3_cons 2 = .ok (.invokestatic 64, 3) := by decide +kernel
theorem dX3_cons_5 : decode cX3_cons 5 = .ok (.iload_n 3, 1) := by decide +kernel
theorem dX3_cons_6 : decode cX3_cons 6 = .ok (.invokestatic 45, 3) := by decide +kernel
theorem dX3_cons_9 : decode cX3_cons 9 = .ok (.aload_n 0, 1) := by decide +kernel
theorem dX3_cons_10 : decode cX3_cons 10 = .ok (.iconst 2, 1) := by decide +kernel
theorem dX3_cons_11 : decode cX3_cons 11 = .ok (.invokevirtual 68, 3) := by decide +kernel
theorem dX3_cons_14 : decode cX3_cons 14 = .ok (.aload_n 0, 1) := by decide +kernel
theorem dX3_cons_15 : decode cX3_cons 15 = .ok (.getfield 9, 3) := by decide +kernel
theorem dX3_cons_18 : decode cX3_cons 18 = .ok (.iload_n 1, 1) := by decide +kernel
theorem dX3_cons_19 : decode cX3_cons 19 = .ok (.iconst 2, 1) := by decide +kernel
theorem dX3_cons_20 : decode cX3_cons 20 = .ok (.aload_n 0, 1) := by decide +kernel
theorem dX3_cons_21 : decode cX3_cons 21 = .ok (.getfield 34, 3) := by decide +kernel
theorem dX3_cons_24 : decode cX3_cons 24 = .ok (.aload_n 0, 1) := by decide +kernel
theorem dX3_cons_25 : decode cX3_cons 25 = .ok (.getfield 9, 3) := by decide +kernel
theorem dX3_cons_28 : decode cX3_cons 28 = .ok (.iload_n 2, 1) := by decide +kernel
theorem dX3_cons_29 : decode cX3_cons 29 = .ok (.laload, 1) := by decide +kernel
theorem dX3_cons_30 : decode cX3_cons 30 = .ok (.aload_n 0, 1) := by decide +kernel
theorem dX3_cons_31 : decode cX3_cons 31 = .ok (.getfield 9, 3) := by decide +kernel
theorem dX3_cons_34 : decode cX3_cons 34 = .ok (.iload_n 3, 1) := by decide +kernel
theorem dX3_cons_35 : decode cX3_cons 35 = .ok (.laload, 1) := by decide +kernel
theorem dX3_cons_36 : decode cX3_cons 36 = .ok (.invokevirtual 71, 3) := by decide +kernel
theorem dX3_cons_39 : decode cX3_cons 39 = .ok (.i2l, 1) := by decide +kernel
theorem dX3_cons_40 : decode cX3_cons 40 = .ok (.invokestatic 60, 3) := by decide +kernel
theorem dX3_cons_43 : decode cX3_cons 43 = .ok (.lastore, 1) := by decide +kernel
theorem dX3_cons_44 : decode cX3_cons 44 = .ok (.return_, 1) := by decide +kernel
theorem dX3_list_0 : decode cX3_list 0 = .ok (.iload_n 1, 1) := by decide +kernel
theorem dX3_list_1 : decode cX3_list 1 = .ok (.iload_n 2, 1) := by decide +kernel
theorem dX3_list_2 : decode cX3_list 2 = .ok (.invokestatic 64, 3) := by decide +kernel
theorem dX3_list_5 : decode cX3_list 5 = .ok (.iload_n 3, 1) := by decide +kernel
theorem dX3_list_6 : decode cX3_list 6 = .ok (.iconst 1, 1) := by decide +kernel
theorem dX3_list_7 : decode cX3_list 7 = .ok (.if_icmp .lt 17, 3) := by decide +kernel
theorem dX3_list_10 : decode cX3_list 10 = .ok (.iload_n 3, 1) := by decide +kernel
theorem dX3_list_11 : decode cX3_list 11 = .ok (.bipush 10, 2) := by decide +kernel
theorem dX3_list_13 : decode cX3_list 13 = .ok (.if_icmp .gt 11, 3) := by decide +kernel
theorem dX3_list_16 : decode cX3_list 16 = .ok (.iload_n 3, 1) := by decide +kernel
theorem dX3_list_17 : decode cX3_list 17 = .ok (.bipush 10, 2) := by decide +kernel
theorem dX3_list_19 : decode cX3_list 19 = .ok (.iload_n 2, 1) := by decide +kernel
theorem dX3_list_20 : decode cX3_list 20 = .ok (.isub, 1) := by decide +kernel
theorem dX3_list_21 : decode cX3_list 21 = .ok (.if_icmp .le 13, 3) := by decide +kernel
theorem dX3_list_24 : decode cX3_list 24 = .ok (.new 53, 3) := by decide +kernel
theorem dX3_list_27 : decode cX3_list 27 = .ok (.dup, 1) := by decide +kernel
theorem dX3_list_28 : decode cX3_list 28 = .ok (.ldc 75, 2) := by decide +kernel
theorem dX3_list_30 : decode cX3_list 30 = .ok (.invokespecial 57, 3) := by decide +kernel
theorem dX3_list_33 : decode cX3_list 33 = .ok (.athrow, 1) := by decide +kernel
theorem dX3_list_34 : decode cX3_list 34 = .ok (.aload_n 0, 1) := by decide +kernel
theorem dX3_list_35 : decode cX3_list 35 = .ok (.iload_n 3, 1) := by decide +kernel
theorem dX3_list_36 : decode cX3_list 36 = .ok (.invokevirtual 68, 3) := by decide +kernel
theorem dX3_list_39 : decode cX3_list 39 = .ok (.aload_n 0, 1) := by decide +kernel
theorem dX3_list_40 : decode cX3_list 40 = .ok (.getfield 34, 3) := by decide +kernel
theorem dX3_list_43 : decode cX3_list 43 = .ok (.getfield 77, 3) := by decide +kernel
theorem dX3_list_46 : decode cX3_list 46 = .ok (.istore 4, 2) := by decide +kernel
theorem dX3_list_48 : decode cX3_list 48 = .ok (.iconst 0, 1) := by decide +kernel
theorem dX3_list_49 : decode cX3_list 49 = .ok (.istore 5, 2) := by decide +kernel
theorem dX3_list_51 : decode cX3_list 51 = .ok (.iload 5, 2) := by decide +kernel
theorem dX3_list_53 : decode cX3_list 53 = .ok (.iload_n 3, 1) := by decide +kernel
theorem dX3_list_54 : decode cX3_list 54 = .ok (.if_icmp .ge 39, 3) := by decide +kernel
theorem dX3_list_57 : decode cX3_list 57 = .ok (.aload_n 0, 1) := by decide +kernel
theorem dX3_list_58 : decode cX3_list 58 = .ok (.getfield 34, 3) := by decide +kernel
theorem dX3_list_61 : decode cX3_list 61 = .ok (.iload 5, 2) := by decide +kernel
theorem dX3_list_63 : decode cX3_list 63 = .ok (.iload_n 3, 1) := by decide +kernel
theorem dX3_list_64 : decode cX3_list 64 = .ok (.iconst 1, 1) := by decide +kernel
theorem dX3_list_65 : decode cX3_list 65 = .ok (.isub, 1) := by decide +kernel
theorem dX3_list_66 : decode cX3_list 66 = .ok (.if_icmp .ge 7, 3) := by decide +kernel
theorem dX3_list_69 : decode cX3_list 69 = .ok (.iconst 0, 1) := by decide +kernel
theorem dX3_list_70 : decode cX3_list 70 = .ok (.goto 4, 3) := by decide +kernel
theorem dX3_list_73 : decode cX3_list 73 = .ok (.iconst 1, 1) := by decide +kernel
theorem dX3_list_74 : decode cX3_list 74 = .ok (.aload_n 0, 1) := by decide +kernel
theorem dX3_list_75 : decode cX3_list 75 = .ok (.getfield 9, 3) := by decide +kernel
theorem dX3_list_78 : decode cX3_list 78 = .ok (.iload_n 2, 1) := by decide +kernel
theorem dX3_list_79 : decode cX3_list 79 = .ok (.iload 5, 2) := by decide +kernel
theorem dX3_list_81 : decode cX3_list 81 = .ok (.iadd, 1) := by decide +kernel
theorem dX3_list_82 : decode cX3_list 82 = .ok (.laload, 1) := by decide +kernel
theorem dX3_list_83 : decode cX3_list 83 = .ok (.invokevirtual 80, 3) := by decide +kernel
theorem dX3_list_86 : decode cX3_list 86 = .ok (.pop, 1) := by decide +kernel
theorem dX3_list_87 : decode cX3_list 87 = .ok (.iinc 5 1, 3) := by decide +kernel
theorem dX3_list_90 : decode cX3_list 90 = .ok (.goto (-39), 3) := by decide +kernel
theorem dX3_list_93 : decode cX3_list 93 = .ok (.aload_n 0, 1) := by decide +kernel
theorem dX3_list_94 : decode cX3_list 94 = .ok (.getfield 9, 3) := by decide +kernel
theorem dX3_list_97 : decode cX3_list 97 = .ok (.iload_n 1, 1) := by decide +kernel
theorem dX3_list_98 : decode cX3_list 98 = .ok (.iconst 2, 1) := by decide +kernel
theorem dX3_list_99 : decode cX3_list 99 = .ok (.iload 4, 2) := by decide +kernel
theorem dX3_list_101 : decode cX3_list 101 = .ok (.i2l, 1) := by decide +kernel
theorem dX3_list_102 : decode cX3_list 102 = .ok (.invokestatic 60, 3) := by decide +kernel
theorem dX3_list_105 : decode cX3_list 105 = .ok (.lastore, 1) := by decide +kernel
theorem dX3_list_106 : decode cX3_list 106 = .ok (.return_, 1) := by decide +kernel
theorem dX3_first_0 : decode cX3_first 0 = .ok (.iload_n 1, 1) := by decide +kernel
theorem dX3_first_1 : decode cX3_first 1 = .ok (.iload_n 2, 1) := by decide +kernel
theorem dX3_first_2 : decode cX3_first 2 = .ok (.invokestatic 64, 3) := by decide +kernel
theorem dX3_first_5 : decode cX3_first 5 = .ok (.aload_n 0, 1) := by decide +kernel
theorem dX3_first_6 : decode cX3_first 6 = .ok (.iload_n 2, 1) := by decide +kernel
theorem dX3_first_7 : decode cX3_first 7 = .ok (.invokevirtual 84, 3) := by decide +kernel
theorem dX3_first_10 : decode cX3_first 10 = .ok (.aload_n 0, 1) := by decide +kernel
theorem dX3_first_11 : decode cX3_first 11 = .ok (.getfield 9, 3) := by decide +kernel
theorem dX3_first_14 : decode cX3_first 14 = .ok (.iload_n 1, 1) := by decide +kernel
theorem dX3_first_15 : decode cX3_first 15 = .ok (.aload_n 0, 1) := by decide +kernel
theorem dX3_first_16 : decode cX3_first 16 = .ok (.getfield 34, 3) := by decide +kernel
theorem dX3_first_19 : decode cX3_first 19 = .ok (.aload_n 0, 1) := by decide +kernel
theorem dX3_first_20 : decode cX3_first 20 = .ok (.getfield 34, 3) := by decide +kernel
theorem dX3_first_23 : decode cX3_first 23 = .ok (.aload_n 0, 1) := by decide +kernel
theorem dX3_first_24 : decode cX3_first 24 = .ok (.getfield 9, 3) := by decide +kernel
theorem dX3_first_27 : decode cX3_first 27 = .ok (.iload_n 2, 1) := by decide +kernel
theorem dX3_first_28 : decode cX3_first 28 = .ok (.laload, 1) := by decide +kernel
theorem dX3_first_29 : decode cX3_first 29 = .ok (.invokevirtual 87, 3) := by decide +kernel
theorem dX3_first_32 : decode cX3_first 32 = .ok (.invokevirtual 91, 3) := by decide +kernel
theorem dX3_first_35 : decode cX3_first 35 = .ok (.lastore, 1) := by decide +kernel
theorem dX3_first_36 : decode cX3_first 36 = .ok (.return_, 1) := by decide +kernel
theorem dX3_rest_0 : decode cX3_rest 0 = .ok (.iload_n 1, 1) := by decide +kernel
theorem dX3_rest_1 : decode cX3_rest 1 = .ok (.iload_n 2, 1) := by decide +kernel
theorem dX3_rest_2 : decode cX3_rest 2 = .ok (.invokestatic 64, 3) := by decide +kernel
theorem dX3_rest_5 : decode cX3_rest 5 = .ok (.aload_n 0, 1) := by decide +kernel
theorem dX3_rest_6 : decode cX3_rest 6 = .ok (.iload_n 2, 1) := by decide +kernel
theorem dX3_rest_7 : decode cX3_rest 7 = .ok (.invokevirtual 84, 3) := by decide +kernel
theorem dX3_rest_10 : decode cX3_rest 10 = .ok (.aload_n 0, 1) := by decide +kernel
theorem dX3_rest_11 : decode cX3_rest 11 = .ok (.getfield 9, 3) := by decide +kernel
theorem dX3_rest_14 : decode cX3_rest 14 = .ok (.iload_n 1, 1) := by decide +kernel
theorem dX3_rest_15 : decode cX3_rest 15 = .ok (.aload_n 0, 1) := by decide +kernel
theorem dX3_rest_16 : decode cX3_rest 16 = .ok (.getfield 34, 3) := by decide +kernel
theorem dX3_rest_19 : decode cX3_rest 19 = .ok (.aload_n 0, 1) := by decide +kernel
theorem dX3_rest_20 : decode cX3_rest 20 = .ok (.getfield 34, 3) := by decide +kernel
theorem dX3_rest_23 : decode cX3_rest 23 = .ok (.aload_n 0, 1) := by decide +kernel
theorem dX3_rest_24 : decode cX3_rest 24 = .ok (.getfield 9, 3) := by decide +kernel
theorem dX3_rest_27 : decode cX3_rest 27 = .ok (.iload_n 2, 1) := by decide +kernel
theorem dX3_rest_28 : decode cX3_rest 28 = .ok (.laload, 1) := by decide +kernel
theorem dX3_rest_29 : decode cX3_rest 29 = .ok (.invokevirtual 87, 3) := by decide +kernel
theorem dX3_rest_32 : decode cX3_rest 32 = .ok (.invokevirtual 95, 3) := by decide +kernel
theorem dX3_rest_35 : decode cX3_rest 35 = .ok (.lastore, 1) := by decide +kernel
theorem dX3_rest_36 : decode cX3_rest 36 = .ok (.return_, 1) := by decide +kernel
theorem dX3_setFirst_0 : decode cX3_setFirst 0 = .ok (.iload_n 1, 1) := by decide +kernel
theorem dX3_setFirst_1 : decode cX3_setFirst 1 = .ok (.iload_n 2, 1) := by decide +kernel
theorem dX3_setFirst_2 : decode cX3_setFirst 2 = .ok (.invokestatic 64, 3) := by decide +kernel
theorem dX3_setFirst_5 : decode cX3_setFirst 5 = .ok (.aload_n 0, 1) := by decide +kernel
theorem dX3_setFirst_6 : decode cX3_setFirst 6 = .ok (.iload_n 1, 1) := by decide +kernel
theorem dX3_setFirst_7 : decode cX3_setFirst 7 = .ok (.invokevirtual 84, 3) := by decide +kernel
theorem dX3_setFirst_10 : decode cX3_setFirst 10 = .ok (.aload_n 0, 1) := by decide +kernel
theorem dX3_setFirst_11 : decode cX3_setFirst 11 = .ok (.getfield 34, 3) := by decide +kernel
theorem dX3_setFirst_14 : decode cX3_setFirst 14 = .ok (.aload_n 0, 1) := by decide +kernel
theorem dX3_setFirst_15 : decode cX3_setFirst 15 = .ok (.getfield 34, 3) := by decide +kernel
theorem dX3_setFirst_18 : decode cX3_setFirst 18 = .ok (.aload_n 0, 1) := by decide +kernel
theorem dX3_setFirst_19 : decode cX3_setFirst 19 = .ok (.getfield 9, 3) := by decide +kernel
theorem dX3_setFirst_22 : decode cX3_setFirst 22 = .ok (.iload_n 1, 1) := by decide +kernel
theorem dX3_setFirst_23 : decode cX3_setFirst 23 = .ok (.laload, 1) := by decide +kernel
theorem dX3_setFirst_24 : decode cX3_setFirst 24 = .ok (.invokevirtual 87, 3) := by decide +kernel
theorem dX3_setFirst_27 : decode cX3_setFirst 27 = .ok (.aload_n 0, 1) := by decide +kernel
theorem dX3_setFirst_28 : decode cX3_setFirst 28 = .ok (.getfield 9, 3) := by decide +kernel
theorem dX3_setFirst_31 : decode cX3_setFirst 31 = .ok (.iload_n 2, 1) := by decide +kernel
theorem dX3_setFirst_32 : decode cX3_setFirst 32 = .ok (.laload, 1) := by decide +kernel
theorem dX3_setFirst_33 : decode cX3_setFirst 33 = .ok (.invokevirtual 98, 3) := by decide +kernel
theorem dX3_setFirst_36 : decode cX3_setFirst 36 = .ok (.return_, 1) := by decide +kernel
theorem dX3_setRest_0 : decode cX3_setRest 0 = .ok (.iload_n 1, 1) := by decide +kernel
theorem dX3_setRest_1 : decode cX3_setRest 1 = .ok (.iload_n 2, 1) := by decide +kernel
theorem dX3_setRest_2 : decode cX3_setRest 2 = .ok (.invokestatic 64, 3) := by decide +kernel
theorem dX3_setRest_5 : decode cX3_setRest 5 = .ok (.aload_n 0, 1) := by decide +kernel
theorem dX3_setRest_6 : decode cX3_setRest 6 = .ok (.iload_n 1, 1) := by decide +kernel
theorem dX3_setRest_7 : decode cX3_setRest 7 = .ok (.invokevirtual 84, 3) := by decide +kernel
theorem dX3_setRest_10 : decode cX3_setRest 10 = .ok (.aload_n 0, 1) := by decide +kernel
theorem dX3_setRest_11 : decode cX3_setRest 11 = .ok (.getfield 34, 3) := by decide +kernel
theorem dX3_setRest_14 : decode cX3_setRest 14 = .ok (.aload_n 0, 1) := by decide +kernel
theorem dX3_setRest_15 : decode cX3_setRest 15 = .ok (.getfield 9, 3) := by decide +kernel
theorem dX3_setRest_18 : decode cX3_setRest 18 = .ok (.iload_n 1, 1) := by decide +kernel
theorem dX3_setRest_19 : decode cX3_setRest 19 = .ok (.laload, 1) := by decide +kernel
theorem dX3_setRest_20 : decode cX3_setRest 20 = .ok (.invokevirtual 87, 3) := by decide +kernel
theorem dX3_setRest_23 : decode cX3_setRest 23 = .ok (.istore_n 3, 1) := by decide +kernel
theorem dX3_setRest_24 : decode cX3_setRest 24 = .ok (.aload_n 0, 1) := by decide +kernel
theorem dX3_setRest_25 : decode cX3_setRest 25 = .ok (.aload_n 0, 1) := by decide +kernel
theorem dX3_setRest_26 : decode cX3_setRest 26 = .ok (.getfield 34, 3) := by decide +kernel
theorem dX3_setRest_29 : decode cX3_setRest 29 = .ok (.iload_n 3, 1) := by decide +kernel
theorem dX3_setRest_30 : decode cX3_setRest 30 = .ok (.invokevirtual 95, 3) := by decide +kernel
theorem dX3_setRest_33 : decode cX3_setRest 33 = .ok (.aload_n 0, 1) := by decide +kernel
theorem dX3_setRest_34 : decode cX3_setRest 34 = .ok (.getfield 9, 3) := by decide +kernel
theorem dX3_setRest_37 : decode cX3_setRest 37 = .ok (.iload_n 2, 1) := by decide +kernel
theorem dX3_setRest_38 : decode cX3_setRest 38 = .ok (.laload, 1) := by decide +kernel
theorem dX3_setRest_39 : decode cX3_setRest 39 = .ok (.invokevirtual 102, 3) := by decide +kernel
theorem dX3_setRest_42 : decode cX3_setRest 42 = .ok (.ifCond .eq 4, 3) := by decide +kernel
theorem dX3_setRest_45 : decode cX3_setRest 45 = .ok (.return_, 1) := by decide +kernel
theorem dX3_setRest_46 : decode cX3_setRest 46 = .ok (.aload_n 0, 1) := by decide +kernel
theorem dX3_setRest_47 : decode cX3_setRest 47 = .ok (.getfield 34, 3) := by decide +kernel
theorem dX3_setRest_50 : decode cX3_setRest 50 = .ok (.iload_n 3, 1) := by decide +kernel
theorem dX3_setRest_51 : decode cX3_setRest 51 = .ok (.invokevirtual 106, 3) := by decide +kernel
theorem dX3_setRest_54 : decode cX3_setRest 54 = .ok (.iconst 2, 1) := by decide +kernel
theorem dX3_setRest_55 : decode cX3_setRest 55 = .ok (.if_icmp .eq 22, 3) := by decide +kernel
theorem dX3_setRest_58 : decode cX3_setRest 58 = .ok (.aload_n 0, 1) := by decide +kernel
theorem dX3_setRest_59 : decode cX3_setRest 59 = .ok (.iconst 2, 1) := by decide +kernel
theorem dX3_setRest_60 : decode cX3_setRest 60 = .ok (.invokevirtual 68, 3) := by decide +kernel
theorem dX3_setRest_63 : decode cX3_setRest 63 = .ok (.aload_n 0, 1) := by decide +kernel
theorem dX3_setRest_64 : decode cX3_setRest 64 = .ok (.getfield 34, 3) := by decide +kernel
theorem dX3_setRest_67 : decode cX3_setRest 67 = .ok (.aload_n 0, 1) := by decide +kernel
theorem dX3_setRest_68 : decode cX3_setRest 68 = .ok (.getfield 9, 3) := by decide +kernel
theorem dX3_setRest_71 : decode cX3_setRest 71 = .ok (.iload_n 1, 1) := by decide +kernel
theorem dX3_setRest_72 : decode cX3_setRest 72 = .ok (.laload, 1) := by decide +kernel
theorem dX3_setRest_73 : decode cX3_setRest 73 = .ok (.invokevirtual 87, 3) := by decide +kernel
theorem dX3_setRest_76 : decode cX3_setRest 76 = .ok (.istore_n 3, 1) := by decide +kernel
theorem dX3_setRest_77 : decode cX3_setRest 77 = .ok (.aload_n 0, 1) := by decide +kernel
theorem dX3_setRest_78 : decode cX3_setRest 78 = .ok (.getfield 34, 3) := by decide +kernel
theorem dX3_setRest_81 : decode cX3_setRest 81 = .ok (.iload_n 3, 1) := by decide +kernel
theorem dX3_setRest_82 : decode cX3_setRest 82 = .ok (.invokevirtual 106, 3) := by decide +kernel
theorem dX3_setRest_85 : decode cX3_setRest 85 = .ok (.iconst 2, 1) := by decide +kernel
theorem dX3_setRest_86 : decode cX3_setRest 86 = .ok (.if_icmp .ne 22, 3) := by decide +kernel
theorem dX3_setRest_89 : decode cX3_setRest 89 = .ok (.aload_n 0, 1) := by decide +kernel
theorem dX3_setRest_90 : decode cX3_setRest 90 = .ok (.getfield 34, 3) := by decide +kernel
theorem dX3_setRest_93 : decode cX3_setRest 93 = .ok (.iload_n 3, 1) := by decide +kernel
theorem dX3_setRest_94 : decode cX3_setRest 94 = .ok (.iconst 1, 1) := by decide +kernel
theorem dX3_setRest_95 : decode cX3_setRest 95 = .ok (.iadd, 1) := by decide +kernel
theorem dX3_setRest_96 : decode cX3_setRest 96 = .ok (.aload_n 0, 1) := by decide +kernel
theorem dX3_setRest_97 : decode cX3_setRest 97 = .ok (.getfield 9, 3) := by decide +kernel
theorem dX3_setRest_100 : decode cX3_setRest 100 = .ok (.iload_n 2, 1) := by decide +kernel
theorem dX3_setRest_101 : decode cX3_setRest 101 = .ok (.laload, 1) := by decide +kernel
theorem dX3_setRest_102 : decode cX3_setRest 102 = .ok (.invokevirtual 98, 3) := by decide +kernel
theorem dX3_setRest_105 : decode cX3_setRest 105 = .ok (.goto 41, 3) := by decide +kernel
theorem dX3_setRest_108 : decode cX3_setRest 108 = .ok (.aload_n 0, 1) := by decide +kernel
theorem dX3_setRest_109 : decode cX3_setRest 109 = .ok (.getfield 34, 3) := by decide +kernel
theorem dX3_setRest_112 : decode cX3_setRest 112 = .ok (.aload_n 0, 1) := by decide +kernel
theorem dX3_setRest_113 : decode cX3_setRest 113 = .ok (.getfield 34, 3) := by decide +kernel
theorem dX3_setRest_116 : decode cX3_setRest 116 = .ok (.iload_n 3, 1) := by decide +kernel
theorem dX3_setRest_117 : decode cX3_setRest 117 = .ok (.invokevirtual 91, 3) := by decide +kernel
theorem dX3_setRest_120 : decode cX3_setRest 120 = .ok (.aload_n 0, 1) := by decide +kernel
theorem dX3_setRest_121 : decode cX3_setRest 121 = .ok (.getfield 9, 3) := by decide +kernel
theorem dX3_setRest_124 : decode cX3_setRest 124 = .ok (.iload_n 2, 1) := by decide +kernel
theorem dX3_setRest_125 : decode cX3_setRest 125 = .ok (.laload, 1) := by decide +kernel
theorem dX3_setRest_126 : decode cX3_setRest 126 = .ok (.invokevirtual 71, 3) := by decide +kernel
theorem dX3_setRest_129 : decode cX3_setRest 129 = .ok (.istore 4, 2) := by decide +kernel
theorem dX3_setRest_131 : decode cX3_setRest 131 = .ok (.aload_n 0, 1) := by decide +kernel
theorem dX3_setRest_132 : decode cX3_setRest 132 = .ok (.getfield 34, 3) := by decide +kernel
theorem dX3_setRest_135 : decode cX3_setRest 135 = .ok (.iload_n 3, 1) := by decide +kernel
theorem dX3_setRest_136 : decode cX3_setRest 136 = .ok (.iconst 3, 1) := by decide +kernel
theorem dX3_setRest_137 : decode cX3_setRest 137 = .ok (.iload 4, 2) := by decide +kernel
theorem dX3_setRest_139 : decode cX3_setRest 139 = .ok (.i2l, 1) := by decide +kernel
theorem dX3_setRest_140 : decode cX3_setRest 140 = .ok (.invokestatic 60, 3) := by decide +kernel
theorem dX3_setRest_143 : decode cX3_setRest 143 = .ok (.invokevirtual 98, 3) := by decide +kernel
theorem dX3_setRest_146 : decode cX3_setRest 146 = .ok (.return_, 1) := by decide +kernel
theorem dX3_append_0 : decode cX3_append 0 = .ok (.iload_n 1, 1) := by decide +kernel
theorem dX3_append_1 : decode cX3_append 1 = .ok (.iload_n 2, 1) := by decide +kernel
theorem dX3_append_2 : decode cX3_append 2 = .ok (.invokestatic 64, 3) := by decide +kernel
theorem dX3_append_5 : decode cX3_append 5 = .ok (.iload_n 3, 1) := by decide +kernel
theorem dX3_append_6 : decode cX3_append 6 = .ok (.invokestatic 45, 3) := by decide +kernel
theorem dX3_append_9 : decode cX3_append 9 = .ok (.aload_n 0, 1) := by decide +kernel
theorem dX3_append_10 : decode cX3_append 10 = .ok (.aload_n 0, 1) := by decide +kernel
theorem dX3_append_11 : decode cX3_append 11 = .ok (.getfield 9, 3) := by decide +kernel
theorem dX3_append_14 : decode cX3_append 14 = .ok (.iload_n 2, 1) := by decide +kernel
theorem dX3_append_15 : decode cX3_append 15 = .ok (.laload, 1) := by decide +kernel
theorem dX3_append_16 : decode cX3_append 16 = .ok (.invokevirtual 110, 3) := by decide +kernel
theorem dX3_append_19 : decode cX3_append 19 = .ok (.istore 4, 2) := by decide +kernel
theorem dX3_append_21 : decode cX3_append 21 = .ok (.iload 4, 2) := by decide +kernel
theorem dX3_append_23 : decode cX3_append 23 = .ok (.ifCond .ge 13, 3) := by decide +kernel
theorem dX3_append_26 : decode cX3_append 26 = .ok (.new 113, 3) := by decide +kernel
theorem dX3_append_29 : decode cX3_append 29 = .ok (.dup, 1) := by decide +kernel
theorem dX3_append_30 : decode cX3_append 30 = .ok (.ldc 115, 2) := by decide +kernel
theorem dX3_append_32 : decode cX3_append 32 = .ok (.invokespecial 117, 3) := by decide +kernel
theorem dX3_append_35 : decode cX3_append 35 = .ok (.athrow, 1) := by decide +kernel
theorem dX3_append_36 : decode cX3_append 36 = .ok (.iload 4, 2) := by decide +kernel
theorem dX3_append_38 : decode cX3_append 38 = .ok (.ifCond .ne 16, 3) := by decide +kernel
theorem dX3_append_41 : decode cX3_append 41 = .ok (.aload_n 0, 1) := by decide +kernel
theorem dX3_append_42 : decode cX3_append 42 = .ok (.getfield 9, 3) := by decide +kernel
theorem dX3_append_45 : decode cX3_append 45 = .ok (.iload_n 1, 1) := by decide +kernel
theorem dX3_append_46 : decode cX3_append 46 = .ok (.aload_n 0, 1) := by decide +kernel
theorem dX3_append_47 : decode cX3_append 47 = .ok (.getfield 9, 3) := by decide +kernel
theorem dX3_append_50 : decode cX3_append 50 = .ok (.iload_n 3, 1) := by decide +kernel
theorem dX3_append_51 : decode cX3_append 51 = .ok (.laload, 1) := by decide +kernel
theorem dX3_append_52 : decode cX3_append 52 = .ok (.lastore, 1) := by decide +kernel
theorem dX3_append_53 : decode cX3_append 53 = .ok (.return_, 1) := by decide +kernel
theorem dX3_append_54 : decode cX3_append 54 = .ok (.aload_n 0, 1) := by decide +kernel
theorem dX3_append_55 : decode cX3_append 55 = .ok (.aload_n 0, 1) := by decide +kernel
theorem dX3_append_56 : decode cX3_append 56 = .ok (.getfield 9, 3) := by decide +kernel
theorem dX3_append_59 : decode cX3_append 59 = .ok (.iload_n 3, 1) := by decide +kernel
theorem dX3_append_60 : decode cX3_append 60 = .ok (.laload, 1) := by decide +kernel
theorem dX3_append_61 : decode cX3_append 61 = .ok (.invokestatic 118, 3) := by decide +kernel
theorem dX3_append_64 : decode cX3_append 64 = .ok (.ifCond .ne 8, 3) := by decide +kernel
theorem dX3_append_67 : decode cX3_append 67 = .ok (.iload 4, 2) := by decide +kernel
theorem dX3_append_69 : decode cX3_append 69 = .ok (.goto 7, 3) := by decide +kernel
theorem dX3_append_72 : decode cX3_append 72 = .ok (.iload 4, 2) := by decide +kernel
theorem dX3_append_74 : decode cX3_append 74 = .ok (.iconst 1, 1) := by decide +kernel
theorem dX3_append_75 : decode cX3_append 75 = .ok (.iadd, 1) := by decide +kernel
theorem dX3_append_76 : decode cX3_append 76 = .ok (.invokevirtual 68, 3) := by decide +kernel
theorem dX3_append_79 : decode cX3_append 79 = .ok (.aload_n 0, 1) := by decide +kernel
theorem dX3_append_80 : decode cX3_append 80 = .ok (.getfield 34, 3) := by decide +kernel
theorem dX3_append_83 : decode cX3_append 83 = .ok (.getfield 77, 3) := by decide +kernel
theorem dX3_append_86 : decode cX3_append 86 = .ok (.istore 5, 2) := by decide +kernel
theorem dX3_append_88 : decode cX3_append 88 = .ok (.aload_n 0, 1) := by decide +kernel
theorem dX3_append_89 : decode cX3_append 89 = .ok (.aload_n 0, 1) := by decide +kernel
theorem dX3_append_90 : decode cX3_append 90 = .ok (.getfield 9, 3) := by decide +kernel
theorem dX3_append_93 : decode cX3_append 93 = .ok (.iload_n 2, 1) := by decide +kernel
theorem dX3_append_94 : decode cX3_append 94 = .ok (.laload, 1) := by decide +kernel
theorem dX3_append_95 : decode cX3_append 95 = .ok (.iload 4, 2) := by decide +kernel
theorem dX3_append_97 : decode cX3_append 97 = .ok (.aload_n 0, 1) := by decide +kernel
theorem dX3_append_98 : decode cX3_append 98 = .ok (.getfield 9, 3) := by decide +kernel
theorem dX3_append_101 : decode cX3_append 101 = .ok (.iload_n 3, 1) := by decide +kernel
theorem dX3_append_102 : decode cX3_append 102 = .ok (.laload, 1) := by decide +kernel
theorem dX3_append_103 : decode cX3_append 103 = .ok (.invokevirtual 121, 3) := by decide +kernel
theorem dX3_append_106 : decode cX3_append 106 = .ok (.aload_n 0, 1) := by decide +kernel
theorem dX3_append_107 : decode cX3_append 107 = .ok (.getfield 9, 3) := by decide +kernel
theorem dX3_append_110 : decode cX3_append 110 = .ok (.iload_n 1, 1) := by decide +kernel
theorem dX3_append_111 : decode cX3_append 111 = .ok (.iconst 2, 1) := by decide +kernel
theorem dX3_append_112 : decode cX3_append 112 = .ok (.iload 5, 2) := by decide +kernel
theorem dX3_append_114 : decode cX3_append 114 = .ok (.i2l, 1) := by decide +kernel
theorem dX3_append_115 : decode cX3_append 115 = .ok (.invokestatic 60, 3) := by decide +kernel
theorem dX3_append_118 : decode cX3_append 118 = .ok (.lastore, 1) := by decide +kernel
theorem dX3_append_119 : decode cX3_append 119 = .ok (.return_, 1) := by decide +kernel
theorem dX3_kind_0 : decode cX3_kind 0 = .ok (.iload_n 1, 1) := by decide +kernel
theorem dX3_kind_1 : decode cX3_kind 1 = .ok (.invokestatic 45, 3) := by decide +kernel
theorem dX3_kind_4 : decode cX3_kind 4 = .ok (.aload_n 0, 1) := by decide +kernel
theorem dX3_kind_5 : decode cX3_kind 5 = .ok (.getfield 9, 3) := by decide +kernel
theorem dX3_kind_8 : decode cX3_kind 8 = .ok (.iload_n 1, 1) := by decide +kernel
theorem dX3_kind_9 : decode cX3_kind 9 = .ok (.laload, 1) := by decide +kernel
theorem dX3_kind_10 : decode cX3_kind 10 = .ok (.invokestatic 118, 3) := by decide +kernel
theorem dX3_kind_13 : decode cX3_kind 13 = .ok (.ireturn, 1) := by decide +kernel
theorem dX3_value_0 : decode cX3_value 0 = .ok (.iload_n 1, 1) := by decide +kernel
theorem dX3_value_1 : decode cX3_value 1 = .ok (.invokestatic 45, 3) := by decide +kernel
theorem dX3_value_4 : decode cX3_value 4 = .ok (.aload_n 0, 1) := by decide +kernel
theorem dX3_value_5 : decode cX3_value 5 = .ok (.getfield 9, 3) := by decide +kernel
theorem dX3_value_8 : decode cX3_value 8 = .ok (.iload_n 1, 1) := by decide +kernel
theorem dX3_value_9 : decode cX3_value 9 = .ok (.laload, 1) := by decide +kernel
theorem dX3_value_10 : decode cX3_value 10 = .ok (.invokestatic 118, 3) := by decide +kernel
theorem dX3_value_13 : decode cX3_value 13 = .ok (.iconst 1, 1) := by decide +kernel
theorem dX3_value_14 : decode cX3_value 14 = .ok (.if_icmp .eq 13, 3) := by decide +kernel
theorem dX3_value_17 : decode cX3_value 17 = .ok (.new 113, 3) := by decide +kernel
theorem dX3_value_20 : decode cX3_value 20 = .ok (.dup, 1) := by decide +kernel
theorem dX3_value_21 : decode cX3_value 21 = .ok (.ldc 125, 2) := by decide +kernel
theorem dX3_value_23 : decode cX3_value 23 = .ok (.invokespecial 117, 3) := by decide +kernel
theorem dX3_value_26 : decode cX3_value 26 = .ok (.athrow, 1) := by decide +kernel
theorem dX3_value_27 : decode cX3_value 27 = .ok (.aload_n 0, 1) := by decide +kernel
theorem dX3_value_28 : decode cX3_value 28 = .ok (.getfield 9, 3) := by decide +kernel
theorem dX3_value_31 : decode cX3_value 31 = .ok (.iload_n 1, 1) := by decide +kernel
theorem dX3_value_32 : decode cX3_value 32 = .ok (.laload, 1) := by decide +kernel
theorem dX3_value_33 : decode cX3_value 33 = .ok (.invokestatic 127, 3) := by decide +kernel
theorem dX3_value_36 : decode cX3_value 36 = .ok (.lreturn, 1) := by decide +kernel
theorem dX3_same_0 : decode cX3_same 0 = .ok (.iload_n 1, 1) := by decide +kernel
theorem dX3_same_1 : decode cX3_same 1 = .ok (.iload_n 2, 1) := by decide +kernel
theorem dX3_same_2 : decode cX3_same 2 = .ok (.invokestatic 64, 3) := by decide +kernel
theorem dX3_same_5 : decode cX3_same 5 = .ok (.aload_n 0, 1) := by decide +kernel
theorem dX3_same_6 : decode cX3_same 6 = .ok (.aload_n 0, 1) := by decide +kernel
theorem dX3_same_7 : decode cX3_same 7 = .ok (.getfield 9, 3) := by decide +kernel
theorem dX3_same_10 : decode cX3_same 10 = .ok (.iload_n 1, 1) := by decide +kernel
theorem dX3_same_11 : decode cX3_same 11 = .ok (.laload, 1) := by decide +kernel
theorem dX3_same_12 : decode cX3_same 12 = .ok (.aload_n 0, 1) := by decide +kernel
theorem dX3_same_13 : decode cX3_same 13 = .ok (.getfield 9, 3) := by decide +kernel
theorem dX3_same_16 : decode cX3_same 16 = .ok (.iload_n 2, 1) := by decide +kernel
theorem dX3_same_17 : decode cX3_same 17 = .ok (.laload, 1) := by decide +kernel
theorem dX3_same_18 : decode cX3_same 18 = .ok (.invokevirtual 102, 3) := by decide +kernel
theorem dX3_same_21 : decode cX3_same 21 = .ok (.ireturn, 1) := by decide +kernel
theorem dX3_length_0 : decode cX3_length 0 = .ok (.iload_n 1, 1) := by decide +kernel
theorem dX3_length_1 : decode cX3_length 1 = .ok (.invokestatic 45, 3) := by decide +kernel
theorem dX3_length_4 : decode cX3_length 4 = .ok (.aload_n 0, 1) := by decide +kernel
theorem dX3_length_5 : decode cX3_length 5 = .ok (.aload_n 0, 1) := by decide +kernel
theorem dX3_length_6 : decode cX3_length 6 = .ok (.getfield 9, 3) := by decide +kernel
theorem dX3_length_9 : decode cX3_length 9 = .ok (.iload_n 1, 1) := by decide +kernel
theorem dX3_length_10 : decode cX3_length 10 = .ok (.laload, 1) := by decide +kernel
theorem dX3_length_11 : decode cX3_length 11 = .ok (.invokevirtual 110, 3) := by decide +kernel
theorem dX3_length_14 : decode cX3_length 14 = .ok (.ireturn, 1) := by decide +kernel
theorem dX3_words_0 : decode cX3_words 0 = .ok (.iload_n 1, 1) := by decide +kernel
theorem dX3_words_1 : decode cX3_words 1 = .ok (.invokestatic 45, 3) := by decide +kernel
theorem dX3_words_4 : decode cX3_words 4 = .ok (.aload_n 0, 1) := by decide +kernel
theorem dX3_words_5 : decode cX3_words 5 = .ok (.aload_n 0, 1) := by decide +kernel
theorem dX3_words_6 : decode cX3_words 6 = .ok (.getfield 9, 3) := by decide +kernel
theorem dX3_words_9 : decode cX3_words 9 = .ok (.iload_n 1, 1) := by decide +kernel
theorem dX3_words_10 : decode cX3_words 10 = .ok (.laload, 1) := by decide +kernel
theorem dX3_words_11 : decode cX3_words 11 = .ok (.invokevirtual 131, 3) := by decide +kernel
theorem dX3_words_14 : decode cX3_words 14 = .ok (.ireturn, 1) := by decide +kernel
theorem dX3_alike_0 : decode cX3_alike 0 = .ok (.iload_n 1, 1) := by decide +kernel
theorem dX3_alike_1 : decode cX3_alike 1 = .ok (.iload_n 2, 1) := by decide +kernel
theorem dX3_alike_2 : decode cX3_alike 2 = .ok (.invokestatic 64, 3) := by decide +kernel
theorem dX3_alike_5 : decode cX3_alike 5 = .ok (.aload_n 0, 1) := by decide +kernel
theorem dX3_alike_6 : decode cX3_alike 6 = .ok (.getfield 23, 3) := by decide +kernel
theorem dX3_alike_9 : decode cX3_alike 9 = .ok (.aload_n 0, 1) := by decide +kernel
theorem dX3_alike_10 : decode cX3_alike 10 = .ok (.getfield 34, 3) := by decide +kernel
theorem dX3_alike_13 : decode cX3_alike 13 = .ok (.aload_n 0, 1) := by decide +kernel
theorem dX3_alike_14 : decode cX3_alike 14 = .ok (.getfield 9, 3) := by decide +kernel
theorem dX3_alike_17 : decode cX3_alike 17 = .ok (.iload_n 1, 1) := by decide +kernel
theorem dX3_alike_18 : decode cX3_alike 18 = .ok (.laload, 1) := by decide +kernel
theorem dX3_alike_19 : decode cX3_alike 19 = .ok (.aload_n 0, 1) := by decide +kernel
theorem dX3_alike_20 : decode cX3_alike 20 = .ok (.getfield 9, 3) := by decide +kernel
theorem dX3_alike_23 : decode cX3_alike 23 = .ok (.iload_n 2, 1) := by decide +kernel
theorem dX3_alike_24 : decode cX3_alike 24 = .ok (.laload, 1) := by decide +kernel
theorem dX3_alike_25 : decode cX3_alike 25 = .ok (.invokevirtual 134, 3) := by decide +kernel
theorem dX3_alike_28 : decode cX3_alike 28 = .ok (.ireturn, 1) := by decide +kernel
theorem dX3_collect_0 : decode cX3_collect 0 = .ok (.aload_n 0, 1) := by decide +kernel
theorem dX3_collect_1 : decode cX3_collect 1 = .ok (.invokevirtual 138, 3) := by decide +kernel
theorem dX3_collect_4 : decode cX3_collect 4 = .ok (.aload_n 0, 1) := by decide +kernel
theorem dX3_collect_5 : decode cX3_collect 5 = .ok (.getfield 34, 3) := by decide +kernel
theorem dX3_collect_8 : decode cX3_collect 8 = .ok (.getfield 77, 3) := by decide +kernel
theorem dX3_collect_11 : decode cX3_collect 11 = .ok (.ireturn, 1) := by decide +kernel
theorem dX3_about_0 : decode cX3_about 0 = .ok (.iload_n 1, 1) := by decide +kernel
theorem dX3_about_1 : decode cX3_about 1 = .ok (.tableswitch 48 0 2 #[27, 35, 43], 27) := by decide +kernel
theorem dX3_about_28 : decode cX3_about 28 = .ok (.aload_n 0, 1) := by decide +kernel
theorem dX3_about_29 : decode cX3_about 29 = .ok (.getfield 34, 3) := by decide +kernel
theorem dX3_about_32 : decode cX3_about 32 = .ok (.getfield 77, 3) := by decide +kernel
theorem dX3_about_35 : decode cX3_about 35 = .ok (.ireturn, 1) := by decide +kernel
theorem dX3_about_36 : decode cX3_about 36 = .ok (.aload_n 0, 1) := by decide +kernel
theorem dX3_about_37 : decode cX3_about 37 = .ok (.getfield 34, 3) := by decide +kernel
theorem dX3_about_40 : decode cX3_about 40 = .ok (.invokevirtual 141, 3) := by decide +kernel
theorem dX3_about_43 : decode cX3_about 43 = .ok (.ireturn, 1) := by decide +kernel
theorem dX3_about_44 : decode cX3_about 44 = .ok (.aload_n 0, 1) := by decide +kernel
theorem dX3_about_45 : decode cX3_about 45 = .ok (.getfield 41, 3) := by decide +kernel
theorem dX3_about_48 : decode cX3_about 48 = .ok (.ireturn, 1) := by decide +kernel
theorem dX3_about_49 : decode cX3_about 49 = .ok (.iconst (-1), 1) := by decide +kernel
theorem dX3_about_50 : decode cX3_about 50 = .ok (.ireturn, 1) := by decide +kernel
theorem dX3_word_0 : decode cX3_word 0 = .ok (.aload_n 0, 1) := by decide +kernel
theorem dX3_word_1 : decode cX3_word 1 = .ok (.getfield 34, 3) := by decide +kernel
theorem dX3_word_4 : decode cX3_word 4 = .ok (.iload_n 1, 1) := by decide +kernel
theorem dX3_word_5 : decode cX3_word 5 = .ok (.invokevirtual 145, 3) := by decide +kernel
theorem dX3_word_8 : decode cX3_word 8 = .ok (.ifCond .ne 13, 3) := by decide +kernel
theorem dX3_word_11 : decode cX3_word 11 = .ok (.new 149, 3) := by decide +kernel
theorem dX3_word_14 : decode cX3_word 14 = .ok (.dup, 1) := by decide +kernel
theorem dX3_word_15 : decode cX3_word 15 = .ok (.ldc 151, 2) := by decide +kernel
theorem dX3_word_17 : decode cX3_word 17 = .ok (.invokespecial 153, 3) := by decide +kernel
theorem dX3_word_20 : decode cX3_word 20 = .ok (.athrow, 1) := by decide +kernel
theorem dX3_word_21 : decode cX3_word 21 = .ok (.iload_n 2, 1) := by decide +kernel
theorem dX3_word_22 : decode cX3_word 22 = .ok (.tableswitch 61 0 2 #[26, 36, 49], 26) := by decide +kernel
theorem dX3_word_48 : decode cX3_word 48 = .ok (.aload_n 0, 1) := by decide +kernel
theorem dX3_word_49 : decode cX3_word 49 = .ok (.getfield 34, 3) := by decide +kernel
theorem dX3_word_52 : decode cX3_word 52 = .ok (.iload_n 1, 1) := by decide +kernel
theorem dX3_word_53 : decode cX3_word 53 = .ok (.invokevirtual 106, 3) := by decide +kernel
theorem dX3_word_56 : decode cX3_word 56 = .ok (.i2l, 1) := by decide +kernel
theorem dX3_word_57 : decode cX3_word 57 = .ok (.lreturn, 1) := by decide +kernel
theorem dX3_word_58 : decode cX3_word 58 = .ok (.aload_n 0, 1) := by decide +kernel
theorem dX3_word_59 : decode cX3_word 59 = .ok (.getfield 34, 3) := by decide +kernel
theorem dX3_word_62 : decode cX3_word 62 = .ok (.iload_n 1, 1) := by decide +kernel
theorem dX3_word_63 : decode cX3_word 63 = .ok (.invokevirtual 91, 3) := by decide +kernel
theorem dX3_word_66 : decode cX3_word 66 = .ok (.invokestatic 118, 3) := by decide +kernel
theorem dX3_word_69 : decode cX3_word 69 = .ok (.i2l, 1) := by decide +kernel
theorem dX3_word_70 : decode cX3_word 70 = .ok (.lreturn, 1) := by decide +kernel
theorem dX3_word_71 : decode cX3_word 71 = .ok (.aload_n 0, 1) := by decide +kernel
theorem dX3_word_72 : decode cX3_word 72 = .ok (.getfield 34, 3) := by decide +kernel
theorem dX3_word_75 : decode cX3_word 75 = .ok (.iload_n 1, 1) := by decide +kernel
theorem dX3_word_76 : decode cX3_word 76 = .ok (.invokevirtual 91, 3) := by decide +kernel
theorem dX3_word_79 : decode cX3_word 79 = .ok (.invokestatic 127, 3) := by decide +kernel
theorem dX3_word_82 : decode cX3_word 82 = .ok (.lreturn, 1) := by decide +kernel
theorem dX3_word_83 : decode cX3_word 83 = .ok (.new 53, 3) := by decide +kernel
theorem dX3_word_86 : decode cX3_word 86 = .ok (.dup, 1) := by decide +kernel
theorem dX3_word_87 : decode cX3_word 87 = .ok (.ldc 154, 2) := by decide +kernel
theorem dX3_word_89 : decode cX3_word 89 = .ok (.invokespecial 57, 3) := by decide +kernel
theorem dX3_word_92 : decode cX3_word 92 = .ok (.athrow, 1) := by decide +kernel
theorem dX3_content_0 : decode cX3_content 0 = .ok (.lload_n 1, 1) := by decide +kernel
theorem dX3_content_1 : decode cX3_content 1 = .ok (.iconst 2, 1) := by decide +kernel
theorem dX3_content_2 : decode cX3_content 2 = .ok (.lshl, 1) := by decide +kernel
theorem dX3_content_3 : decode cX3_content 3 = .ok (.iload_n 0, 1) := by decide +kernel
theorem dX3_content_4 : decode cX3_content 4 = .ok (.i2l, 1) := by decide +kernel
theorem dX3_content_5 : decode cX3_content 5 = .ok (.lor, 1) := by decide +kernel
theorem dX3_content_6 : decode cX3_content 6 = .ok (.lreturn, 1) := by decide +kernel
theorem dX3_kindOf_0 : decode cX3_kindOf 0 = .ok (.lload_n 0, 1) := by decide +kernel
theorem dX3_kindOf_1 : decode cX3_kindOf 1 = .ok (.ldc2_w 156, 3) := by decide +kernel
theorem dX3_kindOf_4 : decode cX3_kindOf 4 = .ok (.land, 1) := by decide +kernel
theorem dX3_kindOf_5 : decode cX3_kindOf 5 = .ok (.l2i, 1) := by decide +kernel
theorem dX3_kindOf_6 : decode cX3_kindOf 6 = .ok (.ireturn, 1) := by decide +kernel
theorem dX3_bodyOf_0 : decode cX3_bodyOf 0 = .ok (.lload_n 0, 1) := by decide +kernel
theorem dX3_bodyOf_1 : decode cX3_bodyOf 1 = .ok (.iconst 2, 1) := by decide +kernel
theorem dX3_bodyOf_2 : decode cX3_bodyOf 2 = .ok (.lshr, 1) := by decide +kernel
theorem dX3_bodyOf_3 : decode cX3_bodyOf 3 = .ok (.lreturn, 1) := by decide +kernel
theorem dX3_placeOf_0 : decode cX3_placeOf 0 = .ok (.lload_n 0, 1) := by decide +kernel
theorem dX3_placeOf_1 : decode cX3_placeOf 1 = .ok (.iconst 2, 1) := by decide +kernel
theorem dX3_placeOf_2 : decode cX3_placeOf 2 = .ok (.lshr, 1) := by decide +kernel
theorem dX3_placeOf_3 : decode cX3_placeOf 3 = .ok (.lstore_n 2, 1) := by decide +kernel
theorem dX3_placeOf_4 : decode cX3_placeOf 4 = .ok (.lload_n 2, 1) := by decide +kernel
theorem dX3_placeOf_5 : decode cX3_placeOf 5 = .ok (.lconst 0, 1) := by decide +kernel
theorem dX3_placeOf_6 : decode cX3_placeOf 6 = .ok (.lcmp, 1) := by decide +kernel
theorem dX3_placeOf_7 : decode cX3_placeOf 7 = .ok (.ifCond .lt 16, 3) := by decide +kernel
theorem dX3_placeOf_10 : decode cX3_placeOf 10 = .ok (.lload_n 2, 1) := by decide +kernel
theorem dX3_placeOf_11 : decode cX3_placeOf 11 = .ok (.ldc2_w 158, 3) := by decide +kernel
theorem dX3_placeOf_14 : decode cX3_placeOf 14 = .ok (.lcmp, 1) := by decide +kernel
theorem dX3_placeOf_15 : decode cX3_placeOf 15 = .ok (.ifCond .ge 8, 3) := by decide +kernel
theorem dX3_placeOf_18 : decode cX3_placeOf 18 = .ok (.lload_n 2, 1) := by decide +kernel
theorem dX3_placeOf_19 : decode cX3_placeOf 19 = .ok (.l2i, 1) := by decide +kernel
theorem dX3_placeOf_20 : decode cX3_placeOf 20 = .ok (.goto 4, 3) := by decide +kernel
theorem dX3_placeOf_23 : decode cX3_placeOf 23 = .ok (.iconst 0, 1) := by decide +kernel
theorem dX3_placeOf_24 : decode cX3_placeOf 24 = .ok (.ireturn, 1) := by decide +kernel
theorem dX3_checkRoot_0 : decode cX3_checkRoot 0 = .ok (.iload_n 0, 1) := by decide +kernel
theorem dX3_checkRoot_1 : decode cX3_checkRoot 1 = .ok (.ifCond .lt 9, 3) := by decide +kernel
theorem dX3_checkRoot_4 : decode cX3_checkRoot 4 = .ok (.iload_n 0, 1) := by decide +kernel
theorem dX3_checkRoot_5 : decode cX3_checkRoot 5 = .ok (.bipush 10, 2) := by decide +kernel
theorem dX3_checkRoot_7 : decode cX3_checkRoot 7 = .ok (.if_icmp .lt 13, 3) := by decide +kernel
theorem dX3_checkRoot_10 : decode cX3_checkRoot 10 = .ok (.new 160, 3) := by decide +kernel
theorem dX3_checkRoot_13 : decode cX3_checkRoot 13 = .ok (.dup, 1) := by decide +kernel
theorem dX3_checkRoot_14 : decode cX3_checkRoot 14 = .ok (.ldc 162, 2) := by decide +kernel
theorem dX3_checkRoot_16 : decode cX3_checkRoot 16 = .ok (.invokespecial 164, 3) := by decide +kernel
theorem dX3_checkRoot_19 : decode cX3_checkRoot 19 = .ok (.athrow, 1) := by decide +kernel
theorem dX3_checkRoot_20 : decode cX3_checkRoot 20 = .ok (.return_, 1) := by decide +kernel
theorem dX3_checkRoots_0 : decode cX3_checkRoots 0 = .ok (.iload_n 0, 1) := by decide +kernel
theorem dX3_checkRoots_1 : decode cX3_checkRoots 1 = .ok (.invokestatic 45, 3) := by decide +kernel
theorem dX3_checkRoots_4 : decode cX3_checkRoots 4 = .ok (.iload_n 1, 1) := by decide +kernel
theorem dX3_checkRoots_5 : decode cX3_checkRoots 5 = .ok (.invokestatic 45, 3) := by decide +kernel
theorem dX3_checkRoots_8 : decode cX3_checkRoots 8 = .ok (.return_, 1) := by decide +kernel
theorem dX3_checkHoldsPair_0 : decode cX3_checkHoldsPair 0 = .ok (.aload_n 0, 1) := by decide +kernel
theorem dX3_checkHoldsPair_1 : decode cX3_checkHoldsPair 1 = .ok (.getfield 9, 3) := by decide +kernel
theorem dX3_checkHoldsPair_4 : decode cX3_checkHoldsPair 4 = .ok (.iload_n 1, 1) := by decide +kernel
theorem dX3_checkHoldsPair_5 : decode cX3_checkHoldsPair 5 = .ok (.laload, 1) := by decide +kernel
theorem dX3_checkHoldsPair_6 : decode cX3_checkHoldsPair 6 = .ok (.invokestatic 118, 3) := by decide +kernel
theorem dX3_checkHoldsPair_9 : decode cX3_checkHoldsPair 9 = .ok (.iconst 2, 1) := by decide +kernel
theorem dX3_checkHoldsPair_10 : decode cX3_checkHoldsPair 10 = .ok (.if_icmp .eq 13, 3) := by decide +kernel
theorem dX3_checkHoldsPair_13 : decode cX3_checkHoldsPair 13 = .ok (.new 113, 3) := by decide +kernel
theorem dX3_checkHoldsPair_16 : decode cX3_checkHoldsPair 16 = .ok (.dup, 1) := by decide +kernel
theorem dX3_checkHoldsPair_17 : decode cX3_checkHoldsPair 17 = .ok (.ldc 165, 2) := by decide +kernel
theorem dX3_checkHoldsPair_19 : decode cX3_checkHoldsPair 19 = .ok (.invokespecial 117, 3) := by decide +kernel
theorem dX3_checkHoldsPair_22 : decode cX3_checkHoldsPair 22 = .ok (.athrow, 1) := by decide +kernel
theorem dX3_checkHoldsPair_23 : decode cX3_checkHoldsPair 23 = .ok (.return_, 1) := by decide +kernel
theorem dX3_makeRoom_0 : decode cX3_makeRoom 0 = .ok (.iload_n 1, 1) := by decide +kernel
theorem dX3_makeRoom_1 : decode cX3_makeRoom 1 = .ok (.aload_n 0, 1) := by decide +kernel
theorem dX3_makeRoom_2 : decode cX3_makeRoom 2 = .ok (.getfield 34, 3) := by decide +kernel
theorem dX3_makeRoom_5 : decode cX3_makeRoom 5 = .ok (.invokevirtual 167, 3) := by decide +kernel
theorem dX3_makeRoom_8 : decode cX3_makeRoom 8 = .ok (.if_icmp .le 7, 3) := by decide +kernel
theorem dX3_makeRoom_11 : decode cX3_makeRoom 11 = .ok (.aload_n 0, 1) := by decide +kernel
theorem dX3_makeRoom_12 : decode cX3_makeRoom 12 = .ok (.invokevirtual 138, 3) := by decide +kernel
theorem dX3_makeRoom_15 : decode cX3_makeRoom 15 = .ok (.iload_n 1, 1) := by decide +kernel
theorem dX3_makeRoom_16 : decode cX3_makeRoom 16 = .ok (.aload_n 0, 1) := by decide +kernel
theorem dX3_makeRoom_17 : decode cX3_makeRoom 17 = .ok (.getfield 34, 3) := by decide +kernel
theorem dX3_makeRoom_20 : decode cX3_makeRoom 20 = .ok (.invokevirtual 167, 3) := by decide +kernel
theorem dX3_makeRoom_23 : decode cX3_makeRoom 23 = .ok (.if_icmp .le 13, 3) := by decide +kernel
theorem dX3_makeRoom_26 : decode cX3_makeRoom 26 = .ok (.new 170, 3) := by decide +kernel
theorem dX3_makeRoom_29 : decode cX3_makeRoom 29 = .ok (.dup, 1) := by decide +kernel
theorem dX3_makeRoom_30 : decode cX3_makeRoom 30 = .ok (.ldc 172, 2) := by decide +kernel
theorem dX3_makeRoom_32 : decode cX3_makeRoom 32 = .ok (.invokespecial 174, 3) := by decide +kernel
theorem dX3_makeRoom_35 : decode cX3_makeRoom 35 = .ok (.athrow, 1) := by decide +kernel
theorem dX3_makeRoom_36 : decode cX3_makeRoom 36 = .ok (.return_, 1) := by decide +kernel
theorem dX3_makeCollection_0 : decode cX3_makeCollection 0 = .ok (.aload_n 0, 1) := by decide +kernel
theorem dX3_makeCollection_1 : decode cX3_makeCollection 1 = .ok (.getfield 38, 3) := by decide +kernel
theorem dX3_makeCollection_4 : decode cX3_makeCollection 4 = .ok (.invokevirtual 175, 3) := by decide +kernel
theorem dX3_makeCollection_7 : decode cX3_makeCollection 7 = .ok (.aload_n 0, 1) := by decide +kernel
theorem dX3_makeCollection_8 : decode cX3_makeCollection 8 = .ok (.getfield 16, 3) := by decide +kernel
theorem dX3_makeCollection_11 : decode cX3_makeCollection 11 = .ok (.aload_n 0, 1) := by decide +kernel
theorem dX3_makeCollection_12 : decode cX3_makeCollection 12 = .ok (.getfield 34, 3) := by decide +kernel
theorem dX3_makeCollection_15 : decode cX3_makeCollection 15 = .ok (.aload_n 0, 1) := by decide +kernel
theorem dX3_makeCollection_16 : decode cX3_makeCollection 16 = .ok (.getfield 9, 3) := by decide +kernel
theorem dX3_makeCollection_19 : decode cX3_makeCollection 19 = .ok (.invokevirtual 178, 3) := by decide +kernel
theorem dX3_makeCollection_22 : decode cX3_makeCollection 22 = .ok (.aload_n 0, 1) := by decide +kernel
theorem dX3_makeCollection_23 : decode cX3_makeCollection 23 = .ok (.getfield 16, 3) := by decide +kernel
theorem dX3_makeCollection_26 : decode cX3_makeCollection 26 = .ok (.aload_n 0, 1) := by decide +kernel
theorem dX3_makeCollection_27 : decode cX3_makeCollection 27 = .ok (.getfield 34, 3) := by decide +kernel
theorem dX3_makeCollection_30 : decode cX3_makeCollection 30 = .ok (.aload_n 0, 1) := by decide +kernel
theorem dX3_makeCollection_31 : decode cX3_makeCollection 31 = .ok (.getfield 38, 3) := by decide +kernel
theorem dX3_makeCollection_34 : decode cX3_makeCollection 34 = .ok (.iconst 1, 1) := by decide +kernel
theorem dX3_makeCollection_35 : decode cX3_makeCollection 35 = .ok (.invokevirtual 182, 3) := by decide +kernel
theorem dX3_makeCollection_38 : decode cX3_makeCollection 38 = .ok (.aload_n 0, 1) := by decide +kernel
theorem dX3_makeCollection_39 : decode cX3_makeCollection 39 = .ok (.getfield 16, 3) := by decide +kernel
theorem dX3_makeCollection_42 : decode cX3_makeCollection 42 = .ok (.aload_n 0, 1) := by decide +kernel
theorem dX3_makeCollection_43 : decode cX3_makeCollection 43 = .ok (.getfield 34, 3) := by decide +kernel
theorem dX3_makeCollection_46 : decode cX3_makeCollection 46 = .ok (.aload_n 0, 1) := by decide +kernel
theorem dX3_makeCollection_47 : decode cX3_makeCollection 47 = .ok (.getfield 38, 3) := by decide +kernel
theorem dX3_makeCollection_50 : decode cX3_makeCollection 50 = .ok (.iconst 0, 1) := by decide +kernel
theorem dX3_makeCollection_51 : decode cX3_makeCollection 51 = .ok (.invokevirtual 182, 3) := by decide +kernel
theorem dX3_makeCollection_54 : decode cX3_makeCollection 54 = .ok (.aload_n 0, 1) := by decide +kernel
theorem dX3_makeCollection_55 : decode cX3_makeCollection 55 = .ok (.getfield 16, 3) := by decide +kernel
theorem dX3_makeCollection_58 : decode cX3_makeCollection 58 = .ok (.aload_n 0, 1) := by decide +kernel
theorem dX3_makeCollection_59 : decode cX3_makeCollection 59 = .ok (.getfield 34, 3) := by decide +kernel
theorem dX3_makeCollection_62 : decode cX3_makeCollection 62 = .ok (.aload_n 0, 1) := by decide +kernel
theorem dX3_makeCollection_63 : decode cX3_makeCollection 63 = .ok (.getfield 38, 3) := by decide +kernel
theorem dX3_makeCollection_66 : decode cX3_makeCollection 66 = .ok (.aload_n 0, 1) := by decide +kernel
theorem dX3_makeCollection_67 : decode cX3_makeCollection 67 = .ok (.getfield 9, 3) := by decide +kernel
theorem dX3_makeCollection_70 : decode cX3_makeCollection 70 = .ok (.invokevirtual 186, 3) := by decide +kernel
theorem dX3_makeCollection_73 : decode cX3_makeCollection 73 = .ok (.aload_n 0, 1) := by decide +kernel
theorem dX3_makeCollection_74 : decode cX3_makeCollection 74 = .ok (.getfield 34, 3) := by decide +kernel
theorem dX3_makeCollection_77 : decode cX3_makeCollection 77 = .ok (.astore_n 1, 1) := by decide +kernel
theorem dX3_makeCollection_78 : decode cX3_makeCollection 78 = .ok (.aload_n 0, 1) := by decide +kernel
theorem dX3_makeCollection_79 : decode cX3_makeCollection 79 = .ok (.aload_n 0, 1) := by decide +kernel
theorem dX3_makeCollection_80 : decode cX3_makeCollection 80 = .ok (.getfield 38, 3) := by decide +kernel
theorem dX3_makeCollection_83 : decode cX3_makeCollection 83 = .ok (.putfield 34, 3) := by decide +kernel
theorem dX3_makeCollection_86 : decode cX3_makeCollection 86 = .ok (.aload_n 0, 1) := by decide +kernel
theorem dX3_makeCollection_87 : decode cX3_makeCollection 87 = .ok (.aload_n 1, 1) := by decide +kernel
theorem dX3_makeCollection_88 : decode cX3_makeCollection 88 = .ok (.putfield 38, 3) := by decide +kernel
theorem dX3_makeCollection_91 : decode cX3_makeCollection 91 = .ok (.aload_n 0, 1) := by decide +kernel
theorem dX3_makeCollection_92 : decode cX3_makeCollection 92 = .ok (.dup, 1) := by decide +kernel
theorem dX3_makeCollection_93 : decode cX3_makeCollection 93 = .ok (.getfield 41, 3) := by decide +kernel
theorem dX3_makeCollection_96 : decode cX3_makeCollection 96 = .ok (.iconst 1, 1) := by decide +kernel
theorem dX3_makeCollection_97 : decode cX3_makeCollection 97 = .ok (.iadd, 1) := by decide +kernel
theorem dX3_makeCollection_98 : decode cX3_makeCollection 98 = .ok (.putfield 41, 3) := by decide +kernel
theorem dX3_makeCollection_101 : decode cX3_makeCollection 101 = .ok (.return_, 1) := by decide +kernel
theorem dX3_isSame_0 : decode cX3_isSame 0 = .ok (.lload_n 1, 1) := by decide +kernel
theorem dX3_isSame_1 : decode cX3_isSame 1 = .ok (.invokestatic 118, 3) := by decide +kernel
theorem dX3_isSame_4 : decode cX3_isSame 4 = .ok (.iconst 2, 1) := by decide +kernel
theorem dX3_isSame_5 : decode cX3_isSame 5 = .ok (.if_icmp .ne 36, 3) := by decide +kernel
theorem dX3_isSame_8 : decode cX3_isSame 8 = .ok (.lload_n 3, 1) := by decide +kernel
theorem dX3_isSame_9 : decode cX3_isSame 9 = .ok (.invokestatic 118, 3) := by decide +kernel
theorem dX3_isSame_12 : decode cX3_isSame 12 = .ok (.iconst 2, 1) := by decide +kernel
theorem dX3_isSame_13 : decode cX3_isSame 13 = .ok (.if_icmp .ne 28, 3) := by decide +kernel
theorem dX3_isSame_16 : decode cX3_isSame 16 = .ok (.aload_n 0, 1) := by decide +kernel
theorem dX3_isSame_17 : decode cX3_isSame 17 = .ok (.getfield 34, 3) := by decide +kernel
theorem dX3_isSame_20 : decode cX3_isSame 20 = .ok (.lload_n 1, 1) := by decide +kernel
theorem dX3_isSame_21 : decode cX3_isSame 21 = .ok (.invokevirtual 87, 3) := by decide +kernel
theorem dX3_isSame_24 : decode cX3_isSame 24 = .ok (.aload_n 0, 1) := by decide +kernel
theorem dX3_isSame_25 : decode cX3_isSame 25 = .ok (.getfield 34, 3) := by decide +kernel
theorem dX3_isSame_28 : decode cX3_isSame 28 = .ok (.lload_n 3, 1) := by decide +kernel
theorem dX3_isSame_29 : decode cX3_isSame 29 = .ok (.invokevirtual 87, 3) := by decide +kernel
theorem dX3_isSame_32 : decode cX3_isSame 32 = .ok (.if_icmp .ne 7, 3) := by decide +kernel
theorem dX3_isSame_35 : decode cX3_isSame 35 = .ok (.iconst 1, 1) := by decide +kernel
theorem dX3_isSame_36 : decode cX3_isSame 36 = .ok (.goto 4, 3) := by decide +kernel
theorem dX3_isSame_39 : decode cX3_isSame 39 = .ok (.iconst 0, 1) := by decide +kernel
theorem dX3_isSame_40 : decode cX3_isSame 40 = .ok (.ireturn, 1) := by decide +kernel
theorem dX3_isSame_41 : decode cX3_isSame 41 = .ok (.lload_n 1, 1) := by decide +kernel
theorem dX3_isSame_42 : decode cX3_isSame 42 = .ok (.lload_n 3, 1) := by decide +kernel
theorem dX3_isSame_43 : decode cX3_isSame 43 = .ok (.lcmp, 1) := by decide +kernel
theorem dX3_isSame_44 : decode cX3_isSame 44 = .ok (.ifCond .ne 7, 3) := by decide +kernel
theorem dX3_isSame_47 : decode cX3_isSame 47 = .ok (.iconst 1, 1) := by decide +kernel
theorem dX3_isSame_48 : decode cX3_isSame 48 = .ok (.goto 4, 3) := by decide +kernel
theorem dX3_isSame_51 : decode cX3_isSame 51 = .ok (.iconst 0, 1) := by decide +kernel
theorem dX3_isSame_52 : decode cX3_isSame 52 = .ok (.ireturn, 1) := by decide +kernel
theorem dX3_countPairs_0 : decode cX3_countPairs 0 = .ok (.lload_n 1, 1) := by decide +kernel
theorem dX3_countPairs_1 : decode cX3_countPairs 1 = .ok (.lstore_n 3, 1) := by decide +kernel
theorem dX3_countPairs_2 : decode cX3_countPairs 2 = .ok (.iconst 0, 1) := by decide +kernel
theorem dX3_countPairs_3 : decode cX3_countPairs 3 = .ok (.istore 5, 2) := by decide +kernel
theorem dX3_countPairs_5 : decode cX3_countPairs 5 = .ok (.iload 5, 2) := by decide +kernel
theorem dX3_countPairs_7 : decode cX3_countPairs 7 = .ok (.bipush 120, 2) := by decide +kernel
theorem dX3_countPairs_9 : decode cX3_countPairs 9 = .ok (.if_icmp .gt 33, 3) := by decide +kernel
theorem dX3_countPairs_12 : decode cX3_countPairs 12 = .ok (.lload_n 3, 1) := by decide +kernel
theorem dX3_countPairs_13 : decode cX3_countPairs 13 = .ok (.invokestatic 118, 3) := by decide +kernel
theorem dX3_countPairs_16 : decode cX3_countPairs 16 = .ok (.iconst 2, 1) := by decide +kernel
theorem dX3_countPairs_17 : decode cX3_countPairs 17 = .ok (.if_icmp .ne 25, 3) := by decide +kernel
theorem dX3_countPairs_20 : decode cX3_countPairs 20 = .ok (.iinc 5 1, 3) := by decide +kernel
theorem dX3_countPairs_23 : decode cX3_countPairs 23 = .ok (.aload_n 0, 1) := by decide +kernel
theorem dX3_countPairs_24 : decode cX3_countPairs 24 = .ok (.getfield 34, 3) := by decide +kernel
theorem dX3_countPairs_27 : decode cX3_countPairs 27 = .ok (.aload_n 0, 1) := by decide +kernel
theorem dX3_countPairs_28 : decode cX3_countPairs 28 = .ok (.getfield 34, 3) := by decide +kernel
theorem dX3_countPairs_31 : decode cX3_countPairs 31 = .ok (.lload_n 3, 1) := by decide +kernel
theorem dX3_countPairs_32 : decode cX3_countPairs 32 = .ok (.invokevirtual 87, 3) := by decide +kernel
theorem dX3_countPairs_35 : decode cX3_countPairs 35 = .ok (.invokevirtual 95, 3) := by decide +kernel
theorem dX3_countPairs_38 : decode cX3_countPairs 38 = .ok (.lstore_n 3, 1) := by decide +kernel
theorem dX3_countPairs_39 : decode cX3_countPairs 39 = .ok (.goto (-34), 3) := by decide +kernel
theorem dX3_countPairs_42 : decode cX3_countPairs 42 = .ok (.iload 5, 2) := by decide +kernel
theorem dX3_countPairs_44 : decode cX3_countPairs 44 = .ok (.bipush 120, 2) := by decide +kernel
theorem dX3_countPairs_46 : decode cX3_countPairs 46 = .ok (.if_icmp .le 6, 3) := by decide +kernel
theorem dX3_countPairs_49 : decode cX3_countPairs 49 = .ok (.bipush (-2), 2) := by decide +kernel
theorem dX3_countPairs_51 : decode cX3_countPairs 51 = .ok (.ireturn, 1) := by decide +kernel
theorem dX3_countPairs_52 : decode cX3_countPairs 52 = .ok (.lload_n 3, 1) := by decide +kernel
theorem dX3_countPairs_53 : decode cX3_countPairs 53 = .ok (.invokestatic 118, 3) := by decide +kernel
theorem dX3_countPairs_56 : decode cX3_countPairs 56 = .ok (.ifCond .ne 8, 3) := by decide +kernel
theorem dX3_countPairs_59 : decode cX3_countPairs 59 = .ok (.iload 5, 2) := by decide +kernel
theorem dX3_countPairs_61 : decode cX3_countPairs 61 = .ok (.goto 4, 3) := by decide +kernel
theorem dX3_countPairs_64 : decode cX3_countPairs 64 = .ok (.iconst (-1), 1) := by decide +kernel
theorem dX3_countPairs_65 : decode cX3_countPairs 65 = .ok (.ireturn, 1) := by decide +kernel
theorem dX3_countWords_0 : decode cX3_countWords 0 = .ok (.aload_n 0, 1) := by decide +kernel
theorem dX3_countWords_1 : decode cX3_countWords 1 = .ok (.getfield 27, 3) := by decide +kernel
theorem dX3_countWords_4 : decode cX3_countWords 4 = .ok (.iconst 0, 1) := by decide +kernel
theorem dX3_countWords_5 : decode cX3_countWords 5 = .ok (.invokestatic 190, 3) := by decide +kernel
theorem dX3_countWords_8 : decode cX3_countWords 8 = .ok (.lload_n 1, 1) := by decide +kernel
theorem dX3_countWords_9 : decode cX3_countWords 9 = .ok (.lstore_n 3, 1) := by decide +kernel
theorem dX3_countWords_10 : decode cX3_countWords 10 = .ok (.iconst 0, 1) := by decide +kernel
theorem dX3_countWords_11 : decode cX3_countWords 11 = .ok (.istore 5, 2) := by decide +kernel
theorem dX3_countWords_13 : decode cX3_countWords 13 = .ok (.iconst 0, 1) := by decide +kernel
theorem dX3_countWords_14 : decode cX3_countWords 14 = .ok (.istore 6, 2) := by decide +kernel
theorem dX3_countWords_16 : decode cX3_countWords 16 = .ok (.iload 6, 2) := by decide +kernel
theorem dX3_countWords_18 : decode cX3_countWords 18 = .ok (.bipush 120, 2) := by decide +kernel
theorem dX3_countWords_20 : decode cX3_countWords 20 = .ok (.if_icmp .ge 94, 3) := by decide +kernel
theorem dX3_countWords_23 : decode cX3_countWords 23 = .ok (.lload_n 3, 1) := by decide +kernel
theorem dX3_countWords_24 : decode cX3_countWords 24 = .ok (.invokestatic 118, 3) := by decide +kernel
theorem dX3_countWords_27 : decode cX3_countWords 27 = .ok (.iconst 2, 1) := by decide +kernel
theorem dX3_countWords_28 : decode cX3_countWords 28 = .ok (.if_icmp .ne 86, 3) := by decide +kernel
theorem dX3_countWords_31 : decode cX3_countWords 31 = .ok (.aload_n 0, 1) := by decide +kernel
theorem dX3_countWords_32 : decode cX3_countWords 32 = .ok (.getfield 34, 3) := by decide +kernel
theorem dX3_countWords_35 : decode cX3_countWords 35 = .ok (.lload_n 3, 1) := by decide +kernel
theorem dX3_countWords_36 : decode cX3_countWords 36 = .ok (.invokevirtual 87, 3) := by decide +kernel
theorem dX3_countWords_39 : decode cX3_countWords 39 = .ok (.istore 7, 2) := by decide +kernel
theorem dX3_countWords_41 : decode cX3_countWords 41 = .ok (.aload_n 0, 1) := by decide +kernel
theorem dX3_countWords_42 : decode cX3_countWords 42 = .ok (.getfield 27, 3) := by decide +kernel
theorem dX3_countWords_45 : decode cX3_countWords 45 = .ok (.iload 7, 2) := by decide +kernel
theorem dX3_countWords_47 : decode cX3_countWords 47 = .ok (.iaload, 1) := by decide +kernel
theorem dX3_countWords_48 : decode cX3_countWords 48 = .ok (.iconst 1, 1) := by decide +kernel
theorem dX3_countWords_49 : decode cX3_countWords 49 = .ok (.if_icmp .ne 6, 3) := by decide +kernel
theorem dX3_countWords_52 : decode cX3_countWords 52 = .ok (.iload 5, 2) := by decide +kernel
theorem dX3_countWords_54 : decode cX3_countWords 54 = .ok (.ireturn, 1) := by decide +kernel
theorem dX3_countWords_55 : decode cX3_countWords 55 = .ok (.aload_n 0, 1) := by decide +kernel
theorem dX3_countWords_56 : decode cX3_countWords 56 = .ok (.getfield 27, 3) := by decide +kernel
theorem dX3_countWords_59 : decode cX3_countWords 59 = .ok (.iload 7, 2) := by decide +kernel
theorem dX3_countWords_61 : decode cX3_countWords 61 = .ok (.iconst 1, 1) := by decide +kernel
theorem dX3_countWords_62 : decode cX3_countWords 62 = .ok (.iastore, 1) := by decide +kernel
theorem dX3_countWords_63 : decode cX3_countWords 63 = .ok (.iload 5, 2) := by decide +kernel
theorem dX3_countWords_65 : decode cX3_countWords 65 = .ok (.aload_n 0, 1) := by decide +kernel
theorem dX3_countWords_66 : decode cX3_countWords 66 = .ok (.getfield 34, 3) := by decide +kernel
theorem dX3_countWords_69 : decode cX3_countWords 69 = .ok (.iload 7, 2) := by decide +kernel
theorem dX3_countWords_71 : decode cX3_countWords 71 = .ok (.invokevirtual 106, 3) := by decide +kernel
theorem dX3_countWords_74 : decode cX3_countWords 74 = .ok (.iconst 2, 1) := by decide +kernel
theorem dX3_countWords_75 : decode cX3_countWords 75 = .ok (.if_icmp .ne 7, 3) := by decide +kernel
theorem dX3_countWords_78 : decode cX3_countWords 78 = .ok (.iconst 2, 1) := by decide +kernel
theorem dX3_countWords_79 : decode cX3_countWords 79 = .ok (.goto 4, 3) := by decide +kernel
theorem dX3_countWords_82 : decode cX3_countWords 82 = .ok (.iconst 1, 1) := by decide +kernel
theorem dX3_countWords_83 : decode cX3_countWords 83 = .ok (.iadd, 1) := by decide +kernel
theorem dX3_countWords_84 : decode cX3_countWords 84 = .ok (.istore 5, 2) := by decide +kernel
theorem dX3_countWords_86 : decode cX3_countWords 86 = .ok (.iload 7, 2) := by decide +kernel
theorem dX3_countWords_88 : decode cX3_countWords 88 = .ok (.lload_n 3, 1) := by decide +kernel
theorem dX3_countWords_89 : decode cX3_countWords 89 = .ok (.invokestatic 196, 3) := by decide +kernel
theorem dX3_countWords_92 : decode cX3_countWords 92 = .ok (.if_icmp .eq 6, 3) := by decide +kernel
theorem dX3_countWords_95 : decode cX3_countWords 95 = .ok (.iinc 5 1, 3) := by decide +kernel
theorem dX3_countWords_98 : decode cX3_countWords 98 = .ok (.aload_n 0, 1) := by decide +kernel
theorem dX3_countWords_99 : decode cX3_countWords 99 = .ok (.getfield 34, 3) := by decide +kernel
theorem dX3_countWords_102 : decode cX3_countWords 102 = .ok (.iload 7, 2) := by decide +kernel
theorem dX3_countWords_104 : decode cX3_countWords 104 = .ok (.invokevirtual 95, 3) := by decide +kernel
theorem dX3_countWords_107 : decode cX3_countWords 107 = .ok (.lstore_n 3, 1) := by decide +kernel
theorem dX3_countWords_108 : decode cX3_countWords 108 = .ok (.iinc 6 1, 3) := by decide +kernel
theorem dX3_countWords_111 : decode cX3_countWords 111 = .ok (.goto (-95), 3) := by decide +kernel
theorem dX3_countWords_114 : decode cX3_countWords 114 = .ok (.iload 5, 2) := by decide +kernel
theorem dX3_countWords_116 : decode cX3_countWords 116 = .ok (.ireturn, 1) := by decide +kernel
theorem dX3_takeFirsts_0 : decode cX3_takeFirsts 0 = .ok (.lload 4, 2) := by decide +kernel
theorem dX3_takeFirsts_2 : decode cX3_takeFirsts 2 = .ok (.invokestatic 118, 3) := by decide +kernel
theorem dX3_takeFirsts_5 : decode cX3_takeFirsts 5 = .ok (.ifCond .ne 7, 3) := by decide +kernel
theorem dX3_takeFirsts_8 : decode cX3_takeFirsts 8 = .ok (.iconst 1, 1) := by decide +kernel
theorem dX3_takeFirsts_9 : decode cX3_takeFirsts 9 = .ok (.goto 4, 3) := by decide +kernel
theorem dX3_takeFirsts_12 : decode cX3_takeFirsts 12 = .ok (.iconst 0, 1) := by decide +kernel
theorem dX3_takeFirsts_13 : decode cX3_takeFirsts 13 = .ok (.istore 6, 2) := by decide +kernel
theorem dX3_takeFirsts_15 : decode cX3_takeFirsts 15 = .ok (.lload_n 1, 1) := by decide +kernel
theorem dX3_takeFirsts_16 : decode cX3_takeFirsts 16 = .ok (.lstore 7, 2) := by decide +kernel
theorem dX3_takeFirsts_18 : decode cX3_takeFirsts 18 = .ok (.iconst 0, 1) := by decide +kernel
theorem dX3_takeFirsts_19 : decode cX3_takeFirsts 19 = .ok (.istore 9, 2) := by decide +kernel
theorem dX3_takeFirsts_21 : decode cX3_takeFirsts 21 = .ok (.iload 9, 2) := by decide +kernel
theorem dX3_takeFirsts_23 : decode cX3_takeFirsts 23 = .ok (.iload_n 3, 1) := by decide +kernel
theorem dX3_takeFirsts_24 : decode cX3_takeFirsts 24 = .ok (.if_icmp .ge 95, 3) := by decide +kernel
theorem dX3_takeFirsts_27 : decode cX3_takeFirsts 27 = .ok (.aload_n 0, 1) := by decide +kernel
theorem dX3_takeFirsts_28 : decode cX3_takeFirsts 28 = .ok (.getfield 34, 3) := by decide +kernel
theorem dX3_takeFirsts_31 : decode cX3_takeFirsts 31 = .ok (.lload 7, 2) := by decide +kernel
theorem dX3_takeFirsts_33 : decode cX3_takeFirsts 33 = .ok (.invokevirtual 87, 3) := by decide +kernel
theorem dX3_takeFirsts_36 : decode cX3_takeFirsts 36 = .ok (.istore 10, 2) := by decide +kernel
theorem dX3_takeFirsts_38 : decode cX3_takeFirsts 38 = .ok (.aload_n 0, 1) := by decide +kernel
theorem dX3_takeFirsts_39 : decode cX3_takeFirsts 39 = .ok (.getfield 34, 3) := by decide +kernel
theorem dX3_takeFirsts_42 : decode cX3_takeFirsts 42 = .ok (.iload 10, 2) := by decide +kernel
theorem dX3_takeFirsts_44 : decode cX3_takeFirsts 44 = .ok (.invokevirtual 91, 3) := by decide +kernel
theorem dX3_takeFirsts_47 : decode cX3_takeFirsts 47 = .ok (.lstore 11, 2) := by decide +kernel
theorem dX3_takeFirsts_49 : decode cX3_takeFirsts 49 = .ok (.iload 9, 2) := by decide +kernel
theorem dX3_takeFirsts_51 : decode cX3_takeFirsts 51 = .ok (.iload_n 3, 1) := by decide +kernel
theorem dX3_takeFirsts_52 : decode cX3_takeFirsts 52 = .ok (.iconst 1, 1) := by decide +kernel
theorem dX3_takeFirsts_53 : decode cX3_takeFirsts 53 = .ok (.isub, 1) := by decide +kernel
theorem dX3_takeFirsts_54 : decode cX3_takeFirsts 54 = .ok (.if_icmp .ge 17, 3) := by decide +kernel
theorem dX3_takeFirsts_57 : decode cX3_takeFirsts 57 = .ok (.aload_n 0, 1) := by decide +kernel
theorem dX3_takeFirsts_58 : decode cX3_takeFirsts 58 = .ok (.getfield 34, 3) := by decide +kernel
theorem dX3_takeFirsts_61 : decode cX3_takeFirsts 61 = .ok (.iconst 0, 1) := by decide +kernel
theorem dX3_takeFirsts_62 : decode cX3_takeFirsts 62 = .ok (.lload 11, 2) := by decide +kernel
theorem dX3_takeFirsts_64 : decode cX3_takeFirsts 64 = .ok (.invokevirtual 80, 3) := by decide +kernel
theorem dX3_takeFirsts_67 : decode cX3_takeFirsts 67 = .ok (.pop, 1) := by decide +kernel
theorem dX3_takeFirsts_68 : decode cX3_takeFirsts 68 = .ok (.goto 34, 3) := by decide +kernel
theorem dX3_takeFirsts_71 : decode cX3_takeFirsts 71 = .ok (.iload 6, 2) := by decide +kernel
theorem dX3_takeFirsts_73 : decode cX3_takeFirsts 73 = .ok (.ifCond .eq 17, 3) := by decide +kernel
theorem dX3_takeFirsts_76 : decode cX3_takeFirsts 76 = .ok (.aload_n 0, 1) := by decide +kernel
theorem dX3_takeFirsts_77 : decode cX3_takeFirsts 77 = .ok (.getfield 34, 3) := by decide +kernel
theorem dX3_takeFirsts_80 : decode cX3_takeFirsts 80 = .ok (.iconst 1, 1) := by decide +kernel
theorem dX3_takeFirsts_81 : decode cX3_takeFirsts 81 = .ok (.lload 11, 2) := by decide +kernel
theorem dX3_takeFirsts_83 : decode cX3_takeFirsts 83 = .ok (.invokevirtual 80, 3) := by decide +kernel
theorem dX3_takeFirsts_86 : decode cX3_takeFirsts 86 = .ok (.pop, 1) := by decide +kernel
theorem dX3_takeFirsts_87 : decode cX3_takeFirsts 87 = .ok (.goto 15, 3) := by decide +kernel
theorem dX3_takeFirsts_90 : decode cX3_takeFirsts 90 = .ok (.aload_n 0, 1) := by decide +kernel
theorem dX3_takeFirsts_91 : decode cX3_takeFirsts 91 = .ok (.getfield 34, 3) := by decide +kernel
theorem dX3_takeFirsts_94 : decode cX3_takeFirsts 94 = .ok (.lload 11, 2) := by decide +kernel
theorem dX3_takeFirsts_96 : decode cX3_takeFirsts 96 = .ok (.lload 4, 2) := by decide +kernel
theorem dX3_takeFirsts_98 : decode cX3_takeFirsts 98 = .ok (.invokevirtual 71, 3) := by decide +kernel
theorem dX3_takeFirsts_101 : decode cX3_takeFirsts 101 = .ok (.pop, 1) := by decide +kernel
theorem dX3_takeFirsts_102 : decode cX3_takeFirsts 102 = .ok (.aload_n 0, 1) := by decide +kernel
theorem dX3_takeFirsts_103 : decode cX3_takeFirsts 103 = .ok (.getfield 34, 3) := by decide +kernel
theorem dX3_takeFirsts_106 : decode cX3_takeFirsts 106 = .ok (.iload 10, 2) := by decide +kernel
theorem dX3_takeFirsts_108 : decode cX3_takeFirsts 108 = .ok (.invokevirtual 95, 3) := by decide +kernel
theorem dX3_takeFirsts_111 : decode cX3_takeFirsts 111 = .ok (.lstore 7, 2) := by decide +kernel
theorem dX3_takeFirsts_113 : decode cX3_takeFirsts 113 = .ok (.iinc 9 1, 3) := by decide +kernel
theorem dX3_takeFirsts_116 : decode cX3_takeFirsts 116 = .ok (.goto (-95), 3) := by decide +kernel
theorem dX3_takeFirsts_119 : decode cX3_takeFirsts 119 = .ok (.return_, 1) := by decide +kernel
theorem dX4_init_0 : decode cX4_init 0 = .ok (.aload_n 0, 1) := by decide +kernel
theorem dX4_init_1 : decode cX4_init 1 = .ok (.invokespecial 1, 3) := by decide +kernel
theorem dX4_init_4 : decode cX4_init 4 = .ok (.aload_n 0, 1) := by decide +kernel
theorem dX4_init_5 : decode cX4_init 5 = .ok (.bipush 120, 2) := by decide +kernel
theorem dX4_init_7 : decode cX4_init 7 = .ok (.newarray .int, 2) := by decide +kernel
theorem dX4_init_9 : decode cX4_init 9 = .ok (.putfield 7, 3) := by decide +kernel
theorem dX4_init_12 : decode cX4_init 12 = .ok (.aload_n 0, 1) := by decide +kernel
theorem dX4_init_13 : decode cX4_init 13 = .ok (.bipush 120, 2) := by decide +kernel
theorem dX4_init_15 : decode cX4_init 15 = .ok (.newarray .int, 2) := by decide +kernel
theorem dX4_init_17 : decode cX4_init 17 = .ok (.putfield 13, 3) := by decide +kernel
theorem dX4_init_20 : decode cX4_init 20 = .ok (.aload_n 0, 1) := by decide +kernel
theorem dX4_init_21 : decode cX4_init 21 = .ok (.bipush 120, 2) := by decide +kernel
theorem dX4_init_23 : decode cX4_init 23 = .ok (.newarray .long, 2) := by decide +kernel
theorem dX4_init_25 : decode cX4_init 25 = .ok (.putfield 16, 3) := by decide +kernel
theorem dX4_init_28 : decode cX4_init 28 = .ok (.aload_n 0, 1) := by decide +kernel
theorem dX4_init_29 : decode cX4_init 29 = .ok (.bipush 10, 2) := by decide +kernel
theorem dX4_init_31 : decode cX4_init 31 = .ok (.newarray .int, 2) := by decide +kernel
theorem dX4_init_33 : decode cX4_init 33 = .ok (.putfield 20, 3) := by decide +kernel
theorem dX4_init_36 : decode cX4_init 36 = .ok (.aload_n 0, 1) := by decide +kernel
theorem dX4_init_37 : decode cX4_init 37 = .ok (.bipush 10, 2) := by decide +kernel
theorem dX4_init_39 : decode cX4_init 39 = .ok (.newarray .long, 2) := by decide +kernel
theorem dX4_init_41 : decode cX4_init 41 = .ok (.putfield 23, 3) := by decide +kernel
theorem dX4_init_44 : decode cX4_init 44 = .ok (.aload_n 0, 1) := by decide +kernel
theorem dX4_init_45 : decode cX4_init 45 = .ok (.bipush 120, 2) := by decide +kernel
theorem dX4_init_47 : decode cX4_init 47 = .ok (.newarray .int, 2) := by decide +kernel
theorem dX4_init_49 : decode cX4_init 49 = .ok (.putfield 26, 3) := by decide +kernel
theorem dX4_init_52 : decode cX4_init 52 = .ok (.aload_n 0, 1) := by decide +kernel
theorem dX4_init_53 : decode cX4_init 53 = .ok (.bipush 120, 2) := by decide +kernel
theorem dX4_init_55 : decode cX4_init 55 = .ok (.newarray .int, 2) := by decide +kernel
theorem dX4_init_57 : decode cX4_init 57 = .ok (.putfield 29, 3) := by decide +kernel
theorem dX4_init_60 : decode cX4_init 60 = .ok (.aload_n 0, 1) := by decide +kernel
theorem dX4_init_61 : decode cX4_init 61 = .ok (.bipush 120, 2) := by decide +kernel
theorem dX4_init_63 : decode cX4_init 63 = .ok (.newarray .int, 2) := by decide +kernel
theorem dX4_init_65 : decode cX4_init 65 = .ok (.putfield 32, 3) := by decide +kernel
theorem dX4_init_68 : decode cX4_init 68 = .ok (.aload_n 0, 1) := by decide +kernel
theorem dX4_init_69 : decode cX4_init 69 = .ok (.bipush 120, 2) := by decide +kernel
theorem dX4_init_71 : decode cX4_init 71 = .ok (.newarray .int, 2) := by decide +kernel
theorem dX4_init_73 : decode cX4_init 73 = .ok (.putfield 35, 3) := by decide +kernel
theorem dX4_init_76 : decode cX4_init 76 = .ok (.aload_n 0, 1) := by decide +kernel
theorem dX4_init_77 : decode cX4_init 77 = .ok (.bipush 120, 2) := by decide +kernel
theorem dX4_init_79 : decode cX4_init 79 = .ok (.newarray .long, 2) := by decide +kernel
theorem dX4_init_81 : decode cX4_init 81 = .ok (.putfield 38, 3) := by decide +kernel
theorem dX4_init_84 : decode cX4_init 84 = .ok (.aload_n 0, 1) := by decide +kernel
theorem dX4_init_85 : decode cX4_init 85 = .ok (.bipush 120, 2) := by decide +kernel
theorem dX4_init_87 : decode cX4_init 87 = .ok (.newarray .int, 2) := by decide +kernel
theorem dX4_init_89 : decode cX4_init 89 = .ok (.putfield 41, 3) := by decide +kernel
theorem dX4_init_92 : decode cX4_init 92 = .ok (.aload_n 0, 1) := by decide +kernel
theorem dX4_init_93 : decode cX4_init 93 = .ok (.bipush 120, 2) := by decide +kernel
theorem dX4_init_95 : decode cX4_init 95 = .ok (.newarray .int, 2) := by decide +kernel
theorem dX4_init_97 : decode cX4_init 97 = .ok (.putfield 44, 3) := by decide +kernel
theorem dX4_init_100 : decode cX4_init 100 = .ok (.aload_n 0, 1) := by decide +kernel
theorem dX4_init_101 : decode cX4_init 101 = .ok (.bipush 120, 2) := by decide +kernel
theorem dX4_init_103 : decode cX4_init 103 = .ok (.newarray .int, 2) := by decide +kernel
theorem dX4_init_105 : decode cX4_init 105 = .ok (.putfield 47, 3) := by decide +kernel
theorem dX4_init_108 : decode cX4_init 108 = .ok (.aload_n 0, 1) := by decide +kernel
theorem dX4_init_109 : decode cX4_init 109 = .ok (.bipush 120, 2) := by decide +kernel
theorem dX4_init_111 : decode cX4_init 111 = .ok (.newarray .boolean, 2) := by decide +kernel
theorem dX4_init_113 : decode cX4_init 113 = .ok (.putfield 50, 3) := by decide +kernel
theorem dX4_init_116 : decode cX4_init 116 = .ok (.return_, 1) := by decide +kernel
theorem dX4_thrown_0 : decode cX4_thrown 0 = .ok (.aload_n 0, 1) := by decide +kernel
theorem dX4_thrown_1 : decode cX4_thrown 1 = .ok (.getfield 54, 3) := by decide +kernel
theorem dX4_thrown_4 : decode cX4_thrown 4 = .ok (.ireturn, 1) := by decide +kernel
theorem dX4_refuse_0 : decode cX4_refuse 0 = .ok (.aload_n 0, 1) := by decide +kernel
theorem dX4_refuse_1 : decode cX4_refuse 1 = .ok (.iload_n 1, 1) := by decide +kernel
theorem dX4_refuse_2 : decode cX4_refuse 2 = .ok (.ifCond .eq 7, 3) := by decide +kernel
theorem dX4_refuse_5 : decode cX4_refuse 5 = .ok (.iconst 1, 1) := by decide +kernel
theorem dX4_refuse_6 : decode cX4_refuse 6 = .ok (.goto 12, 3) := by decide +kernel
theorem dX4_refuse_9 : decode cX4_refuse 9 = .ok (.iload_n 2, 1) := by decide +kernel
theorem dX4_refuse_10 : decode cX4_refuse 10 = .ok (.ifCond .eq 7, 3) := by decide +kernel
theorem dX4_refuse_13 : decode cX4_refuse 13 = .ok (.iconst 2, 1) := by decide +kernel
theorem dX4_refuse_14 : decode cX4_refuse 14 = .ok (.goto 4, 3) := by decide +kernel
theorem dX4_refuse_17 : decode cX4_refuse 17 = .ok (.iconst 0, 1) := by decide +kernel
theorem dX4_refuse_18 : decode cX4_refuse 18 = .ok (.putfield 54, 3) := by decide +kernel
theorem dX4_refuse_21 : decode cX4_refuse 21 = .ok (.aload_n 0, 1) := by decide +kernel
theorem dX4_refuse_22 : decode cX4_refuse 22 = .ok (.getfield 54, 3) := by decide +kernel
theorem dX4_refuse_25 : decode cX4_refuse 25 = .ok (.ifCond .le 7, 3) := by decide +kernel
theorem dX4_refuse_28 : decode cX4_refuse 28 = .ok (.iconst 1, 1) := by decide +kernel
theorem dX4_refuse_29 : decode cX4_refuse 29 = .ok (.goto 4, 3) := by decide +kernel
theorem dX4_refuse_32 : decode cX4_refuse 32 = .ok (.iconst 0, 1) := by decide +kernel
theorem dX4_refuse_33 : decode cX4_refuse 33 = .ok (.ireturn, 1) := by decide +kernel
theorem dX4_none_0 : decode cX4_none 0 = .ok (.iload_n 0, 1) := by decide +kernel
theorem dX4_none_1 : decode cX4_none 1 = .ok (.ifCond .lt 9, 3) := by decide +kernel
theorem dX4_none_4 : decode cX4_none 4 = .ok (.iload_n 0, 1) := by decide +kernel
theorem dX4_none_5 : decode cX4_none 5 = .ok (.bipush 9, 2) := by decide +kernel
theorem dX4_none_7 : decode cX4_none 7 = .ok (.if_icmp .le 7, 3) := by decide +kernel
theorem dX4_none_10 : decode cX4_none 10 = .ok (.iconst 1, 1) := by decide +kernel
theorem dX4_none_11 : decode cX4_none 11 = .ok (.goto 4, 3) := by decide +kernel
theorem dX4_none_14 : decode cX4_none 14 = .ok (.iconst 0, 1) := by decide +kernel
theorem dX4_none_15 : decode cX4_none 15 = .ok (.ireturn, 1) := by decide +kernel
theorem dX4_setRoot_0 : decode cX4_setRoot 0 = .ok (.aload_n 0, 1) := by decide +kernel
theorem dX4_setRoot_1 : decode cX4_setRoot 1 = .ok (.getfield 20, 3) := by decide +kernel
theorem dX4_setRoot_4 : decode cX4_setRoot 4 = .ok (.iload_n 1, 1) := by decide +kernel
theorem dX4_setRoot_5 : decode cX4_setRoot 5 = .ok (.iload_n 2, 1) := by decide +kernel
theorem dX4_setRoot_6 : decode cX4_setRoot 6 = .ok (.iastore, 1) := by decide +kernel
theorem dX4_setRoot_7 : decode cX4_setRoot 7 = .ok (.aload_n 0, 1) := by decide +kernel
theorem dX4_setRoot_8 : decode cX4_setRoot 8 = .ok (.getfield 23, 3) := by decide +kernel
theorem dX4_setRoot_11 : decode cX4_setRoot 11 = .ok (.iload_n 1, 1) := by decide +kernel
theorem dX4_setRoot_12 : decode cX4_setRoot 12 = .ok (.lload_n 3, 1) := by decide +kernel
theorem dX4_setRoot_13 : decode cX4_setRoot 13 = .ok (.lastore, 1) := by decide +kernel
theorem dX4_setRoot_14 : decode cX4_setRoot 14 = .ok (.return_, 1) := by decide +kernel
theorem dX4_look_0 : decode cX4_look 0 = .ok (.aload_n 0, 1) := by decide +kernel
theorem dX4_look_1 : decode cX4_look 1 = .ok (.iload_n 1, 1) := by decide +kernel
theorem dX4_look_2 : decode cX4_look 2 = .ok (.putfield 58, 3) := by decide +kernel
theorem dX4_look_5 : decode cX4_look 5 = .ok (.aload_n 0, 1) := by decide +kernel
theorem dX4_look_6 : decode cX4_look 6 = .ok (.lload_n 2, 1) := by decide +kernel
theorem dX4_look_7 : decode cX4_look 7 = .ok (.putfield 61, 3) := by decide +kernel
theorem dX4_look_10 : decode cX4_look 10 = .ok (.return_, 1) := by decide +kernel
theorem dX4_cell_0 : decode cX4_cell 0 = .ok (.lload_n 1, 1) := by decide +kernel
theorem dX4_cell_1 : decode cX4_cell 1 = .ok (.l2i, 1) := by decide +kernel
theorem dX4_cell_2 : decode cX4_cell 2 = .ok (.istore_n 3, 1) := by decide +kernel
theorem dX4_cell_3 : decode cX4_cell 3 = .ok (.aload_n 0, 1) := by decide +kernel
theorem dX4_cell_4 : decode cX4_cell 4 = .ok (.getfield 13, 3) := by decide +kernel
theorem dX4_cell_7 : decode cX4_cell 7 = .ok (.iload_n 3, 1) := by decide +kernel
theorem dX4_cell_8 : decode cX4_cell 8 = .ok (.iaload, 1) := by decide +kernel
theorem dX4_cell_9 : decode cX4_cell 9 = .ok (.iconst 3, 1) := by decide +kernel
theorem dX4_cell_10 : decode cX4_cell 10 = .ok (.if_icmp .ne 14, 3) := by decide +kernel
theorem dX4_cell_13 : decode cX4_cell 13 = .ok (.aload_n 0, 1) := by decide +kernel
theorem dX4_cell_14 : decode cX4_cell 14 = .ok (.getfield 16, 3) := by decide +kernel
theorem dX4_cell_17 : decode cX4_cell 17 = .ok (.iload_n 3, 1) := by decide +kernel
theorem dX4_cell_18 : decode cX4_cell 18 = .ok (.laload, 1) := by decide +kernel
theorem dX4_cell_19 : decode cX4_cell 19 = .ok (.l2i, 1) := by decide +kernel
theorem dX4_cell_20 : decode cX4_cell 20 = .ok (.istore_n 3, 1) := by decide +kernel
theorem dX4_cell_21 : decode cX4_cell 21 = .ok (.goto (-18), 3) := by decide +kernel
theorem dX4_cell_24 : decode cX4_cell 24 = .ok (.iload_n 3, 1) := by decide +kernel
theorem dX4_cell_25 : decode cX4_cell 25 = .ok (.ireturn, 1) := by decide +kernel
theorem dX4_cellOf_0 : decode cX4_cellOf 0 = .ok (.aload_n 0, 1) := by decide +kernel
theorem dX4_cellOf_1 : decode cX4_cellOf 1 = .ok (.aload_n 0, 1) := by decide +kernel
theorem dX4_cellOf_2 : decode cX4_cellOf 2 = .ok (.getfield 23, 3) := by decide +kernel
theorem dX4_cellOf_5 : decode cX4_cellOf 5 = .ok (.iload_n 1, 1) := by decide +kernel
theorem dX4_cellOf_6 : decode cX4_cellOf 6 = .ok (.laload, 1) := by decide +kernel
theorem dX4_cellOf_7 : decode cX4_cellOf 7 = .ok (.invokevirtual 65, 3) := by decide +kernel
theorem dX4_cellOf_10 : decode cX4_cellOf 10 = .ok (.ireturn, 1) := by decide +kernel
theorem dX4_lookRest_0 : decode cX4_lookRest 0 = .ok (.aload_n 0, 1) := by decide +kernel
theorem dX4_lookRest_1 : decode cX4_lookRest 1 = .ok (.getfield 7, 3) := by decide +kernel
theorem dX4_lookRest_4 : decode cX4_lookRest 4 = .ok (.iload_n 1, 1) := by decide +kernel
theorem dX4_lookRest_5 : decode cX4_lookRest 5 = .ok (.iaload, 1) := by decide +kernel
theorem dX4_lookRest_6 : decode cX4_lookRest 6 = .ok (.ifCond .ne 15, 3) := by decide +kernel
theorem dX4_lookRest_9 : decode cX4_lookRest 9 = .ok (.aload_n 0, 1) := by decide +kernel
theorem dX4_lookRest_10 : decode cX4_lookRest 10 = .ok (.iconst 2, 1) := by decide +kernel
theorem dX4_lookRest_11 : decode cX4_lookRest 11 = .ok (.iload_n 1, 1) := by decide +kernel
theorem dX4_lookRest_12 : decode cX4_lookRest 12 = .ok (.i2l, 1) := by decide +kernel
theorem dX4_lookRest_13 : decode cX4_lookRest 13 = .ok (.lconst 1, 1) := by decide +kernel
theorem dX4_lookRest_14 : decode cX4_lookRest 14 = .ok (.ladd, 1) := by decide +kernel
theorem dX4_lookRest_15 : decode cX4_lookRest 15 = .ok (.invokevirtual 69, 3) := by decide +kernel
theorem dX4_lookRest_18 : decode cX4_lookRest 18 = .ok (.goto 42, 3) := by decide +kernel
theorem dX4_lookRest_21 : decode cX4_lookRest 21 = .ok (.aload_n 0, 1) := by decide +kernel
theorem dX4_lookRest_22 : decode cX4_lookRest 22 = .ok (.getfield 7, 3) := by decide +kernel
theorem dX4_lookRest_25 : decode cX4_lookRest 25 = .ok (.iload_n 1, 1) := by decide +kernel
theorem dX4_lookRest_26 : decode cX4_lookRest 26 = .ok (.iaload, 1) := by decide +kernel
theorem dX4_lookRest_27 : decode cX4_lookRest 27 = .ok (.iconst 1, 1) := by decide +kernel
theorem dX4_lookRest_28 : decode cX4_lookRest 28 = .ok (.if_icmp .ne 12, 3) := by decide +kernel
theorem dX4_lookRest_31 : decode cX4_lookRest 31 = .ok (.aload_n 0, 1) := by decide +kernel
theorem dX4_lookRest_32 : decode cX4_lookRest 32 = .ok (.iconst 0, 1) := by decide +kernel
theorem dX4_lookRest_33 : decode cX4_lookRest 33 = .ok (.lconst 0, 1) := by decide +kernel
theorem dX4_lookRest_34 : decode cX4_lookRest 34 = .ok (.invokevirtual 69, 3) := by decide +kernel
theorem dX4_lookRest_37 : decode cX4_lookRest 37 = .ok (.goto 23, 3) := by decide +kernel
theorem dX4_lookRest_40 : decode cX4_lookRest 40 = .ok (.aload_n 0, 1) := by decide +kernel
theorem dX4_lookRest_41 : decode cX4_lookRest 41 = .ok (.aload_n 0, 1) := by decide +kernel
theorem dX4_lookRest_42 : decode cX4_lookRest 42 = .ok (.getfield 13, 3) := by decide +kernel
theorem dX4_lookRest_45 : decode cX4_lookRest 45 = .ok (.iload_n 1, 1) := by decide +kernel
theorem dX4_lookRest_46 : decode cX4_lookRest 46 = .ok (.iconst 1, 1) := by decide +kernel
theorem dX4_lookRest_47 : decode cX4_lookRest 47 = .ok (.iadd, 1) := by decide +kernel
theorem dX4_lookRest_48 : decode cX4_lookRest 48 = .ok (.iaload, 1) := by decide +kernel
theorem dX4_lookRest_49 : decode cX4_lookRest 49 = .ok (.aload_n 0, 1) := by decide +kernel
theorem dX4_lookRest_50 : decode cX4_lookRest 50 = .ok (.getfield 16, 3) := by decide +kernel
theorem dX4_lookRest_53 : decode cX4_lookRest 53 = .ok (.iload_n 1, 1) := by decide +kernel
theorem dX4_lookRest_54 : decode cX4_lookRest 54 = .ok (.iconst 1, 1) := by decide +kernel
theorem dX4_lookRest_55 : decode cX4_lookRest 55 = .ok (.iadd, 1) := by decide +kernel
theorem dX4_lookRest_56 : decode cX4_lookRest 56 = .ok (.laload, 1) := by decide +kernel
theorem dX4_lookRest_57 : decode cX4_lookRest 57 = .ok (.invokevirtual 69, 3) := by decide +kernel
theorem dX4_lookRest_60 : decode cX4_lookRest 60 = .ok (.return_, 1) := by decide +kernel
theorem dX4_isSame_0 : decode cX4_isSame 0 = .ok (.iload_n 1, 1) := by decide +kernel
theorem dX4_isSame_1 : decode cX4_isSame 1 = .ok (.iload 4, 2) := by decide +kernel
theorem dX4_isSame_3 : decode cX4_isSame 3 = .ok (.if_icmp .eq 5, 3) := by decide +kernel
theorem dX4_isSame_6 : decode cX4_isSame 6 = .ok (.iconst 0, 1) := by decide +kernel
theorem dX4_isSame_7 : decode cX4_isSame 7 = .ok (.ireturn, 1) := by decide +kernel
theorem dX4_isSame_8 : decode cX4_isSame 8 = .ok (.iload_n 1, 1) := by decide +kernel
theorem dX4_isSame_9 : decode cX4_isSame 9 = .ok (.ifCond .eq 32, 3) := by decide +kernel
theorem dX4_isSame_12 : decode cX4_isSame 12 = .ok (.iload_n 1, 1) := by decide +kernel
theorem dX4_isSame_13 : decode cX4_isSame 13 = .ok (.iconst 1, 1) := by decide +kernel
theorem dX4_isSame_14 : decode cX4_isSame 14 = .ok (.if_icmp .ne 13, 3) := by decide +kernel
theorem dX4_isSame_17 : decode cX4_isSame 17 = .ok (.lload_n 2, 1) := by decide +kernel
theorem dX4_isSame_18 : decode cX4_isSame 18 = .ok (.lload 5, 2) := by decide +kernel
theorem dX4_isSame_20 : decode cX4_isSame 20 = .ok (.lcmp, 1) := by decide +kernel
theorem dX4_isSame_21 : decode cX4_isSame 21 = .ok (.ifCond .ne 24, 3) := by decide +kernel
theorem dX4_isSame_24 : decode cX4_isSame 24 = .ok (.goto 17, 3) := by decide +kernel
theorem dX4_isSame_27 : decode cX4_isSame 27 = .ok (.aload_n 0, 1) := by decide +kernel
theorem dX4_isSame_28 : decode cX4_isSame 28 = .ok (.lload_n 2, 1) := by decide +kernel
theorem dX4_isSame_29 : decode cX4_isSame 29 = .ok (.invokevirtual 65, 3) := by decide +kernel
theorem dX4_isSame_32 : decode cX4_isSame 32 = .ok (.aload_n 0, 1) := by decide +kernel
theorem dX4_isSame_33 : decode cX4_isSame 33 = .ok (.lload 5, 2) := by decide +kernel
theorem dX4_isSame_35 : decode cX4_isSame 35 = .ok (.invokevirtual 65, 3) := by decide +kernel
theorem dX4_isSame_38 : decode cX4_isSame 38 = .ok (.if_icmp .ne 7, 3) := by decide +kernel
theorem dX4_isSame_41 : decode cX4_isSame 41 = .ok (.iconst 1, 1) := by decide +kernel
theorem dX4_isSame_42 : decode cX4_isSame 42 = .ok (.goto 4, 3) := by decide +kernel
theorem dX4_isSame_45 : decode cX4_isSame 45 = .ok (.iconst 0, 1) := by decide +kernel
theorem dX4_isSame_46 : decode cX4_isSame 46 = .ok (.ireturn, 1) := by decide +kernel
theorem dX4_put_0 : decode cX4_put 0 = .ok (.aload_n 0, 1) := by decide +kernel
theorem dX4_put_1 : decode cX4_put 1 = .ok (.getfield 7, 3) := by decide +kernel
theorem dX4_put_4 : decode cX4_put 4 = .ok (.aload_n 0, 1) := by decide +kernel
theorem dX4_put_5 : decode cX4_put 5 = .ok (.getfield 73, 3) := by decide +kernel
theorem dX4_put_8 : decode cX4_put 8 = .ok (.iload_n 1, 1) := by decide +kernel
theorem dX4_put_9 : decode cX4_put 9 = .ok (.iastore, 1) := by decide +kernel
theorem dX4_put_10 : decode cX4_put 10 = .ok (.aload_n 0, 1) := by decide +kernel
theorem dX4_put_11 : decode cX4_put 11 = .ok (.getfield 13, 3) := by decide +kernel
theorem dX4_put_14 : decode cX4_put 14 = .ok (.aload_n 0, 1) := by decide +kernel
theorem dX4_put_15 : decode cX4_put 15 = .ok (.getfield 73, 3) := by decide +kernel
theorem dX4_put_18 : decode cX4_put 18 = .ok (.iload_n 2, 1) := by decide +kernel
theorem dX4_put_19 : decode cX4_put 19 = .ok (.iastore, 1) := by decide +kernel
theorem dX4_put_20 : decode cX4_put 20 = .ok (.aload_n 0, 1) := by decide +kernel
theorem dX4_put_21 : decode cX4_put 21 = .ok (.getfield 16, 3) := by decide +kernel
theorem dX4_put_24 : decode cX4_put 24 = .ok (.aload_n 0, 1) := by decide +kernel
theorem dX4_put_25 : decode cX4_put 25 = .ok (.getfield 73, 3) := by decide +kernel
theorem dX4_put_28 : decode cX4_put 28 = .ok (.lload_n 3, 1) := by decide +kernel
theorem dX4_put_29 : decode cX4_put 29 = .ok (.lastore, 1) := by decide +kernel
theorem dX4_put_30 : decode cX4_put 30 = .ok (.aload_n 0, 1) := by decide +kernel
theorem dX4_put_31 : decode cX4_put 31 = .ok (.dup, 1) := by decide +kernel
theorem dX4_put_32 : decode cX4_put 32 = .ok (.getfield 73, 3) := by decide +kernel
theorem dX4_put_35 : decode cX4_put 35 = .ok (.iconst 1, 1) := by decide +kernel
theorem dX4_put_36 : decode cX4_put 36 = .ok (.iadd, 1) := by decide +kernel
theorem dX4_put_37 : decode cX4_put 37 = .ok (.putfield 73, 3) := by decide +kernel
theorem dX4_put_40 : decode cX4_put 40 = .ok (.aload_n 0, 1) := by decide +kernel
theorem dX4_put_41 : decode cX4_put 41 = .ok (.getfield 73, 3) := by decide +kernel
theorem dX4_put_44 : decode cX4_put 44 = .ok (.iconst 1, 1) := by decide +kernel
theorem dX4_put_45 : decode cX4_put 45 = .ok (.isub, 1) := by decide +kernel
theorem dX4_put_46 : decode cX4_put 46 = .ok (.ireturn, 1) := by decide +kernel
theorem dX4_room_0 : decode cX4_room 0 = .ok (.aload_n 0, 1) := by decide +kernel
theorem dX4_room_1 : decode cX4_room 1 = .ok (.getfield 73, 3) := by decide +kernel
theorem dX4_room_4 : decode cX4_room 4 = .ok (.iload_n 1, 1) := by decide +kernel
theorem dX4_room_5 : decode cX4_room 5 = .ok (.iadd, 1) := by decide +kernel
theorem dX4_room_6 : decode cX4_room 6 = .ok (.bipush 120, 2) := by decide +kernel
theorem dX4_room_8 : decode cX4_room 8 = .ok (.if_icmp .le 7, 3) := by decide +kernel
theorem dX4_room_11 : decode cX4_room 11 = .ok (.aload_n 0, 1) := by decide +kernel
theorem dX4_room_12 : decode cX4_room 12 = .ok (.invokevirtual 76, 3) := by decide +kernel
theorem dX4_room_15 : decode cX4_room 15 = .ok (.aload_n 0, 1) := by decide +kernel
theorem dX4_room_16 : decode cX4_room 16 = .ok (.getfield 73, 3) := by decide +kernel
theorem dX4_room_19 : decode cX4_room 19 = .ok (.iload_n 1, 1) := by decide +kernel
theorem dX4_room_20 : decode cX4_room 20 = .ok (.iadd, 1) := by decide +kernel
theorem dX4_room_21 : decode cX4_room 21 = .ok (.bipush 120, 2) := by decide +kernel
theorem dX4_room_23 : decode cX4_room 23 = .ok (.if_icmp .gt 7, 3) := by decide +kernel
theorem dX4_room_26 : decode cX4_room 26 = .ok (.iconst 1, 1) := by decide +kernel
theorem dX4_room_27 : decode cX4_room 27 = .ok (.goto 4, 3) := by decide +kernel
theorem dX4_room_30 : decode cX4_room 30 = .ok (.iconst 0, 1) := by decide +kernel
theorem dX4_room_31 : decode cX4_room 31 = .ok (.ireturn, 1) := by decide +kernel
theorem dX4_enlist_0 : decode cX4_enlist 0 = .ok (.iload_n 1, 1) := by decide +kernel
theorem dX4_enlist_1 : decode cX4_enlist 1 = .ok (.iconst 2, 1) := by decide +kernel
theorem dX4_enlist_2 : decode cX4_enlist 2 = .ok (.if_icmp .ne 62, 3) := by decide +kernel
theorem dX4_enlist_5 : decode cX4_enlist 5 = .ok (.aload_n 0, 1) := by decide +kernel
theorem dX4_enlist_6 : decode cX4_enlist 6 = .ok (.lload_n 2, 1) := by decide +kernel
theorem dX4_enlist_7 : decode cX4_enlist 7 = .ok (.invokevirtual 65, 3) := by decide +kernel
theorem dX4_enlist_10 : decode cX4_enlist 10 = .ok (.istore 4, 2) := by decide +kernel
theorem dX4_enlist_12 : decode cX4_enlist 12 = .ok (.iconst 0, 1) := by decide +kernel
theorem dX4_enlist_13 : decode cX4_enlist 13 = .ok (.istore 5, 2) := by decide +kernel
theorem dX4_enlist_15 : decode cX4_enlist 15 = .ok (.iload 5, 2) := by decide +kernel
theorem dX4_enlist_17 : decode cX4_enlist 17 = .ok (.aload_n 0, 1) := by decide +kernel
theorem dX4_enlist_18 : decode cX4_enlist 18 = .ok (.getfield 79, 3) := by decide +kernel
theorem dX4_enlist_21 : decode cX4_enlist 21 = .ok (.if_icmp .ge 22, 3) := by decide +kernel
theorem dX4_enlist_24 : decode cX4_enlist 24 = .ok (.aload_n 0, 1) := by decide +kernel
theorem dX4_enlist_25 : decode cX4_enlist 25 = .ok (.getfield 26, 3) := by decide +kernel
theorem dX4_enlist_28 : decode cX4_enlist 28 = .ok (.iload 5, 2) := by decide +kernel
theorem dX4_enlist_30 : decode cX4_enlist 30 = .ok (.iaload, 1) := by decide +kernel
theorem dX4_enlist_31 : decode cX4_enlist 31 = .ok (.iload 4, 2) := by decide +kernel
theorem dX4_enlist_33 : decode cX4_enlist 33 = .ok (.if_icmp .ne 4, 3) := by decide +kernel
theorem dX4_enlist_36 : decode cX4_enlist 36 = .ok (.return_, 1) := by decide +kernel
theorem dX4_enlist_37 : decode cX4_enlist 37 = .ok (.iinc 5 1, 3) := by decide +kernel
theorem dX4_enlist_40 : decode cX4_enlist 40 = .ok (.goto (-25), 3) := by decide +kernel
theorem dX4_enlist_43 : decode cX4_enlist 43 = .ok (.aload_n 0, 1) := by decide +kernel
theorem dX4_enlist_44 : decode cX4_enlist 44 = .ok (.getfield 26, 3) := by decide +kernel
theorem dX4_enlist_47 : decode cX4_enlist 47 = .ok (.aload_n 0, 1) := by decide +kernel
theorem dX4_enlist_48 : decode cX4_enlist 48 = .ok (.getfield 79, 3) := by decide +kernel
theorem dX4_enlist_51 : decode cX4_enlist 51 = .ok (.iload 4, 2) := by decide +kernel
theorem dX4_enlist_53 : decode cX4_enlist 53 = .ok (.iastore, 1) := by decide +kernel
theorem dX4_enlist_54 : decode cX4_enlist 54 = .ok (.aload_n 0, 1) := by decide +kernel
theorem dX4_enlist_55 : decode cX4_enlist 55 = .ok (.dup, 1) := by decide +kernel
theorem dX4_enlist_56 : decode cX4_enlist 56 = .ok (.getfield 79, 3) := by decide +kernel
theorem dX4_enlist_59 : decode cX4_enlist 59 = .ok (.iconst 1, 1) := by decide +kernel
theorem dX4_enlist_60 : decode cX4_enlist 60 = .ok (.iadd, 1) := by decide +kernel
theorem dX4_enlist_61 : decode cX4_enlist 61 = .ok (.putfield 79, 3) := by decide +kernel
theorem dX4_enlist_64 : decode cX4_enlist 64 = .ok (.return_, 1) := by decide +kernel
theorem dX4_lay_0 : decode cX4_lay 0 = .ok (.aload_n 0, 1) := by decide +kernel
theorem dX4_lay_1 : decode cX4_lay 1 = .ok (.getfield 32, 3) := by decide +kernel
theorem dX4_lay_4 : decode cX4_lay 4 = .ok (.aload_n 0, 1) := by decide +kernel
theorem dX4_lay_5 : decode cX4_lay 5 = .ok (.getfield 82, 3) := by decide +kernel
theorem dX4_lay_8 : decode cX4_lay 8 = .ok (.iload_n 1, 1) := by decide +kernel
theorem dX4_lay_9 : decode cX4_lay 9 = .ok (.iastore, 1) := by decide +kernel
theorem dX4_lay_10 : decode cX4_lay 10 = .ok (.aload_n 0, 1) := by decide +kernel
theorem dX4_lay_11 : decode cX4_lay 11 = .ok (.getfield 35, 3) := by decide +kernel
theorem dX4_lay_14 : decode cX4_lay 14 = .ok (.aload_n 0, 1) := by decide +kernel
theorem dX4_lay_15 : decode cX4_lay 15 = .ok (.getfield 82, 3) := by decide +kernel
theorem dX4_lay_18 : decode cX4_lay 18 = .ok (.iload_n 2, 1) := by decide +kernel
theorem dX4_lay_19 : decode cX4_lay 19 = .ok (.iastore, 1) := by decide +kernel
theorem dX4_lay_20 : decode cX4_lay 20 = .ok (.aload_n 0, 1) := by decide +kernel
theorem dX4_lay_21 : decode cX4_lay 21 = .ok (.getfield 38, 3) := by decide +kernel
theorem dX4_lay_24 : decode cX4_lay 24 = .ok (.aload_n 0, 1) := by decide +kernel
theorem dX4_lay_25 : decode cX4_lay 25 = .ok (.getfield 82, 3) := by decide +kernel
theorem dX4_lay_28 : decode cX4_lay 28 = .ok (.lload_n 3, 1) := by decide +kernel
theorem dX4_lay_29 : decode cX4_lay 29 = .ok (.lastore, 1) := by decide +kernel
theorem dX4_lay_30 : decode cX4_lay 30 = .ok (.aload_n 0, 1) := by decide +kernel
theorem dX4_lay_31 : decode cX4_lay 31 = .ok (.dup, 1) := by decide +kernel
theorem dX4_lay_32 : decode cX4_lay 32 = .ok (.getfield 82, 3) := by decide +kernel
theorem dX4_lay_35 : decode cX4_lay 35 = .ok (.iconst 1, 1) := by decide +kernel
theorem dX4_lay_36 : decode cX4_lay 36 = .ok (.iadd, 1) := by decide +kernel
theorem dX4_lay_37 : decode cX4_lay 37 = .ok (.putfield 82, 3) := by decide +kernel
theorem dX4_lay_40 : decode cX4_lay 40 = .ok (.return_, 1) := by decide +kernel
theorem dX4_spine_0 : decode cX4_spine 0 = .ok (.iload_n 1, 1) := by decide +kernel
theorem dX4_spine_1 : decode cX4_spine 1 = .ok (.istore_n 2, 1) := by decide +kernel
theorem dX4_spine_2 : decode cX4_spine 2 = .ok (.iload_n 2, 1) := by decide +kernel
theorem dX4_spine_3 : decode cX4_spine 3 = .ok (.ifCond .lt 143, 3) := by decide +kernel
theorem dX4_spine_6 : decode cX4_spine 6 = .ok (.aload_n 0, 1) := by decide +kernel
theorem dX4_spine_7 : decode cX4_spine 7 = .ok (.getfield 29, 3) := by decide +kernel
theorem dX4_spine_10 : decode cX4_spine 10 = .ok (.iload_n 2, 1) := by decide +kernel
theorem dX4_spine_11 : decode cX4_spine 11 = .ok (.iaload, 1) := by decide +kernel
theorem dX4_spine_12 : decode cX4_spine 12 = .ok (.ifCond .ge 134, 3) := by decide +kernel
theorem dX4_spine_15 : decode cX4_spine 15 = .ok (.aload_n 0, 1) := by decide +kernel
theorem dX4_spine_16 : decode cX4_spine 16 = .ok (.getfield 29, 3) := by decide +kernel
theorem dX4_spine_19 : decode cX4_spine 19 = .ok (.iload_n 2, 1) := by decide +kernel
theorem dX4_spine_20 : decode cX4_spine 20 = .ok (.aload_n 0, 1) := by decide +kernel
theorem dX4_spine_21 : decode cX4_spine 21 = .ok (.getfield 82, 3) := by decide +kernel
theorem dX4_spine_24 : decode cX4_spine 24 = .ok (.iastore, 1) := by decide +kernel
theorem dX4_spine_25 : decode cX4_spine 25 = .ok (.aload_n 0, 1) := by decide +kernel
theorem dX4_spine_26 : decode cX4_spine 26 = .ok (.iload_n 2, 1) := by decide +kernel
theorem dX4_spine_27 : decode cX4_spine 27 = .ok (.invokevirtual 85, 3) := by decide +kernel
theorem dX4_spine_30 : decode cX4_spine 30 = .ok (.aload_n 0, 1) := by decide +kernel
theorem dX4_spine_31 : decode cX4_spine 31 = .ok (.getfield 58, 3) := by decide +kernel
theorem dX4_spine_34 : decode cX4_spine 34 = .ok (.istore_n 3, 1) := by decide +kernel
theorem dX4_spine_35 : decode cX4_spine 35 = .ok (.aload_n 0, 1) := by decide +kernel
theorem dX4_spine_36 : decode cX4_spine 36 = .ok (.getfield 61, 3) := by decide +kernel
theorem dX4_spine_39 : decode cX4_spine 39 = .ok (.lstore 4, 2) := by decide +kernel
theorem dX4_spine_41 : decode cX4_spine 41 = .ok (.iload_n 3, 1) := by decide +kernel
theorem dX4_spine_42 : decode cX4_spine 42 = .ok (.iconst 2, 1) := by decide +kernel
theorem dX4_spine_43 : decode cX4_spine 43 = .ok (.if_icmp .ne 12, 3) := by decide +kernel
theorem dX4_spine_46 : decode cX4_spine 46 = .ok (.aload_n 0, 1) := by decide +kernel
theorem dX4_spine_47 : decode cX4_spine 47 = .ok (.lload 4, 2) := by decide +kernel
theorem dX4_spine_49 : decode cX4_spine 49 = .ok (.invokevirtual 65, 3) := by decide +kernel
theorem dX4_spine_52 : decode cX4_spine 52 = .ok (.goto 4, 3) := by decide +kernel
theorem dX4_spine_55 : decode cX4_spine 55 = .ok (.iconst (-1), 1) := by decide +kernel
theorem dX4_spine_56 : decode cX4_spine 56 = .ok (.istore 6, 2) := by decide +kernel
theorem dX4_spine_58 : decode cX4_spine 58 = .ok (.iload 6, 2) := by decide +kernel
theorem dX4_spine_60 : decode cX4_spine 60 = .ok (.ifCond .lt 17, 3) := by decide +kernel
theorem dX4_spine_63 : decode cX4_spine 63 = .ok (.aload_n 0, 1) := by decide +kernel
theorem dX4_spine_64 : decode cX4_spine 64 = .ok (.getfield 29, 3) := by decide +kernel
theorem dX4_spine_67 : decode cX4_spine 67 = .ok (.iload 6, 2) := by decide +kernel
theorem dX4_spine_69 : decode cX4_spine 69 = .ok (.iaload, 1) := by decide +kernel
theorem dX4_spine_70 : decode cX4_spine 70 = .ok (.ifCond .ge 7, 3) := by decide +kernel
theorem dX4_spine_73 : decode cX4_spine 73 = .ok (.iconst 1, 1) := by decide +kernel
theorem dX4_spine_74 : decode cX4_spine 74 = .ok (.goto 4, 3) := by decide +kernel
theorem dX4_spine_77 : decode cX4_spine 77 = .ok (.iconst 0, 1) := by decide +kernel
theorem dX4_spine_78 : decode cX4_spine 78 = .ok (.istore 7, 2) := by decide +kernel
theorem dX4_spine_80 : decode cX4_spine 80 = .ok (.aload_n 0, 1) := by decide +kernel
theorem dX4_spine_81 : decode cX4_spine 81 = .ok (.iload_n 3, 1) := by decide +kernel
theorem dX4_spine_82 : decode cX4_spine 82 = .ok (.ifCond .ne 7, 3) := by decide +kernel
theorem dX4_spine_85 : decode cX4_spine 85 = .ok (.iconst 1, 1) := by decide +kernel
theorem dX4_spine_86 : decode cX4_spine 86 = .ok (.goto 13, 3) := by decide +kernel
theorem dX4_spine_89 : decode cX4_spine 89 = .ok (.iload 7, 2) := by decide +kernel
theorem dX4_spine_91 : decode cX4_spine 91 = .ok (.ifCond .eq 7, 3) := by decide +kernel
theorem dX4_spine_94 : decode cX4_spine 94 = .ok (.iconst 0, 1) := by decide +kernel
theorem dX4_spine_95 : decode cX4_spine 95 = .ok (.goto 4, 3) := by decide +kernel
theorem dX4_spine_98 : decode cX4_spine 98 = .ok (.iconst 2, 1) := by decide +kernel
theorem dX4_spine_99 : decode cX4_spine 99 = .ok (.aload_n 0, 1) := by decide +kernel
theorem dX4_spine_100 : decode cX4_spine 100 = .ok (.getfield 13, 3) := by decide +kernel
theorem dX4_spine_103 : decode cX4_spine 103 = .ok (.iload_n 2, 1) := by decide +kernel
theorem dX4_spine_104 : decode cX4_spine 104 = .ok (.iaload, 1) := by decide +kernel
theorem dX4_spine_105 : decode cX4_spine 105 = .ok (.aload_n 0, 1) := by decide +kernel
theorem dX4_spine_106 : decode cX4_spine 106 = .ok (.getfield 16, 3) := by decide +kernel
theorem dX4_spine_109 : decode cX4_spine 109 = .ok (.iload_n 2, 1) := by decide +kernel
theorem dX4_spine_110 : decode cX4_spine 110 = .ok (.laload, 1) := by decide +kernel
theorem dX4_spine_111 : decode cX4_spine 111 = .ok (.invokevirtual 89, 3) := by decide +kernel
theorem dX4_spine_114 : decode cX4_spine 114 = .ok (.iload_n 3, 1) := by decide +kernel
theorem dX4_spine_115 : decode cX4_spine 115 = .ok (.ifCond .eq 16, 3) := by decide +kernel
theorem dX4_spine_118 : decode cX4_spine 118 = .ok (.iload 7, 2) := by decide +kernel
theorem dX4_spine_120 : decode cX4_spine 120 = .ok (.ifCond .ne 11, 3) := by decide +kernel
theorem dX4_spine_123 : decode cX4_spine 123 = .ok (.aload_n 0, 1) := by decide +kernel
theorem dX4_spine_124 : decode cX4_spine 124 = .ok (.iconst 3, 1) := by decide +kernel
theorem dX4_spine_125 : decode cX4_spine 125 = .ok (.iload_n 3, 1) := by decide +kernel
theorem dX4_spine_126 : decode cX4_spine 126 = .ok (.lload 4, 2) := by decide +kernel
theorem dX4_spine_128 : decode cX4_spine 128 = .ok (.invokevirtual 89, 3) := by decide +kernel
theorem dX4_spine_131 : decode cX4_spine 131 = .ok (.iload 7, 2) := by decide +kernel
theorem dX4_spine_133 : decode cX4_spine 133 = .ok (.ifCond .eq 8, 3) := by decide +kernel
theorem dX4_spine_136 : decode cX4_spine 136 = .ok (.iload 6, 2) := by decide +kernel
theorem dX4_spine_138 : decode cX4_spine 138 = .ok (.goto 4, 3) := by decide +kernel
theorem dX4_spine_141 : decode cX4_spine 141 = .ok (.iconst (-1), 1) := by decide +kernel
theorem dX4_spine_142 : decode cX4_spine 142 = .ok (.istore_n 2, 1) := by decide +kernel
theorem dX4_spine_143 : decode cX4_spine 143 = .ok (.goto (-141), 3) := by decide +kernel
theorem dX4_spine_146 : decode cX4_spine 146 = .ok (.return_, 1) := by decide +kernel
theorem dX4_gather_0 : decode cX4_gather 0 = .ok (.aload_n 0, 1) := by decide +kernel
theorem dX4_gather_1 : decode cX4_gather 1 = .ok (.dup, 1) := by decide +kernel
theorem dX4_gather_2 : decode cX4_gather 2 = .ok (.getfield 93, 3) := by decide +kernel
theorem dX4_gather_5 : decode cX4_gather 5 = .ok (.iconst 1, 1) := by decide +kernel
theorem dX4_gather_6 : decode cX4_gather 6 = .ok (.iadd, 1) := by decide +kernel
theorem dX4_gather_7 : decode cX4_gather 7 = .ok (.putfield 93, 3) := by decide +kernel
theorem dX4_gather_10 : decode cX4_gather 10 = .ok (.aload_n 0, 1) := by decide +kernel
theorem dX4_gather_11 : decode cX4_gather 11 = .ok (.iconst 0, 1) := by decide +kernel
theorem dX4_gather_12 : decode cX4_gather 12 = .ok (.putfield 79, 3) := by decide +kernel
theorem dX4_gather_15 : decode cX4_gather 15 = .ok (.aload_n 0, 1) := by decide +kernel
theorem dX4_gather_16 : decode cX4_gather 16 = .ok (.iconst 0, 1) := by decide +kernel
theorem dX4_gather_17 : decode cX4_gather 17 = .ok (.putfield 82, 3) := by decide +kernel
theorem dX4_gather_20 : decode cX4_gather 20 = .ok (.iconst 0, 1) := by decide +kernel
theorem dX4_gather_21 : decode cX4_gather 21 = .ok (.istore_n 1, 1) := by decide +kernel
theorem dX4_gather_22 : decode cX4_gather 22 = .ok (.iload_n 1, 1) := by decide +kernel
theorem dX4_gather_23 : decode cX4_gather 23 = .ok (.bipush 120, 2) := by decide +kernel
theorem dX4_gather_25 : decode cX4_gather 25 = .ok (.if_icmp .ge 23, 3) := by decide +kernel
theorem dX4_gather_28 : decode cX4_gather 28 = .ok (.aload_n 0, 1) := by decide +kernel
theorem dX4_gather_29 : decode cX4_gather 29 = .ok (.getfield 29, 3) := by decide +kernel
theorem dX4_gather_32 : decode cX4_gather 32 = .ok (.iload_n 1, 1) := by decide +kernel
theorem dX4_gather_33 : decode cX4_gather 33 = .ok (.iconst (-1), 1) := by decide +kernel
theorem dX4_gather_34 : decode cX4_gather 34 = .ok (.iastore, 1) := by decide +kernel
theorem dX4_gather_35 : decode cX4_gather 35 = .ok (.aload_n 0, 1) := by decide +kernel
theorem dX4_gather_36 : decode cX4_gather 36 = .ok (.getfield 50, 3) := by decide +kernel
theorem dX4_gather_39 : decode cX4_gather 39 = .ok (.iload_n 1, 1) := by decide +kernel
theorem dX4_gather_40 : decode cX4_gather 40 = .ok (.iconst 0, 1) := by decide +kernel
theorem dX4_gather_41 : decode cX4_gather 41 = .ok (.bastore, 1) := by decide +kernel
theorem dX4_gather_42 : decode cX4_gather 42 = .ok (.iinc 1 1, 3) := by decide +kernel
theorem dX4_gather_45 : decode cX4_gather 45 = .ok (.goto (-23), 3) := by decide +kernel
theorem dX4_gather_48 : decode cX4_gather 48 = .ok (.iconst 0, 1) := by decide +kernel
theorem dX4_gather_49 : decode cX4_gather 49 = .ok (.istore_n 1, 1) := by decide +kernel
theorem dX4_gather_50 : decode cX4_gather 50 = .ok (.iload_n 1, 1) := by decide +kernel
theorem dX4_gather_51 : decode cX4_gather 51 = .ok (.bipush 10, 2) := by decide +kernel
theorem dX4_gather_53 : decode cX4_gather 53 = .ok (.if_icmp .ge 25, 3) := by decide +kernel
theorem dX4_gather_56 : decode cX4_gather 56 = .ok (.aload_n 0, 1) := by decide +kernel
theorem dX4_gather_57 : decode cX4_gather 57 = .ok (.aload_n 0, 1) := by decide +kernel
theorem dX4_gather_58 : decode cX4_gather 58 = .ok (.getfield 20, 3) := by decide +kernel
theorem dX4_gather_61 : decode cX4_gather 61 = .ok (.iload_n 1, 1) := by decide +kernel
theorem dX4_gather_62 : decode cX4_gather 62 = .ok (.iaload, 1) := by decide +kernel
theorem dX4_gather_63 : decode cX4_gather 63 = .ok (.aload_n 0, 1) := by decide +kernel
theorem dX4_gather_64 : decode cX4_gather 64 = .ok (.getfield 23, 3) := by decide +kernel
theorem dX4_gather_67 : decode cX4_gather 67 = .ok (.iload_n 1, 1) := by decide +kernel
theorem dX4_gather_68 : decode cX4_gather 68 = .ok (.laload, 1) := by decide +kernel
theorem dX4_gather_69 : decode cX4_gather 69 = .ok (.invokevirtual 96, 3) := by decide +kernel
theorem dX4_gather_72 : decode cX4_gather 72 = .ok (.iinc 1 1, 3) := by decide +kernel
theorem dX4_gather_75 : decode cX4_gather 75 = .ok (.goto (-25), 3) := by decide +kernel
theorem dX4_gather_78 : decode cX4_gather 78 = .ok (.iconst 0, 1) := by decide +kernel
theorem dX4_gather_79 : decode cX4_gather 79 = .ok (.istore_n 1, 1) := by decide +kernel
theorem dX4_gather_80 : decode cX4_gather 80 = .ok (.iload_n 1, 1) := by decide +kernel
theorem dX4_gather_81 : decode cX4_gather 81 = .ok (.aload_n 0, 1) := by decide +kernel
theorem dX4_gather_82 : decode cX4_gather 82 = .ok (.getfield 79, 3) := by decide +kernel
theorem dX4_gather_85 : decode cX4_gather 85 = .ok (.if_icmp .ge 49, 3) := by decide +kernel
theorem dX4_gather_88 : decode cX4_gather 88 = .ok (.aload_n 0, 1) := by decide +kernel
theorem dX4_gather_89 : decode cX4_gather 89 = .ok (.getfield 26, 3) := by decide +kernel
theorem dX4_gather_92 : decode cX4_gather 92 = .ok (.iload_n 1, 1) := by decide +kernel
theorem dX4_gather_93 : decode cX4_gather 93 = .ok (.iaload, 1) := by decide +kernel
theorem dX4_gather_94 : decode cX4_gather 94 = .ok (.istore_n 2, 1) := by decide +kernel
theorem dX4_gather_95 : decode cX4_gather 95 = .ok (.aload_n 0, 1) := by decide +kernel
theorem dX4_gather_96 : decode cX4_gather 96 = .ok (.aload_n 0, 1) := by decide +kernel
theorem dX4_gather_97 : decode cX4_gather 97 = .ok (.getfield 13, 3) := by decide +kernel
theorem dX4_gather_100 : decode cX4_gather 100 = .ok (.iload_n 2, 1) := by decide +kernel
theorem dX4_gather_101 : decode cX4_gather 101 = .ok (.iaload, 1) := by decide +kernel
theorem dX4_gather_102 : decode cX4_gather 102 = .ok (.aload_n 0, 1) := by decide +kernel
theorem dX4_gather_103 : decode cX4_gather 103 = .ok (.getfield 16, 3) := by decide +kernel
theorem dX4_gather_106 : decode cX4_gather 106 = .ok (.iload_n 2, 1) := by decide +kernel
theorem dX4_gather_107 : decode cX4_gather 107 = .ok (.laload, 1) := by decide +kernel
theorem dX4_gather_108 : decode cX4_gather 108 = .ok (.invokevirtual 96, 3) := by decide +kernel
theorem dX4_gather_111 : decode cX4_gather 111 = .ok (.aload_n 0, 1) := by decide +kernel
theorem dX4_gather_112 : decode cX4_gather 112 = .ok (.iload_n 2, 1) := by decide +kernel
theorem dX4_gather_113 : decode cX4_gather 113 = .ok (.invokevirtual 85, 3) := by decide +kernel
theorem dX4_gather_116 : decode cX4_gather 116 = .ok (.aload_n 0, 1) := by decide +kernel
theorem dX4_gather_117 : decode cX4_gather 117 = .ok (.aload_n 0, 1) := by decide +kernel
theorem dX4_gather_118 : decode cX4_gather 118 = .ok (.getfield 58, 3) := by decide +kernel
theorem dX4_gather_121 : decode cX4_gather 121 = .ok (.aload_n 0, 1) := by decide +kernel
theorem dX4_gather_122 : decode cX4_gather 122 = .ok (.getfield 61, 3) := by decide +kernel
theorem dX4_gather_125 : decode cX4_gather 125 = .ok (.invokevirtual 96, 3) := by decide +kernel
theorem dX4_gather_128 : decode cX4_gather 128 = .ok (.iinc 1 1, 3) := by decide +kernel
theorem dX4_gather_131 : decode cX4_gather 131 = .ok (.goto (-51), 3) := by decide +kernel
theorem dX4_gather_134 : decode cX4_gather 134 = .ok (.iconst 0, 1) := by decide +kernel
theorem dX4_gather_135 : decode cX4_gather 135 = .ok (.istore_n 1, 1) := by decide +kernel
theorem dX4_gather_136 : decode cX4_gather 136 = .ok (.iload_n 1, 1) := by decide +kernel
theorem dX4_gather_137 : decode cX4_gather 137 = .ok (.aload_n 0, 1) := by decide +kernel
theorem dX4_gather_138 : decode cX4_gather 138 = .ok (.getfield 79, 3) := by decide +kernel
theorem dX4_gather_141 : decode cX4_gather 141 = .ok (.if_icmp .ge 41, 3) := by decide +kernel
theorem dX4_gather_144 : decode cX4_gather 144 = .ok (.aload_n 0, 1) := by decide +kernel
theorem dX4_gather_145 : decode cX4_gather 145 = .ok (.aload_n 0, 1) := by decide +kernel
theorem dX4_gather_146 : decode cX4_gather 146 = .ok (.getfield 26, 3) := by decide +kernel
theorem dX4_gather_149 : decode cX4_gather 149 = .ok (.iload_n 1, 1) := by decide +kernel
theorem dX4_gather_150 : decode cX4_gather 150 = .ok (.iaload, 1) := by decide +kernel
theorem dX4_gather_151 : decode cX4_gather 151 = .ok (.invokevirtual 85, 3) := by decide +kernel
theorem dX4_gather_154 : decode cX4_gather 154 = .ok (.aload_n 0, 1) := by decide +kernel
theorem dX4_gather_155 : decode cX4_gather 155 = .ok (.getfield 58, 3) := by decide +kernel
theorem dX4_gather_158 : decode cX4_gather 158 = .ok (.iconst 2, 1) := by decide +kernel
theorem dX4_gather_159 : decode cX4_gather 159 = .ok (.if_icmp .ne 17, 3) := by decide +kernel
theorem dX4_gather_162 : decode cX4_gather 162 = .ok (.aload_n 0, 1) := by decide +kernel
theorem dX4_gather_163 : decode cX4_gather 163 = .ok (.getfield 50, 3) := by decide +kernel
theorem dX4_gather_166 : decode cX4_gather 166 = .ok (.aload_n 0, 1) := by decide +kernel
theorem dX4_gather_167 : decode cX4_gather 167 = .ok (.aload_n 0, 1) := by decide +kernel
theorem dX4_gather_168 : decode cX4_gather 168 = .ok (.getfield 61, 3) := by decide +kernel
theorem dX4_gather_171 : decode cX4_gather 171 = .ok (.invokevirtual 65, 3) := by decide +kernel
theorem dX4_gather_174 : decode cX4_gather 174 = .ok (.iconst 1, 1) := by decide +kernel
theorem dX4_gather_175 : decode cX4_gather 175 = .ok (.bastore, 1) := by decide +kernel
theorem dX4_gather_176 : decode cX4_gather 176 = .ok (.iinc 1 1, 3) := by decide +kernel
theorem dX4_gather_179 : decode cX4_gather 179 = .ok (.goto (-43), 3) := by decide +kernel
theorem dX4_gather_182 : decode cX4_gather 182 = .ok (.iconst 0, 1) := by decide +kernel
theorem dX4_gather_183 : decode cX4_gather 183 = .ok (.istore_n 1, 1) := by decide +kernel
theorem dX4_gather_184 : decode cX4_gather 184 = .ok (.iload_n 1, 1) := by decide +kernel
theorem dX4_gather_185 : decode cX4_gather 185 = .ok (.iconst 2, 1) := by decide +kernel
theorem dX4_gather_186 : decode cX4_gather 186 = .ok (.if_icmp .ge 54, 3) := by decide +kernel
theorem dX4_gather_189 : decode cX4_gather 189 = .ok (.iconst 0, 1) := by decide +kernel
theorem dX4_gather_190 : decode cX4_gather 190 = .ok (.istore_n 2, 1) := by decide +kernel
theorem dX4_gather_191 : decode cX4_gather 191 = .ok (.iload_n 2, 1) := by decide +kernel
theorem dX4_gather_192 : decode cX4_gather 192 = .ok (.aload_n 0, 1) := by decide +kernel
theorem dX4_gather_193 : decode cX4_gather 193 = .ok (.getfield 79, 3) := by decide +kernel
theorem dX4_gather_196 : decode cX4_gather 196 = .ok (.if_icmp .ge 38, 3) := by decide +kernel
theorem dX4_gather_199 : decode cX4_gather 199 = .ok (.iload_n 1, 1) := by decide +kernel
theorem dX4_gather_200 : decode cX4_gather 200 = .ok (.iconst 1, 1) := by decide +kernel
theorem dX4_gather_201 : decode cX4_gather 201 = .ok (.if_icmp .eq 17, 3) := by decide +kernel
theorem dX4_gather_204 : decode cX4_gather 204 = .ok (.aload_n 0, 1) := by decide +kernel
theorem dX4_gather_205 : decode cX4_gather 205 = .ok (.getfield 50, 3) := by decide +kernel
theorem dX4_gather_208 : decode cX4_gather 208 = .ok (.aload_n 0, 1) := by decide +kernel
theorem dX4_gather_209 : decode cX4_gather 209 = .ok (.getfield 26, 3) := by decide +kernel
theorem dX4_gather_212 : decode cX4_gather 212 = .ok (.iload_n 2, 1) := by decide +kernel
theorem dX4_gather_213 : decode cX4_gather 213 = .ok (.iaload, 1) := by decide +kernel
theorem dX4_gather_214 : decode cX4_gather 214 = .ok (.baload, 1) := by decide +kernel
theorem dX4_gather_215 : decode cX4_gather 215 = .ok (.ifCond .ne 13, 3) := by decide +kernel
theorem dX4_gather_218 : decode cX4_gather 218 = .ok (.aload_n 0, 1) := by decide +kernel
theorem dX4_gather_219 : decode cX4_gather 219 = .ok (.aload_n 0, 1) := by decide +kernel
theorem dX4_gather_220 : decode cX4_gather 220 = .ok (.getfield 26, 3) := by decide +kernel
theorem dX4_gather_223 : decode cX4_gather 223 = .ok (.iload_n 2, 1) := by decide +kernel
theorem dX4_gather_224 : decode cX4_gather 224 = .ok (.iaload, 1) := by decide +kernel
theorem dX4_gather_225 : decode cX4_gather 225 = .ok (.invokevirtual 99, 3) := by decide +kernel
theorem dX4_gather_228 : decode cX4_gather 228 = .ok (.iinc 2 1, 3) := by decide +kernel
theorem dX4_gather_231 : decode cX4_gather 231 = .ok (.goto (-40), 3) := by decide +kernel
theorem dX4_gather_234 : decode cX4_gather 234 = .ok (.iinc 1 1, 3) := by decide +kernel
theorem dX4_gather_237 : decode cX4_gather 237 = .ok (.goto (-53), 3) := by decide +kernel
theorem dX4_gather_240 : decode cX4_gather 240 = .ok (.iconst 0, 1) := by decide +kernel
theorem dX4_gather_241 : decode cX4_gather 241 = .ok (.istore_n 1, 1) := by decide +kernel
theorem dX4_gather_242 : decode cX4_gather 242 = .ok (.iload_n 1, 1) := by decide +kernel
theorem dX4_gather_243 : decode cX4_gather 243 = .ok (.aload_n 0, 1) := by decide +kernel
theorem dX4_gather_244 : decode cX4_gather 244 = .ok (.getfield 82, 3) := by decide +kernel
theorem dX4_gather_247 : decode cX4_gather 247 = .ok (.if_icmp .ge 50, 3) := by decide +kernel
theorem dX4_gather_250 : decode cX4_gather 250 = .ok (.aload_n 0, 1) := by decide +kernel
theorem dX4_gather_251 : decode cX4_gather 251 = .ok (.getfield 38, 3) := by decide +kernel
theorem dX4_gather_254 : decode cX4_gather 254 = .ok (.iload_n 1, 1) := by decide +kernel
theorem dX4_gather_255 : decode cX4_gather 255 = .ok (.aload_n 0, 1) := by decide +kernel
theorem dX4_gather_256 : decode cX4_gather 256 = .ok (.getfield 35, 3) := by decide +kernel
theorem dX4_gather_259 : decode cX4_gather 259 = .ok (.iload_n 1, 1) := by decide +kernel
theorem dX4_gather_260 : decode cX4_gather 260 = .ok (.iaload, 1) := by decide +kernel
theorem dX4_gather_261 : decode cX4_gather 261 = .ok (.iconst 2, 1) := by decide +kernel
theorem dX4_gather_262 : decode cX4_gather 262 = .ok (.if_icmp .ne 22, 3) := by decide +kernel
theorem dX4_gather_265 : decode cX4_gather 265 = .ok (.aload_n 0, 1) := by decide +kernel
theorem dX4_gather_266 : decode cX4_gather 266 = .ok (.getfield 29, 3) := by decide +kernel
theorem dX4_gather_269 : decode cX4_gather 269 = .ok (.aload_n 0, 1) := by decide +kernel
theorem dX4_gather_270 : decode cX4_gather 270 = .ok (.aload_n 0, 1) := by decide +kernel
theorem dX4_gather_271 : decode cX4_gather 271 = .ok (.getfield 38, 3) := by decide +kernel
theorem dX4_gather_274 : decode cX4_gather 274 = .ok (.iload_n 1, 1) := by decide +kernel
theorem dX4_gather_275 : decode cX4_gather 275 = .ok (.laload, 1) := by decide +kernel
theorem dX4_gather_276 : decode cX4_gather 276 = .ok (.invokevirtual 65, 3) := by decide +kernel
theorem dX4_gather_279 : decode cX4_gather 279 = .ok (.iaload, 1) := by decide +kernel
theorem dX4_gather_280 : decode cX4_gather 280 = .ok (.i2l, 1) := by decide +kernel
theorem dX4_gather_281 : decode cX4_gather 281 = .ok (.goto 9, 3) := by decide +kernel
theorem dX4_gather_284 : decode cX4_gather 284 = .ok (.aload_n 0, 1) := by decide +kernel
theorem dX4_gather_285 : decode cX4_gather 285 = .ok (.getfield 38, 3) := by decide +kernel
theorem dX4_gather_288 : decode cX4_gather 288 = .ok (.iload_n 1, 1) := by decide +kernel
theorem dX4_gather_289 : decode cX4_gather 289 = .ok (.laload, 1) := by decide +kernel
theorem dX4_gather_290 : decode cX4_gather 290 = .ok (.lastore, 1) := by decide +kernel
theorem dX4_gather_291 : decode cX4_gather 291 = .ok (.iinc 1 1, 3) := by decide +kernel
theorem dX4_gather_294 : decode cX4_gather 294 = .ok (.goto (-52), 3) := by decide +kernel
theorem dX4_gather_297 : decode cX4_gather 297 = .ok (.iconst 0, 1) := by decide +kernel
theorem dX4_gather_298 : decode cX4_gather 298 = .ok (.istore_n 1, 1) := by decide +kernel
theorem dX4_gather_299 : decode cX4_gather 299 = .ok (.iload_n 1, 1) := by decide +kernel
theorem dX4_gather_300 : decode cX4_gather 300 = .ok (.bipush 10, 2) := by decide +kernel
theorem dX4_gather_302 : decode cX4_gather 302 = .ok (.if_icmp .ge 50, 3) := by decide +kernel
theorem dX4_gather_305 : decode cX4_gather 305 = .ok (.aload_n 0, 1) := by decide +kernel
theorem dX4_gather_306 : decode cX4_gather 306 = .ok (.getfield 23, 3) := by decide +kernel
theorem dX4_gather_309 : decode cX4_gather 309 = .ok (.iload_n 1, 1) := by decide +kernel
theorem dX4_gather_310 : decode cX4_gather 310 = .ok (.aload_n 0, 1) := by decide +kernel
theorem dX4_gather_311 : decode cX4_gather 311 = .ok (.getfield 20, 3) := by decide +kernel
theorem dX4_gather_314 : decode cX4_gather 314 = .ok (.iload_n 1, 1) := by decide +kernel
theorem dX4_gather_315 : decode cX4_gather 315 = .ok (.iaload, 1) := by decide +kernel
theorem dX4_gather_316 : decode cX4_gather 316 = .ok (.iconst 2, 1) := by decide +kernel
theorem dX4_gather_317 : decode cX4_gather 317 = .ok (.if_icmp .ne 22, 3) := by decide +kernel
theorem dX4_gather_320 : decode cX4_gather 320 = .ok (.aload_n 0, 1) := by decide +kernel
theorem dX4_gather_321 : decode cX4_gather 321 = .ok (.getfield 29, 3) := by decide +kernel
theorem dX4_gather_324 : decode cX4_gather 324 = .ok (.aload_n 0, 1) := by decide +kernel
theorem dX4_gather_325 : decode cX4_gather 325 = .ok (.aload_n 0, 1) := by decide +kernel
theorem dX4_gather_326 : decode cX4_gather 326 = .ok (.getfield 23, 3) := by decide +kernel
theorem dX4_gather_329 : decode cX4_gather 329 = .ok (.iload_n 1, 1) := by decide +kernel
theorem dX4_gather_330 : decode cX4_gather 330 = .ok (.laload, 1) := by decide +kernel
theorem dX4_gather_331 : decode cX4_gather 331 = .ok (.invokevirtual 65, 3) := by decide +kernel
theorem dX4_gather_334 : decode cX4_gather 334 = .ok (.iaload, 1) := by decide +kernel
theorem dX4_gather_335 : decode cX4_gather 335 = .ok (.i2l, 1) := by decide +kernel
theorem dX4_gather_336 : decode cX4_gather 336 = .ok (.goto 9, 3) := by decide +kernel
theorem dX4_gather_339 : decode cX4_gather 339 = .ok (.aload_n 0, 1) := by decide +kernel
theorem dX4_gather_340 : decode cX4_gather 340 = .ok (.getfield 23, 3) := by decide +kernel
theorem dX4_gather_343 : decode cX4_gather 343 = .ok (.iload_n 1, 1) := by decide +kernel
theorem dX4_gather_344 : decode cX4_gather 344 = .ok (.laload, 1) := by decide +kernel
theorem dX4_gather_345 : decode cX4_gather 345 = .ok (.lastore, 1) := by decide +kernel
theorem dX4_gather_346 : decode cX4_gather 346 = .ok (.iinc 1 1, 3) := by decide +kernel
theorem dX4_gather_349 : decode cX4_gather 349 = .ok (.goto (-50), 3) := by decide +kernel
theorem dX4_gather_352 : decode cX4_gather 352 = .ok (.aload_n 0, 1) := by decide +kernel
theorem dX4_gather_353 : decode cX4_gather 353 = .ok (.aload_n 0, 1) := by decide +kernel
theorem dX4_gather_354 : decode cX4_gather 354 = .ok (.getfield 82, 3) := by decide +kernel
theorem dX4_gather_357 : decode cX4_gather 357 = .ok (.putfield 73, 3) := by decide +kernel
theorem dX4_gather_360 : decode cX4_gather 360 = .ok (.iconst 0, 1) := by decide +kernel
theorem dX4_gather_361 : decode cX4_gather 361 = .ok (.istore_n 1, 1) := by decide +kernel
theorem dX4_gather_362 : decode cX4_gather 362 = .ok (.iload_n 1, 1) := by decide +kernel
theorem dX4_gather_363 : decode cX4_gather 363 = .ok (.aload_n 0, 1) := by decide +kernel
theorem dX4_gather_364 : decode cX4_gather 364 = .ok (.getfield 73, 3) := by decide +kernel
theorem dX4_gather_367 : decode cX4_gather 367 = .ok (.if_icmp .ge 45, 3) := by decide +kernel
theorem dX4_gather_370 : decode cX4_gather 370 = .ok (.aload_n 0, 1) := by decide +kernel
theorem dX4_gather_371 : decode cX4_gather 371 = .ok (.getfield 7, 3) := by decide +kernel
theorem dX4_gather_374 : decode cX4_gather 374 = .ok (.iload_n 1, 1) := by decide +kernel
theorem dX4_gather_375 : decode cX4_gather 375 = .ok (.aload_n 0, 1) := by decide +kernel
theorem dX4_gather_376 : decode cX4_gather 376 = .ok (.getfield 32, 3) := by decide +kernel
theorem dX4_gather_379 : decode cX4_gather 379 = .ok (.iload_n 1, 1) := by decide +kernel
theorem dX4_gather_380 : decode cX4_gather 380 = .ok (.iaload, 1) := by decide +kernel
theorem dX4_gather_381 : decode cX4_gather 381 = .ok (.iastore, 1) := by decide +kernel
theorem dX4_gather_382 : decode cX4_gather 382 = .ok (.aload_n 0, 1) := by decide +kernel
theorem dX4_gather_383 : decode cX4_gather 383 = .ok (.getfield 13, 3) := by decide +kernel
theorem dX4_gather_386 : decode cX4_gather 386 = .ok (.iload_n 1, 1) := by decide +kernel
theorem dX4_gather_387 : decode cX4_gather 387 = .ok (.aload_n 0, 1) := by decide +kernel
theorem dX4_gather_388 : decode cX4_gather 388 = .ok (.getfield 35, 3) := by decide +kernel
theorem dX4_gather_391 : decode cX4_gather 391 = .ok (.iload_n 1, 1) := by decide +kernel
theorem dX4_gather_392 : decode cX4_gather 392 = .ok (.iaload, 1) := by decide +kernel
theorem dX4_gather_393 : decode cX4_gather 393 = .ok (.iastore, 1) := by decide +kernel
theorem dX4_gather_394 : decode cX4_gather 394 = .ok (.aload_n 0, 1) := by decide +kernel
theorem dX4_gather_395 : decode cX4_gather 395 = .ok (.getfield 16, 3) := by decide +kernel
theorem dX4_gather_398 : decode cX4_gather 398 = .ok (.iload_n 1, 1) := by decide +kernel
theorem dX4_gather_399 : decode cX4_gather 399 = .ok (.aload_n 0, 1) := by decide +kernel
theorem dX4_gather_400 : decode cX4_gather 400 = .ok (.getfield 38, 3) := by decide +kernel
theorem dX4_gather_403 : decode cX4_gather 403 = .ok (.iload_n 1, 1) := by decide +kernel
theorem dX4_gather_404 : decode cX4_gather 404 = .ok (.laload, 1) := by decide +kernel
theorem dX4_gather_405 : decode cX4_gather 405 = .ok (.lastore, 1) := by decide +kernel
theorem dX4_gather_406 : decode cX4_gather 406 = .ok (.iinc 1 1, 3) := by decide +kernel
theorem dX4_gather_409 : decode cX4_gather 409 = .ok (.goto (-47), 3) := by decide +kernel
theorem dX4_gather_412 : decode cX4_gather 412 = .ok (.return_, 1) := by decide +kernel
theorem dX4_number_0 : decode cX4_number 0 = .ok (.aload_n 0, 1) := by decide +kernel
theorem dX4_number_1 : decode cX4_number 1 = .ok (.iload_n 1, 1) := by decide +kernel
theorem dX4_number_2 : decode cX4_number 2 = .ok (.invokestatic 102, 3) := by decide +kernel
theorem dX4_number_5 : decode cX4_number 5 = .ok (.lload_n 2, 1) := by decide +kernel
theorem dX4_number_6 : decode cX4_number 6 = .ok (.ldc2_w 106, 3) := by decide +kernel
theorem dX4_number_9 : decode cX4_number 9 = .ok (.lcmp, 1) := by decide +kernel
theorem dX4_number_10 : decode cX4_number 10 = .ok (.ifCond .lt 11, 3) := by decide +kernel
theorem dX4_number_13 : decode cX4_number 13 = .ok (.lload_n 2, 1) := by decide +kernel
theorem dX4_number_14 : decode cX4_number 14 = .ok (.ldc2_w 108, 3) := by decide +kernel
theorem dX4_number_17 : decode cX4_number 17 = .ok (.lcmp, 1) := by decide +kernel
theorem dX4_number_18 : decode cX4_number 18 = .ok (.ifCond .le 7, 3) := by decide +kernel
theorem dX4_number_21 : decode cX4_number 21 = .ok (.iconst 1, 1) := by decide +kernel
theorem dX4_number_22 : decode cX4_number 22 = .ok (.goto 4, 3) := by decide +kernel
theorem dX4_number_25 : decode cX4_number 25 = .ok (.iconst 0, 1) := by decide +kernel
theorem dX4_number_26 : decode cX4_number 26 = .ok (.invokevirtual 110, 3) := by decide +kernel
theorem dX4_number_29 : decode cX4_number 29 = .ok (.ifCond .ne 10, 3) := by decide +kernel
theorem dX4_number_32 : decode cX4_number 32 = .ok (.aload_n 0, 1) := by decide +kernel
theorem dX4_number_33 : decode cX4_number 33 = .ok (.iload_n 1, 1) := by decide +kernel
theorem dX4_number_34 : decode cX4_number 34 = .ok (.iconst 1, 1) := by decide +kernel
theorem dX4_number_35 : decode cX4_number 35 = .ok (.lload_n 2, 1) := by decide +kernel
theorem dX4_number_36 : decode cX4_number 36 = .ok (.invokevirtual 114, 3) := by decide +kernel
theorem dX4_number_39 : decode cX4_number 39 = .ok (.return_, 1) := by decide +kernel
theorem dX4_drop_0 : decode cX4_drop 0 = .ok (.aload_n 0, 1) := by decide +kernel
theorem dX4_drop_1 : decode cX4_drop 1 = .ok (.iload_n 1, 1) := by decide +kernel
theorem dX4_drop_2 : decode cX4_drop 2 = .ok (.invokestatic 102, 3) := by decide +kernel
theorem dX4_drop_5 : decode cX4_drop 5 = .ok (.iconst 0, 1) := by decide +kernel
theorem dX4_drop_6 : decode cX4_drop 6 = .ok (.invokevirtual 110, 3) := by decide +kernel
theorem dX4_drop_9 : decode cX4_drop 9 = .ok (.ifCond .ne 10, 3) := by decide +kernel
theorem dX4_drop_12 : decode cX4_drop 12 = .ok (.aload_n 0, 1) := by decide +kernel
theorem dX4_drop_13 : decode cX4_drop 13 = .ok (.iload_n 1, 1) := by decide +kernel
theorem dX4_drop_14 : decode cX4_drop 14 = .ok (.iconst 0, 1) := by decide +kernel
theorem dX4_drop_15 : decode cX4_drop 15 = .ok (.lconst 0, 1) := by decide +kernel
theorem dX4_drop_16 : decode cX4_drop 16 = .ok (.invokevirtual 114, 3) := by decide +kernel
theorem dX4_drop_19 : decode cX4_drop 19 = .ok (.return_, 1) := by decide +kernel
theorem dX4_copy_0 : decode cX4_copy 0 = .ok (.aload_n 0, 1) := by decide +kernel
theorem dX4_copy_1 : decode cX4_copy 1 = .ok (.iload_n 1, 1) := by decide +kernel
theorem dX4_copy_2 : decode cX4_copy 2 = .ok (.invokestatic 102, 3) := by decide +kernel
theorem dX4_copy_5 : decode cX4_copy 5 = .ok (.ifCond .ne 10, 3) := by decide +kernel
theorem dX4_copy_8 : decode cX4_copy 8 = .ok (.iload_n 2, 1) := by decide +kernel
theorem dX4_copy_9 : decode cX4_copy 9 = .ok (.invokestatic 102, 3) := by decide +kernel
theorem dX4_copy_12 : decode cX4_copy 12 = .ok (.ifCond .eq 7, 3) := by decide +kernel
theorem dX4_copy_15 : decode cX4_copy 15 = .ok (.iconst 1, 1) := by decide +kernel
theorem dX4_copy_16 : decode cX4_copy 16 = .ok (.goto 4, 3) := by decide +kernel
theorem dX4_copy_19 : decode cX4_copy 19 = .ok (.iconst 0, 1) := by decide +kernel
theorem dX4_copy_20 : decode cX4_copy 20 = .ok (.iconst 0, 1) := by decide +kernel
theorem dX4_copy_21 : decode cX4_copy 21 = .ok (.invokevirtual 110, 3) := by decide +kernel
theorem dX4_copy_24 : decode cX4_copy 24 = .ok (.ifCond .ne 20, 3) := by decide +kernel
theorem dX4_copy_27 : decode cX4_copy 27 = .ok (.aload_n 0, 1) := by decide +kernel
theorem dX4_copy_28 : decode cX4_copy 28 = .ok (.iload_n 1, 1) := by decide +kernel
theorem dX4_copy_29 : decode cX4_copy 29 = .ok (.aload_n 0, 1) := by decide +kernel
theorem dX4_copy_30 : decode cX4_copy 30 = .ok (.getfield 20, 3) := by decide +kernel
theorem dX4_copy_33 : decode cX4_copy 33 = .ok (.iload_n 2, 1) := by decide +kernel
theorem dX4_copy_34 : decode cX4_copy 34 = .ok (.iaload, 1) := by decide +kernel
theorem dX4_copy_35 : decode cX4_copy 35 = .ok (.aload_n 0, 1) := by decide +kernel
theorem dX4_copy_36 : decode cX4_copy 36 = .ok (.getfield 23, 3) := by decide +kernel
theorem dX4_copy_39 : decode cX4_copy 39 = .ok (.iload_n 2, 1) := by decide +kernel
theorem dX4_copy_40 : decode cX4_copy 40 = .ok (.laload, 1) := by decide +kernel
theorem dX4_copy_41 : decode cX4_copy 41 = .ok (.invokevirtual 114, 3) := by decide +kernel
theorem dX4_copy_44 : decode cX4_copy 44 = .ok (.return_, 1) := by decide +kernel
theorem dX4_cons_0 : decode cX4_cons 0 = .ok (.iload_n 1, 1) := by decide +kernel
theorem dX4_cons_1 : decode cX4_cons 1 = .ok (.invokestatic 102, 3) := by decide +kernel
theorem dX4_cons_4 : decode cX4_cons 4 = .ok (.ifCond .ne 17, 3) := by decide +kernel
theorem dX4_cons_7 : decode cX4_cons 7 = .ok (.iload_n 2, 1) := by decide +kernel
theorem dX4_cons_8 : decode cX4_cons 8 = .ok (.invokestatic 102, 3) := by decide +kernel
theorem dX4_cons_11 : decode cX4_cons 11 = .ok (.ifCond .ne 10, 3) := by decide +kernel
theorem dX4_cons_14 : decode cX4_cons 14 = .ok (.iload_n 3, 1) := by decide +kernel
theorem dX4_cons_15 : decode cX4_cons 15 = .ok (.invokestatic 102, 3) := by decide +kernel
theorem dX4_cons_18 : decode cX4_cons 18 = .ok (.ifCond .eq 7, 3) := by decide +kernel
theorem dX4_cons_21 : decode cX4_cons 21 = .ok (.iconst 1, 1) := by decide +kernel
theorem dX4_cons_22 : decode cX4_cons 22 = .ok (.goto 4, 3) := by decide +kernel
theorem dX4_cons_25 : decode cX4_cons 25 = .ok (.iconst 0, 1) := by decide +kernel
theorem dX4_cons_26 : decode cX4_cons 26 = .ok (.istore 4, 2) := by decide +kernel
theorem dX4_cons_28 : decode cX4_cons 28 = .ok (.aload_n 0, 1) := by decide +kernel
theorem dX4_cons_29 : decode cX4_cons 29 = .ok (.iload 4, 2) := by decide +kernel
theorem dX4_cons_31 : decode cX4_cons 31 = .ok (.iload 4, 2) := by decide +kernel
theorem dX4_cons_33 : decode cX4_cons 33 = .ok (.ifCond .ne 15, 3) := by decide +kernel
theorem dX4_cons_36 : decode cX4_cons 36 = .ok (.aload_n 0, 1) := by decide +kernel
theorem dX4_cons_37 : decode cX4_cons 37 = .ok (.iconst 2, 1) := by decide +kernel
theorem dX4_cons_38 : decode cX4_cons 38 = .ok (.invokevirtual 117, 3) := by decide +kernel
theorem dX4_cons_41 : decode cX4_cons 41 = .ok (.ifCond .ne 7, 3) := by decide +kernel
theorem dX4_cons_44 : decode cX4_cons 44 = .ok (.iconst 1, 1) := by decide +kernel
theorem dX4_cons_45 : decode cX4_cons 45 = .ok (.goto 4, 3) := by decide +kernel
theorem dX4_cons_48 : decode cX4_cons 48 = .ok (.iconst 0, 1) := by decide +kernel
theorem dX4_cons_49 : decode cX4_cons 49 = .ok (.invokevirtual 110, 3) := by decide +kernel
theorem dX4_cons_52 : decode cX4_cons 52 = .ok (.ifCond .eq 4, 3) := by decide +kernel
theorem dX4_cons_55 : decode cX4_cons 55 = .ok (.return_, 1) := by decide +kernel
theorem dX4_cons_56 : decode cX4_cons 56 = .ok (.aload_n 0, 1) := by decide +kernel
theorem dX4_cons_57 : decode cX4_cons 57 = .ok (.iconst 2, 1) := by decide +kernel
theorem dX4_cons_58 : decode cX4_cons 58 = .ok (.aload_n 0, 1) := by decide +kernel
theorem dX4_cons_59 : decode cX4_cons 59 = .ok (.getfield 20, 3) := by decide +kernel
theorem dX4_cons_62 : decode cX4_cons 62 = .ok (.iload_n 2, 1) := by decide +kernel
theorem dX4_cons_63 : decode cX4_cons 63 = .ok (.iaload, 1) := by decide +kernel
theorem dX4_cons_64 : decode cX4_cons 64 = .ok (.aload_n 0, 1) := by decide +kernel
theorem dX4_cons_65 : decode cX4_cons 65 = .ok (.getfield 23, 3) := by decide +kernel
theorem dX4_cons_68 : decode cX4_cons 68 = .ok (.iload_n 2, 1) := by decide +kernel
theorem dX4_cons_69 : decode cX4_cons 69 = .ok (.laload, 1) := by decide +kernel
theorem dX4_cons_70 : decode cX4_cons 70 = .ok (.invokevirtual 120, 3) := by decide +kernel
theorem dX4_cons_73 : decode cX4_cons 73 = .ok (.istore 5, 2) := by decide +kernel
theorem dX4_cons_75 : decode cX4_cons 75 = .ok (.aload_n 0, 1) := by decide +kernel
theorem dX4_cons_76 : decode cX4_cons 76 = .ok (.iconst 3, 1) := by decide +kernel
theorem dX4_cons_77 : decode cX4_cons 77 = .ok (.aload_n 0, 1) := by decide +kernel
theorem dX4_cons_78 : decode cX4_cons 78 = .ok (.getfield 20, 3) := by decide +kernel
theorem dX4_cons_81 : decode cX4_cons 81 = .ok (.iload_n 3, 1) := by decide +kernel
theorem dX4_cons_82 : decode cX4_cons 82 = .ok (.iaload, 1) := by decide +kernel
theorem dX4_cons_83 : decode cX4_cons 83 = .ok (.aload_n 0, 1) := by decide +kernel
theorem dX4_cons_84 : decode cX4_cons 84 = .ok (.getfield 23, 3) := by decide +kernel
theorem dX4_cons_87 : decode cX4_cons 87 = .ok (.iload_n 3, 1) := by decide +kernel
theorem dX4_cons_88 : decode cX4_cons 88 = .ok (.laload, 1) := by decide +kernel
theorem dX4_cons_89 : decode cX4_cons 89 = .ok (.invokevirtual 120, 3) := by decide +kernel
theorem dX4_cons_92 : decode cX4_cons 92 = .ok (.istore 6, 2) := by decide +kernel
theorem dX4_cons_94 : decode cX4_cons 94 = .ok (.aload_n 0, 1) := by decide +kernel
theorem dX4_cons_95 : decode cX4_cons 95 = .ok (.iload_n 1, 1) := by decide +kernel
theorem dX4_cons_96 : decode cX4_cons 96 = .ok (.iconst 2, 1) := by decide +kernel
theorem dX4_cons_97 : decode cX4_cons 97 = .ok (.iload 5, 2) := by decide +kernel
theorem dX4_cons_99 : decode cX4_cons 99 = .ok (.i2l, 1) := by decide +kernel
theorem dX4_cons_100 : decode cX4_cons 100 = .ok (.invokevirtual 114, 3) := by decide +kernel
theorem dX4_cons_103 : decode cX4_cons 103 = .ok (.return_, 1) := by decide +kernel
theorem dX4_list_0 : decode cX4_list 0 = .ok (.aload_n 0, 1) := by decide +kernel
theorem dX4_list_1 : decode cX4_list 1 = .ok (.iload_n 1, 1) := by decide +kernel
theorem dX4_list_2 : decode cX4_list 2 = .ok (.invokestatic 102, 3) := by decide +kernel
theorem dX4_list_5 : decode cX4_list 5 = .ok (.ifCond .ne 10, 3) := by decide +kernel
theorem dX4_list_8 : decode cX4_list 8 = .ok (.iload_n 2, 1) := by decide +kernel
theorem dX4_list_9 : decode cX4_list 9 = .ok (.invokestatic 102, 3) := by decide +kernel
theorem dX4_list_12 : decode cX4_list 12 = .ok (.ifCond .eq 7, 3) := by decide +kernel
theorem dX4_list_15 : decode cX4_list 15 = .ok (.iconst 1, 1) := by decide +kernel
theorem dX4_list_16 : decode cX4_list 16 = .ok (.goto 4, 3) := by decide +kernel
theorem dX4_list_19 : decode cX4_list 19 = .ok (.iconst 0, 1) := by decide +kernel
theorem dX4_list_20 : decode cX4_list 20 = .ok (.iload_n 3, 1) := by decide +kernel
theorem dX4_list_21 : decode cX4_list 21 = .ok (.iconst 1, 1) := by decide +kernel
theorem dX4_list_22 : decode cX4_list 22 = .ok (.if_icmp .lt 17, 3) := by decide +kernel
theorem dX4_list_25 : decode cX4_list 25 = .ok (.iload_n 3, 1) := by decide +kernel
theorem dX4_list_26 : decode cX4_list 26 = .ok (.bipush 10, 2) := by decide +kernel
theorem dX4_list_28 : decode cX4_list 28 = .ok (.if_icmp .gt 11, 3) := by decide +kernel
theorem dX4_list_31 : decode cX4_list 31 = .ok (.iload_n 2, 1) := by decide +kernel
theorem dX4_list_32 : decode cX4_list 32 = .ok (.bipush 10, 2) := by decide +kernel
theorem dX4_list_34 : decode cX4_list 34 = .ok (.iload_n 3, 1) := by decide +kernel
theorem dX4_list_35 : decode cX4_list 35 = .ok (.isub, 1) := by decide +kernel
theorem dX4_list_36 : decode cX4_list 36 = .ok (.if_icmp .le 7, 3) := by decide +kernel
theorem dX4_list_39 : decode cX4_list 39 = .ok (.iconst 1, 1) := by decide +kernel
theorem dX4_list_40 : decode cX4_list 40 = .ok (.goto 4, 3) := by decide +kernel
theorem dX4_list_43 : decode cX4_list 43 = .ok (.iconst 0, 1) := by decide +kernel
theorem dX4_list_44 : decode cX4_list 44 = .ok (.invokevirtual 110, 3) := by decide +kernel
theorem dX4_list_47 : decode cX4_list 47 = .ok (.ifCond .eq 4, 3) := by decide +kernel
theorem dX4_list_50 : decode cX4_list 50 = .ok (.return_, 1) := by decide +kernel
theorem dX4_list_51 : decode cX4_list 51 = .ok (.aload_n 0, 1) := by decide +kernel
theorem dX4_list_52 : decode cX4_list 52 = .ok (.iload_n 3, 1) := by decide +kernel
theorem dX4_list_53 : decode cX4_list 53 = .ok (.invokevirtual 117, 3) := by decide +kernel
theorem dX4_list_56 : decode cX4_list 56 = .ok (.ifCond .ne 9, 3) := by decide +kernel
theorem dX4_list_59 : decode cX4_list 59 = .ok (.aload_n 0, 1) := by decide +kernel
theorem dX4_list_60 : decode cX4_list 60 = .ok (.iconst 3, 1) := by decide +kernel
theorem dX4_list_61 : decode cX4_list 61 = .ok (.putfield 54, 3) := by decide +kernel
theorem dX4_list_64 : decode cX4_list 64 = .ok (.return_, 1) := by decide +kernel
theorem dX4_list_65 : decode cX4_list 65 = .ok (.aload_n 0, 1) := by decide +kernel
theorem dX4_list_66 : decode cX4_list 66 = .ok (.getfield 73, 3) := by decide +kernel
theorem dX4_list_69 : decode cX4_list 69 = .ok (.istore 4, 2) := by decide +kernel
theorem dX4_list_71 : decode cX4_list 71 = .ok (.iconst 0, 1) := by decide +kernel
theorem dX4_list_72 : decode cX4_list 72 = .ok (.istore 5, 2) := by decide +kernel
theorem dX4_list_74 : decode cX4_list 74 = .ok (.iload 5, 2) := by decide +kernel
theorem dX4_list_76 : decode cX4_list 76 = .ok (.iload_n 3, 1) := by decide +kernel
theorem dX4_list_77 : decode cX4_list 77 = .ok (.if_icmp .ge 46, 3) := by decide +kernel
theorem dX4_list_80 : decode cX4_list 80 = .ok (.aload_n 0, 1) := by decide +kernel
theorem dX4_list_81 : decode cX4_list 81 = .ok (.iload 5, 2) := by decide +kernel
theorem dX4_list_83 : decode cX4_list 83 = .ok (.iload_n 3, 1) := by decide +kernel
theorem dX4_list_84 : decode cX4_list 84 = .ok (.iconst 1, 1) := by decide +kernel
theorem dX4_list_85 : decode cX4_list 85 = .ok (.isub, 1) := by decide +kernel
theorem dX4_list_86 : decode cX4_list 86 = .ok (.if_icmp .ge 7, 3) := by decide +kernel
theorem dX4_list_89 : decode cX4_list 89 = .ok (.iconst 0, 1) := by decide +kernel
theorem dX4_list_90 : decode cX4_list 90 = .ok (.goto 4, 3) := by decide +kernel
theorem dX4_list_93 : decode cX4_list 93 = .ok (.iconst 1, 1) := by decide +kernel
theorem dX4_list_94 : decode cX4_list 94 = .ok (.aload_n 0, 1) := by decide +kernel
theorem dX4_list_95 : decode cX4_list 95 = .ok (.getfield 20, 3) := by decide +kernel
theorem dX4_list_98 : decode cX4_list 98 = .ok (.iload_n 2, 1) := by decide +kernel
theorem dX4_list_99 : decode cX4_list 99 = .ok (.iload 5, 2) := by decide +kernel
theorem dX4_list_101 : decode cX4_list 101 = .ok (.iadd, 1) := by decide +kernel
theorem dX4_list_102 : decode cX4_list 102 = .ok (.iaload, 1) := by decide +kernel
theorem dX4_list_103 : decode cX4_list 103 = .ok (.aload_n 0, 1) := by decide +kernel
theorem dX4_list_104 : decode cX4_list 104 = .ok (.getfield 23, 3) := by decide +kernel
theorem dX4_list_107 : decode cX4_list 107 = .ok (.iload_n 2, 1) := by decide +kernel
theorem dX4_list_108 : decode cX4_list 108 = .ok (.iload 5, 2) := by decide +kernel
theorem dX4_list_110 : decode cX4_list 110 = .ok (.iadd, 1) := by decide +kernel
theorem dX4_list_111 : decode cX4_list 111 = .ok (.laload, 1) := by decide +kernel
theorem dX4_list_112 : decode cX4_list 112 = .ok (.invokevirtual 120, 3) := by decide +kernel
theorem dX4_list_115 : decode cX4_list 115 = .ok (.istore 6, 2) := by decide +kernel
theorem dX4_list_117 : decode cX4_list 117 = .ok (.iinc 5 1, 3) := by decide +kernel
theorem dX4_list_120 : decode cX4_list 120 = .ok (.goto (-46), 3) := by decide +kernel
theorem dX4_list_123 : decode cX4_list 123 = .ok (.aload_n 0, 1) := by decide +kernel
theorem dX4_list_124 : decode cX4_list 124 = .ok (.iload_n 1, 1) := by decide +kernel
theorem dX4_list_125 : decode cX4_list 125 = .ok (.iconst 2, 1) := by decide +kernel
theorem dX4_list_126 : decode cX4_list 126 = .ok (.iload 4, 2) := by decide +kernel
theorem dX4_list_128 : decode cX4_list 128 = .ok (.i2l, 1) := by decide +kernel
theorem dX4_list_129 : decode cX4_list 129 = .ok (.invokevirtual 114, 3) := by decide +kernel
theorem dX4_list_132 : decode cX4_list 132 = .ok (.return_, 1) := by decide +kernel
theorem dX4_first_0 : decode cX4_first 0 = .ok (.iload_n 1, 1) := by decide +kernel
theorem dX4_first_1 : decode cX4_first 1 = .ok (.invokestatic 102, 3) := by decide +kernel
theorem dX4_first_4 : decode cX4_first 4 = .ok (.ifCond .ne 10, 3) := by decide +kernel
theorem dX4_first_7 : decode cX4_first 7 = .ok (.iload_n 2, 1) := by decide +kernel
theorem dX4_first_8 : decode cX4_first 8 = .ok (.invokestatic 102, 3) := by decide +kernel
theorem dX4_first_11 : decode cX4_first 11 = .ok (.ifCond .eq 7, 3) := by decide +kernel
theorem dX4_first_14 : decode cX4_first 14 = .ok (.iconst 1, 1) := by decide +kernel
theorem dX4_first_15 : decode cX4_first 15 = .ok (.goto 4, 3) := by decide +kernel
theorem dX4_first_18 : decode cX4_first 18 = .ok (.iconst 0, 1) := by decide +kernel
theorem dX4_first_19 : decode cX4_first 19 = .ok (.istore_n 3, 1) := by decide +kernel
theorem dX4_first_20 : decode cX4_first 20 = .ok (.aload_n 0, 1) := by decide +kernel
theorem dX4_first_21 : decode cX4_first 21 = .ok (.iload_n 3, 1) := by decide +kernel
theorem dX4_first_22 : decode cX4_first 22 = .ok (.iload_n 3, 1) := by decide +kernel
theorem dX4_first_23 : decode cX4_first 23 = .ok (.ifCond .ne 17, 3) := by decide +kernel
theorem dX4_first_26 : decode cX4_first 26 = .ok (.aload_n 0, 1) := by decide +kernel
theorem dX4_first_27 : decode cX4_first 27 = .ok (.getfield 20, 3) := by decide +kernel
theorem dX4_first_30 : decode cX4_first 30 = .ok (.iload_n 2, 1) := by decide +kernel
theorem dX4_first_31 : decode cX4_first 31 = .ok (.iaload, 1) := by decide +kernel
theorem dX4_first_32 : decode cX4_first 32 = .ok (.iconst 2, 1) := by decide +kernel
theorem dX4_first_33 : decode cX4_first 33 = .ok (.if_icmp .eq 7, 3) := by decide +kernel
theorem dX4_first_36 : decode cX4_first 36 = .ok (.iconst 1, 1) := by decide +kernel
theorem dX4_first_37 : decode cX4_first 37 = .ok (.goto 4, 3) := by decide +kernel
theorem dX4_first_40 : decode cX4_first 40 = .ok (.iconst 0, 1) := by decide +kernel
theorem dX4_first_41 : decode cX4_first 41 = .ok (.invokevirtual 110, 3) := by decide +kernel
theorem dX4_first_44 : decode cX4_first 44 = .ok (.ifCond .eq 4, 3) := by decide +kernel
theorem dX4_first_47 : decode cX4_first 47 = .ok (.return_, 1) := by decide +kernel
theorem dX4_first_48 : decode cX4_first 48 = .ok (.aload_n 0, 1) := by decide +kernel
theorem dX4_first_49 : decode cX4_first 49 = .ok (.iload_n 2, 1) := by decide +kernel
theorem dX4_first_50 : decode cX4_first 50 = .ok (.invokevirtual 124, 3) := by decide +kernel
theorem dX4_first_53 : decode cX4_first 53 = .ok (.istore 4, 2) := by decide +kernel
theorem dX4_first_55 : decode cX4_first 55 = .ok (.aload_n 0, 1) := by decide +kernel
theorem dX4_first_56 : decode cX4_first 56 = .ok (.iload_n 1, 1) := by decide +kernel
theorem dX4_first_57 : decode cX4_first 57 = .ok (.aload_n 0, 1) := by decide +kernel
theorem dX4_first_58 : decode cX4_first 58 = .ok (.getfield 13, 3) := by decide +kernel
theorem dX4_first_61 : decode cX4_first 61 = .ok (.iload 4, 2) := by decide +kernel
theorem dX4_first_63 : decode cX4_first 63 = .ok (.iaload, 1) := by decide +kernel
theorem dX4_first_64 : decode cX4_first 64 = .ok (.aload_n 0, 1) := by decide +kernel
theorem dX4_first_65 : decode cX4_first 65 = .ok (.getfield 16, 3) := by decide +kernel
theorem dX4_first_68 : decode cX4_first 68 = .ok (.iload 4, 2) := by decide +kernel
theorem dX4_first_70 : decode cX4_first 70 = .ok (.laload, 1) := by decide +kernel
theorem dX4_first_71 : decode cX4_first 71 = .ok (.invokevirtual 114, 3) := by decide +kernel
theorem dX4_first_74 : decode cX4_first 74 = .ok (.return_, 1) := by decide +kernel
theorem dX4_rest_0 : decode cX4_rest 0 = .ok (.iload_n 1, 1) := by decide +kernel
theorem dX4_rest_1 : decode cX4_rest 1 = .ok (.invokestatic 102, 3) := by decide +kernel
theorem dX4_rest_4 : decode cX4_rest 4 = .ok (.ifCond .ne 10, 3) := by decide +kernel
theorem dX4_rest_7 : decode cX4_rest 7 = .ok (.iload_n 2, 1) := by decide +kernel
theorem dX4_rest_8 : decode cX4_rest 8 = .ok (.invokestatic 102, 3) := by decide +kernel
theorem dX4_rest_11 : decode cX4_rest 11 = .ok (.ifCond .eq 7, 3) := by decide +kernel
theorem dX4_rest_14 : decode cX4_rest 14 = .ok (.iconst 1, 1) := by decide +kernel
theorem dX4_rest_15 : decode cX4_rest 15 = .ok (.goto 4, 3) := by decide +kernel
theorem dX4_rest_18 : decode cX4_rest 18 = .ok (.iconst 0, 1) := by decide +kernel
theorem dX4_rest_19 : decode cX4_rest 19 = .ok (.istore_n 3, 1) := by decide +kernel
theorem dX4_rest_20 : decode cX4_rest 20 = .ok (.aload_n 0, 1) := by decide +kernel
theorem dX4_rest_21 : decode cX4_rest 21 = .ok (.iload_n 3, 1) := by decide +kernel
theorem dX4_rest_22 : decode cX4_rest 22 = .ok (.iload_n 3, 1) := by decide +kernel
theorem dX4_rest_23 : decode cX4_rest 23 = .ok (.ifCond .ne 17, 3) := by decide +kernel
theorem dX4_rest_26 : decode cX4_rest 26 = .ok (.aload_n 0, 1) := by decide +kernel
theorem dX4_rest_27 : decode cX4_rest 27 = .ok (.getfield 20, 3) := by decide +kernel
theorem dX4_rest_30 : decode cX4_rest 30 = .ok (.iload_n 2, 1) := by decide +kernel
theorem dX4_rest_31 : decode cX4_rest 31 = .ok (.iaload, 1) := by decide +kernel
theorem dX4_rest_32 : decode cX4_rest 32 = .ok (.iconst 2, 1) := by decide +kernel
theorem dX4_rest_33 : decode cX4_rest 33 = .ok (.if_icmp .eq 7, 3) := by decide +kernel
theorem dX4_rest_36 : decode cX4_rest 36 = .ok (.iconst 1, 1) := by decide +kernel
theorem dX4_rest_37 : decode cX4_rest 37 = .ok (.goto 4, 3) := by decide +kernel
theorem dX4_rest_40 : decode cX4_rest 40 = .ok (.iconst 0, 1) := by decide +kernel
theorem dX4_rest_41 : decode cX4_rest 41 = .ok (.invokevirtual 110, 3) := by decide +kernel
theorem dX4_rest_44 : decode cX4_rest 44 = .ok (.ifCond .eq 4, 3) := by decide +kernel
theorem dX4_rest_47 : decode cX4_rest 47 = .ok (.return_, 1) := by decide +kernel
theorem dX4_rest_48 : decode cX4_rest 48 = .ok (.aload_n 0, 1) := by decide +kernel
theorem dX4_rest_49 : decode cX4_rest 49 = .ok (.aload_n 0, 1) := by decide +kernel
theorem dX4_rest_50 : decode cX4_rest 50 = .ok (.iload_n 2, 1) := by decide +kernel
theorem dX4_rest_51 : decode cX4_rest 51 = .ok (.invokevirtual 124, 3) := by decide +kernel
theorem dX4_rest_54 : decode cX4_rest 54 = .ok (.invokevirtual 85, 3) := by decide +kernel
theorem dX4_rest_57 : decode cX4_rest 57 = .ok (.aload_n 0, 1) := by decide +kernel
theorem dX4_rest_58 : decode cX4_rest 58 = .ok (.iload_n 1, 1) := by decide +kernel
theorem dX4_rest_59 : decode cX4_rest 59 = .ok (.aload_n 0, 1) := by decide +kernel
theorem dX4_rest_60 : decode cX4_rest 60 = .ok (.getfield 58, 3) := by decide +kernel
theorem dX4_rest_63 : decode cX4_rest 63 = .ok (.aload_n 0, 1) := by decide +kernel
theorem dX4_rest_64 : decode cX4_rest 64 = .ok (.getfield 61, 3) := by decide +kernel
theorem dX4_rest_67 : decode cX4_rest 67 = .ok (.invokevirtual 114, 3) := by decide +kernel
theorem dX4_rest_70 : decode cX4_rest 70 = .ok (.return_, 1) := by decide +kernel
theorem dX4_setFirst_0 : decode cX4_setFirst 0 = .ok (.iload_n 1, 1) := by decide +kernel
theorem dX4_setFirst_1 : decode cX4_setFirst 1 = .ok (.invokestatic 102, 3) := by decide +kernel
theorem dX4_setFirst_4 : decode cX4_setFirst 4 = .ok (.ifCond .ne 10, 3) := by decide +kernel
theorem dX4_setFirst_7 : decode cX4_setFirst 7 = .ok (.iload_n 2, 1) := by decide +kernel
theorem dX4_setFirst_8 : decode cX4_setFirst 8 = .ok (.invokestatic 102, 3) := by decide +kernel
theorem dX4_setFirst_11 : decode cX4_setFirst 11 = .ok (.ifCond .eq 7, 3) := by decide +kernel
theorem dX4_setFirst_14 : decode cX4_setFirst 14 = .ok (.iconst 1, 1) := by decide +kernel
theorem dX4_setFirst_15 : decode cX4_setFirst 15 = .ok (.goto 4, 3) := by decide +kernel
theorem dX4_setFirst_18 : decode cX4_setFirst 18 = .ok (.iconst 0, 1) := by decide +kernel
theorem dX4_setFirst_19 : decode cX4_setFirst 19 = .ok (.istore_n 3, 1) := by decide +kernel
theorem dX4_setFirst_20 : decode cX4_setFirst 20 = .ok (.aload_n 0, 1) := by decide +kernel
theorem dX4_setFirst_21 : decode cX4_setFirst 21 = .ok (.iload_n 3, 1) := by decide +kernel
theorem dX4_setFirst_22 : decode cX4_setFirst 22 = .ok (.iload_n 3, 1) := by decide +kernel
theorem dX4_setFirst_23 : decode cX4_setFirst 23 = .ok (.ifCond .ne 17, 3) := by decide +kernel
theorem dX4_setFirst_26 : decode cX4_setFirst 26 = .ok (.aload_n 0, 1) := by decide +kernel
theorem dX4_setFirst_27 : decode cX4_setFirst 27 = .ok (.getfield 20, 3) := by decide +kernel
theorem dX4_setFirst_30 : decode cX4_setFirst 30 = .ok (.iload_n 1, 1) := by decide +kernel
theorem dX4_setFirst_31 : decode cX4_setFirst 31 = .ok (.iaload, 1) := by decide +kernel
theorem dX4_setFirst_32 : decode cX4_setFirst 32 = .ok (.iconst 2, 1) := by decide +kernel
theorem dX4_setFirst_33 : decode cX4_setFirst 33 = .ok (.if_icmp .eq 7, 3) := by decide +kernel
theorem dX4_setFirst_36 : decode cX4_setFirst 36 = .ok (.iconst 1, 1) := by decide +kernel
theorem dX4_setFirst_37 : decode cX4_setFirst 37 = .ok (.goto 4, 3) := by decide +kernel
theorem dX4_setFirst_40 : decode cX4_setFirst 40 = .ok (.iconst 0, 1) := by decide +kernel
theorem dX4_setFirst_41 : decode cX4_setFirst 41 = .ok (.invokevirtual 110, 3) := by decide +kernel
theorem dX4_setFirst_44 : decode cX4_setFirst 44 = .ok (.ifCond .eq 4, 3) := by decide +kernel
theorem dX4_setFirst_47 : decode cX4_setFirst 47 = .ok (.return_, 1) := by decide +kernel
theorem dX4_setFirst_48 : decode cX4_setFirst 48 = .ok (.aload_n 0, 1) := by decide +kernel
theorem dX4_setFirst_49 : decode cX4_setFirst 49 = .ok (.iload_n 1, 1) := by decide +kernel
theorem dX4_setFirst_50 : decode cX4_setFirst 50 = .ok (.invokevirtual 124, 3) := by decide +kernel
theorem dX4_setFirst_53 : decode cX4_setFirst 53 = .ok (.istore 4, 2) := by decide +kernel
theorem dX4_setFirst_55 : decode cX4_setFirst 55 = .ok (.aload_n 0, 1) := by decide +kernel
theorem dX4_setFirst_56 : decode cX4_setFirst 56 = .ok (.getfield 13, 3) := by decide +kernel
theorem dX4_setFirst_59 : decode cX4_setFirst 59 = .ok (.iload 4, 2) := by decide +kernel
theorem dX4_setFirst_61 : decode cX4_setFirst 61 = .ok (.aload_n 0, 1) := by decide +kernel
theorem dX4_setFirst_62 : decode cX4_setFirst 62 = .ok (.getfield 20, 3) := by decide +kernel
theorem dX4_setFirst_65 : decode cX4_setFirst 65 = .ok (.iload_n 2, 1) := by decide +kernel
theorem dX4_setFirst_66 : decode cX4_setFirst 66 = .ok (.iaload, 1) := by decide +kernel
theorem dX4_setFirst_67 : decode cX4_setFirst 67 = .ok (.iastore, 1) := by decide +kernel
theorem dX4_setFirst_68 : decode cX4_setFirst 68 = .ok (.aload_n 0, 1) := by decide +kernel
theorem dX4_setFirst_69 : decode cX4_setFirst 69 = .ok (.getfield 16, 3) := by decide +kernel
theorem dX4_setFirst_72 : decode cX4_setFirst 72 = .ok (.iload 4, 2) := by decide +kernel
theorem dX4_setFirst_74 : decode cX4_setFirst 74 = .ok (.aload_n 0, 1) := by decide +kernel
theorem dX4_setFirst_75 : decode cX4_setFirst 75 = .ok (.getfield 23, 3) := by decide +kernel
theorem dX4_setFirst_78 : decode cX4_setFirst 78 = .ok (.iload_n 2, 1) := by decide +kernel
theorem dX4_setFirst_79 : decode cX4_setFirst 79 = .ok (.laload, 1) := by decide +kernel
theorem dX4_setFirst_80 : decode cX4_setFirst 80 = .ok (.lastore, 1) := by decide +kernel
theorem dX4_setFirst_81 : decode cX4_setFirst 81 = .ok (.return_, 1) := by decide +kernel
theorem dX4_setRest_0 : decode cX4_setRest 0 = .ok (.iload_n 1, 1) := by decide +kernel
theorem dX4_setRest_1 : decode cX4_setRest 1 = .ok (.invokestatic 102, 3) := by decide +kernel
theorem dX4_setRest_4 : decode cX4_setRest 4 = .ok (.ifCond .ne 10, 3) := by decide +kernel
theorem dX4_setRest_7 : decode cX4_setRest 7 = .ok (.iload_n 2, 1) := by decide +kernel
theorem dX4_setRest_8 : decode cX4_setRest 8 = .ok (.invokestatic 102, 3) := by decide +kernel
theorem dX4_setRest_11 : decode cX4_setRest 11 = .ok (.ifCond .eq 7, 3) := by decide +kernel
theorem dX4_setRest_14 : decode cX4_setRest 14 = .ok (.iconst 1, 1) := by decide +kernel
theorem dX4_setRest_15 : decode cX4_setRest 15 = .ok (.goto 4, 3) := by decide +kernel
theorem dX4_setRest_18 : decode cX4_setRest 18 = .ok (.iconst 0, 1) := by decide +kernel
theorem dX4_setRest_19 : decode cX4_setRest 19 = .ok (.istore_n 3, 1) := by decide +kernel
theorem dX4_setRest_20 : decode cX4_setRest 20 = .ok (.aload_n 0, 1) := by decide +kernel
theorem dX4_setRest_21 : decode cX4_setRest 21 = .ok (.iload_n 3, 1) := by decide +kernel
theorem dX4_setRest_22 : decode cX4_setRest 22 = .ok (.iload_n 3, 1) := by decide +kernel
theorem dX4_setRest_23 : decode cX4_setRest 23 = .ok (.ifCond .ne 17, 3) := by decide +kernel
theorem dX4_setRest_26 : decode cX4_setRest 26 = .ok (.aload_n 0, 1) := by decide +kernel
theorem dX4_setRest_27 : decode cX4_setRest 27 = .ok (.getfield 20, 3) := by decide +kernel
theorem dX4_setRest_30 : decode cX4_setRest 30 = .ok (.iload_n 1, 1) := by decide +kernel
theorem dX4_setRest_31 : decode cX4_setRest 31 = .ok (.iaload, 1) := by decide +kernel
theorem dX4_setRest_32 : decode cX4_setRest 32 = .ok (.iconst 2, 1) := by decide +kernel
theorem dX4_setRest_33 : decode cX4_setRest 33 = .ok (.if_icmp .eq 7, 3) := by decide +kernel
theorem dX4_setRest_36 : decode cX4_setRest 36 = .ok (.iconst 1, 1) := by decide +kernel
theorem dX4_setRest_37 : decode cX4_setRest 37 = .ok (.goto 4, 3) := by decide +kernel
theorem dX4_setRest_40 : decode cX4_setRest 40 = .ok (.iconst 0, 1) := by decide +kernel
theorem dX4_setRest_41 : decode cX4_setRest 41 = .ok (.invokevirtual 110, 3) := by decide +kernel
theorem dX4_setRest_44 : decode cX4_setRest 44 = .ok (.ifCond .eq 4, 3) := by decide +kernel
theorem dX4_setRest_47 : decode cX4_setRest 47 = .ok (.return_, 1) := by decide +kernel
theorem dX4_setRest_48 : decode cX4_setRest 48 = .ok (.aload_n 0, 1) := by decide +kernel
theorem dX4_setRest_49 : decode cX4_setRest 49 = .ok (.aload_n 0, 1) := by decide +kernel
theorem dX4_setRest_50 : decode cX4_setRest 50 = .ok (.iload_n 1, 1) := by decide +kernel
theorem dX4_setRest_51 : decode cX4_setRest 51 = .ok (.invokevirtual 124, 3) := by decide +kernel
theorem dX4_setRest_54 : decode cX4_setRest 54 = .ok (.invokevirtual 85, 3) := by decide +kernel
theorem dX4_setRest_57 : decode cX4_setRest 57 = .ok (.aload_n 0, 1) := by decide +kernel
theorem dX4_setRest_58 : decode cX4_setRest 58 = .ok (.aload_n 0, 1) := by decide +kernel
theorem dX4_setRest_59 : decode cX4_setRest 59 = .ok (.getfield 58, 3) := by decide +kernel
theorem dX4_setRest_62 : decode cX4_setRest 62 = .ok (.aload_n 0, 1) := by decide +kernel
theorem dX4_setRest_63 : decode cX4_setRest 63 = .ok (.getfield 61, 3) := by decide +kernel
theorem dX4_setRest_66 : decode cX4_setRest 66 = .ok (.aload_n 0, 1) := by decide +kernel
theorem dX4_setRest_67 : decode cX4_setRest 67 = .ok (.getfield 20, 3) := by decide +kernel
theorem dX4_setRest_70 : decode cX4_setRest 70 = .ok (.iload_n 2, 1) := by decide +kernel
theorem dX4_setRest_71 : decode cX4_setRest 71 = .ok (.iaload, 1) := by decide +kernel
theorem dX4_setRest_72 : decode cX4_setRest 72 = .ok (.aload_n 0, 1) := by decide +kernel
theorem dX4_setRest_73 : decode cX4_setRest 73 = .ok (.getfield 23, 3) := by decide +kernel
theorem dX4_setRest_76 : decode cX4_setRest 76 = .ok (.iload_n 2, 1) := by decide +kernel
theorem dX4_setRest_77 : decode cX4_setRest 77 = .ok (.laload, 1) := by decide +kernel
theorem dX4_setRest_78 : decode cX4_setRest 78 = .ok (.invokevirtual 128, 3) := by decide +kernel
theorem dX4_setRest_81 : decode cX4_setRest 81 = .ok (.ifCond .eq 4, 3) := by decide +kernel
theorem dX4_setRest_84 : decode cX4_setRest 84 = .ok (.return_, 1) := by decide +kernel
theorem dX4_setRest_85 : decode cX4_setRest 85 = .ok (.aload_n 0, 1) := by decide +kernel
theorem dX4_setRest_86 : decode cX4_setRest 86 = .ok (.getfield 7, 3) := by decide +kernel
theorem dX4_setRest_89 : decode cX4_setRest 89 = .ok (.aload_n 0, 1) := by decide +kernel
theorem dX4_setRest_90 : decode cX4_setRest 90 = .ok (.iload_n 1, 1) := by decide +kernel
theorem dX4_setRest_91 : decode cX4_setRest 91 = .ok (.invokevirtual 124, 3) := by decide +kernel
theorem dX4_setRest_94 : decode cX4_setRest 94 = .ok (.iaload, 1) := by decide +kernel
theorem dX4_setRest_95 : decode cX4_setRest 95 = .ok (.iconst 2, 1) := by decide +kernel
theorem dX4_setRest_96 : decode cX4_setRest 96 = .ok (.if_icmp .eq 17, 3) := by decide +kernel
theorem dX4_setRest_99 : decode cX4_setRest 99 = .ok (.aload_n 0, 1) := by decide +kernel
theorem dX4_setRest_100 : decode cX4_setRest 100 = .ok (.iconst 2, 1) := by decide +kernel
theorem dX4_setRest_101 : decode cX4_setRest 101 = .ok (.invokevirtual 117, 3) := by decide +kernel
theorem dX4_setRest_104 : decode cX4_setRest 104 = .ok (.ifCond .ne 9, 3) := by decide +kernel
theorem dX4_setRest_107 : decode cX4_setRest 107 = .ok (.aload_n 0, 1) := by decide +kernel
theorem dX4_setRest_108 : decode cX4_setRest 108 = .ok (.iconst 3, 1) := by decide +kernel
theorem dX4_setRest_109 : decode cX4_setRest 109 = .ok (.putfield 54, 3) := by decide +kernel
theorem dX4_setRest_112 : decode cX4_setRest 112 = .ok (.return_, 1) := by decide +kernel
theorem dX4_setRest_113 : decode cX4_setRest 113 = .ok (.aload_n 0, 1) := by decide +kernel
theorem dX4_setRest_114 : decode cX4_setRest 114 = .ok (.iload_n 1, 1) := by decide +kernel
theorem dX4_setRest_115 : decode cX4_setRest 115 = .ok (.invokevirtual 124, 3) := by decide +kernel
theorem dX4_setRest_118 : decode cX4_setRest 118 = .ok (.istore 4, 2) := by decide +kernel
theorem dX4_setRest_120 : decode cX4_setRest 120 = .ok (.aload_n 0, 1) := by decide +kernel
theorem dX4_setRest_121 : decode cX4_setRest 121 = .ok (.getfield 7, 3) := by decide +kernel
theorem dX4_setRest_124 : decode cX4_setRest 124 = .ok (.iload 4, 2) := by decide +kernel
theorem dX4_setRest_126 : decode cX4_setRest 126 = .ok (.iaload, 1) := by decide +kernel
theorem dX4_setRest_127 : decode cX4_setRest 127 = .ok (.iconst 2, 1) := by decide +kernel
theorem dX4_setRest_128 : decode cX4_setRest 128 = .ok (.if_icmp .ne 34, 3) := by decide +kernel
theorem dX4_setRest_131 : decode cX4_setRest 131 = .ok (.aload_n 0, 1) := by decide +kernel
theorem dX4_setRest_132 : decode cX4_setRest 132 = .ok (.getfield 13, 3) := by decide +kernel
theorem dX4_setRest_135 : decode cX4_setRest 135 = .ok (.iload 4, 2) := by decide +kernel
theorem dX4_setRest_137 : decode cX4_setRest 137 = .ok (.iconst 1, 1) := by decide +kernel
theorem dX4_setRest_138 : decode cX4_setRest 138 = .ok (.iadd, 1) := by decide +kernel
theorem dX4_setRest_139 : decode cX4_setRest 139 = .ok (.aload_n 0, 1) := by decide +kernel
theorem dX4_setRest_140 : decode cX4_setRest 140 = .ok (.getfield 20, 3) := by decide +kernel
theorem dX4_setRest_143 : decode cX4_setRest 143 = .ok (.iload_n 2, 1) := by decide +kernel
theorem dX4_setRest_144 : decode cX4_setRest 144 = .ok (.iaload, 1) := by decide +kernel
theorem dX4_setRest_145 : decode cX4_setRest 145 = .ok (.iastore, 1) := by decide +kernel
theorem dX4_setRest_146 : decode cX4_setRest 146 = .ok (.aload_n 0, 1) := by decide +kernel
theorem dX4_setRest_147 : decode cX4_setRest 147 = .ok (.getfield 16, 3) := by decide +kernel
theorem dX4_setRest_150 : decode cX4_setRest 150 = .ok (.iload 4, 2) := by decide +kernel
theorem dX4_setRest_152 : decode cX4_setRest 152 = .ok (.iconst 1, 1) := by decide +kernel
theorem dX4_setRest_153 : decode cX4_setRest 153 = .ok (.iadd, 1) := by decide +kernel
theorem dX4_setRest_154 : decode cX4_setRest 154 = .ok (.aload_n 0, 1) := by decide +kernel
theorem dX4_setRest_155 : decode cX4_setRest 155 = .ok (.getfield 23, 3) := by decide +kernel
theorem dX4_setRest_158 : decode cX4_setRest 158 = .ok (.iload_n 2, 1) := by decide +kernel
theorem dX4_setRest_159 : decode cX4_setRest 159 = .ok (.laload, 1) := by decide +kernel
theorem dX4_setRest_160 : decode cX4_setRest 160 = .ok (.lastore, 1) := by decide +kernel
theorem dX4_setRest_161 : decode cX4_setRest 161 = .ok (.return_, 1) := by decide +kernel
theorem dX4_setRest_162 : decode cX4_setRest 162 = .ok (.aload_n 0, 1) := by decide +kernel
theorem dX4_setRest_163 : decode cX4_setRest 163 = .ok (.iconst 2, 1) := by decide +kernel
theorem dX4_setRest_164 : decode cX4_setRest 164 = .ok (.aload_n 0, 1) := by decide +kernel
theorem dX4_setRest_165 : decode cX4_setRest 165 = .ok (.getfield 13, 3) := by decide +kernel
theorem dX4_setRest_168 : decode cX4_setRest 168 = .ok (.iload 4, 2) := by decide +kernel
theorem dX4_setRest_170 : decode cX4_setRest 170 = .ok (.iaload, 1) := by decide +kernel
theorem dX4_setRest_171 : decode cX4_setRest 171 = .ok (.aload_n 0, 1) := by decide +kernel
theorem dX4_setRest_172 : decode cX4_setRest 172 = .ok (.getfield 16, 3) := by decide +kernel
theorem dX4_setRest_175 : decode cX4_setRest 175 = .ok (.iload 4, 2) := by decide +kernel
theorem dX4_setRest_177 : decode cX4_setRest 177 = .ok (.laload, 1) := by decide +kernel
theorem dX4_setRest_178 : decode cX4_setRest 178 = .ok (.invokevirtual 120, 3) := by decide +kernel
theorem dX4_setRest_181 : decode cX4_setRest 181 = .ok (.istore 5, 2) := by decide +kernel
theorem dX4_setRest_183 : decode cX4_setRest 183 = .ok (.aload_n 0, 1) := by decide +kernel
theorem dX4_setRest_184 : decode cX4_setRest 184 = .ok (.iconst 3, 1) := by decide +kernel
theorem dX4_setRest_185 : decode cX4_setRest 185 = .ok (.aload_n 0, 1) := by decide +kernel
theorem dX4_setRest_186 : decode cX4_setRest 186 = .ok (.getfield 20, 3) := by decide +kernel
theorem dX4_setRest_189 : decode cX4_setRest 189 = .ok (.iload_n 2, 1) := by decide +kernel
theorem dX4_setRest_190 : decode cX4_setRest 190 = .ok (.iaload, 1) := by decide +kernel
theorem dX4_setRest_191 : decode cX4_setRest 191 = .ok (.aload_n 0, 1) := by decide +kernel
theorem dX4_setRest_192 : decode cX4_setRest 192 = .ok (.getfield 23, 3) := by decide +kernel
theorem dX4_setRest_195 : decode cX4_setRest 195 = .ok (.iload_n 2, 1) := by decide +kernel
theorem dX4_setRest_196 : decode cX4_setRest 196 = .ok (.laload, 1) := by decide +kernel
theorem dX4_setRest_197 : decode cX4_setRest 197 = .ok (.invokevirtual 120, 3) := by decide +kernel
theorem dX4_setRest_200 : decode cX4_setRest 200 = .ok (.istore 6, 2) := by decide +kernel
theorem dX4_setRest_202 : decode cX4_setRest 202 = .ok (.aload_n 0, 1) := by decide +kernel
theorem dX4_setRest_203 : decode cX4_setRest 203 = .ok (.getfield 13, 3) := by decide +kernel
theorem dX4_setRest_206 : decode cX4_setRest 206 = .ok (.iload 4, 2) := by decide +kernel
theorem dX4_setRest_208 : decode cX4_setRest 208 = .ok (.iconst 3, 1) := by decide +kernel
theorem dX4_setRest_209 : decode cX4_setRest 209 = .ok (.iastore, 1) := by decide +kernel
theorem dX4_setRest_210 : decode cX4_setRest 210 = .ok (.aload_n 0, 1) := by decide +kernel
theorem dX4_setRest_211 : decode cX4_setRest 211 = .ok (.getfield 16, 3) := by decide +kernel
theorem dX4_setRest_214 : decode cX4_setRest 214 = .ok (.iload 4, 2) := by decide +kernel
theorem dX4_setRest_216 : decode cX4_setRest 216 = .ok (.iload 5, 2) := by decide +kernel
theorem dX4_setRest_218 : decode cX4_setRest 218 = .ok (.i2l, 1) := by decide +kernel
theorem dX4_setRest_219 : decode cX4_setRest 219 = .ok (.lastore, 1) := by decide +kernel
theorem dX4_setRest_220 : decode cX4_setRest 220 = .ok (.return_, 1) := by decide +kernel
theorem dX4_lengthOf_0 : decode cX4_lengthOf 0 = .ok (.aload_n 0, 1) := by decide +kernel
theorem dX4_lengthOf_1 : decode cX4_lengthOf 1 = .ok (.iload_n 1, 1) := by decide +kernel
theorem dX4_lengthOf_2 : decode cX4_lengthOf 2 = .ok (.lload_n 2, 1) := by decide +kernel
theorem dX4_lengthOf_3 : decode cX4_lengthOf 3 = .ok (.invokevirtual 69, 3) := by decide +kernel
theorem dX4_lengthOf_6 : decode cX4_lengthOf 6 = .ok (.iconst 0, 1) := by decide +kernel
theorem dX4_lengthOf_7 : decode cX4_lengthOf 7 = .ok (.istore 4, 2) := by decide +kernel
theorem dX4_lengthOf_9 : decode cX4_lengthOf 9 = .ok (.aload_n 0, 1) := by decide +kernel
theorem dX4_lengthOf_10 : decode cX4_lengthOf 10 = .ok (.getfield 58, 3) := by decide +kernel
theorem dX4_lengthOf_13 : decode cX4_lengthOf 13 = .ok (.iconst 2, 1) := by decide +kernel
theorem dX4_lengthOf_14 : decode cX4_lengthOf 14 = .ok (.if_icmp .ne 28, 3) := by decide +kernel
theorem dX4_lengthOf_17 : decode cX4_lengthOf 17 = .ok (.iload 4, 2) := by decide +kernel
theorem dX4_lengthOf_19 : decode cX4_lengthOf 19 = .ok (.bipush 120, 2) := by decide +kernel
theorem dX4_lengthOf_21 : decode cX4_lengthOf 21 = .ok (.if_icmp .gt 21, 3) := by decide +kernel
theorem dX4_lengthOf_24 : decode cX4_lengthOf 24 = .ok (.iinc 4 1, 3) := by decide +kernel
theorem dX4_lengthOf_27 : decode cX4_lengthOf 27 = .ok (.aload_n 0, 1) := by decide +kernel
theorem dX4_lengthOf_28 : decode cX4_lengthOf 28 = .ok (.aload_n 0, 1) := by decide +kernel
theorem dX4_lengthOf_29 : decode cX4_lengthOf 29 = .ok (.aload_n 0, 1) := by decide +kernel
theorem dX4_lengthOf_30 : decode cX4_lengthOf 30 = .ok (.getfield 61, 3) := by decide +kernel
theorem dX4_lengthOf_33 : decode cX4_lengthOf 33 = .ok (.invokevirtual 65, 3) := by decide +kernel
theorem dX4_lengthOf_36 : decode cX4_lengthOf 36 = .ok (.invokevirtual 85, 3) := by decide +kernel
theorem dX4_lengthOf_39 : decode cX4_lengthOf 39 = .ok (.goto (-30), 3) := by decide +kernel
theorem dX4_lengthOf_42 : decode cX4_lengthOf 42 = .ok (.iload 4, 2) := by decide +kernel
theorem dX4_lengthOf_44 : decode cX4_lengthOf 44 = .ok (.bipush 120, 2) := by decide +kernel
theorem dX4_lengthOf_46 : decode cX4_lengthOf 46 = .ok (.if_icmp .le 8, 3) := by decide +kernel
theorem dX4_lengthOf_49 : decode cX4_lengthOf 49 = .ok (.bipush (-2), 2) := by decide +kernel
theorem dX4_lengthOf_51 : decode cX4_lengthOf 51 = .ok (.goto 17, 3) := by decide +kernel
theorem dX4_lengthOf_54 : decode cX4_lengthOf 54 = .ok (.aload_n 0, 1) := by decide +kernel
theorem dX4_lengthOf_55 : decode cX4_lengthOf 55 = .ok (.getfield 58, 3) := by decide +kernel
theorem dX4_lengthOf_58 : decode cX4_lengthOf 58 = .ok (.iconst 1, 1) := by decide +kernel
theorem dX4_lengthOf_59 : decode cX4_lengthOf 59 = .ok (.if_icmp .ne 7, 3) := by decide +kernel
theorem dX4_lengthOf_62 : decode cX4_lengthOf 62 = .ok (.iconst (-1), 1) := by decide +kernel
theorem dX4_lengthOf_63 : decode cX4_lengthOf 63 = .ok (.goto 5, 3) := by decide +kernel
theorem dX4_lengthOf_66 : decode cX4_lengthOf 66 = .ok (.iload 4, 2) := by decide +kernel
theorem dX4_lengthOf_68 : decode cX4_lengthOf 68 = .ok (.ireturn, 1) := by decide +kernel
theorem dX4_append_0 : decode cX4_append 0 = .ok (.iload_n 1, 1) := by decide +kernel
theorem dX4_append_1 : decode cX4_append 1 = .ok (.invokestatic 102, 3) := by decide +kernel
theorem dX4_append_4 : decode cX4_append 4 = .ok (.ifCond .ne 17, 3) := by decide +kernel
theorem dX4_append_7 : decode cX4_append 7 = .ok (.iload_n 2, 1) := by decide +kernel
theorem dX4_append_8 : decode cX4_append 8 = .ok (.invokestatic 102, 3) := by decide +kernel
theorem dX4_append_11 : decode cX4_append 11 = .ok (.ifCond .ne 10, 3) := by decide +kernel
theorem dX4_append_14 : decode cX4_append 14 = .ok (.iload_n 3, 1) := by decide +kernel
theorem dX4_append_15 : decode cX4_append 15 = .ok (.invokestatic 102, 3) := by decide +kernel
theorem dX4_append_18 : decode cX4_append 18 = .ok (.ifCond .eq 7, 3) := by decide +kernel
theorem dX4_append_21 : decode cX4_append 21 = .ok (.iconst 1, 1) := by decide +kernel
theorem dX4_append_22 : decode cX4_append 22 = .ok (.goto 4, 3) := by decide +kernel
theorem dX4_append_25 : decode cX4_append 25 = .ok (.iconst 0, 1) := by decide +kernel
theorem dX4_append_26 : decode cX4_append 26 = .ok (.istore 4, 2) := by decide +kernel
theorem dX4_append_28 : decode cX4_append 28 = .ok (.iload 4, 2) := by decide +kernel
theorem dX4_append_30 : decode cX4_append 30 = .ok (.ifCond .eq 7, 3) := by decide +kernel
theorem dX4_append_33 : decode cX4_append 33 = .ok (.iconst 0, 1) := by decide +kernel
theorem dX4_append_34 : decode cX4_append 34 = .ok (.goto 19, 3) := by decide +kernel
theorem dX4_append_37 : decode cX4_append 37 = .ok (.aload_n 0, 1) := by decide +kernel
theorem dX4_append_38 : decode cX4_append 38 = .ok (.aload_n 0, 1) := by decide +kernel
theorem dX4_append_39 : decode cX4_append 39 = .ok (.getfield 20, 3) := by decide +kernel
theorem dX4_append_42 : decode cX4_append 42 = .ok (.iload_n 2, 1) := by decide +kernel
theorem dX4_append_43 : decode cX4_append 43 = .ok (.iaload, 1) := by decide +kernel
theorem dX4_append_44 : decode cX4_append 44 = .ok (.aload_n 0, 1) := by decide +kernel
theorem dX4_append_45 : decode cX4_append 45 = .ok (.getfield 23, 3) := by decide +kernel
theorem dX4_append_48 : decode cX4_append 48 = .ok (.iload_n 2, 1) := by decide +kernel
theorem dX4_append_49 : decode cX4_append 49 = .ok (.laload, 1) := by decide +kernel
theorem dX4_append_50 : decode cX4_append 50 = .ok (.invokevirtual 132, 3) := by decide +kernel
theorem dX4_append_53 : decode cX4_append 53 = .ok (.istore 5, 2) := by decide +kernel
theorem dX4_append_55 : decode cX4_append 55 = .ok (.aload_n 0, 1) := by decide +kernel
theorem dX4_append_56 : decode cX4_append 56 = .ok (.iload 4, 2) := by decide +kernel
theorem dX4_append_58 : decode cX4_append 58 = .ok (.iload 5, 2) := by decide +kernel
theorem dX4_append_60 : decode cX4_append 60 = .ok (.ifCond .ge 7, 3) := by decide +kernel
theorem dX4_append_63 : decode cX4_append 63 = .ok (.iconst 1, 1) := by decide +kernel
theorem dX4_append_64 : decode cX4_append 64 = .ok (.goto 4, 3) := by decide +kernel
theorem dX4_append_67 : decode cX4_append 67 = .ok (.iconst 0, 1) := by decide +kernel
theorem dX4_append_68 : decode cX4_append 68 = .ok (.invokevirtual 110, 3) := by decide +kernel
theorem dX4_append_71 : decode cX4_append 71 = .ok (.ifCond .eq 4, 3) := by decide +kernel
theorem dX4_append_74 : decode cX4_append 74 = .ok (.return_, 1) := by decide +kernel
theorem dX4_append_75 : decode cX4_append 75 = .ok (.iload 5, 2) := by decide +kernel
theorem dX4_append_77 : decode cX4_append 77 = .ok (.ifCond .ne 21, 3) := by decide +kernel
theorem dX4_append_80 : decode cX4_append 80 = .ok (.aload_n 0, 1) := by decide +kernel
theorem dX4_append_81 : decode cX4_append 81 = .ok (.iload_n 1, 1) := by decide +kernel
theorem dX4_append_82 : decode cX4_append 82 = .ok (.aload_n 0, 1) := by decide +kernel
theorem dX4_append_83 : decode cX4_append 83 = .ok (.getfield 20, 3) := by decide +kernel
theorem dX4_append_86 : decode cX4_append 86 = .ok (.iload_n 3, 1) := by decide +kernel
theorem dX4_append_87 : decode cX4_append 87 = .ok (.iaload, 1) := by decide +kernel
theorem dX4_append_88 : decode cX4_append 88 = .ok (.aload_n 0, 1) := by decide +kernel
theorem dX4_append_89 : decode cX4_append 89 = .ok (.getfield 23, 3) := by decide +kernel
theorem dX4_append_92 : decode cX4_append 92 = .ok (.iload_n 3, 1) := by decide +kernel
theorem dX4_append_93 : decode cX4_append 93 = .ok (.laload, 1) := by decide +kernel
theorem dX4_append_94 : decode cX4_append 94 = .ok (.invokevirtual 114, 3) := by decide +kernel
theorem dX4_append_97 : decode cX4_append 97 = .ok (.return_, 1) := by decide +kernel
theorem dX4_append_98 : decode cX4_append 98 = .ok (.aload_n 0, 1) := by decide +kernel
theorem dX4_append_99 : decode cX4_append 99 = .ok (.iload 5, 2) := by decide +kernel
theorem dX4_append_101 : decode cX4_append 101 = .ok (.aload_n 0, 1) := by decide +kernel
theorem dX4_append_102 : decode cX4_append 102 = .ok (.getfield 20, 3) := by decide +kernel
theorem dX4_append_105 : decode cX4_append 105 = .ok (.iload_n 3, 1) := by decide +kernel
theorem dX4_append_106 : decode cX4_append 106 = .ok (.iaload, 1) := by decide +kernel
theorem dX4_append_107 : decode cX4_append 107 = .ok (.ifCond .ne 7, 3) := by decide +kernel
theorem dX4_append_110 : decode cX4_append 110 = .ok (.iconst 0, 1) := by decide +kernel
theorem dX4_append_111 : decode cX4_append 111 = .ok (.goto 4, 3) := by decide +kernel
theorem dX4_append_114 : decode cX4_append 114 = .ok (.iconst 1, 1) := by decide +kernel
theorem dX4_append_115 : decode cX4_append 115 = .ok (.iadd, 1) := by decide +kernel
theorem dX4_append_116 : decode cX4_append 116 = .ok (.invokevirtual 117, 3) := by decide +kernel
theorem dX4_append_119 : decode cX4_append 119 = .ok (.ifCond .ne 9, 3) := by decide +kernel
theorem dX4_append_122 : decode cX4_append 122 = .ok (.aload_n 0, 1) := by decide +kernel
theorem dX4_append_123 : decode cX4_append 123 = .ok (.iconst 3, 1) := by decide +kernel
theorem dX4_append_124 : decode cX4_append 124 = .ok (.putfield 54, 3) := by decide +kernel
theorem dX4_append_127 : decode cX4_append 127 = .ok (.return_, 1) := by decide +kernel
theorem dX4_append_128 : decode cX4_append 128 = .ok (.aload_n 0, 1) := by decide +kernel
theorem dX4_append_129 : decode cX4_append 129 = .ok (.getfield 73, 3) := by decide +kernel
theorem dX4_append_132 : decode cX4_append 132 = .ok (.istore 6, 2) := by decide +kernel
theorem dX4_append_134 : decode cX4_append 134 = .ok (.aload_n 0, 1) := by decide +kernel
theorem dX4_append_135 : decode cX4_append 135 = .ok (.aload_n 0, 1) := by decide +kernel
theorem dX4_append_136 : decode cX4_append 136 = .ok (.getfield 20, 3) := by decide +kernel
theorem dX4_append_139 : decode cX4_append 139 = .ok (.iload_n 2, 1) := by decide +kernel
theorem dX4_append_140 : decode cX4_append 140 = .ok (.iaload, 1) := by decide +kernel
theorem dX4_append_141 : decode cX4_append 141 = .ok (.aload_n 0, 1) := by decide +kernel
theorem dX4_append_142 : decode cX4_append 142 = .ok (.getfield 23, 3) := by decide +kernel
theorem dX4_append_145 : decode cX4_append 145 = .ok (.iload_n 2, 1) := by decide +kernel
theorem dX4_append_146 : decode cX4_append 146 = .ok (.laload, 1) := by decide +kernel
theorem dX4_append_147 : decode cX4_append 147 = .ok (.invokevirtual 69, 3) := by decide +kernel
theorem dX4_append_150 : decode cX4_append 150 = .ok (.iconst 0, 1) := by decide +kernel
theorem dX4_append_151 : decode cX4_append 151 = .ok (.istore 7, 2) := by decide +kernel
theorem dX4_append_153 : decode cX4_append 153 = .ok (.iload 7, 2) := by decide +kernel
theorem dX4_append_155 : decode cX4_append 155 = .ok (.iload 5, 2) := by decide +kernel
theorem dX4_append_157 : decode cX4_append 157 = .ok (.if_icmp .ge 84, 3) := by decide +kernel
theorem dX4_append_160 : decode cX4_append 160 = .ok (.aload_n 0, 1) := by decide +kernel
theorem dX4_append_161 : decode cX4_append 161 = .ok (.aload_n 0, 1) := by decide +kernel
theorem dX4_append_162 : decode cX4_append 162 = .ok (.getfield 61, 3) := by decide +kernel
theorem dX4_append_165 : decode cX4_append 165 = .ok (.invokevirtual 65, 3) := by decide +kernel
theorem dX4_append_168 : decode cX4_append 168 = .ok (.istore 8, 2) := by decide +kernel
theorem dX4_append_170 : decode cX4_append 170 = .ok (.iload 7, 2) := by decide +kernel
theorem dX4_append_172 : decode cX4_append 172 = .ok (.iload 5, 2) := by decide +kernel
theorem dX4_append_174 : decode cX4_append 174 = .ok (.iconst 1, 1) := by decide +kernel
theorem dX4_append_175 : decode cX4_append 175 = .ok (.isub, 1) := by decide +kernel
theorem dX4_append_176 : decode cX4_append 176 = .ok (.if_icmp .ne 7, 3) := by decide +kernel
theorem dX4_append_179 : decode cX4_append 179 = .ok (.iconst 1, 1) := by decide +kernel
theorem dX4_append_180 : decode cX4_append 180 = .ok (.goto 4, 3) := by decide +kernel
theorem dX4_append_183 : decode cX4_append 183 = .ok (.iconst 0, 1) := by decide +kernel
theorem dX4_append_184 : decode cX4_append 184 = .ok (.istore 9, 2) := by decide +kernel
theorem dX4_append_186 : decode cX4_append 186 = .ok (.aload_n 0, 1) := by decide +kernel
theorem dX4_append_187 : decode cX4_append 187 = .ok (.iload 9, 2) := by decide +kernel
theorem dX4_append_189 : decode cX4_append 189 = .ok (.ifCond .ne 7, 3) := by decide +kernel
theorem dX4_append_192 : decode cX4_append 192 = .ok (.iconst 0, 1) := by decide +kernel
theorem dX4_append_193 : decode cX4_append 193 = .ok (.goto 17, 3) := by decide +kernel
theorem dX4_append_196 : decode cX4_append 196 = .ok (.aload_n 0, 1) := by decide +kernel
theorem dX4_append_197 : decode cX4_append 197 = .ok (.getfield 20, 3) := by decide +kernel
theorem dX4_append_200 : decode cX4_append 200 = .ok (.iload_n 3, 1) := by decide +kernel
theorem dX4_append_201 : decode cX4_append 201 = .ok (.iaload, 1) := by decide +kernel
theorem dX4_append_202 : decode cX4_append 202 = .ok (.ifCond .ne 7, 3) := by decide +kernel
theorem dX4_append_205 : decode cX4_append 205 = .ok (.iconst 1, 1) := by decide +kernel
theorem dX4_append_206 : decode cX4_append 206 = .ok (.goto 4, 3) := by decide +kernel
theorem dX4_append_209 : decode cX4_append 209 = .ok (.iconst 2, 1) := by decide +kernel
theorem dX4_append_210 : decode cX4_append 210 = .ok (.aload_n 0, 1) := by decide +kernel
theorem dX4_append_211 : decode cX4_append 211 = .ok (.getfield 13, 3) := by decide +kernel
theorem dX4_append_214 : decode cX4_append 214 = .ok (.iload 8, 2) := by decide +kernel
theorem dX4_append_216 : decode cX4_append 216 = .ok (.iaload, 1) := by decide +kernel
theorem dX4_append_217 : decode cX4_append 217 = .ok (.aload_n 0, 1) := by decide +kernel
theorem dX4_append_218 : decode cX4_append 218 = .ok (.getfield 16, 3) := by decide +kernel
theorem dX4_append_221 : decode cX4_append 221 = .ok (.iload 8, 2) := by decide +kernel
theorem dX4_append_223 : decode cX4_append 223 = .ok (.laload, 1) := by decide +kernel
theorem dX4_append_224 : decode cX4_append 224 = .ok (.invokevirtual 120, 3) := by decide +kernel
theorem dX4_append_227 : decode cX4_append 227 = .ok (.istore 10, 2) := by decide +kernel
theorem dX4_append_229 : decode cX4_append 229 = .ok (.aload_n 0, 1) := by decide +kernel
theorem dX4_append_230 : decode cX4_append 230 = .ok (.iload 8, 2) := by decide +kernel
theorem dX4_append_232 : decode cX4_append 232 = .ok (.invokevirtual 85, 3) := by decide +kernel
theorem dX4_append_235 : decode cX4_append 235 = .ok (.iinc 7 1, 3) := by decide +kernel
theorem dX4_append_238 : decode cX4_append 238 = .ok (.goto (-85), 3) := by decide +kernel
theorem dX4_append_241 : decode cX4_append 241 = .ok (.aload_n 0, 1) := by decide +kernel
theorem dX4_append_242 : decode cX4_append 242 = .ok (.getfield 20, 3) := by decide +kernel
theorem dX4_append_245 : decode cX4_append 245 = .ok (.iload_n 3, 1) := by decide +kernel
theorem dX4_append_246 : decode cX4_append 246 = .ok (.iaload, 1) := by decide +kernel
theorem dX4_append_247 : decode cX4_append 247 = .ok (.ifCond .eq 22, 3) := by decide +kernel
theorem dX4_append_250 : decode cX4_append 250 = .ok (.aload_n 0, 1) := by decide +kernel
theorem dX4_append_251 : decode cX4_append 251 = .ok (.iconst 3, 1) := by decide +kernel
theorem dX4_append_252 : decode cX4_append 252 = .ok (.aload_n 0, 1) := by decide +kernel
theorem dX4_append_253 : decode cX4_append 253 = .ok (.getfield 20, 3) := by decide +kernel
theorem dX4_append_256 : decode cX4_append 256 = .ok (.iload_n 3, 1) := by decide +kernel
theorem dX4_append_257 : decode cX4_append 257 = .ok (.iaload, 1) := by decide +kernel
theorem dX4_append_258 : decode cX4_append 258 = .ok (.aload_n 0, 1) := by decide +kernel
theorem dX4_append_259 : decode cX4_append 259 = .ok (.getfield 23, 3) := by decide +kernel
theorem dX4_append_262 : decode cX4_append 262 = .ok (.iload_n 3, 1) := by decide +kernel
theorem dX4_append_263 : decode cX4_append 263 = .ok (.laload, 1) := by decide +kernel
theorem dX4_append_264 : decode cX4_append 264 = .ok (.invokevirtual 120, 3) := by decide +kernel
theorem dX4_append_267 : decode cX4_append 267 = .ok (.istore 7, 2) := by decide +kernel
theorem dX4_append_269 : decode cX4_append 269 = .ok (.aload_n 0, 1) := by decide +kernel
theorem dX4_append_270 : decode cX4_append 270 = .ok (.iload_n 1, 1) := by decide +kernel
theorem dX4_append_271 : decode cX4_append 271 = .ok (.iconst 2, 1) := by decide +kernel
theorem dX4_append_272 : decode cX4_append 272 = .ok (.iload 6, 2) := by decide +kernel
theorem dX4_append_274 : decode cX4_append 274 = .ok (.i2l, 1) := by decide +kernel
theorem dX4_append_275 : decode cX4_append 275 = .ok (.invokevirtual 114, 3) := by decide +kernel
theorem dX4_append_278 : decode cX4_append 278 = .ok (.return_, 1) := by decide +kernel
theorem dX4_kind_0 : decode cX4_kind 0 = .ok (.aload_n 0, 1) := by decide +kernel
theorem dX4_kind_1 : decode cX4_kind 1 = .ok (.iload_n 1, 1) := by decide +kernel
theorem dX4_kind_2 : decode cX4_kind 2 = .ok (.invokestatic 102, 3) := by decide +kernel
theorem dX4_kind_5 : decode cX4_kind 5 = .ok (.iconst 0, 1) := by decide +kernel
theorem dX4_kind_6 : decode cX4_kind 6 = .ok (.invokevirtual 110, 3) := by decide +kernel
theorem dX4_kind_9 : decode cX4_kind 9 = .ok (.ifCond .eq 5, 3) := by decide +kernel
theorem dX4_kind_12 : decode cX4_kind 12 = .ok (.iconst 0, 1) := by decide +kernel
theorem dX4_kind_13 : decode cX4_kind 13 = .ok (.ireturn, 1) := by decide +kernel
theorem dX4_kind_14 : decode cX4_kind 14 = .ok (.aload_n 0, 1) := by decide +kernel
theorem dX4_kind_15 : decode cX4_kind 15 = .ok (.getfield 20, 3) := by decide +kernel
theorem dX4_kind_18 : decode cX4_kind 18 = .ok (.iload_n 1, 1) := by decide +kernel
theorem dX4_kind_19 : decode cX4_kind 19 = .ok (.iaload, 1) := by decide +kernel
theorem dX4_kind_20 : decode cX4_kind 20 = .ok (.ireturn, 1) := by decide +kernel
theorem dX4_value_0 : decode cX4_value 0 = .ok (.aload_n 0, 1) := by decide +kernel
theorem dX4_value_1 : decode cX4_value 1 = .ok (.iload_n 1, 1) := by decide +kernel
theorem dX4_value_2 : decode cX4_value 2 = .ok (.invokestatic 102, 3) := by decide +kernel
theorem dX4_value_5 : decode cX4_value 5 = .ok (.iload_n 1, 1) := by decide +kernel
theorem dX4_value_6 : decode cX4_value 6 = .ok (.invokestatic 102, 3) := by decide +kernel
theorem dX4_value_9 : decode cX4_value 9 = .ok (.ifCond .ne 17, 3) := by decide +kernel
theorem dX4_value_12 : decode cX4_value 12 = .ok (.aload_n 0, 1) := by decide +kernel
theorem dX4_value_13 : decode cX4_value 13 = .ok (.getfield 20, 3) := by decide +kernel
theorem dX4_value_16 : decode cX4_value 16 = .ok (.iload_n 1, 1) := by decide +kernel
theorem dX4_value_17 : decode cX4_value 17 = .ok (.iaload, 1) := by decide +kernel
theorem dX4_value_18 : decode cX4_value 18 = .ok (.iconst 1, 1) := by decide +kernel
theorem dX4_value_19 : decode cX4_value 19 = .ok (.if_icmp .eq 7, 3) := by decide +kernel
theorem dX4_value_22 : decode cX4_value 22 = .ok (.iconst 1, 1) := by decide +kernel
theorem dX4_value_23 : decode cX4_value 23 = .ok (.goto 4, 3) := by decide +kernel
theorem dX4_value_26 : decode cX4_value 26 = .ok (.iconst 0, 1) := by decide +kernel
theorem dX4_value_27 : decode cX4_value 27 = .ok (.invokevirtual 110, 3) := by decide +kernel
theorem dX4_value_30 : decode cX4_value 30 = .ok (.ifCond .eq 5, 3) := by decide +kernel
theorem dX4_value_33 : decode cX4_value 33 = .ok (.lconst 0, 1) := by decide +kernel
theorem dX4_value_34 : decode cX4_value 34 = .ok (.lreturn, 1) := by decide +kernel
theorem dX4_value_35 : decode cX4_value 35 = .ok (.aload_n 0, 1) := by decide +kernel
theorem dX4_value_36 : decode cX4_value 36 = .ok (.getfield 23, 3) := by decide +kernel
theorem dX4_value_39 : decode cX4_value 39 = .ok (.iload_n 1, 1) := by decide +kernel
theorem dX4_value_40 : decode cX4_value 40 = .ok (.laload, 1) := by decide +kernel
theorem dX4_value_41 : decode cX4_value 41 = .ok (.lreturn, 1) := by decide +kernel
theorem dX4_same_0 : decode cX4_same 0 = .ok (.aload_n 0, 1) := by decide +kernel
theorem dX4_same_1 : decode cX4_same 1 = .ok (.iload_n 1, 1) := by decide +kernel
theorem dX4_same_2 : decode cX4_same 2 = .ok (.invokestatic 102, 3) := by decide +kernel
theorem dX4_same_5 : decode cX4_same 5 = .ok (.ifCond .ne 10, 3) := by decide +kernel
theorem dX4_same_8 : decode cX4_same 8 = .ok (.iload_n 2, 1) := by decide +kernel
theorem dX4_same_9 : decode cX4_same 9 = .ok (.invokestatic 102, 3) := by decide +kernel
theorem dX4_same_12 : decode cX4_same 12 = .ok (.ifCond .eq 7, 3) := by decide +kernel
theorem dX4_same_15 : decode cX4_same 15 = .ok (.iconst 1, 1) := by decide +kernel
theorem dX4_same_16 : decode cX4_same 16 = .ok (.goto 4, 3) := by decide +kernel
theorem dX4_same_19 : decode cX4_same 19 = .ok (.iconst 0, 1) := by decide +kernel
theorem dX4_same_20 : decode cX4_same 20 = .ok (.iconst 0, 1) := by decide +kernel
theorem dX4_same_21 : decode cX4_same 21 = .ok (.invokevirtual 110, 3) := by decide +kernel
theorem dX4_same_24 : decode cX4_same 24 = .ok (.ifCond .eq 5, 3) := by decide +kernel
theorem dX4_same_27 : decode cX4_same 27 = .ok (.iconst 0, 1) := by decide +kernel
theorem dX4_same_28 : decode cX4_same 28 = .ok (.ireturn, 1) := by decide +kernel
theorem dX4_same_29 : decode cX4_same 29 = .ok (.aload_n 0, 1) := by decide +kernel
theorem dX4_same_30 : decode cX4_same 30 = .ok (.aload_n 0, 1) := by decide +kernel
theorem dX4_same_31 : decode cX4_same 31 = .ok (.getfield 20, 3) := by decide +kernel
theorem dX4_same_34 : decode cX4_same 34 = .ok (.iload_n 1, 1) := by decide +kernel
theorem dX4_same_35 : decode cX4_same 35 = .ok (.iaload, 1) := by decide +kernel
theorem dX4_same_36 : decode cX4_same 36 = .ok (.aload_n 0, 1) := by decide +kernel
theorem dX4_same_37 : decode cX4_same 37 = .ok (.getfield 23, 3) := by decide +kernel
theorem dX4_same_40 : decode cX4_same 40 = .ok (.iload_n 1, 1) := by decide +kernel
theorem dX4_same_41 : decode cX4_same 41 = .ok (.laload, 1) := by decide +kernel
theorem dX4_same_42 : decode cX4_same 42 = .ok (.aload_n 0, 1) := by decide +kernel
theorem dX4_same_43 : decode cX4_same 43 = .ok (.getfield 20, 3) := by decide +kernel
theorem dX4_same_46 : decode cX4_same 46 = .ok (.iload_n 2, 1) := by decide +kernel
theorem dX4_same_47 : decode cX4_same 47 = .ok (.iaload, 1) := by decide +kernel
theorem dX4_same_48 : decode cX4_same 48 = .ok (.aload_n 0, 1) := by decide +kernel
theorem dX4_same_49 : decode cX4_same 49 = .ok (.getfield 23, 3) := by decide +kernel
theorem dX4_same_52 : decode cX4_same 52 = .ok (.iload_n 2, 1) := by decide +kernel
theorem dX4_same_53 : decode cX4_same 53 = .ok (.laload, 1) := by decide +kernel
theorem dX4_same_54 : decode cX4_same 54 = .ok (.invokevirtual 128, 3) := by decide +kernel
theorem dX4_same_57 : decode cX4_same 57 = .ok (.ireturn, 1) := by decide +kernel
theorem dX4_length_0 : decode cX4_length 0 = .ok (.aload_n 0, 1) := by decide +kernel
theorem dX4_length_1 : decode cX4_length 1 = .ok (.iload_n 1, 1) := by decide +kernel
theorem dX4_length_2 : decode cX4_length 2 = .ok (.invokestatic 102, 3) := by decide +kernel
theorem dX4_length_5 : decode cX4_length 5 = .ok (.iconst 0, 1) := by decide +kernel
theorem dX4_length_6 : decode cX4_length 6 = .ok (.invokevirtual 110, 3) := by decide +kernel
theorem dX4_length_9 : decode cX4_length 9 = .ok (.ifCond .eq 5, 3) := by decide +kernel
theorem dX4_length_12 : decode cX4_length 12 = .ok (.iconst 0, 1) := by decide +kernel
theorem dX4_length_13 : decode cX4_length 13 = .ok (.ireturn, 1) := by decide +kernel
theorem dX4_length_14 : decode cX4_length 14 = .ok (.aload_n 0, 1) := by decide +kernel
theorem dX4_length_15 : decode cX4_length 15 = .ok (.aload_n 0, 1) := by decide +kernel
theorem dX4_length_16 : decode cX4_length 16 = .ok (.getfield 20, 3) := by decide +kernel
theorem dX4_length_19 : decode cX4_length 19 = .ok (.iload_n 1, 1) := by decide +kernel
theorem dX4_length_20 : decode cX4_length 20 = .ok (.iaload, 1) := by decide +kernel
theorem dX4_length_21 : decode cX4_length 21 = .ok (.aload_n 0, 1) := by decide +kernel
theorem dX4_length_22 : decode cX4_length 22 = .ok (.getfield 23, 3) := by decide +kernel
theorem dX4_length_25 : decode cX4_length 25 = .ok (.iload_n 1, 1) := by decide +kernel
theorem dX4_length_26 : decode cX4_length 26 = .ok (.laload, 1) := by decide +kernel
theorem dX4_length_27 : decode cX4_length 27 = .ok (.invokevirtual 132, 3) := by decide +kernel
theorem dX4_length_30 : decode cX4_length 30 = .ok (.ireturn, 1) := by decide +kernel
theorem dX4_words_0 : decode cX4_words 0 = .ok (.aload_n 0, 1) := by decide +kernel
theorem dX4_words_1 : decode cX4_words 1 = .ok (.iload_n 1, 1) := by decide +kernel
theorem dX4_words_2 : decode cX4_words 2 = .ok (.invokestatic 102, 3) := by decide +kernel
theorem dX4_words_5 : decode cX4_words 5 = .ok (.iconst 0, 1) := by decide +kernel
theorem dX4_words_6 : decode cX4_words 6 = .ok (.invokevirtual 110, 3) := by decide +kernel
theorem dX4_words_9 : decode cX4_words 9 = .ok (.ifCond .eq 5, 3) := by decide +kernel
theorem dX4_words_12 : decode cX4_words 12 = .ok (.iconst 0, 1) := by decide +kernel
theorem dX4_words_13 : decode cX4_words 13 = .ok (.ireturn, 1) := by decide +kernel
theorem dX4_words_14 : decode cX4_words 14 = .ok (.iconst 0, 1) := by decide +kernel
theorem dX4_words_15 : decode cX4_words 15 = .ok (.istore_n 2, 1) := by decide +kernel
theorem dX4_words_16 : decode cX4_words 16 = .ok (.iload_n 2, 1) := by decide +kernel
theorem dX4_words_17 : decode cX4_words 17 = .ok (.bipush 120, 2) := by decide +kernel
theorem dX4_words_19 : decode cX4_words 19 = .ok (.if_icmp .ge 16, 3) := by decide +kernel
theorem dX4_words_22 : decode cX4_words 22 = .ok (.aload_n 0, 1) := by decide +kernel
theorem dX4_words_23 : decode cX4_words 23 = .ok (.getfield 50, 3) := by decide +kernel
theorem dX4_words_26 : decode cX4_words 26 = .ok (.iload_n 2, 1) := by decide +kernel
theorem dX4_words_27 : decode cX4_words 27 = .ok (.iconst 0, 1) := by decide +kernel
theorem dX4_words_28 : decode cX4_words 28 = .ok (.bastore, 1) := by decide +kernel
theorem dX4_words_29 : decode cX4_words 29 = .ok (.iinc 2 1, 3) := by decide +kernel
theorem dX4_words_32 : decode cX4_words 32 = .ok (.goto (-16), 3) := by decide +kernel
theorem dX4_words_35 : decode cX4_words 35 = .ok (.iconst 0, 1) := by decide +kernel
theorem dX4_words_36 : decode cX4_words 36 = .ok (.istore_n 2, 1) := by decide +kernel
theorem dX4_words_37 : decode cX4_words 37 = .ok (.aload_n 0, 1) := by decide +kernel
theorem dX4_words_38 : decode cX4_words 38 = .ok (.aload_n 0, 1) := by decide +kernel
theorem dX4_words_39 : decode cX4_words 39 = .ok (.getfield 20, 3) := by decide +kernel
theorem dX4_words_42 : decode cX4_words 42 = .ok (.iload_n 1, 1) := by decide +kernel
theorem dX4_words_43 : decode cX4_words 43 = .ok (.iaload, 1) := by decide +kernel
theorem dX4_words_44 : decode cX4_words 44 = .ok (.aload_n 0, 1) := by decide +kernel
theorem dX4_words_45 : decode cX4_words 45 = .ok (.getfield 23, 3) := by decide +kernel
theorem dX4_words_48 : decode cX4_words 48 = .ok (.iload_n 1, 1) := by decide +kernel
theorem dX4_words_49 : decode cX4_words 49 = .ok (.laload, 1) := by decide +kernel
theorem dX4_words_50 : decode cX4_words 50 = .ok (.invokevirtual 69, 3) := by decide +kernel
theorem dX4_words_53 : decode cX4_words 53 = .ok (.aload_n 0, 1) := by decide +kernel
theorem dX4_words_54 : decode cX4_words 54 = .ok (.getfield 58, 3) := by decide +kernel
theorem dX4_words_57 : decode cX4_words 57 = .ok (.iconst 2, 1) := by decide +kernel
theorem dX4_words_58 : decode cX4_words 58 = .ok (.if_icmp .ne 99, 3) := by decide +kernel
theorem dX4_words_61 : decode cX4_words 61 = .ok (.iconst 0, 1) := by decide +kernel
theorem dX4_words_62 : decode cX4_words 62 = .ok (.istore_n 3, 1) := by decide +kernel
theorem dX4_words_63 : decode cX4_words 63 = .ok (.aload_n 0, 1) := by decide +kernel
theorem dX4_words_64 : decode cX4_words 64 = .ok (.getfield 61, 3) := by decide +kernel
theorem dX4_words_67 : decode cX4_words 67 = .ok (.l2i, 1) := by decide +kernel
theorem dX4_words_68 : decode cX4_words 68 = .ok (.istore 4, 2) := by decide +kernel
theorem dX4_words_70 : decode cX4_words 70 = .ok (.aload_n 0, 1) := by decide +kernel
theorem dX4_words_71 : decode cX4_words 71 = .ok (.getfield 13, 3) := by decide +kernel
theorem dX4_words_74 : decode cX4_words 74 = .ok (.iload 4, 2) := by decide +kernel
theorem dX4_words_76 : decode cX4_words 76 = .ok (.iaload, 1) := by decide +kernel
theorem dX4_words_77 : decode cX4_words 77 = .ok (.iconst 3, 1) := by decide +kernel
theorem dX4_words_78 : decode cX4_words 78 = .ok (.if_icmp .ne 19, 3) := by decide +kernel
theorem dX4_words_81 : decode cX4_words 81 = .ok (.iinc 3 1, 3) := by decide +kernel
theorem dX4_words_84 : decode cX4_words 84 = .ok (.aload_n 0, 1) := by decide +kernel
theorem dX4_words_85 : decode cX4_words 85 = .ok (.getfield 16, 3) := by decide +kernel
theorem dX4_words_88 : decode cX4_words 88 = .ok (.iload 4, 2) := by decide +kernel
theorem dX4_words_90 : decode cX4_words 90 = .ok (.laload, 1) := by decide +kernel
theorem dX4_words_91 : decode cX4_words 91 = .ok (.l2i, 1) := by decide +kernel
theorem dX4_words_92 : decode cX4_words 92 = .ok (.istore 4, 2) := by decide +kernel
theorem dX4_words_94 : decode cX4_words 94 = .ok (.goto (-24), 3) := by decide +kernel
theorem dX4_words_97 : decode cX4_words 97 = .ok (.aload_n 0, 1) := by decide +kernel
theorem dX4_words_98 : decode cX4_words 98 = .ok (.aload_n 0, 1) := by decide +kernel
theorem dX4_words_99 : decode cX4_words 99 = .ok (.getfield 61, 3) := by decide +kernel
theorem dX4_words_102 : decode cX4_words 102 = .ok (.invokevirtual 65, 3) := by decide +kernel
theorem dX4_words_105 : decode cX4_words 105 = .ok (.istore 4, 2) := by decide +kernel
theorem dX4_words_107 : decode cX4_words 107 = .ok (.aload_n 0, 1) := by decide +kernel
theorem dX4_words_108 : decode cX4_words 108 = .ok (.getfield 50, 3) := by decide +kernel
theorem dX4_words_111 : decode cX4_words 111 = .ok (.iload 4, 2) := by decide +kernel
theorem dX4_words_113 : decode cX4_words 113 = .ok (.baload, 1) := by decide +kernel
theorem dX4_words_114 : decode cX4_words 114 = .ok (.ifCond .eq 5, 3) := by decide +kernel
theorem dX4_words_117 : decode cX4_words 117 = .ok (.iload_n 2, 1) := by decide +kernel
theorem dX4_words_118 : decode cX4_words 118 = .ok (.ireturn, 1) := by decide +kernel
theorem dX4_words_119 : decode cX4_words 119 = .ok (.aload_n 0, 1) := by decide +kernel
theorem dX4_words_120 : decode cX4_words 120 = .ok (.getfield 50, 3) := by decide +kernel
theorem dX4_words_123 : decode cX4_words 123 = .ok (.iload 4, 2) := by decide +kernel
theorem dX4_words_125 : decode cX4_words 125 = .ok (.iconst 1, 1) := by decide +kernel
theorem dX4_words_126 : decode cX4_words 126 = .ok (.bastore, 1) := by decide +kernel
theorem dX4_words_127 : decode cX4_words 127 = .ok (.iload_n 2, 1) := by decide +kernel
theorem dX4_words_128 : decode cX4_words 128 = .ok (.iload_n 3, 1) := by decide +kernel
theorem dX4_words_129 : decode cX4_words 129 = .ok (.aload_n 0, 1) := by decide +kernel
theorem dX4_words_130 : decode cX4_words 130 = .ok (.getfield 7, 3) := by decide +kernel
theorem dX4_words_133 : decode cX4_words 133 = .ok (.iload 4, 2) := by decide +kernel
theorem dX4_words_135 : decode cX4_words 135 = .ok (.iaload, 1) := by decide +kernel
theorem dX4_words_136 : decode cX4_words 136 = .ok (.iconst 2, 1) := by decide +kernel
theorem dX4_words_137 : decode cX4_words 137 = .ok (.if_icmp .ne 7, 3) := by decide +kernel
theorem dX4_words_140 : decode cX4_words 140 = .ok (.iconst 2, 1) := by decide +kernel
theorem dX4_words_141 : decode cX4_words 141 = .ok (.goto 4, 3) := by decide +kernel
theorem dX4_words_144 : decode cX4_words 144 = .ok (.iconst 1, 1) := by decide +kernel
theorem dX4_words_145 : decode cX4_words 145 = .ok (.iadd, 1) := by decide +kernel
theorem dX4_words_146 : decode cX4_words 146 = .ok (.iadd, 1) := by decide +kernel
theorem dX4_words_147 : decode cX4_words 147 = .ok (.istore_n 2, 1) := by decide +kernel
theorem dX4_words_148 : decode cX4_words 148 = .ok (.aload_n 0, 1) := by decide +kernel
theorem dX4_words_149 : decode cX4_words 149 = .ok (.iload 4, 2) := by decide +kernel
theorem dX4_words_151 : decode cX4_words 151 = .ok (.invokevirtual 85, 3) := by decide +kernel
theorem dX4_words_154 : decode cX4_words 154 = .ok (.goto (-101), 3) := by decide +kernel
theorem dX4_words_157 : decode cX4_words 157 = .ok (.iload_n 2, 1) := by decide +kernel
theorem dX4_words_158 : decode cX4_words 158 = .ok (.ireturn, 1) := by decide +kernel
theorem dX4_meet_0 : decode cX4_meet 0 = .ok (.iload_n 1, 1) := by decide +kernel
theorem dX4_meet_1 : decode cX4_meet 1 = .ok (.iconst 2, 1) := by decide +kernel
theorem dX4_meet_2 : decode cX4_meet 2 = .ok (.if_icmp .ne 9, 3) := by decide +kernel
theorem dX4_meet_5 : decode cX4_meet 5 = .ok (.iload 4, 2) := by decide +kernel
theorem dX4_meet_7 : decode cX4_meet 7 = .ok (.iconst 2, 1) := by decide +kernel
theorem dX4_meet_8 : decode cX4_meet 8 = .ok (.if_icmp .eq 26, 3) := by decide +kernel
theorem dX4_meet_11 : decode cX4_meet 11 = .ok (.iload_n 1, 1) := by decide +kernel
theorem dX4_meet_12 : decode cX4_meet 12 = .ok (.iload 4, 2) := by decide +kernel
theorem dX4_meet_14 : decode cX4_meet 14 = .ok (.if_icmp .ne 18, 3) := by decide +kernel
theorem dX4_meet_17 : decode cX4_meet 17 = .ok (.iload_n 1, 1) := by decide +kernel
theorem dX4_meet_18 : decode cX4_meet 18 = .ok (.ifCond .eq 10, 3) := by decide +kernel
theorem dX4_meet_21 : decode cX4_meet 21 = .ok (.lload_n 2, 1) := by decide +kernel
theorem dX4_meet_22 : decode cX4_meet 22 = .ok (.lload 5, 2) := by decide +kernel
theorem dX4_meet_24 : decode cX4_meet 24 = .ok (.lcmp, 1) := by decide +kernel
theorem dX4_meet_25 : decode cX4_meet 25 = .ok (.ifCond .ne 7, 3) := by decide +kernel
theorem dX4_meet_28 : decode cX4_meet 28 = .ok (.iconst 1, 1) := by decide +kernel
theorem dX4_meet_29 : decode cX4_meet 29 = .ok (.goto 4, 3) := by decide +kernel
theorem dX4_meet_32 : decode cX4_meet 32 = .ok (.iconst 0, 1) := by decide +kernel
theorem dX4_meet_33 : decode cX4_meet 33 = .ok (.ireturn, 1) := by decide +kernel
theorem dX4_meet_34 : decode cX4_meet 34 = .ok (.aload_n 0, 1) := by decide +kernel
theorem dX4_meet_35 : decode cX4_meet 35 = .ok (.lload_n 2, 1) := by decide +kernel
theorem dX4_meet_36 : decode cX4_meet 36 = .ok (.invokevirtual 65, 3) := by decide +kernel
theorem dX4_meet_39 : decode cX4_meet 39 = .ok (.istore 7, 2) := by decide +kernel
theorem dX4_meet_41 : decode cX4_meet 41 = .ok (.aload_n 0, 1) := by decide +kernel
theorem dX4_meet_42 : decode cX4_meet 42 = .ok (.lload 5, 2) := by decide +kernel
theorem dX4_meet_44 : decode cX4_meet 44 = .ok (.invokevirtual 65, 3) := by decide +kernel
theorem dX4_meet_47 : decode cX4_meet 47 = .ok (.istore 8, 2) := by decide +kernel
theorem dX4_meet_49 : decode cX4_meet 49 = .ok (.aload_n 0, 1) := by decide +kernel
theorem dX4_meet_50 : decode cX4_meet 50 = .ok (.getfield 41, 3) := by decide +kernel
theorem dX4_meet_53 : decode cX4_meet 53 = .ok (.iload 7, 2) := by decide +kernel
theorem dX4_meet_55 : decode cX4_meet 55 = .ok (.iaload, 1) := by decide +kernel
theorem dX4_meet_56 : decode cX4_meet 56 = .ok (.iconst (-1), 1) := by decide +kernel
theorem dX4_meet_57 : decode cX4_meet 57 = .ok (.if_icmp .ne 53, 3) := by decide +kernel
theorem dX4_meet_60 : decode cX4_meet 60 = .ok (.aload_n 0, 1) := by decide +kernel
theorem dX4_meet_61 : decode cX4_meet 61 = .ok (.getfield 44, 3) := by decide +kernel
theorem dX4_meet_64 : decode cX4_meet 64 = .ok (.iload 8, 2) := by decide +kernel
theorem dX4_meet_66 : decode cX4_meet 66 = .ok (.iaload, 1) := by decide +kernel
theorem dX4_meet_67 : decode cX4_meet 67 = .ok (.iconst (-1), 1) := by decide +kernel
theorem dX4_meet_68 : decode cX4_meet 68 = .ok (.if_icmp .ne 42, 3) := by decide +kernel
theorem dX4_meet_71 : decode cX4_meet 71 = .ok (.aload_n 0, 1) := by decide +kernel
theorem dX4_meet_72 : decode cX4_meet 72 = .ok (.getfield 41, 3) := by decide +kernel
theorem dX4_meet_75 : decode cX4_meet 75 = .ok (.iload 7, 2) := by decide +kernel
theorem dX4_meet_77 : decode cX4_meet 77 = .ok (.iload 8, 2) := by decide +kernel
theorem dX4_meet_79 : decode cX4_meet 79 = .ok (.iastore, 1) := by decide +kernel
theorem dX4_meet_80 : decode cX4_meet 80 = .ok (.aload_n 0, 1) := by decide +kernel
theorem dX4_meet_81 : decode cX4_meet 81 = .ok (.getfield 44, 3) := by decide +kernel
theorem dX4_meet_84 : decode cX4_meet 84 = .ok (.iload 8, 2) := by decide +kernel
theorem dX4_meet_86 : decode cX4_meet 86 = .ok (.iload 7, 2) := by decide +kernel
theorem dX4_meet_88 : decode cX4_meet 88 = .ok (.iastore, 1) := by decide +kernel
theorem dX4_meet_89 : decode cX4_meet 89 = .ok (.aload_n 0, 1) := by decide +kernel
theorem dX4_meet_90 : decode cX4_meet 90 = .ok (.getfield 47, 3) := by decide +kernel
theorem dX4_meet_93 : decode cX4_meet 93 = .ok (.aload_n 0, 1) := by decide +kernel
theorem dX4_meet_94 : decode cX4_meet 94 = .ok (.getfield 79, 3) := by decide +kernel
theorem dX4_meet_97 : decode cX4_meet 97 = .ok (.iload 7, 2) := by decide +kernel
theorem dX4_meet_99 : decode cX4_meet 99 = .ok (.iastore, 1) := by decide +kernel
theorem dX4_meet_100 : decode cX4_meet 100 = .ok (.aload_n 0, 1) := by decide +kernel
theorem dX4_meet_101 : decode cX4_meet 101 = .ok (.dup, 1) := by decide +kernel
theorem dX4_meet_102 : decode cX4_meet 102 = .ok (.getfield 79, 3) := by decide +kernel
theorem dX4_meet_105 : decode cX4_meet 105 = .ok (.iconst 1, 1) := by decide +kernel
theorem dX4_meet_106 : decode cX4_meet 106 = .ok (.iadd, 1) := by decide +kernel
theorem dX4_meet_107 : decode cX4_meet 107 = .ok (.putfield 79, 3) := by decide +kernel
theorem dX4_meet_110 : decode cX4_meet 110 = .ok (.aload_n 0, 1) := by decide +kernel
theorem dX4_meet_111 : decode cX4_meet 111 = .ok (.getfield 41, 3) := by decide +kernel
theorem dX4_meet_114 : decode cX4_meet 114 = .ok (.iload 7, 2) := by decide +kernel
theorem dX4_meet_116 : decode cX4_meet 116 = .ok (.iaload, 1) := by decide +kernel
theorem dX4_meet_117 : decode cX4_meet 117 = .ok (.iload 8, 2) := by decide +kernel
theorem dX4_meet_119 : decode cX4_meet 119 = .ok (.if_icmp .ne 7, 3) := by decide +kernel
theorem dX4_meet_122 : decode cX4_meet 122 = .ok (.iconst 1, 1) := by decide +kernel
theorem dX4_meet_123 : decode cX4_meet 123 = .ok (.goto 4, 3) := by decide +kernel
theorem dX4_meet_126 : decode cX4_meet 126 = .ok (.iconst 0, 1) := by decide +kernel
theorem dX4_meet_127 : decode cX4_meet 127 = .ok (.ireturn, 1) := by decide +kernel
theorem dX4_alike_0 : decode cX4_alike 0 = .ok (.aload_n 0, 1) := by decide +kernel
theorem dX4_alike_1 : decode cX4_alike 1 = .ok (.iload_n 1, 1) := by decide +kernel
theorem dX4_alike_2 : decode cX4_alike 2 = .ok (.invokestatic 102, 3) := by decide +kernel
theorem dX4_alike_5 : decode cX4_alike 5 = .ok (.ifCond .ne 10, 3) := by decide +kernel
theorem dX4_alike_8 : decode cX4_alike 8 = .ok (.iload_n 2, 1) := by decide +kernel
theorem dX4_alike_9 : decode cX4_alike 9 = .ok (.invokestatic 102, 3) := by decide +kernel
theorem dX4_alike_12 : decode cX4_alike 12 = .ok (.ifCond .eq 7, 3) := by decide +kernel
theorem dX4_alike_15 : decode cX4_alike 15 = .ok (.iconst 1, 1) := by decide +kernel
theorem dX4_alike_16 : decode cX4_alike 16 = .ok (.goto 4, 3) := by decide +kernel
theorem dX4_alike_19 : decode cX4_alike 19 = .ok (.iconst 0, 1) := by decide +kernel
theorem dX4_alike_20 : decode cX4_alike 20 = .ok (.iconst 0, 1) := by decide +kernel
theorem dX4_alike_21 : decode cX4_alike 21 = .ok (.invokevirtual 110, 3) := by decide +kernel
theorem dX4_alike_24 : decode cX4_alike 24 = .ok (.ifCond .eq 5, 3) := by decide +kernel
theorem dX4_alike_27 : decode cX4_alike 27 = .ok (.iconst 0, 1) := by decide +kernel
theorem dX4_alike_28 : decode cX4_alike 28 = .ok (.ireturn, 1) := by decide +kernel
theorem dX4_alike_29 : decode cX4_alike 29 = .ok (.aload_n 0, 1) := by decide +kernel
theorem dX4_alike_30 : decode cX4_alike 30 = .ok (.aload_n 0, 1) := by decide +kernel
theorem dX4_alike_31 : decode cX4_alike 31 = .ok (.getfield 20, 3) := by decide +kernel
theorem dX4_alike_34 : decode cX4_alike 34 = .ok (.iload_n 1, 1) := by decide +kernel
theorem dX4_alike_35 : decode cX4_alike 35 = .ok (.iaload, 1) := by decide +kernel
theorem dX4_alike_36 : decode cX4_alike 36 = .ok (.aload_n 0, 1) := by decide +kernel
theorem dX4_alike_37 : decode cX4_alike 37 = .ok (.getfield 23, 3) := by decide +kernel
theorem dX4_alike_40 : decode cX4_alike 40 = .ok (.iload_n 1, 1) := by decide +kernel
theorem dX4_alike_41 : decode cX4_alike 41 = .ok (.laload, 1) := by decide +kernel
theorem dX4_alike_42 : decode cX4_alike 42 = .ok (.aload_n 0, 1) := by decide +kernel
theorem dX4_alike_43 : decode cX4_alike 43 = .ok (.getfield 20, 3) := by decide +kernel
theorem dX4_alike_46 : decode cX4_alike 46 = .ok (.iload_n 2, 1) := by decide +kernel
theorem dX4_alike_47 : decode cX4_alike 47 = .ok (.iaload, 1) := by decide +kernel
theorem dX4_alike_48 : decode cX4_alike 48 = .ok (.aload_n 0, 1) := by decide +kernel
theorem dX4_alike_49 : decode cX4_alike 49 = .ok (.getfield 23, 3) := by decide +kernel
theorem dX4_alike_52 : decode cX4_alike 52 = .ok (.iload_n 2, 1) := by decide +kernel
theorem dX4_alike_53 : decode cX4_alike 53 = .ok (.laload, 1) := by decide +kernel
theorem dX4_alike_54 : decode cX4_alike 54 = .ok (.invokevirtual 128, 3) := by decide +kernel
theorem dX4_alike_57 : decode cX4_alike 57 = .ok (.ifCond .eq 5, 3) := by decide +kernel
theorem dX4_alike_60 : decode cX4_alike 60 = .ok (.iconst 1, 1) := by decide +kernel
theorem dX4_alike_61 : decode cX4_alike 61 = .ok (.ireturn, 1) := by decide +kernel
theorem dX4_alike_62 : decode cX4_alike 62 = .ok (.iconst 0, 1) := by decide +kernel
theorem dX4_alike_63 : decode cX4_alike 63 = .ok (.istore_n 3, 1) := by decide +kernel
theorem dX4_alike_64 : decode cX4_alike 64 = .ok (.iload_n 3, 1) := by decide +kernel
theorem dX4_alike_65 : decode cX4_alike 65 = .ok (.bipush 120, 2) := by decide +kernel
theorem dX4_alike_67 : decode cX4_alike 67 = .ok (.if_icmp .ge 23, 3) := by decide +kernel
theorem dX4_alike_70 : decode cX4_alike 70 = .ok (.aload_n 0, 1) := by decide +kernel
theorem dX4_alike_71 : decode cX4_alike 71 = .ok (.getfield 41, 3) := by decide +kernel
theorem dX4_alike_74 : decode cX4_alike 74 = .ok (.iload_n 3, 1) := by decide +kernel
theorem dX4_alike_75 : decode cX4_alike 75 = .ok (.iconst (-1), 1) := by decide +kernel
theorem dX4_alike_76 : decode cX4_alike 76 = .ok (.iastore, 1) := by decide +kernel
theorem dX4_alike_77 : decode cX4_alike 77 = .ok (.aload_n 0, 1) := by decide +kernel
theorem dX4_alike_78 : decode cX4_alike 78 = .ok (.getfield 44, 3) := by decide +kernel
theorem dX4_alike_81 : decode cX4_alike 81 = .ok (.iload_n 3, 1) := by decide +kernel
theorem dX4_alike_82 : decode cX4_alike 82 = .ok (.iconst (-1), 1) := by decide +kernel
theorem dX4_alike_83 : decode cX4_alike 83 = .ok (.iastore, 1) := by decide +kernel
theorem dX4_alike_84 : decode cX4_alike 84 = .ok (.iinc 3 1, 3) := by decide +kernel
theorem dX4_alike_87 : decode cX4_alike 87 = .ok (.goto (-23), 3) := by decide +kernel
theorem dX4_alike_90 : decode cX4_alike 90 = .ok (.aload_n 0, 1) := by decide +kernel
theorem dX4_alike_91 : decode cX4_alike 91 = .ok (.iconst 0, 1) := by decide +kernel
theorem dX4_alike_92 : decode cX4_alike 92 = .ok (.putfield 79, 3) := by decide +kernel
theorem dX4_alike_95 : decode cX4_alike 95 = .ok (.aload_n 0, 1) := by decide +kernel
theorem dX4_alike_96 : decode cX4_alike 96 = .ok (.aload_n 0, 1) := by decide +kernel
theorem dX4_alike_97 : decode cX4_alike 97 = .ok (.getfield 20, 3) := by decide +kernel
theorem dX4_alike_100 : decode cX4_alike 100 = .ok (.iload_n 1, 1) := by decide +kernel
theorem dX4_alike_101 : decode cX4_alike 101 = .ok (.iaload, 1) := by decide +kernel
theorem dX4_alike_102 : decode cX4_alike 102 = .ok (.aload_n 0, 1) := by decide +kernel
theorem dX4_alike_103 : decode cX4_alike 103 = .ok (.getfield 23, 3) := by decide +kernel
theorem dX4_alike_106 : decode cX4_alike 106 = .ok (.iload_n 1, 1) := by decide +kernel
theorem dX4_alike_107 : decode cX4_alike 107 = .ok (.laload, 1) := by decide +kernel
theorem dX4_alike_108 : decode cX4_alike 108 = .ok (.aload_n 0, 1) := by decide +kernel
theorem dX4_alike_109 : decode cX4_alike 109 = .ok (.getfield 20, 3) := by decide +kernel
theorem dX4_alike_112 : decode cX4_alike 112 = .ok (.iload_n 2, 1) := by decide +kernel
theorem dX4_alike_113 : decode cX4_alike 113 = .ok (.iaload, 1) := by decide +kernel
theorem dX4_alike_114 : decode cX4_alike 114 = .ok (.aload_n 0, 1) := by decide +kernel
theorem dX4_alike_115 : decode cX4_alike 115 = .ok (.getfield 23, 3) := by decide +kernel
theorem dX4_alike_118 : decode cX4_alike 118 = .ok (.iload_n 2, 1) := by decide +kernel
theorem dX4_alike_119 : decode cX4_alike 119 = .ok (.laload, 1) := by decide +kernel
theorem dX4_alike_120 : decode cX4_alike 120 = .ok (.invokevirtual 136, 3) := by decide +kernel
theorem dX4_alike_123 : decode cX4_alike 123 = .ok (.istore_n 3, 1) := by decide +kernel
theorem dX4_alike_124 : decode cX4_alike 124 = .ok (.iconst 0, 1) := by decide +kernel
theorem dX4_alike_125 : decode cX4_alike 125 = .ok (.istore 4, 2) := by decide +kernel
theorem dX4_alike_127 : decode cX4_alike 127 = .ok (.iload 4, 2) := by decide +kernel
theorem dX4_alike_129 : decode cX4_alike 129 = .ok (.aload_n 0, 1) := by decide +kernel
theorem dX4_alike_130 : decode cX4_alike 130 = .ok (.getfield 79, 3) := by decide +kernel
theorem dX4_alike_133 : decode cX4_alike 133 = .ok (.if_icmp .ge 117, 3) := by decide +kernel
theorem dX4_alike_136 : decode cX4_alike 136 = .ok (.iload_n 3, 1) := by decide +kernel
theorem dX4_alike_137 : decode cX4_alike 137 = .ok (.ifCond .eq 113, 3) := by decide +kernel
theorem dX4_alike_140 : decode cX4_alike 140 = .ok (.aload_n 0, 1) := by decide +kernel
theorem dX4_alike_141 : decode cX4_alike 141 = .ok (.getfield 47, 3) := by decide +kernel
theorem dX4_alike_144 : decode cX4_alike 144 = .ok (.iload 4, 2) := by decide +kernel
theorem dX4_alike_146 : decode cX4_alike 146 = .ok (.iaload, 1) := by decide +kernel
theorem dX4_alike_147 : decode cX4_alike 147 = .ok (.istore 5, 2) := by decide +kernel
theorem dX4_alike_149 : decode cX4_alike 149 = .ok (.aload_n 0, 1) := by decide +kernel
theorem dX4_alike_150 : decode cX4_alike 150 = .ok (.getfield 41, 3) := by decide +kernel
theorem dX4_alike_153 : decode cX4_alike 153 = .ok (.iload 5, 2) := by decide +kernel
theorem dX4_alike_155 : decode cX4_alike 155 = .ok (.iaload, 1) := by decide +kernel
theorem dX4_alike_156 : decode cX4_alike 156 = .ok (.istore 6, 2) := by decide +kernel
theorem dX4_alike_158 : decode cX4_alike 158 = .ok (.aload_n 0, 1) := by decide +kernel
theorem dX4_alike_159 : decode cX4_alike 159 = .ok (.aload_n 0, 1) := by decide +kernel
theorem dX4_alike_160 : decode cX4_alike 160 = .ok (.getfield 13, 3) := by decide +kernel
theorem dX4_alike_163 : decode cX4_alike 163 = .ok (.iload 5, 2) := by decide +kernel
theorem dX4_alike_165 : decode cX4_alike 165 = .ok (.iaload, 1) := by decide +kernel
theorem dX4_alike_166 : decode cX4_alike 166 = .ok (.aload_n 0, 1) := by decide +kernel
theorem dX4_alike_167 : decode cX4_alike 167 = .ok (.getfield 16, 3) := by decide +kernel
theorem dX4_alike_170 : decode cX4_alike 170 = .ok (.iload 5, 2) := by decide +kernel
theorem dX4_alike_172 : decode cX4_alike 172 = .ok (.laload, 1) := by decide +kernel
theorem dX4_alike_173 : decode cX4_alike 173 = .ok (.aload_n 0, 1) := by decide +kernel
theorem dX4_alike_174 : decode cX4_alike 174 = .ok (.getfield 13, 3) := by decide +kernel
theorem dX4_alike_177 : decode cX4_alike 177 = .ok (.iload 6, 2) := by decide +kernel
theorem dX4_alike_179 : decode cX4_alike 179 = .ok (.iaload, 1) := by decide +kernel
theorem dX4_alike_180 : decode cX4_alike 180 = .ok (.aload_n 0, 1) := by decide +kernel
theorem dX4_alike_181 : decode cX4_alike 181 = .ok (.getfield 16, 3) := by decide +kernel
theorem dX4_alike_184 : decode cX4_alike 184 = .ok (.iload 6, 2) := by decide +kernel
theorem dX4_alike_186 : decode cX4_alike 186 = .ok (.laload, 1) := by decide +kernel
theorem dX4_alike_187 : decode cX4_alike 187 = .ok (.invokevirtual 136, 3) := by decide +kernel
theorem dX4_alike_190 : decode cX4_alike 190 = .ok (.istore_n 3, 1) := by decide +kernel
theorem dX4_alike_191 : decode cX4_alike 191 = .ok (.aload_n 0, 1) := by decide +kernel
theorem dX4_alike_192 : decode cX4_alike 192 = .ok (.iload 5, 2) := by decide +kernel
theorem dX4_alike_194 : decode cX4_alike 194 = .ok (.invokevirtual 85, 3) := by decide +kernel
theorem dX4_alike_197 : decode cX4_alike 197 = .ok (.aload_n 0, 1) := by decide +kernel
theorem dX4_alike_198 : decode cX4_alike 198 = .ok (.getfield 58, 3) := by decide +kernel
theorem dX4_alike_201 : decode cX4_alike 201 = .ok (.istore 7, 2) := by decide +kernel
theorem dX4_alike_203 : decode cX4_alike 203 = .ok (.aload_n 0, 1) := by decide +kernel
theorem dX4_alike_204 : decode cX4_alike 204 = .ok (.getfield 61, 3) := by decide +kernel
theorem dX4_alike_207 : decode cX4_alike 207 = .ok (.lstore 8, 2) := by decide +kernel
theorem dX4_alike_209 : decode cX4_alike 209 = .ok (.aload_n 0, 1) := by decide +kernel
theorem dX4_alike_210 : decode cX4_alike 210 = .ok (.iload 6, 2) := by decide +kernel
theorem dX4_alike_212 : decode cX4_alike 212 = .ok (.invokevirtual 85, 3) := by decide +kernel
theorem dX4_alike_215 : decode cX4_alike 215 = .ok (.iload_n 3, 1) := by decide +kernel
theorem dX4_alike_216 : decode cX4_alike 216 = .ok (.ifCond .eq 26, 3) := by decide +kernel
theorem dX4_alike_219 : decode cX4_alike 219 = .ok (.aload_n 0, 1) := by decide +kernel
theorem dX4_alike_220 : decode cX4_alike 220 = .ok (.iload 7, 2) := by decide +kernel
theorem dX4_alike_222 : decode cX4_alike 222 = .ok (.lload 8, 2) := by decide +kernel
theorem dX4_alike_224 : decode cX4_alike 224 = .ok (.aload_n 0, 1) := by decide +kernel
theorem dX4_alike_225 : decode cX4_alike 225 = .ok (.getfield 58, 3) := by decide +kernel
theorem dX4_alike_228 : decode cX4_alike 228 = .ok (.aload_n 0, 1) := by decide +kernel
theorem dX4_alike_229 : decode cX4_alike 229 = .ok (.getfield 61, 3) := by decide +kernel
theorem dX4_alike_232 : decode cX4_alike 232 = .ok (.invokevirtual 136, 3) := by decide +kernel
theorem dX4_alike_235 : decode cX4_alike 235 = .ok (.ifCond .eq 7, 3) := by decide +kernel
theorem dX4_alike_238 : decode cX4_alike 238 = .ok (.iconst 1, 1) := by decide +kernel
theorem dX4_alike_239 : decode cX4_alike 239 = .ok (.goto 4, 3) := by decide +kernel
theorem dX4_alike_242 : decode cX4_alike 242 = .ok (.iconst 0, 1) := by decide +kernel
theorem dX4_alike_243 : decode cX4_alike 243 = .ok (.istore_n 3, 1) := by decide +kernel
theorem dX4_alike_244 : decode cX4_alike 244 = .ok (.iinc 4 1, 3) := by decide +kernel
theorem dX4_alike_247 : decode cX4_alike 247 = .ok (.goto (-120), 3) := by decide +kernel
theorem dX4_alike_250 : decode cX4_alike 250 = .ok (.iload_n 3, 1) := by decide +kernel
theorem dX4_alike_251 : decode cX4_alike 251 = .ok (.ireturn, 1) := by decide +kernel
theorem dX4_collect_0 : decode cX4_collect 0 = .ok (.aload_n 0, 1) := by decide +kernel
theorem dX4_collect_1 : decode cX4_collect 1 = .ok (.iconst 0, 1) := by decide +kernel
theorem dX4_collect_2 : decode cX4_collect 2 = .ok (.putfield 54, 3) := by decide +kernel
theorem dX4_collect_5 : decode cX4_collect 5 = .ok (.aload_n 0, 1) := by decide +kernel
theorem dX4_collect_6 : decode cX4_collect 6 = .ok (.invokevirtual 76, 3) := by decide +kernel
theorem dX4_collect_9 : decode cX4_collect 9 = .ok (.aload_n 0, 1) := by decide +kernel
theorem dX4_collect_10 : decode cX4_collect 10 = .ok (.getfield 73, 3) := by decide +kernel
theorem dX4_collect_13 : decode cX4_collect 13 = .ok (.ireturn, 1) := by decide +kernel
theorem dX4_about_0 : decode cX4_about 0 = .ok (.aload_n 0, 1) := by decide +kernel
theorem dX4_about_1 : decode cX4_about 1 = .ok (.iconst 0, 1) := by decide +kernel
theorem dX4_about_2 : decode cX4_about 2 = .ok (.putfield 54, 3) := by decide +kernel
theorem dX4_about_5 : decode cX4_about 5 = .ok (.iconst 0, 1) := by decide +kernel
theorem dX4_about_6 : decode cX4_about 6 = .ok (.istore_n 2, 1) := by decide +kernel
theorem dX4_about_7 : decode cX4_about 7 = .ok (.iconst 0, 1) := by decide +kernel
theorem dX4_about_8 : decode cX4_about 8 = .ok (.istore_n 3, 1) := by decide +kernel
theorem dX4_about_9 : decode cX4_about 9 = .ok (.iload_n 3, 1) := by decide +kernel
theorem dX4_about_10 : decode cX4_about 10 = .ok (.aload_n 0, 1) := by decide +kernel
theorem dX4_about_11 : decode cX4_about 11 = .ok (.getfield 73, 3) := by decide +kernel
theorem dX4_about_14 : decode cX4_about 14 = .ok (.if_icmp .ge 27, 3) := by decide +kernel
theorem dX4_about_17 : decode cX4_about 17 = .ok (.iload_n 2, 1) := by decide +kernel
theorem dX4_about_18 : decode cX4_about 18 = .ok (.aload_n 0, 1) := by decide +kernel
theorem dX4_about_19 : decode cX4_about 19 = .ok (.getfield 13, 3) := by decide +kernel
theorem dX4_about_22 : decode cX4_about 22 = .ok (.iload_n 3, 1) := by decide +kernel
theorem dX4_about_23 : decode cX4_about 23 = .ok (.iaload, 1) := by decide +kernel
theorem dX4_about_24 : decode cX4_about 24 = .ok (.iconst 3, 1) := by decide +kernel
theorem dX4_about_25 : decode cX4_about 25 = .ok (.if_icmp .ne 7, 3) := by decide +kernel
theorem dX4_about_28 : decode cX4_about 28 = .ok (.iconst 1, 1) := by decide +kernel
theorem dX4_about_29 : decode cX4_about 29 = .ok (.goto 4, 3) := by decide +kernel
theorem dX4_about_32 : decode cX4_about 32 = .ok (.iconst 0, 1) := by decide +kernel
theorem dX4_about_33 : decode cX4_about 33 = .ok (.iadd, 1) := by decide +kernel
theorem dX4_about_34 : decode cX4_about 34 = .ok (.istore_n 2, 1) := by decide +kernel
theorem dX4_about_35 : decode cX4_about 35 = .ok (.iinc 3 1, 3) := by decide +kernel
theorem dX4_about_38 : decode cX4_about 38 = .ok (.goto (-29), 3) := by decide +kernel
theorem dX4_about_41 : decode cX4_about 41 = .ok (.iload_n 1, 1) := by decide +kernel
theorem dX4_about_42 : decode cX4_about 42 = .ok (.ifCond .ne 10, 3) := by decide +kernel
theorem dX4_about_45 : decode cX4_about 45 = .ok (.aload_n 0, 1) := by decide +kernel
theorem dX4_about_46 : decode cX4_about 46 = .ok (.getfield 73, 3) := by decide +kernel
theorem dX4_about_49 : decode cX4_about 49 = .ok (.goto 25, 3) := by decide +kernel
theorem dX4_about_52 : decode cX4_about 52 = .ok (.iload_n 1, 1) := by decide +kernel
theorem dX4_about_53 : decode cX4_about 53 = .ok (.iconst 1, 1) := by decide +kernel
theorem dX4_about_54 : decode cX4_about 54 = .ok (.if_icmp .ne 7, 3) := by decide +kernel
theorem dX4_about_57 : decode cX4_about 57 = .ok (.iload_n 2, 1) := by decide +kernel
theorem dX4_about_58 : decode cX4_about 58 = .ok (.goto 16, 3) := by decide +kernel
theorem dX4_about_61 : decode cX4_about 61 = .ok (.iload_n 1, 1) := by decide +kernel
theorem dX4_about_62 : decode cX4_about 62 = .ok (.iconst 2, 1) := by decide +kernel
theorem dX4_about_63 : decode cX4_about 63 = .ok (.if_icmp .ne 10, 3) := by decide +kernel
theorem dX4_about_66 : decode cX4_about 66 = .ok (.aload_n 0, 1) := by decide +kernel
theorem dX4_about_67 : decode cX4_about 67 = .ok (.getfield 93, 3) := by decide +kernel
theorem dX4_about_70 : decode cX4_about 70 = .ok (.goto 4, 3) := by decide +kernel
theorem dX4_about_73 : decode cX4_about 73 = .ok (.iconst (-1), 1) := by decide +kernel
theorem dX4_about_74 : decode cX4_about 74 = .ok (.ireturn, 1) := by decide +kernel
theorem dX4_word_0 : decode cX4_word 0 = .ok (.iload_n 1, 1) := by decide +kernel
theorem dX4_word_1 : decode cX4_word 1 = .ok (.ifCond .lt 11, 3) := by decide +kernel
theorem dX4_word_4 : decode cX4_word 4 = .ok (.iload_n 1, 1) := by decide +kernel
theorem dX4_word_5 : decode cX4_word 5 = .ok (.aload_n 0, 1) := by decide +kernel
theorem dX4_word_6 : decode cX4_word 6 = .ok (.getfield 73, 3) := by decide +kernel
theorem dX4_word_9 : decode cX4_word 9 = .ok (.if_icmp .lt 7, 3) := by decide +kernel
theorem dX4_word_12 : decode cX4_word 12 = .ok (.iconst 1, 1) := by decide +kernel
theorem dX4_word_13 : decode cX4_word 13 = .ok (.goto 4, 3) := by decide +kernel
theorem dX4_word_16 : decode cX4_word 16 = .ok (.iconst 0, 1) := by decide +kernel
theorem dX4_word_17 : decode cX4_word 17 = .ok (.istore_n 3, 1) := by decide +kernel
theorem dX4_word_18 : decode cX4_word 18 = .ok (.aload_n 0, 1) := by decide +kernel
theorem dX4_word_19 : decode cX4_word 19 = .ok (.iload_n 3, 1) := by decide +kernel
theorem dX4_word_20 : decode cX4_word 20 = .ok (.iload_n 2, 1) := by decide +kernel
theorem dX4_word_21 : decode cX4_word 21 = .ok (.ifCond .lt 8, 3) := by decide +kernel
theorem dX4_word_24 : decode cX4_word 24 = .ok (.iload_n 2, 1) := by decide +kernel
theorem dX4_word_25 : decode cX4_word 25 = .ok (.iconst 2, 1) := by decide +kernel
theorem dX4_word_26 : decode cX4_word 26 = .ok (.if_icmp .le 7, 3) := by decide +kernel
theorem dX4_word_29 : decode cX4_word 29 = .ok (.iconst 1, 1) := by decide +kernel
theorem dX4_word_30 : decode cX4_word 30 = .ok (.goto 4, 3) := by decide +kernel
theorem dX4_word_33 : decode cX4_word 33 = .ok (.iconst 0, 1) := by decide +kernel
theorem dX4_word_34 : decode cX4_word 34 = .ok (.invokevirtual 110, 3) := by decide +kernel
theorem dX4_word_37 : decode cX4_word 37 = .ok (.ifCond .eq 5, 3) := by decide +kernel
theorem dX4_word_40 : decode cX4_word 40 = .ok (.lconst 0, 1) := by decide +kernel
theorem dX4_word_41 : decode cX4_word 41 = .ok (.lreturn, 1) := by decide +kernel
theorem dX4_word_42 : decode cX4_word 42 = .ok (.iload_n 2, 1) := by decide +kernel
theorem dX4_word_43 : decode cX4_word 43 = .ok (.ifCond .ne 13, 3) := by decide +kernel
theorem dX4_word_46 : decode cX4_word 46 = .ok (.aload_n 0, 1) := by decide +kernel
theorem dX4_word_47 : decode cX4_word 47 = .ok (.getfield 7, 3) := by decide +kernel
theorem dX4_word_50 : decode cX4_word 50 = .ok (.iload_n 1, 1) := by decide +kernel
theorem dX4_word_51 : decode cX4_word 51 = .ok (.iaload, 1) := by decide +kernel
theorem dX4_word_52 : decode cX4_word 52 = .ok (.i2l, 1) := by decide +kernel
theorem dX4_word_53 : decode cX4_word 53 = .ok (.goto 37, 3) := by decide +kernel
theorem dX4_word_56 : decode cX4_word 56 = .ok (.iload_n 2, 1) := by decide +kernel
theorem dX4_word_57 : decode cX4_word 57 = .ok (.iconst 1, 1) := by decide +kernel
theorem dX4_word_58 : decode cX4_word 58 = .ok (.if_icmp .ne 13, 3) := by decide +kernel
theorem dX4_word_61 : decode cX4_word 61 = .ok (.aload_n 0, 1) := by decide +kernel
theorem dX4_word_62 : decode cX4_word 62 = .ok (.getfield 13, 3) := by decide +kernel
theorem dX4_word_65 : decode cX4_word 65 = .ok (.iload_n 1, 1) := by decide +kernel
theorem dX4_word_66 : decode cX4_word 66 = .ok (.iaload, 1) := by decide +kernel
theorem dX4_word_67 : decode cX4_word 67 = .ok (.i2l, 1) := by decide +kernel
theorem dX4_word_68 : decode cX4_word 68 = .ok (.goto 22, 3) := by decide +kernel
theorem dX4_word_71 : decode cX4_word 71 = .ok (.aload_n 0, 1) := by decide +kernel
theorem dX4_word_72 : decode cX4_word 72 = .ok (.getfield 13, 3) := by decide +kernel
theorem dX4_word_75 : decode cX4_word 75 = .ok (.iload_n 1, 1) := by decide +kernel
theorem dX4_word_76 : decode cX4_word 76 = .ok (.iaload, 1) := by decide +kernel
theorem dX4_word_77 : decode cX4_word 77 = .ok (.ifCond .ne 7, 3) := by decide +kernel
theorem dX4_word_80 : decode cX4_word 80 = .ok (.lconst 0, 1) := by decide +kernel
theorem dX4_word_81 : decode cX4_word 81 = .ok (.goto 9, 3) := by decide +kernel
theorem dX4_word_84 : decode cX4_word 84 = .ok (.aload_n 0, 1) := by decide +kernel
theorem dX4_word_85 : decode cX4_word 85 = .ok (.getfield 16, 3) := by decide +kernel
theorem dX4_word_88 : decode cX4_word 88 = .ok (.iload_n 1, 1) := by decide +kernel
theorem dX4_word_89 : decode cX4_word 89 = .ok (.laload, 1) := by decide +kernel
theorem dX4_word_90 : decode cX4_word 90 = .ok (.lreturn, 1) := by decide +kernel
theorem dL_number_0 : decode cL_number 0 = .ok (.aload_n 0, 1) := by decide +kernel
theorem dL_number_1 : decode cL_number 1 = .ok (.iload_n 1, 1) := by decide +kernel
theorem dL_number_2 : decode cL_number 2 = .ok (.lload_n 2, 1) := by decide +kernel
theorem dL_number_3 : decode cL_number 3 = .ok (.invokevirtual 7, 3) := by decide +kernel
theorem dL_number_6 : decode cL_number 6 = .ok (.goto 11, 3) := by decide +kernel
theorem dL_number_9 : decode cL_number 9 = .ok (.astore 4, 2) := by decide +kernel
theorem dL_number_11 : decode cL_number 11 = .ok (.iconst 1, 1) := by decide +kernel
theorem dL_number_12 : decode cL_number 12 = .ok (.ireturn, 1) := by decide +kernel
theorem dL_number_13 : decode cL_number 13 = .ok (.astore 4, 2) := by decide +kernel
theorem dL_number_15 : decode cL_number 15 = .ok (.iconst 2, 1) := by decide +kernel
theorem dL_number_16 : decode cL_number 16 = .ok (.ireturn, 1) := by decide +kernel
theorem dL_number_17 : decode cL_number 17 = .ok (.iconst 0, 1) := by decide +kernel
theorem dL_number_18 : decode cL_number 18 = .ok (.ireturn, 1) := by decide +kernel
theorem dL_drop_0 : decode cL_drop 0 = .ok (.aload_n 0, 1) := by decide +kernel
theorem dL_drop_1 : decode cL_drop 1 = .ok (.iload_n 1, 1) := by decide +kernel
theorem dL_drop_2 : decode cL_drop 2 = .ok (.invokevirtual 17, 3) := by decide +kernel
theorem dL_drop_5 : decode cL_drop 5 = .ok (.goto 6, 3) := by decide +kernel
theorem dL_drop_8 : decode cL_drop 8 = .ok (.astore_n 2, 1) := by decide +kernel
theorem dL_drop_9 : decode cL_drop 9 = .ok (.iconst 1, 1) := by decide +kernel
theorem dL_drop_10 : decode cL_drop 10 = .ok (.ireturn, 1) := by decide +kernel
theorem dL_drop_11 : decode cL_drop 11 = .ok (.iconst 0, 1) := by decide +kernel
theorem dL_drop_12 : decode cL_drop 12 = .ok (.ireturn, 1) := by decide +kernel
theorem dL_copy_0 : decode cL_copy 0 = .ok (.aload_n 0, 1) := by decide +kernel
theorem dL_copy_1 : decode cL_copy 1 = .ok (.iload_n 1, 1) := by decide +kernel
theorem dL_copy_2 : decode cL_copy 2 = .ok (.iload_n 2, 1) := by decide +kernel
theorem dL_copy_3 : decode cL_copy 3 = .ok (.invokevirtual 21, 3) := by decide +kernel
theorem dL_copy_6 : decode cL_copy 6 = .ok (.goto 6, 3) := by decide +kernel
theorem dL_copy_9 : decode cL_copy 9 = .ok (.astore_n 3, 1) := by decide +kernel
theorem dL_copy_10 : decode cL_copy 10 = .ok (.iconst 1, 1) := by decide +kernel
theorem dL_copy_11 : decode cL_copy 11 = .ok (.ireturn, 1) := by decide +kernel
theorem dL_copy_12 : decode cL_copy 12 = .ok (.iconst 0, 1) := by decide +kernel
theorem dL_copy_13 : decode cL_copy 13 = .ok (.ireturn, 1) := by decide +kernel
theorem dL_cons_0 : decode cL_cons 0 = .ok (.aload_n 0, 1) := by decide +kernel
theorem dL_cons_1 : decode cL_cons 1 = .ok (.iload_n 1, 1) := by decide +kernel
theorem dL_cons_2 : decode cL_cons 2 = .ok (.iload_n 2, 1) := by decide +kernel
theorem dL_cons_3 : decode cL_cons 3 = .ok (.iload_n 3, 1) := by decide +kernel
theorem dL_cons_4 : decode cL_cons 4 = .ok (.invokevirtual 25, 3) := by decide +kernel
theorem dL_cons_7 : decode cL_cons 7 = .ok (.goto 11, 3) := by decide +kernel
theorem dL_cons_10 : decode cL_cons 10 = .ok (.astore 4, 2) := by decide +kernel
theorem dL_cons_12 : decode cL_cons 12 = .ok (.iconst 1, 1) := by decide +kernel
theorem dL_cons_13 : decode cL_cons 13 = .ok (.ireturn, 1) := by decide +kernel
theorem dL_cons_14 : decode cL_cons 14 = .ok (.astore 4, 2) := by decide +kernel
theorem dL_cons_16 : decode cL_cons 16 = .ok (.iconst 2, 1) := by decide +kernel
theorem dL_cons_17 : decode cL_cons 17 = .ok (.ireturn, 1) := by decide +kernel
theorem dL_cons_18 : decode cL_cons 18 = .ok (.iconst 0, 1) := by decide +kernel
theorem dL_cons_19 : decode cL_cons 19 = .ok (.ireturn, 1) := by decide +kernel
theorem dL_list_0 : decode cL_list 0 = .ok (.aload_n 0, 1) := by decide +kernel
theorem dL_list_1 : decode cL_list 1 = .ok (.iload_n 1, 1) := by decide +kernel
theorem dL_list_2 : decode cL_list 2 = .ok (.iload_n 2, 1) := by decide +kernel
theorem dL_list_3 : decode cL_list 3 = .ok (.iload_n 3, 1) := by decide +kernel
theorem dL_list_4 : decode cL_list 4 = .ok (.invokevirtual 31, 3) := by decide +kernel
theorem dL_list_7 : decode cL_list 7 = .ok (.goto 15, 3) := by decide +kernel
theorem dL_list_10 : decode cL_list 10 = .ok (.astore 4, 2) := by decide +kernel
theorem dL_list_12 : decode cL_list 12 = .ok (.iconst 1, 1) := by decide +kernel
theorem dL_list_13 : decode cL_list 13 = .ok (.ireturn, 1) := by decide +kernel
theorem dL_list_14 : decode cL_list 14 = .ok (.astore 4, 2) := by decide +kernel
theorem dL_list_16 : decode cL_list 16 = .ok (.iconst 2, 1) := by decide +kernel
theorem dL_list_17 : decode cL_list 17 = .ok (.ireturn, 1) := by decide +kernel
theorem dL_list_18 : decode cL_list 18 = .ok (.astore 4, 2) := by decide +kernel
theorem dL_list_20 : decode cL_list 20 = .ok (.iconst 3, 1) := by decide +kernel
theorem dL_list_21 : decode cL_list 21 = .ok (.ireturn, 1) := by decide +kernel
theorem dL_list_22 : decode cL_list 22 = .ok (.iconst 0, 1) := by decide +kernel
theorem dL_list_23 : decode cL_list 23 = .ok (.ireturn, 1) := by decide +kernel
theorem dL_first_0 : decode cL_first 0 = .ok (.aload_n 0, 1) := by decide +kernel
theorem dL_first_1 : decode cL_first 1 = .ok (.iload_n 1, 1) := by decide +kernel
theorem dL_first_2 : decode cL_first 2 = .ok (.iload_n 2, 1) := by decide +kernel
theorem dL_first_3 : decode cL_first 3 = .ok (.invokevirtual 34, 3) := by decide +kernel
theorem dL_first_6 : decode cL_first 6 = .ok (.goto 9, 3) := by decide +kernel
theorem dL_first_9 : decode cL_first 9 = .ok (.astore_n 3, 1) := by decide +kernel
theorem dL_first_10 : decode cL_first 10 = .ok (.iconst 1, 1) := by decide +kernel
theorem dL_first_11 : decode cL_first 11 = .ok (.ireturn, 1) := by decide +kernel
theorem dL_first_12 : decode cL_first 12 = .ok (.astore_n 3, 1) := by decide +kernel
theorem dL_first_13 : decode cL_first 13 = .ok (.iconst 2, 1) := by decide +kernel
theorem dL_first_14 : decode cL_first 14 = .ok (.ireturn, 1) := by decide +kernel
theorem dL_first_15 : decode cL_first 15 = .ok (.iconst 0, 1) := by decide +kernel
theorem dL_first_16 : decode cL_first 16 = .ok (.ireturn, 1) := by decide +kernel
theorem dL_rest_0 : decode cL_rest 0 = .ok (.aload_n 0, 1) := by decide +kernel
theorem dL_rest_1 : decode cL_rest 1 = .ok (.iload_n 1, 1) := by decide +kernel
theorem dL_rest_2 : decode cL_rest 2 = .ok (.iload_n 2, 1) := by decide +kernel
theorem dL_rest_3 : decode cL_rest 3 = .ok (.invokevirtual 39, 3) := by decide +kernel
theorem dL_rest_6 : decode cL_rest 6 = .ok (.goto 9, 3) := by decide +kernel
theorem dL_rest_9 : decode cL_rest 9 = .ok (.astore_n 3, 1) := by decide +kernel
theorem dL_rest_10 : decode cL_rest 10 = .ok (.iconst 1, 1) := by decide +kernel
theorem dL_rest_11 : decode cL_rest 11 = .ok (.ireturn, 1) := by decide +kernel
theorem dL_rest_12 : decode cL_rest 12 = .ok (.astore_n 3, 1) := by decide +kernel
theorem dL_rest_13 : decode cL_rest 13 = .ok (.iconst 2, 1) := by decide +kernel
theorem dL_rest_14 : decode cL_rest 14 = .ok (.ireturn, 1) := by decide +kernel
theorem dL_rest_15 : decode cL_rest 15 = .ok (.iconst 0, 1) := by decide +kernel
theorem dL_rest_16 : decode cL_rest 16 = .ok (.ireturn, 1) := by decide +kernel
theorem dL_setFirst_0 : decode cL_setFirst 0 = .ok (.aload_n 0, 1) := by decide +kernel
theorem dL_setFirst_1 : decode cL_setFirst 1 = .ok (.iload_n 1, 1) := by decide +kernel
theorem dL_setFirst_2 : decode cL_setFirst 2 = .ok (.iload_n 2, 1) := by decide +kernel
theorem dL_setFirst_3 : decode cL_setFirst 3 = .ok (.invokevirtual 42, 3) := by decide +kernel
theorem dL_setFirst_6 : decode cL_setFirst 6 = .ok (.goto 9, 3) := by decide +kernel
theorem dL_setFirst_9 : decode cL_setFirst 9 = .ok (.astore_n 3, 1) := by decide +kernel
theorem dL_setFirst_10 : decode cL_setFirst 10 = .ok (.iconst 1, 1) := by decide +kernel
theorem dL_setFirst_11 : decode cL_setFirst 11 = .ok (.ireturn, 1) := by decide +kernel
theorem dL_setFirst_12 : decode cL_setFirst 12 = .ok (.astore_n 3, 1) := by decide +kernel
theorem dL_setFirst_13 : decode cL_setFirst 13 = .ok (.iconst 2, 1) := by decide +kernel
theorem dL_setFirst_14 : decode cL_setFirst 14 = .ok (.ireturn, 1) := by decide +kernel
theorem dL_setFirst_15 : decode cL_setFirst 15 = .ok (.iconst 0, 1) := by decide +kernel
theorem dL_setFirst_16 : decode cL_setFirst 16 = .ok (.ireturn, 1) := by decide +kernel
theorem dL_setRest_0 : decode cL_setRest 0 = .ok (.aload_n 0, 1) := by decide +kernel
theorem dL_setRest_1 : decode cL_setRest 1 = .ok (.iload_n 1, 1) := by decide +kernel
theorem dL_setRest_2 : decode cL_setRest 2 = .ok (.iload_n 2, 1) := by decide +kernel
theorem dL_setRest_3 : decode cL_setRest 3 = .ok (.invokevirtual 45, 3) := by decide +kernel
theorem dL_setRest_6 : decode cL_setRest 6 = .ok (.goto 12, 3) := by decide +kernel
theorem dL_setRest_9 : decode cL_setRest 9 = .ok (.astore_n 3, 1) := by decide +kernel
theorem dL_setRest_10 : decode cL_setRest 10 = .ok (.iconst 1, 1) := by decide +kernel
theorem dL_setRest_11 : decode cL_setRest 11 = .ok (.ireturn, 1) := by decide +kernel
theorem dL_setRest_12 : decode cL_setRest 12 = .ok (.astore_n 3, 1) := by decide +kernel
theorem dL_setRest_13 : decode cL_setRest 13 = .ok (.iconst 2, 1) := by decide +kernel
theorem dL_setRest_14 : decode cL_setRest 14 = .ok (.ireturn, 1) := by decide +kernel
theorem dL_setRest_15 : decode cL_setRest 15 = .ok (.astore_n 3, 1) := by decide +kernel
theorem dL_setRest_16 : decode cL_setRest 16 = .ok (.iconst 3, 1) := by decide +kernel
theorem dL_setRest_17 : decode cL_setRest 17 = .ok (.ireturn, 1) := by decide +kernel
theorem dL_setRest_18 : decode cL_setRest 18 = .ok (.iconst 0, 1) := by decide +kernel
theorem dL_setRest_19 : decode cL_setRest 19 = .ok (.ireturn, 1) := by decide +kernel
theorem dL_append_0 : decode cL_append 0 = .ok (.aload_n 0, 1) := by decide +kernel
theorem dL_append_1 : decode cL_append 1 = .ok (.iload_n 1, 1) := by decide +kernel
theorem dL_append_2 : decode cL_append 2 = .ok (.iload_n 2, 1) := by decide +kernel
theorem dL_append_3 : decode cL_append 3 = .ok (.iload_n 3, 1) := by decide +kernel
theorem dL_append_4 : decode cL_append 4 = .ok (.invokevirtual 48, 3) := by decide +kernel
theorem dL_append_7 : decode cL_append 7 = .ok (.goto 15, 3) := by decide +kernel
theorem dL_append_10 : decode cL_append 10 = .ok (.astore 4, 2) := by decide +kernel
theorem dL_append_12 : decode cL_append 12 = .ok (.iconst 1, 1) := by decide +kernel
theorem dL_append_13 : decode cL_append 13 = .ok (.ireturn, 1) := by decide +kernel
theorem dL_append_14 : decode cL_append 14 = .ok (.astore 4, 2) := by decide +kernel
theorem dL_append_16 : decode cL_append 16 = .ok (.iconst 2, 1) := by decide +kernel
theorem dL_append_17 : decode cL_append 17 = .ok (.ireturn, 1) := by decide +kernel
theorem dL_append_18 : decode cL_append 18 = .ok (.astore 4, 2) := by decide +kernel
theorem dL_append_20 : decode cL_append 20 = .ok (.iconst 3, 1) := by decide +kernel
theorem dL_append_21 : decode cL_append 21 = .ok (.ireturn, 1) := by decide +kernel
theorem dL_append_22 : decode cL_append 22 = .ok (.iconst 0, 1) := by decide +kernel
theorem dL_append_23 : decode cL_append 23 = .ok (.ireturn, 1) := by decide +kernel
theorem dL_kind_0 : decode cL_kind 0 = .ok (.aload_n 2, 1) := by decide +kernel
theorem dL_kind_1 : decode cL_kind 1 = .ok (.iconst 0, 1) := by decide +kernel
theorem dL_kind_2 : decode cL_kind 2 = .ok (.aload_n 0, 1) := by decide +kernel
theorem dL_kind_3 : decode cL_kind 3 = .ok (.iload_n 1, 1) := by decide +kernel
theorem dL_kind_4 : decode cL_kind 4 = .ok (.invokevirtual 51, 3) := by decide +kernel
theorem dL_kind_7 : decode cL_kind 7 = .ok (.i2l, 1) := by decide +kernel
theorem dL_kind_8 : decode cL_kind 8 = .ok (.lastore, 1) := by decide +kernel
theorem dL_kind_9 : decode cL_kind 9 = .ok (.goto 6, 3) := by decide +kernel
theorem dL_kind_12 : decode cL_kind 12 = .ok (.astore_n 3, 1) := by decide +kernel
theorem dL_kind_13 : decode cL_kind 13 = .ok (.iconst 1, 1) := by decide +kernel
theorem dL_kind_14 : decode cL_kind 14 = .ok (.ireturn, 1) := by decide +kernel
theorem dL_kind_15 : decode cL_kind 15 = .ok (.iconst 0, 1) := by decide +kernel
theorem dL_kind_16 : decode cL_kind 16 = .ok (.ireturn, 1) := by decide +kernel
theorem dL_value_0 : decode cL_value 0 = .ok (.aload_n 2, 1) := by decide +kernel
theorem dL_value_1 : decode cL_value 1 = .ok (.iconst 0, 1) := by decide +kernel
theorem dL_value_2 : decode cL_value 2 = .ok (.aload_n 0, 1) := by decide +kernel
theorem dL_value_3 : decode cL_value 3 = .ok (.iload_n 1, 1) := by decide +kernel
theorem dL_value_4 : decode cL_value 4 = .ok (.invokevirtual 55, 3) := by decide +kernel
theorem dL_value_7 : decode cL_value 7 = .ok (.lastore, 1) := by decide +kernel
theorem dL_value_8 : decode cL_value 8 = .ok (.goto 9, 3) := by decide +kernel
theorem dL_value_11 : decode cL_value 11 = .ok (.astore_n 3, 1) := by decide +kernel
theorem dL_value_12 : decode cL_value 12 = .ok (.iconst 1, 1) := by decide +kernel
theorem dL_value_13 : decode cL_value 13 = .ok (.ireturn, 1) := by decide +kernel
theorem dL_value_14 : decode cL_value 14 = .ok (.astore_n 3, 1) := by decide +kernel
theorem dL_value_15 : decode cL_value 15 = .ok (.iconst 2, 1) := by decide +kernel
theorem dL_value_16 : decode cL_value 16 = .ok (.ireturn, 1) := by decide +kernel
theorem dL_value_17 : decode cL_value 17 = .ok (.iconst 0, 1) := by decide +kernel
theorem dL_value_18 : decode cL_value 18 = .ok (.ireturn, 1) := by decide +kernel
theorem dL_same_0 : decode cL_same 0 = .ok (.aload_n 3, 1) := by decide +kernel
theorem dL_same_1 : decode cL_same 1 = .ok (.iconst 0, 1) := by decide +kernel
theorem dL_same_2 : decode cL_same 2 = .ok (.aload_n 0, 1) := by decide +kernel
theorem dL_same_3 : decode cL_same 3 = .ok (.iload_n 1, 1) := by decide +kernel
theorem dL_same_4 : decode cL_same 4 = .ok (.iload_n 2, 1) := by decide +kernel
theorem dL_same_5 : decode cL_same 5 = .ok (.invokevirtual 59, 3) := by decide +kernel
theorem dL_same_8 : decode cL_same 8 = .ok (.ifCond .eq 7, 3) := by decide +kernel
theorem dL_same_11 : decode cL_same 11 = .ok (.lconst 1, 1) := by decide +kernel
theorem dL_same_12 : decode cL_same 12 = .ok (.goto 4, 3) := by decide +kernel
theorem dL_same_15 : decode cL_same 15 = .ok (.lconst 0, 1) := by decide +kernel
theorem dL_same_16 : decode cL_same 16 = .ok (.lastore, 1) := by decide +kernel
theorem dL_same_17 : decode cL_same 17 = .ok (.goto 7, 3) := by decide +kernel
theorem dL_same_20 : decode cL_same 20 = .ok (.astore 4, 2) := by decide +kernel
theorem dL_same_22 : decode cL_same 22 = .ok (.iconst 1, 1) := by decide +kernel
theorem dL_same_23 : decode cL_same 23 = .ok (.ireturn, 1) := by decide +kernel
theorem dL_same_24 : decode cL_same 24 = .ok (.iconst 0, 1) := by decide +kernel
theorem dL_same_25 : decode cL_same 25 = .ok (.ireturn, 1) := by decide +kernel
theorem dL_length_0 : decode cL_length 0 = .ok (.aload_n 2, 1) := by decide +kernel
theorem dL_length_1 : decode cL_length 1 = .ok (.iconst 0, 1) := by decide +kernel
theorem dL_length_2 : decode cL_length 2 = .ok (.aload_n 0, 1) := by decide +kernel
theorem dL_length_3 : decode cL_length 3 = .ok (.iload_n 1, 1) := by decide +kernel
theorem dL_length_4 : decode cL_length 4 = .ok (.invokevirtual 63, 3) := by decide +kernel
theorem dL_length_7 : decode cL_length 7 = .ok (.i2l, 1) := by decide +kernel
theorem dL_length_8 : decode cL_length 8 = .ok (.lastore, 1) := by decide +kernel
theorem dL_length_9 : decode cL_length 9 = .ok (.goto 6, 3) := by decide +kernel
theorem dL_length_12 : decode cL_length 12 = .ok (.astore_n 3, 1) := by decide +kernel
theorem dL_length_13 : decode cL_length 13 = .ok (.iconst 1, 1) := by decide +kernel
theorem dL_length_14 : decode cL_length 14 = .ok (.ireturn, 1) := by decide +kernel
theorem dL_length_15 : decode cL_length 15 = .ok (.iconst 0, 1) := by decide +kernel
theorem dL_length_16 : decode cL_length 16 = .ok (.ireturn, 1) := by decide +kernel
theorem dL_words_0 : decode cL_words 0 = .ok (.aload_n 2, 1) := by decide +kernel
theorem dL_words_1 : decode cL_words 1 = .ok (.iconst 0, 1) := by decide +kernel
theorem dL_words_2 : decode cL_words 2 = .ok (.aload_n 0, 1) := by decide +kernel
theorem dL_words_3 : decode cL_words 3 = .ok (.iload_n 1, 1) := by decide +kernel
theorem dL_words_4 : decode cL_words 4 = .ok (.invokevirtual 66, 3) := by decide +kernel
theorem dL_words_7 : decode cL_words 7 = .ok (.i2l, 1) := by decide +kernel
theorem dL_words_8 : decode cL_words 8 = .ok (.lastore, 1) := by decide +kernel
theorem dL_words_9 : decode cL_words 9 = .ok (.goto 6, 3) := by decide +kernel
theorem dL_words_12 : decode cL_words 12 = .ok (.astore_n 3, 1) := by decide +kernel
theorem dL_words_13 : decode cL_words 13 = .ok (.iconst 1, 1) := by decide +kernel
theorem dL_words_14 : decode cL_words 14 = .ok (.ireturn, 1) := by decide +kernel
theorem dL_words_15 : decode cL_words 15 = .ok (.iconst 0, 1) := by decide +kernel
theorem dL_words_16 : decode cL_words 16 = .ok (.ireturn, 1) := by decide +kernel
theorem dL_alike_0 : decode cL_alike 0 = .ok (.aload_n 3, 1) := by decide +kernel
theorem dL_alike_1 : decode cL_alike 1 = .ok (.iconst 0, 1) := by decide +kernel
theorem dL_alike_2 : decode cL_alike 2 = .ok (.aload_n 0, 1) := by decide +kernel
theorem dL_alike_3 : decode cL_alike 3 = .ok (.iload_n 1, 1) := by decide +kernel
theorem dL_alike_4 : decode cL_alike 4 = .ok (.iload_n 2, 1) := by decide +kernel
theorem dL_alike_5 : decode cL_alike 5 = .ok (.invokevirtual 69, 3) := by decide +kernel
theorem dL_alike_8 : decode cL_alike 8 = .ok (.ifCond .eq 7, 3) := by decide +kernel
theorem dL_alike_11 : decode cL_alike 11 = .ok (.lconst 1, 1) := by decide +kernel
theorem dL_alike_12 : decode cL_alike 12 = .ok (.goto 4, 3) := by decide +kernel
theorem dL_alike_15 : decode cL_alike 15 = .ok (.lconst 0, 1) := by decide +kernel
theorem dL_alike_16 : decode cL_alike 16 = .ok (.lastore, 1) := by decide +kernel
theorem dL_alike_17 : decode cL_alike 17 = .ok (.goto 7, 3) := by decide +kernel
theorem dL_alike_20 : decode cL_alike 20 = .ok (.astore 4, 2) := by decide +kernel
theorem dL_alike_22 : decode cL_alike 22 = .ok (.iconst 1, 1) := by decide +kernel
theorem dL_alike_23 : decode cL_alike 23 = .ok (.ireturn, 1) := by decide +kernel
theorem dL_alike_24 : decode cL_alike 24 = .ok (.iconst 0, 1) := by decide +kernel
theorem dL_alike_25 : decode cL_alike 25 = .ok (.ireturn, 1) := by decide +kernel
theorem dL_word_0 : decode cL_word 0 = .ok (.aload_n 3, 1) := by decide +kernel
theorem dL_word_1 : decode cL_word 1 = .ok (.iconst 0, 1) := by decide +kernel
theorem dL_word_2 : decode cL_word 2 = .ok (.aload_n 0, 1) := by decide +kernel
theorem dL_word_3 : decode cL_word 3 = .ok (.iload_n 1, 1) := by decide +kernel
theorem dL_word_4 : decode cL_word 4 = .ok (.iload_n 2, 1) := by decide +kernel
theorem dL_word_5 : decode cL_word 5 = .ok (.invokevirtual 72, 3) := by decide +kernel
theorem dL_word_8 : decode cL_word 8 = .ok (.lastore, 1) := by decide +kernel
theorem dL_word_9 : decode cL_word 9 = .ok (.goto 11, 3) := by decide +kernel
theorem dL_word_12 : decode cL_word 12 = .ok (.astore 4, 2) := by decide +kernel
theorem dL_word_14 : decode cL_word 14 = .ok (.iconst 1, 1) := by decide +kernel
theorem dL_word_15 : decode cL_word 15 = .ok (.ireturn, 1) := by decide +kernel
theorem dL_word_16 : decode cL_word 16 = .ok (.astore 4, 2) := by decide +kernel
theorem dL_word_18 : decode cL_word 18 = .ok (.iconst 2, 1) := by decide +kernel
theorem dL_word_19 : decode cL_word 19 = .ok (.ireturn, 1) := by decide +kernel
theorem dL_word_20 : decode cL_word 20 = .ok (.iconst 0, 1) := by decide +kernel
theorem dL_word_21 : decode cL_word 21 = .ok (.ireturn, 1) := by decide +kernel
theorem dJ_fill_0 : decode cJ_fill 0 = .ok (.iconst 0, 1) := by decide +kernel
theorem dJ_fill_1 : decode cJ_fill 1 = .ok (.istore_n 2, 1) := by decide +kernel
theorem dJ_fill_2 : decode cJ_fill 2 = .ok (.aload_n 0, 1) := by decide +kernel
theorem dJ_fill_3 : decode cJ_fill 3 = .ok (.arraylength, 1) := by decide +kernel
theorem dJ_fill_4 : decode cJ_fill 4 = .ok (.istore_n 3, 1) := by decide +kernel
theorem dJ_fill_5 : decode cJ_fill 5 = .ok (.iload_n 2, 1) := by decide +kernel
theorem dJ_fill_6 : decode cJ_fill 6 = .ok (.iload_n 3, 1) := by decide +kernel
theorem dJ_fill_7 : decode cJ_fill 7 = .ok (.if_icmp .ge 13, 3) := by decide +kernel
theorem dJ_fill_10 : decode cJ_fill 10 = .ok (.aload_n 0, 1) := by decide +kernel
theorem dJ_fill_11 : decode cJ_fill 11 = .ok (.iload_n 2, 1) := by decide +kernel
theorem dJ_fill_12 : decode cJ_fill 12 = .ok (.iload_n 1, 1) := by decide +kernel
theorem dJ_fill_13 : decode cJ_fill 13 = .ok (.iastore, 1) := by decide +kernel
theorem dJ_fill_14 : decode cJ_fill 14 = .ok (.iinc 2 1, 3) := by decide +kernel
theorem dJ_fill_17 : decode cJ_fill 17 = .ok (.goto (-12), 3) := by decide +kernel
theorem dJ_fill_20 : decode cJ_fill 20 = .ok (.return_, 1) := by decide +kernel
