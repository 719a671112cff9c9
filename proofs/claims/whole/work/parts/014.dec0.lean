theorem dX0_init_0 : decode cX0_init 0 = .ok (.aload_n 0, 1) := by decide +kernel
theorem dX0_init_1 : decode cX0_init 1 = .ok (.invokespecial 3, 3) := by decide +kernel
theorem dX0_init_4 : decode cX0_init 4 = .ok (.aload_n 0, 1) := by decide +kernel
theorem dX0_init_5 : decode cX0_init 5 = .ok (.bipush 16, 2) := by decide +kernel
theorem dX0_init_7 : decode cX0_init 7 = .ok (.newarray .int, 2) := by decide +kernel
theorem dX0_init_9 : decode cX0_init 9 = .ok (.putfield 9, 3) := by decide +kernel
theorem dX0_init_12 : decode cX0_init 12 = .ok (.return_, 1) := by decide +kernel
theorem dX0_find_0 : decode cX0_find 0 = .ok (.aload_n 3, 1) := by decide +kernel
theorem dX0_find_1 : decode cX0_find 1 = .ok (.iconst 0, 1) := by decide +kernel
theorem dX0_find_2 : decode cX0_find 2 = .ok (.invokestatic 15, 3) := by decide +kernel
theorem dX0_find_5 : decode cX0_find 5 = .ok (.iconst 0, 1) := by decide +kernel
theorem dX0_find_6 : decode cX0_find 6 = .ok (.istore 4, 2) := by decide +kernel
theorem dX0_find_8 : decode cX0_find 8 = .ok (.iload 4, 2) := by decide +kernel
theorem dX0_find_10 : decode cX0_find 10 = .ok (.aload_n 1, 1) := by decide +kernel
theorem dX0_find_11 : decode cX0_find 11 = .ok (.getfield 21, 3) := by decide +kernel
theorem dX0_find_14 : decode cX0_find 14 = .ok (.if_icmp .ge 22, 3) := by decide +kernel
theorem dX0_find_17 : decode cX0_find 17 = .ok (.aload_n 0, 1) := by decide +kernel
theorem dX0_find_18 : decode cX0_find 18 = .ok (.getfield 9, 3) := by decide +kernel
theorem dX0_find_21 : decode cX0_find 21 = .ok (.iload 4, 2) := by decide +kernel
theorem dX0_find_23 : decode cX0_find 23 = .ok (.aload_n 1, 1) := by decide +kernel
theorem dX0_find_24 : decode cX0_find 24 = .ok (.iload 4, 2) := by decide +kernel
theorem dX0_find_26 : decode cX0_find 26 = .ok (.invokevirtual 27, 3) := by decide +kernel
theorem dX0_find_29 : decode cX0_find 29 = .ok (.iastore, 1) := by decide +kernel
theorem dX0_find_30 : decode cX0_find 30 = .ok (.iinc 4 1, 3) := by decide +kernel
theorem dX0_find_33 : decode cX0_find 33 = .ok (.goto (-25), 3) := by decide +kernel
theorem dX0_find_36 : decode cX0_find 36 = .ok (.iconst 0, 1) := by decide +kernel
theorem dX0_find_37 : decode cX0_find 37 = .ok (.istore 4, 2) := by decide +kernel
theorem dX0_find_39 : decode cX0_find 39 = .ok (.iload 4, 2) := by decide +kernel
theorem dX0_find_41 : decode cX0_find 41 = .ok (.bipush 40, 2) := by decide +kernel
theorem dX0_find_43 : decode cX0_find 43 = .ok (.if_icmp .ge 85, 3) := by decide +kernel
theorem dX0_find_46 : decode cX0_find 46 = .ok (.aload_n 0, 1) := by decide +kernel
theorem dX0_find_47 : decode cX0_find 47 = .ok (.iconst 1, 1) := by decide +kernel
theorem dX0_find_48 : decode cX0_find 48 = .ok (.aload_n 1, 1) := by decide +kernel
theorem dX0_find_49 : decode cX0_find 49 = .ok (.getfield 21, 3) := by decide +kernel
theorem dX0_find_52 : decode cX0_find 52 = .ok (.invokevirtual 31, 3) := by decide +kernel
theorem dX0_find_55 : decode cX0_find 55 = .ok (.istore 5, 2) := by decide +kernel
theorem dX0_find_57 : decode cX0_find 57 = .ok (.aload_n 0, 1) := by decide +kernel
theorem dX0_find_58 : decode cX0_find 58 = .ok (.iconst (-1), 1) := by decide +kernel
theorem dX0_find_59 : decode cX0_find 59 = .ok (.aload_n 1, 1) := by decide +kernel
theorem dX0_find_60 : decode cX0_find 60 = .ok (.getfield 21, 3) := by decide +kernel
theorem dX0_find_63 : decode cX0_find 63 = .ok (.invokevirtual 31, 3) := by decide +kernel
theorem dX0_find_66 : decode cX0_find 66 = .ok (.istore 6, 2) := by decide +kernel
theorem dX0_find_68 : decode cX0_find 68 = .ok (.iload 5, 2) := by decide +kernel
theorem dX0_find_70 : decode cX0_find 70 = .ok (.ifCond .lt 58, 3) := by decide +kernel
theorem dX0_find_73 : decode cX0_find 73 = .ok (.iload 6, 2) := by decide +kernel
theorem dX0_find_75 : decode cX0_find 75 = .ok (.ifCond .ge 6, 3) := by decide +kernel
theorem dX0_find_78 : decode cX0_find 78 = .ok (.goto 50, 3) := by decide +kernel
theorem dX0_find_81 : decode cX0_find 81 = .ok (.aload_n 2, 1) := by decide +kernel
theorem dX0_find_82 : decode cX0_find 82 = .ok (.iload 5, 2) := by decide +kernel
theorem dX0_find_84 : decode cX0_find 84 = .ok (.aload_n 1, 1) := by decide +kernel
theorem dX0_find_85 : decode cX0_find 85 = .ok (.aload_n 3, 1) := by decide +kernel
theorem dX0_find_86 : decode cX0_find 86 = .ok (.invokevirtual 35, 3) := by decide +kernel
theorem dX0_find_89 : decode cX0_find 89 = .ok (.aload_n 0, 1) := by decide +kernel
theorem dX0_find_90 : decode cX0_find 90 = .ok (.iload 5, 2) := by decide +kernel
theorem dX0_find_92 : decode cX0_find 92 = .ok (.iload 6, 2) := by decide +kernel
theorem dX0_find_94 : decode cX0_find 94 = .ok (.aload_n 1, 1) := by decide +kernel
theorem dX0_find_95 : decode cX0_find 95 = .ok (.aload_n 2, 1) := by decide +kernel
theorem dX0_find_96 : decode cX0_find 96 = .ok (.aload_n 3, 1) := by decide +kernel
theorem dX0_find_97 : decode cX0_find 97 = .ok (.invokevirtual 41, 3) := by decide +kernel
theorem dX0_find_100 : decode cX0_find 100 = .ok (.aload_n 0, 1) := by decide +kernel
theorem dX0_find_101 : decode cX0_find 101 = .ok (.getfield 9, 3) := by decide +kernel
theorem dX0_find_104 : decode cX0_find 104 = .ok (.iload 5, 2) := by decide +kernel
theorem dX0_find_106 : decode cX0_find 106 = .ok (.dup2, 1) := by decide +kernel
theorem dX0_find_107 : decode cX0_find 107 = .ok (.iaload, 1) := by decide +kernel
theorem dX0_find_108 : decode cX0_find 108 = .ok (.iconst 1, 1) := by decide +kernel
theorem dX0_find_109 : decode cX0_find 109 = .ok (.isub, 1) := by decide +kernel
theorem dX0_find_110 : decode cX0_find 110 = .ok (.iastore, 1) := by decide +kernel
theorem dX0_find_111 : decode cX0_find 111 = .ok (.aload_n 0, 1) := by decide +kernel
theorem dX0_find_112 : decode cX0_find 112 = .ok (.getfield 9, 3) := by decide +kernel
theorem dX0_find_115 : decode cX0_find 115 = .ok (.iload 6, 2) := by decide +kernel
theorem dX0_find_117 : decode cX0_find 117 = .ok (.dup2, 1) := by decide +kernel
theorem dX0_find_118 : decode cX0_find 118 = .ok (.iaload, 1) := by decide +kernel
theorem dX0_find_119 : decode cX0_find 119 = .ok (.iconst 1, 1) := by decide +kernel
theorem dX0_find_120 : decode cX0_find 120 = .ok (.iadd, 1) := by decide +kernel
theorem dX0_find_121 : decode cX0_find 121 = .ok (.iastore, 1) := by decide +kernel
theorem dX0_find_122 : decode cX0_find 122 = .ok (.iinc 4 1, 3) := by decide +kernel
theorem dX0_find_125 : decode cX0_find 125 = .ok (.goto (-86), 3) := by decide +kernel
theorem dX0_find_128 : decode cX0_find 128 = .ok (.return_, 1) := by decide +kernel
theorem dX0_leastWithSign_0 : decode cX0_leastWithSign 0 = .ok (.iconst 0, 1) := by decide +kernel
theorem dX0_leastWithSign_1 : decode cX0_leastWithSign 1 = .ok (.istore_n 3, 1) := by decide +kernel
theorem dX0_leastWithSign_2 : decode cX0_leastWithSign 2 = .ok (.iload_n 3, 1) := by decide +kernel
theorem dX0_leastWithSign_3 : decode cX0_leastWithSign 3 = .ok (.iload_n 2, 1) := by decide +kernel
theorem dX0_leastWithSign_4 : decode cX0_leastWithSign 4 = .ok (.if_icmp .ge 22, 3) := by decide +kernel
theorem dX0_leastWithSign_7 : decode cX0_leastWithSign 7 = .ok (.aload_n 0, 1) := by decide +kernel
theorem dX0_leastWithSign_8 : decode cX0_leastWithSign 8 = .ok (.getfield 9, 3) := by decide +kernel
theorem dX0_leastWithSign_11 : decode cX0_leastWithSign 11 = .ok (.iload_n 3, 1) := by decide +kernel
theorem dX0_leastWithSign_12 : decode cX0_leastWithSign 12 = .ok (.iaload, 1) := by decide +kernel
theorem dX0_leastWithSign_13 : decode cX0_leastWithSign 13 = .ok (.iload_n 1, 1) := by decide +kernel
theorem dX0_leastWithSign_14 : decode cX0_leastWithSign 14 = .ok (.imul, 1) := by decide +kernel
theorem dX0_leastWithSign_15 : decode cX0_leastWithSign 15 = .ok (.ifCond .le 5, 3) := by decide +kernel
theorem dX0_leastWithSign_18 : decode cX0_leastWithSign 18 = .ok (.iload_n 3, 1) := by decide +kernel
theorem dX0_leastWithSign_19 : decode cX0_leastWithSign 19 = .ok (.ireturn, 1) := by decide +kernel
theorem dX0_leastWithSign_20 : decode cX0_leastWithSign 20 = .ok (.iinc 3 1, 3) := by decide +kernel
theorem dX0_leastWithSign_23 : decode cX0_leastWithSign 23 = .ok (.goto (-21), 3) := by decide +kernel
theorem dX0_leastWithSign_26 : decode cX0_leastWithSign 26 = .ok (.iconst (-1), 1) := by decide +kernel
theorem dX0_leastWithSign_27 : decode cX0_leastWithSign 27 = .ok (.ireturn, 1) := by decide +kernel
theorem dX0_addPassage_0 : decode cX0_addPassage 0 = .ok (.iload_n 2, 1) := by decide +kernel
theorem dX0_addPassage_1 : decode cX0_addPassage 1 = .ok (.istore 6, 2) := by decide +kernel
theorem dX0_addPassage_3 : decode cX0_addPassage 3 = .ok (.iconst 0, 1) := by decide +kernel
theorem dX0_addPassage_4 : decode cX0_addPassage 4 = .ok (.istore 7, 2) := by decide +kernel
theorem dX0_addPassage_6 : decode cX0_addPassage 6 = .ok (.iload 7, 2) := by decide +kernel
theorem dX0_addPassage_8 : decode cX0_addPassage 8 = .ok (.bipush 16, 2) := by decide +kernel
theorem dX0_addPassage_10 : decode cX0_addPassage 10 = .ok (.if_icmp .ge 77, 3) := by decide +kernel
theorem dX0_addPassage_13 : decode cX0_addPassage 13 = .ok (.iload 6, 2) := by decide +kernel
theorem dX0_addPassage_15 : decode cX0_addPassage 15 = .ok (.iload_n 1, 1) := by decide +kernel
theorem dX0_addPassage_16 : decode cX0_addPassage 16 = .ok (.if_icmp .eq 71, 3) := by decide +kernel
theorem dX0_addPassage_19 : decode cX0_addPassage 19 = .ok (.aload 4, 2) := by decide +kernel
theorem dX0_addPassage_21 : decode cX0_addPassage 21 = .ok (.getfield 45, 3) := by decide +kernel
theorem dX0_addPassage_24 : decode cX0_addPassage 24 = .ok (.iload 6, 2) := by decide +kernel
theorem dX0_addPassage_26 : decode cX0_addPassage 26 = .ok (.iaload, 1) := by decide +kernel
theorem dX0_addPassage_27 : decode cX0_addPassage 27 = .ok (.istore 8, 2) := by decide +kernel
theorem dX0_addPassage_29 : decode cX0_addPassage 29 = .ok (.iload 8, 2) := by decide +kernel
theorem dX0_addPassage_31 : decode cX0_addPassage 31 = .ok (.iconst 1, 1) := by decide +kernel
theorem dX0_addPassage_32 : decode cX0_addPassage 32 = .ok (.ishr, 1) := by decide +kernel
theorem dX0_addPassage_33 : decode cX0_addPassage 33 = .ok (.istore 9, 2) := by decide +kernel
theorem dX0_addPassage_35 : decode cX0_addPassage 35 = .ok (.iload 8, 2) := by decide +kernel
theorem dX0_addPassage_37 : decode cX0_addPassage 37 = .ok (.iconst 1, 1) := by decide +kernel
theorem dX0_addPassage_38 : decode cX0_addPassage 38 = .ok (.iand, 1) := by decide +kernel
theorem dX0_addPassage_39 : decode cX0_addPassage 39 = .ok (.ifCond .ne 24, 3) := by decide +kernel
theorem dX0_addPassage_42 : decode cX0_addPassage 42 = .ok (.aload 5, 2) := by decide +kernel
theorem dX0_addPassage_44 : decode cX0_addPassage 44 = .ok (.iload 9, 2) := by decide +kernel
theorem dX0_addPassage_46 : decode cX0_addPassage 46 = .ok (.dup2, 1) := by decide +kernel
theorem dX0_addPassage_47 : decode cX0_addPassage 47 = .ok (.iaload, 1) := by decide +kernel
theorem dX0_addPassage_48 : decode cX0_addPassage 48 = .ok (.iconst 1, 1) := by decide +kernel
theorem dX0_addPassage_49 : decode cX0_addPassage 49 = .ok (.iadd, 1) := by decide +kernel
theorem dX0_addPassage_50 : decode cX0_addPassage 50 = .ok (.iastore, 1) := by decide +kernel
theorem dX0_addPassage_51 : decode cX0_addPassage 51 = .ok (.aload_n 3, 1) := by decide +kernel
theorem dX0_addPassage_52 : decode cX0_addPassage 52 = .ok (.getfield 48, 3) := by decide +kernel
theorem dX0_addPassage_55 : decode cX0_addPassage 55 = .ok (.iload 9, 2) := by decide +kernel
theorem dX0_addPassage_57 : decode cX0_addPassage 57 = .ok (.iaload, 1) := by decide +kernel
theorem dX0_addPassage_58 : decode cX0_addPassage 58 = .ok (.istore 6, 2) := by decide +kernel
theorem dX0_addPassage_60 : decode cX0_addPassage 60 = .ok (.goto 21, 3) := by decide +kernel
theorem dX0_addPassage_63 : decode cX0_addPassage 63 = .ok (.aload 5, 2) := by decide +kernel
theorem dX0_addPassage_65 : decode cX0_addPassage 65 = .ok (.iload 9, 2) := by decide +kernel
theorem dX0_addPassage_67 : decode cX0_addPassage 67 = .ok (.dup2, 1) := by decide +kernel
theorem dX0_addPassage_68 : decode cX0_addPassage 68 = .ok (.iaload, 1) := by decide +kernel
theorem dX0_addPassage_69 : decode cX0_addPassage 69 = .ok (.iconst 1, 1) := by decide +kernel
theorem dX0_addPassage_70 : decode cX0_addPassage 70 = .ok (.isub, 1) := by decide +kernel
theorem dX0_addPassage_71 : decode cX0_addPassage 71 = .ok (.iastore, 1) := by decide +kernel
theorem dX0_addPassage_72 : decode cX0_addPassage 72 = .ok (.aload_n 3, 1) := by decide +kernel
theorem dX0_addPassage_73 : decode cX0_addPassage 73 = .ok (.getfield 51, 3) := by decide +kernel
theorem dX0_addPassage_76 : decode cX0_addPassage 76 = .ok (.iload 9, 2) := by decide +kernel
theorem dX0_addPassage_78 : decode cX0_addPassage 78 = .ok (.iaload, 1) := by decide +kernel
theorem dX0_addPassage_79 : decode cX0_addPassage 79 = .ok (.istore 6, 2) := by decide +kernel
theorem dX0_addPassage_81 : decode cX0_addPassage 81 = .ok (.iinc 7 1, 3) := by decide +kernel
theorem dX0_addPassage_84 : decode cX0_addPassage 84 = .ok (.goto (-78), 3) := by decide +kernel
theorem dX0_addPassage_87 : decode cX0_addPassage 87 = .ok (.return_, 1) := by decide +kernel
theorem dX1_init_0 : decode cX1_init 0 = .ok (.aload_n 0, 1) := by decide +kernel
theorem dX1_init_1 : decode cX1_init 1 = .ok (.invokespecial 3, 3) := by decide +kernel
theorem dX1_init_4 : decode cX1_init 4 = .ok (.aload_n 0, 1) := by decide +kernel
theorem dX1_init_5 : decode cX1_init 5 = .ok (.bipush 16, 2) := by decide +kernel
theorem dX1_init_7 : decode cX1_init 7 = .ok (.newarray .boolean, 2) := by decide +kernel
theorem dX1_init_9 : decode cX1_init 9 = .ok (.putfield 9, 3) := by decide +kernel
theorem dX1_init_12 : decode cX1_init 12 = .ok (.aload_n 0, 1) := by decide +kernel
theorem dX1_init_13 : decode cX1_init 13 = .ok (.bipush 16, 2) := by decide +kernel
theorem dX1_init_15 : decode cX1_init 15 = .ok (.newarray .long, 2) := by decide +kernel
theorem dX1_init_17 : decode cX1_init 17 = .ok (.putfield 15, 3) := by decide +kernel
theorem dX1_init_20 : decode cX1_init 20 = .ok (.aload_n 0, 1) := by decide +kernel
theorem dX1_init_21 : decode cX1_init 21 = .ok (.bipush 16, 2) := by decide +kernel
theorem dX1_init_23 : decode cX1_init 23 = .ok (.newarray .long, 2) := by decide +kernel
theorem dX1_init_25 : decode cX1_init 25 = .ok (.putfield 19, 3) := by decide +kernel
theorem dX1_init_28 : decode cX1_init 28 = .ok (.aload_n 0, 1) := by decide +kernel
theorem dX1_init_29 : decode cX1_init 29 = .ok (.bipush 16, 2) := by decide +kernel
theorem dX1_init_31 : decode cX1_init 31 = .ok (.newarray .int, 2) := by decide +kernel
theorem dX1_init_33 : decode cX1_init 33 = .ok (.putfield 22, 3) := by decide +kernel
theorem dX1_init_36 : decode cX1_init 36 = .ok (.aload_n 0, 1) := by decide +kernel
theorem dX1_init_37 : decode cX1_init 37 = .ok (.bipush 40, 2) := by decide +kernel
theorem dX1_init_39 : decode cX1_init 39 = .ok (.newarray .int, 2) := by decide +kernel
theorem dX1_init_41 : decode cX1_init 41 = .ok (.putfield 26, 3) := by decide +kernel
theorem dX1_init_44 : decode cX1_init 44 = .ok (.aload_n 0, 1) := by decide +kernel
theorem dX1_init_45 : decode cX1_init 45 = .ok (.iconst 0, 1) := by decide +kernel
theorem dX1_init_46 : decode cX1_init 46 = .ok (.putfield 29, 3) := by decide +kernel
theorem dX1_init_49 : decode cX1_init 49 = .ok (.return_, 1) := by decide +kernel
theorem dX1_searchFrom_0 : decode cX1_searchFrom 0 = .ok (.aload_n 0, 1) := by decide +kernel
theorem dX1_searchFrom_1 : decode cX1_searchFrom 1 = .ok (.iload_n 1, 1) := by decide +kernel
theorem dX1_searchFrom_2 : decode cX1_searchFrom 2 = .ok (.aload_n 2, 1) := by decide +kernel
theorem dX1_searchFrom_3 : decode cX1_searchFrom 3 = .ok (.aload_n 0, 1) := by decide +kernel
theorem dX1_searchFrom_4 : decode cX1_searchFrom 4 = .ok (.getfield 26, 3) := by decide +kernel
theorem dX1_searchFrom_7 : decode cX1_searchFrom 7 = .ok (.invokevirtual 33, 3) := by decide +kernel
theorem dX1_searchFrom_10 : decode cX1_searchFrom 10 = .ok (.return_, 1) := by decide +kernel
theorem dX1_searchBesideExtras_0 : decode cX1_searchBesideExtras 0 = .ok (.iconst 0, 1) := by decide +kernel
theorem dX1_searchBesideExtras_1 : decode cX1_searchBesideExtras 1 = .ok (.istore 4, 2) := by decide +kernel
theorem dX1_searchBesideExtras_3 : decode cX1_searchBesideExtras 3 = .ok (.iload 4, 2) := by decide +kernel
theorem dX1_searchBesideExtras_5 : decode cX1_searchBesideExtras 5 = .ok (.bipush 16, 2) := by decide +kernel
theorem dX1_searchBesideExtras_7 : decode cX1_searchBesideExtras 7 = .ok (.if_icmp .ge 17, 3) := by decide +kernel
theorem dX1_searchBesideExtras_10 : decode cX1_searchBesideExtras 10 = .ok (.aload_n 0, 1) := by decide +kernel
theorem dX1_searchBesideExtras_11 : decode cX1_searchBesideExtras 11 = .ok (.getfield 9, 3) := by decide +kernel
theorem dX1_searchBesideExtras_14 : decode cX1_searchBesideExtras 14 = .ok (.iload 4, 2) := by decide +kernel
theorem dX1_searchBesideExtras_16 : decode cX1_searchBesideExtras 16 = .ok (.iconst 0, 1) := by decide +kernel
theorem dX1_searchBesideExtras_17 : decode cX1_searchBesideExtras 17 = .ok (.bastore, 1) := by decide +kernel
theorem dX1_searchBesideExtras_18 : decode cX1_searchBesideExtras 18 = .ok (.iinc 4 1, 3) := by decide +kernel
theorem dX1_searchBesideExtras_21 : decode cX1_searchBesideExtras 21 = .ok (.goto (-18), 3) := by decide +kernel
theorem dX1_searchBesideExtras_24 : decode cX1_searchBesideExtras 24 = .ok (.aload_n 0, 1) := by decide +kernel
theorem dX1_searchBesideExtras_25 : decode cX1_searchBesideExtras 25 = .ok (.getfield 9, 3) := by decide +kernel
theorem dX1_searchBesideExtras_28 : decode cX1_searchBesideExtras 28 = .ok (.iload_n 1, 1) := by decide +kernel
theorem dX1_searchBesideExtras_29 : decode cX1_searchBesideExtras 29 = .ok (.iconst 1, 1) := by decide +kernel
theorem dX1_searchBesideExtras_30 : decode cX1_searchBesideExtras 30 = .ok (.bastore, 1) := by decide +kernel
theorem dX1_searchBesideExtras_31 : decode cX1_searchBesideExtras 31 = .ok (.aload_n 0, 1) := by decide +kernel
theorem dX1_searchBesideExtras_32 : decode cX1_searchBesideExtras 32 = .ok (.getfield 15, 3) := by decide +kernel
theorem dX1_searchBesideExtras_35 : decode cX1_searchBesideExtras 35 = .ok (.iload_n 1, 1) := by decide +kernel
theorem dX1_searchBesideExtras_36 : decode cX1_searchBesideExtras 36 = .ok (.lconst 0, 1) := by decide +kernel
theorem dX1_searchBesideExtras_37 : decode cX1_searchBesideExtras 37 = .ok (.lastore, 1) := by decide +kernel
theorem dX1_searchBesideExtras_38 : decode cX1_searchBesideExtras 38 = .ok (.aload_n 0, 1) := by decide +kernel
theorem dX1_searchBesideExtras_39 : decode cX1_searchBesideExtras 39 = .ok (.getfield 19, 3) := by decide +kernel
theorem dX1_searchBesideExtras_42 : decode cX1_searchBesideExtras 42 = .ok (.iload_n 1, 1) := by decide +kernel
theorem dX1_searchBesideExtras_43 : decode cX1_searchBesideExtras 43 = .ok (.lconst 0, 1) := by decide +kernel
theorem dX1_searchBesideExtras_44 : decode cX1_searchBesideExtras 44 = .ok (.lastore, 1) := by decide +kernel
theorem dX1_searchBesideExtras_45 : decode cX1_searchBesideExtras 45 = .ok (.aload_n 0, 1) := by decide +kernel
theorem dX1_searchBesideExtras_46 : decode cX1_searchBesideExtras 46 = .ok (.iconst 1, 1) := by decide +kernel
theorem dX1_searchBesideExtras_47 : decode cX1_searchBesideExtras 47 = .ok (.putfield 29, 3) := by decide +kernel
theorem dX1_searchBesideExtras_50 : decode cX1_searchBesideExtras 50 = .ok (.iconst 0, 1) := by decide +kernel
theorem dX1_searchBesideExtras_51 : decode cX1_searchBesideExtras 51 = .ok (.istore 4, 2) := by decide +kernel
theorem dX1_searchBesideExtras_53 : decode cX1_searchBesideExtras 53 = .ok (.iload 4, 2) := by decide +kernel
theorem dX1_searchBesideExtras_55 : decode cX1_searchBesideExtras 55 = .ok (.bipush 16, 2) := by decide +kernel
theorem dX1_searchBesideExtras_57 : decode cX1_searchBesideExtras 57 = .ok (.if_icmp .ge 167, 3) := by decide +kernel
theorem dX1_searchBesideExtras_60 : decode cX1_searchBesideExtras 60 = .ok (.aload_n 0, 1) := by decide +kernel
theorem dX1_searchBesideExtras_61 : decode cX1_searchBesideExtras 61 = .ok (.getfield 29, 3) := by decide +kernel
theorem dX1_searchBesideExtras_64 : decode cX1_searchBesideExtras 64 = .ok (.ifCond .eq 160, 3) := by decide +kernel
theorem dX1_searchBesideExtras_67 : decode cX1_searchBesideExtras 67 = .ok (.aload_n 0, 1) := by decide +kernel
theorem dX1_searchBesideExtras_68 : decode cX1_searchBesideExtras 68 = .ok (.iconst 0, 1) := by decide +kernel
theorem dX1_searchBesideExtras_69 : decode cX1_searchBesideExtras 69 = .ok (.putfield 29, 3) := by decide +kernel
theorem dX1_searchBesideExtras_72 : decode cX1_searchBesideExtras 72 = .ok (.iconst 0, 1) := by decide +kernel
theorem dX1_searchBesideExtras_73 : decode cX1_searchBesideExtras 73 = .ok (.istore 5, 2) := by decide +kernel
theorem dX1_searchBesideExtras_75 : decode cX1_searchBesideExtras 75 = .ok (.iload 5, 2) := by decide +kernel
theorem dX1_searchBesideExtras_77 : decode cX1_searchBesideExtras 77 = .ok (.aload_n 2, 1) := by decide +kernel
theorem dX1_searchBesideExtras_78 : decode cX1_searchBesideExtras 78 = .ok (.getfield 37, 3) := by decide +kernel
theorem dX1_searchBesideExtras_81 : decode cX1_searchBesideExtras 81 = .ok (.if_icmp .ge 137, 3) := by decide +kernel
theorem dX1_searchBesideExtras_84 : decode cX1_searchBesideExtras 84 = .ok (.lconst 1, 1) := by decide +kernel
theorem dX1_searchBesideExtras_85 : decode cX1_searchBesideExtras 85 = .ok (.bipush 39, 2) := by decide +kernel
theorem dX1_searchBesideExtras_87 : decode cX1_searchBesideExtras 87 = .ok (.iload 5, 2) := by decide +kernel
theorem dX1_searchBesideExtras_89 : decode cX1_searchBesideExtras 89 = .ok (.isub, 1) := by decide +kernel
theorem dX1_searchBesideExtras_90 : decode cX1_searchBesideExtras 90 = .ok (.lshl, 1) := by decide +kernel
theorem dX1_searchBesideExtras_91 : decode cX1_searchBesideExtras 91 = .ok (.lstore 6, 2) := by decide +kernel
theorem dX1_searchBesideExtras_93 : decode cX1_searchBesideExtras 93 = .ok (.aload_n 0, 1) := by decide +kernel
theorem dX1_searchBesideExtras_94 : decode cX1_searchBesideExtras 94 = .ok (.iconst 2, 1) := by decide +kernel
theorem dX1_searchBesideExtras_95 : decode cX1_searchBesideExtras 95 = .ok (.iload 5, 2) := by decide +kernel
theorem dX1_searchBesideExtras_97 : decode cX1_searchBesideExtras 97 = .ok (.imul, 1) := by decide +kernel
theorem dX1_searchBesideExtras_98 : decode cX1_searchBesideExtras 98 = .ok (.aload_n 2, 1) := by decide +kernel
theorem dX1_searchBesideExtras_99 : decode cX1_searchBesideExtras 99 = .ok (.getfield 43, 3) := by decide +kernel
theorem dX1_searchBesideExtras_102 : decode cX1_searchBesideExtras 102 = .ok (.iload 5, 2) := by decide +kernel
theorem dX1_searchBesideExtras_104 : decode cX1_searchBesideExtras 104 = .ok (.iaload, 1) := by decide +kernel
theorem dX1_searchBesideExtras_105 : decode cX1_searchBesideExtras 105 = .ok (.aload_n 2, 1) := by decide +kernel
theorem dX1_searchBesideExtras_106 : decode cX1_searchBesideExtras 106 = .ok (.getfield 46, 3) := by decide +kernel
theorem dX1_searchBesideExtras_109 : decode cX1_searchBesideExtras 109 = .ok (.iload 5, 2) := by decide +kernel
theorem dX1_searchBesideExtras_111 : decode cX1_searchBesideExtras 111 = .ok (.iaload, 1) := by decide +kernel
theorem dX1_searchBesideExtras_112 : decode cX1_searchBesideExtras 112 = .ok (.aload_n 2, 1) := by decide +kernel
theorem dX1_searchBesideExtras_113 : decode cX1_searchBesideExtras 113 = .ok (.getfield 49, 3) := by decide +kernel
theorem dX1_searchBesideExtras_116 : decode cX1_searchBesideExtras 116 = .ok (.iload 5, 2) := by decide +kernel
theorem dX1_searchBesideExtras_118 : decode cX1_searchBesideExtras 118 = .ok (.iaload, 1) := by decide +kernel
theorem dX1_searchBesideExtras_119 : decode cX1_searchBesideExtras 119 = .ok (.i2l, 1) := by decide +kernel
theorem dX1_searchBesideExtras_120 : decode cX1_searchBesideExtras 120 = .ok (.lload 6, 2) := by decide +kernel
theorem dX1_searchBesideExtras_122 : decode cX1_searchBesideExtras 122 = .ok (.invokevirtual 52, 3) := by decide +kernel
theorem dX1_searchBesideExtras_125 : decode cX1_searchBesideExtras 125 = .ok (.aload_n 2, 1) := by decide +kernel
theorem dX1_searchBesideExtras_126 : decode cX1_searchBesideExtras 126 = .ok (.getfield 56, 3) := by decide +kernel
theorem dX1_searchBesideExtras_129 : decode cX1_searchBesideExtras 129 = .ok (.ifCond .ne 40, 3) := by decide +kernel
theorem dX1_searchBesideExtras_132 : decode cX1_searchBesideExtras 132 = .ok (.aload_n 0, 1) := by decide +kernel
theorem dX1_searchBesideExtras_133 : decode cX1_searchBesideExtras 133 = .ok (.iconst 2, 1) := by decide +kernel
theorem dX1_searchBesideExtras_134 : decode cX1_searchBesideExtras 134 = .ok (.iload 5, 2) := by decide +kernel
theorem dX1_searchBesideExtras_136 : decode cX1_searchBesideExtras 136 = .ok (.imul, 1) := by decide +kernel
theorem dX1_searchBesideExtras_137 : decode cX1_searchBesideExtras 137 = .ok (.iconst 1, 1) := by decide +kernel
theorem dX1_searchBesideExtras_138 : decode cX1_searchBesideExtras 138 = .ok (.iadd, 1) := by decide +kernel
theorem dX1_searchBesideExtras_139 : decode cX1_searchBesideExtras 139 = .ok (.aload_n 2, 1) := by decide +kernel
theorem dX1_searchBesideExtras_140 : decode cX1_searchBesideExtras 140 = .ok (.getfield 46, 3) := by decide +kernel
theorem dX1_searchBesideExtras_143 : decode cX1_searchBesideExtras 143 = .ok (.iload 5, 2) := by decide +kernel
theorem dX1_searchBesideExtras_145 : decode cX1_searchBesideExtras 145 = .ok (.iaload, 1) := by decide +kernel
theorem dX1_searchBesideExtras_146 : decode cX1_searchBesideExtras 146 = .ok (.aload_n 2, 1) := by decide +kernel
theorem dX1_searchBesideExtras_147 : decode cX1_searchBesideExtras 147 = .ok (.getfield 43, 3) := by decide +kernel
theorem dX1_searchBesideExtras_150 : decode cX1_searchBesideExtras 150 = .ok (.iload 5, 2) := by decide +kernel
theorem dX1_searchBesideExtras_152 : decode cX1_searchBesideExtras 152 = .ok (.iaload, 1) := by decide +kernel
theorem dX1_searchBesideExtras_153 : decode cX1_searchBesideExtras 153 = .ok (.aload_n 2, 1) := by decide +kernel
theorem dX1_searchBesideExtras_154 : decode cX1_searchBesideExtras 154 = .ok (.getfield 49, 3) := by decide +kernel
theorem dX1_searchBesideExtras_157 : decode cX1_searchBesideExtras 157 = .ok (.iload 5, 2) := by decide +kernel
theorem dX1_searchBesideExtras_159 : decode cX1_searchBesideExtras 159 = .ok (.iaload, 1) := by decide +kernel
theorem dX1_searchBesideExtras_160 : decode cX1_searchBesideExtras 160 = .ok (.i2l, 1) := by decide +kernel
theorem dX1_searchBesideExtras_161 : decode cX1_searchBesideExtras 161 = .ok (.lload 6, 2) := by decide +kernel
theorem dX1_searchBesideExtras_163 : decode cX1_searchBesideExtras 163 = .ok (.invokevirtual 52, 3) := by decide +kernel
theorem dX1_searchBesideExtras_166 : decode cX1_searchBesideExtras 166 = .ok (.goto 46, 3) := by decide +kernel
theorem dX1_searchBesideExtras_169 : decode cX1_searchBesideExtras 169 = .ok (.aload_n 3, 1) := by decide +kernel
theorem dX1_searchBesideExtras_170 : decode cX1_searchBesideExtras 170 = .ok (.iload 5, 2) := by decide +kernel
theorem dX1_searchBesideExtras_172 : decode cX1_searchBesideExtras 172 = .ok (.iaload, 1) := by decide +kernel
theorem dX1_searchBesideExtras_173 : decode cX1_searchBesideExtras 173 = .ok (.ifCond .le 39, 3) := by decide +kernel
theorem dX1_searchBesideExtras_176 : decode cX1_searchBesideExtras 176 = .ok (.aload_n 0, 1) := by decide +kernel
theorem dX1_searchBesideExtras_177 : decode cX1_searchBesideExtras 177 = .ok (.iconst 2, 1) := by decide +kernel
theorem dX1_searchBesideExtras_178 : decode cX1_searchBesideExtras 178 = .ok (.iload 5, 2) := by decide +kernel
theorem dX1_searchBesideExtras_180 : decode cX1_searchBesideExtras 180 = .ok (.imul, 1) := by decide +kernel
theorem dX1_searchBesideExtras_181 : decode cX1_searchBesideExtras 181 = .ok (.iconst 1, 1) := by decide +kernel
theorem dX1_searchBesideExtras_182 : decode cX1_searchBesideExtras 182 = .ok (.iadd, 1) := by decide +kernel
theorem dX1_searchBesideExtras_183 : decode cX1_searchBesideExtras 183 = .ok (.aload_n 2, 1) := by decide +kernel
theorem dX1_searchBesideExtras_184 : decode cX1_searchBesideExtras 184 = .ok (.getfield 46, 3) := by decide +kernel
theorem dX1_searchBesideExtras_187 : decode cX1_searchBesideExtras 187 = .ok (.iload 5, 2) := by decide +kernel
theorem dX1_searchBesideExtras_189 : decode cX1_searchBesideExtras 189 = .ok (.iaload, 1) := by decide +kernel
theorem dX1_searchBesideExtras_190 : decode cX1_searchBesideExtras 190 = .ok (.aload_n 2, 1) := by decide +kernel
theorem dX1_searchBesideExtras_191 : decode cX1_searchBesideExtras 191 = .ok (.getfield 43, 3) := by decide +kernel
theorem dX1_searchBesideExtras_194 : decode cX1_searchBesideExtras 194 = .ok (.iload 5, 2) := by decide +kernel
theorem dX1_searchBesideExtras_196 : decode cX1_searchBesideExtras 196 = .ok (.iaload, 1) := by decide +kernel
theorem dX1_searchBesideExtras_197 : decode cX1_searchBesideExtras 197 = .ok (.aload_n 2, 1) := by decide +kernel
theorem dX1_searchBesideExtras_198 : decode cX1_searchBesideExtras 198 = .ok (.getfield 49, 3) := by decide +kernel
theorem dX1_searchBesideExtras_201 : decode cX1_searchBesideExtras 201 = .ok (.iload 5, 2) := by decide +kernel
theorem dX1_searchBesideExtras_203 : decode cX1_searchBesideExtras 203 = .ok (.iaload, 1) := by decide +kernel
theorem dX1_searchBesideExtras_204 : decode cX1_searchBesideExtras 204 = .ok (.ineg, 1) := by decide +kernel
theorem dX1_searchBesideExtras_205 : decode cX1_searchBesideExtras 205 = .ok (.i2l, 1) := by decide +kernel
theorem dX1_searchBesideExtras_206 : decode cX1_searchBesideExtras 206 = .ok (.lload 6, 2) := by decide +kernel
theorem dX1_searchBesideExtras_208 : decode cX1_searchBesideExtras 208 = .ok (.lneg, 1) := by decide +kernel
theorem dX1_searchBesideExtras_209 : decode cX1_searchBesideExtras 209 = .ok (.invokevirtual 52, 3) := by decide +kernel
theorem dX1_searchBesideExtras_212 : decode cX1_searchBesideExtras 212 = .ok (.iinc 5 1, 3) := by decide +kernel
theorem dX1_searchBesideExtras_215 : decode cX1_searchBesideExtras 215 = .ok (.goto (-140), 3) := by decide +kernel
theorem dX1_searchBesideExtras_218 : decode cX1_searchBesideExtras 218 = .ok (.iinc 4 1, 3) := by decide +kernel
theorem dX1_searchBesideExtras_221 : decode cX1_searchBesideExtras 221 = .ok (.goto (-168), 3) := by decide +kernel
theorem dX1_searchBesideExtras_224 : decode cX1_searchBesideExtras 224 = .ok (.return_, 1) := by decide +kernel
theorem dX1_tryStep_0 : decode cX1_tryStep 0 = .ok (.aload_n 0, 1) := by decide +kernel
theorem dX1_tryStep_1 : decode cX1_tryStep 1 = .ok (.getfield 9, 3) := by decide +kernel
theorem dX1_tryStep_4 : decode cX1_tryStep 4 = .ok (.iload_n 2, 1) := by decide +kernel
theorem dX1_tryStep_5 : decode cX1_tryStep 5 = .ok (.baload, 1) := by decide +kernel
theorem dX1_tryStep_6 : decode cX1_tryStep 6 = .ok (.ifCond .ne 4, 3) := by decide +kernel
theorem dX1_tryStep_9 : decode cX1_tryStep 9 = .ok (.return_, 1) := by decide +kernel
theorem dX1_tryStep_10 : decode cX1_tryStep 10 = .ok (.aload_n 0, 1) := by decide +kernel
theorem dX1_tryStep_11 : decode cX1_tryStep 11 = .ok (.getfield 15, 3) := by decide +kernel
theorem dX1_tryStep_14 : decode cX1_tryStep 14 = .ok (.iload_n 2, 1) := by decide +kernel
theorem dX1_tryStep_15 : decode cX1_tryStep 15 = .ok (.laload, 1) := by decide +kernel
theorem dX1_tryStep_16 : decode cX1_tryStep 16 = .ok (.lload 4, 2) := by decide +kernel
theorem dX1_tryStep_18 : decode cX1_tryStep 18 = .ok (.ladd, 1) := by decide +kernel
theorem dX1_tryStep_19 : decode cX1_tryStep 19 = .ok (.lstore 8, 2) := by decide +kernel
theorem dX1_tryStep_21 : decode cX1_tryStep 21 = .ok (.aload_n 0, 1) := by decide +kernel
theorem dX1_tryStep_22 : decode cX1_tryStep 22 = .ok (.getfield 19, 3) := by decide +kernel
theorem dX1_tryStep_25 : decode cX1_tryStep 25 = .ok (.iload_n 2, 1) := by decide +kernel
theorem dX1_tryStep_26 : decode cX1_tryStep 26 = .ok (.laload, 1) := by decide +kernel
theorem dX1_tryStep_27 : decode cX1_tryStep 27 = .ok (.lload 6, 2) := by decide +kernel
theorem dX1_tryStep_29 : decode cX1_tryStep 29 = .ok (.ladd, 1) := by decide +kernel
theorem dX1_tryStep_30 : decode cX1_tryStep 30 = .ok (.lstore 10, 2) := by decide +kernel
theorem dX1_tryStep_32 : decode cX1_tryStep 32 = .ok (.aload_n 0, 1) := by decide +kernel
theorem dX1_tryStep_33 : decode cX1_tryStep 33 = .ok (.getfield 9, 3) := by decide +kernel
theorem dX1_tryStep_36 : decode cX1_tryStep 36 = .ok (.iload_n 3, 1) := by decide +kernel
theorem dX1_tryStep_37 : decode cX1_tryStep 37 = .ok (.baload, 1) := by decide +kernel
theorem dX1_tryStep_38 : decode cX1_tryStep 38 = .ok (.ifCond .eq 25, 3) := by decide +kernel
theorem dX1_tryStep_41 : decode cX1_tryStep 41 = .ok (.lload 8, 2) := by decide +kernel
theorem dX1_tryStep_43 : decode cX1_tryStep 43 = .ok (.lload 10, 2) := by decide +kernel
theorem dX1_tryStep_45 : decode cX1_tryStep 45 = .ok (.aload_n 0, 1) := by decide +kernel
theorem dX1_tryStep_46 : decode cX1_tryStep 46 = .ok (.getfield 15, 3) := by decide +kernel
theorem dX1_tryStep_49 : decode cX1_tryStep 49 = .ok (.iload_n 3, 1) := by decide +kernel
theorem dX1_tryStep_50 : decode cX1_tryStep 50 = .ok (.laload, 1) := by decide +kernel
theorem dX1_tryStep_51 : decode cX1_tryStep 51 = .ok (.aload_n 0, 1) := by decide +kernel
theorem dX1_tryStep_52 : decode cX1_tryStep 52 = .ok (.getfield 19, 3) := by decide +kernel
theorem dX1_tryStep_55 : decode cX1_tryStep 55 = .ok (.iload_n 3, 1) := by decide +kernel
theorem dX1_tryStep_56 : decode cX1_tryStep 56 = .ok (.laload, 1) := by decide +kernel
theorem dX1_tryStep_57 : decode cX1_tryStep 57 = .ok (.invokestatic 59, 3) := by decide +kernel
theorem dX1_tryStep_60 : decode cX1_tryStep 60 = .ok (.ifCond .eq 38, 3) := by decide +kernel
theorem dX1_tryStep_63 : decode cX1_tryStep 63 = .ok (.aload_n 0, 1) := by decide +kernel
theorem dX1_tryStep_64 : decode cX1_tryStep 64 = .ok (.getfield 9, 3) := by decide +kernel
theorem dX1_tryStep_67 : decode cX1_tryStep 67 = .ok (.iload_n 3, 1) := by decide +kernel
theorem dX1_tryStep_68 : decode cX1_tryStep 68 = .ok (.iconst 1, 1) := by decide +kernel
theorem dX1_tryStep_69 : decode cX1_tryStep 69 = .ok (.bastore, 1) := by decide +kernel
theorem dX1_tryStep_70 : decode cX1_tryStep 70 = .ok (.aload_n 0, 1) := by decide +kernel
theorem dX1_tryStep_71 : decode cX1_tryStep 71 = .ok (.getfield 15, 3) := by decide +kernel
theorem dX1_tryStep_74 : decode cX1_tryStep 74 = .ok (.iload_n 3, 1) := by decide +kernel
theorem dX1_tryStep_75 : decode cX1_tryStep 75 = .ok (.lload 8, 2) := by decide +kernel
theorem dX1_tryStep_77 : decode cX1_tryStep 77 = .ok (.lastore, 1) := by decide +kernel
theorem dX1_tryStep_78 : decode cX1_tryStep 78 = .ok (.aload_n 0, 1) := by decide +kernel
theorem dX1_tryStep_79 : decode cX1_tryStep 79 = .ok (.getfield 19, 3) := by decide +kernel
theorem dX1_tryStep_82 : decode cX1_tryStep 82 = .ok (.iload_n 3, 1) := by decide +kernel
theorem dX1_tryStep_83 : decode cX1_tryStep 83 = .ok (.lload 10, 2) := by decide +kernel
theorem dX1_tryStep_85 : decode cX1_tryStep 85 = .ok (.lastore, 1) := by decide +kernel
theorem dX1_tryStep_86 : decode cX1_tryStep 86 = .ok (.aload_n 0, 1) := by decide +kernel
theorem dX1_tryStep_87 : decode cX1_tryStep 87 = .ok (.getfield 22, 3) := by decide +kernel
theorem dX1_tryStep_90 : decode cX1_tryStep 90 = .ok (.iload_n 3, 1) := by decide +kernel
theorem dX1_tryStep_91 : decode cX1_tryStep 91 = .ok (.iload_n 1, 1) := by decide +kernel
theorem dX1_tryStep_92 : decode cX1_tryStep 92 = .ok (.iastore, 1) := by decide +kernel
theorem dX1_tryStep_93 : decode cX1_tryStep 93 = .ok (.aload_n 0, 1) := by decide +kernel
theorem dX1_tryStep_94 : decode cX1_tryStep 94 = .ok (.iconst 1, 1) := by decide +kernel
theorem dX1_tryStep_95 : decode cX1_tryStep 95 = .ok (.putfield 29, 3) := by decide +kernel
theorem dX1_tryStep_98 : decode cX1_tryStep 98 = .ok (.return_, 1) := by decide +kernel
theorem dX1_isLess_0 : decode cX1_isLess 0 = .ok (.lload_n 0, 1) := by decide +kernel
theorem dX1_isLess_1 : decode cX1_isLess 1 = .ok (.lload 4, 2) := by decide +kernel
theorem dX1_isLess_3 : decode cX1_isLess 3 = .ok (.lcmp, 1) := by decide +kernel
theorem dX1_isLess_4 : decode cX1_isLess 4 = .ok (.ifCond .lt 17, 3) := by decide +kernel
theorem dX1_isLess_7 : decode cX1_isLess 7 = .ok (.lload_n 0, 1) := by decide +kernel
theorem dX1_isLess_8 : decode cX1_isLess 8 = .ok (.lload 4, 2) := by decide +kernel
theorem dX1_isLess_10 : decode cX1_isLess 10 = .ok (.lcmp, 1) := by decide +kernel
theorem dX1_isLess_11 : decode cX1_isLess 11 = .ok (.ifCond .ne 14, 3) := by decide +kernel
theorem dX1_isLess_14 : decode cX1_isLess 14 = .ok (.lload_n 2, 1) := by decide +kernel
theorem dX1_isLess_15 : decode cX1_isLess 15 = .ok (.lload 6, 2) := by decide +kernel
theorem dX1_isLess_17 : decode cX1_isLess 17 = .ok (.lcmp, 1) := by decide +kernel
theorem dX1_isLess_18 : decode cX1_isLess 18 = .ok (.ifCond .ge 7, 3) := by decide +kernel
theorem dX1_isLess_21 : decode cX1_isLess 21 = .ok (.iconst 1, 1) := by decide +kernel
theorem dX1_isLess_22 : decode cX1_isLess 22 = .ok (.goto 4, 3) := by decide +kernel
theorem dX1_isLess_25 : decode cX1_isLess 25 = .ok (.iconst 0, 1) := by decide +kernel
theorem dX1_isLess_26 : decode cX1_isLess 26 = .ok (.ireturn, 1) := by decide +kernel
theorem dX2_init_0 : decode cX2_init 0 = .ok (.aload_n 0, 1) := by decide +kernel
theorem dX2_init_1 : decode cX2_init 1 = .ok (.invokespecial 3, 3) := by decide +kernel
theorem dX2_init_4 : decode cX2_init 4 = .ok (.aload_n 0, 1) := by decide +kernel
theorem dX2_init_5 : decode cX2_init 5 = .ok (.bipush 40, 2) := by decide +kernel
theorem dX2_init_7 : decode cX2_init 7 = .ok (.newarray .int, 2) := by decide +kernel
theorem dX2_init_9 : decode cX2_init 9 = .ok (.putfield 9, 3) := by decide +kernel
theorem dX2_init_12 : decode cX2_init 12 = .ok (.aload_n 0, 1) := by decide +kernel
theorem dX2_init_13 : decode cX2_init 13 = .ok (.bipush 40, 2) := by decide +kernel
theorem dX2_init_15 : decode cX2_init 15 = .ok (.newarray .int, 2) := by decide +kernel
theorem dX2_init_17 : decode cX2_init 17 = .ok (.putfield 15, 3) := by decide +kernel
theorem dX2_init_20 : decode cX2_init 20 = .ok (.aload_n 0, 1) := by decide +kernel
theorem dX2_init_21 : decode cX2_init 21 = .ok (.bipush 40, 2) := by decide +kernel
theorem dX2_init_23 : decode cX2_init 23 = .ok (.newarray .int, 2) := by decide +kernel
theorem dX2_init_25 : decode cX2_init 25 = .ok (.putfield 18, 3) := by decide +kernel
theorem dX2_init_28 : decode cX2_init 28 = .ok (.aload_n 0, 1) := by decide +kernel
theorem dX2_init_29 : decode cX2_init 29 = .ok (.iconst 0, 1) := by decide +kernel
theorem dX2_init_30 : decode cX2_init 30 = .ok (.putfield 21, 3) := by decide +kernel
theorem dX2_init_33 : decode cX2_init 33 = .ok (.aload_n 0, 1) := by decide +kernel
theorem dX2_init_34 : decode cX2_init 34 = .ok (.iconst 1, 1) := by decide +kernel
theorem dX2_init_35 : decode cX2_init 35 = .ok (.putfield 25, 3) := by decide +kernel
theorem dX2_init_38 : decode cX2_init 38 = .ok (.aload_n 0, 1) := by decide +kernel
theorem dX2_init_39 : decode cX2_init 39 = .ok (.iconst 0, 1) := by decide +kernel
theorem dX2_init_40 : decode cX2_init 40 = .ok (.putfield 29, 3) := by decide +kernel
theorem dX2_init_43 : decode cX2_init 43 = .ok (.return_, 1) := by decide +kernel
theorem dX2_begin_0 : decode cX2_begin 0 = .ok (.aload_n 0, 1) := by decide +kernel
theorem dX2_begin_1 : decode cX2_begin 1 = .ok (.iload_n 1, 1) := by decide +kernel
theorem dX2_begin_2 : decode cX2_begin 2 = .ok (.putfield 21, 3) := by decide +kernel
theorem dX2_begin_5 : decode cX2_begin 5 = .ok (.aload_n 0, 1) := by decide +kernel
theorem dX2_begin_6 : decode cX2_begin 6 = .ok (.iload_n 2, 1) := by decide +kernel
theorem dX2_begin_7 : decode cX2_begin 7 = .ok (.putfield 25, 3) := by decide +kernel
theorem dX2_begin_10 : decode cX2_begin 10 = .ok (.aload_n 0, 1) := by decide +kernel
theorem dX2_begin_11 : decode cX2_begin 11 = .ok (.iconst 0, 1) := by decide +kernel
theorem dX2_begin_12 : decode cX2_begin 12 = .ok (.putfield 29, 3) := by decide +kernel
theorem dX2_begin_15 : decode cX2_begin 15 = .ok (.return_, 1) := by decide +kernel
theorem dX2_addEdge_0 : decode cX2_addEdge 0 = .ok (.aload_n 0, 1) := by decide +kernel
theorem dX2_addEdge_1 : decode cX2_addEdge 1 = .ok (.getfield 9, 3) := by decide +kernel
theorem dX2_addEdge_4 : decode cX2_addEdge 4 = .ok (.aload_n 0, 1) := by decide +kernel
theorem dX2_addEdge_5 : decode cX2_addEdge 5 = .ok (.getfield 29, 3) := by decide +kernel
theorem dX2_addEdge_8 : decode cX2_addEdge 8 = .ok (.iload_n 1, 1) := by decide +kernel
theorem dX2_addEdge_9 : decode cX2_addEdge 9 = .ok (.iastore, 1) := by decide +kernel
theorem dX2_addEdge_10 : decode cX2_addEdge 10 = .ok (.aload_n 0, 1) := by decide +kernel
theorem dX2_addEdge_11 : decode cX2_addEdge 11 = .ok (.getfield 15, 3) := by decide +kernel
theorem dX2_addEdge_14 : decode cX2_addEdge 14 = .ok (.aload_n 0, 1) := by decide +kernel
theorem dX2_addEdge_15 : decode cX2_addEdge 15 = .ok (.getfield 29, 3) := by decide +kernel
theorem dX2_addEdge_18 : decode cX2_addEdge 18 = .ok (.iload_n 2, 1) := by decide +kernel
theorem dX2_addEdge_19 : decode cX2_addEdge 19 = .ok (.iastore, 1) := by decide +kernel
theorem dX2_addEdge_20 : decode cX2_addEdge 20 = .ok (.aload_n 0, 1) := by decide +kernel
theorem dX2_addEdge_21 : decode cX2_addEdge 21 = .ok (.getfield 18, 3) := by decide +kernel
theorem dX2_addEdge_24 : decode cX2_addEdge 24 = .ok (.aload_n 0, 1) := by decide +kernel
theorem dX2_addEdge_25 : decode cX2_addEdge 25 = .ok (.getfield 29, 3) := by decide +kernel
theorem dX2_addEdge_28 : decode cX2_addEdge 28 = .ok (.iload_n 3, 1) := by decide +kernel
theorem dX2_addEdge_29 : decode cX2_addEdge 29 = .ok (.iastore, 1) := by decide +kernel
theorem dX2_addEdge_30 : decode cX2_addEdge 30 = .ok (.aload_n 0, 1) := by decide +kernel
theorem dX2_addEdge_31 : decode cX2_addEdge 31 = .ok (.dup, 1) := by decide +kernel
theorem dX2_addEdge_32 : decode cX2_addEdge 32 = .ok (.getfield 29, 3) := by decide +kernel
theorem dX2_addEdge_35 : decode cX2_addEdge 35 = .ok (.iconst 1, 1) := by decide +kernel
theorem dX2_addEdge_36 : decode cX2_addEdge 36 = .ok (.iadd, 1) := by decide +kernel
theorem dX2_addEdge_37 : decode cX2_addEdge 37 = .ok (.putfield 29, 3) := by decide +kernel
theorem dX2_addEdge_40 : decode cX2_addEdge 40 = .ok (.return_, 1) := by decide +kernel
theorem dX2_removeLastEdge_0 : decode cX2_removeLastEdge 0 = .ok (.aload_n 0, 1) := by decide +kernel
theorem dX2_removeLastEdge_1 : decode cX2_removeLastEdge 1 = .ok (.getfield 29, 3) := by decide +kernel
theorem dX2_removeLastEdge_4 : decode cX2_removeLastEdge 4 = .ok (.ifCond .le 13, 3) := by decide +kernel
theorem dX2_removeLastEdge_7 : decode cX2_removeLastEdge 7 = .ok (.aload_n 0, 1) := by decide +kernel
theorem dX2_removeLastEdge_8 : decode cX2_removeLastEdge 8 = .ok (.dup, 1) := by decide +kernel
theorem dX2_removeLastEdge_9 : decode cX2_removeLastEdge 9 = .ok (.getfield 29, 3) := by decide +kernel
theorem dX2_removeLastEdge_12 : decode cX2_removeLastEdge 12 = .ok (.iconst 1, 1) := by decide +kernel
theorem dX2_removeLastEdge_13 : decode cX2_removeLastEdge 13 = .ok (.isub, 1) := by decide +kernel
theorem dX2_removeLastEdge_14 : decode cX2_removeLastEdge 14 = .ok (.putfield 29, 3) := by decide +kernel
theorem dX2_removeLastEdge_17 : decode cX2_removeLastEdge 17 = .ok (.return_, 1) := by decide +kernel
theorem dX2_isStepFrom_0 : decode cX2_isStepFrom 0 = .ok (.iload_n 1, 1) := by decide +kernel
theorem dX2_isStepFrom_1 : decode cX2_isStepFrom 1 = .ok (.iconst 1, 1) := by decide +kernel
theorem dX2_isStepFrom_2 : decode cX2_isStepFrom 2 = .ok (.ishr, 1) := by decide +kernel
theorem dX2_isStepFrom_3 : decode cX2_isStepFrom 3 = .ok (.istore_n 3, 1) := by decide +kernel
theorem dX2_isStepFrom_4 : decode cX2_isStepFrom 4 = .ok (.iload_n 3, 1) := by decide +kernel
theorem dX2_isStepFrom_5 : decode cX2_isStepFrom 5 = .ok (.ifCond .lt 11, 3) := by decide +kernel
theorem dX2_isStepFrom_8 : decode cX2_isStepFrom 8 = .ok (.iload_n 3, 1) := by decide +kernel
theorem dX2_isStepFrom_9 : decode cX2_isStepFrom 9 = .ok (.aload_n 0, 1) := by decide +kernel
theorem dX2_isStepFrom_10 : decode cX2_isStepFrom 10 = .ok (.getfield 29, 3) := by decide +kernel
theorem dX2_isStepFrom_13 : decode cX2_isStepFrom 13 = .ok (.if_icmp .lt 5, 3) := by decide +kernel
theorem dX2_isStepFrom_16 : decode cX2_isStepFrom 16 = .ok (.iconst 0, 1) := by decide +kernel
theorem dX2_isStepFrom_17 : decode cX2_isStepFrom 17 = .ok (.ireturn, 1) := by decide +kernel
theorem dX2_isStepFrom_18 : decode cX2_isStepFrom 18 = .ok (.iload_n 1, 1) := by decide +kernel
theorem dX2_isStepFrom_19 : decode cX2_isStepFrom 19 = .ok (.iconst 1, 1) := by decide +kernel
theorem dX2_isStepFrom_20 : decode cX2_isStepFrom 20 = .ok (.iand, 1) := by decide +kernel
theorem dX2_isStepFrom_21 : decode cX2_isStepFrom 21 = .ok (.ifCond .ne 19, 3) := by decide +kernel
theorem dX2_isStepFrom_24 : decode cX2_isStepFrom 24 = .ok (.aload_n 0, 1) := by decide +kernel
theorem dX2_isStepFrom_25 : decode cX2_isStepFrom 25 = .ok (.getfield 9, 3) := by decide +kernel
theorem dX2_isStepFrom_28 : decode cX2_isStepFrom 28 = .ok (.iload_n 3, 1) := by decide +kernel
theorem dX2_isStepFrom_29 : decode cX2_isStepFrom 29 = .ok (.iaload, 1) := by decide +kernel
theorem dX2_isStepFrom_30 : decode cX2_isStepFrom 30 = .ok (.iload_n 2, 1) := by decide +kernel
theorem dX2_isStepFrom_31 : decode cX2_isStepFrom 31 = .ok (.if_icmp .ne 7, 3) := by decide +kernel
theorem dX2_isStepFrom_34 : decode cX2_isStepFrom 34 = .ok (.iconst 1, 1) := by decide +kernel
theorem dX2_isStepFrom_35 : decode cX2_isStepFrom 35 = .ok (.goto 4, 3) := by decide +kernel
theorem dX2_isStepFrom_38 : decode cX2_isStepFrom 38 = .ok (.iconst 0, 1) := by decide +kernel
theorem dX2_isStepFrom_39 : decode cX2_isStepFrom 39 = .ok (.ireturn, 1) := by decide +kernel
theorem dX2_isStepFrom_40 : decode cX2_isStepFrom 40 = .ok (.aload_n 0, 1) := by decide +kernel
theorem dX2_isStepFrom_41 : decode cX2_isStepFrom 41 = .ok (.getfield 21, 3) := by decide +kernel
theorem dX2_isStepFrom_44 : decode cX2_isStepFrom 44 = .ok (.ifCond .ne 32, 3) := by decide +kernel
theorem dX2_isStepFrom_47 : decode cX2_isStepFrom 47 = .ok (.aload_n 0, 1) := by decide +kernel
theorem dX2_isStepFrom_48 : decode cX2_isStepFrom 48 = .ok (.getfield 9, 3) := by decide +kernel
theorem dX2_isStepFrom_51 : decode cX2_isStepFrom 51 = .ok (.iload_n 3, 1) := by decide +kernel
theorem dX2_isStepFrom_52 : decode cX2_isStepFrom 52 = .ok (.iaload, 1) := by decide +kernel
theorem dX2_isStepFrom_53 : decode cX2_isStepFrom 53 = .ok (.aload_n 0, 1) := by decide +kernel
theorem dX2_isStepFrom_54 : decode cX2_isStepFrom 54 = .ok (.getfield 15, 3) := by decide +kernel
theorem dX2_isStepFrom_57 : decode cX2_isStepFrom 57 = .ok (.iload_n 3, 1) := by decide +kernel
theorem dX2_isStepFrom_58 : decode cX2_isStepFrom 58 = .ok (.iaload, 1) := by decide +kernel
theorem dX2_isStepFrom_59 : decode cX2_isStepFrom 59 = .ok (.if_icmp .eq 17, 3) := by decide +kernel
theorem dX2_isStepFrom_62 : decode cX2_isStepFrom 62 = .ok (.aload_n 0, 1) := by decide +kernel
theorem dX2_isStepFrom_63 : decode cX2_isStepFrom 63 = .ok (.getfield 15, 3) := by decide +kernel
theorem dX2_isStepFrom_66 : decode cX2_isStepFrom 66 = .ok (.iload_n 3, 1) := by decide +kernel
theorem dX2_isStepFrom_67 : decode cX2_isStepFrom 67 = .ok (.iaload, 1) := by decide +kernel
theorem dX2_isStepFrom_68 : decode cX2_isStepFrom 68 = .ok (.iload_n 2, 1) := by decide +kernel
theorem dX2_isStepFrom_69 : decode cX2_isStepFrom 69 = .ok (.if_icmp .ne 7, 3) := by decide +kernel
theorem dX2_isStepFrom_72 : decode cX2_isStepFrom 72 = .ok (.iconst 1, 1) := by decide +kernel
theorem dX2_isStepFrom_73 : decode cX2_isStepFrom 73 = .ok (.goto 4, 3) := by decide +kernel
theorem dX2_isStepFrom_76 : decode cX2_isStepFrom 76 = .ok (.iconst 0, 1) := by decide +kernel
theorem dX2_isStepFrom_77 : decode cX2_isStepFrom 77 = .ok (.ireturn, 1) := by decide +kernel
theorem dX2_endOf_0 : decode cX2_endOf 0 = .ok (.iload_n 1, 1) := by decide +kernel
theorem dX2_endOf_1 : decode cX2_endOf 1 = .ok (.iconst 1, 1) := by decide +kernel
theorem dX2_endOf_2 : decode cX2_endOf 2 = .ok (.iand, 1) := by decide +kernel
theorem dX2_endOf_3 : decode cX2_endOf 3 = .ok (.ifCond .ne 14, 3) := by decide +kernel
theorem dX2_endOf_6 : decode cX2_endOf 6 = .ok (.aload_n 0, 1) := by decide +kernel
theorem dX2_endOf_7 : decode cX2_endOf 7 = .ok (.getfield 15, 3) := by decide +kernel
theorem dX2_endOf_10 : decode cX2_endOf 10 = .ok (.iload_n 1, 1) := by decide +kernel
theorem dX2_endOf_11 : decode cX2_endOf 11 = .ok (.iconst 1, 1) := by decide +kernel
theorem dX2_endOf_12 : decode cX2_endOf 12 = .ok (.ishr, 1) := by decide +kernel
theorem dX2_endOf_13 : decode cX2_endOf 13 = .ok (.iaload, 1) := by decide +kernel
theorem dX2_endOf_14 : decode cX2_endOf 14 = .ok (.goto 11, 3) := by decide +kernel
theorem dX2_endOf_17 : decode cX2_endOf 17 = .ok (.aload_n 0, 1) := by decide +kernel
theorem dX2_endOf_18 : decode cX2_endOf 18 = .ok (.getfield 9, 3) := by decide +kernel
theorem dX2_endOf_21 : decode cX2_endOf 21 = .ok (.iload_n 1, 1) := by decide +kernel
theorem dX2_endOf_22 : decode cX2_endOf 22 = .ok (.iconst 1, 1) := by decide +kernel
theorem dX2_endOf_23 : decode cX2_endOf 23 = .ok (.ishr, 1) := by decide +kernel
theorem dX2_endOf_24 : decode cX2_endOf 24 = .ok (.iaload, 1) := by decide +kernel
theorem dX2_endOf_25 : decode cX2_endOf 25 = .ok (.ireturn, 1) := by decide +kernel
theorem dX2_surplusAt_0 : decode cX2_surplusAt 0 = .ok (.iconst 0, 1) := by decide +kernel
theorem dX2_surplusAt_1 : decode cX2_surplusAt 1 = .ok (.istore_n 2, 1) := by decide +kernel
theorem dX2_surplusAt_2 : decode cX2_surplusAt 2 = .ok (.iconst 0, 1) := by decide +kernel
theorem dX2_surplusAt_3 : decode cX2_surplusAt 3 = .ok (.istore_n 3, 1) := by decide +kernel
theorem dX2_surplusAt_4 : decode cX2_surplusAt 4 = .ok (.iload_n 3, 1) := by decide +kernel
theorem dX2_surplusAt_5 : decode cX2_surplusAt 5 = .ok (.aload_n 0, 1) := by decide +kernel
theorem dX2_surplusAt_6 : decode cX2_surplusAt 6 = .ok (.getfield 29, 3) := by decide +kernel
theorem dX2_surplusAt_9 : decode cX2_surplusAt 9 = .ok (.if_icmp .ge 43, 3) := by decide +kernel
theorem dX2_surplusAt_12 : decode cX2_surplusAt 12 = .ok (.iload_n 2, 1) := by decide +kernel
theorem dX2_surplusAt_13 : decode cX2_surplusAt 13 = .ok (.aload_n 0, 1) := by decide +kernel
theorem dX2_surplusAt_14 : decode cX2_surplusAt 14 = .ok (.getfield 15, 3) := by decide +kernel
theorem dX2_surplusAt_17 : decode cX2_surplusAt 17 = .ok (.iload_n 3, 1) := by decide +kernel
theorem dX2_surplusAt_18 : decode cX2_surplusAt 18 = .ok (.iaload, 1) := by decide +kernel
theorem dX2_surplusAt_19 : decode cX2_surplusAt 19 = .ok (.iload_n 1, 1) := by decide +kernel
theorem dX2_surplusAt_20 : decode cX2_surplusAt 20 = .ok (.if_icmp .ne 7, 3) := by decide +kernel
theorem dX2_surplusAt_23 : decode cX2_surplusAt 23 = .ok (.iconst 1, 1) := by decide +kernel
theorem dX2_surplusAt_24 : decode cX2_surplusAt 24 = .ok (.goto 4, 3) := by decide +kernel
theorem dX2_surplusAt_27 : decode cX2_surplusAt 27 = .ok (.iconst 0, 1) := by decide +kernel
theorem dX2_surplusAt_28 : decode cX2_surplusAt 28 = .ok (.aload_n 0, 1) := by decide +kernel
theorem dX2_surplusAt_29 : decode cX2_surplusAt 29 = .ok (.getfield 9, 3) := by decide +kernel
theorem dX2_surplusAt_32 : decode cX2_surplusAt 32 = .ok (.iload_n 3, 1) := by decide +kernel
theorem dX2_surplusAt_33 : decode cX2_surplusAt 33 = .ok (.iaload, 1) := by decide +kernel
theorem dX2_surplusAt_34 : decode cX2_surplusAt 34 = .ok (.iload_n 1, 1) := by decide +kernel
theorem dX2_surplusAt_35 : decode cX2_surplusAt 35 = .ok (.if_icmp .ne 7, 3) := by decide +kernel
theorem dX2_surplusAt_38 : decode cX2_surplusAt 38 = .ok (.iconst 1, 1) := by decide +kernel
theorem dX2_surplusAt_39 : decode cX2_surplusAt 39 = .ok (.goto 4, 3) := by decide +kernel
theorem dX2_surplusAt_42 : decode cX2_surplusAt 42 = .ok (.iconst 0, 1) := by decide +kernel
theorem dX2_surplusAt_43 : decode cX2_surplusAt 43 = .ok (.isub, 1) := by decide +kernel
theorem dX2_surplusAt_44 : decode cX2_surplusAt 44 = .ok (.iadd, 1) := by decide +kernel
theorem dX2_surplusAt_45 : decode cX2_surplusAt 45 = .ok (.istore_n 2, 1) := by decide +kernel
theorem dX2_surplusAt_46 : decode cX2_surplusAt 46 = .ok (.iinc 3 1, 3) := by decide +kernel
theorem dX2_surplusAt_49 : decode cX2_surplusAt 49 = .ok (.goto (-45), 3) := by decide +kernel
theorem dX2_surplusAt_52 : decode cX2_surplusAt 52 = .ok (.iload_n 2, 1) := by decide +kernel
theorem dX2_surplusAt_53 : decode cX2_surplusAt 53 = .ok (.ireturn, 1) := by decide +kernel
theorem dX2_oddVertices_0 : decode cX2_oddVertices 0 = .ok (.iconst 0, 1) := by decide +kernel
theorem dX2_oddVertices_1 : decode cX2_oddVertices 1 = .ok (.istore_n 1, 1) := by decide +kernel
theorem dX2_oddVertices_2 : decode cX2_oddVertices 2 = .ok (.iconst 0, 1) := by decide +kernel
theorem dX2_oddVertices_3 : decode cX2_oddVertices 3 = .ok (.istore_n 2, 1) := by decide +kernel
theorem dX2_oddVertices_4 : decode cX2_oddVertices 4 = .ok (.iload_n 2, 1) := by decide +kernel
theorem dX2_oddVertices_5 : decode cX2_oddVertices 5 = .ok (.aload_n 0, 1) := by decide +kernel
theorem dX2_oddVertices_6 : decode cX2_oddVertices 6 = .ok (.getfield 25, 3) := by decide +kernel
theorem dX2_oddVertices_9 : decode cX2_oddVertices 9 = .ok (.if_icmp .ge 42, 3) := by decide +kernel
theorem dX2_oddVertices_12 : decode cX2_oddVertices 12 = .ok (.aload_n 0, 1) := by decide +kernel
theorem dX2_oddVertices_13 : decode cX2_oddVertices 13 = .ok (.iload_n 2, 1) := by decide +kernel
theorem dX2_oddVertices_14 : decode cX2_oddVertices 14 = .ok (.invokevirtual 32, 3) := by decide +kernel
theorem dX2_oddVertices_17 : decode cX2_oddVertices 17 = .ok (.istore_n 3, 1) := by decide +kernel
theorem dX2_oddVertices_18 : decode cX2_oddVertices 18 = .ok (.aload_n 0, 1) := by decide +kernel
theorem dX2_oddVertices_19 : decode cX2_oddVertices 19 = .ok (.getfield 21, 3) := by decide +kernel
theorem dX2_oddVertices_22 : decode cX2_oddVertices 22 = .ok (.ifCond .eq 10, 3) := by decide +kernel
theorem dX2_oddVertices_25 : decode cX2_oddVertices 25 = .ok (.iload_n 3, 1) := by decide +kernel
theorem dX2_oddVertices_26 : decode cX2_oddVertices 26 = .ok (.ifCond .eq 19, 3) := by decide +kernel
theorem dX2_oddVertices_29 : decode cX2_oddVertices 29 = .ok (.goto 10, 3) := by decide +kernel
theorem dX2_oddVertices_32 : decode cX2_oddVertices 32 = .ok (.iload_n 3, 1) := by decide +kernel
theorem dX2_oddVertices_33 : decode cX2_oddVertices 33 = .ok (.iconst 1, 1) := by decide +kernel
theorem dX2_oddVertices_34 : decode cX2_oddVertices 34 = .ok (.iand, 1) := by decide +kernel
theorem dX2_oddVertices_35 : decode cX2_oddVertices 35 = .ok (.iconst 1, 1) := by decide +kernel
theorem dX2_oddVertices_36 : decode cX2_oddVertices 36 = .ok (.if_icmp .ne 9, 3) := by decide +kernel
theorem dX2_oddVertices_39 : decode cX2_oddVertices 39 = .ok (.iload_n 1, 1) := by decide +kernel
theorem dX2_oddVertices_40 : decode cX2_oddVertices 40 = .ok (.iconst 1, 1) := by decide +kernel
theorem dX2_oddVertices_41 : decode cX2_oddVertices 41 = .ok (.iload_n 2, 1) := by decide +kernel
theorem dX2_oddVertices_42 : decode cX2_oddVertices 42 = .ok (.ishl, 1) := by decide +kernel
theorem dX2_oddVertices_43 : decode cX2_oddVertices 43 = .ok (.ior, 1) := by decide +kernel
theorem dX2_oddVertices_44 : decode cX2_oddVertices 44 = .ok (.istore_n 1, 1) := by decide +kernel
theorem dX2_oddVertices_45 : decode cX2_oddVertices 45 = .ok (.iinc 2 1, 3) := by decide +kernel
theorem dX2_oddVertices_48 : decode cX2_oddVertices 48 = .ok (.goto (-44), 3) := by decide +kernel
theorem dX2_oddVertices_51 : decode cX2_oddVertices 51 = .ok (.iload_n 1, 1) := by decide +kernel
theorem dX2_oddVertices_52 : decode cX2_oddVertices 52 = .ok (.ireturn, 1) := by decide +kernel
theorem dX2_touchedBy_0 : decode cX2_touchedBy 0 = .ok (.iconst 0, 1) := by decide +kernel
theorem dX2_touchedBy_1 : decode cX2_touchedBy 1 = .ok (.istore_n 2, 1) := by decide +kernel
theorem dX2_touchedBy_2 : decode cX2_touchedBy 2 = .ok (.iconst 0, 1) := by decide +kernel
theorem dX2_touchedBy_3 : decode cX2_touchedBy 3 = .ok (.istore_n 3, 1) := by decide +kernel
theorem dX2_touchedBy_4 : decode cX2_touchedBy 4 = .ok (.iload_n 3, 1) := by decide +kernel
theorem dX2_touchedBy_5 : decode cX2_touchedBy 5 = .ok (.aload_n 0, 1) := by decide +kernel
theorem dX2_touchedBy_6 : decode cX2_touchedBy 6 = .ok (.getfield 29, 3) := by decide +kernel
theorem dX2_touchedBy_9 : decode cX2_touchedBy 9 = .ok (.if_icmp .ge 35, 3) := by decide +kernel
theorem dX2_touchedBy_12 : decode cX2_touchedBy 12 = .ok (.aload_n 1, 1) := by decide +kernel
theorem dX2_touchedBy_13 : decode cX2_touchedBy 13 = .ok (.iload_n 3, 1) := by decide +kernel
theorem dX2_touchedBy_14 : decode cX2_touchedBy 14 = .ok (.iaload, 1) := by decide +kernel
theorem dX2_touchedBy_15 : decode cX2_touchedBy 15 = .ok (.ifCond .le 23, 3) := by decide +kernel
theorem dX2_touchedBy_18 : decode cX2_touchedBy 18 = .ok (.iload_n 2, 1) := by decide +kernel
theorem dX2_touchedBy_19 : decode cX2_touchedBy 19 = .ok (.iconst 1, 1) := by decide +kernel
theorem dX2_touchedBy_20 : decode cX2_touchedBy 20 = .ok (.aload_n 0, 1) := by decide +kernel
theorem dX2_touchedBy_21 : decode cX2_touchedBy 21 = .ok (.getfield 9, 3) := by decide +kernel
theorem dX2_touchedBy_24 : decode cX2_touchedBy 24 = .ok (.iload_n 3, 1) := by decide +kernel
theorem dX2_touchedBy_25 : decode cX2_touchedBy 25 = .ok (.iaload, 1) := by decide +kernel
theorem dX2_touchedBy_26 : decode cX2_touchedBy 26 = .ok (.ishl, 1) := by decide +kernel
theorem dX2_touchedBy_27 : decode cX2_touchedBy 27 = .ok (.iconst 1, 1) := by decide +kernel
theorem dX2_touchedBy_28 : decode cX2_touchedBy 28 = .ok (.aload_n 0, 1) := by decide +kernel
theorem dX2_touchedBy_29 : decode cX2_touchedBy 29 = .ok (.getfield 15, 3) := by decide +kernel
theorem dX2_touchedBy_32 : decode cX2_touchedBy 32 = .ok (.iload_n 3, 1) := by decide +kernel
theorem dX2_touchedBy_33 : decode cX2_touchedBy 33 = .ok (.iaload, 1) := by decide +kernel
theorem dX2_touchedBy_34 : decode cX2_touchedBy 34 = .ok (.ishl, 1) := by decide +kernel
theorem dX2_touchedBy_35 : decode cX2_touchedBy 35 = .ok (.ior, 1) := by decide +kernel
theorem dX2_touchedBy_36 : decode cX2_touchedBy 36 = .ok (.ior, 1) := by decide +kernel
theorem dX2_touchedBy_37 : decode cX2_touchedBy 37 = .ok (.istore_n 2, 1) := by decide +kernel
theorem dX2_touchedBy_38 : decode cX2_touchedBy 38 = .ok (.iinc 3 1, 3) := by decide +kernel
theorem dX2_touchedBy_41 : decode cX2_touchedBy 41 = .ok (.goto (-37), 3) := by decide +kernel
theorem dX2_touchedBy_44 : decode cX2_touchedBy 44 = .ok (.iload_n 2, 1) := by decide +kernel
theorem dX2_touchedBy_45 : decode cX2_touchedBy 45 = .ok (.ireturn, 1) := by decide +kernel
theorem dX2_reachOf_0 : decode cX2_reachOf 0 = .ok (.iconst 1, 1) := by decide +kernel
theorem dX2_reachOf_1 : decode cX2_reachOf 1 = .ok (.iload_n 1, 1) := by decide +kernel
theorem dX2_reachOf_2 : decode cX2_reachOf 2 = .ok (.ishl, 1) := by decide +kernel
theorem dX2_reachOf_3 : decode cX2_reachOf 3 = .ok (.istore 5, 2) := by decide +kernel
theorem dX2_reachOf_5 : decode cX2_reachOf 5 = .ok (.iconst 0, 1) := by decide +kernel
theorem dX2_reachOf_6 : decode cX2_reachOf 6 = .ok (.istore 6, 2) := by decide +kernel
theorem dX2_reachOf_8 : decode cX2_reachOf 8 = .ok (.iload 6, 2) := by decide +kernel
theorem dX2_reachOf_10 : decode cX2_reachOf 10 = .ok (.bipush 16, 2) := by decide +kernel
theorem dX2_reachOf_12 : decode cX2_reachOf 12 = .ok (.if_icmp .ge 117, 3) := by decide +kernel
theorem dX2_reachOf_15 : decode cX2_reachOf 15 = .ok (.iload 5, 2) := by decide +kernel
theorem dX2_reachOf_17 : decode cX2_reachOf 17 = .ok (.istore 7, 2) := by decide +kernel
theorem dX2_reachOf_19 : decode cX2_reachOf 19 = .ok (.iconst 0, 1) := by decide +kernel
theorem dX2_reachOf_20 : decode cX2_reachOf 20 = .ok (.istore 8, 2) := by decide +kernel
theorem dX2_reachOf_22 : decode cX2_reachOf 22 = .ok (.iload 8, 2) := by decide +kernel
theorem dX2_reachOf_24 : decode cX2_reachOf 24 = .ok (.aload_n 0, 1) := by decide +kernel
theorem dX2_reachOf_25 : decode cX2_reachOf 25 = .ok (.getfield 29, 3) := by decide +kernel
theorem dX2_reachOf_28 : decode cX2_reachOf 28 = .ok (.if_icmp .ge 85, 3) := by decide +kernel
theorem dX2_reachOf_31 : decode cX2_reachOf 31 = .ok (.aload 4, 2) := by decide +kernel
theorem dX2_reachOf_33 : decode cX2_reachOf 33 = .ok (.iload 8, 2) := by decide +kernel
theorem dX2_reachOf_35 : decode cX2_reachOf 35 = .ok (.iaload, 1) := by decide +kernel
theorem dX2_reachOf_36 : decode cX2_reachOf 36 = .ok (.ifCond .le 71, 3) := by decide +kernel
theorem dX2_reachOf_39 : decode cX2_reachOf 39 = .ok (.iload_n 2, 1) := by decide +kernel
theorem dX2_reachOf_40 : decode cX2_reachOf 40 = .ok (.ifCond .eq 33, 3) := by decide +kernel
theorem dX2_reachOf_43 : decode cX2_reachOf 43 = .ok (.iload 5, 2) := by decide +kernel
theorem dX2_reachOf_45 : decode cX2_reachOf 45 = .ok (.aload_n 0, 1) := by decide +kernel
theorem dX2_reachOf_46 : decode cX2_reachOf 46 = .ok (.getfield 9, 3) := by decide +kernel
theorem dX2_reachOf_49 : decode cX2_reachOf 49 = .ok (.iload 8, 2) := by decide +kernel
theorem dX2_reachOf_51 : decode cX2_reachOf 51 = .ok (.iaload, 1) := by decide +kernel
theorem dX2_reachOf_52 : decode cX2_reachOf 52 = .ok (.ishr, 1) := by decide +kernel
theorem dX2_reachOf_53 : decode cX2_reachOf 53 = .ok (.iconst 1, 1) := by decide +kernel
theorem dX2_reachOf_54 : decode cX2_reachOf 54 = .ok (.iand, 1) := by decide +kernel
theorem dX2_reachOf_55 : decode cX2_reachOf 55 = .ok (.iconst 1, 1) := by decide +kernel
theorem dX2_reachOf_56 : decode cX2_reachOf 56 = .ok (.if_icmp .ne 17, 3) := by decide +kernel
theorem dX2_reachOf_59 : decode cX2_reachOf 59 = .ok (.iload 5, 2) := by decide +kernel
theorem dX2_reachOf_61 : decode cX2_reachOf 61 = .ok (.iconst 1, 1) := by decide +kernel
theorem dX2_reachOf_62 : decode cX2_reachOf 62 = .ok (.aload_n 0, 1) := by decide +kernel
theorem dX2_reachOf_63 : decode cX2_reachOf 63 = .ok (.getfield 15, 3) := by decide +kernel
theorem dX2_reachOf_66 : decode cX2_reachOf 66 = .ok (.iload 8, 2) := by decide +kernel
theorem dX2_reachOf_68 : decode cX2_reachOf 68 = .ok (.iaload, 1) := by decide +kernel
theorem dX2_reachOf_69 : decode cX2_reachOf 69 = .ok (.ishl, 1) := by decide +kernel
theorem dX2_reachOf_70 : decode cX2_reachOf 70 = .ok (.ior, 1) := by decide +kernel
theorem dX2_reachOf_71 : decode cX2_reachOf 71 = .ok (.istore 5, 2) := by decide +kernel
theorem dX2_reachOf_73 : decode cX2_reachOf 73 = .ok (.iload_n 3, 1) := by decide +kernel
theorem dX2_reachOf_74 : decode cX2_reachOf 74 = .ok (.ifCond .eq 33, 3) := by decide +kernel
theorem dX2_reachOf_77 : decode cX2_reachOf 77 = .ok (.iload 5, 2) := by decide +kernel
theorem dX2_reachOf_79 : decode cX2_reachOf 79 = .ok (.aload_n 0, 1) := by decide +kernel
theorem dX2_reachOf_80 : decode cX2_reachOf 80 = .ok (.getfield 15, 3) := by decide +kernel
theorem dX2_reachOf_83 : decode cX2_reachOf 83 = .ok (.iload 8, 2) := by decide +kernel
theorem dX2_reachOf_85 : decode cX2_reachOf 85 = .ok (.iaload, 1) := by decide +kernel
theorem dX2_reachOf_86 : decode cX2_reachOf 86 = .ok (.ishr, 1) := by decide +kernel
theorem dX2_reachOf_87 : decode cX2_reachOf 87 = .ok (.iconst 1, 1) := by decide +kernel
theorem dX2_reachOf_88 : decode cX2_reachOf 88 = .ok (.iand, 1) := by decide +kernel
theorem dX2_reachOf_89 : decode cX2_reachOf 89 = .ok (.iconst 1, 1) := by decide +kernel
theorem dX2_reachOf_90 : decode cX2_reachOf 90 = .ok (.if_icmp .ne 17, 3) := by decide +kernel
theorem dX2_reachOf_93 : decode cX2_reachOf 93 = .ok (.iload 5, 2) := by decide +kernel
theorem dX2_reachOf_95 : decode cX2_reachOf 95 = .ok (.iconst 1, 1) := by decide +kernel
theorem dX2_reachOf_96 : decode cX2_reachOf 96 = .ok (.aload_n 0, 1) := by decide +kernel
theorem dX2_reachOf_97 : decode cX2_reachOf 97 = .ok (.getfield 9, 3) := by decide +kernel
theorem dX2_reachOf_100 : decode cX2_reachOf 100 = .ok (.iload 8, 2) := by decide +kernel
theorem dX2_reachOf_102 : decode cX2_reachOf 102 = .ok (.iaload, 1) := by decide +kernel
theorem dX2_reachOf_103 : decode cX2_reachOf 103 = .ok (.ishl, 1) := by decide +kernel
theorem dX2_reachOf_104 : decode cX2_reachOf 104 = .ok (.ior, 1) := by decide +kernel
theorem dX2_reachOf_105 : decode cX2_reachOf 105 = .ok (.istore 5, 2) := by decide +kernel
theorem dX2_reachOf_107 : decode cX2_reachOf 107 = .ok (.iinc 8 1, 3) := by decide +kernel
theorem dX2_reachOf_110 : decode cX2_reachOf 110 = .ok (.goto (-88), 3) := by decide +kernel
theorem dX2_reachOf_113 : decode cX2_reachOf 113 = .ok (.iload 5, 2) := by decide +kernel
theorem dX2_reachOf_115 : decode cX2_reachOf 115 = .ok (.iload 7, 2) := by decide +kernel
theorem dX2_reachOf_117 : decode cX2_reachOf 117 = .ok (.if_icmp .ne 6, 3) := by decide +kernel
theorem dX2_reachOf_120 : decode cX2_reachOf 120 = .ok (.goto 9, 3) := by decide +kernel
theorem dX2_reachOf_123 : decode cX2_reachOf 123 = .ok (.iinc 6 1, 3) := by decide +kernel
theorem dX2_reachOf_126 : decode cX2_reachOf 126 = .ok (.goto (-118), 3) := by decide +kernel
theorem dX2_reachOf_129 : decode cX2_reachOf 129 = .ok (.iload 5, 2) := by decide +kernel
theorem dX2_reachOf_131 : decode cX2_reachOf 131 = .ok (.ireturn, 1) := by decide +kernel
theorem dX2_hangsTogetherAt_0 : decode cX2_hangsTogetherAt 0 = .ok (.aload_n 0, 1) := by decide +kernel
theorem dX2_hangsTogetherAt_1 : decode cX2_hangsTogetherAt 1 = .ok (.aload_n 2, 1) := by decide +kernel
theorem dX2_hangsTogetherAt_2 : decode cX2_hangsTogetherAt 2 = .ok (.invokevirtual 36, 3) := by decide +kernel
theorem dX2_hangsTogetherAt_5 : decode cX2_hangsTogetherAt 5 = .ok (.aload_n 0, 1) := by decide +kernel
theorem dX2_hangsTogetherAt_6 : decode cX2_hangsTogetherAt 6 = .ok (.iload_n 1, 1) := by decide +kernel
theorem dX2_hangsTogetherAt_7 : decode cX2_hangsTogetherAt 7 = .ok (.iconst 1, 1) := by decide +kernel
theorem dX2_hangsTogetherAt_8 : decode cX2_hangsTogetherAt 8 = .ok (.iconst 1, 1) := by decide +kernel
theorem dX2_hangsTogetherAt_9 : decode cX2_hangsTogetherAt 9 = .ok (.aload_n 2, 1) := by decide +kernel
theorem dX2_hangsTogetherAt_10 : decode cX2_hangsTogetherAt 10 = .ok (.invokevirtual 40, 3) := by decide +kernel
theorem dX2_hangsTogetherAt_13 : decode cX2_hangsTogetherAt 13 = .ok (.iconst (-1), 1) := by decide +kernel
theorem dX2_hangsTogetherAt_14 : decode cX2_hangsTogetherAt 14 = .ok (.ixor, 1) := by decide +kernel
theorem dX2_hangsTogetherAt_15 : decode cX2_hangsTogetherAt 15 = .ok (.iand, 1) := by decide +kernel
theorem dX2_hangsTogetherAt_16 : decode cX2_hangsTogetherAt 16 = .ok (.ifCond .ne 7, 3) := by decide +kernel
theorem dX2_hangsTogetherAt_19 : decode cX2_hangsTogetherAt 19 = .ok (.iconst 1, 1) := by decide +kernel
theorem dX2_hangsTogetherAt_20 : decode cX2_hangsTogetherAt 20 = .ok (.goto 4, 3) := by decide +kernel
theorem dX2_hangsTogetherAt_23 : decode cX2_hangsTogetherAt 23 = .ok (.iconst 0, 1) := by decide +kernel
theorem dX2_hangsTogetherAt_24 : decode cX2_hangsTogetherAt 24 = .ok (.ireturn, 1) := by decide +kernel
theorem dX2_canBeCoveredFrom_0 : decode cX2_canBeCoveredFrom 0 = .ok (.aload_n 0, 1) := by decide +kernel
theorem dX2_canBeCoveredFrom_1 : decode cX2_canBeCoveredFrom 1 = .ok (.aload_n 2, 1) := by decide +kernel
theorem dX2_canBeCoveredFrom_2 : decode cX2_canBeCoveredFrom 2 = .ok (.invokevirtual 36, 3) := by decide +kernel
theorem dX2_canBeCoveredFrom_5 : decode cX2_canBeCoveredFrom 5 = .ok (.istore_n 3, 1) := by decide +kernel
theorem dX2_canBeCoveredFrom_6 : decode cX2_canBeCoveredFrom 6 = .ok (.iload_n 3, 1) := by decide +kernel
theorem dX2_canBeCoveredFrom_7 : decode cX2_canBeCoveredFrom 7 = .ok (.aload_n 0, 1) := by decide +kernel
theorem dX2_canBeCoveredFrom_8 : decode cX2_canBeCoveredFrom 8 = .ok (.iload_n 1, 1) := by decide +kernel
theorem dX2_canBeCoveredFrom_9 : decode cX2_canBeCoveredFrom 9 = .ok (.iconst 1, 1) := by decide +kernel
theorem dX2_canBeCoveredFrom_10 : decode cX2_canBeCoveredFrom 10 = .ok (.aload_n 0, 1) := by decide +kernel
theorem dX2_canBeCoveredFrom_11 : decode cX2_canBeCoveredFrom 11 = .ok (.getfield 21, 3) := by decide +kernel
theorem dX2_canBeCoveredFrom_14 : decode cX2_canBeCoveredFrom 14 = .ok (.ifCond .ne 7, 3) := by decide +kernel
theorem dX2_canBeCoveredFrom_17 : decode cX2_canBeCoveredFrom 17 = .ok (.iconst 1, 1) := by decide +kernel
theorem dX2_canBeCoveredFrom_18 : decode cX2_canBeCoveredFrom 18 = .ok (.goto 4, 3) := by decide +kernel
theorem dX2_canBeCoveredFrom_21 : decode cX2_canBeCoveredFrom 21 = .ok (.iconst 0, 1) := by decide +kernel
theorem dX2_canBeCoveredFrom_22 : decode cX2_canBeCoveredFrom 22 = .ok (.aload_n 2, 1) := by decide +kernel
theorem dX2_canBeCoveredFrom_23 : decode cX2_canBeCoveredFrom 23 = .ok (.invokevirtual 40, 3) := by decide +kernel
theorem dX2_canBeCoveredFrom_26 : decode cX2_canBeCoveredFrom 26 = .ok (.iconst (-1), 1) := by decide +kernel
theorem dX2_canBeCoveredFrom_27 : decode cX2_canBeCoveredFrom 27 = .ok (.ixor, 1) := by decide +kernel
theorem dX2_canBeCoveredFrom_28 : decode cX2_canBeCoveredFrom 28 = .ok (.iand, 1) := by decide +kernel
theorem dX2_canBeCoveredFrom_29 : decode cX2_canBeCoveredFrom 29 = .ok (.ifCond .ne 33, 3) := by decide +kernel
theorem dX2_canBeCoveredFrom_32 : decode cX2_canBeCoveredFrom 32 = .ok (.iload_n 3, 1) := by decide +kernel
theorem dX2_canBeCoveredFrom_33 : decode cX2_canBeCoveredFrom 33 = .ok (.aload_n 0, 1) := by decide +kernel
theorem dX2_canBeCoveredFrom_34 : decode cX2_canBeCoveredFrom 34 = .ok (.iload_n 1, 1) := by decide +kernel
theorem dX2_canBeCoveredFrom_35 : decode cX2_canBeCoveredFrom 35 = .ok (.aload_n 0, 1) := by decide +kernel
theorem dX2_canBeCoveredFrom_36 : decode cX2_canBeCoveredFrom 36 = .ok (.getfield 21, 3) := by decide +kernel
theorem dX2_canBeCoveredFrom_39 : decode cX2_canBeCoveredFrom 39 = .ok (.ifCond .ne 7, 3) := by decide +kernel
theorem dX2_canBeCoveredFrom_42 : decode cX2_canBeCoveredFrom 42 = .ok (.iconst 1, 1) := by decide +kernel
theorem dX2_canBeCoveredFrom_43 : decode cX2_canBeCoveredFrom 43 = .ok (.goto 4, 3) := by decide +kernel
theorem dX2_canBeCoveredFrom_46 : decode cX2_canBeCoveredFrom 46 = .ok (.iconst 0, 1) := by decide +kernel
theorem dX2_canBeCoveredFrom_47 : decode cX2_canBeCoveredFrom 47 = .ok (.iconst 1, 1) := by decide +kernel
theorem dX2_canBeCoveredFrom_48 : decode cX2_canBeCoveredFrom 48 = .ok (.aload_n 2, 1) := by decide +kernel
theorem dX2_canBeCoveredFrom_49 : decode cX2_canBeCoveredFrom 49 = .ok (.invokevirtual 40, 3) := by decide +kernel
theorem dX2_canBeCoveredFrom_52 : decode cX2_canBeCoveredFrom 52 = .ok (.iconst (-1), 1) := by decide +kernel
theorem dX2_canBeCoveredFrom_53 : decode cX2_canBeCoveredFrom 53 = .ok (.ixor, 1) := by decide +kernel
theorem dX2_canBeCoveredFrom_54 : decode cX2_canBeCoveredFrom 54 = .ok (.iand, 1) := by decide +kernel
theorem dX2_canBeCoveredFrom_55 : decode cX2_canBeCoveredFrom 55 = .ok (.ifCond .ne 7, 3) := by decide +kernel
theorem dX2_canBeCoveredFrom_58 : decode cX2_canBeCoveredFrom 58 = .ok (.iconst 1, 1) := by decide +kernel
theorem dX2_canBeCoveredFrom_59 : decode cX2_canBeCoveredFrom 59 = .ok (.goto 4, 3) := by decide +kernel
theorem dX2_canBeCoveredFrom_62 : decode cX2_canBeCoveredFrom 62 = .ok (.iconst 0, 1) := by decide +kernel
theorem dX2_canBeCoveredFrom_63 : decode cX2_canBeCoveredFrom 63 = .ok (.ireturn, 1) := by decide +kernel
theorem dX2_countRegions_0 : decode cX2_countRegions 0 = .ok (.aload_n 0, 1) := by decide +kernel
theorem dX2_countRegions_1 : decode cX2_countRegions 1 = .ok (.aload_n 1, 1) := by decide +kernel
theorem dX2_countRegions_2 : decode cX2_countRegions 2 = .ok (.invokevirtual 36, 3) := by decide +kernel
theorem dX2_countRegions_5 : decode cX2_countRegions 5 = .ok (.istore_n 2, 1) := by decide +kernel
theorem dX2_countRegions_6 : decode cX2_countRegions 6 = .ok (.iconst 0, 1) := by decide +kernel
theorem dX2_countRegions_7 : decode cX2_countRegions 7 = .ok (.istore_n 3, 1) := by decide +kernel
theorem dX2_countRegions_8 : decode cX2_countRegions 8 = .ok (.iconst 0, 1) := by decide +kernel
theorem dX2_countRegions_9 : decode cX2_countRegions 9 = .ok (.istore 4, 2) := by decide +kernel
theorem dX2_countRegions_11 : decode cX2_countRegions 11 = .ok (.iload 4, 2) := by decide +kernel
theorem dX2_countRegions_13 : decode cX2_countRegions 13 = .ok (.aload_n 0, 1) := by decide +kernel
theorem dX2_countRegions_14 : decode cX2_countRegions 14 = .ok (.getfield 25, 3) := by decide +kernel
theorem dX2_countRegions_17 : decode cX2_countRegions 17 = .ok (.if_icmp .ge 36, 3) := by decide +kernel
theorem dX2_countRegions_20 : decode cX2_countRegions 20 = .ok (.iload_n 2, 1) := by decide +kernel
theorem dX2_countRegions_21 : decode cX2_countRegions 21 = .ok (.iload 4, 2) := by decide +kernel
theorem dX2_countRegions_23 : decode cX2_countRegions 23 = .ok (.ishr, 1) := by decide +kernel
theorem dX2_countRegions_24 : decode cX2_countRegions 24 = .ok (.iconst 1, 1) := by decide +kernel
theorem dX2_countRegions_25 : decode cX2_countRegions 25 = .ok (.iand, 1) := by decide +kernel
theorem dX2_countRegions_26 : decode cX2_countRegions 26 = .ok (.iconst 1, 1) := by decide +kernel
theorem dX2_countRegions_27 : decode cX2_countRegions 27 = .ok (.if_icmp .ne 20, 3) := by decide +kernel
theorem dX2_countRegions_30 : decode cX2_countRegions 30 = .ok (.iload_n 2, 1) := by decide +kernel
theorem dX2_countRegions_31 : decode cX2_countRegions 31 = .ok (.aload_n 0, 1) := by decide +kernel
theorem dX2_countRegions_32 : decode cX2_countRegions 32 = .ok (.iload 4, 2) := by decide +kernel
theorem dX2_countRegions_34 : decode cX2_countRegions 34 = .ok (.iconst 1, 1) := by decide +kernel
theorem dX2_countRegions_35 : decode cX2_countRegions 35 = .ok (.iconst 1, 1) := by decide +kernel
theorem dX2_countRegions_36 : decode cX2_countRegions 36 = .ok (.aload_n 1, 1) := by decide +kernel
theorem dX2_countRegions_37 : decode cX2_countRegions 37 = .ok (.invokevirtual 40, 3) := by decide +kernel
theorem dX2_countRegions_40 : decode cX2_countRegions 40 = .ok (.iconst (-1), 1) := by decide +kernel
theorem dX2_countRegions_41 : decode cX2_countRegions 41 = .ok (.ixor, 1) := by decide +kernel
theorem dX2_countRegions_42 : decode cX2_countRegions 42 = .ok (.iand, 1) := by decide +kernel
theorem dX2_countRegions_43 : decode cX2_countRegions 43 = .ok (.istore_n 2, 1) := by decide +kernel
theorem dX2_countRegions_44 : decode cX2_countRegions 44 = .ok (.iinc 3 1, 3) := by decide +kernel
theorem dX2_countRegions_47 : decode cX2_countRegions 47 = .ok (.iinc 4 1, 3) := by decide +kernel
theorem dX2_countRegions_50 : decode cX2_countRegions 50 = .ok (.goto (-39), 3) := by decide +kernel
theorem dX2_countRegions_53 : decode cX2_countRegions 53 = .ok (.iload_n 3, 1) := by decide +kernel
theorem dX2_countRegions_54 : decode cX2_countRegions 54 = .ok (.ireturn, 1) := by decide +kernel
theorem dX3_init_0 : decode cX3_init 0 = .ok (.aload_n 0, 1) := by decide +kernel
theorem dX3_init_1 : decode cX3_init 1 = .ok (.invokespecial 5, 3) := by decide +kernel
theorem dX3_init_4 : decode cX3_init 4 = .ok (.aload_n 0, 1) := by decide +kernel
theorem dX3_init_5 : decode cX3_init 5 = .ok (.bipush 16, 2) := by decide +kernel
theorem dX3_init_7 : decode cX3_init 7 = .ok (.bipush 16, 2) := by decide +kernel
theorem dX3_init_9 : decode cX3_init 9 = .ok (.multianewarray 11 2, 4) := by decide +kernel
theorem dX3_init_13 : decode cX3_init 13 = .ok (.putfield 13, 3) := by decide +kernel
theorem dX3_init_16 : decode cX3_init 16 = .ok (.aload_n 0, 1) := by decide +kernel
theorem dX3_init_17 : decode cX3_init 17 = .ok (.bipush 16, 2) := by decide +kernel
theorem dX3_init_19 : decode cX3_init 19 = .ok (.bipush 16, 2) := by decide +kernel
theorem dX3_init_21 : decode cX3_init 21 = .ok (.multianewarray 11 2, 4) := by decide +kernel
theorem dX3_init_25 : decode cX3_init 25 = .ok (.putfield 16, 3) := by decide +kernel
theorem dX3_init_28 : decode cX3_init 28 = .ok (.aload_n 0, 1) := by decide +kernel
theorem dX3_init_29 : decode cX3_init 29 = .ok (.sipush 1597, 3) := by decide +kernel
theorem dX3_init_32 : decode cX3_init 32 = .ok (.newarray .int, 2) := by decide +kernel
theorem dX3_init_34 : decode cX3_init 34 = .ok (.putfield 19, 3) := by decide +kernel
theorem dX3_init_37 : decode cX3_init 37 = .ok (.aload_n 0, 1) := by decide +kernel
theorem dX3_init_38 : decode cX3_init 38 = .ok (.sipush 1597, 3) := by decide +kernel
theorem dX3_init_41 : decode cX3_init 41 = .ok (.newarray .long, 2) := by decide +kernel
theorem dX3_init_43 : decode cX3_init 43 = .ok (.putfield 23, 3) := by decide +kernel
theorem dX3_init_46 : decode cX3_init 46 = .ok (.aload_n 0, 1) := by decide +kernel
theorem dX3_init_47 : decode cX3_init 47 = .ok (.sipush 1597, 3) := by decide +kernel
theorem dX3_init_50 : decode cX3_init 50 = .ok (.newarray .long, 2) := by decide +kernel
theorem dX3_init_52 : decode cX3_init 52 = .ok (.putfield 27, 3) := by decide +kernel
theorem dX3_init_55 : decode cX3_init 55 = .ok (.aload_n 0, 1) := by decide +kernel
theorem dX3_init_56 : decode cX3_init 56 = .ok (.sipush 4096, 3) := by decide +kernel
theorem dX3_init_59 : decode cX3_init 59 = .ok (.newarray .int, 2) := by decide +kernel
theorem dX3_init_61 : decode cX3_init 61 = .ok (.putfield 30, 3) := by decide +kernel
theorem dX3_init_64 : decode cX3_init 64 = .ok (.aload_n 0, 1) := by decide +kernel
theorem dX3_init_65 : decode cX3_init 65 = .ok (.iconst 0, 1) := by decide +kernel
theorem dX3_init_66 : decode cX3_init 66 = .ok (.putfield 33, 3) := by decide +kernel
theorem dX3_init_69 : decode cX3_init 69 = .ok (.return_, 1) := by decide +kernel
theorem dX3_find_0 : decode cX3_find 0 = .ok (.aload_n 1, 1) := by decide +kernel
theorem dX3_find_1 : decode cX3_find 1 = .ok (.invokevirtual 37, 3) := by decide +kernel
theorem dX3_find_4 : decode cX3_find 4 = .ok (.istore 4, 2) := by decide +kernel
theorem dX3_find_6 : decode cX3_find 6 = .ok (.aload_n 0, 1) := by decide +kernel
theorem dX3_find_7 : decode cX3_find 7 = .ok (.iload 4, 2) := by decide +kernel
theorem dX3_find_9 : decode cX3_find 9 = .ok (.aload_n 1, 1) := by decide +kernel
theorem dX3_find_10 : decode cX3_find 10 = .ok (.aload_n 2, 1) := by decide +kernel
theorem dX3_find_11 : decode cX3_find 11 = .ok (.invokevirtual 43, 3) := by decide +kernel
theorem dX3_find_14 : decode cX3_find 14 = .ok (.aload_n 0, 1) := by decide +kernel
theorem dX3_find_15 : decode cX3_find 15 = .ok (.iload 4, 2) := by decide +kernel
theorem dX3_find_17 : decode cX3_find 17 = .ok (.invokevirtual 47, 3) := by decide +kernel
theorem dX3_find_20 : decode cX3_find 20 = .ok (.lstore 5, 2) := by decide +kernel
theorem dX3_find_22 : decode cX3_find 22 = .ok (.iconst 0, 1) := by decide +kernel
theorem dX3_find_23 : decode cX3_find 23 = .ok (.istore 7, 2) := by decide +kernel
theorem dX3_find_25 : decode cX3_find 25 = .ok (.iload 7, 2) := by decide +kernel
theorem dX3_find_27 : decode cX3_find 27 = .ok (.aload_n 1, 1) := by decide +kernel
theorem dX3_find_28 : decode cX3_find 28 = .ok (.getfield 51, 3) := by decide +kernel
theorem dX3_find_31 : decode cX3_find 31 = .ok (.if_icmp .ge 24, 3) := by decide +kernel
theorem dX3_find_34 : decode cX3_find 34 = .ok (.aload_n 3, 1) := by decide +kernel
theorem dX3_find_35 : decode cX3_find 35 = .ok (.iload 7, 2) := by decide +kernel
theorem dX3_find_37 : decode cX3_find 37 = .ok (.lload 5, 2) := by decide +kernel
theorem dX3_find_39 : decode cX3_find 39 = .ok (.bipush 39, 2) := by decide +kernel
theorem dX3_find_41 : decode cX3_find 41 = .ok (.iload 7, 2) := by decide +kernel
theorem dX3_find_43 : decode cX3_find 43 = .ok (.isub, 1) := by decide +kernel
theorem dX3_find_44 : decode cX3_find 44 = .ok (.lshr, 1) := by decide +kernel
theorem dX3_find_45 : decode cX3_find 45 = .ok (.lconst 1, 1) := by decide +kernel
theorem dX3_find_46 : decode cX3_find 46 = .ok (.land, 1) := by decide +kernel
theorem dX3_find_47 : decode cX3_find 47 = .ok (.l2i, 1) := by decide +kernel
theorem dX3_find_48 : decode cX3_find 48 = .ok (.iastore, 1) := by decide +kernel
theorem dX3_find_49 : decode cX3_find 49 = .ok (.iinc 7 1, 3) := by decide +kernel
theorem dX3_find_52 : decode cX3_find 52 = .ok (.goto (-27), 3) := by decide +kernel
theorem dX3_find_55 : decode cX3_find 55 = .ok (.return_, 1) := by decide +kernel
theorem dX3_measurePairs_0 : decode cX3_measurePairs 0 = .ok (.iconst 0, 1) := by decide +kernel
theorem dX3_measurePairs_1 : decode cX3_measurePairs 1 = .ok (.istore 4, 2) := by decide +kernel
theorem dX3_measurePairs_3 : decode cX3_measurePairs 3 = .ok (.iload 4, 2) := by decide +kernel
theorem dX3_measurePairs_5 : decode cX3_measurePairs 5 = .ok (.bipush 16, 2) := by decide +kernel
theorem dX3_measurePairs_7 : decode cX3_measurePairs 7 = .ok (.if_icmp .ge 62, 3) := by decide +kernel
theorem dX3_measurePairs_10 : decode cX3_measurePairs 10 = .ok (.iload_n 1, 1) := by decide +kernel
theorem dX3_measurePairs_11 : decode cX3_measurePairs 11 = .ok (.iload 4, 2) := by decide +kernel
theorem dX3_measurePairs_13 : decode cX3_measurePairs 13 = .ok (.ishr, 1) := by decide +kernel
theorem dX3_measurePairs_14 : decode cX3_measurePairs 14 = .ok (.iconst 1, 1) := by decide +kernel
theorem dX3_measurePairs_15 : decode cX3_measurePairs 15 = .ok (.iand, 1) := by decide +kernel
theorem dX3_measurePairs_16 : decode cX3_measurePairs 16 = .ok (.iconst 1, 1) := by decide +kernel
theorem dX3_measurePairs_17 : decode cX3_measurePairs 17 = .ok (.if_icmp .ne 46, 3) := by decide +kernel
theorem dX3_measurePairs_20 : decode cX3_measurePairs 20 = .ok (.aload_n 3, 1) := by decide +kernel
theorem dX3_measurePairs_21 : decode cX3_measurePairs 21 = .ok (.iload 4, 2) := by decide +kernel
theorem dX3_measurePairs_23 : decode cX3_measurePairs 23 = .ok (.aload_n 2, 1) := by decide +kernel
theorem dX3_measurePairs_24 : decode cX3_measurePairs 24 = .ok (.invokevirtual 54, 3) := by decide +kernel
theorem dX3_measurePairs_27 : decode cX3_measurePairs 27 = .ok (.aload_n 3, 1) := by decide +kernel
theorem dX3_measurePairs_28 : decode cX3_measurePairs 28 = .ok (.getfield 60, 3) := by decide +kernel
theorem dX3_measurePairs_31 : decode cX3_measurePairs 31 = .ok (.iconst 0, 1) := by decide +kernel
theorem dX3_measurePairs_32 : decode cX3_measurePairs 32 = .ok (.aload_n 0, 1) := by decide +kernel
theorem dX3_measurePairs_33 : decode cX3_measurePairs 33 = .ok (.getfield 13, 3) := by decide +kernel
theorem dX3_measurePairs_36 : decode cX3_measurePairs 36 = .ok (.iload 4, 2) := by decide +kernel
theorem dX3_measurePairs_38 : decode cX3_measurePairs 38 = .ok (.aaload, 1) := by decide +kernel
theorem dX3_measurePairs_39 : decode cX3_measurePairs 39 = .ok (.iconst 0, 1) := by decide +kernel
theorem dX3_measurePairs_40 : decode cX3_measurePairs 40 = .ok (.bipush 16, 2) := by decide +kernel
theorem dX3_measurePairs_42 : decode cX3_measurePairs 42 = .ok (.invokestatic 61, 3) := by decide +kernel
theorem dX3_measurePairs_45 : decode cX3_measurePairs 45 = .ok (.aload_n 3, 1) := by decide +kernel
theorem dX3_measurePairs_46 : decode cX3_measurePairs 46 = .ok (.getfield 67, 3) := by decide +kernel
theorem dX3_measurePairs_49 : decode cX3_measurePairs 49 = .ok (.iconst 0, 1) := by decide +kernel
theorem dX3_measurePairs_50 : decode cX3_measurePairs 50 = .ok (.aload_n 0, 1) := by decide +kernel
theorem dX3_measurePairs_51 : decode cX3_measurePairs 51 = .ok (.getfield 16, 3) := by decide +kernel
theorem dX3_measurePairs_54 : decode cX3_measurePairs 54 = .ok (.iload 4, 2) := by decide +kernel
theorem dX3_measurePairs_56 : decode cX3_measurePairs 56 = .ok (.aaload, 1) := by decide +kernel
theorem dX3_measurePairs_57 : decode cX3_measurePairs 57 = .ok (.iconst 0, 1) := by decide +kernel
theorem dX3_measurePairs_58 : decode cX3_measurePairs 58 = .ok (.bipush 16, 2) := by decide +kernel
theorem dX3_measurePairs_60 : decode cX3_measurePairs 60 = .ok (.invokestatic 61, 3) := by decide +kernel
theorem dX3_measurePairs_63 : decode cX3_measurePairs 63 = .ok (.iinc 4 1, 3) := by decide +kernel
theorem dX3_measurePairs_66 : decode cX3_measurePairs 66 = .ok (.goto (-63), 3) := by decide +kernel
theorem dX3_measurePairs_69 : decode cX3_measurePairs 69 = .ok (.return_, 1) := by decide +kernel
theorem dX3_tieOfLeastPairs_0 : decode cX3_tieOfLeastPairs 0 = .ok (.aload_n 0, 1) := by decide +kernel
theorem dX3_tieOfLeastPairs_1 : decode cX3_tieOfLeastPairs 1 = .ok (.getfield 30, 3) := by decide +kernel
theorem dX3_tieOfLeastPairs_4 : decode cX3_tieOfLeastPairs 4 = .ok (.iconst 0, 1) := by decide +kernel
theorem dX3_tieOfLeastPairs_5 : decode cX3_tieOfLeastPairs 5 = .ok (.invokestatic 68, 3) := by decide +kernel
theorem dX3_tieOfLeastPairs_8 : decode cX3_tieOfLeastPairs 8 = .ok (.aload_n 0, 1) := by decide +kernel
theorem dX3_tieOfLeastPairs_9 : decode cX3_tieOfLeastPairs 9 = .ok (.iconst 0, 1) := by decide +kernel
theorem dX3_tieOfLeastPairs_10 : decode cX3_tieOfLeastPairs 10 = .ok (.putfield 33, 3) := by decide +kernel
theorem dX3_tieOfLeastPairs_13 : decode cX3_tieOfLeastPairs 13 = .ok (.aload_n 0, 1) := by decide +kernel
theorem dX3_tieOfLeastPairs_14 : decode cX3_tieOfLeastPairs 14 = .ok (.iload_n 1, 1) := by decide +kernel
theorem dX3_tieOfLeastPairs_15 : decode cX3_tieOfLeastPairs 15 = .ok (.lconst 0, 1) := by decide +kernel
theorem dX3_tieOfLeastPairs_16 : decode cX3_tieOfLeastPairs 16 = .ok (.lconst 0, 1) := by decide +kernel
theorem dX3_tieOfLeastPairs_17 : decode cX3_tieOfLeastPairs 17 = .ok (.invokevirtual 74, 3) := by decide +kernel
