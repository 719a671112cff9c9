theorem dX3_tieOfLeastPairs_20 : decode cX3_tieOfLeastPairs 20 = .ok (.iconst 0, 1) := by decide +kernel
theorem dX3_tieOfLeastPairs_21 : decode cX3_tieOfLeastPairs 21 = .ok (.istore_n 2, 1) := by decide +kernel
theorem dX3_tieOfLeastPairs_22 : decode cX3_tieOfLeastPairs 22 = .ok (.iload_n 2, 1) := by decide +kernel
theorem dX3_tieOfLeastPairs_23 : decode cX3_tieOfLeastPairs 23 = .ok (.aload_n 0, 1) := by decide +kernel
theorem dX3_tieOfLeastPairs_24 : decode cX3_tieOfLeastPairs 24 = .ok (.getfield 33, 3) := by decide +kernel
theorem dX3_tieOfLeastPairs_27 : decode cX3_tieOfLeastPairs 27 = .ok (.if_icmp .ge 37, 3) := by decide +kernel
theorem dX3_tieOfLeastPairs_30 : decode cX3_tieOfLeastPairs 30 = .ok (.iload_n 2, 1) := by decide +kernel
theorem dX3_tieOfLeastPairs_31 : decode cX3_tieOfLeastPairs 31 = .ok (.sipush 1597, 3) := by decide +kernel
theorem dX3_tieOfLeastPairs_34 : decode cX3_tieOfLeastPairs 34 = .ok (.if_icmp .ge 30, 3) := by decide +kernel
theorem dX3_tieOfLeastPairs_37 : decode cX3_tieOfLeastPairs 37 = .ok (.aload_n 0, 1) := by decide +kernel
theorem dX3_tieOfLeastPairs_38 : decode cX3_tieOfLeastPairs 38 = .ok (.getfield 19, 3) := by decide +kernel
theorem dX3_tieOfLeastPairs_41 : decode cX3_tieOfLeastPairs 41 = .ok (.iload_n 2, 1) := by decide +kernel
theorem dX3_tieOfLeastPairs_42 : decode cX3_tieOfLeastPairs 42 = .ok (.iaload, 1) := by decide +kernel
theorem dX3_tieOfLeastPairs_43 : decode cX3_tieOfLeastPairs 43 = .ok (.ifCond .ne 10, 3) := by decide +kernel
theorem dX3_tieOfLeastPairs_46 : decode cX3_tieOfLeastPairs 46 = .ok (.aload_n 0, 1) := by decide +kernel
theorem dX3_tieOfLeastPairs_47 : decode cX3_tieOfLeastPairs 47 = .ok (.getfield 27, 3) := by decide +kernel
theorem dX3_tieOfLeastPairs_50 : decode cX3_tieOfLeastPairs 50 = .ok (.iload_n 2, 1) := by decide +kernel
theorem dX3_tieOfLeastPairs_51 : decode cX3_tieOfLeastPairs 51 = .ok (.laload, 1) := by decide +kernel
theorem dX3_tieOfLeastPairs_52 : decode cX3_tieOfLeastPairs 52 = .ok (.lreturn, 1) := by decide +kernel
theorem dX3_tieOfLeastPairs_53 : decode cX3_tieOfLeastPairs 53 = .ok (.aload_n 0, 1) := by decide +kernel
theorem dX3_tieOfLeastPairs_54 : decode cX3_tieOfLeastPairs 54 = .ok (.iload_n 2, 1) := by decide +kernel
theorem dX3_tieOfLeastPairs_55 : decode cX3_tieOfLeastPairs 55 = .ok (.invokevirtual 78, 3) := by decide +kernel
theorem dX3_tieOfLeastPairs_58 : decode cX3_tieOfLeastPairs 58 = .ok (.iinc 2 1, 3) := by decide +kernel
theorem dX3_tieOfLeastPairs_61 : decode cX3_tieOfLeastPairs 61 = .ok (.goto (-39), 3) := by decide +kernel
theorem dX3_tieOfLeastPairs_64 : decode cX3_tieOfLeastPairs 64 = .ok (.lconst 0, 1) := by decide +kernel
theorem dX3_tieOfLeastPairs_65 : decode cX3_tieOfLeastPairs 65 = .ok (.lreturn, 1) := by decide +kernel
theorem dX3_pairLeastVertex_0 : decode cX3_pairLeastVertex 0 = .ok (.aload_n 0, 1) := by decide +kernel
theorem dX3_pairLeastVertex_1 : decode cX3_pairLeastVertex 1 = .ok (.getfield 19, 3) := by decide +kernel
theorem dX3_pairLeastVertex_4 : decode cX3_pairLeastVertex 4 = .ok (.iload_n 1, 1) := by decide +kernel
theorem dX3_pairLeastVertex_5 : decode cX3_pairLeastVertex 5 = .ok (.iaload, 1) := by decide +kernel
theorem dX3_pairLeastVertex_6 : decode cX3_pairLeastVertex 6 = .ok (.invokestatic 82, 3) := by decide +kernel
theorem dX3_pairLeastVertex_9 : decode cX3_pairLeastVertex 9 = .ok (.istore_n 2, 1) := by decide +kernel
theorem dX3_pairLeastVertex_10 : decode cX3_pairLeastVertex 10 = .ok (.aload_n 0, 1) := by decide +kernel
theorem dX3_pairLeastVertex_11 : decode cX3_pairLeastVertex 11 = .ok (.getfield 19, 3) := by decide +kernel
theorem dX3_pairLeastVertex_14 : decode cX3_pairLeastVertex 14 = .ok (.iload_n 1, 1) := by decide +kernel
theorem dX3_pairLeastVertex_15 : decode cX3_pairLeastVertex 15 = .ok (.iaload, 1) := by decide +kernel
theorem dX3_pairLeastVertex_16 : decode cX3_pairLeastVertex 16 = .ok (.iconst 1, 1) := by decide +kernel
theorem dX3_pairLeastVertex_17 : decode cX3_pairLeastVertex 17 = .ok (.iload_n 2, 1) := by decide +kernel
theorem dX3_pairLeastVertex_18 : decode cX3_pairLeastVertex 18 = .ok (.ishl, 1) := by decide +kernel
theorem dX3_pairLeastVertex_19 : decode cX3_pairLeastVertex 19 = .ok (.iconst (-1), 1) := by decide +kernel
theorem dX3_pairLeastVertex_20 : decode cX3_pairLeastVertex 20 = .ok (.ixor, 1) := by decide +kernel
theorem dX3_pairLeastVertex_21 : decode cX3_pairLeastVertex 21 = .ok (.iand, 1) := by decide +kernel
theorem dX3_pairLeastVertex_22 : decode cX3_pairLeastVertex 22 = .ok (.istore_n 3, 1) := by decide +kernel
theorem dX3_pairLeastVertex_23 : decode cX3_pairLeastVertex 23 = .ok (.iload_n 2, 1) := by decide +kernel
theorem dX3_pairLeastVertex_24 : decode cX3_pairLeastVertex 24 = .ok (.iconst 1, 1) := by decide +kernel
theorem dX3_pairLeastVertex_25 : decode cX3_pairLeastVertex 25 = .ok (.iadd, 1) := by decide +kernel
theorem dX3_pairLeastVertex_26 : decode cX3_pairLeastVertex 26 = .ok (.istore 4, 2) := by decide +kernel
theorem dX3_pairLeastVertex_28 : decode cX3_pairLeastVertex 28 = .ok (.iload 4, 2) := by decide +kernel
theorem dX3_pairLeastVertex_30 : decode cX3_pairLeastVertex 30 = .ok (.bipush 16, 2) := by decide +kernel
theorem dX3_pairLeastVertex_32 : decode cX3_pairLeastVertex 32 = .ok (.if_icmp .ge 63, 3) := by decide +kernel
theorem dX3_pairLeastVertex_35 : decode cX3_pairLeastVertex 35 = .ok (.iload_n 3, 1) := by decide +kernel
theorem dX3_pairLeastVertex_36 : decode cX3_pairLeastVertex 36 = .ok (.iload 4, 2) := by decide +kernel
theorem dX3_pairLeastVertex_38 : decode cX3_pairLeastVertex 38 = .ok (.ishr, 1) := by decide +kernel
theorem dX3_pairLeastVertex_39 : decode cX3_pairLeastVertex 39 = .ok (.iconst 1, 1) := by decide +kernel
theorem dX3_pairLeastVertex_40 : decode cX3_pairLeastVertex 40 = .ok (.iand, 1) := by decide +kernel
theorem dX3_pairLeastVertex_41 : decode cX3_pairLeastVertex 41 = .ok (.iconst 1, 1) := by decide +kernel
theorem dX3_pairLeastVertex_42 : decode cX3_pairLeastVertex 42 = .ok (.if_icmp .ne 47, 3) := by decide +kernel
theorem dX3_pairLeastVertex_45 : decode cX3_pairLeastVertex 45 = .ok (.aload_n 0, 1) := by decide +kernel
theorem dX3_pairLeastVertex_46 : decode cX3_pairLeastVertex 46 = .ok (.iload_n 3, 1) := by decide +kernel
theorem dX3_pairLeastVertex_47 : decode cX3_pairLeastVertex 47 = .ok (.iconst 1, 1) := by decide +kernel
theorem dX3_pairLeastVertex_48 : decode cX3_pairLeastVertex 48 = .ok (.iload 4, 2) := by decide +kernel
theorem dX3_pairLeastVertex_50 : decode cX3_pairLeastVertex 50 = .ok (.ishl, 1) := by decide +kernel
theorem dX3_pairLeastVertex_51 : decode cX3_pairLeastVertex 51 = .ok (.iconst (-1), 1) := by decide +kernel
theorem dX3_pairLeastVertex_52 : decode cX3_pairLeastVertex 52 = .ok (.ixor, 1) := by decide +kernel
theorem dX3_pairLeastVertex_53 : decode cX3_pairLeastVertex 53 = .ok (.iand, 1) := by decide +kernel
theorem dX3_pairLeastVertex_54 : decode cX3_pairLeastVertex 54 = .ok (.aload_n 0, 1) := by decide +kernel
theorem dX3_pairLeastVertex_55 : decode cX3_pairLeastVertex 55 = .ok (.getfield 23, 3) := by decide +kernel
theorem dX3_pairLeastVertex_58 : decode cX3_pairLeastVertex 58 = .ok (.iload_n 1, 1) := by decide +kernel
theorem dX3_pairLeastVertex_59 : decode cX3_pairLeastVertex 59 = .ok (.laload, 1) := by decide +kernel
theorem dX3_pairLeastVertex_60 : decode cX3_pairLeastVertex 60 = .ok (.aload_n 0, 1) := by decide +kernel
theorem dX3_pairLeastVertex_61 : decode cX3_pairLeastVertex 61 = .ok (.getfield 13, 3) := by decide +kernel
theorem dX3_pairLeastVertex_64 : decode cX3_pairLeastVertex 64 = .ok (.iload_n 2, 1) := by decide +kernel
theorem dX3_pairLeastVertex_65 : decode cX3_pairLeastVertex 65 = .ok (.aaload, 1) := by decide +kernel
theorem dX3_pairLeastVertex_66 : decode cX3_pairLeastVertex 66 = .ok (.iload 4, 2) := by decide +kernel
theorem dX3_pairLeastVertex_68 : decode cX3_pairLeastVertex 68 = .ok (.laload, 1) := by decide +kernel
theorem dX3_pairLeastVertex_69 : decode cX3_pairLeastVertex 69 = .ok (.ladd, 1) := by decide +kernel
theorem dX3_pairLeastVertex_70 : decode cX3_pairLeastVertex 70 = .ok (.aload_n 0, 1) := by decide +kernel
theorem dX3_pairLeastVertex_71 : decode cX3_pairLeastVertex 71 = .ok (.getfield 27, 3) := by decide +kernel
theorem dX3_pairLeastVertex_74 : decode cX3_pairLeastVertex 74 = .ok (.iload_n 1, 1) := by decide +kernel
theorem dX3_pairLeastVertex_75 : decode cX3_pairLeastVertex 75 = .ok (.laload, 1) := by decide +kernel
theorem dX3_pairLeastVertex_76 : decode cX3_pairLeastVertex 76 = .ok (.aload_n 0, 1) := by decide +kernel
theorem dX3_pairLeastVertex_77 : decode cX3_pairLeastVertex 77 = .ok (.getfield 16, 3) := by decide +kernel
theorem dX3_pairLeastVertex_80 : decode cX3_pairLeastVertex 80 = .ok (.iload_n 2, 1) := by decide +kernel
theorem dX3_pairLeastVertex_81 : decode cX3_pairLeastVertex 81 = .ok (.aaload, 1) := by decide +kernel
theorem dX3_pairLeastVertex_82 : decode cX3_pairLeastVertex 82 = .ok (.iload 4, 2) := by decide +kernel
theorem dX3_pairLeastVertex_84 : decode cX3_pairLeastVertex 84 = .ok (.laload, 1) := by decide +kernel
theorem dX3_pairLeastVertex_85 : decode cX3_pairLeastVertex 85 = .ok (.ladd, 1) := by decide +kernel
theorem dX3_pairLeastVertex_86 : decode cX3_pairLeastVertex 86 = .ok (.invokevirtual 74, 3) := by decide +kernel
theorem dX3_pairLeastVertex_89 : decode cX3_pairLeastVertex 89 = .ok (.iinc 4 1, 3) := by decide +kernel
theorem dX3_pairLeastVertex_92 : decode cX3_pairLeastVertex 92 = .ok (.goto (-64), 3) := by decide +kernel
theorem dX3_pairLeastVertex_95 : decode cX3_pairLeastVertex 95 = .ok (.return_, 1) := by decide +kernel
theorem dX3_offer_0 : decode cX3_offer 0 = .ok (.aload_n 0, 1) := by decide +kernel
theorem dX3_offer_1 : decode cX3_offer 1 = .ok (.iload_n 1, 1) := by decide +kernel
theorem dX3_offer_2 : decode cX3_offer 2 = .ok (.invokevirtual 86, 3) := by decide +kernel
theorem dX3_offer_5 : decode cX3_offer 5 = .ok (.istore 6, 2) := by decide +kernel
theorem dX3_offer_7 : decode cX3_offer 7 = .ok (.aload_n 0, 1) := by decide +kernel
theorem dX3_offer_8 : decode cX3_offer 8 = .ok (.getfield 30, 3) := by decide +kernel
theorem dX3_offer_11 : decode cX3_offer 11 = .ok (.iload 6, 2) := by decide +kernel
theorem dX3_offer_13 : decode cX3_offer 13 = .ok (.iaload, 1) := by decide +kernel
theorem dX3_offer_14 : decode cX3_offer 14 = .ok (.iconst 1, 1) := by decide +kernel
theorem dX3_offer_15 : decode cX3_offer 15 = .ok (.isub, 1) := by decide +kernel
theorem dX3_offer_16 : decode cX3_offer 16 = .ok (.istore 7, 2) := by decide +kernel
theorem dX3_offer_18 : decode cX3_offer 18 = .ok (.iload 7, 2) := by decide +kernel
theorem dX3_offer_20 : decode cX3_offer 20 = .ok (.ifCond .ge 52, 3) := by decide +kernel
theorem dX3_offer_23 : decode cX3_offer 23 = .ok (.aload_n 0, 1) := by decide +kernel
theorem dX3_offer_24 : decode cX3_offer 24 = .ok (.getfield 33, 3) := by decide +kernel
theorem dX3_offer_27 : decode cX3_offer 27 = .ok (.sipush 1597, 3) := by decide +kernel
theorem dX3_offer_30 : decode cX3_offer 30 = .ok (.if_icmp .lt 4, 3) := by decide +kernel
theorem dX3_offer_33 : decode cX3_offer 33 = .ok (.return_, 1) := by decide +kernel
theorem dX3_offer_34 : decode cX3_offer 34 = .ok (.aload_n 0, 1) := by decide +kernel
theorem dX3_offer_35 : decode cX3_offer 35 = .ok (.getfield 33, 3) := by decide +kernel
theorem dX3_offer_38 : decode cX3_offer 38 = .ok (.istore 7, 2) := by decide +kernel
theorem dX3_offer_40 : decode cX3_offer 40 = .ok (.aload_n 0, 1) := by decide +kernel
theorem dX3_offer_41 : decode cX3_offer 41 = .ok (.dup, 1) := by decide +kernel
theorem dX3_offer_42 : decode cX3_offer 42 = .ok (.getfield 33, 3) := by decide +kernel
theorem dX3_offer_45 : decode cX3_offer 45 = .ok (.iconst 1, 1) := by decide +kernel
theorem dX3_offer_46 : decode cX3_offer 46 = .ok (.iadd, 1) := by decide +kernel
theorem dX3_offer_47 : decode cX3_offer 47 = .ok (.putfield 33, 3) := by decide +kernel
theorem dX3_offer_50 : decode cX3_offer 50 = .ok (.aload_n 0, 1) := by decide +kernel
theorem dX3_offer_51 : decode cX3_offer 51 = .ok (.getfield 30, 3) := by decide +kernel
theorem dX3_offer_54 : decode cX3_offer 54 = .ok (.iload 6, 2) := by decide +kernel
theorem dX3_offer_56 : decode cX3_offer 56 = .ok (.aload_n 0, 1) := by decide +kernel
theorem dX3_offer_57 : decode cX3_offer 57 = .ok (.getfield 33, 3) := by decide +kernel
theorem dX3_offer_60 : decode cX3_offer 60 = .ok (.iastore, 1) := by decide +kernel
theorem dX3_offer_61 : decode cX3_offer 61 = .ok (.aload_n 0, 1) := by decide +kernel
theorem dX3_offer_62 : decode cX3_offer 62 = .ok (.getfield 19, 3) := by decide +kernel
theorem dX3_offer_65 : decode cX3_offer 65 = .ok (.iload 7, 2) := by decide +kernel
theorem dX3_offer_67 : decode cX3_offer 67 = .ok (.iload_n 1, 1) := by decide +kernel
theorem dX3_offer_68 : decode cX3_offer 68 = .ok (.iastore, 1) := by decide +kernel
theorem dX3_offer_69 : decode cX3_offer 69 = .ok (.goto 27, 3) := by decide +kernel
theorem dX3_offer_72 : decode cX3_offer 72 = .ok (.lload_n 2, 1) := by decide +kernel
theorem dX3_offer_73 : decode cX3_offer 73 = .ok (.lload 4, 2) := by decide +kernel
theorem dX3_offer_75 : decode cX3_offer 75 = .ok (.aload_n 0, 1) := by decide +kernel
theorem dX3_offer_76 : decode cX3_offer 76 = .ok (.getfield 23, 3) := by decide +kernel
theorem dX3_offer_79 : decode cX3_offer 79 = .ok (.iload 7, 2) := by decide +kernel
theorem dX3_offer_81 : decode cX3_offer 81 = .ok (.laload, 1) := by decide +kernel
theorem dX3_offer_82 : decode cX3_offer 82 = .ok (.aload_n 0, 1) := by decide +kernel
theorem dX3_offer_83 : decode cX3_offer 83 = .ok (.getfield 27, 3) := by decide +kernel
theorem dX3_offer_86 : decode cX3_offer 86 = .ok (.iload 7, 2) := by decide +kernel
theorem dX3_offer_88 : decode cX3_offer 88 = .ok (.laload, 1) := by decide +kernel
theorem dX3_offer_89 : decode cX3_offer 89 = .ok (.invokestatic 89, 3) := by decide +kernel
theorem dX3_offer_92 : decode cX3_offer 92 = .ok (.ifCond .ne 4, 3) := by decide +kernel
theorem dX3_offer_95 : decode cX3_offer 95 = .ok (.return_, 1) := by decide +kernel
theorem dX3_offer_96 : decode cX3_offer 96 = .ok (.aload_n 0, 1) := by decide +kernel
theorem dX3_offer_97 : decode cX3_offer 97 = .ok (.getfield 23, 3) := by decide +kernel
theorem dX3_offer_100 : decode cX3_offer 100 = .ok (.iload 7, 2) := by decide +kernel
theorem dX3_offer_102 : decode cX3_offer 102 = .ok (.lload_n 2, 1) := by decide +kernel
theorem dX3_offer_103 : decode cX3_offer 103 = .ok (.lastore, 1) := by decide +kernel
theorem dX3_offer_104 : decode cX3_offer 104 = .ok (.aload_n 0, 1) := by decide +kernel
theorem dX3_offer_105 : decode cX3_offer 105 = .ok (.getfield 27, 3) := by decide +kernel
theorem dX3_offer_108 : decode cX3_offer 108 = .ok (.iload 7, 2) := by decide +kernel
theorem dX3_offer_110 : decode cX3_offer 110 = .ok (.lload 4, 2) := by decide +kernel
theorem dX3_offer_112 : decode cX3_offer 112 = .ok (.lastore, 1) := by decide +kernel
theorem dX3_offer_113 : decode cX3_offer 113 = .ok (.return_, 1) := by decide +kernel
theorem dX3_slotOf_0 : decode cX3_slotOf 0 = .ok (.iload_n 1, 1) := by decide +kernel
theorem dX3_slotOf_1 : decode cX3_slotOf 1 = .ok (.ldc 93, 2) := by decide +kernel
theorem dX3_slotOf_3 : decode cX3_slotOf 3 = .ok (.imul, 1) := by decide +kernel
theorem dX3_slotOf_4 : decode cX3_slotOf 4 = .ok (.bipush 20, 2) := by decide +kernel
theorem dX3_slotOf_6 : decode cX3_slotOf 6 = .ok (.iushr, 1) := by decide +kernel
theorem dX3_slotOf_7 : decode cX3_slotOf 7 = .ok (.istore_n 2, 1) := by decide +kernel
theorem dX3_slotOf_8 : decode cX3_slotOf 8 = .ok (.iconst 0, 1) := by decide +kernel
theorem dX3_slotOf_9 : decode cX3_slotOf 9 = .ok (.istore_n 3, 1) := by decide +kernel
theorem dX3_slotOf_10 : decode cX3_slotOf 10 = .ok (.iload_n 3, 1) := by decide +kernel
theorem dX3_slotOf_11 : decode cX3_slotOf 11 = .ok (.sipush 4096, 3) := by decide +kernel
theorem dX3_slotOf_14 : decode cX3_slotOf 14 = .ok (.if_icmp .ge 46, 3) := by decide +kernel
theorem dX3_slotOf_17 : decode cX3_slotOf 17 = .ok (.aload_n 0, 1) := by decide +kernel
theorem dX3_slotOf_18 : decode cX3_slotOf 18 = .ok (.getfield 30, 3) := by decide +kernel
theorem dX3_slotOf_21 : decode cX3_slotOf 21 = .ok (.iload_n 2, 1) := by decide +kernel
theorem dX3_slotOf_22 : decode cX3_slotOf 22 = .ok (.iaload, 1) := by decide +kernel
theorem dX3_slotOf_23 : decode cX3_slotOf 23 = .ok (.ifCond .eq 37, 3) := by decide +kernel
theorem dX3_slotOf_26 : decode cX3_slotOf 26 = .ok (.aload_n 0, 1) := by decide +kernel
theorem dX3_slotOf_27 : decode cX3_slotOf 27 = .ok (.getfield 19, 3) := by decide +kernel
theorem dX3_slotOf_30 : decode cX3_slotOf 30 = .ok (.aload_n 0, 1) := by decide +kernel
theorem dX3_slotOf_31 : decode cX3_slotOf 31 = .ok (.getfield 30, 3) := by decide +kernel
theorem dX3_slotOf_34 : decode cX3_slotOf 34 = .ok (.iload_n 2, 1) := by decide +kernel
theorem dX3_slotOf_35 : decode cX3_slotOf 35 = .ok (.iaload, 1) := by decide +kernel
theorem dX3_slotOf_36 : decode cX3_slotOf 36 = .ok (.iconst 1, 1) := by decide +kernel
theorem dX3_slotOf_37 : decode cX3_slotOf 37 = .ok (.isub, 1) := by decide +kernel
theorem dX3_slotOf_38 : decode cX3_slotOf 38 = .ok (.iaload, 1) := by decide +kernel
theorem dX3_slotOf_39 : decode cX3_slotOf 39 = .ok (.iload_n 1, 1) := by decide +kernel
theorem dX3_slotOf_40 : decode cX3_slotOf 40 = .ok (.if_icmp .ne 6, 3) := by decide +kernel
theorem dX3_slotOf_43 : decode cX3_slotOf 43 = .ok (.goto 17, 3) := by decide +kernel
theorem dX3_slotOf_46 : decode cX3_slotOf 46 = .ok (.iload_n 2, 1) := by decide +kernel
theorem dX3_slotOf_47 : decode cX3_slotOf 47 = .ok (.iconst 1, 1) := by decide +kernel
theorem dX3_slotOf_48 : decode cX3_slotOf 48 = .ok (.iadd, 1) := by decide +kernel
theorem dX3_slotOf_49 : decode cX3_slotOf 49 = .ok (.sipush 4095, 3) := by decide +kernel
theorem dX3_slotOf_52 : decode cX3_slotOf 52 = .ok (.iand, 1) := by decide +kernel
theorem dX3_slotOf_53 : decode cX3_slotOf 53 = .ok (.istore_n 2, 1) := by decide +kernel
theorem dX3_slotOf_54 : decode cX3_slotOf 54 = .ok (.iinc 3 1, 3) := by decide +kernel
theorem dX3_slotOf_57 : decode cX3_slotOf 57 = .ok (.goto (-47), 3) := by decide +kernel
theorem dX3_slotOf_60 : decode cX3_slotOf 60 = .ok (.iload_n 2, 1) := by decide +kernel
theorem dX3_slotOf_61 : decode cX3_slotOf 61 = .ok (.ireturn, 1) := by decide +kernel
theorem dX4_init_0 : decode cX4_init 0 = .ok (.aload_n 0, 1) := by decide +kernel
theorem dX4_init_1 : decode cX4_init 1 = .ok (.invokespecial 1, 3) := by decide +kernel
theorem dX4_init_4 : decode cX4_init 4 = .ok (.aload_n 0, 1) := by decide +kernel
theorem dX4_init_5 : decode cX4_init 5 = .ok (.iload_n 1, 1) := by decide +kernel
theorem dX4_init_6 : decode cX4_init 6 = .ok (.newarray .int, 2) := by decide +kernel
theorem dX4_init_8 : decode cX4_init 8 = .ok (.putfield 7, 3) := by decide +kernel
theorem dX4_init_11 : decode cX4_init 11 = .ok (.aload_n 0, 1) := by decide +kernel
theorem dX4_init_12 : decode cX4_init 12 = .ok (.iconst 0, 1) := by decide +kernel
theorem dX4_init_13 : decode cX4_init 13 = .ok (.putfield 13, 3) := by decide +kernel
theorem dX4_init_16 : decode cX4_init 16 = .ok (.return_, 1) := by decide +kernel
theorem dX4_isFull_0 : decode cX4_isFull 0 = .ok (.aload_n 0, 1) := by decide +kernel
theorem dX4_isFull_1 : decode cX4_isFull 1 = .ok (.getfield 13, 3) := by decide +kernel
theorem dX4_isFull_4 : decode cX4_isFull 4 = .ok (.aload_n 0, 1) := by decide +kernel
theorem dX4_isFull_5 : decode cX4_isFull 5 = .ok (.getfield 7, 3) := by decide +kernel
theorem dX4_isFull_8 : decode cX4_isFull 8 = .ok (.arraylength, 1) := by decide +kernel
theorem dX4_isFull_9 : decode cX4_isFull 9 = .ok (.if_icmp .lt 7, 3) := by decide +kernel
theorem dX4_isFull_12 : decode cX4_isFull 12 = .ok (.iconst 1, 1) := by decide +kernel
theorem dX4_isFull_13 : decode cX4_isFull 13 = .ok (.goto 4, 3) := by decide +kernel
theorem dX4_isFull_16 : decode cX4_isFull 16 = .ok (.iconst 0, 1) := by decide +kernel
theorem dX4_isFull_17 : decode cX4_isFull 17 = .ok (.ireturn, 1) := by decide +kernel
theorem dX4_append_0 : decode cX4_append 0 = .ok (.aload_n 0, 1) := by decide +kernel
theorem dX4_append_1 : decode cX4_append 1 = .ok (.invokevirtual 17, 3) := by decide +kernel
theorem dX4_append_4 : decode cX4_append 4 = .ok (.ifCond .ne 23, 3) := by decide +kernel
theorem dX4_append_7 : decode cX4_append 7 = .ok (.aload_n 0, 1) := by decide +kernel
theorem dX4_append_8 : decode cX4_append 8 = .ok (.getfield 7, 3) := by decide +kernel
theorem dX4_append_11 : decode cX4_append 11 = .ok (.aload_n 0, 1) := by decide +kernel
theorem dX4_append_12 : decode cX4_append 12 = .ok (.getfield 13, 3) := by decide +kernel
theorem dX4_append_15 : decode cX4_append 15 = .ok (.iload_n 1, 1) := by decide +kernel
theorem dX4_append_16 : decode cX4_append 16 = .ok (.iastore, 1) := by decide +kernel
theorem dX4_append_17 : decode cX4_append 17 = .ok (.aload_n 0, 1) := by decide +kernel
theorem dX4_append_18 : decode cX4_append 18 = .ok (.dup, 1) := by decide +kernel
theorem dX4_append_19 : decode cX4_append 19 = .ok (.getfield 13, 3) := by decide +kernel
theorem dX4_append_22 : decode cX4_append 22 = .ok (.iconst 1, 1) := by decide +kernel
theorem dX4_append_23 : decode cX4_append 23 = .ok (.iadd, 1) := by decide +kernel
theorem dX4_append_24 : decode cX4_append 24 = .ok (.putfield 13, 3) := by decide +kernel
theorem dX4_append_27 : decode cX4_append 27 = .ok (.return_, 1) := by decide +kernel
theorem dX4_clear_0 : decode cX4_clear 0 = .ok (.aload_n 0, 1) := by decide +kernel
theorem dX4_clear_1 : decode cX4_clear 1 = .ok (.iconst 0, 1) := by decide +kernel
theorem dX4_clear_2 : decode cX4_clear 2 = .ok (.putfield 13, 3) := by decide +kernel
theorem dX4_clear_5 : decode cX4_clear 5 = .ok (.return_, 1) := by decide +kernel
theorem dX5_init_0 : decode cX5_init 0 = .ok (.aload_n 0, 1) := by decide +kernel
theorem dX5_init_1 : decode cX5_init 1 = .ok (.invokespecial 3, 3) := by decide +kernel
theorem dX5_init_4 : decode cX5_init 4 = .ok (.aload_n 0, 1) := by decide +kernel
theorem dX5_init_5 : decode cX5_init 5 = .ok (.new 9, 3) := by decide +kernel
theorem dX5_init_8 : decode cX5_init 8 = .ok (.dup, 1) := by decide +kernel
theorem dX5_init_9 : decode cX5_init 9 = .ok (.invokespecial 11, 3) := by decide +kernel
theorem dX5_init_12 : decode cX5_init 12 = .ok (.putfield 12, 3) := by decide +kernel
theorem dX5_init_15 : decode cX5_init 15 = .ok (.aload_n 0, 1) := by decide +kernel
theorem dX5_init_16 : decode cX5_init 16 = .ok (.new 16, 3) := by decide +kernel
theorem dX5_init_19 : decode cX5_init 19 = .ok (.dup, 1) := by decide +kernel
theorem dX5_init_20 : decode cX5_init 20 = .ok (.sipush 640, 3) := by decide +kernel
theorem dX5_init_23 : decode cX5_init 23 = .ok (.invokespecial 18, 3) := by decide +kernel
theorem dX5_init_26 : decode cX5_init 26 = .ok (.putfield 21, 3) := by decide +kernel
theorem dX5_init_29 : decode cX5_init 29 = .ok (.aload_n 0, 1) := by decide +kernel
theorem dX5_init_30 : decode cX5_init 30 = .ok (.new 16, 3) := by decide +kernel
theorem dX5_init_33 : decode cX5_init 33 = .ok (.dup, 1) := by decide +kernel
theorem dX5_init_34 : decode cX5_init 34 = .ok (.sipush 1000, 3) := by decide +kernel
theorem dX5_init_37 : decode cX5_init 37 = .ok (.invokespecial 18, 3) := by decide +kernel
theorem dX5_init_40 : decode cX5_init 40 = .ok (.putfield 25, 3) := by decide +kernel
theorem dX5_init_43 : decode cX5_init 43 = .ok (.aload_n 0, 1) := by decide +kernel
theorem dX5_init_44 : decode cX5_init 44 = .ok (.bipush 40, 2) := by decide +kernel
theorem dX5_init_46 : decode cX5_init 46 = .ok (.newarray .int, 2) := by decide +kernel
theorem dX5_init_48 : decode cX5_init 48 = .ok (.putfield 28, 3) := by decide +kernel
theorem dX5_init_51 : decode cX5_init 51 = .ok (.aload_n 0, 1) := by decide +kernel
theorem dX5_init_52 : decode cX5_init 52 = .ok (.bipush 40, 2) := by decide +kernel
theorem dX5_init_54 : decode cX5_init 54 = .ok (.newarray .int, 2) := by decide +kernel
theorem dX5_init_56 : decode cX5_init 56 = .ok (.putfield 32, 3) := by decide +kernel
theorem dX5_init_59 : decode cX5_init 59 = .ok (.aload_n 0, 1) := by decide +kernel
theorem dX5_init_60 : decode cX5_init 60 = .ok (.new 35, 3) := by decide +kernel
theorem dX5_init_63 : decode cX5_init 63 = .ok (.dup, 1) := by decide +kernel
theorem dX5_init_64 : decode cX5_init 64 = .ok (.invokespecial 37, 3) := by decide +kernel
theorem dX5_init_67 : decode cX5_init 67 = .ok (.putfield 38, 3) := by decide +kernel
theorem dX5_init_70 : decode cX5_init 70 = .ok (.aload_n 0, 1) := by decide +kernel
theorem dX5_init_71 : decode cX5_init 71 = .ok (.new 42, 3) := by decide +kernel
theorem dX5_init_74 : decode cX5_init 74 = .ok (.dup, 1) := by decide +kernel
theorem dX5_init_75 : decode cX5_init 75 = .ok (.invokespecial 44, 3) := by decide +kernel
theorem dX5_init_78 : decode cX5_init 78 = .ok (.putfield 45, 3) := by decide +kernel
theorem dX5_init_81 : decode cX5_init 81 = .ok (.aload_n 0, 1) := by decide +kernel
theorem dX5_init_82 : decode cX5_init 82 = .ok (.new 49, 3) := by decide +kernel
theorem dX5_init_85 : decode cX5_init 85 = .ok (.dup, 1) := by decide +kernel
theorem dX5_init_86 : decode cX5_init 86 = .ok (.invokespecial 51, 3) := by decide +kernel
theorem dX5_init_89 : decode cX5_init 89 = .ok (.putfield 52, 3) := by decide +kernel
theorem dX5_init_92 : decode cX5_init 92 = .ok (.aload_n 0, 1) := by decide +kernel
theorem dX5_init_93 : decode cX5_init 93 = .ok (.iconst 0, 1) := by decide +kernel
theorem dX5_init_94 : decode cX5_init 94 = .ok (.putfield 56, 3) := by decide +kernel
theorem dX5_init_97 : decode cX5_init 97 = .ok (.return_, 1) := by decide +kernel
theorem dX5_reset_0 : decode cX5_reset 0 = .ok (.iload_n 2, 1) := by decide +kernel
theorem dX5_reset_1 : decode cX5_reset 1 = .ok (.iconst 1, 1) := by decide +kernel
theorem dX5_reset_2 : decode cX5_reset 2 = .ok (.if_icmp .lt 9, 3) := by decide +kernel
theorem dX5_reset_5 : decode cX5_reset 5 = .ok (.iload_n 2, 1) := by decide +kernel
theorem dX5_reset_6 : decode cX5_reset 6 = .ok (.bipush 16, 2) := by decide +kernel
theorem dX5_reset_8 : decode cX5_reset 8 = .ok (.if_icmp .le 13, 3) := by decide +kernel
theorem dX5_reset_11 : decode cX5_reset 11 = .ok (.new 60, 3) := by decide +kernel
theorem dX5_reset_14 : decode cX5_reset 14 = .ok (.dup, 1) := by decide +kernel
theorem dX5_reset_15 : decode cX5_reset 15 = .ok (.ldc 62, 2) := by decide +kernel
theorem dX5_reset_17 : decode cX5_reset 17 = .ok (.invokespecial 64, 3) := by decide +kernel
theorem dX5_reset_20 : decode cX5_reset 20 = .ok (.athrow, 1) := by decide +kernel
theorem dX5_reset_21 : decode cX5_reset 21 = .ok (.aload_n 0, 1) := by decide +kernel
theorem dX5_reset_22 : decode cX5_reset 22 = .ok (.getfield 12, 3) := by decide +kernel
theorem dX5_reset_25 : decode cX5_reset 25 = .ok (.getfield 67, 3) := by decide +kernel
theorem dX5_reset_28 : decode cX5_reset 28 = .ok (.istore_n 3, 1) := by decide +kernel
theorem dX5_reset_29 : decode cX5_reset 29 = .ok (.aload_n 0, 1) := by decide +kernel
theorem dX5_reset_30 : decode cX5_reset 30 = .ok (.getfield 12, 3) := by decide +kernel
theorem dX5_reset_33 : decode cX5_reset 33 = .ok (.iload_n 1, 1) := by decide +kernel
theorem dX5_reset_34 : decode cX5_reset 34 = .ok (.iload_n 2, 1) := by decide +kernel
theorem dX5_reset_35 : decode cX5_reset 35 = .ok (.invokevirtual 71, 3) := by decide +kernel
theorem dX5_reset_38 : decode cX5_reset 38 = .ok (.aload_n 0, 1) := by decide +kernel
theorem dX5_reset_39 : decode cX5_reset 39 = .ok (.invokevirtual 75, 3) := by decide +kernel
theorem dX5_reset_42 : decode cX5_reset 42 = .ok (.iload_n 3, 1) := by decide +kernel
theorem dX5_reset_43 : decode cX5_reset 43 = .ok (.ireturn, 1) := by decide +kernel
theorem dX5_edge_0 : decode cX5_edge 0 = .ok (.aload_n 0, 1) := by decide +kernel
theorem dX5_edge_1 : decode cX5_edge 1 = .ok (.iload_n 1, 1) := by decide +kernel
theorem dX5_edge_2 : decode cX5_edge 2 = .ok (.invokevirtual 78, 3) := by decide +kernel
theorem dX5_edge_5 : decode cX5_edge 5 = .ok (.aload_n 0, 1) := by decide +kernel
theorem dX5_edge_6 : decode cX5_edge 6 = .ok (.iload_n 2, 1) := by decide +kernel
theorem dX5_edge_7 : decode cX5_edge 7 = .ok (.invokevirtual 78, 3) := by decide +kernel
theorem dX5_edge_10 : decode cX5_edge 10 = .ok (.iload_n 3, 1) := by decide +kernel
theorem dX5_edge_11 : decode cX5_edge 11 = .ok (.ifCond .lt 9, 3) := by decide +kernel
theorem dX5_edge_14 : decode cX5_edge 14 = .ok (.iload_n 3, 1) := by decide +kernel
theorem dX5_edge_15 : decode cX5_edge 15 = .ok (.ldc 81, 2) := by decide +kernel
theorem dX5_edge_17 : decode cX5_edge 17 = .ok (.if_icmp .le 13, 3) := by decide +kernel
theorem dX5_edge_20 : decode cX5_edge 20 = .ok (.new 60, 3) := by decide +kernel
theorem dX5_edge_23 : decode cX5_edge 23 = .ok (.dup, 1) := by decide +kernel
theorem dX5_edge_24 : decode cX5_edge 24 = .ok (.ldc 82, 2) := by decide +kernel
theorem dX5_edge_26 : decode cX5_edge 26 = .ok (.invokespecial 64, 3) := by decide +kernel
theorem dX5_edge_29 : decode cX5_edge 29 = .ok (.athrow, 1) := by decide +kernel
theorem dX5_edge_30 : decode cX5_edge 30 = .ok (.aload_n 0, 1) := by decide +kernel
theorem dX5_edge_31 : decode cX5_edge 31 = .ok (.getfield 12, 3) := by decide +kernel
theorem dX5_edge_34 : decode cX5_edge 34 = .ok (.getfield 67, 3) := by decide +kernel
theorem dX5_edge_37 : decode cX5_edge 37 = .ok (.bipush 40, 2) := by decide +kernel
theorem dX5_edge_39 : decode cX5_edge 39 = .ok (.if_icmp .lt 13, 3) := by decide +kernel
theorem dX5_edge_42 : decode cX5_edge 42 = .ok (.new 84, 3) := by decide +kernel
theorem dX5_edge_45 : decode cX5_edge 45 = .ok (.dup, 1) := by decide +kernel
theorem dX5_edge_46 : decode cX5_edge 46 = .ok (.ldc 86, 2) := by decide +kernel
theorem dX5_edge_48 : decode cX5_edge 48 = .ok (.invokespecial 88, 3) := by decide +kernel
theorem dX5_edge_51 : decode cX5_edge 51 = .ok (.athrow, 1) := by decide +kernel
theorem dX5_edge_52 : decode cX5_edge 52 = .ok (.aload_n 0, 1) := by decide +kernel
theorem dX5_edge_53 : decode cX5_edge 53 = .ok (.getfield 12, 3) := by decide +kernel
theorem dX5_edge_56 : decode cX5_edge 56 = .ok (.iload_n 1, 1) := by decide +kernel
theorem dX5_edge_57 : decode cX5_edge 57 = .ok (.iload_n 2, 1) := by decide +kernel
theorem dX5_edge_58 : decode cX5_edge 58 = .ok (.iload_n 3, 1) := by decide +kernel
theorem dX5_edge_59 : decode cX5_edge 59 = .ok (.invokevirtual 89, 3) := by decide +kernel
theorem dX5_edge_62 : decode cX5_edge 62 = .ok (.aload_n 0, 1) := by decide +kernel
theorem dX5_edge_63 : decode cX5_edge 63 = .ok (.invokevirtual 75, 3) := by decide +kernel
theorem dX5_edge_66 : decode cX5_edge 66 = .ok (.aload_n 0, 1) := by decide +kernel
theorem dX5_edge_67 : decode cX5_edge 67 = .ok (.getfield 12, 3) := by decide +kernel
theorem dX5_edge_70 : decode cX5_edge 70 = .ok (.getfield 67, 3) := by decide +kernel
theorem dX5_edge_73 : decode cX5_edge 73 = .ok (.iconst 1, 1) := by decide +kernel
theorem dX5_edge_74 : decode cX5_edge 74 = .ok (.isub, 1) := by decide +kernel
theorem dX5_edge_75 : decode cX5_edge 75 = .ok (.ireturn, 1) := by decide +kernel
theorem dX5_drop_0 : decode cX5_drop 0 = .ok (.aload_n 0, 1) := by decide +kernel
theorem dX5_drop_1 : decode cX5_drop 1 = .ok (.getfield 12, 3) := by decide +kernel
theorem dX5_drop_4 : decode cX5_drop 4 = .ok (.getfield 67, 3) := by decide +kernel
theorem dX5_drop_7 : decode cX5_drop 7 = .ok (.ifCond .ne 13, 3) := by decide +kernel
theorem dX5_drop_10 : decode cX5_drop 10 = .ok (.new 84, 3) := by decide +kernel
theorem dX5_drop_13 : decode cX5_drop 13 = .ok (.dup, 1) := by decide +kernel
theorem dX5_drop_14 : decode cX5_drop 14 = .ok (.ldc 93, 2) := by decide +kernel
theorem dX5_drop_16 : decode cX5_drop 16 = .ok (.invokespecial 88, 3) := by decide +kernel
theorem dX5_drop_19 : decode cX5_drop 19 = .ok (.athrow, 1) := by decide +kernel
theorem dX5_drop_20 : decode cX5_drop 20 = .ok (.aload_n 0, 1) := by decide +kernel
theorem dX5_drop_21 : decode cX5_drop 21 = .ok (.getfield 12, 3) := by decide +kernel
theorem dX5_drop_24 : decode cX5_drop 24 = .ok (.invokevirtual 95, 3) := by decide +kernel
theorem dX5_drop_27 : decode cX5_drop 27 = .ok (.aload_n 0, 1) := by decide +kernel
theorem dX5_drop_28 : decode cX5_drop 28 = .ok (.invokevirtual 75, 3) := by decide +kernel
theorem dX5_drop_31 : decode cX5_drop 31 = .ok (.aload_n 0, 1) := by decide +kernel
theorem dX5_drop_32 : decode cX5_drop 32 = .ok (.getfield 12, 3) := by decide +kernel
theorem dX5_drop_35 : decode cX5_drop 35 = .ok (.getfield 67, 3) := by decide +kernel
theorem dX5_drop_38 : decode cX5_drop 38 = .ok (.ireturn, 1) := by decide +kernel
theorem dX5_distance_0 : decode cX5_distance 0 = .ok (.aload_n 0, 1) := by decide +kernel
theorem dX5_distance_1 : decode cX5_distance 1 = .ok (.iload_n 1, 1) := by decide +kernel
theorem dX5_distance_2 : decode cX5_distance 2 = .ok (.invokevirtual 78, 3) := by decide +kernel
theorem dX5_distance_5 : decode cX5_distance 5 = .ok (.aload_n 0, 1) := by decide +kernel
theorem dX5_distance_6 : decode cX5_distance 6 = .ok (.iload_n 2, 1) := by decide +kernel
theorem dX5_distance_7 : decode cX5_distance 7 = .ok (.invokevirtual 78, 3) := by decide +kernel
theorem dX5_distance_10 : decode cX5_distance 10 = .ok (.aload_n 0, 1) := by decide +kernel
theorem dX5_distance_11 : decode cX5_distance 11 = .ok (.getfield 38, 3) := by decide +kernel
theorem dX5_distance_14 : decode cX5_distance 14 = .ok (.iload_n 1, 1) := by decide +kernel
theorem dX5_distance_15 : decode cX5_distance 15 = .ok (.aload_n 0, 1) := by decide +kernel
theorem dX5_distance_16 : decode cX5_distance 16 = .ok (.getfield 12, 3) := by decide +kernel
theorem dX5_distance_19 : decode cX5_distance 19 = .ok (.invokevirtual 98, 3) := by decide +kernel
theorem dX5_distance_22 : decode cX5_distance 22 = .ok (.aload_n 0, 1) := by decide +kernel
theorem dX5_distance_23 : decode cX5_distance 23 = .ok (.getfield 38, 3) := by decide +kernel
theorem dX5_distance_26 : decode cX5_distance 26 = .ok (.getfield 102, 3) := by decide +kernel
theorem dX5_distance_29 : decode cX5_distance 29 = .ok (.iload_n 2, 1) := by decide +kernel
theorem dX5_distance_30 : decode cX5_distance 30 = .ok (.baload, 1) := by decide +kernel
theorem dX5_distance_31 : decode cX5_distance 31 = .ok (.ifCond .eq 15, 3) := by decide +kernel
theorem dX5_distance_34 : decode cX5_distance 34 = .ok (.aload_n 0, 1) := by decide +kernel
theorem dX5_distance_35 : decode cX5_distance 35 = .ok (.getfield 38, 3) := by decide +kernel
theorem dX5_distance_38 : decode cX5_distance 38 = .ok (.getfield 106, 3) := by decide +kernel
theorem dX5_distance_41 : decode cX5_distance 41 = .ok (.iload_n 2, 1) := by decide +kernel
theorem dX5_distance_42 : decode cX5_distance 42 = .ok (.laload, 1) := by decide +kernel
theorem dX5_distance_43 : decode cX5_distance 43 = .ok (.goto 6, 3) := by decide +kernel
theorem dX5_distance_46 : decode cX5_distance 46 = .ok (.ldc2_w 110, 3) := by decide +kernel
theorem dX5_distance_49 : decode cX5_distance 49 = .ok (.lreturn, 1) := by decide +kernel
theorem dX5_tour_0 : decode cX5_tour 0 = .ok (.aload_n 0, 1) := by decide +kernel
theorem dX5_tour_1 : decode cX5_tour 1 = .ok (.iload_n 1, 1) := by decide +kernel
theorem dX5_tour_2 : decode cX5_tour 2 = .ok (.invokevirtual 78, 3) := by decide +kernel
theorem dX5_tour_5 : decode cX5_tour 5 = .ok (.aload_n 0, 1) := by decide +kernel
theorem dX5_tour_6 : decode cX5_tour 6 = .ok (.getfield 12, 3) := by decide +kernel
theorem dX5_tour_9 : decode cX5_tour 9 = .ok (.invokevirtual 112, 3) := by decide +kernel
theorem dX5_tour_12 : decode cX5_tour 12 = .ok (.ifCond .eq 6, 3) := by decide +kernel
theorem dX5_tour_15 : decode cX5_tour 15 = .ok (.bipush (-2), 2) := by decide +kernel
theorem dX5_tour_17 : decode cX5_tour 17 = .ok (.ireturn, 1) := by decide +kernel
theorem dX5_tour_18 : decode cX5_tour 18 = .ok (.aload_n 0, 1) := by decide +kernel
theorem dX5_tour_19 : decode cX5_tour 19 = .ok (.invokevirtual 116, 3) := by decide +kernel
theorem dX5_tour_22 : decode cX5_tour 22 = .ok (.aload_n 0, 1) := by decide +kernel
theorem dX5_tour_23 : decode cX5_tour 23 = .ok (.getfield 12, 3) := by decide +kernel
theorem dX5_tour_26 : decode cX5_tour 26 = .ok (.iload_n 1, 1) := by decide +kernel
theorem dX5_tour_27 : decode cX5_tour 27 = .ok (.aload_n 0, 1) := by decide +kernel
theorem dX5_tour_28 : decode cX5_tour 28 = .ok (.getfield 28, 3) := by decide +kernel
theorem dX5_tour_31 : decode cX5_tour 31 = .ok (.invokevirtual 119, 3) := by decide +kernel
theorem dX5_tour_34 : decode cX5_tour 34 = .ok (.ifCond .ne 5, 3) := by decide +kernel
theorem dX5_tour_37 : decode cX5_tour 37 = .ok (.iconst (-1), 1) := by decide +kernel
theorem dX5_tour_38 : decode cX5_tour 38 = .ok (.ireturn, 1) := by decide +kernel
theorem dX5_tour_39 : decode cX5_tour 39 = .ok (.aload_n 0, 1) := by decide +kernel
theorem dX5_tour_40 : decode cX5_tour 40 = .ok (.iload_n 1, 1) := by decide +kernel
theorem dX5_tour_41 : decode cX5_tour 41 = .ok (.invokevirtual 123, 3) := by decide +kernel
theorem dX5_tour_44 : decode cX5_tour 44 = .ok (.aload_n 0, 1) := by decide +kernel
theorem dX5_tour_45 : decode cX5_tour 45 = .ok (.getfield 21, 3) := by decide +kernel
theorem dX5_tour_48 : decode cX5_tour 48 = .ok (.getfield 126, 3) := by decide +kernel
theorem dX5_tour_51 : decode cX5_tour 51 = .ok (.ireturn, 1) := by decide +kernel
theorem dX5_round_0 : decode cX5_round 0 = .ok (.aload_n 0, 1) := by decide +kernel
theorem dX5_round_1 : decode cX5_round 1 = .ok (.iload_n 1, 1) := by decide +kernel
theorem dX5_round_2 : decode cX5_round 2 = .ok (.invokevirtual 78, 3) := by decide +kernel
theorem dX5_round_5 : decode cX5_round 5 = .ok (.aload_n 0, 1) := by decide +kernel
theorem dX5_round_6 : decode cX5_round 6 = .ok (.invokevirtual 116, 3) := by decide +kernel
theorem dX5_round_9 : decode cX5_round 9 = .ok (.aload_n 0, 1) := by decide +kernel
theorem dX5_round_10 : decode cX5_round 10 = .ok (.getfield 12, 3) := by decide +kernel
theorem dX5_round_13 : decode cX5_round 13 = .ok (.iload_n 1, 1) := by decide +kernel
theorem dX5_round_14 : decode cX5_round 14 = .ok (.aload_n 0, 1) := by decide +kernel
theorem dX5_round_15 : decode cX5_round 15 = .ok (.getfield 28, 3) := by decide +kernel
theorem dX5_round_18 : decode cX5_round 18 = .ok (.invokevirtual 129, 3) := by decide +kernel
theorem dX5_round_21 : decode cX5_round 21 = .ok (.ifCond .ne 7, 3) := by decide +kernel
theorem dX5_round_24 : decode cX5_round 24 = .ok (.ldc2_w 110, 3) := by decide +kernel
theorem dX5_round_27 : decode cX5_round 27 = .ok (.lreturn, 1) := by decide +kernel
theorem dX5_round_28 : decode cX5_round 28 = .ok (.aload_n 0, 1) := by decide +kernel
theorem dX5_round_29 : decode cX5_round 29 = .ok (.invokevirtual 132, 3) := by decide +kernel
theorem dX5_round_32 : decode cX5_round 32 = .ok (.lconst 0, 1) := by decide +kernel
theorem dX5_round_33 : decode cX5_round 33 = .ok (.lstore_n 2, 1) := by decide +kernel
theorem dX5_round_34 : decode cX5_round 34 = .ok (.iconst 0, 1) := by decide +kernel
theorem dX5_round_35 : decode cX5_round 35 = .ok (.istore 4, 2) := by decide +kernel
theorem dX5_round_37 : decode cX5_round 37 = .ok (.iload 4, 2) := by decide +kernel
theorem dX5_round_39 : decode cX5_round 39 = .ok (.aload_n 0, 1) := by decide +kernel
theorem dX5_round_40 : decode cX5_round 40 = .ok (.getfield 12, 3) := by decide +kernel
theorem dX5_round_43 : decode cX5_round 43 = .ok (.getfield 67, 3) := by decide +kernel
theorem dX5_round_46 : decode cX5_round 46 = .ok (.if_icmp .ge 48, 3) := by decide +kernel
theorem dX5_round_49 : decode cX5_round 49 = .ok (.aload_n 0, 1) := by decide +kernel
theorem dX5_round_50 : decode cX5_round 50 = .ok (.getfield 28, 3) := by decide +kernel
theorem dX5_round_53 : decode cX5_round 53 = .ok (.iload 4, 2) := by decide +kernel
theorem dX5_round_55 : decode cX5_round 55 = .ok (.iconst 1, 1) := by decide +kernel
theorem dX5_round_56 : decode cX5_round 56 = .ok (.aload_n 0, 1) := by decide +kernel
theorem dX5_round_57 : decode cX5_round 57 = .ok (.getfield 32, 3) := by decide +kernel
theorem dX5_round_60 : decode cX5_round 60 = .ok (.iload 4, 2) := by decide +kernel
theorem dX5_round_62 : decode cX5_round 62 = .ok (.iaload, 1) := by decide +kernel
theorem dX5_round_63 : decode cX5_round 63 = .ok (.iadd, 1) := by decide +kernel
theorem dX5_round_64 : decode cX5_round 64 = .ok (.iastore, 1) := by decide +kernel
theorem dX5_round_65 : decode cX5_round 65 = .ok (.lload_n 2, 1) := by decide +kernel
theorem dX5_round_66 : decode cX5_round 66 = .ok (.aload_n 0, 1) := by decide +kernel
theorem dX5_round_67 : decode cX5_round 67 = .ok (.getfield 28, 3) := by decide +kernel
theorem dX5_round_70 : decode cX5_round 70 = .ok (.iload 4, 2) := by decide +kernel
theorem dX5_round_72 : decode cX5_round 72 = .ok (.iaload, 1) := by decide +kernel
theorem dX5_round_73 : decode cX5_round 73 = .ok (.i2l, 1) := by decide +kernel
theorem dX5_round_74 : decode cX5_round 74 = .ok (.aload_n 0, 1) := by decide +kernel
theorem dX5_round_75 : decode cX5_round 75 = .ok (.getfield 12, 3) := by decide +kernel
theorem dX5_round_78 : decode cX5_round 78 = .ok (.getfield 135, 3) := by decide +kernel
theorem dX5_round_81 : decode cX5_round 81 = .ok (.iload 4, 2) := by decide +kernel
theorem dX5_round_83 : decode cX5_round 83 = .ok (.iaload, 1) := by decide +kernel
theorem dX5_round_84 : decode cX5_round 84 = .ok (.i2l, 1) := by decide +kernel
theorem dX5_round_85 : decode cX5_round 85 = .ok (.lmul, 1) := by decide +kernel
theorem dX5_round_86 : decode cX5_round 86 = .ok (.ladd, 1) := by decide +kernel
theorem dX5_round_87 : decode cX5_round 87 = .ok (.lstore_n 2, 1) := by decide +kernel
theorem dX5_round_88 : decode cX5_round 88 = .ok (.iinc 4 1, 3) := by decide +kernel
theorem dX5_round_91 : decode cX5_round 91 = .ok (.goto (-54), 3) := by decide +kernel
theorem dX5_round_94 : decode cX5_round 94 = .ok (.aload_n 0, 1) := by decide +kernel
theorem dX5_round_95 : decode cX5_round 95 = .ok (.iload_n 1, 1) := by decide +kernel
theorem dX5_round_96 : decode cX5_round 96 = .ok (.invokevirtual 123, 3) := by decide +kernel
theorem dX5_round_99 : decode cX5_round 99 = .ok (.lload_n 2, 1) := by decide +kernel
theorem dX5_round_100 : decode cX5_round 100 = .ok (.lreturn, 1) := by decide +kernel
theorem dX5_extra_0 : decode cX5_extra 0 = .ok (.iload_n 1, 1) := by decide +kernel
theorem dX5_extra_1 : decode cX5_extra 1 = .ok (.ifCond .lt 14, 3) := by decide +kernel
theorem dX5_extra_4 : decode cX5_extra 4 = .ok (.iload_n 1, 1) := by decide +kernel
theorem dX5_extra_5 : decode cX5_extra 5 = .ok (.aload_n 0, 1) := by decide +kernel
theorem dX5_extra_6 : decode cX5_extra 6 = .ok (.getfield 12, 3) := by decide +kernel
theorem dX5_extra_9 : decode cX5_extra 9 = .ok (.getfield 67, 3) := by decide +kernel
theorem dX5_extra_12 : decode cX5_extra 12 = .ok (.if_icmp .lt 13, 3) := by decide +kernel
theorem dX5_extra_15 : decode cX5_extra 15 = .ok (.new 138, 3) := by decide +kernel
theorem dX5_extra_18 : decode cX5_extra 18 = .ok (.dup, 1) := by decide +kernel
theorem dX5_extra_19 : decode cX5_extra 19 = .ok (.ldc 140, 2) := by decide +kernel
theorem dX5_extra_21 : decode cX5_extra 21 = .ok (.invokespecial 142, 3) := by decide +kernel
theorem dX5_extra_24 : decode cX5_extra 24 = .ok (.athrow, 1) := by decide +kernel
theorem dX5_extra_25 : decode cX5_extra 25 = .ok (.aload_n 0, 1) := by decide +kernel
theorem dX5_extra_26 : decode cX5_extra 26 = .ok (.getfield 56, 3) := by decide +kernel
theorem dX5_extra_29 : decode cX5_extra 29 = .ok (.ifCond .ne 13, 3) := by decide +kernel
theorem dX5_extra_32 : decode cX5_extra 32 = .ok (.new 84, 3) := by decide +kernel
theorem dX5_extra_35 : decode cX5_extra 35 = .ok (.dup, 1) := by decide +kernel
theorem dX5_extra_36 : decode cX5_extra 36 = .ok (.ldc 143, 2) := by decide +kernel
theorem dX5_extra_38 : decode cX5_extra 38 = .ok (.invokespecial 88, 3) := by decide +kernel
theorem dX5_extra_41 : decode cX5_extra 41 = .ok (.athrow, 1) := by decide +kernel
theorem dX5_extra_42 : decode cX5_extra 42 = .ok (.aload_n 0, 1) := by decide +kernel
theorem dX5_extra_43 : decode cX5_extra 43 = .ok (.getfield 32, 3) := by decide +kernel
theorem dX5_extra_46 : decode cX5_extra 46 = .ok (.iload_n 1, 1) := by decide +kernel
theorem dX5_extra_47 : decode cX5_extra 47 = .ok (.iaload, 1) := by decide +kernel
theorem dX5_extra_48 : decode cX5_extra 48 = .ok (.ireturn, 1) := by decide +kernel
theorem dX5_row_0 : decode cX5_row 0 = .ok (.iload_n 1, 1) := by decide +kernel
theorem dX5_row_1 : decode cX5_row 1 = .ok (.ifCond .lt 14, 3) := by decide +kernel
theorem dX5_row_4 : decode cX5_row 4 = .ok (.iload_n 1, 1) := by decide +kernel
theorem dX5_row_5 : decode cX5_row 5 = .ok (.aload_n 0, 1) := by decide +kernel
theorem dX5_row_6 : decode cX5_row 6 = .ok (.getfield 21, 3) := by decide +kernel
theorem dX5_row_9 : decode cX5_row 9 = .ok (.getfield 126, 3) := by decide +kernel
theorem dX5_row_12 : decode cX5_row 12 = .ok (.if_icmp .lt 13, 3) := by decide +kernel
theorem dX5_row_15 : decode cX5_row 15 = .ok (.new 138, 3) := by decide +kernel
theorem dX5_row_18 : decode cX5_row 18 = .ok (.dup, 1) := by decide +kernel
theorem dX5_row_19 : decode cX5_row 19 = .ok (.ldc 145, 2) := by decide +kernel
theorem dX5_row_21 : decode cX5_row 21 = .ok (.invokespecial 142, 3) := by decide +kernel
theorem dX5_row_24 : decode cX5_row 24 = .ok (.athrow, 1) := by decide +kernel
theorem dX5_row_25 : decode cX5_row 25 = .ok (.aload_n 0, 1) := by decide +kernel
theorem dX5_row_26 : decode cX5_row 26 = .ok (.getfield 21, 3) := by decide +kernel
theorem dX5_row_29 : decode cX5_row 29 = .ok (.getfield 147, 3) := by decide +kernel
theorem dX5_row_32 : decode cX5_row 32 = .ok (.iload_n 1, 1) := by decide +kernel
theorem dX5_row_33 : decode cX5_row 33 = .ok (.iaload, 1) := by decide +kernel
theorem dX5_row_34 : decode cX5_row 34 = .ok (.ireturn, 1) := by decide +kernel
theorem dX5_step_0 : decode cX5_step 0 = .ok (.aload_n 0, 1) := by decide +kernel
theorem dX5_step_1 : decode cX5_step 1 = .ok (.getfield 25, 3) := by decide +kernel
theorem dX5_step_4 : decode cX5_step 4 = .ok (.invokevirtual 150, 3) := by decide +kernel
theorem dX5_step_7 : decode cX5_step 7 = .ok (.ifCond .eq 13, 3) := by decide +kernel
theorem dX5_step_10 : decode cX5_step 10 = .ok (.new 84, 3) := by decide +kernel
theorem dX5_step_13 : decode cX5_step 13 = .ok (.dup, 1) := by decide +kernel
theorem dX5_step_14 : decode cX5_step 14 = .ok (.ldc 154, 2) := by decide +kernel
theorem dX5_step_16 : decode cX5_step 16 = .ok (.invokespecial 88, 3) := by decide +kernel
theorem dX5_step_19 : decode cX5_step 19 = .ok (.athrow, 1) := by decide +kernel
theorem dX5_step_20 : decode cX5_step 20 = .ok (.aload_n 0, 1) := by decide +kernel
theorem dX5_step_21 : decode cX5_step 21 = .ok (.getfield 25, 3) := by decide +kernel
theorem dX5_step_24 : decode cX5_step 24 = .ok (.iload_n 1, 1) := by decide +kernel
theorem dX5_step_25 : decode cX5_step 25 = .ok (.invokevirtual 156, 3) := by decide +kernel
theorem dX5_step_28 : decode cX5_step 28 = .ok (.aload_n 0, 1) := by decide +kernel
theorem dX5_step_29 : decode cX5_step 29 = .ok (.getfield 25, 3) := by decide +kernel
theorem dX5_step_32 : decode cX5_step 32 = .ok (.getfield 126, 3) := by decide +kernel
theorem dX5_step_35 : decode cX5_step 35 = .ok (.ireturn, 1) := by decide +kernel
theorem dX5_judge_0 : decode cX5_judge 0 = .ok (.aload_n 0, 1) := by decide +kernel
theorem dX5_judge_1 : decode cX5_judge 1 = .ok (.iload_n 1, 1) := by decide +kernel
theorem dX5_judge_2 : decode cX5_judge 2 = .ok (.invokevirtual 78, 3) := by decide +kernel
theorem dX5_judge_5 : decode cX5_judge 5 = .ok (.aload_n 0, 1) := by decide +kernel
theorem dX5_judge_6 : decode cX5_judge 6 = .ok (.iload_n 1, 1) := by decide +kernel
theorem dX5_judge_7 : decode cX5_judge 7 = .ok (.invokevirtual 159, 3) := by decide +kernel
theorem dX5_judge_10 : decode cX5_judge 10 = .ok (.lstore_n 2, 1) := by decide +kernel
theorem dX5_judge_11 : decode cX5_judge 11 = .ok (.aload_n 0, 1) := by decide +kernel
theorem dX5_judge_12 : decode cX5_judge 12 = .ok (.getfield 25, 3) := by decide +kernel
theorem dX5_judge_15 : decode cX5_judge 15 = .ok (.invokevirtual 163, 3) := by decide +kernel
theorem dX5_judge_18 : decode cX5_judge 18 = .ok (.lload_n 2, 1) := by decide +kernel
theorem dX5_judge_19 : decode cX5_judge 19 = .ok (.lreturn, 1) := by decide +kernel
theorem dX5_look_0 : decode cX5_look 0 = .ok (.iload_n 1, 1) := by decide +kernel
theorem dX5_look_1 : decode cX5_look 1 = .ok (.tableswitch 156 0 8 #[51, 59, 67, 83, 91, 102, 113, 121, 137], 51) := by decide +kernel
theorem dX5_look_52 : decode cX5_look 52 = .ok (.aload_n 0, 1) := by decide +kernel
theorem dX5_look_53 : decode cX5_look 53 = .ok (.getfield 12, 3) := by decide +kernel
theorem dX5_look_56 : decode cX5_look 56 = .ok (.getfield 166, 3) := by decide +kernel
theorem dX5_look_59 : decode cX5_look 59 = .ok (.ireturn, 1) := by decide +kernel
theorem dX5_look_60 : decode cX5_look 60 = .ok (.aload_n 0, 1) := by decide +kernel
theorem dX5_look_61 : decode cX5_look 61 = .ok (.getfield 12, 3) := by decide +kernel
theorem dX5_look_64 : decode cX5_look 64 = .ok (.getfield 67, 3) := by decide +kernel
theorem dX5_look_67 : decode cX5_look 67 = .ok (.ireturn, 1) := by decide +kernel
theorem dX5_look_68 : decode cX5_look 68 = .ok (.aload_n 0, 1) := by decide +kernel
theorem dX5_look_69 : decode cX5_look 69 = .ok (.getfield 12, 3) := by decide +kernel
theorem dX5_look_72 : decode cX5_look 72 = .ok (.getfield 169, 3) := by decide +kernel
theorem dX5_look_75 : decode cX5_look 75 = .ok (.ifCond .eq 7, 3) := by decide +kernel
theorem dX5_look_78 : decode cX5_look 78 = .ok (.iconst 1, 1) := by decide +kernel
theorem dX5_look_79 : decode cX5_look 79 = .ok (.goto 4, 3) := by decide +kernel
theorem dX5_look_82 : decode cX5_look 82 = .ok (.iconst 0, 1) := by decide +kernel
theorem dX5_look_83 : decode cX5_look 83 = .ok (.ireturn, 1) := by decide +kernel
theorem dX5_look_84 : decode cX5_look 84 = .ok (.aload_n 0, 1) := by decide +kernel
theorem dX5_look_85 : decode cX5_look 85 = .ok (.getfield 21, 3) := by decide +kernel
theorem dX5_look_88 : decode cX5_look 88 = .ok (.getfield 126, 3) := by decide +kernel
theorem dX5_look_91 : decode cX5_look 91 = .ok (.ireturn, 1) := by decide +kernel
theorem dX5_look_92 : decode cX5_look 92 = .ok (.aload_n 0, 1) := by decide +kernel
theorem dX5_look_93 : decode cX5_look 93 = .ok (.getfield 12, 3) := by decide +kernel
theorem dX5_look_96 : decode cX5_look 96 = .ok (.invokevirtual 112, 3) := by decide +kernel
theorem dX5_look_99 : decode cX5_look 99 = .ok (.invokestatic 172, 3) := by decide +kernel
theorem dX5_look_102 : decode cX5_look 102 = .ok (.ireturn, 1) := by decide +kernel
theorem dX5_look_103 : decode cX5_look 103 = .ok (.aload_n 0, 1) := by decide +kernel
theorem dX5_look_104 : decode cX5_look 104 = .ok (.getfield 12, 3) := by decide +kernel
theorem dX5_look_107 : decode cX5_look 107 = .ok (.invokevirtual 112, 3) := by decide +kernel
theorem dX5_look_110 : decode cX5_look 110 = .ok (.invokestatic 178, 3) := by decide +kernel
theorem dX5_look_113 : decode cX5_look 113 = .ok (.ireturn, 1) := by decide +kernel
theorem dX5_look_114 : decode cX5_look 114 = .ok (.aload_n 0, 1) := by decide +kernel
theorem dX5_look_115 : decode cX5_look 115 = .ok (.getfield 25, 3) := by decide +kernel
theorem dX5_look_118 : decode cX5_look 118 = .ok (.getfield 126, 3) := by decide +kernel
theorem dX5_look_121 : decode cX5_look 121 = .ok (.ireturn, 1) := by decide +kernel
theorem dX5_look_122 : decode cX5_look 122 = .ok (.aload_n 0, 1) := by decide +kernel
theorem dX5_look_123 : decode cX5_look 123 = .ok (.invokevirtual 116, 3) := by decide +kernel
theorem dX5_look_126 : decode cX5_look 126 = .ok (.aload_n 0, 1) := by decide +kernel
theorem dX5_look_127 : decode cX5_look 127 = .ok (.getfield 12, 3) := by decide +kernel
theorem dX5_look_130 : decode cX5_look 130 = .ok (.aload_n 0, 1) := by decide +kernel
theorem dX5_look_131 : decode cX5_look 131 = .ok (.getfield 28, 3) := by decide +kernel
theorem dX5_look_134 : decode cX5_look 134 = .ok (.invokevirtual 181, 3) := by decide +kernel
theorem dX5_look_137 : decode cX5_look 137 = .ok (.ireturn, 1) := by decide +kernel
theorem dX5_look_138 : decode cX5_look 138 = .ok (.aload_n 0, 1) := by decide +kernel
theorem dX5_look_139 : decode cX5_look 139 = .ok (.invokevirtual 116, 3) := by decide +kernel
theorem dX5_look_142 : decode cX5_look 142 = .ok (.aload_n 0, 1) := by decide +kernel
theorem dX5_look_143 : decode cX5_look 143 = .ok (.getfield 12, 3) := by decide +kernel
theorem dX5_look_146 : decode cX5_look 146 = .ok (.aload_n 0, 1) := by decide +kernel
theorem dX5_look_147 : decode cX5_look 147 = .ok (.getfield 28, 3) := by decide +kernel
theorem dX5_look_150 : decode cX5_look 150 = .ok (.invokevirtual 185, 3) := by decide +kernel
theorem dX5_look_153 : decode cX5_look 153 = .ok (.invokestatic 172, 3) := by decide +kernel
theorem dX5_look_156 : decode cX5_look 156 = .ok (.ireturn, 1) := by decide +kernel
theorem dX5_look_157 : decode cX5_look 157 = .ok (.new 60, 3) := by decide +kernel
theorem dX5_look_160 : decode cX5_look 160 = .ok (.dup, 1) := by decide +kernel
theorem dX5_look_161 : decode cX5_look 161 = .ok (.ldc 188, 2) := by decide +kernel
theorem dX5_look_163 : decode cX5_look 163 = .ok (.invokespecial 64, 3) := by decide +kernel
theorem dX5_look_166 : decode cX5_look 166 = .ok (.athrow, 1) := by decide +kernel
theorem dX5_requireVertex_0 : decode cX5_requireVertex 0 = .ok (.iload_n 1, 1) := by decide +kernel
theorem dX5_requireVertex_1 : decode cX5_requireVertex 1 = .ok (.ifCond .lt 14, 3) := by decide +kernel
theorem dX5_requireVertex_4 : decode cX5_requireVertex 4 = .ok (.iload_n 1, 1) := by decide +kernel
theorem dX5_requireVertex_5 : decode cX5_requireVertex 5 = .ok (.aload_n 0, 1) := by decide +kernel
theorem dX5_requireVertex_6 : decode cX5_requireVertex 6 = .ok (.getfield 12, 3) := by decide +kernel
theorem dX5_requireVertex_9 : decode cX5_requireVertex 9 = .ok (.getfield 166, 3) := by decide +kernel
theorem dX5_requireVertex_12 : decode cX5_requireVertex 12 = .ok (.if_icmp .lt 13, 3) := by decide +kernel
theorem dX5_requireVertex_15 : decode cX5_requireVertex 15 = .ok (.new 60, 3) := by decide +kernel
theorem dX5_requireVertex_18 : decode cX5_requireVertex 18 = .ok (.dup, 1) := by decide +kernel
theorem dX5_requireVertex_19 : decode cX5_requireVertex 19 = .ok (.ldc 190, 2) := by decide +kernel
theorem dX5_requireVertex_21 : decode cX5_requireVertex 21 = .ok (.invokespecial 64, 3) := by decide +kernel
theorem dX5_requireVertex_24 : decode cX5_requireVertex 24 = .ok (.athrow, 1) := by decide +kernel
theorem dX5_requireVertex_25 : decode cX5_requireVertex 25 = .ok (.return_, 1) := by decide +kernel
theorem dX5_forgetAnswers_0 : decode cX5_forgetAnswers 0 = .ok (.aload_n 0, 1) := by decide +kernel
theorem dX5_forgetAnswers_1 : decode cX5_forgetAnswers 1 = .ok (.getfield 21, 3) := by decide +kernel
theorem dX5_forgetAnswers_4 : decode cX5_forgetAnswers 4 = .ok (.invokevirtual 163, 3) := by decide +kernel
theorem dX5_forgetAnswers_7 : decode cX5_forgetAnswers 7 = .ok (.aload_n 0, 1) := by decide +kernel
theorem dX5_forgetAnswers_8 : decode cX5_forgetAnswers 8 = .ok (.iconst 0, 1) := by decide +kernel
theorem dX5_forgetAnswers_9 : decode cX5_forgetAnswers 9 = .ok (.putfield 56, 3) := by decide +kernel
theorem dX5_forgetAnswers_12 : decode cX5_forgetAnswers 12 = .ok (.return_, 1) := by decide +kernel
theorem dX5_useEachEdgeOnce_0 : decode cX5_useEachEdgeOnce 0 = .ok (.iconst 0, 1) := by decide +kernel
theorem dX5_useEachEdgeOnce_1 : decode cX5_useEachEdgeOnce 1 = .ok (.istore_n 1, 1) := by decide +kernel
theorem dX5_useEachEdgeOnce_2 : decode cX5_useEachEdgeOnce 2 = .ok (.iload_n 1, 1) := by decide +kernel
theorem dX5_useEachEdgeOnce_3 : decode cX5_useEachEdgeOnce 3 = .ok (.aload_n 0, 1) := by decide +kernel
theorem dX5_useEachEdgeOnce_4 : decode cX5_useEachEdgeOnce 4 = .ok (.getfield 12, 3) := by decide +kernel
theorem dX5_useEachEdgeOnce_7 : decode cX5_useEachEdgeOnce 7 = .ok (.getfield 67, 3) := by decide +kernel
theorem dX5_useEachEdgeOnce_10 : decode cX5_useEachEdgeOnce 10 = .ok (.if_icmp .ge 16, 3) := by decide +kernel
theorem dX5_useEachEdgeOnce_13 : decode cX5_useEachEdgeOnce 13 = .ok (.aload_n 0, 1) := by decide +kernel
theorem dX5_useEachEdgeOnce_14 : decode cX5_useEachEdgeOnce 14 = .ok (.getfield 28, 3) := by decide +kernel
theorem dX5_useEachEdgeOnce_17 : decode cX5_useEachEdgeOnce 17 = .ok (.iload_n 1, 1) := by decide +kernel
theorem dX5_useEachEdgeOnce_18 : decode cX5_useEachEdgeOnce 18 = .ok (.iconst 1, 1) := by decide +kernel
theorem dX5_useEachEdgeOnce_19 : decode cX5_useEachEdgeOnce 19 = .ok (.iastore, 1) := by decide +kernel
theorem dX5_useEachEdgeOnce_20 : decode cX5_useEachEdgeOnce 20 = .ok (.iinc 1 1, 3) := by decide +kernel
theorem dX5_useEachEdgeOnce_23 : decode cX5_useEachEdgeOnce 23 = .ok (.goto (-21), 3) := by decide +kernel
theorem dX5_useEachEdgeOnce_26 : decode cX5_useEachEdgeOnce 26 = .ok (.return_, 1) := by decide +kernel
theorem dX5_findExtras_0 : decode cX5_findExtras 0 = .ok (.aload_n 0, 1) := by decide +kernel
theorem dX5_findExtras_1 : decode cX5_findExtras 1 = .ok (.getfield 12, 3) := by decide +kernel
theorem dX5_findExtras_4 : decode cX5_findExtras 4 = .ok (.getfield 169, 3) := by decide +kernel
theorem dX5_findExtras_7 : decode cX5_findExtras 7 = .ok (.ifCond .eq 25, 3) := by decide +kernel
theorem dX5_findExtras_10 : decode cX5_findExtras 10 = .ok (.aload_n 0, 1) := by decide +kernel
theorem dX5_findExtras_11 : decode cX5_findExtras 11 = .ok (.getfield 52, 3) := by decide +kernel
theorem dX5_findExtras_14 : decode cX5_findExtras 14 = .ok (.aload_n 0, 1) := by decide +kernel
theorem dX5_findExtras_15 : decode cX5_findExtras 15 = .ok (.getfield 12, 3) := by decide +kernel
theorem dX5_findExtras_18 : decode cX5_findExtras 18 = .ok (.aload_n 0, 1) := by decide +kernel
theorem dX5_findExtras_19 : decode cX5_findExtras 19 = .ok (.getfield 38, 3) := by decide +kernel
theorem dX5_findExtras_22 : decode cX5_findExtras 22 = .ok (.aload_n 0, 1) := by decide +kernel
theorem dX5_findExtras_23 : decode cX5_findExtras 23 = .ok (.getfield 32, 3) := by decide +kernel
theorem dX5_findExtras_26 : decode cX5_findExtras 26 = .ok (.invokevirtual 192, 3) := by decide +kernel
theorem dX5_findExtras_29 : decode cX5_findExtras 29 = .ok (.goto 22, 3) := by decide +kernel
theorem dX5_findExtras_32 : decode cX5_findExtras 32 = .ok (.aload_n 0, 1) := by decide +kernel
theorem dX5_findExtras_33 : decode cX5_findExtras 33 = .ok (.getfield 45, 3) := by decide +kernel
theorem dX5_findExtras_36 : decode cX5_findExtras 36 = .ok (.aload_n 0, 1) := by decide +kernel
theorem dX5_findExtras_37 : decode cX5_findExtras 37 = .ok (.getfield 12, 3) := by decide +kernel
theorem dX5_findExtras_40 : decode cX5_findExtras 40 = .ok (.aload_n 0, 1) := by decide +kernel
theorem dX5_findExtras_41 : decode cX5_findExtras 41 = .ok (.getfield 38, 3) := by decide +kernel
theorem dX5_findExtras_44 : decode cX5_findExtras 44 = .ok (.aload_n 0, 1) := by decide +kernel
theorem dX5_findExtras_45 : decode cX5_findExtras 45 = .ok (.getfield 32, 3) := by decide +kernel
theorem dX5_findExtras_48 : decode cX5_findExtras 48 = .ok (.invokevirtual 196, 3) := by decide +kernel
theorem dX5_findExtras_51 : decode cX5_findExtras 51 = .ok (.aload_n 0, 1) := by decide +kernel
theorem dX5_findExtras_52 : decode cX5_findExtras 52 = .ok (.iconst 1, 1) := by decide +kernel
theorem dX5_findExtras_53 : decode cX5_findExtras 53 = .ok (.putfield 56, 3) := by decide +kernel
theorem dX5_findExtras_56 : decode cX5_findExtras 56 = .ok (.return_, 1) := by decide +kernel
theorem dX5_writeLeastRow_0 : decode cX5_writeLeastRow 0 = .ok (.aload_n 0, 1) := by decide +kernel
theorem dX5_writeLeastRow_1 : decode cX5_writeLeastRow 1 = .ok (.getfield 21, 3) := by decide +kernel
theorem dX5_writeLeastRow_4 : decode cX5_writeLeastRow 4 = .ok (.invokevirtual 163, 3) := by decide +kernel
theorem dX5_writeLeastRow_7 : decode cX5_writeLeastRow 7 = .ok (.iload_n 1, 1) := by decide +kernel
theorem dX5_writeLeastRow_8 : decode cX5_writeLeastRow 8 = .ok (.istore_n 2, 1) := by decide +kernel
theorem dX5_writeLeastRow_9 : decode cX5_writeLeastRow 9 = .ok (.iconst 0, 1) := by decide +kernel
theorem dX5_writeLeastRow_10 : decode cX5_writeLeastRow 10 = .ok (.istore_n 3, 1) := by decide +kernel
theorem dX5_writeLeastRow_11 : decode cX5_writeLeastRow 11 = .ok (.iload_n 3, 1) := by decide +kernel
theorem dX5_writeLeastRow_12 : decode cX5_writeLeastRow 12 = .ok (.sipush 640, 3) := by decide +kernel
theorem dX5_writeLeastRow_15 : decode cX5_writeLeastRow 15 = .ok (.if_icmp .ge 56, 3) := by decide +kernel
theorem dX5_writeLeastRow_18 : decode cX5_writeLeastRow 18 = .ok (.aload_n 0, 1) := by decide +kernel
theorem dX5_writeLeastRow_19 : decode cX5_writeLeastRow 19 = .ok (.iload_n 2, 1) := by decide +kernel
theorem dX5_writeLeastRow_20 : decode cX5_writeLeastRow 20 = .ok (.invokevirtual 197, 3) := by decide +kernel
theorem dX5_writeLeastRow_23 : decode cX5_writeLeastRow 23 = .ok (.istore 4, 2) := by decide +kernel
theorem dX5_writeLeastRow_25 : decode cX5_writeLeastRow 25 = .ok (.iload 4, 2) := by decide +kernel
theorem dX5_writeLeastRow_27 : decode cX5_writeLeastRow 27 = .ok (.ifCond .ge 6, 3) := by decide +kernel
theorem dX5_writeLeastRow_30 : decode cX5_writeLeastRow 30 = .ok (.goto 41, 3) := by decide +kernel
theorem dX5_writeLeastRow_33 : decode cX5_writeLeastRow 33 = .ok (.aload_n 0, 1) := by decide +kernel
theorem dX5_writeLeastRow_34 : decode cX5_writeLeastRow 34 = .ok (.getfield 21, 3) := by decide +kernel
theorem dX5_writeLeastRow_37 : decode cX5_writeLeastRow 37 = .ok (.iload 4, 2) := by decide +kernel
theorem dX5_writeLeastRow_39 : decode cX5_writeLeastRow 39 = .ok (.invokevirtual 156, 3) := by decide +kernel
theorem dX5_writeLeastRow_42 : decode cX5_writeLeastRow 42 = .ok (.aload_n 0, 1) := by decide +kernel
theorem dX5_writeLeastRow_43 : decode cX5_writeLeastRow 43 = .ok (.getfield 28, 3) := by decide +kernel
theorem dX5_writeLeastRow_46 : decode cX5_writeLeastRow 46 = .ok (.iload 4, 2) := by decide +kernel
theorem dX5_writeLeastRow_48 : decode cX5_writeLeastRow 48 = .ok (.iconst 1, 1) := by decide +kernel
theorem dX5_writeLeastRow_49 : decode cX5_writeLeastRow 49 = .ok (.ishr, 1) := by decide +kernel
theorem dX5_writeLeastRow_50 : decode cX5_writeLeastRow 50 = .ok (.dup2, 1) := by decide +kernel
theorem dX5_writeLeastRow_51 : decode cX5_writeLeastRow 51 = .ok (.iaload, 1) := by decide +kernel
theorem dX5_writeLeastRow_52 : decode cX5_writeLeastRow 52 = .ok (.iconst 1, 1) := by decide +kernel
theorem dX5_writeLeastRow_53 : decode cX5_writeLeastRow 53 = .ok (.isub, 1) := by decide +kernel
theorem dX5_writeLeastRow_54 : decode cX5_writeLeastRow 54 = .ok (.iastore, 1) := by decide +kernel
theorem dX5_writeLeastRow_55 : decode cX5_writeLeastRow 55 = .ok (.aload_n 0, 1) := by decide +kernel
theorem dX5_writeLeastRow_56 : decode cX5_writeLeastRow 56 = .ok (.getfield 12, 3) := by decide +kernel
theorem dX5_writeLeastRow_59 : decode cX5_writeLeastRow 59 = .ok (.iload 4, 2) := by decide +kernel
theorem dX5_writeLeastRow_61 : decode cX5_writeLeastRow 61 = .ok (.invokevirtual 200, 3) := by decide +kernel
theorem dX5_writeLeastRow_64 : decode cX5_writeLeastRow 64 = .ok (.istore_n 2, 1) := by decide +kernel
theorem dX5_writeLeastRow_65 : decode cX5_writeLeastRow 65 = .ok (.iinc 3 1, 3) := by decide +kernel
theorem dX5_writeLeastRow_68 : decode cX5_writeLeastRow 68 = .ok (.goto (-57), 3) := by decide +kernel
theorem dX5_writeLeastRow_71 : decode cX5_writeLeastRow 71 = .ok (.return_, 1) := by decide +kernel
theorem dX5_leastStepFrom_0 : decode cX5_leastStepFrom 0 = .ok (.iconst 0, 1) := by decide +kernel
theorem dX5_leastStepFrom_1 : decode cX5_leastStepFrom 1 = .ok (.istore_n 2, 1) := by decide +kernel
theorem dX5_leastStepFrom_2 : decode cX5_leastStepFrom 2 = .ok (.iload_n 2, 1) := by decide +kernel
theorem dX5_leastStepFrom_3 : decode cX5_leastStepFrom 3 = .ok (.iconst 2, 1) := by decide +kernel
theorem dX5_leastStepFrom_4 : decode cX5_leastStepFrom 4 = .ok (.aload_n 0, 1) := by decide +kernel
theorem dX5_leastStepFrom_5 : decode cX5_leastStepFrom 5 = .ok (.getfield 12, 3) := by decide +kernel
theorem dX5_leastStepFrom_8 : decode cX5_leastStepFrom 8 = .ok (.getfield 67, 3) := by decide +kernel
theorem dX5_leastStepFrom_11 : decode cX5_leastStepFrom 11 = .ok (.imul, 1) := by decide +kernel
theorem dX5_leastStepFrom_12 : decode cX5_leastStepFrom 12 = .ok (.if_icmp .ge 42, 3) := by decide +kernel
theorem dX5_leastStepFrom_15 : decode cX5_leastStepFrom 15 = .ok (.aload_n 0, 1) := by decide +kernel
theorem dX5_leastStepFrom_16 : decode cX5_leastStepFrom 16 = .ok (.getfield 28, 3) := by decide +kernel
theorem dX5_leastStepFrom_19 : decode cX5_leastStepFrom 19 = .ok (.iload_n 2, 1) := by decide +kernel
theorem dX5_leastStepFrom_20 : decode cX5_leastStepFrom 20 = .ok (.iconst 1, 1) := by decide +kernel
theorem dX5_leastStepFrom_21 : decode cX5_leastStepFrom 21 = .ok (.ishr, 1) := by decide +kernel
theorem dX5_leastStepFrom_22 : decode cX5_leastStepFrom 22 = .ok (.iaload, 1) := by decide +kernel
theorem dX5_leastStepFrom_23 : decode cX5_leastStepFrom 23 = .ok (.ifCond .le 25, 3) := by decide +kernel
theorem dX5_leastStepFrom_26 : decode cX5_leastStepFrom 26 = .ok (.aload_n 0, 1) := by decide +kernel
theorem dX5_leastStepFrom_27 : decode cX5_leastStepFrom 27 = .ok (.getfield 12, 3) := by decide +kernel
theorem dX5_leastStepFrom_30 : decode cX5_leastStepFrom 30 = .ok (.iload_n 2, 1) := by decide +kernel
theorem dX5_leastStepFrom_31 : decode cX5_leastStepFrom 31 = .ok (.iload_n 1, 1) := by decide +kernel
theorem dX5_leastStepFrom_32 : decode cX5_leastStepFrom 32 = .ok (.invokevirtual 203, 3) := by decide +kernel
theorem dX5_leastStepFrom_35 : decode cX5_leastStepFrom 35 = .ok (.ifCond .eq 13, 3) := by decide +kernel
theorem dX5_leastStepFrom_38 : decode cX5_leastStepFrom 38 = .ok (.aload_n 0, 1) := by decide +kernel
theorem dX5_leastStepFrom_39 : decode cX5_leastStepFrom 39 = .ok (.iload_n 2, 1) := by decide +kernel
theorem dX5_leastStepFrom_40 : decode cX5_leastStepFrom 40 = .ok (.invokevirtual 207, 3) := by decide +kernel
theorem dX5_leastStepFrom_43 : decode cX5_leastStepFrom 43 = .ok (.ifCond .eq 5, 3) := by decide +kernel
theorem dX5_leastStepFrom_46 : decode cX5_leastStepFrom 46 = .ok (.iload_n 2, 1) := by decide +kernel
theorem dX5_leastStepFrom_47 : decode cX5_leastStepFrom 47 = .ok (.ireturn, 1) := by decide +kernel
theorem dX5_leastStepFrom_48 : decode cX5_leastStepFrom 48 = .ok (.iinc 2 1, 3) := by decide +kernel
theorem dX5_leastStepFrom_51 : decode cX5_leastStepFrom 51 = .ok (.goto (-49), 3) := by decide +kernel
theorem dX5_leastStepFrom_54 : decode cX5_leastStepFrom 54 = .ok (.iconst (-1), 1) := by decide +kernel
theorem dX5_leastStepFrom_55 : decode cX5_leastStepFrom 55 = .ok (.ireturn, 1) := by decide +kernel
theorem dX5_leavesWhole_0 : decode cX5_leavesWhole 0 = .ok (.iload_n 1, 1) := by decide +kernel
theorem dX5_leavesWhole_1 : decode cX5_leavesWhole 1 = .ok (.iconst 1, 1) := by decide +kernel
theorem dX5_leavesWhole_2 : decode cX5_leavesWhole 2 = .ok (.ishr, 1) := by decide +kernel
theorem dX5_leavesWhole_3 : decode cX5_leavesWhole 3 = .ok (.istore_n 2, 1) := by decide +kernel
theorem dX5_leavesWhole_4 : decode cX5_leavesWhole 4 = .ok (.aload_n 0, 1) := by decide +kernel
theorem dX5_leavesWhole_5 : decode cX5_leavesWhole 5 = .ok (.getfield 28, 3) := by decide +kernel
theorem dX5_leavesWhole_8 : decode cX5_leavesWhole 8 = .ok (.iload_n 2, 1) := by decide +kernel
theorem dX5_leavesWhole_9 : decode cX5_leavesWhole 9 = .ok (.iaload, 1) := by decide +kernel
theorem dX5_leavesWhole_10 : decode cX5_leavesWhole 10 = .ok (.iconst 1, 1) := by decide +kernel
theorem dX5_leavesWhole_11 : decode cX5_leavesWhole 11 = .ok (.if_icmp .le 5, 3) := by decide +kernel
theorem dX5_leavesWhole_14 : decode cX5_leavesWhole 14 = .ok (.iconst 1, 1) := by decide +kernel
theorem dX5_leavesWhole_15 : decode cX5_leavesWhole 15 = .ok (.ireturn, 1) := by decide +kernel
theorem dX5_leavesWhole_16 : decode cX5_leavesWhole 16 = .ok (.aload_n 0, 1) := by decide +kernel
theorem dX5_leavesWhole_17 : decode cX5_leavesWhole 17 = .ok (.getfield 28, 3) := by decide +kernel
theorem dX5_leavesWhole_20 : decode cX5_leavesWhole 20 = .ok (.iload_n 2, 1) := by decide +kernel
theorem dX5_leavesWhole_21 : decode cX5_leavesWhole 21 = .ok (.dup2, 1) := by decide +kernel
theorem dX5_leavesWhole_22 : decode cX5_leavesWhole 22 = .ok (.iaload, 1) := by decide +kernel
theorem dX5_leavesWhole_23 : decode cX5_leavesWhole 23 = .ok (.iconst 1, 1) := by decide +kernel
theorem dX5_leavesWhole_24 : decode cX5_leavesWhole 24 = .ok (.isub, 1) := by decide +kernel
theorem dX5_leavesWhole_25 : decode cX5_leavesWhole 25 = .ok (.iastore, 1) := by decide +kernel
theorem dX5_leavesWhole_26 : decode cX5_leavesWhole 26 = .ok (.aload_n 0, 1) := by decide +kernel
theorem dX5_leavesWhole_27 : decode cX5_leavesWhole 27 = .ok (.getfield 12, 3) := by decide +kernel
theorem dX5_leavesWhole_30 : decode cX5_leavesWhole 30 = .ok (.aload_n 0, 1) := by decide +kernel
theorem dX5_leavesWhole_31 : decode cX5_leavesWhole 31 = .ok (.getfield 12, 3) := by decide +kernel
theorem dX5_leavesWhole_34 : decode cX5_leavesWhole 34 = .ok (.iload_n 1, 1) := by decide +kernel
theorem dX5_leavesWhole_35 : decode cX5_leavesWhole 35 = .ok (.invokevirtual 200, 3) := by decide +kernel
theorem dX5_leavesWhole_38 : decode cX5_leavesWhole 38 = .ok (.aload_n 0, 1) := by decide +kernel
theorem dX5_leavesWhole_39 : decode cX5_leavesWhole 39 = .ok (.getfield 28, 3) := by decide +kernel
theorem dX5_leavesWhole_42 : decode cX5_leavesWhole 42 = .ok (.invokevirtual 119, 3) := by decide +kernel
theorem dX5_leavesWhole_45 : decode cX5_leavesWhole 45 = .ok (.istore_n 3, 1) := by decide +kernel
theorem dX5_leavesWhole_46 : decode cX5_leavesWhole 46 = .ok (.aload_n 0, 1) := by decide +kernel
theorem dX5_leavesWhole_47 : decode cX5_leavesWhole 47 = .ok (.getfield 28, 3) := by decide +kernel
theorem dX5_leavesWhole_50 : decode cX5_leavesWhole 50 = .ok (.iload_n 2, 1) := by decide +kernel
theorem dX5_leavesWhole_51 : decode cX5_leavesWhole 51 = .ok (.dup2, 1) := by decide +kernel
theorem dX5_leavesWhole_52 : decode cX5_leavesWhole 52 = .ok (.iaload, 1) := by decide +kernel
theorem dX5_leavesWhole_53 : decode cX5_leavesWhole 53 = .ok (.iconst 1, 1) := by decide +kernel
theorem dX5_leavesWhole_54 : decode cX5_leavesWhole 54 = .ok (.iadd, 1) := by decide +kernel
theorem dX5_leavesWhole_55 : decode cX5_leavesWhole 55 = .ok (.iastore, 1) := by decide +kernel
theorem dX5_leavesWhole_56 : decode cX5_leavesWhole 56 = .ok (.iload_n 3, 1) := by decide +kernel
theorem dX5_leavesWhole_57 : decode cX5_leavesWhole 57 = .ok (.ireturn, 1) := by decide +kernel
theorem dX5_verdictOnPath_0 : decode cX5_verdictOnPath 0 = .ok (.aload_n 0, 1) := by decide +kernel
theorem dX5_verdictOnPath_1 : decode cX5_verdictOnPath 1 = .ok (.getfield 28, 3) := by decide +kernel
theorem dX5_verdictOnPath_4 : decode cX5_verdictOnPath 4 = .ok (.iconst 0, 1) := by decide +kernel
theorem dX5_verdictOnPath_5 : decode cX5_verdictOnPath 5 = .ok (.invokestatic 211, 3) := by decide +kernel
theorem dX5_verdictOnPath_8 : decode cX5_verdictOnPath 8 = .ok (.iload_n 1, 1) := by decide +kernel
theorem dX5_verdictOnPath_9 : decode cX5_verdictOnPath 9 = .ok (.istore_n 2, 1) := by decide +kernel
theorem dX5_verdictOnPath_10 : decode cX5_verdictOnPath 10 = .ok (.lconst 0, 1) := by decide +kernel
theorem dX5_verdictOnPath_11 : decode cX5_verdictOnPath 11 = .ok (.lstore_n 3, 1) := by decide +kernel
theorem dX5_verdictOnPath_12 : decode cX5_verdictOnPath 12 = .ok (.iconst 0, 1) := by decide +kernel
theorem dX5_verdictOnPath_13 : decode cX5_verdictOnPath 13 = .ok (.istore 5, 2) := by decide +kernel
theorem dX5_verdictOnPath_15 : decode cX5_verdictOnPath 15 = .ok (.iload 5, 2) := by decide +kernel
theorem dX5_verdictOnPath_17 : decode cX5_verdictOnPath 17 = .ok (.aload_n 0, 1) := by decide +kernel
theorem dX5_verdictOnPath_18 : decode cX5_verdictOnPath 18 = .ok (.getfield 25, 3) := by decide +kernel
theorem dX5_verdictOnPath_21 : decode cX5_verdictOnPath 21 = .ok (.getfield 126, 3) := by decide +kernel
theorem dX5_verdictOnPath_24 : decode cX5_verdictOnPath 24 = .ok (.if_icmp .ge 77, 3) := by decide +kernel
theorem dX5_verdictOnPath_27 : decode cX5_verdictOnPath 27 = .ok (.aload_n 0, 1) := by decide +kernel
theorem dX5_verdictOnPath_28 : decode cX5_verdictOnPath 28 = .ok (.getfield 25, 3) := by decide +kernel
theorem dX5_verdictOnPath_31 : decode cX5_verdictOnPath 31 = .ok (.getfield 147, 3) := by decide +kernel
theorem dX5_verdictOnPath_34 : decode cX5_verdictOnPath 34 = .ok (.iload 5, 2) := by decide +kernel
theorem dX5_verdictOnPath_36 : decode cX5_verdictOnPath 36 = .ok (.iaload, 1) := by decide +kernel
theorem dX5_verdictOnPath_37 : decode cX5_verdictOnPath 37 = .ok (.istore 6, 2) := by decide +kernel
theorem dX5_verdictOnPath_39 : decode cX5_verdictOnPath 39 = .ok (.aload_n 0, 1) := by decide +kernel
theorem dX5_verdictOnPath_40 : decode cX5_verdictOnPath 40 = .ok (.getfield 12, 3) := by decide +kernel
theorem dX5_verdictOnPath_43 : decode cX5_verdictOnPath 43 = .ok (.iload 6, 2) := by decide +kernel
theorem dX5_verdictOnPath_45 : decode cX5_verdictOnPath 45 = .ok (.iload_n 2, 1) := by decide +kernel
theorem dX5_verdictOnPath_46 : decode cX5_verdictOnPath 46 = .ok (.invokevirtual 203, 3) := by decide +kernel
theorem dX5_verdictOnPath_49 : decode cX5_verdictOnPath 49 = .ok (.ifCond .ne 7, 3) := by decide +kernel
theorem dX5_verdictOnPath_52 : decode cX5_verdictOnPath 52 = .ok (.ldc2_w 110, 3) := by decide +kernel
theorem dX5_verdictOnPath_55 : decode cX5_verdictOnPath 55 = .ok (.lreturn, 1) := by decide +kernel
theorem dX5_verdictOnPath_56 : decode cX5_verdictOnPath 56 = .ok (.aload_n 0, 1) := by decide +kernel
theorem dX5_verdictOnPath_57 : decode cX5_verdictOnPath 57 = .ok (.getfield 28, 3) := by decide +kernel
theorem dX5_verdictOnPath_60 : decode cX5_verdictOnPath 60 = .ok (.iload 6, 2) := by decide +kernel
theorem dX5_verdictOnPath_62 : decode cX5_verdictOnPath 62 = .ok (.iconst 1, 1) := by decide +kernel
theorem dX5_verdictOnPath_63 : decode cX5_verdictOnPath 63 = .ok (.ishr, 1) := by decide +kernel
theorem dX5_verdictOnPath_64 : decode cX5_verdictOnPath 64 = .ok (.dup2, 1) := by decide +kernel
theorem dX5_verdictOnPath_65 : decode cX5_verdictOnPath 65 = .ok (.iaload, 1) := by decide +kernel
theorem dX5_verdictOnPath_66 : decode cX5_verdictOnPath 66 = .ok (.iconst 1, 1) := by decide +kernel
theorem dX5_verdictOnPath_67 : decode cX5_verdictOnPath 67 = .ok (.iadd, 1) := by decide +kernel
theorem dX5_verdictOnPath_68 : decode cX5_verdictOnPath 68 = .ok (.iastore, 1) := by decide +kernel
theorem dX5_verdictOnPath_69 : decode cX5_verdictOnPath 69 = .ok (.lload_n 3, 1) := by decide +kernel
theorem dX5_verdictOnPath_70 : decode cX5_verdictOnPath 70 = .ok (.aload_n 0, 1) := by decide +kernel
theorem dX5_verdictOnPath_71 : decode cX5_verdictOnPath 71 = .ok (.getfield 12, 3) := by decide +kernel
theorem dX5_verdictOnPath_74 : decode cX5_verdictOnPath 74 = .ok (.getfield 135, 3) := by decide +kernel
theorem dX5_verdictOnPath_77 : decode cX5_verdictOnPath 77 = .ok (.iload 6, 2) := by decide +kernel
theorem dX5_verdictOnPath_79 : decode cX5_verdictOnPath 79 = .ok (.iconst 1, 1) := by decide +kernel
theorem dX5_verdictOnPath_80 : decode cX5_verdictOnPath 80 = .ok (.ishr, 1) := by decide +kernel
theorem dX5_verdictOnPath_81 : decode cX5_verdictOnPath 81 = .ok (.iaload, 1) := by decide +kernel
theorem dX5_verdictOnPath_82 : decode cX5_verdictOnPath 82 = .ok (.i2l, 1) := by decide +kernel
theorem dX5_verdictOnPath_83 : decode cX5_verdictOnPath 83 = .ok (.ladd, 1) := by decide +kernel
theorem dX5_verdictOnPath_84 : decode cX5_verdictOnPath 84 = .ok (.lstore_n 3, 1) := by decide +kernel
theorem dX5_verdictOnPath_85 : decode cX5_verdictOnPath 85 = .ok (.aload_n 0, 1) := by decide +kernel
theorem dX5_verdictOnPath_86 : decode cX5_verdictOnPath 86 = .ok (.getfield 12, 3) := by decide +kernel
theorem dX5_verdictOnPath_89 : decode cX5_verdictOnPath 89 = .ok (.iload 6, 2) := by decide +kernel
theorem dX5_verdictOnPath_91 : decode cX5_verdictOnPath 91 = .ok (.invokevirtual 200, 3) := by decide +kernel
theorem dX5_verdictOnPath_94 : decode cX5_verdictOnPath 94 = .ok (.istore_n 2, 1) := by decide +kernel
theorem dX5_verdictOnPath_95 : decode cX5_verdictOnPath 95 = .ok (.iinc 5 1, 3) := by decide +kernel
theorem dX5_verdictOnPath_98 : decode cX5_verdictOnPath 98 = .ok (.goto (-83), 3) := by decide +kernel
theorem dX5_verdictOnPath_101 : decode cX5_verdictOnPath 101 = .ok (.iload_n 2, 1) := by decide +kernel
theorem dX5_verdictOnPath_102 : decode cX5_verdictOnPath 102 = .ok (.iload_n 1, 1) := by decide +kernel
theorem dX5_verdictOnPath_103 : decode cX5_verdictOnPath 103 = .ok (.if_icmp .eq 7, 3) := by decide +kernel
theorem dX5_verdictOnPath_106 : decode cX5_verdictOnPath 106 = .ok (.ldc2_w 217, 3) := by decide +kernel
theorem dX5_verdictOnPath_109 : decode cX5_verdictOnPath 109 = .ok (.lreturn, 1) := by decide +kernel
theorem dX5_verdictOnPath_110 : decode cX5_verdictOnPath 110 = .ok (.iconst 0, 1) := by decide +kernel
theorem dX5_verdictOnPath_111 : decode cX5_verdictOnPath 111 = .ok (.istore 5, 2) := by decide +kernel
theorem dX5_verdictOnPath_113 : decode cX5_verdictOnPath 113 = .ok (.iload 5, 2) := by decide +kernel
theorem dX5_verdictOnPath_115 : decode cX5_verdictOnPath 115 = .ok (.aload_n 0, 1) := by decide +kernel
theorem dX5_verdictOnPath_116 : decode cX5_verdictOnPath 116 = .ok (.getfield 12, 3) := by decide +kernel
theorem dX5_verdictOnPath_119 : decode cX5_verdictOnPath 119 = .ok (.getfield 67, 3) := by decide +kernel
theorem dX5_verdictOnPath_122 : decode cX5_verdictOnPath 122 = .ok (.if_icmp .ge 23, 3) := by decide +kernel
theorem dX5_verdictOnPath_125 : decode cX5_verdictOnPath 125 = .ok (.aload_n 0, 1) := by decide +kernel
theorem dX5_verdictOnPath_126 : decode cX5_verdictOnPath 126 = .ok (.getfield 28, 3) := by decide +kernel
theorem dX5_verdictOnPath_129 : decode cX5_verdictOnPath 129 = .ok (.iload 5, 2) := by decide +kernel
theorem dX5_verdictOnPath_131 : decode cX5_verdictOnPath 131 = .ok (.iaload, 1) := by decide +kernel
theorem dX5_verdictOnPath_132 : decode cX5_verdictOnPath 132 = .ok (.ifCond .ne 7, 3) := by decide +kernel
theorem dX5_verdictOnPath_135 : decode cX5_verdictOnPath 135 = .ok (.ldc2_w 219, 3) := by decide +kernel
theorem dX5_verdictOnPath_138 : decode cX5_verdictOnPath 138 = .ok (.lreturn, 1) := by decide +kernel
theorem dX5_verdictOnPath_139 : decode cX5_verdictOnPath 139 = .ok (.iinc 5 1, 3) := by decide +kernel
theorem dX5_verdictOnPath_142 : decode cX5_verdictOnPath 142 = .ok (.goto (-29), 3) := by decide +kernel
theorem dX5_verdictOnPath_145 : decode cX5_verdictOnPath 145 = .ok (.lload_n 3, 1) := by decide +kernel
theorem dX5_verdictOnPath_146 : decode cX5_verdictOnPath 146 = .ok (.lreturn, 1) := by decide +kernel
theorem dX5_leastOf_0 : decode cX5_leastOf 0 = .ok (.iconst 0, 1) := by decide +kernel
theorem dX5_leastOf_1 : decode cX5_leastOf 1 = .ok (.istore_n 1, 1) := by decide +kernel
theorem dX5_leastOf_2 : decode cX5_leastOf 2 = .ok (.iload_n 1, 1) := by decide +kernel
theorem dX5_leastOf_3 : decode cX5_leastOf 3 = .ok (.bipush 16, 2) := by decide +kernel
theorem dX5_leastOf_5 : decode cX5_leastOf 5 = .ok (.if_icmp .ge 20, 3) := by decide +kernel
theorem dX5_leastOf_8 : decode cX5_leastOf 8 = .ok (.iload_n 0, 1) := by decide +kernel
theorem dX5_leastOf_9 : decode cX5_leastOf 9 = .ok (.iload_n 1, 1) := by decide +kernel
theorem dX5_leastOf_10 : decode cX5_leastOf 10 = .ok (.ishr, 1) := by decide +kernel
theorem dX5_leastOf_11 : decode cX5_leastOf 11 = .ok (.iconst 1, 1) := by decide +kernel
theorem dX5_leastOf_12 : decode cX5_leastOf 12 = .ok (.iand, 1) := by decide +kernel
theorem dX5_leastOf_13 : decode cX5_leastOf 13 = .ok (.iconst 1, 1) := by decide +kernel
theorem dX5_leastOf_14 : decode cX5_leastOf 14 = .ok (.if_icmp .ne 5, 3) := by decide +kernel
theorem dX5_leastOf_17 : decode cX5_leastOf 17 = .ok (.iload_n 1, 1) := by decide +kernel
theorem dX5_leastOf_18 : decode cX5_leastOf 18 = .ok (.ireturn, 1) := by decide +kernel
theorem dX5_leastOf_19 : decode cX5_leastOf 19 = .ok (.iinc 1 1, 3) := by decide +kernel
theorem dX5_leastOf_22 : decode cX5_leastOf 22 = .ok (.goto (-20), 3) := by decide +kernel
theorem dX5_leastOf_25 : decode cX5_leastOf 25 = .ok (.iconst (-1), 1) := by decide +kernel
theorem dX5_leastOf_26 : decode cX5_leastOf 26 = .ok (.ireturn, 1) := by decide +kernel
theorem dX6_init_0 : decode cX6_init 0 = .ok (.aload_n 0, 1) := by decide +kernel
theorem dX6_init_1 : decode cX6_init 1 = .ok (.invokespecial 1, 3) := by decide +kernel
theorem dX6_init_4 : decode cX6_init 4 = .ok (.aload_n 0, 1) := by decide +kernel
theorem dX6_init_5 : decode cX6_init 5 = .ok (.iconst 1, 1) := by decide +kernel
theorem dX6_init_6 : decode cX6_init 6 = .ok (.putfield 7, 3) := by decide +kernel
theorem dX6_init_9 : decode cX6_init 9 = .ok (.aload_n 0, 1) := by decide +kernel
theorem dX6_init_10 : decode cX6_init 10 = .ok (.bipush 40, 2) := by decide +kernel
theorem dX6_init_12 : decode cX6_init 12 = .ok (.newarray .int, 2) := by decide +kernel
theorem dX6_init_14 : decode cX6_init 14 = .ok (.putfield 13, 3) := by decide +kernel
theorem dX6_init_17 : decode cX6_init 17 = .ok (.aload_n 0, 1) := by decide +kernel
theorem dX6_init_18 : decode cX6_init 18 = .ok (.bipush 40, 2) := by decide +kernel
theorem dX6_init_20 : decode cX6_init 20 = .ok (.newarray .int, 2) := by decide +kernel
theorem dX6_init_22 : decode cX6_init 22 = .ok (.putfield 17, 3) := by decide +kernel
theorem dX6_init_25 : decode cX6_init 25 = .ok (.aload_n 0, 1) := by decide +kernel
theorem dX6_init_26 : decode cX6_init 26 = .ok (.bipush 40, 2) := by decide +kernel
theorem dX6_init_28 : decode cX6_init 28 = .ok (.newarray .int, 2) := by decide +kernel
theorem dX6_init_30 : decode cX6_init 30 = .ok (.putfield 20, 3) := by decide +kernel
theorem dX6_init_33 : decode cX6_init 33 = .ok (.aload_n 0, 1) := by decide +kernel
theorem dX6_init_34 : decode cX6_init 34 = .ok (.sipush 2000, 3) := by decide +kernel
theorem dX6_init_37 : decode cX6_init 37 = .ok (.newarray .int, 2) := by decide +kernel
theorem dX6_init_39 : decode cX6_init 39 = .ok (.putfield 23, 3) := by decide +kernel
theorem dX6_init_42 : decode cX6_init 42 = .ok (.aload_n 0, 1) := by decide +kernel
theorem dX6_init_43 : decode cX6_init 43 = .ok (.sipush 1000, 3) := by decide +kernel
theorem dX6_init_46 : decode cX6_init 46 = .ok (.newarray .int, 2) := by decide +kernel
theorem dX6_init_48 : decode cX6_init 48 = .ok (.putfield 26, 3) := by decide +kernel
theorem dX6_init_51 : decode cX6_init 51 = .ok (.aload_n 0, 1) := by decide +kernel
theorem dX6_init_52 : decode cX6_init 52 = .ok (.bipush 40, 2) := by decide +kernel
theorem dX6_init_54 : decode cX6_init 54 = .ok (.newarray .int, 2) := by decide +kernel
theorem dX6_init_56 : decode cX6_init 56 = .ok (.putfield 29, 3) := by decide +kernel
