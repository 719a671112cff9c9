theorem dX6_init_59 : decode cX6_init 59 = .ok (.aload_n 0, 1) := by decide +kernel
theorem dX6_init_60 : decode cX6_init 60 = .ok (.sipush 256, 3) := by decide +kernel
theorem dX6_init_63 : decode cX6_init 63 = .ok (.newarray .long, 2) := by decide +kernel
theorem dX6_init_65 : decode cX6_init 65 = .ok (.putfield 32, 3) := by decide +kernel
theorem dX6_init_68 : decode cX6_init 68 = .ok (.aload_n 0, 1) := by decide +kernel
theorem dX6_init_69 : decode cX6_init 69 = .ok (.sipush 256, 3) := by decide +kernel
theorem dX6_init_72 : decode cX6_init 72 = .ok (.newarray .long, 2) := by decide +kernel
theorem dX6_init_74 : decode cX6_init 74 = .ok (.putfield 36, 3) := by decide +kernel
theorem dX6_init_77 : decode cX6_init 77 = .ok (.aload_n 0, 1) := by decide +kernel
theorem dX6_init_78 : decode cX6_init 78 = .ok (.bipush 16, 2) := by decide +kernel
theorem dX6_init_80 : decode cX6_init 80 = .ok (.newarray .int, 2) := by decide +kernel
theorem dX6_init_82 : decode cX6_init 82 = .ok (.putfield 39, 3) := by decide +kernel
theorem dX6_init_85 : decode cX6_init 85 = .ok (.aload_n 0, 1) := by decide +kernel
theorem dX6_init_86 : decode cX6_init 86 = .ok (.ldc 42, 2) := by decide +kernel
theorem dX6_init_88 : decode cX6_init 88 = .ok (.newarray .long, 2) := by decide +kernel
theorem dX6_init_90 : decode cX6_init 90 = .ok (.putfield 43, 3) := by decide +kernel
theorem dX6_init_93 : decode cX6_init 93 = .ok (.aload_n 0, 1) := by decide +kernel
theorem dX6_init_94 : decode cX6_init 94 = .ok (.ldc 42, 2) := by decide +kernel
theorem dX6_init_96 : decode cX6_init 96 = .ok (.newarray .long, 2) := by decide +kernel
theorem dX6_init_98 : decode cX6_init 98 = .ok (.putfield 46, 3) := by decide +kernel
theorem dX6_init_101 : decode cX6_init 101 = .ok (.aload_n 0, 1) := by decide +kernel
theorem dX6_init_102 : decode cX6_init 102 = .ok (.bipush 16, 2) := by decide +kernel
theorem dX6_init_104 : decode cX6_init 104 = .ok (.newarray .int, 2) := by decide +kernel
theorem dX6_init_106 : decode cX6_init 106 = .ok (.putfield 49, 3) := by decide +kernel
theorem dX6_init_109 : decode cX6_init 109 = .ok (.aload_n 0, 1) := by decide +kernel
theorem dX6_init_110 : decode cX6_init 110 = .ok (.sipush 656, 3) := by decide +kernel
theorem dX6_init_113 : decode cX6_init 113 = .ok (.newarray .long, 2) := by decide +kernel
theorem dX6_init_115 : decode cX6_init 115 = .ok (.putfield 52, 3) := by decide +kernel
theorem dX6_init_118 : decode cX6_init 118 = .ok (.aload_n 0, 1) := by decide +kernel
theorem dX6_init_119 : decode cX6_init 119 = .ok (.bipush 16, 2) := by decide +kernel
theorem dX6_init_121 : decode cX6_init 121 = .ok (.newarray .boolean, 2) := by decide +kernel
theorem dX6_init_123 : decode cX6_init 123 = .ok (.putfield 55, 3) := by decide +kernel
theorem dX6_init_126 : decode cX6_init 126 = .ok (.aload_n 0, 1) := by decide +kernel
theorem dX6_init_127 : decode cX6_init 127 = .ok (.bipush 16, 2) := by decide +kernel
theorem dX6_init_129 : decode cX6_init 129 = .ok (.newarray .int, 2) := by decide +kernel
theorem dX6_init_131 : decode cX6_init 131 = .ok (.putfield 59, 3) := by decide +kernel
theorem dX6_init_134 : decode cX6_init 134 = .ok (.aload_n 0, 1) := by decide +kernel
theorem dX6_init_135 : decode cX6_init 135 = .ok (.bipush 41, 2) := by decide +kernel
theorem dX6_init_137 : decode cX6_init 137 = .ok (.newarray .long, 2) := by decide +kernel
theorem dX6_init_139 : decode cX6_init 139 = .ok (.putfield 62, 3) := by decide +kernel
theorem dX6_init_142 : decode cX6_init 142 = .ok (.aload_n 0, 1) := by decide +kernel
theorem dX6_init_143 : decode cX6_init 143 = .ok (.bipush 40, 2) := by decide +kernel
theorem dX6_init_145 : decode cX6_init 145 = .ok (.newarray .int, 2) := by decide +kernel
theorem dX6_init_147 : decode cX6_init 147 = .ok (.putfield 65, 3) := by decide +kernel
theorem dX6_init_150 : decode cX6_init 150 = .ok (.aload_n 0, 1) := by decide +kernel
theorem dX6_init_151 : decode cX6_init 151 = .ok (.bipush 16, 2) := by decide +kernel
theorem dX6_init_153 : decode cX6_init 153 = .ok (.newarray .int, 2) := by decide +kernel
theorem dX6_init_155 : decode cX6_init 155 = .ok (.putfield 68, 3) := by decide +kernel
theorem dX6_init_158 : decode cX6_init 158 = .ok (.return_, 1) := by decide +kernel
theorem dX6_thrown_0 : decode cX6_thrown 0 = .ok (.aload_n 0, 1) := by decide +kernel
theorem dX6_thrown_1 : decode cX6_thrown 1 = .ok (.getfield 71, 3) := by decide +kernel
theorem dX6_thrown_4 : decode cX6_thrown 4 = .ok (.ireturn, 1) := by decide +kernel
theorem dX6_throwing_0 : decode cX6_throwing 0 = .ok (.aload_n 0, 1) := by decide +kernel
theorem dX6_throwing_1 : decode cX6_throwing 1 = .ok (.iload_n 1, 1) := by decide +kernel
theorem dX6_throwing_2 : decode cX6_throwing 2 = .ok (.ifCond .eq 7, 3) := by decide +kernel
theorem dX6_throwing_5 : decode cX6_throwing 5 = .ok (.iconst 1, 1) := by decide +kernel
theorem dX6_throwing_6 : decode cX6_throwing 6 = .ok (.goto 12, 3) := by decide +kernel
theorem dX6_throwing_9 : decode cX6_throwing 9 = .ok (.iload_n 2, 1) := by decide +kernel
theorem dX6_throwing_10 : decode cX6_throwing 10 = .ok (.ifCond .eq 7, 3) := by decide +kernel
theorem dX6_throwing_13 : decode cX6_throwing 13 = .ok (.iconst 2, 1) := by decide +kernel
theorem dX6_throwing_14 : decode cX6_throwing 14 = .ok (.goto 4, 3) := by decide +kernel
theorem dX6_throwing_17 : decode cX6_throwing 17 = .ok (.iconst 0, 1) := by decide +kernel
theorem dX6_throwing_18 : decode cX6_throwing 18 = .ok (.putfield 71, 3) := by decide +kernel
theorem dX6_throwing_21 : decode cX6_throwing 21 = .ok (.aload_n 0, 1) := by decide +kernel
theorem dX6_throwing_22 : decode cX6_throwing 22 = .ok (.getfield 71, 3) := by decide +kernel
theorem dX6_throwing_25 : decode cX6_throwing 25 = .ok (.ifCond .le 7, 3) := by decide +kernel
theorem dX6_throwing_28 : decode cX6_throwing 28 = .ok (.iconst 1, 1) := by decide +kernel
theorem dX6_throwing_29 : decode cX6_throwing 29 = .ok (.goto 4, 3) := by decide +kernel
theorem dX6_throwing_32 : decode cX6_throwing 32 = .ok (.iconst 0, 1) := by decide +kernel
theorem dX6_throwing_33 : decode cX6_throwing 33 = .ok (.ireturn, 1) := by decide +kernel
theorem dX6_isVertex_0 : decode cX6_isVertex 0 = .ok (.iload_n 1, 1) := by decide +kernel
theorem dX6_isVertex_1 : decode cX6_isVertex 1 = .ok (.ifCond .lt 15, 3) := by decide +kernel
theorem dX6_isVertex_4 : decode cX6_isVertex 4 = .ok (.iload_n 1, 1) := by decide +kernel
theorem dX6_isVertex_5 : decode cX6_isVertex 5 = .ok (.aload_n 0, 1) := by decide +kernel
theorem dX6_isVertex_6 : decode cX6_isVertex 6 = .ok (.getfield 7, 3) := by decide +kernel
theorem dX6_isVertex_9 : decode cX6_isVertex 9 = .ok (.if_icmp .ge 7, 3) := by decide +kernel
theorem dX6_isVertex_12 : decode cX6_isVertex 12 = .ok (.iconst 1, 1) := by decide +kernel
theorem dX6_isVertex_13 : decode cX6_isVertex 13 = .ok (.goto 4, 3) := by decide +kernel
theorem dX6_isVertex_16 : decode cX6_isVertex 16 = .ok (.iconst 0, 1) := by decide +kernel
theorem dX6_isVertex_17 : decode cX6_isVertex 17 = .ok (.ireturn, 1) := by decide +kernel
theorem dX6_change_0 : decode cX6_change 0 = .ok (.aload_n 0, 1) := by decide +kernel
theorem dX6_change_1 : decode cX6_change 1 = .ok (.iconst 0, 1) := by decide +kernel
theorem dX6_change_2 : decode cX6_change 2 = .ok (.putfield 74, 3) := by decide +kernel
theorem dX6_change_5 : decode cX6_change 5 = .ok (.aload_n 0, 1) := by decide +kernel
theorem dX6_change_6 : decode cX6_change 6 = .ok (.iconst 0, 1) := by decide +kernel
theorem dX6_change_7 : decode cX6_change 7 = .ok (.putfield 77, 3) := by decide +kernel
theorem dX6_change_10 : decode cX6_change 10 = .ok (.return_, 1) := by decide +kernel
theorem dX6_reset_0 : decode cX6_reset 0 = .ok (.aload_n 0, 1) := by decide +kernel
theorem dX6_reset_1 : decode cX6_reset 1 = .ok (.iload_n 2, 1) := by decide +kernel
theorem dX6_reset_2 : decode cX6_reset 2 = .ok (.iconst 1, 1) := by decide +kernel
theorem dX6_reset_3 : decode cX6_reset 3 = .ok (.if_icmp .lt 9, 3) := by decide +kernel
theorem dX6_reset_6 : decode cX6_reset 6 = .ok (.iload_n 2, 1) := by decide +kernel
theorem dX6_reset_7 : decode cX6_reset 7 = .ok (.bipush 16, 2) := by decide +kernel
theorem dX6_reset_9 : decode cX6_reset 9 = .ok (.if_icmp .le 7, 3) := by decide +kernel
theorem dX6_reset_12 : decode cX6_reset 12 = .ok (.iconst 1, 1) := by decide +kernel
theorem dX6_reset_13 : decode cX6_reset 13 = .ok (.goto 4, 3) := by decide +kernel
theorem dX6_reset_16 : decode cX6_reset 16 = .ok (.iconst 0, 1) := by decide +kernel
theorem dX6_reset_17 : decode cX6_reset 17 = .ok (.iconst 0, 1) := by decide +kernel
theorem dX6_reset_18 : decode cX6_reset 18 = .ok (.invokevirtual 81, 3) := by decide +kernel
theorem dX6_reset_21 : decode cX6_reset 21 = .ok (.ifCond .eq 5, 3) := by decide +kernel
theorem dX6_reset_24 : decode cX6_reset 24 = .ok (.iconst 0, 1) := by decide +kernel
theorem dX6_reset_25 : decode cX6_reset 25 = .ok (.ireturn, 1) := by decide +kernel
theorem dX6_reset_26 : decode cX6_reset 26 = .ok (.aload_n 0, 1) := by decide +kernel
theorem dX6_reset_27 : decode cX6_reset 27 = .ok (.getfield 85, 3) := by decide +kernel
theorem dX6_reset_30 : decode cX6_reset 30 = .ok (.istore_n 3, 1) := by decide +kernel
theorem dX6_reset_31 : decode cX6_reset 31 = .ok (.aload_n 0, 1) := by decide +kernel
theorem dX6_reset_32 : decode cX6_reset 32 = .ok (.iload_n 1, 1) := by decide +kernel
theorem dX6_reset_33 : decode cX6_reset 33 = .ok (.putfield 88, 3) := by decide +kernel
theorem dX6_reset_36 : decode cX6_reset 36 = .ok (.aload_n 0, 1) := by decide +kernel
theorem dX6_reset_37 : decode cX6_reset 37 = .ok (.iload_n 2, 1) := by decide +kernel
theorem dX6_reset_38 : decode cX6_reset 38 = .ok (.putfield 7, 3) := by decide +kernel
theorem dX6_reset_41 : decode cX6_reset 41 = .ok (.aload_n 0, 1) := by decide +kernel
theorem dX6_reset_42 : decode cX6_reset 42 = .ok (.iconst 0, 1) := by decide +kernel
theorem dX6_reset_43 : decode cX6_reset 43 = .ok (.putfield 85, 3) := by decide +kernel
theorem dX6_reset_46 : decode cX6_reset 46 = .ok (.aload_n 0, 1) := by decide +kernel
theorem dX6_reset_47 : decode cX6_reset 47 = .ok (.invokevirtual 91, 3) := by decide +kernel
theorem dX6_reset_50 : decode cX6_reset 50 = .ok (.iload_n 3, 1) := by decide +kernel
theorem dX6_reset_51 : decode cX6_reset 51 = .ok (.ireturn, 1) := by decide +kernel
theorem dX6_edge_0 : decode cX6_edge 0 = .ok (.aload_n 0, 1) := by decide +kernel
theorem dX6_edge_1 : decode cX6_edge 1 = .ok (.aload_n 0, 1) := by decide +kernel
theorem dX6_edge_2 : decode cX6_edge 2 = .ok (.iload_n 1, 1) := by decide +kernel
theorem dX6_edge_3 : decode cX6_edge 3 = .ok (.invokevirtual 94, 3) := by decide +kernel
theorem dX6_edge_6 : decode cX6_edge 6 = .ok (.ifCond .eq 21, 3) := by decide +kernel
theorem dX6_edge_9 : decode cX6_edge 9 = .ok (.aload_n 0, 1) := by decide +kernel
theorem dX6_edge_10 : decode cX6_edge 10 = .ok (.iload_n 2, 1) := by decide +kernel
theorem dX6_edge_11 : decode cX6_edge 11 = .ok (.invokevirtual 94, 3) := by decide +kernel
theorem dX6_edge_14 : decode cX6_edge 14 = .ok (.ifCond .eq 13, 3) := by decide +kernel
theorem dX6_edge_17 : decode cX6_edge 17 = .ok (.iload_n 3, 1) := by decide +kernel
theorem dX6_edge_18 : decode cX6_edge 18 = .ok (.ifCond .lt 9, 3) := by decide +kernel
theorem dX6_edge_21 : decode cX6_edge 21 = .ok (.iload_n 3, 1) := by decide +kernel
theorem dX6_edge_22 : decode cX6_edge 22 = .ok (.ldc 98, 2) := by decide +kernel
theorem dX6_edge_24 : decode cX6_edge 24 = .ok (.if_icmp .le 7, 3) := by decide +kernel
theorem dX6_edge_27 : decode cX6_edge 27 = .ok (.iconst 1, 1) := by decide +kernel
theorem dX6_edge_28 : decode cX6_edge 28 = .ok (.goto 4, 3) := by decide +kernel
theorem dX6_edge_31 : decode cX6_edge 31 = .ok (.iconst 0, 1) := by decide +kernel
theorem dX6_edge_32 : decode cX6_edge 32 = .ok (.aload_n 0, 1) := by decide +kernel
theorem dX6_edge_33 : decode cX6_edge 33 = .ok (.getfield 85, 3) := by decide +kernel
theorem dX6_edge_36 : decode cX6_edge 36 = .ok (.bipush 40, 2) := by decide +kernel
theorem dX6_edge_38 : decode cX6_edge 38 = .ok (.if_icmp .ne 7, 3) := by decide +kernel
theorem dX6_edge_41 : decode cX6_edge 41 = .ok (.iconst 1, 1) := by decide +kernel
theorem dX6_edge_42 : decode cX6_edge 42 = .ok (.goto 4, 3) := by decide +kernel
theorem dX6_edge_45 : decode cX6_edge 45 = .ok (.iconst 0, 1) := by decide +kernel
theorem dX6_edge_46 : decode cX6_edge 46 = .ok (.invokevirtual 81, 3) := by decide +kernel
theorem dX6_edge_49 : decode cX6_edge 49 = .ok (.ifCond .eq 5, 3) := by decide +kernel
theorem dX6_edge_52 : decode cX6_edge 52 = .ok (.iconst 0, 1) := by decide +kernel
theorem dX6_edge_53 : decode cX6_edge 53 = .ok (.ireturn, 1) := by decide +kernel
theorem dX6_edge_54 : decode cX6_edge 54 = .ok (.aload_n 0, 1) := by decide +kernel
theorem dX6_edge_55 : decode cX6_edge 55 = .ok (.getfield 13, 3) := by decide +kernel
theorem dX6_edge_58 : decode cX6_edge 58 = .ok (.aload_n 0, 1) := by decide +kernel
theorem dX6_edge_59 : decode cX6_edge 59 = .ok (.getfield 85, 3) := by decide +kernel
theorem dX6_edge_62 : decode cX6_edge 62 = .ok (.iload_n 1, 1) := by decide +kernel
theorem dX6_edge_63 : decode cX6_edge 63 = .ok (.iastore, 1) := by decide +kernel
theorem dX6_edge_64 : decode cX6_edge 64 = .ok (.aload_n 0, 1) := by decide +kernel
theorem dX6_edge_65 : decode cX6_edge 65 = .ok (.getfield 17, 3) := by decide +kernel
theorem dX6_edge_68 : decode cX6_edge 68 = .ok (.aload_n 0, 1) := by decide +kernel
theorem dX6_edge_69 : decode cX6_edge 69 = .ok (.getfield 85, 3) := by decide +kernel
theorem dX6_edge_72 : decode cX6_edge 72 = .ok (.iload_n 2, 1) := by decide +kernel
theorem dX6_edge_73 : decode cX6_edge 73 = .ok (.iastore, 1) := by decide +kernel
theorem dX6_edge_74 : decode cX6_edge 74 = .ok (.aload_n 0, 1) := by decide +kernel
theorem dX6_edge_75 : decode cX6_edge 75 = .ok (.getfield 20, 3) := by decide +kernel
theorem dX6_edge_78 : decode cX6_edge 78 = .ok (.aload_n 0, 1) := by decide +kernel
theorem dX6_edge_79 : decode cX6_edge 79 = .ok (.getfield 85, 3) := by decide +kernel
theorem dX6_edge_82 : decode cX6_edge 82 = .ok (.iload_n 3, 1) := by decide +kernel
theorem dX6_edge_83 : decode cX6_edge 83 = .ok (.iastore, 1) := by decide +kernel
theorem dX6_edge_84 : decode cX6_edge 84 = .ok (.aload_n 0, 1) := by decide +kernel
theorem dX6_edge_85 : decode cX6_edge 85 = .ok (.dup, 1) := by decide +kernel
theorem dX6_edge_86 : decode cX6_edge 86 = .ok (.getfield 85, 3) := by decide +kernel
theorem dX6_edge_89 : decode cX6_edge 89 = .ok (.iconst 1, 1) := by decide +kernel
theorem dX6_edge_90 : decode cX6_edge 90 = .ok (.iadd, 1) := by decide +kernel
theorem dX6_edge_91 : decode cX6_edge 91 = .ok (.putfield 85, 3) := by decide +kernel
theorem dX6_edge_94 : decode cX6_edge 94 = .ok (.aload_n 0, 1) := by decide +kernel
theorem dX6_edge_95 : decode cX6_edge 95 = .ok (.invokevirtual 91, 3) := by decide +kernel
theorem dX6_edge_98 : decode cX6_edge 98 = .ok (.aload_n 0, 1) := by decide +kernel
theorem dX6_edge_99 : decode cX6_edge 99 = .ok (.getfield 85, 3) := by decide +kernel
theorem dX6_edge_102 : decode cX6_edge 102 = .ok (.iconst 1, 1) := by decide +kernel
theorem dX6_edge_103 : decode cX6_edge 103 = .ok (.isub, 1) := by decide +kernel
theorem dX6_edge_104 : decode cX6_edge 104 = .ok (.ireturn, 1) := by decide +kernel
theorem dX6_drop_0 : decode cX6_drop 0 = .ok (.aload_n 0, 1) := by decide +kernel
theorem dX6_drop_1 : decode cX6_drop 1 = .ok (.aload_n 0, 1) := by decide +kernel
theorem dX6_drop_2 : decode cX6_drop 2 = .ok (.getfield 85, 3) := by decide +kernel
theorem dX6_drop_5 : decode cX6_drop 5 = .ok (.ifCond .ne 7, 3) := by decide +kernel
theorem dX6_drop_8 : decode cX6_drop 8 = .ok (.iconst 1, 1) := by decide +kernel
theorem dX6_drop_9 : decode cX6_drop 9 = .ok (.goto 4, 3) := by decide +kernel
theorem dX6_drop_12 : decode cX6_drop 12 = .ok (.iconst 0, 1) := by decide +kernel
theorem dX6_drop_13 : decode cX6_drop 13 = .ok (.iconst 0, 1) := by decide +kernel
theorem dX6_drop_14 : decode cX6_drop 14 = .ok (.invokevirtual 81, 3) := by decide +kernel
theorem dX6_drop_17 : decode cX6_drop 17 = .ok (.ifCond .eq 5, 3) := by decide +kernel
theorem dX6_drop_20 : decode cX6_drop 20 = .ok (.iconst 0, 1) := by decide +kernel
theorem dX6_drop_21 : decode cX6_drop 21 = .ok (.ireturn, 1) := by decide +kernel
theorem dX6_drop_22 : decode cX6_drop 22 = .ok (.aload_n 0, 1) := by decide +kernel
theorem dX6_drop_23 : decode cX6_drop 23 = .ok (.dup, 1) := by decide +kernel
theorem dX6_drop_24 : decode cX6_drop 24 = .ok (.getfield 85, 3) := by decide +kernel
theorem dX6_drop_27 : decode cX6_drop 27 = .ok (.iconst 1, 1) := by decide +kernel
theorem dX6_drop_28 : decode cX6_drop 28 = .ok (.isub, 1) := by decide +kernel
theorem dX6_drop_29 : decode cX6_drop 29 = .ok (.putfield 85, 3) := by decide +kernel
theorem dX6_drop_32 : decode cX6_drop 32 = .ok (.aload_n 0, 1) := by decide +kernel
theorem dX6_drop_33 : decode cX6_drop 33 = .ok (.invokevirtual 91, 3) := by decide +kernel
theorem dX6_drop_36 : decode cX6_drop 36 = .ok (.aload_n 0, 1) := by decide +kernel
theorem dX6_drop_37 : decode cX6_drop 37 = .ok (.getfield 85, 3) := by decide +kernel
theorem dX6_drop_40 : decode cX6_drop 40 = .ok (.ireturn, 1) := by decide +kernel
theorem dX6_isLess_0 : decode cX6_isLess 0 = .ok (.lload_n 1, 1) := by decide +kernel
theorem dX6_isLess_1 : decode cX6_isLess 1 = .ok (.aload_n 0, 1) := by decide +kernel
theorem dX6_isLess_2 : decode cX6_isLess 2 = .ok (.getfield 32, 3) := by decide +kernel
theorem dX6_isLess_5 : decode cX6_isLess 5 = .ok (.iload 5, 2) := by decide +kernel
theorem dX6_isLess_7 : decode cX6_isLess 7 = .ok (.laload, 1) := by decide +kernel
theorem dX6_isLess_8 : decode cX6_isLess 8 = .ok (.lcmp, 1) := by decide +kernel
theorem dX6_isLess_9 : decode cX6_isLess 9 = .ok (.ifCond .lt 27, 3) := by decide +kernel
theorem dX6_isLess_12 : decode cX6_isLess 12 = .ok (.lload_n 1, 1) := by decide +kernel
theorem dX6_isLess_13 : decode cX6_isLess 13 = .ok (.aload_n 0, 1) := by decide +kernel
theorem dX6_isLess_14 : decode cX6_isLess 14 = .ok (.getfield 32, 3) := by decide +kernel
theorem dX6_isLess_17 : decode cX6_isLess 17 = .ok (.iload 5, 2) := by decide +kernel
theorem dX6_isLess_19 : decode cX6_isLess 19 = .ok (.laload, 1) := by decide +kernel
theorem dX6_isLess_20 : decode cX6_isLess 20 = .ok (.lcmp, 1) := by decide +kernel
theorem dX6_isLess_21 : decode cX6_isLess 21 = .ok (.ifCond .ne 19, 3) := by decide +kernel
theorem dX6_isLess_24 : decode cX6_isLess 24 = .ok (.lload_n 3, 1) := by decide +kernel
theorem dX6_isLess_25 : decode cX6_isLess 25 = .ok (.aload_n 0, 1) := by decide +kernel
theorem dX6_isLess_26 : decode cX6_isLess 26 = .ok (.getfield 36, 3) := by decide +kernel
theorem dX6_isLess_29 : decode cX6_isLess 29 = .ok (.iload 5, 2) := by decide +kernel
theorem dX6_isLess_31 : decode cX6_isLess 31 = .ok (.laload, 1) := by decide +kernel
theorem dX6_isLess_32 : decode cX6_isLess 32 = .ok (.lcmp, 1) := by decide +kernel
theorem dX6_isLess_33 : decode cX6_isLess 33 = .ok (.ifCond .ge 7, 3) := by decide +kernel
theorem dX6_isLess_36 : decode cX6_isLess 36 = .ok (.iconst 1, 1) := by decide +kernel
theorem dX6_isLess_37 : decode cX6_isLess 37 = .ok (.goto 4, 3) := by decide +kernel
theorem dX6_isLess_40 : decode cX6_isLess 40 = .ok (.iconst 0, 1) := by decide +kernel
theorem dX6_isLess_41 : decode cX6_isLess 41 = .ok (.ireturn, 1) := by decide +kernel
theorem dX6_way_0 : decode cX6_way 0 = .ok (.aload_n 0, 1) := by decide +kernel
theorem dX6_way_1 : decode cX6_way 1 = .ok (.lload_n 2, 1) := by decide +kernel
theorem dX6_way_2 : decode cX6_way 2 = .ok (.lload 4, 2) := by decide +kernel
theorem dX6_way_4 : decode cX6_way 4 = .ok (.iload_n 1, 1) := by decide +kernel
theorem dX6_way_5 : decode cX6_way 5 = .ok (.invokevirtual 99, 3) := by decide +kernel
theorem dX6_way_8 : decode cX6_way 8 = .ok (.ifCond .ne 4, 3) := by decide +kernel
theorem dX6_way_11 : decode cX6_way 11 = .ok (.return_, 1) := by decide +kernel
theorem dX6_way_12 : decode cX6_way 12 = .ok (.aload_n 0, 1) := by decide +kernel
theorem dX6_way_13 : decode cX6_way 13 = .ok (.getfield 32, 3) := by decide +kernel
theorem dX6_way_16 : decode cX6_way 16 = .ok (.iload_n 1, 1) := by decide +kernel
theorem dX6_way_17 : decode cX6_way 17 = .ok (.lload_n 2, 1) := by decide +kernel
theorem dX6_way_18 : decode cX6_way 18 = .ok (.lastore, 1) := by decide +kernel
theorem dX6_way_19 : decode cX6_way 19 = .ok (.aload_n 0, 1) := by decide +kernel
theorem dX6_way_20 : decode cX6_way 20 = .ok (.getfield 36, 3) := by decide +kernel
theorem dX6_way_23 : decode cX6_way 23 = .ok (.iload_n 1, 1) := by decide +kernel
theorem dX6_way_24 : decode cX6_way 24 = .ok (.lload 4, 2) := by decide +kernel
theorem dX6_way_26 : decode cX6_way 26 = .ok (.lastore, 1) := by decide +kernel
theorem dX6_way_27 : decode cX6_way 27 = .ok (.return_, 1) := by decide +kernel
theorem dX6_measure_0 : decode cX6_measure 0 = .ok (.iconst 0, 1) := by decide +kernel
theorem dX6_measure_1 : decode cX6_measure 1 = .ok (.istore_n 1, 1) := by decide +kernel
theorem dX6_measure_2 : decode cX6_measure 2 = .ok (.iload_n 1, 1) := by decide +kernel
theorem dX6_measure_3 : decode cX6_measure 3 = .ok (.sipush 256, 3) := by decide +kernel
theorem dX6_measure_6 : decode cX6_measure 6 = .ok (.if_icmp .ge 40, 3) := by decide +kernel
theorem dX6_measure_9 : decode cX6_measure 9 = .ok (.aload_n 0, 1) := by decide +kernel
theorem dX6_measure_10 : decode cX6_measure 10 = .ok (.getfield 32, 3) := by decide +kernel
theorem dX6_measure_13 : decode cX6_measure 13 = .ok (.iload_n 1, 1) := by decide +kernel
theorem dX6_measure_14 : decode cX6_measure 14 = .ok (.iload_n 1, 1) := by decide +kernel
theorem dX6_measure_15 : decode cX6_measure 15 = .ok (.bipush 16, 2) := by decide +kernel
theorem dX6_measure_17 : decode cX6_measure 17 = .ok (.idiv, 1) := by decide +kernel
theorem dX6_measure_18 : decode cX6_measure 18 = .ok (.iload_n 1, 1) := by decide +kernel
theorem dX6_measure_19 : decode cX6_measure 19 = .ok (.bipush 16, 2) := by decide +kernel
theorem dX6_measure_21 : decode cX6_measure 21 = .ok (.irem, 1) := by decide +kernel
theorem dX6_measure_22 : decode cX6_measure 22 = .ok (.if_icmp .ne 7, 3) := by decide +kernel
theorem dX6_measure_25 : decode cX6_measure 25 = .ok (.lconst 0, 1) := by decide +kernel
theorem dX6_measure_26 : decode cX6_measure 26 = .ok (.goto 6, 3) := by decide +kernel
theorem dX6_measure_29 : decode cX6_measure 29 = .ok (.ldc2_w 103, 3) := by decide +kernel
theorem dX6_measure_32 : decode cX6_measure 32 = .ok (.lastore, 1) := by decide +kernel
theorem dX6_measure_33 : decode cX6_measure 33 = .ok (.aload_n 0, 1) := by decide +kernel
theorem dX6_measure_34 : decode cX6_measure 34 = .ok (.getfield 36, 3) := by decide +kernel
theorem dX6_measure_37 : decode cX6_measure 37 = .ok (.iload_n 1, 1) := by decide +kernel
theorem dX6_measure_38 : decode cX6_measure 38 = .ok (.lconst 0, 1) := by decide +kernel
theorem dX6_measure_39 : decode cX6_measure 39 = .ok (.lastore, 1) := by decide +kernel
theorem dX6_measure_40 : decode cX6_measure 40 = .ok (.iinc 1 1, 3) := by decide +kernel
theorem dX6_measure_43 : decode cX6_measure 43 = .ok (.goto (-41), 3) := by decide +kernel
theorem dX6_measure_46 : decode cX6_measure 46 = .ok (.iconst 0, 1) := by decide +kernel
theorem dX6_measure_47 : decode cX6_measure 47 = .ok (.istore_n 1, 1) := by decide +kernel
theorem dX6_measure_48 : decode cX6_measure 48 = .ok (.iload_n 1, 1) := by decide +kernel
theorem dX6_measure_49 : decode cX6_measure 49 = .ok (.aload_n 0, 1) := by decide +kernel
theorem dX6_measure_50 : decode cX6_measure 50 = .ok (.getfield 85, 3) := by decide +kernel
theorem dX6_measure_53 : decode cX6_measure 53 = .ok (.if_icmp .ge 82, 3) := by decide +kernel
theorem dX6_measure_56 : decode cX6_measure 56 = .ok (.aload_n 0, 1) := by decide +kernel
theorem dX6_measure_57 : decode cX6_measure 57 = .ok (.bipush 16, 2) := by decide +kernel
theorem dX6_measure_59 : decode cX6_measure 59 = .ok (.aload_n 0, 1) := by decide +kernel
theorem dX6_measure_60 : decode cX6_measure 60 = .ok (.getfield 13, 3) := by decide +kernel
theorem dX6_measure_63 : decode cX6_measure 63 = .ok (.iload_n 1, 1) := by decide +kernel
theorem dX6_measure_64 : decode cX6_measure 64 = .ok (.iaload, 1) := by decide +kernel
theorem dX6_measure_65 : decode cX6_measure 65 = .ok (.imul, 1) := by decide +kernel
theorem dX6_measure_66 : decode cX6_measure 66 = .ok (.aload_n 0, 1) := by decide +kernel
theorem dX6_measure_67 : decode cX6_measure 67 = .ok (.getfield 17, 3) := by decide +kernel
theorem dX6_measure_70 : decode cX6_measure 70 = .ok (.iload_n 1, 1) := by decide +kernel
theorem dX6_measure_71 : decode cX6_measure 71 = .ok (.iaload, 1) := by decide +kernel
theorem dX6_measure_72 : decode cX6_measure 72 = .ok (.iadd, 1) := by decide +kernel
theorem dX6_measure_73 : decode cX6_measure 73 = .ok (.aload_n 0, 1) := by decide +kernel
theorem dX6_measure_74 : decode cX6_measure 74 = .ok (.getfield 20, 3) := by decide +kernel
theorem dX6_measure_77 : decode cX6_measure 77 = .ok (.iload_n 1, 1) := by decide +kernel
theorem dX6_measure_78 : decode cX6_measure 78 = .ok (.iaload, 1) := by decide +kernel
theorem dX6_measure_79 : decode cX6_measure 79 = .ok (.i2l, 1) := by decide +kernel
theorem dX6_measure_80 : decode cX6_measure 80 = .ok (.lconst 1, 1) := by decide +kernel
theorem dX6_measure_81 : decode cX6_measure 81 = .ok (.bipush 39, 2) := by decide +kernel
theorem dX6_measure_83 : decode cX6_measure 83 = .ok (.iload_n 1, 1) := by decide +kernel
theorem dX6_measure_84 : decode cX6_measure 84 = .ok (.isub, 1) := by decide +kernel
theorem dX6_measure_85 : decode cX6_measure 85 = .ok (.lshl, 1) := by decide +kernel
theorem dX6_measure_86 : decode cX6_measure 86 = .ok (.invokevirtual 105, 3) := by decide +kernel
theorem dX6_measure_89 : decode cX6_measure 89 = .ok (.aload_n 0, 1) := by decide +kernel
theorem dX6_measure_90 : decode cX6_measure 90 = .ok (.getfield 88, 3) := by decide +kernel
theorem dX6_measure_93 : decode cX6_measure 93 = .ok (.ifCond .ne 36, 3) := by decide +kernel
theorem dX6_measure_96 : decode cX6_measure 96 = .ok (.aload_n 0, 1) := by decide +kernel
theorem dX6_measure_97 : decode cX6_measure 97 = .ok (.bipush 16, 2) := by decide +kernel
theorem dX6_measure_99 : decode cX6_measure 99 = .ok (.aload_n 0, 1) := by decide +kernel
theorem dX6_measure_100 : decode cX6_measure 100 = .ok (.getfield 17, 3) := by decide +kernel
theorem dX6_measure_103 : decode cX6_measure 103 = .ok (.iload_n 1, 1) := by decide +kernel
theorem dX6_measure_104 : decode cX6_measure 104 = .ok (.iaload, 1) := by decide +kernel
theorem dX6_measure_105 : decode cX6_measure 105 = .ok (.imul, 1) := by decide +kernel
theorem dX6_measure_106 : decode cX6_measure 106 = .ok (.aload_n 0, 1) := by decide +kernel
theorem dX6_measure_107 : decode cX6_measure 107 = .ok (.getfield 13, 3) := by decide +kernel
theorem dX6_measure_110 : decode cX6_measure 110 = .ok (.iload_n 1, 1) := by decide +kernel
theorem dX6_measure_111 : decode cX6_measure 111 = .ok (.iaload, 1) := by decide +kernel
theorem dX6_measure_112 : decode cX6_measure 112 = .ok (.iadd, 1) := by decide +kernel
theorem dX6_measure_113 : decode cX6_measure 113 = .ok (.aload_n 0, 1) := by decide +kernel
theorem dX6_measure_114 : decode cX6_measure 114 = .ok (.getfield 20, 3) := by decide +kernel
theorem dX6_measure_117 : decode cX6_measure 117 = .ok (.iload_n 1, 1) := by decide +kernel
theorem dX6_measure_118 : decode cX6_measure 118 = .ok (.iaload, 1) := by decide +kernel
theorem dX6_measure_119 : decode cX6_measure 119 = .ok (.i2l, 1) := by decide +kernel
theorem dX6_measure_120 : decode cX6_measure 120 = .ok (.lconst 1, 1) := by decide +kernel
theorem dX6_measure_121 : decode cX6_measure 121 = .ok (.bipush 39, 2) := by decide +kernel
theorem dX6_measure_123 : decode cX6_measure 123 = .ok (.iload_n 1, 1) := by decide +kernel
theorem dX6_measure_124 : decode cX6_measure 124 = .ok (.isub, 1) := by decide +kernel
theorem dX6_measure_125 : decode cX6_measure 125 = .ok (.lshl, 1) := by decide +kernel
theorem dX6_measure_126 : decode cX6_measure 126 = .ok (.invokevirtual 105, 3) := by decide +kernel
theorem dX6_measure_129 : decode cX6_measure 129 = .ok (.iinc 1 1, 3) := by decide +kernel
theorem dX6_measure_132 : decode cX6_measure 132 = .ok (.goto (-84), 3) := by decide +kernel
theorem dX6_measure_135 : decode cX6_measure 135 = .ok (.iconst 0, 1) := by decide +kernel
theorem dX6_measure_136 : decode cX6_measure 136 = .ok (.istore_n 1, 1) := by decide +kernel
theorem dX6_measure_137 : decode cX6_measure 137 = .ok (.iload_n 1, 1) := by decide +kernel
theorem dX6_measure_138 : decode cX6_measure 138 = .ok (.aload_n 0, 1) := by decide +kernel
theorem dX6_measure_139 : decode cX6_measure 139 = .ok (.getfield 7, 3) := by decide +kernel
theorem dX6_measure_142 : decode cX6_measure 142 = .ok (.if_icmp .ge 109, 3) := by decide +kernel
theorem dX6_measure_145 : decode cX6_measure 145 = .ok (.iconst 0, 1) := by decide +kernel
theorem dX6_measure_146 : decode cX6_measure 146 = .ok (.istore_n 2, 1) := by decide +kernel
theorem dX6_measure_147 : decode cX6_measure 147 = .ok (.iload_n 2, 1) := by decide +kernel
theorem dX6_measure_148 : decode cX6_measure 148 = .ok (.bipush 16, 2) := by decide +kernel
theorem dX6_measure_150 : decode cX6_measure 150 = .ok (.aload_n 0, 1) := by decide +kernel
theorem dX6_measure_151 : decode cX6_measure 151 = .ok (.getfield 7, 3) := by decide +kernel
theorem dX6_measure_154 : decode cX6_measure 154 = .ok (.imul, 1) := by decide +kernel
theorem dX6_measure_155 : decode cX6_measure 155 = .ok (.if_icmp .ge 90, 3) := by decide +kernel
theorem dX6_measure_158 : decode cX6_measure 158 = .ok (.bipush 16, 2) := by decide +kernel
theorem dX6_measure_160 : decode cX6_measure 160 = .ok (.iload_n 2, 1) := by decide +kernel
theorem dX6_measure_161 : decode cX6_measure 161 = .ok (.bipush 16, 2) := by decide +kernel
theorem dX6_measure_163 : decode cX6_measure 163 = .ok (.idiv, 1) := by decide +kernel
theorem dX6_measure_164 : decode cX6_measure 164 = .ok (.imul, 1) := by decide +kernel
theorem dX6_measure_165 : decode cX6_measure 165 = .ok (.iload_n 1, 1) := by decide +kernel
theorem dX6_measure_166 : decode cX6_measure 166 = .ok (.iadd, 1) := by decide +kernel
theorem dX6_measure_167 : decode cX6_measure 167 = .ok (.istore_n 3, 1) := by decide +kernel
theorem dX6_measure_168 : decode cX6_measure 168 = .ok (.bipush 16, 2) := by decide +kernel
theorem dX6_measure_170 : decode cX6_measure 170 = .ok (.iload_n 1, 1) := by decide +kernel
theorem dX6_measure_171 : decode cX6_measure 171 = .ok (.imul, 1) := by decide +kernel
theorem dX6_measure_172 : decode cX6_measure 172 = .ok (.iload_n 2, 1) := by decide +kernel
theorem dX6_measure_173 : decode cX6_measure 173 = .ok (.bipush 16, 2) := by decide +kernel
theorem dX6_measure_175 : decode cX6_measure 175 = .ok (.irem, 1) := by decide +kernel
theorem dX6_measure_176 : decode cX6_measure 176 = .ok (.iadd, 1) := by decide +kernel
theorem dX6_measure_177 : decode cX6_measure 177 = .ok (.istore 4, 2) := by decide +kernel
theorem dX6_measure_179 : decode cX6_measure 179 = .ok (.aload_n 0, 1) := by decide +kernel
theorem dX6_measure_180 : decode cX6_measure 180 = .ok (.getfield 32, 3) := by decide +kernel
theorem dX6_measure_183 : decode cX6_measure 183 = .ok (.iload_n 3, 1) := by decide +kernel
theorem dX6_measure_184 : decode cX6_measure 184 = .ok (.laload, 1) := by decide +kernel
theorem dX6_measure_185 : decode cX6_measure 185 = .ok (.ldc2_w 103, 3) := by decide +kernel
theorem dX6_measure_188 : decode cX6_measure 188 = .ok (.lcmp, 1) := by decide +kernel
theorem dX6_measure_189 : decode cX6_measure 189 = .ok (.ifCond .ge 50, 3) := by decide +kernel
theorem dX6_measure_192 : decode cX6_measure 192 = .ok (.aload_n 0, 1) := by decide +kernel
theorem dX6_measure_193 : decode cX6_measure 193 = .ok (.getfield 32, 3) := by decide +kernel
theorem dX6_measure_196 : decode cX6_measure 196 = .ok (.iload 4, 2) := by decide +kernel
theorem dX6_measure_198 : decode cX6_measure 198 = .ok (.laload, 1) := by decide +kernel
theorem dX6_measure_199 : decode cX6_measure 199 = .ok (.ldc2_w 103, 3) := by decide +kernel
theorem dX6_measure_202 : decode cX6_measure 202 = .ok (.lcmp, 1) := by decide +kernel
theorem dX6_measure_203 : decode cX6_measure 203 = .ok (.ifCond .ge 36, 3) := by decide +kernel
theorem dX6_measure_206 : decode cX6_measure 206 = .ok (.aload_n 0, 1) := by decide +kernel
theorem dX6_measure_207 : decode cX6_measure 207 = .ok (.iload_n 2, 1) := by decide +kernel
theorem dX6_measure_208 : decode cX6_measure 208 = .ok (.aload_n 0, 1) := by decide +kernel
theorem dX6_measure_209 : decode cX6_measure 209 = .ok (.getfield 32, 3) := by decide +kernel
theorem dX6_measure_212 : decode cX6_measure 212 = .ok (.iload_n 3, 1) := by decide +kernel
theorem dX6_measure_213 : decode cX6_measure 213 = .ok (.laload, 1) := by decide +kernel
theorem dX6_measure_214 : decode cX6_measure 214 = .ok (.aload_n 0, 1) := by decide +kernel
theorem dX6_measure_215 : decode cX6_measure 215 = .ok (.getfield 32, 3) := by decide +kernel
theorem dX6_measure_218 : decode cX6_measure 218 = .ok (.iload 4, 2) := by decide +kernel
theorem dX6_measure_220 : decode cX6_measure 220 = .ok (.laload, 1) := by decide +kernel
theorem dX6_measure_221 : decode cX6_measure 221 = .ok (.ladd, 1) := by decide +kernel
theorem dX6_measure_222 : decode cX6_measure 222 = .ok (.aload_n 0, 1) := by decide +kernel
theorem dX6_measure_223 : decode cX6_measure 223 = .ok (.getfield 36, 3) := by decide +kernel
theorem dX6_measure_226 : decode cX6_measure 226 = .ok (.iload_n 3, 1) := by decide +kernel
theorem dX6_measure_227 : decode cX6_measure 227 = .ok (.laload, 1) := by decide +kernel
theorem dX6_measure_228 : decode cX6_measure 228 = .ok (.aload_n 0, 1) := by decide +kernel
theorem dX6_measure_229 : decode cX6_measure 229 = .ok (.getfield 36, 3) := by decide +kernel
theorem dX6_measure_232 : decode cX6_measure 232 = .ok (.iload 4, 2) := by decide +kernel
theorem dX6_measure_234 : decode cX6_measure 234 = .ok (.laload, 1) := by decide +kernel
theorem dX6_measure_235 : decode cX6_measure 235 = .ok (.ladd, 1) := by decide +kernel
theorem dX6_measure_236 : decode cX6_measure 236 = .ok (.invokevirtual 105, 3) := by decide +kernel
theorem dX6_measure_239 : decode cX6_measure 239 = .ok (.iinc 2 1, 3) := by decide +kernel
theorem dX6_measure_242 : decode cX6_measure 242 = .ok (.goto (-95), 3) := by decide +kernel
theorem dX6_measure_245 : decode cX6_measure 245 = .ok (.iinc 1 1, 3) := by decide +kernel
theorem dX6_measure_248 : decode cX6_measure 248 = .ok (.goto (-111), 3) := by decide +kernel
theorem dX6_measure_251 : decode cX6_measure 251 = .ok (.return_, 1) := by decide +kernel
theorem dX6_distance_0 : decode cX6_distance 0 = .ok (.aload_n 0, 1) := by decide +kernel
theorem dX6_distance_1 : decode cX6_distance 1 = .ok (.aload_n 0, 1) := by decide +kernel
theorem dX6_distance_2 : decode cX6_distance 2 = .ok (.iload_n 1, 1) := by decide +kernel
theorem dX6_distance_3 : decode cX6_distance 3 = .ok (.invokevirtual 94, 3) := by decide +kernel
theorem dX6_distance_6 : decode cX6_distance 6 = .ok (.ifCond .eq 11, 3) := by decide +kernel
theorem dX6_distance_9 : decode cX6_distance 9 = .ok (.aload_n 0, 1) := by decide +kernel
theorem dX6_distance_10 : decode cX6_distance 10 = .ok (.iload_n 2, 1) := by decide +kernel
theorem dX6_distance_11 : decode cX6_distance 11 = .ok (.invokevirtual 94, 3) := by decide +kernel
theorem dX6_distance_14 : decode cX6_distance 14 = .ok (.ifCond .ne 7, 3) := by decide +kernel
theorem dX6_distance_17 : decode cX6_distance 17 = .ok (.iconst 1, 1) := by decide +kernel
theorem dX6_distance_18 : decode cX6_distance 18 = .ok (.goto 4, 3) := by decide +kernel
theorem dX6_distance_21 : decode cX6_distance 21 = .ok (.iconst 0, 1) := by decide +kernel
theorem dX6_distance_22 : decode cX6_distance 22 = .ok (.iconst 0, 1) := by decide +kernel
theorem dX6_distance_23 : decode cX6_distance 23 = .ok (.invokevirtual 81, 3) := by decide +kernel
theorem dX6_distance_26 : decode cX6_distance 26 = .ok (.ifCond .eq 5, 3) := by decide +kernel
theorem dX6_distance_29 : decode cX6_distance 29 = .ok (.lconst 0, 1) := by decide +kernel
theorem dX6_distance_30 : decode cX6_distance 30 = .ok (.lreturn, 1) := by decide +kernel
theorem dX6_distance_31 : decode cX6_distance 31 = .ok (.aload_n 0, 1) := by decide +kernel
theorem dX6_distance_32 : decode cX6_distance 32 = .ok (.invokevirtual 109, 3) := by decide +kernel
theorem dX6_distance_35 : decode cX6_distance 35 = .ok (.aload_n 0, 1) := by decide +kernel
theorem dX6_distance_36 : decode cX6_distance 36 = .ok (.getfield 32, 3) := by decide +kernel
theorem dX6_distance_39 : decode cX6_distance 39 = .ok (.bipush 16, 2) := by decide +kernel
theorem dX6_distance_41 : decode cX6_distance 41 = .ok (.iload_n 1, 1) := by decide +kernel
theorem dX6_distance_42 : decode cX6_distance 42 = .ok (.imul, 1) := by decide +kernel
theorem dX6_distance_43 : decode cX6_distance 43 = .ok (.iload_n 2, 1) := by decide +kernel
theorem dX6_distance_44 : decode cX6_distance 44 = .ok (.iadd, 1) := by decide +kernel
theorem dX6_distance_45 : decode cX6_distance 45 = .ok (.laload, 1) := by decide +kernel
theorem dX6_distance_46 : decode cX6_distance 46 = .ok (.ldc2_w 103, 3) := by decide +kernel
theorem dX6_distance_49 : decode cX6_distance 49 = .ok (.lcmp, 1) := by decide +kernel
theorem dX6_distance_50 : decode cX6_distance 50 = .ok (.ifCond .ge 17, 3) := by decide +kernel
theorem dX6_distance_53 : decode cX6_distance 53 = .ok (.aload_n 0, 1) := by decide +kernel
theorem dX6_distance_54 : decode cX6_distance 54 = .ok (.getfield 32, 3) := by decide +kernel
theorem dX6_distance_57 : decode cX6_distance 57 = .ok (.bipush 16, 2) := by decide +kernel
theorem dX6_distance_59 : decode cX6_distance 59 = .ok (.iload_n 1, 1) := by decide +kernel
theorem dX6_distance_60 : decode cX6_distance 60 = .ok (.imul, 1) := by decide +kernel
theorem dX6_distance_61 : decode cX6_distance 61 = .ok (.iload_n 2, 1) := by decide +kernel
theorem dX6_distance_62 : decode cX6_distance 62 = .ok (.iadd, 1) := by decide +kernel
theorem dX6_distance_63 : decode cX6_distance 63 = .ok (.laload, 1) := by decide +kernel
theorem dX6_distance_64 : decode cX6_distance 64 = .ok (.goto 6, 3) := by decide +kernel
theorem dX6_distance_67 : decode cX6_distance 67 = .ok (.ldc2_w 112, 3) := by decide +kernel
theorem dX6_distance_70 : decode cX6_distance 70 = .ok (.lreturn, 1) := by decide +kernel
theorem dX6_hasEdge_0 : decode cX6_hasEdge 0 = .ok (.iconst 0, 1) := by decide +kernel
theorem dX6_hasEdge_1 : decode cX6_hasEdge 1 = .ok (.istore_n 2, 1) := by decide +kernel
theorem dX6_hasEdge_2 : decode cX6_hasEdge 2 = .ok (.iconst 0, 1) := by decide +kernel
theorem dX6_hasEdge_3 : decode cX6_hasEdge 3 = .ok (.istore_n 3, 1) := by decide +kernel
theorem dX6_hasEdge_4 : decode cX6_hasEdge 4 = .ok (.iload_n 3, 1) := by decide +kernel
theorem dX6_hasEdge_5 : decode cX6_hasEdge 5 = .ok (.aload_n 0, 1) := by decide +kernel
theorem dX6_hasEdge_6 : decode cX6_hasEdge 6 = .ok (.getfield 85, 3) := by decide +kernel
theorem dX6_hasEdge_9 : decode cX6_hasEdge 9 = .ok (.if_icmp .ge 39, 3) := by decide +kernel
theorem dX6_hasEdge_12 : decode cX6_hasEdge 12 = .ok (.iload_n 2, 1) := by decide +kernel
theorem dX6_hasEdge_13 : decode cX6_hasEdge 13 = .ok (.ifCond .ne 23, 3) := by decide +kernel
theorem dX6_hasEdge_16 : decode cX6_hasEdge 16 = .ok (.aload_n 0, 1) := by decide +kernel
theorem dX6_hasEdge_17 : decode cX6_hasEdge 17 = .ok (.getfield 13, 3) := by decide +kernel
theorem dX6_hasEdge_20 : decode cX6_hasEdge 20 = .ok (.iload_n 3, 1) := by decide +kernel
theorem dX6_hasEdge_21 : decode cX6_hasEdge 21 = .ok (.iaload, 1) := by decide +kernel
theorem dX6_hasEdge_22 : decode cX6_hasEdge 22 = .ok (.iload_n 1, 1) := by decide +kernel
theorem dX6_hasEdge_23 : decode cX6_hasEdge 23 = .ok (.if_icmp .eq 13, 3) := by decide +kernel
theorem dX6_hasEdge_26 : decode cX6_hasEdge 26 = .ok (.aload_n 0, 1) := by decide +kernel
theorem dX6_hasEdge_27 : decode cX6_hasEdge 27 = .ok (.getfield 17, 3) := by decide +kernel
theorem dX6_hasEdge_30 : decode cX6_hasEdge 30 = .ok (.iload_n 3, 1) := by decide +kernel
theorem dX6_hasEdge_31 : decode cX6_hasEdge 31 = .ok (.iaload, 1) := by decide +kernel
theorem dX6_hasEdge_32 : decode cX6_hasEdge 32 = .ok (.iload_n 1, 1) := by decide +kernel
theorem dX6_hasEdge_33 : decode cX6_hasEdge 33 = .ok (.if_icmp .ne 7, 3) := by decide +kernel
theorem dX6_hasEdge_36 : decode cX6_hasEdge 36 = .ok (.iconst 1, 1) := by decide +kernel
theorem dX6_hasEdge_37 : decode cX6_hasEdge 37 = .ok (.goto 4, 3) := by decide +kernel
theorem dX6_hasEdge_40 : decode cX6_hasEdge 40 = .ok (.iconst 0, 1) := by decide +kernel
theorem dX6_hasEdge_41 : decode cX6_hasEdge 41 = .ok (.istore_n 2, 1) := by decide +kernel
theorem dX6_hasEdge_42 : decode cX6_hasEdge 42 = .ok (.iinc 3 1, 3) := by decide +kernel
theorem dX6_hasEdge_45 : decode cX6_hasEdge 45 = .ok (.goto (-41), 3) := by decide +kernel
theorem dX6_hasEdge_48 : decode cX6_hasEdge 48 = .ok (.iload_n 2, 1) := by decide +kernel
theorem dX6_hasEdge_49 : decode cX6_hasEdge 49 = .ok (.ireturn, 1) := by decide +kernel
theorem dX6_groups_0 : decode cX6_groups 0 = .ok (.iconst 0, 1) := by decide +kernel
theorem dX6_groups_1 : decode cX6_groups 1 = .ok (.istore_n 1, 1) := by decide +kernel
theorem dX6_groups_2 : decode cX6_groups 2 = .ok (.iload_n 1, 1) := by decide +kernel
theorem dX6_groups_3 : decode cX6_groups 3 = .ok (.bipush 16, 2) := by decide +kernel
theorem dX6_groups_5 : decode cX6_groups 5 = .ok (.if_icmp .ge 16, 3) := by decide +kernel
theorem dX6_groups_8 : decode cX6_groups 8 = .ok (.aload_n 0, 1) := by decide +kernel
theorem dX6_groups_9 : decode cX6_groups 9 = .ok (.getfield 68, 3) := by decide +kernel
theorem dX6_groups_12 : decode cX6_groups 12 = .ok (.iload_n 1, 1) := by decide +kernel
theorem dX6_groups_13 : decode cX6_groups 13 = .ok (.iload_n 1, 1) := by decide +kernel
theorem dX6_groups_14 : decode cX6_groups 14 = .ok (.iastore, 1) := by decide +kernel
theorem dX6_groups_15 : decode cX6_groups 15 = .ok (.iinc 1 1, 3) := by decide +kernel
theorem dX6_groups_18 : decode cX6_groups 18 = .ok (.goto (-16), 3) := by decide +kernel
theorem dX6_groups_21 : decode cX6_groups 21 = .ok (.iconst 1, 1) := by decide +kernel
theorem dX6_groups_22 : decode cX6_groups 22 = .ok (.istore_n 1, 1) := by decide +kernel
theorem dX6_groups_23 : decode cX6_groups 23 = .ok (.iload_n 1, 1) := by decide +kernel
theorem dX6_groups_24 : decode cX6_groups 24 = .ok (.ifCond .eq 115, 3) := by decide +kernel
theorem dX6_groups_27 : decode cX6_groups 27 = .ok (.iconst 0, 1) := by decide +kernel
theorem dX6_groups_28 : decode cX6_groups 28 = .ok (.istore_n 1, 1) := by decide +kernel
theorem dX6_groups_29 : decode cX6_groups 29 = .ok (.iconst 0, 1) := by decide +kernel
theorem dX6_groups_30 : decode cX6_groups 30 = .ok (.istore_n 2, 1) := by decide +kernel
theorem dX6_groups_31 : decode cX6_groups 31 = .ok (.iload_n 2, 1) := by decide +kernel
theorem dX6_groups_32 : decode cX6_groups 32 = .ok (.aload_n 0, 1) := by decide +kernel
theorem dX6_groups_33 : decode cX6_groups 33 = .ok (.getfield 85, 3) := by decide +kernel
theorem dX6_groups_36 : decode cX6_groups 36 = .ok (.if_icmp .ge 100, 3) := by decide +kernel
theorem dX6_groups_39 : decode cX6_groups 39 = .ok (.aload_n 0, 1) := by decide +kernel
theorem dX6_groups_40 : decode cX6_groups 40 = .ok (.getfield 68, 3) := by decide +kernel
theorem dX6_groups_43 : decode cX6_groups 43 = .ok (.aload_n 0, 1) := by decide +kernel
theorem dX6_groups_44 : decode cX6_groups 44 = .ok (.getfield 13, 3) := by decide +kernel
theorem dX6_groups_47 : decode cX6_groups 47 = .ok (.iload_n 2, 1) := by decide +kernel
theorem dX6_groups_48 : decode cX6_groups 48 = .ok (.iaload, 1) := by decide +kernel
theorem dX6_groups_49 : decode cX6_groups 49 = .ok (.iaload, 1) := by decide +kernel
theorem dX6_groups_50 : decode cX6_groups 50 = .ok (.istore_n 3, 1) := by decide +kernel
theorem dX6_groups_51 : decode cX6_groups 51 = .ok (.aload_n 0, 1) := by decide +kernel
theorem dX6_groups_52 : decode cX6_groups 52 = .ok (.getfield 68, 3) := by decide +kernel
theorem dX6_groups_55 : decode cX6_groups 55 = .ok (.aload_n 0, 1) := by decide +kernel
theorem dX6_groups_56 : decode cX6_groups 56 = .ok (.getfield 17, 3) := by decide +kernel
theorem dX6_groups_59 : decode cX6_groups 59 = .ok (.iload_n 2, 1) := by decide +kernel
theorem dX6_groups_60 : decode cX6_groups 60 = .ok (.iaload, 1) := by decide +kernel
theorem dX6_groups_61 : decode cX6_groups 61 = .ok (.iaload, 1) := by decide +kernel
theorem dX6_groups_62 : decode cX6_groups 62 = .ok (.istore 4, 2) := by decide +kernel
theorem dX6_groups_64 : decode cX6_groups 64 = .ok (.aload_n 0, 1) := by decide +kernel
theorem dX6_groups_65 : decode cX6_groups 65 = .ok (.getfield 65, 3) := by decide +kernel
theorem dX6_groups_68 : decode cX6_groups 68 = .ok (.iload_n 2, 1) := by decide +kernel
theorem dX6_groups_69 : decode cX6_groups 69 = .ok (.iaload, 1) := by decide +kernel
theorem dX6_groups_70 : decode cX6_groups 70 = .ok (.ifCond .eq 60, 3) := by decide +kernel
theorem dX6_groups_73 : decode cX6_groups 73 = .ok (.iload_n 3, 1) := by decide +kernel
theorem dX6_groups_74 : decode cX6_groups 74 = .ok (.iload 4, 2) := by decide +kernel
theorem dX6_groups_76 : decode cX6_groups 76 = .ok (.if_icmp .ne 6, 3) := by decide +kernel
theorem dX6_groups_79 : decode cX6_groups 79 = .ok (.goto 51, 3) := by decide +kernel
theorem dX6_groups_82 : decode cX6_groups 82 = .ok (.iconst 1, 1) := by decide +kernel
theorem dX6_groups_83 : decode cX6_groups 83 = .ok (.istore_n 1, 1) := by decide +kernel
theorem dX6_groups_84 : decode cX6_groups 84 = .ok (.aload_n 0, 1) := by decide +kernel
theorem dX6_groups_85 : decode cX6_groups 85 = .ok (.getfield 68, 3) := by decide +kernel
theorem dX6_groups_88 : decode cX6_groups 88 = .ok (.aload_n 0, 1) := by decide +kernel
theorem dX6_groups_89 : decode cX6_groups 89 = .ok (.getfield 13, 3) := by decide +kernel
theorem dX6_groups_92 : decode cX6_groups 92 = .ok (.iload_n 2, 1) := by decide +kernel
theorem dX6_groups_93 : decode cX6_groups 93 = .ok (.iaload, 1) := by decide +kernel
theorem dX6_groups_94 : decode cX6_groups 94 = .ok (.iload_n 3, 1) := by decide +kernel
theorem dX6_groups_95 : decode cX6_groups 95 = .ok (.iload 4, 2) := by decide +kernel
theorem dX6_groups_97 : decode cX6_groups 97 = .ok (.if_icmp .ge 7, 3) := by decide +kernel
theorem dX6_groups_100 : decode cX6_groups 100 = .ok (.iload_n 3, 1) := by decide +kernel
theorem dX6_groups_101 : decode cX6_groups 101 = .ok (.goto 5, 3) := by decide +kernel
theorem dX6_groups_104 : decode cX6_groups 104 = .ok (.iload 4, 2) := by decide +kernel
theorem dX6_groups_106 : decode cX6_groups 106 = .ok (.iastore, 1) := by decide +kernel
theorem dX6_groups_107 : decode cX6_groups 107 = .ok (.aload_n 0, 1) := by decide +kernel
theorem dX6_groups_108 : decode cX6_groups 108 = .ok (.getfield 68, 3) := by decide +kernel
theorem dX6_groups_111 : decode cX6_groups 111 = .ok (.aload_n 0, 1) := by decide +kernel
theorem dX6_groups_112 : decode cX6_groups 112 = .ok (.getfield 17, 3) := by decide +kernel
theorem dX6_groups_115 : decode cX6_groups 115 = .ok (.iload_n 2, 1) := by decide +kernel
theorem dX6_groups_116 : decode cX6_groups 116 = .ok (.iaload, 1) := by decide +kernel
theorem dX6_groups_117 : decode cX6_groups 117 = .ok (.iload_n 3, 1) := by decide +kernel
theorem dX6_groups_118 : decode cX6_groups 118 = .ok (.iload 4, 2) := by decide +kernel
theorem dX6_groups_120 : decode cX6_groups 120 = .ok (.if_icmp .ge 7, 3) := by decide +kernel
theorem dX6_groups_123 : decode cX6_groups 123 = .ok (.iload_n 3, 1) := by decide +kernel
theorem dX6_groups_124 : decode cX6_groups 124 = .ok (.goto 5, 3) := by decide +kernel
theorem dX6_groups_127 : decode cX6_groups 127 = .ok (.iload 4, 2) := by decide +kernel
theorem dX6_groups_129 : decode cX6_groups 129 = .ok (.iastore, 1) := by decide +kernel
theorem dX6_groups_130 : decode cX6_groups 130 = .ok (.iinc 2 1, 3) := by decide +kernel
theorem dX6_groups_133 : decode cX6_groups 133 = .ok (.goto (-102), 3) := by decide +kernel
theorem dX6_groups_136 : decode cX6_groups 136 = .ok (.goto (-113), 3) := by decide +kernel
theorem dX6_groups_139 : decode cX6_groups 139 = .ok (.return_, 1) := by decide +kernel
theorem dX6_hang_0 : decode cX6_hang 0 = .ok (.aload_n 0, 1) := by decide +kernel
theorem dX6_hang_1 : decode cX6_hang 1 = .ok (.invokevirtual 114, 3) := by decide +kernel
theorem dX6_hang_4 : decode cX6_hang 4 = .ok (.iconst 1, 1) := by decide +kernel
theorem dX6_hang_5 : decode cX6_hang 5 = .ok (.istore_n 2, 1) := by decide +kernel
theorem dX6_hang_6 : decode cX6_hang 6 = .ok (.iconst 0, 1) := by decide +kernel
theorem dX6_hang_7 : decode cX6_hang 7 = .ok (.istore_n 3, 1) := by decide +kernel
theorem dX6_hang_8 : decode cX6_hang 8 = .ok (.iload_n 3, 1) := by decide +kernel
theorem dX6_hang_9 : decode cX6_hang 9 = .ok (.aload_n 0, 1) := by decide +kernel
theorem dX6_hang_10 : decode cX6_hang 10 = .ok (.getfield 85, 3) := by decide +kernel
theorem dX6_hang_13 : decode cX6_hang 13 = .ok (.if_icmp .ge 48, 3) := by decide +kernel
theorem dX6_hang_16 : decode cX6_hang 16 = .ok (.iload_n 2, 1) := by decide +kernel
theorem dX6_hang_17 : decode cX6_hang 17 = .ok (.ifCond .eq 36, 3) := by decide +kernel
theorem dX6_hang_20 : decode cX6_hang 20 = .ok (.aload_n 0, 1) := by decide +kernel
theorem dX6_hang_21 : decode cX6_hang 21 = .ok (.getfield 65, 3) := by decide +kernel
theorem dX6_hang_24 : decode cX6_hang 24 = .ok (.iload_n 3, 1) := by decide +kernel
theorem dX6_hang_25 : decode cX6_hang 25 = .ok (.iaload, 1) := by decide +kernel
theorem dX6_hang_26 : decode cX6_hang 26 = .ok (.ifCond .eq 23, 3) := by decide +kernel
theorem dX6_hang_29 : decode cX6_hang 29 = .ok (.aload_n 0, 1) := by decide +kernel
theorem dX6_hang_30 : decode cX6_hang 30 = .ok (.getfield 68, 3) := by decide +kernel
theorem dX6_hang_33 : decode cX6_hang 33 = .ok (.aload_n 0, 1) := by decide +kernel
theorem dX6_hang_34 : decode cX6_hang 34 = .ok (.getfield 13, 3) := by decide +kernel
theorem dX6_hang_37 : decode cX6_hang 37 = .ok (.iload_n 3, 1) := by decide +kernel
theorem dX6_hang_38 : decode cX6_hang 38 = .ok (.iaload, 1) := by decide +kernel
theorem dX6_hang_39 : decode cX6_hang 39 = .ok (.iaload, 1) := by decide +kernel
theorem dX6_hang_40 : decode cX6_hang 40 = .ok (.aload_n 0, 1) := by decide +kernel
theorem dX6_hang_41 : decode cX6_hang 41 = .ok (.getfield 68, 3) := by decide +kernel
theorem dX6_hang_44 : decode cX6_hang 44 = .ok (.iload_n 1, 1) := by decide +kernel
theorem dX6_hang_45 : decode cX6_hang 45 = .ok (.iaload, 1) := by decide +kernel
theorem dX6_hang_46 : decode cX6_hang 46 = .ok (.if_icmp .ne 7, 3) := by decide +kernel
theorem dX6_hang_49 : decode cX6_hang 49 = .ok (.iconst 1, 1) := by decide +kernel
theorem dX6_hang_50 : decode cX6_hang 50 = .ok (.goto 4, 3) := by decide +kernel
theorem dX6_hang_53 : decode cX6_hang 53 = .ok (.iconst 0, 1) := by decide +kernel
theorem dX6_hang_54 : decode cX6_hang 54 = .ok (.istore_n 2, 1) := by decide +kernel
theorem dX6_hang_55 : decode cX6_hang 55 = .ok (.iinc 3 1, 3) := by decide +kernel
theorem dX6_hang_58 : decode cX6_hang 58 = .ok (.goto (-50), 3) := by decide +kernel
theorem dX6_hang_61 : decode cX6_hang 61 = .ok (.iload_n 2, 1) := by decide +kernel
theorem dX6_hang_62 : decode cX6_hang 62 = .ok (.ireturn, 1) := by decide +kernel
theorem dX6_leaveOne_0 : decode cX6_leaveOne 0 = .ok (.iconst 0, 1) := by decide +kernel
theorem dX6_leaveOne_1 : decode cX6_leaveOne 1 = .ok (.istore_n 1, 1) := by decide +kernel
theorem dX6_leaveOne_2 : decode cX6_leaveOne 2 = .ok (.iload_n 1, 1) := by decide +kernel
theorem dX6_leaveOne_3 : decode cX6_leaveOne 3 = .ok (.aload_n 0, 1) := by decide +kernel
theorem dX6_leaveOne_4 : decode cX6_leaveOne 4 = .ok (.getfield 85, 3) := by decide +kernel
theorem dX6_leaveOne_7 : decode cX6_leaveOne 7 = .ok (.if_icmp .ge 16, 3) := by decide +kernel
theorem dX6_leaveOne_10 : decode cX6_leaveOne 10 = .ok (.aload_n 0, 1) := by decide +kernel
theorem dX6_leaveOne_11 : decode cX6_leaveOne 11 = .ok (.getfield 65, 3) := by decide +kernel
theorem dX6_leaveOne_14 : decode cX6_leaveOne 14 = .ok (.iload_n 1, 1) := by decide +kernel
theorem dX6_leaveOne_15 : decode cX6_leaveOne 15 = .ok (.iconst 1, 1) := by decide +kernel
theorem dX6_leaveOne_16 : decode cX6_leaveOne 16 = .ok (.iastore, 1) := by decide +kernel
theorem dX6_leaveOne_17 : decode cX6_leaveOne 17 = .ok (.iinc 1 1, 3) := by decide +kernel
theorem dX6_leaveOne_20 : decode cX6_leaveOne 20 = .ok (.goto (-18), 3) := by decide +kernel
theorem dX6_leaveOne_23 : decode cX6_leaveOne 23 = .ok (.return_, 1) := by decide +kernel
theorem dX6_balance_0 : decode cX6_balance 0 = .ok (.iconst 0, 1) := by decide +kernel
theorem dX6_balance_1 : decode cX6_balance 1 = .ok (.istore_n 2, 1) := by decide +kernel
theorem dX6_balance_2 : decode cX6_balance 2 = .ok (.iconst 0, 1) := by decide +kernel
theorem dX6_balance_3 : decode cX6_balance 3 = .ok (.istore_n 3, 1) := by decide +kernel
theorem dX6_balance_4 : decode cX6_balance 4 = .ok (.iload_n 3, 1) := by decide +kernel
theorem dX6_balance_5 : decode cX6_balance 5 = .ok (.aload_n 0, 1) := by decide +kernel
theorem dX6_balance_6 : decode cX6_balance 6 = .ok (.getfield 85, 3) := by decide +kernel
theorem dX6_balance_9 : decode cX6_balance 9 = .ok (.if_icmp .ge 52, 3) := by decide +kernel
theorem dX6_balance_12 : decode cX6_balance 12 = .ok (.iload_n 2, 1) := by decide +kernel
theorem dX6_balance_13 : decode cX6_balance 13 = .ok (.aload_n 0, 1) := by decide +kernel
theorem dX6_balance_14 : decode cX6_balance 14 = .ok (.getfield 17, 3) := by decide +kernel
theorem dX6_balance_17 : decode cX6_balance 17 = .ok (.iload_n 3, 1) := by decide +kernel
theorem dX6_balance_18 : decode cX6_balance 18 = .ok (.iaload, 1) := by decide +kernel
theorem dX6_balance_19 : decode cX6_balance 19 = .ok (.iload_n 1, 1) := by decide +kernel
theorem dX6_balance_20 : decode cX6_balance 20 = .ok (.if_icmp .ne 7, 3) := by decide +kernel
theorem dX6_balance_23 : decode cX6_balance 23 = .ok (.iconst 1, 1) := by decide +kernel
theorem dX6_balance_24 : decode cX6_balance 24 = .ok (.goto 4, 3) := by decide +kernel
theorem dX6_balance_27 : decode cX6_balance 27 = .ok (.iconst 0, 1) := by decide +kernel
theorem dX6_balance_28 : decode cX6_balance 28 = .ok (.iadd, 1) := by decide +kernel
theorem dX6_balance_29 : decode cX6_balance 29 = .ok (.istore_n 2, 1) := by decide +kernel
theorem dX6_balance_30 : decode cX6_balance 30 = .ok (.aload_n 0, 1) := by decide +kernel
theorem dX6_balance_31 : decode cX6_balance 31 = .ok (.getfield 13, 3) := by decide +kernel
theorem dX6_balance_34 : decode cX6_balance 34 = .ok (.iload_n 3, 1) := by decide +kernel
theorem dX6_balance_35 : decode cX6_balance 35 = .ok (.iaload, 1) := by decide +kernel
theorem dX6_balance_36 : decode cX6_balance 36 = .ok (.iload_n 1, 1) := by decide +kernel
theorem dX6_balance_37 : decode cX6_balance 37 = .ok (.if_icmp .ne 18, 3) := by decide +kernel
theorem dX6_balance_40 : decode cX6_balance 40 = .ok (.iload_n 2, 1) := by decide +kernel
theorem dX6_balance_41 : decode cX6_balance 41 = .ok (.aload_n 0, 1) := by decide +kernel
theorem dX6_balance_42 : decode cX6_balance 42 = .ok (.getfield 88, 3) := by decide +kernel
theorem dX6_balance_45 : decode cX6_balance 45 = .ok (.ifCond .eq 7, 3) := by decide +kernel
theorem dX6_balance_48 : decode cX6_balance 48 = .ok (.iconst (-1), 1) := by decide +kernel
theorem dX6_balance_49 : decode cX6_balance 49 = .ok (.goto 4, 3) := by decide +kernel
theorem dX6_balance_52 : decode cX6_balance 52 = .ok (.iconst 1, 1) := by decide +kernel
theorem dX6_balance_53 : decode cX6_balance 53 = .ok (.iadd, 1) := by decide +kernel
theorem dX6_balance_54 : decode cX6_balance 54 = .ok (.istore_n 2, 1) := by decide +kernel
theorem dX6_balance_55 : decode cX6_balance 55 = .ok (.iinc 3 1, 3) := by decide +kernel
theorem dX6_balance_58 : decode cX6_balance 58 = .ok (.goto (-54), 3) := by decide +kernel
theorem dX6_balance_61 : decode cX6_balance 61 = .ok (.iload_n 2, 1) := by decide +kernel
theorem dX6_balance_62 : decode cX6_balance 62 = .ok (.ireturn, 1) := by decide +kernel
theorem dX6_isOdd_0 : decode cX6_isOdd 0 = .ok (.aload_n 0, 1) := by decide +kernel
theorem dX6_isOdd_1 : decode cX6_isOdd 1 = .ok (.getfield 88, 3) := by decide +kernel
theorem dX6_isOdd_4 : decode cX6_isOdd 4 = .ok (.ifCond .eq 19, 3) := by decide +kernel
theorem dX6_isOdd_7 : decode cX6_isOdd 7 = .ok (.aload_n 0, 1) := by decide +kernel
theorem dX6_isOdd_8 : decode cX6_isOdd 8 = .ok (.iload_n 1, 1) := by decide +kernel
theorem dX6_isOdd_9 : decode cX6_isOdd 9 = .ok (.invokevirtual 117, 3) := by decide +kernel
theorem dX6_isOdd_12 : decode cX6_isOdd 12 = .ok (.ifCond .eq 7, 3) := by decide +kernel
theorem dX6_isOdd_15 : decode cX6_isOdd 15 = .ok (.iconst 1, 1) := by decide +kernel
theorem dX6_isOdd_16 : decode cX6_isOdd 16 = .ok (.goto 22, 3) := by decide +kernel
theorem dX6_isOdd_19 : decode cX6_isOdd 19 = .ok (.iconst 0, 1) := by decide +kernel
theorem dX6_isOdd_20 : decode cX6_isOdd 20 = .ok (.goto 18, 3) := by decide +kernel
theorem dX6_isOdd_23 : decode cX6_isOdd 23 = .ok (.aload_n 0, 1) := by decide +kernel
theorem dX6_isOdd_24 : decode cX6_isOdd 24 = .ok (.iload_n 1, 1) := by decide +kernel
theorem dX6_isOdd_25 : decode cX6_isOdd 25 = .ok (.invokevirtual 117, 3) := by decide +kernel
theorem dX6_isOdd_28 : decode cX6_isOdd 28 = .ok (.iconst 2, 1) := by decide +kernel
theorem dX6_isOdd_29 : decode cX6_isOdd 29 = .ok (.irem, 1) := by decide +kernel
theorem dX6_isOdd_30 : decode cX6_isOdd 30 = .ok (.ifCond .eq 7, 3) := by decide +kernel
theorem dX6_isOdd_33 : decode cX6_isOdd 33 = .ok (.iconst 1, 1) := by decide +kernel
theorem dX6_isOdd_34 : decode cX6_isOdd 34 = .ok (.goto 4, 3) := by decide +kernel
theorem dX6_isOdd_37 : decode cX6_isOdd 37 = .ok (.iconst 0, 1) := by decide +kernel
theorem dX6_isOdd_38 : decode cX6_isOdd 38 = .ok (.ireturn, 1) := by decide +kernel
theorem dX6_countOdd_0 : decode cX6_countOdd 0 = .ok (.iconst 0, 1) := by decide +kernel
theorem dX6_countOdd_1 : decode cX6_countOdd 1 = .ok (.istore_n 1, 1) := by decide +kernel
theorem dX6_countOdd_2 : decode cX6_countOdd 2 = .ok (.iconst 0, 1) := by decide +kernel
theorem dX6_countOdd_3 : decode cX6_countOdd 3 = .ok (.istore_n 2, 1) := by decide +kernel
theorem dX6_countOdd_4 : decode cX6_countOdd 4 = .ok (.iload_n 2, 1) := by decide +kernel
theorem dX6_countOdd_5 : decode cX6_countOdd 5 = .ok (.aload_n 0, 1) := by decide +kernel
theorem dX6_countOdd_6 : decode cX6_countOdd 6 = .ok (.getfield 7, 3) := by decide +kernel
theorem dX6_countOdd_9 : decode cX6_countOdd 9 = .ok (.if_icmp .ge 25, 3) := by decide +kernel
theorem dX6_countOdd_12 : decode cX6_countOdd 12 = .ok (.iload_n 1, 1) := by decide +kernel
theorem dX6_countOdd_13 : decode cX6_countOdd 13 = .ok (.aload_n 0, 1) := by decide +kernel
theorem dX6_countOdd_14 : decode cX6_countOdd 14 = .ok (.iload_n 2, 1) := by decide +kernel
theorem dX6_countOdd_15 : decode cX6_countOdd 15 = .ok (.invokevirtual 121, 3) := by decide +kernel
theorem dX6_countOdd_18 : decode cX6_countOdd 18 = .ok (.ifCond .eq 7, 3) := by decide +kernel
theorem dX6_countOdd_21 : decode cX6_countOdd 21 = .ok (.iconst 1, 1) := by decide +kernel
theorem dX6_countOdd_22 : decode cX6_countOdd 22 = .ok (.goto 4, 3) := by decide +kernel
theorem dX6_countOdd_25 : decode cX6_countOdd 25 = .ok (.iconst 0, 1) := by decide +kernel
theorem dX6_countOdd_26 : decode cX6_countOdd 26 = .ok (.iadd, 1) := by decide +kernel
theorem dX6_countOdd_27 : decode cX6_countOdd 27 = .ok (.istore_n 1, 1) := by decide +kernel
theorem dX6_countOdd_28 : decode cX6_countOdd 28 = .ok (.iinc 2 1, 3) := by decide +kernel
theorem dX6_countOdd_31 : decode cX6_countOdd 31 = .ok (.goto (-27), 3) := by decide +kernel
theorem dX6_countOdd_34 : decode cX6_countOdd 34 = .ok (.iload_n 1, 1) := by decide +kernel
theorem dX6_countOdd_35 : decode cX6_countOdd 35 = .ok (.ireturn, 1) := by decide +kernel
theorem dX6_goes_0 : decode cX6_goes 0 = .ok (.iload_n 2, 1) := by decide +kernel
theorem dX6_goes_1 : decode cX6_goes 1 = .ok (.ifCond .lt 13, 3) := by decide +kernel
theorem dX6_goes_4 : decode cX6_goes 4 = .ok (.iload_n 2, 1) := by decide +kernel
theorem dX6_goes_5 : decode cX6_goes 5 = .ok (.iconst 2, 1) := by decide +kernel
theorem dX6_goes_6 : decode cX6_goes 6 = .ok (.aload_n 0, 1) := by decide +kernel
theorem dX6_goes_7 : decode cX6_goes 7 = .ok (.getfield 85, 3) := by decide +kernel
theorem dX6_goes_10 : decode cX6_goes 10 = .ok (.imul, 1) := by decide +kernel
theorem dX6_goes_11 : decode cX6_goes 11 = .ok (.if_icmp .lt 5, 3) := by decide +kernel
theorem dX6_goes_14 : decode cX6_goes 14 = .ok (.iconst (-1), 1) := by decide +kernel
theorem dX6_goes_15 : decode cX6_goes 15 = .ok (.ireturn, 1) := by decide +kernel
theorem dX6_goes_16 : decode cX6_goes 16 = .ok (.iload_n 2, 1) := by decide +kernel
theorem dX6_goes_17 : decode cX6_goes 17 = .ok (.iconst 2, 1) := by decide +kernel
theorem dX6_goes_18 : decode cX6_goes 18 = .ok (.idiv, 1) := by decide +kernel
theorem dX6_goes_19 : decode cX6_goes 19 = .ok (.istore_n 3, 1) := by decide +kernel
theorem dX6_goes_20 : decode cX6_goes 20 = .ok (.iload_n 2, 1) := by decide +kernel
theorem dX6_goes_21 : decode cX6_goes 21 = .ok (.iconst 2, 1) := by decide +kernel
theorem dX6_goes_22 : decode cX6_goes 22 = .ok (.irem, 1) := by decide +kernel
theorem dX6_goes_23 : decode cX6_goes 23 = .ok (.ifCond .ne 24, 3) := by decide +kernel
theorem dX6_goes_26 : decode cX6_goes 26 = .ok (.aload_n 0, 1) := by decide +kernel
theorem dX6_goes_27 : decode cX6_goes 27 = .ok (.getfield 13, 3) := by decide +kernel
theorem dX6_goes_30 : decode cX6_goes 30 = .ok (.iload_n 3, 1) := by decide +kernel
theorem dX6_goes_31 : decode cX6_goes 31 = .ok (.iaload, 1) := by decide +kernel
theorem dX6_goes_32 : decode cX6_goes 32 = .ok (.iload_n 1, 1) := by decide +kernel
theorem dX6_goes_33 : decode cX6_goes 33 = .ok (.if_icmp .ne 12, 3) := by decide +kernel
theorem dX6_goes_36 : decode cX6_goes 36 = .ok (.aload_n 0, 1) := by decide +kernel
theorem dX6_goes_37 : decode cX6_goes 37 = .ok (.getfield 17, 3) := by decide +kernel
theorem dX6_goes_40 : decode cX6_goes 40 = .ok (.iload_n 3, 1) := by decide +kernel
theorem dX6_goes_41 : decode cX6_goes 41 = .ok (.iaload, 1) := by decide +kernel
theorem dX6_goes_42 : decode cX6_goes 42 = .ok (.goto 4, 3) := by decide +kernel
theorem dX6_goes_45 : decode cX6_goes 45 = .ok (.iconst (-1), 1) := by decide +kernel
theorem dX6_goes_46 : decode cX6_goes 46 = .ok (.ireturn, 1) := by decide +kernel
theorem dX6_goes_47 : decode cX6_goes 47 = .ok (.aload_n 0, 1) := by decide +kernel
theorem dX6_goes_48 : decode cX6_goes 48 = .ok (.getfield 88, 3) := by decide +kernel
theorem dX6_goes_51 : decode cX6_goes 51 = .ok (.ifCond .ne 37, 3) := by decide +kernel
theorem dX6_goes_54 : decode cX6_goes 54 = .ok (.aload_n 0, 1) := by decide +kernel
theorem dX6_goes_55 : decode cX6_goes 55 = .ok (.getfield 13, 3) := by decide +kernel
theorem dX6_goes_58 : decode cX6_goes 58 = .ok (.iload_n 3, 1) := by decide +kernel
theorem dX6_goes_59 : decode cX6_goes 59 = .ok (.iaload, 1) := by decide +kernel
theorem dX6_goes_60 : decode cX6_goes 60 = .ok (.aload_n 0, 1) := by decide +kernel
theorem dX6_goes_61 : decode cX6_goes 61 = .ok (.getfield 17, 3) := by decide +kernel
theorem dX6_goes_64 : decode cX6_goes 64 = .ok (.iload_n 3, 1) := by decide +kernel
theorem dX6_goes_65 : decode cX6_goes 65 = .ok (.iaload, 1) := by decide +kernel
theorem dX6_goes_66 : decode cX6_goes 66 = .ok (.if_icmp .eq 22, 3) := by decide +kernel
theorem dX6_goes_69 : decode cX6_goes 69 = .ok (.aload_n 0, 1) := by decide +kernel
theorem dX6_goes_70 : decode cX6_goes 70 = .ok (.getfield 17, 3) := by decide +kernel
theorem dX6_goes_73 : decode cX6_goes 73 = .ok (.iload_n 3, 1) := by decide +kernel
theorem dX6_goes_74 : decode cX6_goes 74 = .ok (.iaload, 1) := by decide +kernel
theorem dX6_goes_75 : decode cX6_goes 75 = .ok (.iload_n 1, 1) := by decide +kernel
theorem dX6_goes_76 : decode cX6_goes 76 = .ok (.if_icmp .ne 12, 3) := by decide +kernel
theorem dX6_goes_79 : decode cX6_goes 79 = .ok (.aload_n 0, 1) := by decide +kernel
theorem dX6_goes_80 : decode cX6_goes 80 = .ok (.getfield 13, 3) := by decide +kernel
theorem dX6_goes_83 : decode cX6_goes 83 = .ok (.iload_n 3, 1) := by decide +kernel
theorem dX6_goes_84 : decode cX6_goes 84 = .ok (.iaload, 1) := by decide +kernel
theorem dX6_goes_85 : decode cX6_goes 85 = .ok (.goto 4, 3) := by decide +kernel
theorem dX6_goes_88 : decode cX6_goes 88 = .ok (.iconst (-1), 1) := by decide +kernel
theorem dX6_goes_89 : decode cX6_goes 89 = .ok (.ireturn, 1) := by decide +kernel
theorem dX6_walk_0 : decode cX6_walk 0 = .ok (.aload_n 0, 1) := by decide +kernel
theorem dX6_walk_1 : decode cX6_walk 1 = .ok (.iconst 0, 1) := by decide +kernel
theorem dX6_walk_2 : decode cX6_walk 2 = .ok (.putfield 74, 3) := by decide +kernel
theorem dX6_walk_5 : decode cX6_walk 5 = .ok (.iload_n 1, 1) := by decide +kernel
theorem dX6_walk_6 : decode cX6_walk 6 = .ok (.istore_n 2, 1) := by decide +kernel
theorem dX6_walk_7 : decode cX6_walk 7 = .ok (.iconst 1, 1) := by decide +kernel
theorem dX6_walk_8 : decode cX6_walk 8 = .ok (.istore_n 3, 1) := by decide +kernel
theorem dX6_walk_9 : decode cX6_walk 9 = .ok (.iload_n 3, 1) := by decide +kernel
theorem dX6_walk_10 : decode cX6_walk 10 = .ok (.ifCond .eq 152, 3) := by decide +kernel
theorem dX6_walk_13 : decode cX6_walk 13 = .ok (.iconst (-1), 1) := by decide +kernel
theorem dX6_walk_14 : decode cX6_walk 14 = .ok (.istore 4, 2) := by decide +kernel
theorem dX6_walk_16 : decode cX6_walk 16 = .ok (.iconst 0, 1) := by decide +kernel
theorem dX6_walk_17 : decode cX6_walk 17 = .ok (.istore 5, 2) := by decide +kernel
theorem dX6_walk_19 : decode cX6_walk 19 = .ok (.iload 5, 2) := by decide +kernel
theorem dX6_walk_21 : decode cX6_walk 21 = .ok (.iconst 2, 1) := by decide +kernel
theorem dX6_walk_22 : decode cX6_walk 22 = .ok (.aload_n 0, 1) := by decide +kernel
theorem dX6_walk_23 : decode cX6_walk 23 = .ok (.getfield 85, 3) := by decide +kernel
theorem dX6_walk_26 : decode cX6_walk 26 = .ok (.imul, 1) := by decide +kernel
theorem dX6_walk_27 : decode cX6_walk 27 = .ok (.if_icmp .ge 110, 3) := by decide +kernel
theorem dX6_walk_30 : decode cX6_walk 30 = .ok (.iload 4, 2) := by decide +kernel
theorem dX6_walk_32 : decode cX6_walk 32 = .ok (.ifCond .ge 105, 3) := by decide +kernel
theorem dX6_walk_35 : decode cX6_walk 35 = .ok (.aload_n 0, 1) := by decide +kernel
theorem dX6_walk_36 : decode cX6_walk 36 = .ok (.getfield 65, 3) := by decide +kernel
theorem dX6_walk_39 : decode cX6_walk 39 = .ok (.iload 5, 2) := by decide +kernel
theorem dX6_walk_41 : decode cX6_walk 41 = .ok (.iconst 2, 1) := by decide +kernel
theorem dX6_walk_42 : decode cX6_walk 42 = .ok (.idiv, 1) := by decide +kernel
theorem dX6_walk_43 : decode cX6_walk 43 = .ok (.iaload, 1) := by decide +kernel
theorem dX6_walk_44 : decode cX6_walk 44 = .ok (.ifCond .le 13, 3) := by decide +kernel
theorem dX6_walk_47 : decode cX6_walk 47 = .ok (.aload_n 0, 1) := by decide +kernel
theorem dX6_walk_48 : decode cX6_walk 48 = .ok (.iload_n 2, 1) := by decide +kernel
theorem dX6_walk_49 : decode cX6_walk 49 = .ok (.iload 5, 2) := by decide +kernel
theorem dX6_walk_51 : decode cX6_walk 51 = .ok (.invokevirtual 124, 3) := by decide +kernel
theorem dX6_walk_54 : decode cX6_walk 54 = .ok (.goto 4, 3) := by decide +kernel
theorem dX6_walk_57 : decode cX6_walk 57 = .ok (.iconst (-1), 1) := by decide +kernel
theorem dX6_walk_58 : decode cX6_walk 58 = .ok (.istore 6, 2) := by decide +kernel
theorem dX6_walk_60 : decode cX6_walk 60 = .ok (.iload 6, 2) := by decide +kernel
theorem dX6_walk_62 : decode cX6_walk 62 = .ok (.ifCond .ge 6, 3) := by decide +kernel
theorem dX6_walk_65 : decode cX6_walk 65 = .ok (.goto 66, 3) := by decide +kernel
theorem dX6_walk_68 : decode cX6_walk 68 = .ok (.aload_n 0, 1) := by decide +kernel
theorem dX6_walk_69 : decode cX6_walk 69 = .ok (.getfield 65, 3) := by decide +kernel
theorem dX6_walk_72 : decode cX6_walk 72 = .ok (.iload 5, 2) := by decide +kernel
theorem dX6_walk_74 : decode cX6_walk 74 = .ok (.iconst 2, 1) := by decide +kernel
theorem dX6_walk_75 : decode cX6_walk 75 = .ok (.idiv, 1) := by decide +kernel
theorem dX6_walk_76 : decode cX6_walk 76 = .ok (.dup2, 1) := by decide +kernel
theorem dX6_walk_77 : decode cX6_walk 77 = .ok (.iaload, 1) := by decide +kernel
theorem dX6_walk_78 : decode cX6_walk 78 = .ok (.iconst 1, 1) := by decide +kernel
theorem dX6_walk_79 : decode cX6_walk 79 = .ok (.isub, 1) := by decide +kernel
theorem dX6_walk_80 : decode cX6_walk 80 = .ok (.iastore, 1) := by decide +kernel
theorem dX6_walk_81 : decode cX6_walk 81 = .ok (.aload_n 0, 1) := by decide +kernel
theorem dX6_walk_82 : decode cX6_walk 82 = .ok (.iload 6, 2) := by decide +kernel
theorem dX6_walk_84 : decode cX6_walk 84 = .ok (.invokevirtual 128, 3) := by decide +kernel
theorem dX6_walk_87 : decode cX6_walk 87 = .ok (.ifCond .eq 31, 3) := by decide +kernel
theorem dX6_walk_90 : decode cX6_walk 90 = .ok (.iload 6, 2) := by decide +kernel
theorem dX6_walk_92 : decode cX6_walk 92 = .ok (.istore 4, 2) := by decide +kernel
theorem dX6_walk_94 : decode cX6_walk 94 = .ok (.aload_n 0, 1) := by decide +kernel
theorem dX6_walk_95 : decode cX6_walk 95 = .ok (.getfield 23, 3) := by decide +kernel
theorem dX6_walk_98 : decode cX6_walk 98 = .ok (.aload_n 0, 1) := by decide +kernel
theorem dX6_walk_99 : decode cX6_walk 99 = .ok (.getfield 74, 3) := by decide +kernel
theorem dX6_walk_102 : decode cX6_walk 102 = .ok (.iload 5, 2) := by decide +kernel
theorem dX6_walk_104 : decode cX6_walk 104 = .ok (.iastore, 1) := by decide +kernel
theorem dX6_walk_105 : decode cX6_walk 105 = .ok (.aload_n 0, 1) := by decide +kernel
theorem dX6_walk_106 : decode cX6_walk 106 = .ok (.dup, 1) := by decide +kernel
theorem dX6_walk_107 : decode cX6_walk 107 = .ok (.getfield 74, 3) := by decide +kernel
theorem dX6_walk_110 : decode cX6_walk 110 = .ok (.iconst 1, 1) := by decide +kernel
theorem dX6_walk_111 : decode cX6_walk 111 = .ok (.iadd, 1) := by decide +kernel
theorem dX6_walk_112 : decode cX6_walk 112 = .ok (.putfield 74, 3) := by decide +kernel
theorem dX6_walk_115 : decode cX6_walk 115 = .ok (.goto 16, 3) := by decide +kernel
theorem dX6_walk_118 : decode cX6_walk 118 = .ok (.aload_n 0, 1) := by decide +kernel
theorem dX6_walk_119 : decode cX6_walk 119 = .ok (.getfield 65, 3) := by decide +kernel
theorem dX6_walk_122 : decode cX6_walk 122 = .ok (.iload 5, 2) := by decide +kernel
theorem dX6_walk_124 : decode cX6_walk 124 = .ok (.iconst 2, 1) := by decide +kernel
theorem dX6_walk_125 : decode cX6_walk 125 = .ok (.idiv, 1) := by decide +kernel
theorem dX6_walk_126 : decode cX6_walk 126 = .ok (.dup2, 1) := by decide +kernel
theorem dX6_walk_127 : decode cX6_walk 127 = .ok (.iaload, 1) := by decide +kernel
theorem dX6_walk_128 : decode cX6_walk 128 = .ok (.iconst 1, 1) := by decide +kernel
theorem dX6_walk_129 : decode cX6_walk 129 = .ok (.iadd, 1) := by decide +kernel
theorem dX6_walk_130 : decode cX6_walk 130 = .ok (.iastore, 1) := by decide +kernel
theorem dX6_walk_131 : decode cX6_walk 131 = .ok (.iinc 5 1, 3) := by decide +kernel
theorem dX6_walk_134 : decode cX6_walk 134 = .ok (.goto (-115), 3) := by decide +kernel
theorem dX6_walk_137 : decode cX6_walk 137 = .ok (.iload 4, 2) := by decide +kernel
theorem dX6_walk_139 : decode cX6_walk 139 = .ok (.ifCond .lt 7, 3) := by decide +kernel
theorem dX6_walk_142 : decode cX6_walk 142 = .ok (.iconst 1, 1) := by decide +kernel
theorem dX6_walk_143 : decode cX6_walk 143 = .ok (.goto 4, 3) := by decide +kernel
theorem dX6_walk_146 : decode cX6_walk 146 = .ok (.iconst 0, 1) := by decide +kernel
theorem dX6_walk_147 : decode cX6_walk 147 = .ok (.istore_n 3, 1) := by decide +kernel
theorem dX6_walk_148 : decode cX6_walk 148 = .ok (.iload_n 3, 1) := by decide +kernel
theorem dX6_walk_149 : decode cX6_walk 149 = .ok (.ifCond .eq 8, 3) := by decide +kernel
theorem dX6_walk_152 : decode cX6_walk 152 = .ok (.iload 4, 2) := by decide +kernel
theorem dX6_walk_154 : decode cX6_walk 154 = .ok (.goto 4, 3) := by decide +kernel
theorem dX6_walk_157 : decode cX6_walk 157 = .ok (.iload_n 2, 1) := by decide +kernel
theorem dX6_walk_158 : decode cX6_walk 158 = .ok (.istore_n 2, 1) := by decide +kernel
theorem dX6_walk_159 : decode cX6_walk 159 = .ok (.goto (-150), 3) := by decide +kernel
theorem dX6_walk_162 : decode cX6_walk 162 = .ok (.return_, 1) := by decide +kernel
theorem dX6_tour_0 : decode cX6_tour 0 = .ok (.aload_n 0, 1) := by decide +kernel
theorem dX6_tour_1 : decode cX6_tour 1 = .ok (.aload_n 0, 1) := by decide +kernel
theorem dX6_tour_2 : decode cX6_tour 2 = .ok (.iload_n 1, 1) := by decide +kernel
theorem dX6_tour_3 : decode cX6_tour 3 = .ok (.invokevirtual 94, 3) := by decide +kernel
theorem dX6_tour_6 : decode cX6_tour 6 = .ok (.ifCond .ne 7, 3) := by decide +kernel
theorem dX6_tour_9 : decode cX6_tour 9 = .ok (.iconst 1, 1) := by decide +kernel
theorem dX6_tour_10 : decode cX6_tour 10 = .ok (.goto 4, 3) := by decide +kernel
theorem dX6_tour_13 : decode cX6_tour 13 = .ok (.iconst 0, 1) := by decide +kernel
theorem dX6_tour_14 : decode cX6_tour 14 = .ok (.iconst 0, 1) := by decide +kernel
theorem dX6_tour_15 : decode cX6_tour 15 = .ok (.invokevirtual 81, 3) := by decide +kernel
theorem dX6_tour_18 : decode cX6_tour 18 = .ok (.ifCond .eq 5, 3) := by decide +kernel
theorem dX6_tour_21 : decode cX6_tour 21 = .ok (.iconst 0, 1) := by decide +kernel
theorem dX6_tour_22 : decode cX6_tour 22 = .ok (.ireturn, 1) := by decide +kernel
theorem dX6_tour_23 : decode cX6_tour 23 = .ok (.aload_n 0, 1) := by decide +kernel
theorem dX6_tour_24 : decode cX6_tour 24 = .ok (.invokevirtual 131, 3) := by decide +kernel
theorem dX6_tour_27 : decode cX6_tour 27 = .ok (.ifCond .le 6, 3) := by decide +kernel
theorem dX6_tour_30 : decode cX6_tour 30 = .ok (.bipush (-2), 2) := by decide +kernel
theorem dX6_tour_32 : decode cX6_tour 32 = .ok (.ireturn, 1) := by decide +kernel
theorem dX6_tour_33 : decode cX6_tour 33 = .ok (.aload_n 0, 1) := by decide +kernel
theorem dX6_tour_34 : decode cX6_tour 34 = .ok (.invokevirtual 135, 3) := by decide +kernel
theorem dX6_tour_37 : decode cX6_tour 37 = .ok (.aload_n 0, 1) := by decide +kernel
theorem dX6_tour_38 : decode cX6_tour 38 = .ok (.iload_n 1, 1) := by decide +kernel
theorem dX6_tour_39 : decode cX6_tour 39 = .ok (.invokevirtual 128, 3) := by decide +kernel
theorem dX6_tour_42 : decode cX6_tour 42 = .ok (.ifCond .ne 5, 3) := by decide +kernel
theorem dX6_tour_45 : decode cX6_tour 45 = .ok (.iconst (-1), 1) := by decide +kernel
theorem dX6_tour_46 : decode cX6_tour 46 = .ok (.ireturn, 1) := by decide +kernel
theorem dX6_tour_47 : decode cX6_tour 47 = .ok (.aload_n 0, 1) := by decide +kernel
theorem dX6_tour_48 : decode cX6_tour 48 = .ok (.iload_n 1, 1) := by decide +kernel
theorem dX6_tour_49 : decode cX6_tour 49 = .ok (.invokevirtual 138, 3) := by decide +kernel
theorem dX6_tour_52 : decode cX6_tour 52 = .ok (.aload_n 0, 1) := by decide +kernel
theorem dX6_tour_53 : decode cX6_tour 53 = .ok (.getfield 74, 3) := by decide +kernel
theorem dX6_tour_56 : decode cX6_tour 56 = .ok (.ireturn, 1) := by decide +kernel
theorem dX6_pair_0 : decode cX6_pair 0 = .ok (.aload_n 0, 1) := by decide +kernel
theorem dX6_pair_1 : decode cX6_pair 1 = .ok (.iconst 0, 1) := by decide +kernel
theorem dX6_pair_2 : decode cX6_pair 2 = .ok (.putfield 142, 3) := by decide +kernel
theorem dX6_pair_5 : decode cX6_pair 5 = .ok (.iconst 0, 1) := by decide +kernel
theorem dX6_pair_6 : decode cX6_pair 6 = .ok (.istore_n 1, 1) := by decide +kernel
theorem dX6_pair_7 : decode cX6_pair 7 = .ok (.iload_n 1, 1) := by decide +kernel
theorem dX6_pair_8 : decode cX6_pair 8 = .ok (.aload_n 0, 1) := by decide +kernel
theorem dX6_pair_9 : decode cX6_pair 9 = .ok (.getfield 7, 3) := by decide +kernel
theorem dX6_pair_12 : decode cX6_pair 12 = .ok (.if_icmp .ge 40, 3) := by decide +kernel
theorem dX6_pair_15 : decode cX6_pair 15 = .ok (.aload_n 0, 1) := by decide +kernel
theorem dX6_pair_16 : decode cX6_pair 16 = .ok (.iload_n 1, 1) := by decide +kernel
theorem dX6_pair_17 : decode cX6_pair 17 = .ok (.invokevirtual 121, 3) := by decide +kernel
theorem dX6_pair_20 : decode cX6_pair 20 = .ok (.ifCond .ne 6, 3) := by decide +kernel
theorem dX6_pair_23 : decode cX6_pair 23 = .ok (.goto 23, 3) := by decide +kernel
theorem dX6_pair_26 : decode cX6_pair 26 = .ok (.aload_n 0, 1) := by decide +kernel
theorem dX6_pair_27 : decode cX6_pair 27 = .ok (.getfield 39, 3) := by decide +kernel
theorem dX6_pair_30 : decode cX6_pair 30 = .ok (.aload_n 0, 1) := by decide +kernel
theorem dX6_pair_31 : decode cX6_pair 31 = .ok (.getfield 142, 3) := by decide +kernel
theorem dX6_pair_34 : decode cX6_pair 34 = .ok (.iload_n 1, 1) := by decide +kernel
theorem dX6_pair_35 : decode cX6_pair 35 = .ok (.iastore, 1) := by decide +kernel
theorem dX6_pair_36 : decode cX6_pair 36 = .ok (.aload_n 0, 1) := by decide +kernel
theorem dX6_pair_37 : decode cX6_pair 37 = .ok (.dup, 1) := by decide +kernel
theorem dX6_pair_38 : decode cX6_pair 38 = .ok (.getfield 142, 3) := by decide +kernel
theorem dX6_pair_41 : decode cX6_pair 41 = .ok (.iconst 1, 1) := by decide +kernel
theorem dX6_pair_42 : decode cX6_pair 42 = .ok (.iadd, 1) := by decide +kernel
theorem dX6_pair_43 : decode cX6_pair 43 = .ok (.putfield 142, 3) := by decide +kernel
theorem dX6_pair_46 : decode cX6_pair 46 = .ok (.iinc 1 1, 3) := by decide +kernel
theorem dX6_pair_49 : decode cX6_pair 49 = .ok (.goto (-42), 3) := by decide +kernel
theorem dX6_pair_52 : decode cX6_pair 52 = .ok (.aload_n 0, 1) := by decide +kernel
theorem dX6_pair_53 : decode cX6_pair 53 = .ok (.getfield 43, 3) := by decide +kernel
theorem dX6_pair_56 : decode cX6_pair 56 = .ok (.iconst 0, 1) := by decide +kernel
theorem dX6_pair_57 : decode cX6_pair 57 = .ok (.lconst 0, 1) := by decide +kernel
theorem dX6_pair_58 : decode cX6_pair 58 = .ok (.lastore, 1) := by decide +kernel
theorem dX6_pair_59 : decode cX6_pair 59 = .ok (.aload_n 0, 1) := by decide +kernel
theorem dX6_pair_60 : decode cX6_pair 60 = .ok (.getfield 46, 3) := by decide +kernel
theorem dX6_pair_63 : decode cX6_pair 63 = .ok (.iconst 0, 1) := by decide +kernel
theorem dX6_pair_64 : decode cX6_pair 64 = .ok (.lconst 0, 1) := by decide +kernel
theorem dX6_pair_65 : decode cX6_pair 65 = .ok (.lastore, 1) := by decide +kernel
