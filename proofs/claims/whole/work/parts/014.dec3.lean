theorem dX6_pair_66 : decode cX6_pair 66 = .ok (.iconst 1, 1) := by decide +kernel
theorem dX6_pair_67 : decode cX6_pair 67 = .ok (.istore_n 1, 1) := by decide +kernel
theorem dX6_pair_68 : decode cX6_pair 68 = .ok (.iload_n 1, 1) := by decide +kernel
theorem dX6_pair_69 : decode cX6_pair 69 = .ok (.iconst 1, 1) := by decide +kernel
theorem dX6_pair_70 : decode cX6_pair 70 = .ok (.aload_n 0, 1) := by decide +kernel
theorem dX6_pair_71 : decode cX6_pair 71 = .ok (.getfield 142, 3) := by decide +kernel
theorem dX6_pair_74 : decode cX6_pair 74 = .ok (.ishl, 1) := by decide +kernel
theorem dX6_pair_75 : decode cX6_pair 75 = .ok (.if_icmp .ge 14, 3) := by decide +kernel
theorem dX6_pair_78 : decode cX6_pair 78 = .ok (.aload_n 0, 1) := by decide +kernel
theorem dX6_pair_79 : decode cX6_pair 79 = .ok (.iload_n 1, 1) := by decide +kernel
theorem dX6_pair_80 : decode cX6_pair 80 = .ok (.invokevirtual 145, 3) := by decide +kernel
theorem dX6_pair_83 : decode cX6_pair 83 = .ok (.iinc 1 1, 3) := by decide +kernel
theorem dX6_pair_86 : decode cX6_pair 86 = .ok (.goto (-18), 3) := by decide +kernel
theorem dX6_pair_89 : decode cX6_pair 89 = .ok (.aload_n 0, 1) := by decide +kernel
theorem dX6_pair_90 : decode cX6_pair 90 = .ok (.getfield 46, 3) := by decide +kernel
theorem dX6_pair_93 : decode cX6_pair 93 = .ok (.iconst 1, 1) := by decide +kernel
theorem dX6_pair_94 : decode cX6_pair 94 = .ok (.aload_n 0, 1) := by decide +kernel
theorem dX6_pair_95 : decode cX6_pair 95 = .ok (.getfield 142, 3) := by decide +kernel
theorem dX6_pair_98 : decode cX6_pair 98 = .ok (.ishl, 1) := by decide +kernel
theorem dX6_pair_99 : decode cX6_pair 99 = .ok (.iconst 1, 1) := by decide +kernel
theorem dX6_pair_100 : decode cX6_pair 100 = .ok (.isub, 1) := by decide +kernel
theorem dX6_pair_101 : decode cX6_pair 101 = .ok (.laload, 1) := by decide +kernel
theorem dX6_pair_102 : decode cX6_pair 102 = .ok (.lstore_n 1, 1) := by decide +kernel
theorem dX6_pair_103 : decode cX6_pair 103 = .ok (.iconst 0, 1) := by decide +kernel
theorem dX6_pair_104 : decode cX6_pair 104 = .ok (.istore_n 3, 1) := by decide +kernel
theorem dX6_pair_105 : decode cX6_pair 105 = .ok (.iload_n 3, 1) := by decide +kernel
theorem dX6_pair_106 : decode cX6_pair 106 = .ok (.aload_n 0, 1) := by decide +kernel
theorem dX6_pair_107 : decode cX6_pair 107 = .ok (.getfield 85, 3) := by decide +kernel
theorem dX6_pair_110 : decode cX6_pair 110 = .ok (.if_icmp .ge 24, 3) := by decide +kernel
theorem dX6_pair_113 : decode cX6_pair 113 = .ok (.aload_n 0, 1) := by decide +kernel
theorem dX6_pair_114 : decode cX6_pair 114 = .ok (.getfield 29, 3) := by decide +kernel
theorem dX6_pair_117 : decode cX6_pair 117 = .ok (.iload_n 3, 1) := by decide +kernel
theorem dX6_pair_118 : decode cX6_pair 118 = .ok (.lload_n 1, 1) := by decide +kernel
theorem dX6_pair_119 : decode cX6_pair 119 = .ok (.bipush 39, 2) := by decide +kernel
theorem dX6_pair_121 : decode cX6_pair 121 = .ok (.iload_n 3, 1) := by decide +kernel
theorem dX6_pair_122 : decode cX6_pair 122 = .ok (.isub, 1) := by decide +kernel
theorem dX6_pair_123 : decode cX6_pair 123 = .ok (.lshr, 1) := by decide +kernel
theorem dX6_pair_124 : decode cX6_pair 124 = .ok (.lconst 1, 1) := by decide +kernel
theorem dX6_pair_125 : decode cX6_pair 125 = .ok (.land, 1) := by decide +kernel
theorem dX6_pair_126 : decode cX6_pair 126 = .ok (.l2i, 1) := by decide +kernel
theorem dX6_pair_127 : decode cX6_pair 127 = .ok (.iastore, 1) := by decide +kernel
theorem dX6_pair_128 : decode cX6_pair 128 = .ok (.iinc 3 1, 3) := by decide +kernel
theorem dX6_pair_131 : decode cX6_pair 131 = .ok (.goto (-26), 3) := by decide +kernel
theorem dX6_pair_134 : decode cX6_pair 134 = .ok (.return_, 1) := by decide +kernel
theorem dX6_pairSet_0 : decode cX6_pairSet 0 = .ok (.aload_n 0, 1) := by decide +kernel
theorem dX6_pairSet_1 : decode cX6_pairSet 1 = .ok (.getfield 43, 3) := by decide +kernel
theorem dX6_pairSet_4 : decode cX6_pairSet 4 = .ok (.iload_n 1, 1) := by decide +kernel
theorem dX6_pairSet_5 : decode cX6_pairSet 5 = .ok (.ldc2_w 103, 3) := by decide +kernel
theorem dX6_pairSet_8 : decode cX6_pairSet 8 = .ok (.lastore, 1) := by decide +kernel
theorem dX6_pairSet_9 : decode cX6_pairSet 9 = .ok (.aload_n 0, 1) := by decide +kernel
theorem dX6_pairSet_10 : decode cX6_pairSet 10 = .ok (.getfield 46, 3) := by decide +kernel
theorem dX6_pairSet_13 : decode cX6_pairSet 13 = .ok (.iload_n 1, 1) := by decide +kernel
theorem dX6_pairSet_14 : decode cX6_pairSet 14 = .ok (.lconst 0, 1) := by decide +kernel
theorem dX6_pairSet_15 : decode cX6_pairSet 15 = .ok (.lastore, 1) := by decide +kernel
theorem dX6_pairSet_16 : decode cX6_pairSet 16 = .ok (.iconst 0, 1) := by decide +kernel
theorem dX6_pairSet_17 : decode cX6_pairSet 17 = .ok (.istore_n 2, 1) := by decide +kernel
theorem dX6_pairSet_18 : decode cX6_pairSet 18 = .ok (.iload_n 1, 1) := by decide +kernel
theorem dX6_pairSet_19 : decode cX6_pairSet 19 = .ok (.iload_n 2, 1) := by decide +kernel
theorem dX6_pairSet_20 : decode cX6_pairSet 20 = .ok (.ishr, 1) := by decide +kernel
theorem dX6_pairSet_21 : decode cX6_pairSet 21 = .ok (.iconst 1, 1) := by decide +kernel
theorem dX6_pairSet_22 : decode cX6_pairSet 22 = .ok (.iand, 1) := by decide +kernel
theorem dX6_pairSet_23 : decode cX6_pairSet 23 = .ok (.ifCond .ne 9, 3) := by decide +kernel
theorem dX6_pairSet_26 : decode cX6_pairSet 26 = .ok (.iinc 2 1, 3) := by decide +kernel
theorem dX6_pairSet_29 : decode cX6_pairSet 29 = .ok (.goto (-11), 3) := by decide +kernel
theorem dX6_pairSet_32 : decode cX6_pairSet 32 = .ok (.iload_n 2, 1) := by decide +kernel
theorem dX6_pairSet_33 : decode cX6_pairSet 33 = .ok (.iconst 1, 1) := by decide +kernel
theorem dX6_pairSet_34 : decode cX6_pairSet 34 = .ok (.iadd, 1) := by decide +kernel
theorem dX6_pairSet_35 : decode cX6_pairSet 35 = .ok (.istore_n 3, 1) := by decide +kernel
theorem dX6_pairSet_36 : decode cX6_pairSet 36 = .ok (.iload_n 3, 1) := by decide +kernel
theorem dX6_pairSet_37 : decode cX6_pairSet 37 = .ok (.aload_n 0, 1) := by decide +kernel
theorem dX6_pairSet_38 : decode cX6_pairSet 38 = .ok (.getfield 142, 3) := by decide +kernel
theorem dX6_pairSet_41 : decode cX6_pairSet 41 = .ok (.if_icmp .ge 169, 3) := by decide +kernel
theorem dX6_pairSet_44 : decode cX6_pairSet 44 = .ok (.iload_n 1, 1) := by decide +kernel
theorem dX6_pairSet_45 : decode cX6_pairSet 45 = .ok (.iload_n 3, 1) := by decide +kernel
theorem dX6_pairSet_46 : decode cX6_pairSet 46 = .ok (.ishr, 1) := by decide +kernel
theorem dX6_pairSet_47 : decode cX6_pairSet 47 = .ok (.iconst 1, 1) := by decide +kernel
theorem dX6_pairSet_48 : decode cX6_pairSet 48 = .ok (.iand, 1) := by decide +kernel
theorem dX6_pairSet_49 : decode cX6_pairSet 49 = .ok (.ifCond .ne 6, 3) := by decide +kernel
theorem dX6_pairSet_52 : decode cX6_pairSet 52 = .ok (.goto 152, 3) := by decide +kernel
theorem dX6_pairSet_55 : decode cX6_pairSet 55 = .ok (.iload_n 1, 1) := by decide +kernel
theorem dX6_pairSet_56 : decode cX6_pairSet 56 = .ok (.iconst 1, 1) := by decide +kernel
theorem dX6_pairSet_57 : decode cX6_pairSet 57 = .ok (.iload_n 2, 1) := by decide +kernel
theorem dX6_pairSet_58 : decode cX6_pairSet 58 = .ok (.ishl, 1) := by decide +kernel
theorem dX6_pairSet_59 : decode cX6_pairSet 59 = .ok (.isub, 1) := by decide +kernel
theorem dX6_pairSet_60 : decode cX6_pairSet 60 = .ok (.iconst 1, 1) := by decide +kernel
theorem dX6_pairSet_61 : decode cX6_pairSet 61 = .ok (.iload_n 3, 1) := by decide +kernel
theorem dX6_pairSet_62 : decode cX6_pairSet 62 = .ok (.ishl, 1) := by decide +kernel
theorem dX6_pairSet_63 : decode cX6_pairSet 63 = .ok (.isub, 1) := by decide +kernel
theorem dX6_pairSet_64 : decode cX6_pairSet 64 = .ok (.istore 4, 2) := by decide +kernel
theorem dX6_pairSet_66 : decode cX6_pairSet 66 = .ok (.bipush 16, 2) := by decide +kernel
theorem dX6_pairSet_68 : decode cX6_pairSet 68 = .ok (.aload_n 0, 1) := by decide +kernel
theorem dX6_pairSet_69 : decode cX6_pairSet 69 = .ok (.getfield 39, 3) := by decide +kernel
theorem dX6_pairSet_72 : decode cX6_pairSet 72 = .ok (.iload_n 2, 1) := by decide +kernel
theorem dX6_pairSet_73 : decode cX6_pairSet 73 = .ok (.iaload, 1) := by decide +kernel
theorem dX6_pairSet_74 : decode cX6_pairSet 74 = .ok (.imul, 1) := by decide +kernel
theorem dX6_pairSet_75 : decode cX6_pairSet 75 = .ok (.aload_n 0, 1) := by decide +kernel
theorem dX6_pairSet_76 : decode cX6_pairSet 76 = .ok (.getfield 39, 3) := by decide +kernel
theorem dX6_pairSet_79 : decode cX6_pairSet 79 = .ok (.iload_n 3, 1) := by decide +kernel
theorem dX6_pairSet_80 : decode cX6_pairSet 80 = .ok (.iaload, 1) := by decide +kernel
theorem dX6_pairSet_81 : decode cX6_pairSet 81 = .ok (.iadd, 1) := by decide +kernel
theorem dX6_pairSet_82 : decode cX6_pairSet 82 = .ok (.istore 5, 2) := by decide +kernel
theorem dX6_pairSet_84 : decode cX6_pairSet 84 = .ok (.aload_n 0, 1) := by decide +kernel
theorem dX6_pairSet_85 : decode cX6_pairSet 85 = .ok (.getfield 43, 3) := by decide +kernel
theorem dX6_pairSet_88 : decode cX6_pairSet 88 = .ok (.iload 4, 2) := by decide +kernel
theorem dX6_pairSet_90 : decode cX6_pairSet 90 = .ok (.laload, 1) := by decide +kernel
theorem dX6_pairSet_91 : decode cX6_pairSet 91 = .ok (.ldc2_w 103, 3) := by decide +kernel
theorem dX6_pairSet_94 : decode cX6_pairSet 94 = .ok (.lcmp, 1) := by decide +kernel
theorem dX6_pairSet_95 : decode cX6_pairSet 95 = .ok (.ifCond .ge 109, 3) := by decide +kernel
theorem dX6_pairSet_98 : decode cX6_pairSet 98 = .ok (.aload_n 0, 1) := by decide +kernel
theorem dX6_pairSet_99 : decode cX6_pairSet 99 = .ok (.getfield 32, 3) := by decide +kernel
theorem dX6_pairSet_102 : decode cX6_pairSet 102 = .ok (.iload 5, 2) := by decide +kernel
theorem dX6_pairSet_104 : decode cX6_pairSet 104 = .ok (.laload, 1) := by decide +kernel
theorem dX6_pairSet_105 : decode cX6_pairSet 105 = .ok (.ldc2_w 103, 3) := by decide +kernel
theorem dX6_pairSet_108 : decode cX6_pairSet 108 = .ok (.lcmp, 1) := by decide +kernel
theorem dX6_pairSet_109 : decode cX6_pairSet 109 = .ok (.ifCond .lt 6, 3) := by decide +kernel
theorem dX6_pairSet_112 : decode cX6_pairSet 112 = .ok (.goto 92, 3) := by decide +kernel
theorem dX6_pairSet_115 : decode cX6_pairSet 115 = .ok (.aload_n 0, 1) := by decide +kernel
theorem dX6_pairSet_116 : decode cX6_pairSet 116 = .ok (.getfield 43, 3) := by decide +kernel
theorem dX6_pairSet_119 : decode cX6_pairSet 119 = .ok (.iload 4, 2) := by decide +kernel
theorem dX6_pairSet_121 : decode cX6_pairSet 121 = .ok (.laload, 1) := by decide +kernel
theorem dX6_pairSet_122 : decode cX6_pairSet 122 = .ok (.aload_n 0, 1) := by decide +kernel
theorem dX6_pairSet_123 : decode cX6_pairSet 123 = .ok (.getfield 32, 3) := by decide +kernel
theorem dX6_pairSet_126 : decode cX6_pairSet 126 = .ok (.iload 5, 2) := by decide +kernel
theorem dX6_pairSet_128 : decode cX6_pairSet 128 = .ok (.laload, 1) := by decide +kernel
theorem dX6_pairSet_129 : decode cX6_pairSet 129 = .ok (.ladd, 1) := by decide +kernel
theorem dX6_pairSet_130 : decode cX6_pairSet 130 = .ok (.lstore 6, 2) := by decide +kernel
theorem dX6_pairSet_132 : decode cX6_pairSet 132 = .ok (.aload_n 0, 1) := by decide +kernel
theorem dX6_pairSet_133 : decode cX6_pairSet 133 = .ok (.getfield 46, 3) := by decide +kernel
theorem dX6_pairSet_136 : decode cX6_pairSet 136 = .ok (.iload 4, 2) := by decide +kernel
theorem dX6_pairSet_138 : decode cX6_pairSet 138 = .ok (.laload, 1) := by decide +kernel
theorem dX6_pairSet_139 : decode cX6_pairSet 139 = .ok (.aload_n 0, 1) := by decide +kernel
theorem dX6_pairSet_140 : decode cX6_pairSet 140 = .ok (.getfield 36, 3) := by decide +kernel
theorem dX6_pairSet_143 : decode cX6_pairSet 143 = .ok (.iload 5, 2) := by decide +kernel
theorem dX6_pairSet_145 : decode cX6_pairSet 145 = .ok (.laload, 1) := by decide +kernel
theorem dX6_pairSet_146 : decode cX6_pairSet 146 = .ok (.ladd, 1) := by decide +kernel
theorem dX6_pairSet_147 : decode cX6_pairSet 147 = .ok (.lstore 8, 2) := by decide +kernel
theorem dX6_pairSet_149 : decode cX6_pairSet 149 = .ok (.lload 6, 2) := by decide +kernel
theorem dX6_pairSet_151 : decode cX6_pairSet 151 = .ok (.aload_n 0, 1) := by decide +kernel
theorem dX6_pairSet_152 : decode cX6_pairSet 152 = .ok (.getfield 43, 3) := by decide +kernel
theorem dX6_pairSet_155 : decode cX6_pairSet 155 = .ok (.iload_n 1, 1) := by decide +kernel
theorem dX6_pairSet_156 : decode cX6_pairSet 156 = .ok (.laload, 1) := by decide +kernel
theorem dX6_pairSet_157 : decode cX6_pairSet 157 = .ok (.lcmp, 1) := by decide +kernel
theorem dX6_pairSet_158 : decode cX6_pairSet 158 = .ok (.ifCond .gt 46, 3) := by decide +kernel
theorem dX6_pairSet_161 : decode cX6_pairSet 161 = .ok (.lload 6, 2) := by decide +kernel
theorem dX6_pairSet_163 : decode cX6_pairSet 163 = .ok (.aload_n 0, 1) := by decide +kernel
theorem dX6_pairSet_164 : decode cX6_pairSet 164 = .ok (.getfield 43, 3) := by decide +kernel
theorem dX6_pairSet_167 : decode cX6_pairSet 167 = .ok (.iload_n 1, 1) := by decide +kernel
theorem dX6_pairSet_168 : decode cX6_pairSet 168 = .ok (.laload, 1) := by decide +kernel
theorem dX6_pairSet_169 : decode cX6_pairSet 169 = .ok (.lcmp, 1) := by decide +kernel
theorem dX6_pairSet_170 : decode cX6_pairSet 170 = .ok (.ifCond .ne 18, 3) := by decide +kernel
theorem dX6_pairSet_173 : decode cX6_pairSet 173 = .ok (.lload 8, 2) := by decide +kernel
theorem dX6_pairSet_175 : decode cX6_pairSet 175 = .ok (.aload_n 0, 1) := by decide +kernel
theorem dX6_pairSet_176 : decode cX6_pairSet 176 = .ok (.getfield 46, 3) := by decide +kernel
theorem dX6_pairSet_179 : decode cX6_pairSet 179 = .ok (.iload_n 1, 1) := by decide +kernel
theorem dX6_pairSet_180 : decode cX6_pairSet 180 = .ok (.laload, 1) := by decide +kernel
theorem dX6_pairSet_181 : decode cX6_pairSet 181 = .ok (.lcmp, 1) := by decide +kernel
theorem dX6_pairSet_182 : decode cX6_pairSet 182 = .ok (.ifCond .lt 6, 3) := by decide +kernel
theorem dX6_pairSet_185 : decode cX6_pairSet 185 = .ok (.goto 19, 3) := by decide +kernel
theorem dX6_pairSet_188 : decode cX6_pairSet 188 = .ok (.aload_n 0, 1) := by decide +kernel
theorem dX6_pairSet_189 : decode cX6_pairSet 189 = .ok (.getfield 43, 3) := by decide +kernel
theorem dX6_pairSet_192 : decode cX6_pairSet 192 = .ok (.iload_n 1, 1) := by decide +kernel
theorem dX6_pairSet_193 : decode cX6_pairSet 193 = .ok (.lload 6, 2) := by decide +kernel
theorem dX6_pairSet_195 : decode cX6_pairSet 195 = .ok (.lastore, 1) := by decide +kernel
theorem dX6_pairSet_196 : decode cX6_pairSet 196 = .ok (.aload_n 0, 1) := by decide +kernel
theorem dX6_pairSet_197 : decode cX6_pairSet 197 = .ok (.getfield 46, 3) := by decide +kernel
theorem dX6_pairSet_200 : decode cX6_pairSet 200 = .ok (.iload_n 1, 1) := by decide +kernel
theorem dX6_pairSet_201 : decode cX6_pairSet 201 = .ok (.lload 8, 2) := by decide +kernel
theorem dX6_pairSet_203 : decode cX6_pairSet 203 = .ok (.lastore, 1) := by decide +kernel
theorem dX6_pairSet_204 : decode cX6_pairSet 204 = .ok (.iinc 3 1, 3) := by decide +kernel
theorem dX6_pairSet_207 : decode cX6_pairSet 207 = .ok (.goto (-171), 3) := by decide +kernel
theorem dX6_pairSet_210 : decode cX6_pairSet 210 = .ok (.return_, 1) := by decide +kernel
theorem dX6_addEdge_0 : decode cX6_addEdge 0 = .ok (.iconst 0, 1) := by decide +kernel
theorem dX6_addEdge_1 : decode cX6_addEdge 1 = .ok (.istore 4, 2) := by decide +kernel
theorem dX6_addEdge_3 : decode cX6_addEdge 3 = .ok (.iload 4, 2) := by decide +kernel
theorem dX6_addEdge_5 : decode cX6_addEdge 5 = .ok (.bipush 41, 2) := by decide +kernel
theorem dX6_addEdge_7 : decode cX6_addEdge 7 = .ok (.if_icmp .ge 28, 3) := by decide +kernel
theorem dX6_addEdge_10 : decode cX6_addEdge 10 = .ok (.aload_n 0, 1) := by decide +kernel
theorem dX6_addEdge_11 : decode cX6_addEdge 11 = .ok (.getfield 62, 3) := by decide +kernel
theorem dX6_addEdge_14 : decode cX6_addEdge 14 = .ok (.iload 4, 2) := by decide +kernel
theorem dX6_addEdge_16 : decode cX6_addEdge 16 = .ok (.aload_n 0, 1) := by decide +kernel
theorem dX6_addEdge_17 : decode cX6_addEdge 17 = .ok (.getfield 52, 3) := by decide +kernel
theorem dX6_addEdge_20 : decode cX6_addEdge 20 = .ok (.bipush 41, 2) := by decide +kernel
theorem dX6_addEdge_22 : decode cX6_addEdge 22 = .ok (.iload_n 1, 1) := by decide +kernel
theorem dX6_addEdge_23 : decode cX6_addEdge 23 = .ok (.imul, 1) := by decide +kernel
theorem dX6_addEdge_24 : decode cX6_addEdge 24 = .ok (.iload 4, 2) := by decide +kernel
theorem dX6_addEdge_26 : decode cX6_addEdge 26 = .ok (.iadd, 1) := by decide +kernel
theorem dX6_addEdge_27 : decode cX6_addEdge 27 = .ok (.laload, 1) := by decide +kernel
theorem dX6_addEdge_28 : decode cX6_addEdge 28 = .ok (.lastore, 1) := by decide +kernel
theorem dX6_addEdge_29 : decode cX6_addEdge 29 = .ok (.iinc 4 1, 3) := by decide +kernel
theorem dX6_addEdge_32 : decode cX6_addEdge 32 = .ok (.goto (-29), 3) := by decide +kernel
theorem dX6_addEdge_35 : decode cX6_addEdge 35 = .ok (.aload_n 0, 1) := by decide +kernel
theorem dX6_addEdge_36 : decode cX6_addEdge 36 = .ok (.getfield 62, 3) := by decide +kernel
theorem dX6_addEdge_39 : decode cX6_addEdge 39 = .ok (.iconst 0, 1) := by decide +kernel
theorem dX6_addEdge_40 : decode cX6_addEdge 40 = .ok (.dup2, 1) := by decide +kernel
theorem dX6_addEdge_41 : decode cX6_addEdge 41 = .ok (.laload, 1) := by decide +kernel
theorem dX6_addEdge_42 : decode cX6_addEdge 42 = .ok (.iload_n 3, 1) := by decide +kernel
theorem dX6_addEdge_43 : decode cX6_addEdge 43 = .ok (.i2l, 1) := by decide +kernel
theorem dX6_addEdge_44 : decode cX6_addEdge 44 = .ok (.aload_n 0, 1) := by decide +kernel
theorem dX6_addEdge_45 : decode cX6_addEdge 45 = .ok (.getfield 20, 3) := by decide +kernel
theorem dX6_addEdge_48 : decode cX6_addEdge 48 = .ok (.iload_n 2, 1) := by decide +kernel
theorem dX6_addEdge_49 : decode cX6_addEdge 49 = .ok (.iaload, 1) := by decide +kernel
theorem dX6_addEdge_50 : decode cX6_addEdge 50 = .ok (.i2l, 1) := by decide +kernel
theorem dX6_addEdge_51 : decode cX6_addEdge 51 = .ok (.lmul, 1) := by decide +kernel
theorem dX6_addEdge_52 : decode cX6_addEdge 52 = .ok (.ladd, 1) := by decide +kernel
theorem dX6_addEdge_53 : decode cX6_addEdge 53 = .ok (.lastore, 1) := by decide +kernel
theorem dX6_addEdge_54 : decode cX6_addEdge 54 = .ok (.aload_n 0, 1) := by decide +kernel
theorem dX6_addEdge_55 : decode cX6_addEdge 55 = .ok (.getfield 62, 3) := by decide +kernel
theorem dX6_addEdge_58 : decode cX6_addEdge 58 = .ok (.iload_n 2, 1) := by decide +kernel
theorem dX6_addEdge_59 : decode cX6_addEdge 59 = .ok (.iconst 1, 1) := by decide +kernel
theorem dX6_addEdge_60 : decode cX6_addEdge 60 = .ok (.iadd, 1) := by decide +kernel
theorem dX6_addEdge_61 : decode cX6_addEdge 61 = .ok (.dup2, 1) := by decide +kernel
theorem dX6_addEdge_62 : decode cX6_addEdge 62 = .ok (.laload, 1) := by decide +kernel
theorem dX6_addEdge_63 : decode cX6_addEdge 63 = .ok (.iload_n 3, 1) := by decide +kernel
theorem dX6_addEdge_64 : decode cX6_addEdge 64 = .ok (.i2l, 1) := by decide +kernel
theorem dX6_addEdge_65 : decode cX6_addEdge 65 = .ok (.ladd, 1) := by decide +kernel
theorem dX6_addEdge_66 : decode cX6_addEdge 66 = .ok (.lastore, 1) := by decide +kernel
theorem dX6_addEdge_67 : decode cX6_addEdge 67 = .ok (.return_, 1) := by decide +kernel
theorem dX6_isSumLess_0 : decode cX6_isSumLess 0 = .ok (.aload_n 0, 1) := by decide +kernel
theorem dX6_isSumLess_1 : decode cX6_isSumLess 1 = .ok (.getfield 55, 3) := by decide +kernel
theorem dX6_isSumLess_4 : decode cX6_isSumLess 4 = .ok (.iload_n 1, 1) := by decide +kernel
theorem dX6_isSumLess_5 : decode cX6_isSumLess 5 = .ok (.baload, 1) := by decide +kernel
theorem dX6_isSumLess_6 : decode cX6_isSumLess 6 = .ok (.ifCond .ne 5, 3) := by decide +kernel
theorem dX6_isSumLess_9 : decode cX6_isSumLess 9 = .ok (.iconst 1, 1) := by decide +kernel
theorem dX6_isSumLess_10 : decode cX6_isSumLess 10 = .ok (.ireturn, 1) := by decide +kernel
theorem dX6_isSumLess_11 : decode cX6_isSumLess 11 = .ok (.iconst 0, 1) := by decide +kernel
theorem dX6_isSumLess_12 : decode cX6_isSumLess 12 = .ok (.istore_n 2, 1) := by decide +kernel
theorem dX6_isSumLess_13 : decode cX6_isSumLess 13 = .ok (.iload_n 2, 1) := by decide +kernel
theorem dX6_isSumLess_14 : decode cX6_isSumLess 14 = .ok (.bipush 41, 2) := by decide +kernel
theorem dX6_isSumLess_16 : decode cX6_isSumLess 16 = .ok (.if_icmp .ge 57, 3) := by decide +kernel
theorem dX6_isSumLess_19 : decode cX6_isSumLess 19 = .ok (.aload_n 0, 1) := by decide +kernel
theorem dX6_isSumLess_20 : decode cX6_isSumLess 20 = .ok (.getfield 62, 3) := by decide +kernel
theorem dX6_isSumLess_23 : decode cX6_isSumLess 23 = .ok (.iload_n 2, 1) := by decide +kernel
theorem dX6_isSumLess_24 : decode cX6_isSumLess 24 = .ok (.laload, 1) := by decide +kernel
theorem dX6_isSumLess_25 : decode cX6_isSumLess 25 = .ok (.aload_n 0, 1) := by decide +kernel
theorem dX6_isSumLess_26 : decode cX6_isSumLess 26 = .ok (.getfield 52, 3) := by decide +kernel
theorem dX6_isSumLess_29 : decode cX6_isSumLess 29 = .ok (.bipush 41, 2) := by decide +kernel
theorem dX6_isSumLess_31 : decode cX6_isSumLess 31 = .ok (.iload_n 1, 1) := by decide +kernel
theorem dX6_isSumLess_32 : decode cX6_isSumLess 32 = .ok (.imul, 1) := by decide +kernel
theorem dX6_isSumLess_33 : decode cX6_isSumLess 33 = .ok (.iload_n 2, 1) := by decide +kernel
theorem dX6_isSumLess_34 : decode cX6_isSumLess 34 = .ok (.iadd, 1) := by decide +kernel
theorem dX6_isSumLess_35 : decode cX6_isSumLess 35 = .ok (.laload, 1) := by decide +kernel
theorem dX6_isSumLess_36 : decode cX6_isSumLess 36 = .ok (.lcmp, 1) := by decide +kernel
theorem dX6_isSumLess_37 : decode cX6_isSumLess 37 = .ok (.ifCond .eq 30, 3) := by decide +kernel
theorem dX6_isSumLess_40 : decode cX6_isSumLess 40 = .ok (.aload_n 0, 1) := by decide +kernel
theorem dX6_isSumLess_41 : decode cX6_isSumLess 41 = .ok (.getfield 62, 3) := by decide +kernel
theorem dX6_isSumLess_44 : decode cX6_isSumLess 44 = .ok (.iload_n 2, 1) := by decide +kernel
theorem dX6_isSumLess_45 : decode cX6_isSumLess 45 = .ok (.laload, 1) := by decide +kernel
theorem dX6_isSumLess_46 : decode cX6_isSumLess 46 = .ok (.aload_n 0, 1) := by decide +kernel
theorem dX6_isSumLess_47 : decode cX6_isSumLess 47 = .ok (.getfield 52, 3) := by decide +kernel
theorem dX6_isSumLess_50 : decode cX6_isSumLess 50 = .ok (.bipush 41, 2) := by decide +kernel
theorem dX6_isSumLess_52 : decode cX6_isSumLess 52 = .ok (.iload_n 1, 1) := by decide +kernel
theorem dX6_isSumLess_53 : decode cX6_isSumLess 53 = .ok (.imul, 1) := by decide +kernel
theorem dX6_isSumLess_54 : decode cX6_isSumLess 54 = .ok (.iload_n 2, 1) := by decide +kernel
theorem dX6_isSumLess_55 : decode cX6_isSumLess 55 = .ok (.iadd, 1) := by decide +kernel
theorem dX6_isSumLess_56 : decode cX6_isSumLess 56 = .ok (.laload, 1) := by decide +kernel
theorem dX6_isSumLess_57 : decode cX6_isSumLess 57 = .ok (.lcmp, 1) := by decide +kernel
theorem dX6_isSumLess_58 : decode cX6_isSumLess 58 = .ok (.ifCond .ge 7, 3) := by decide +kernel
theorem dX6_isSumLess_61 : decode cX6_isSumLess 61 = .ok (.iconst 1, 1) := by decide +kernel
theorem dX6_isSumLess_62 : decode cX6_isSumLess 62 = .ok (.goto 4, 3) := by decide +kernel
theorem dX6_isSumLess_65 : decode cX6_isSumLess 65 = .ok (.iconst 0, 1) := by decide +kernel
theorem dX6_isSumLess_66 : decode cX6_isSumLess 66 = .ok (.ireturn, 1) := by decide +kernel
theorem dX6_isSumLess_67 : decode cX6_isSumLess 67 = .ok (.iinc 2 1, 3) := by decide +kernel
theorem dX6_isSumLess_70 : decode cX6_isSumLess 70 = .ok (.goto (-57), 3) := by decide +kernel
theorem dX6_isSumLess_73 : decode cX6_isSumLess 73 = .ok (.iconst 0, 1) := by decide +kernel
theorem dX6_isSumLess_74 : decode cX6_isSumLess 74 = .ok (.ireturn, 1) := by decide +kernel
theorem dX6_reach_0 : decode cX6_reach 0 = .ok (.aload_n 0, 1) := by decide +kernel
theorem dX6_reach_1 : decode cX6_reach 1 = .ok (.getfield 55, 3) := by decide +kernel
theorem dX6_reach_4 : decode cX6_reach 4 = .ok (.iload_n 1, 1) := by decide +kernel
theorem dX6_reach_5 : decode cX6_reach 5 = .ok (.baload, 1) := by decide +kernel
theorem dX6_reach_6 : decode cX6_reach 6 = .ok (.ifCond .ne 5, 3) := by decide +kernel
theorem dX6_reach_9 : decode cX6_reach 9 = .ok (.iconst 0, 1) := by decide +kernel
theorem dX6_reach_10 : decode cX6_reach 10 = .ok (.ireturn, 1) := by decide +kernel
theorem dX6_reach_11 : decode cX6_reach 11 = .ok (.aload_n 0, 1) := by decide +kernel
theorem dX6_reach_12 : decode cX6_reach 12 = .ok (.iload_n 1, 1) := by decide +kernel
theorem dX6_reach_13 : decode cX6_reach 13 = .ok (.iload_n 3, 1) := by decide +kernel
theorem dX6_reach_14 : decode cX6_reach 14 = .ok (.iload 4, 2) := by decide +kernel
theorem dX6_reach_16 : decode cX6_reach 16 = .ok (.invokevirtual 148, 3) := by decide +kernel
theorem dX6_reach_19 : decode cX6_reach 19 = .ok (.aload_n 0, 1) := by decide +kernel
theorem dX6_reach_20 : decode cX6_reach 20 = .ok (.iload_n 2, 1) := by decide +kernel
theorem dX6_reach_21 : decode cX6_reach 21 = .ok (.invokevirtual 152, 3) := by decide +kernel
theorem dX6_reach_24 : decode cX6_reach 24 = .ok (.ifCond .ne 5, 3) := by decide +kernel
theorem dX6_reach_27 : decode cX6_reach 27 = .ok (.iconst 0, 1) := by decide +kernel
theorem dX6_reach_28 : decode cX6_reach 28 = .ok (.ireturn, 1) := by decide +kernel
theorem dX6_reach_29 : decode cX6_reach 29 = .ok (.aload_n 0, 1) := by decide +kernel
theorem dX6_reach_30 : decode cX6_reach 30 = .ok (.getfield 55, 3) := by decide +kernel
theorem dX6_reach_33 : decode cX6_reach 33 = .ok (.iload_n 2, 1) := by decide +kernel
theorem dX6_reach_34 : decode cX6_reach 34 = .ok (.iconst 1, 1) := by decide +kernel
theorem dX6_reach_35 : decode cX6_reach 35 = .ok (.bastore, 1) := by decide +kernel
theorem dX6_reach_36 : decode cX6_reach 36 = .ok (.aload_n 0, 1) := by decide +kernel
theorem dX6_reach_37 : decode cX6_reach 37 = .ok (.getfield 59, 3) := by decide +kernel
theorem dX6_reach_40 : decode cX6_reach 40 = .ok (.iload_n 2, 1) := by decide +kernel
theorem dX6_reach_41 : decode cX6_reach 41 = .ok (.iload 4, 2) := by decide +kernel
theorem dX6_reach_43 : decode cX6_reach 43 = .ok (.ifCond .le 7, 3) := by decide +kernel
theorem dX6_reach_46 : decode cX6_reach 46 = .ok (.iload_n 3, 1) := by decide +kernel
theorem dX6_reach_47 : decode cX6_reach 47 = .ok (.goto 7, 3) := by decide +kernel
theorem dX6_reach_50 : decode cX6_reach 50 = .ok (.bipush 40, 2) := by decide +kernel
theorem dX6_reach_52 : decode cX6_reach 52 = .ok (.iload_n 3, 1) := by decide +kernel
theorem dX6_reach_53 : decode cX6_reach 53 = .ok (.iadd, 1) := by decide +kernel
theorem dX6_reach_54 : decode cX6_reach 54 = .ok (.iastore, 1) := by decide +kernel
theorem dX6_reach_55 : decode cX6_reach 55 = .ok (.iconst 0, 1) := by decide +kernel
theorem dX6_reach_56 : decode cX6_reach 56 = .ok (.istore 5, 2) := by decide +kernel
theorem dX6_reach_58 : decode cX6_reach 58 = .ok (.iload 5, 2) := by decide +kernel
theorem dX6_reach_60 : decode cX6_reach 60 = .ok (.bipush 41, 2) := by decide +kernel
theorem dX6_reach_62 : decode cX6_reach 62 = .ok (.if_icmp .ge 28, 3) := by decide +kernel
theorem dX6_reach_65 : decode cX6_reach 65 = .ok (.aload_n 0, 1) := by decide +kernel
theorem dX6_reach_66 : decode cX6_reach 66 = .ok (.getfield 52, 3) := by decide +kernel
theorem dX6_reach_69 : decode cX6_reach 69 = .ok (.bipush 41, 2) := by decide +kernel
theorem dX6_reach_71 : decode cX6_reach 71 = .ok (.iload_n 2, 1) := by decide +kernel
theorem dX6_reach_72 : decode cX6_reach 72 = .ok (.imul, 1) := by decide +kernel
theorem dX6_reach_73 : decode cX6_reach 73 = .ok (.iload 5, 2) := by decide +kernel
theorem dX6_reach_75 : decode cX6_reach 75 = .ok (.iadd, 1) := by decide +kernel
theorem dX6_reach_76 : decode cX6_reach 76 = .ok (.aload_n 0, 1) := by decide +kernel
theorem dX6_reach_77 : decode cX6_reach 77 = .ok (.getfield 62, 3) := by decide +kernel
theorem dX6_reach_80 : decode cX6_reach 80 = .ok (.iload 5, 2) := by decide +kernel
theorem dX6_reach_82 : decode cX6_reach 82 = .ok (.laload, 1) := by decide +kernel
theorem dX6_reach_83 : decode cX6_reach 83 = .ok (.lastore, 1) := by decide +kernel
theorem dX6_reach_84 : decode cX6_reach 84 = .ok (.iinc 5 1, 3) := by decide +kernel
theorem dX6_reach_87 : decode cX6_reach 87 = .ok (.goto (-29), 3) := by decide +kernel
theorem dX6_reach_90 : decode cX6_reach 90 = .ok (.iconst 1, 1) := by decide +kernel
theorem dX6_reach_91 : decode cX6_reach 91 = .ok (.ireturn, 1) := by decide +kernel
theorem dX6_spread_0 : decode cX6_spread 0 = .ok (.iconst 0, 1) := by decide +kernel
theorem dX6_spread_1 : decode cX6_spread 1 = .ok (.istore_n 1, 1) := by decide +kernel
theorem dX6_spread_2 : decode cX6_spread 2 = .ok (.iload_n 1, 1) := by decide +kernel
theorem dX6_spread_3 : decode cX6_spread 3 = .ok (.aload_n 0, 1) := by decide +kernel
theorem dX6_spread_4 : decode cX6_spread 4 = .ok (.getfield 7, 3) := by decide +kernel
theorem dX6_spread_7 : decode cX6_spread 7 = .ok (.if_icmp .ge 62, 3) := by decide +kernel
theorem dX6_spread_10 : decode cX6_spread 10 = .ok (.aload_n 0, 1) := by decide +kernel
theorem dX6_spread_11 : decode cX6_spread 11 = .ok (.getfield 55, 3) := by decide +kernel
theorem dX6_spread_14 : decode cX6_spread 14 = .ok (.iload_n 1, 1) := by decide +kernel
theorem dX6_spread_15 : decode cX6_spread 15 = .ok (.aload_n 0, 1) := by decide +kernel
theorem dX6_spread_16 : decode cX6_spread 16 = .ok (.getfield 49, 3) := by decide +kernel
theorem dX6_spread_19 : decode cX6_spread 19 = .ok (.iload_n 1, 1) := by decide +kernel
theorem dX6_spread_20 : decode cX6_spread 20 = .ok (.iaload, 1) := by decide +kernel
theorem dX6_spread_21 : decode cX6_spread 21 = .ok (.ifCond .le 7, 3) := by decide +kernel
theorem dX6_spread_24 : decode cX6_spread 24 = .ok (.iconst 1, 1) := by decide +kernel
theorem dX6_spread_25 : decode cX6_spread 25 = .ok (.goto 4, 3) := by decide +kernel
theorem dX6_spread_28 : decode cX6_spread 28 = .ok (.iconst 0, 1) := by decide +kernel
theorem dX6_spread_29 : decode cX6_spread 29 = .ok (.bastore, 1) := by decide +kernel
theorem dX6_spread_30 : decode cX6_spread 30 = .ok (.aload_n 0, 1) := by decide +kernel
theorem dX6_spread_31 : decode cX6_spread 31 = .ok (.getfield 59, 3) := by decide +kernel
theorem dX6_spread_34 : decode cX6_spread 34 = .ok (.iload_n 1, 1) := by decide +kernel
theorem dX6_spread_35 : decode cX6_spread 35 = .ok (.iconst (-1), 1) := by decide +kernel
theorem dX6_spread_36 : decode cX6_spread 36 = .ok (.iastore, 1) := by decide +kernel
theorem dX6_spread_37 : decode cX6_spread 37 = .ok (.iconst 0, 1) := by decide +kernel
theorem dX6_spread_38 : decode cX6_spread 38 = .ok (.istore_n 2, 1) := by decide +kernel
theorem dX6_spread_39 : decode cX6_spread 39 = .ok (.iload_n 2, 1) := by decide +kernel
theorem dX6_spread_40 : decode cX6_spread 40 = .ok (.bipush 41, 2) := by decide +kernel
theorem dX6_spread_42 : decode cX6_spread 42 = .ok (.if_icmp .ge 21, 3) := by decide +kernel
theorem dX6_spread_45 : decode cX6_spread 45 = .ok (.aload_n 0, 1) := by decide +kernel
theorem dX6_spread_46 : decode cX6_spread 46 = .ok (.getfield 52, 3) := by decide +kernel
theorem dX6_spread_49 : decode cX6_spread 49 = .ok (.bipush 41, 2) := by decide +kernel
theorem dX6_spread_51 : decode cX6_spread 51 = .ok (.iload_n 1, 1) := by decide +kernel
theorem dX6_spread_52 : decode cX6_spread 52 = .ok (.imul, 1) := by decide +kernel
theorem dX6_spread_53 : decode cX6_spread 53 = .ok (.iload_n 2, 1) := by decide +kernel
theorem dX6_spread_54 : decode cX6_spread 54 = .ok (.iadd, 1) := by decide +kernel
theorem dX6_spread_55 : decode cX6_spread 55 = .ok (.lconst 0, 1) := by decide +kernel
theorem dX6_spread_56 : decode cX6_spread 56 = .ok (.lastore, 1) := by decide +kernel
theorem dX6_spread_57 : decode cX6_spread 57 = .ok (.iinc 2 1, 3) := by decide +kernel
theorem dX6_spread_60 : decode cX6_spread 60 = .ok (.goto (-21), 3) := by decide +kernel
theorem dX6_spread_63 : decode cX6_spread 63 = .ok (.iinc 1 1, 3) := by decide +kernel
theorem dX6_spread_66 : decode cX6_spread 66 = .ok (.goto (-64), 3) := by decide +kernel
theorem dX6_spread_69 : decode cX6_spread 69 = .ok (.iconst 1, 1) := by decide +kernel
theorem dX6_spread_70 : decode cX6_spread 70 = .ok (.istore_n 1, 1) := by decide +kernel
theorem dX6_spread_71 : decode cX6_spread 71 = .ok (.iload_n 1, 1) := by decide +kernel
theorem dX6_spread_72 : decode cX6_spread 72 = .ok (.ifCond .eq 95, 3) := by decide +kernel
theorem dX6_spread_75 : decode cX6_spread 75 = .ok (.iconst 0, 1) := by decide +kernel
theorem dX6_spread_76 : decode cX6_spread 76 = .ok (.istore_n 1, 1) := by decide +kernel
theorem dX6_spread_77 : decode cX6_spread 77 = .ok (.iconst 0, 1) := by decide +kernel
theorem dX6_spread_78 : decode cX6_spread 78 = .ok (.istore_n 2, 1) := by decide +kernel
theorem dX6_spread_79 : decode cX6_spread 79 = .ok (.iload_n 2, 1) := by decide +kernel
theorem dX6_spread_80 : decode cX6_spread 80 = .ok (.aload_n 0, 1) := by decide +kernel
theorem dX6_spread_81 : decode cX6_spread 81 = .ok (.getfield 85, 3) := by decide +kernel
theorem dX6_spread_84 : decode cX6_spread 84 = .ok (.if_icmp .ge 80, 3) := by decide +kernel
theorem dX6_spread_87 : decode cX6_spread 87 = .ok (.aload_n 0, 1) := by decide +kernel
theorem dX6_spread_88 : decode cX6_spread 88 = .ok (.aload_n 0, 1) := by decide +kernel
theorem dX6_spread_89 : decode cX6_spread 89 = .ok (.getfield 13, 3) := by decide +kernel
theorem dX6_spread_92 : decode cX6_spread 92 = .ok (.iload_n 2, 1) := by decide +kernel
theorem dX6_spread_93 : decode cX6_spread 93 = .ok (.iaload, 1) := by decide +kernel
theorem dX6_spread_94 : decode cX6_spread 94 = .ok (.aload_n 0, 1) := by decide +kernel
theorem dX6_spread_95 : decode cX6_spread 95 = .ok (.getfield 17, 3) := by decide +kernel
theorem dX6_spread_98 : decode cX6_spread 98 = .ok (.iload_n 2, 1) := by decide +kernel
theorem dX6_spread_99 : decode cX6_spread 99 = .ok (.iaload, 1) := by decide +kernel
theorem dX6_spread_100 : decode cX6_spread 100 = .ok (.iload_n 2, 1) := by decide +kernel
theorem dX6_spread_101 : decode cX6_spread 101 = .ok (.iconst 1, 1) := by decide +kernel
theorem dX6_spread_102 : decode cX6_spread 102 = .ok (.invokevirtual 155, 3) := by decide +kernel
theorem dX6_spread_105 : decode cX6_spread 105 = .ok (.ifCond .ne 7, 3) := by decide +kernel
theorem dX6_spread_108 : decode cX6_spread 108 = .ok (.iload_n 1, 1) := by decide +kernel
theorem dX6_spread_109 : decode cX6_spread 109 = .ok (.ifCond .eq 7, 3) := by decide +kernel
theorem dX6_spread_112 : decode cX6_spread 112 = .ok (.iconst 1, 1) := by decide +kernel
theorem dX6_spread_113 : decode cX6_spread 113 = .ok (.goto 4, 3) := by decide +kernel
theorem dX6_spread_116 : decode cX6_spread 116 = .ok (.iconst 0, 1) := by decide +kernel
theorem dX6_spread_117 : decode cX6_spread 117 = .ok (.istore_n 1, 1) := by decide +kernel
theorem dX6_spread_118 : decode cX6_spread 118 = .ok (.aload_n 0, 1) := by decide +kernel
theorem dX6_spread_119 : decode cX6_spread 119 = .ok (.getfield 29, 3) := by decide +kernel
theorem dX6_spread_122 : decode cX6_spread 122 = .ok (.iload_n 2, 1) := by decide +kernel
theorem dX6_spread_123 : decode cX6_spread 123 = .ok (.iaload, 1) := by decide +kernel
theorem dX6_spread_124 : decode cX6_spread 124 = .ok (.ifCond .le 34, 3) := by decide +kernel
theorem dX6_spread_127 : decode cX6_spread 127 = .ok (.aload_n 0, 1) := by decide +kernel
theorem dX6_spread_128 : decode cX6_spread 128 = .ok (.aload_n 0, 1) := by decide +kernel
theorem dX6_spread_129 : decode cX6_spread 129 = .ok (.getfield 17, 3) := by decide +kernel
theorem dX6_spread_132 : decode cX6_spread 132 = .ok (.iload_n 2, 1) := by decide +kernel
theorem dX6_spread_133 : decode cX6_spread 133 = .ok (.iaload, 1) := by decide +kernel
theorem dX6_spread_134 : decode cX6_spread 134 = .ok (.aload_n 0, 1) := by decide +kernel
theorem dX6_spread_135 : decode cX6_spread 135 = .ok (.getfield 13, 3) := by decide +kernel
theorem dX6_spread_138 : decode cX6_spread 138 = .ok (.iload_n 2, 1) := by decide +kernel
theorem dX6_spread_139 : decode cX6_spread 139 = .ok (.iaload, 1) := by decide +kernel
theorem dX6_spread_140 : decode cX6_spread 140 = .ok (.iload_n 2, 1) := by decide +kernel
theorem dX6_spread_141 : decode cX6_spread 141 = .ok (.iconst (-1), 1) := by decide +kernel
theorem dX6_spread_142 : decode cX6_spread 142 = .ok (.invokevirtual 155, 3) := by decide +kernel
theorem dX6_spread_145 : decode cX6_spread 145 = .ok (.ifCond .ne 7, 3) := by decide +kernel
theorem dX6_spread_148 : decode cX6_spread 148 = .ok (.iload_n 1, 1) := by decide +kernel
theorem dX6_spread_149 : decode cX6_spread 149 = .ok (.ifCond .eq 7, 3) := by decide +kernel
theorem dX6_spread_152 : decode cX6_spread 152 = .ok (.iconst 1, 1) := by decide +kernel
theorem dX6_spread_153 : decode cX6_spread 153 = .ok (.goto 4, 3) := by decide +kernel
theorem dX6_spread_156 : decode cX6_spread 156 = .ok (.iconst 0, 1) := by decide +kernel
theorem dX6_spread_157 : decode cX6_spread 157 = .ok (.istore_n 1, 1) := by decide +kernel
theorem dX6_spread_158 : decode cX6_spread 158 = .ok (.iinc 2 1, 3) := by decide +kernel
theorem dX6_spread_161 : decode cX6_spread 161 = .ok (.goto (-82), 3) := by decide +kernel
theorem dX6_spread_164 : decode cX6_spread 164 = .ok (.goto (-93), 3) := by decide +kernel
theorem dX6_spread_167 : decode cX6_spread 167 = .ok (.return_, 1) := by decide +kernel
theorem dX6_nearest_0 : decode cX6_nearest 0 = .ok (.iconst (-1), 1) := by decide +kernel
theorem dX6_nearest_1 : decode cX6_nearest 1 = .ok (.istore_n 1, 1) := by decide +kernel
theorem dX6_nearest_2 : decode cX6_nearest 2 = .ok (.iconst 0, 1) := by decide +kernel
theorem dX6_nearest_3 : decode cX6_nearest 3 = .ok (.istore_n 2, 1) := by decide +kernel
theorem dX6_nearest_4 : decode cX6_nearest 4 = .ok (.iload_n 2, 1) := by decide +kernel
theorem dX6_nearest_5 : decode cX6_nearest 5 = .ok (.aload_n 0, 1) := by decide +kernel
theorem dX6_nearest_6 : decode cX6_nearest 6 = .ok (.getfield 7, 3) := by decide +kernel
theorem dX6_nearest_9 : decode cX6_nearest 9 = .ok (.if_icmp .ge 66, 3) := by decide +kernel
theorem dX6_nearest_12 : decode cX6_nearest 12 = .ok (.aload_n 0, 1) := by decide +kernel
theorem dX6_nearest_13 : decode cX6_nearest 13 = .ok (.getfield 49, 3) := by decide +kernel
theorem dX6_nearest_16 : decode cX6_nearest 16 = .ok (.iload_n 2, 1) := by decide +kernel
theorem dX6_nearest_17 : decode cX6_nearest 17 = .ok (.iaload, 1) := by decide +kernel
theorem dX6_nearest_18 : decode cX6_nearest 18 = .ok (.ifCond .lt 6, 3) := by decide +kernel
theorem dX6_nearest_21 : decode cX6_nearest 21 = .ok (.goto 48, 3) := by decide +kernel
theorem dX6_nearest_24 : decode cX6_nearest 24 = .ok (.iconst 0, 1) := by decide +kernel
theorem dX6_nearest_25 : decode cX6_nearest 25 = .ok (.istore_n 3, 1) := by decide +kernel
theorem dX6_nearest_26 : decode cX6_nearest 26 = .ok (.iload_n 3, 1) := by decide +kernel
theorem dX6_nearest_27 : decode cX6_nearest 27 = .ok (.bipush 41, 2) := by decide +kernel
theorem dX6_nearest_29 : decode cX6_nearest 29 = .ok (.if_icmp .ge 26, 3) := by decide +kernel
theorem dX6_nearest_32 : decode cX6_nearest 32 = .ok (.aload_n 0, 1) := by decide +kernel
theorem dX6_nearest_33 : decode cX6_nearest 33 = .ok (.getfield 62, 3) := by decide +kernel
theorem dX6_nearest_36 : decode cX6_nearest 36 = .ok (.iload_n 3, 1) := by decide +kernel
theorem dX6_nearest_37 : decode cX6_nearest 37 = .ok (.aload_n 0, 1) := by decide +kernel
theorem dX6_nearest_38 : decode cX6_nearest 38 = .ok (.getfield 52, 3) := by decide +kernel
theorem dX6_nearest_41 : decode cX6_nearest 41 = .ok (.bipush 41, 2) := by decide +kernel
theorem dX6_nearest_43 : decode cX6_nearest 43 = .ok (.iload_n 2, 1) := by decide +kernel
theorem dX6_nearest_44 : decode cX6_nearest 44 = .ok (.imul, 1) := by decide +kernel
theorem dX6_nearest_45 : decode cX6_nearest 45 = .ok (.iload_n 3, 1) := by decide +kernel
theorem dX6_nearest_46 : decode cX6_nearest 46 = .ok (.iadd, 1) := by decide +kernel
theorem dX6_nearest_47 : decode cX6_nearest 47 = .ok (.laload, 1) := by decide +kernel
theorem dX6_nearest_48 : decode cX6_nearest 48 = .ok (.lastore, 1) := by decide +kernel
theorem dX6_nearest_49 : decode cX6_nearest 49 = .ok (.iinc 3 1, 3) := by decide +kernel
theorem dX6_nearest_52 : decode cX6_nearest 52 = .ok (.goto (-26), 3) := by decide +kernel
theorem dX6_nearest_55 : decode cX6_nearest 55 = .ok (.iload_n 1, 1) := by decide +kernel
theorem dX6_nearest_56 : decode cX6_nearest 56 = .ok (.ifCond .lt 11, 3) := by decide +kernel
theorem dX6_nearest_59 : decode cX6_nearest 59 = .ok (.aload_n 0, 1) := by decide +kernel
theorem dX6_nearest_60 : decode cX6_nearest 60 = .ok (.iload_n 1, 1) := by decide +kernel
theorem dX6_nearest_61 : decode cX6_nearest 61 = .ok (.invokevirtual 152, 3) := by decide +kernel
theorem dX6_nearest_64 : decode cX6_nearest 64 = .ok (.ifCond .eq 5, 3) := by decide +kernel
theorem dX6_nearest_67 : decode cX6_nearest 67 = .ok (.iload_n 2, 1) := by decide +kernel
theorem dX6_nearest_68 : decode cX6_nearest 68 = .ok (.istore_n 1, 1) := by decide +kernel
theorem dX6_nearest_69 : decode cX6_nearest 69 = .ok (.iinc 2 1, 3) := by decide +kernel
theorem dX6_nearest_72 : decode cX6_nearest 72 = .ok (.goto (-68), 3) := by decide +kernel
theorem dX6_nearest_75 : decode cX6_nearest 75 = .ok (.iload_n 1, 1) := by decide +kernel
theorem dX6_nearest_76 : decode cX6_nearest 76 = .ok (.ireturn, 1) := by decide +kernel
theorem dX6_flow_0 : decode cX6_flow 0 = .ok (.iconst 0, 1) := by decide +kernel
theorem dX6_flow_1 : decode cX6_flow 1 = .ok (.istore_n 1, 1) := by decide +kernel
theorem dX6_flow_2 : decode cX6_flow 2 = .ok (.iload_n 1, 1) := by decide +kernel
theorem dX6_flow_3 : decode cX6_flow 3 = .ok (.aload_n 0, 1) := by decide +kernel
theorem dX6_flow_4 : decode cX6_flow 4 = .ok (.getfield 7, 3) := by decide +kernel
theorem dX6_flow_7 : decode cX6_flow 7 = .ok (.if_icmp .ge 20, 3) := by decide +kernel
theorem dX6_flow_10 : decode cX6_flow 10 = .ok (.aload_n 0, 1) := by decide +kernel
theorem dX6_flow_11 : decode cX6_flow 11 = .ok (.getfield 49, 3) := by decide +kernel
theorem dX6_flow_14 : decode cX6_flow 14 = .ok (.iload_n 1, 1) := by decide +kernel
theorem dX6_flow_15 : decode cX6_flow 15 = .ok (.aload_n 0, 1) := by decide +kernel
theorem dX6_flow_16 : decode cX6_flow 16 = .ok (.iload_n 1, 1) := by decide +kernel
theorem dX6_flow_17 : decode cX6_flow 17 = .ok (.invokevirtual 117, 3) := by decide +kernel
theorem dX6_flow_20 : decode cX6_flow 20 = .ok (.iastore, 1) := by decide +kernel
theorem dX6_flow_21 : decode cX6_flow 21 = .ok (.iinc 1 1, 3) := by decide +kernel
theorem dX6_flow_24 : decode cX6_flow 24 = .ok (.goto (-22), 3) := by decide +kernel
theorem dX6_flow_27 : decode cX6_flow 27 = .ok (.iconst 0, 1) := by decide +kernel
theorem dX6_flow_28 : decode cX6_flow 28 = .ok (.istore_n 1, 1) := by decide +kernel
theorem dX6_flow_29 : decode cX6_flow 29 = .ok (.iload_n 1, 1) := by decide +kernel
theorem dX6_flow_30 : decode cX6_flow 30 = .ok (.aload_n 0, 1) := by decide +kernel
theorem dX6_flow_31 : decode cX6_flow 31 = .ok (.getfield 85, 3) := by decide +kernel
theorem dX6_flow_34 : decode cX6_flow 34 = .ok (.if_icmp .ge 16, 3) := by decide +kernel
theorem dX6_flow_37 : decode cX6_flow 37 = .ok (.aload_n 0, 1) := by decide +kernel
theorem dX6_flow_38 : decode cX6_flow 38 = .ok (.getfield 29, 3) := by decide +kernel
theorem dX6_flow_41 : decode cX6_flow 41 = .ok (.iload_n 1, 1) := by decide +kernel
theorem dX6_flow_42 : decode cX6_flow 42 = .ok (.iconst 0, 1) := by decide +kernel
theorem dX6_flow_43 : decode cX6_flow 43 = .ok (.iastore, 1) := by decide +kernel
theorem dX6_flow_44 : decode cX6_flow 44 = .ok (.iinc 1 1, 3) := by decide +kernel
theorem dX6_flow_47 : decode cX6_flow 47 = .ok (.goto (-18), 3) := by decide +kernel
theorem dX6_flow_50 : decode cX6_flow 50 = .ok (.aload_n 0, 1) := by decide +kernel
theorem dX6_flow_51 : decode cX6_flow 51 = .ok (.invokevirtual 159, 3) := by decide +kernel
theorem dX6_flow_54 : decode cX6_flow 54 = .ok (.aload_n 0, 1) := by decide +kernel
theorem dX6_flow_55 : decode cX6_flow 55 = .ok (.invokevirtual 162, 3) := by decide +kernel
theorem dX6_flow_58 : decode cX6_flow 58 = .ok (.istore_n 1, 1) := by decide +kernel
theorem dX6_flow_59 : decode cX6_flow 59 = .ok (.iload_n 1, 1) := by decide +kernel
theorem dX6_flow_60 : decode cX6_flow 60 = .ok (.ifCond .lt 112, 3) := by decide +kernel
theorem dX6_flow_63 : decode cX6_flow 63 = .ok (.aload_n 0, 1) := by decide +kernel
theorem dX6_flow_64 : decode cX6_flow 64 = .ok (.getfield 49, 3) := by decide +kernel
theorem dX6_flow_67 : decode cX6_flow 67 = .ok (.iload_n 1, 1) := by decide +kernel
theorem dX6_flow_68 : decode cX6_flow 68 = .ok (.dup2, 1) := by decide +kernel
theorem dX6_flow_69 : decode cX6_flow 69 = .ok (.iaload, 1) := by decide +kernel
theorem dX6_flow_70 : decode cX6_flow 70 = .ok (.iconst 1, 1) := by decide +kernel
theorem dX6_flow_71 : decode cX6_flow 71 = .ok (.iadd, 1) := by decide +kernel
theorem dX6_flow_72 : decode cX6_flow 72 = .ok (.iastore, 1) := by decide +kernel
theorem dX6_flow_73 : decode cX6_flow 73 = .ok (.aload_n 0, 1) := by decide +kernel
theorem dX6_flow_74 : decode cX6_flow 74 = .ok (.getfield 59, 3) := by decide +kernel
theorem dX6_flow_77 : decode cX6_flow 77 = .ok (.iload_n 1, 1) := by decide +kernel
theorem dX6_flow_78 : decode cX6_flow 78 = .ok (.iaload, 1) := by decide +kernel
theorem dX6_flow_79 : decode cX6_flow 79 = .ok (.ifCond .lt 71, 3) := by decide +kernel
theorem dX6_flow_82 : decode cX6_flow 82 = .ok (.aload_n 0, 1) := by decide +kernel
theorem dX6_flow_83 : decode cX6_flow 83 = .ok (.getfield 59, 3) := by decide +kernel
theorem dX6_flow_86 : decode cX6_flow 86 = .ok (.iload_n 1, 1) := by decide +kernel
theorem dX6_flow_87 : decode cX6_flow 87 = .ok (.iaload, 1) := by decide +kernel
theorem dX6_flow_88 : decode cX6_flow 88 = .ok (.bipush 40, 2) := by decide +kernel
theorem dX6_flow_90 : decode cX6_flow 90 = .ok (.irem, 1) := by decide +kernel
theorem dX6_flow_91 : decode cX6_flow 91 = .ok (.istore_n 2, 1) := by decide +kernel
theorem dX6_flow_92 : decode cX6_flow 92 = .ok (.aload_n 0, 1) := by decide +kernel
theorem dX6_flow_93 : decode cX6_flow 93 = .ok (.getfield 59, 3) := by decide +kernel
theorem dX6_flow_96 : decode cX6_flow 96 = .ok (.iload_n 1, 1) := by decide +kernel
theorem dX6_flow_97 : decode cX6_flow 97 = .ok (.iaload, 1) := by decide +kernel
theorem dX6_flow_98 : decode cX6_flow 98 = .ok (.bipush 40, 2) := by decide +kernel
theorem dX6_flow_100 : decode cX6_flow 100 = .ok (.if_icmp .ge 7, 3) := by decide +kernel
theorem dX6_flow_103 : decode cX6_flow 103 = .ok (.iconst 1, 1) := by decide +kernel
theorem dX6_flow_104 : decode cX6_flow 104 = .ok (.goto 4, 3) := by decide +kernel
theorem dX6_flow_107 : decode cX6_flow 107 = .ok (.iconst 0, 1) := by decide +kernel
theorem dX6_flow_108 : decode cX6_flow 108 = .ok (.istore_n 3, 1) := by decide +kernel
theorem dX6_flow_109 : decode cX6_flow 109 = .ok (.aload_n 0, 1) := by decide +kernel
theorem dX6_flow_110 : decode cX6_flow 110 = .ok (.getfield 29, 3) := by decide +kernel
theorem dX6_flow_113 : decode cX6_flow 113 = .ok (.iload_n 2, 1) := by decide +kernel
theorem dX6_flow_114 : decode cX6_flow 114 = .ok (.dup2, 1) := by decide +kernel
theorem dX6_flow_115 : decode cX6_flow 115 = .ok (.iaload, 1) := by decide +kernel
theorem dX6_flow_116 : decode cX6_flow 116 = .ok (.iload_n 3, 1) := by decide +kernel
theorem dX6_flow_117 : decode cX6_flow 117 = .ok (.ifCond .eq 7, 3) := by decide +kernel
theorem dX6_flow_120 : decode cX6_flow 120 = .ok (.iconst 1, 1) := by decide +kernel
theorem dX6_flow_121 : decode cX6_flow 121 = .ok (.goto 4, 3) := by decide +kernel
theorem dX6_flow_124 : decode cX6_flow 124 = .ok (.iconst (-1), 1) := by decide +kernel
theorem dX6_flow_125 : decode cX6_flow 125 = .ok (.iadd, 1) := by decide +kernel
theorem dX6_flow_126 : decode cX6_flow 126 = .ok (.iastore, 1) := by decide +kernel
theorem dX6_flow_127 : decode cX6_flow 127 = .ok (.iload_n 3, 1) := by decide +kernel
theorem dX6_flow_128 : decode cX6_flow 128 = .ok (.ifCond .eq 12, 3) := by decide +kernel
theorem dX6_flow_131 : decode cX6_flow 131 = .ok (.aload_n 0, 1) := by decide +kernel
theorem dX6_flow_132 : decode cX6_flow 132 = .ok (.getfield 13, 3) := by decide +kernel
theorem dX6_flow_135 : decode cX6_flow 135 = .ok (.iload_n 2, 1) := by decide +kernel
theorem dX6_flow_136 : decode cX6_flow 136 = .ok (.iaload, 1) := by decide +kernel
theorem dX6_flow_137 : decode cX6_flow 137 = .ok (.goto 9, 3) := by decide +kernel
theorem dX6_flow_140 : decode cX6_flow 140 = .ok (.aload_n 0, 1) := by decide +kernel
theorem dX6_flow_141 : decode cX6_flow 141 = .ok (.getfield 17, 3) := by decide +kernel
theorem dX6_flow_144 : decode cX6_flow 144 = .ok (.iload_n 2, 1) := by decide +kernel
theorem dX6_flow_145 : decode cX6_flow 145 = .ok (.iaload, 1) := by decide +kernel
theorem dX6_flow_146 : decode cX6_flow 146 = .ok (.istore_n 1, 1) := by decide +kernel
theorem dX6_flow_147 : decode cX6_flow 147 = .ok (.goto (-74), 3) := by decide +kernel
theorem dX6_flow_150 : decode cX6_flow 150 = .ok (.aload_n 0, 1) := by decide +kernel
theorem dX6_flow_151 : decode cX6_flow 151 = .ok (.getfield 49, 3) := by decide +kernel
theorem dX6_flow_154 : decode cX6_flow 154 = .ok (.iload_n 1, 1) := by decide +kernel
theorem dX6_flow_155 : decode cX6_flow 155 = .ok (.dup2, 1) := by decide +kernel
theorem dX6_flow_156 : decode cX6_flow 156 = .ok (.iaload, 1) := by decide +kernel
theorem dX6_flow_157 : decode cX6_flow 157 = .ok (.iconst 1, 1) := by decide +kernel
theorem dX6_flow_158 : decode cX6_flow 158 = .ok (.isub, 1) := by decide +kernel
theorem dX6_flow_159 : decode cX6_flow 159 = .ok (.iastore, 1) := by decide +kernel
theorem dX6_flow_160 : decode cX6_flow 160 = .ok (.aload_n 0, 1) := by decide +kernel
theorem dX6_flow_161 : decode cX6_flow 161 = .ok (.invokevirtual 159, 3) := by decide +kernel
theorem dX6_flow_164 : decode cX6_flow 164 = .ok (.aload_n 0, 1) := by decide +kernel
theorem dX6_flow_165 : decode cX6_flow 165 = .ok (.invokevirtual 162, 3) := by decide +kernel
theorem dX6_flow_168 : decode cX6_flow 168 = .ok (.istore_n 1, 1) := by decide +kernel
theorem dX6_flow_169 : decode cX6_flow 169 = .ok (.goto (-110), 3) := by decide +kernel
theorem dX6_flow_172 : decode cX6_flow 172 = .ok (.return_, 1) := by decide +kernel
theorem dX6_covers_0 : decode cX6_covers 0 = .ok (.aload_n 0, 1) := by decide +kernel
theorem dX6_covers_1 : decode cX6_covers 1 = .ok (.getfield 85, 3) := by decide +kernel
theorem dX6_covers_4 : decode cX6_covers 4 = .ok (.ifCond .ne 5, 3) := by decide +kernel
theorem dX6_covers_7 : decode cX6_covers 7 = .ok (.iconst 1, 1) := by decide +kernel
theorem dX6_covers_8 : decode cX6_covers 8 = .ok (.ireturn, 1) := by decide +kernel
theorem dX6_covers_9 : decode cX6_covers 9 = .ok (.aload_n 0, 1) := by decide +kernel
theorem dX6_covers_10 : decode cX6_covers 10 = .ok (.iload_n 1, 1) := by decide +kernel
theorem dX6_covers_11 : decode cX6_covers 11 = .ok (.invokevirtual 165, 3) := by decide +kernel
theorem dX6_covers_14 : decode cX6_covers 14 = .ok (.istore_n 2, 1) := by decide +kernel
theorem dX6_covers_15 : decode cX6_covers 15 = .ok (.iconst 0, 1) := by decide +kernel
theorem dX6_covers_16 : decode cX6_covers 16 = .ok (.istore_n 3, 1) := by decide +kernel
theorem dX6_covers_17 : decode cX6_covers 17 = .ok (.iload_n 3, 1) := by decide +kernel
theorem dX6_covers_18 : decode cX6_covers 18 = .ok (.aload_n 0, 1) := by decide +kernel
theorem dX6_covers_19 : decode cX6_covers 19 = .ok (.getfield 7, 3) := by decide +kernel
theorem dX6_covers_22 : decode cX6_covers 22 = .ok (.if_icmp .ge 63, 3) := by decide +kernel
theorem dX6_covers_25 : decode cX6_covers 25 = .ok (.iload_n 2, 1) := by decide +kernel
theorem dX6_covers_26 : decode cX6_covers 26 = .ok (.ifCond .eq 51, 3) := by decide +kernel
theorem dX6_covers_29 : decode cX6_covers 29 = .ok (.aload_n 0, 1) := by decide +kernel
theorem dX6_covers_30 : decode cX6_covers 30 = .ok (.iload_n 3, 1) := by decide +kernel
theorem dX6_covers_31 : decode cX6_covers 31 = .ok (.invokevirtual 165, 3) := by decide +kernel
theorem dX6_covers_34 : decode cX6_covers 34 = .ok (.ifCond .eq 39, 3) := by decide +kernel
theorem dX6_covers_37 : decode cX6_covers 37 = .ok (.aload_n 0, 1) := by decide +kernel
theorem dX6_covers_38 : decode cX6_covers 38 = .ok (.getfield 32, 3) := by decide +kernel
theorem dX6_covers_41 : decode cX6_covers 41 = .ok (.bipush 16, 2) := by decide +kernel
theorem dX6_covers_43 : decode cX6_covers 43 = .ok (.iload_n 1, 1) := by decide +kernel
theorem dX6_covers_44 : decode cX6_covers 44 = .ok (.imul, 1) := by decide +kernel
theorem dX6_covers_45 : decode cX6_covers 45 = .ok (.iload_n 3, 1) := by decide +kernel
theorem dX6_covers_46 : decode cX6_covers 46 = .ok (.iadd, 1) := by decide +kernel
theorem dX6_covers_47 : decode cX6_covers 47 = .ok (.laload, 1) := by decide +kernel
theorem dX6_covers_48 : decode cX6_covers 48 = .ok (.ldc2_w 103, 3) := by decide +kernel
theorem dX6_covers_51 : decode cX6_covers 51 = .ok (.lcmp, 1) := by decide +kernel
theorem dX6_covers_52 : decode cX6_covers 52 = .ok (.ifCond .ge 25, 3) := by decide +kernel
theorem dX6_covers_55 : decode cX6_covers 55 = .ok (.aload_n 0, 1) := by decide +kernel
theorem dX6_covers_56 : decode cX6_covers 56 = .ok (.getfield 32, 3) := by decide +kernel
theorem dX6_covers_59 : decode cX6_covers 59 = .ok (.bipush 16, 2) := by decide +kernel
theorem dX6_covers_61 : decode cX6_covers 61 = .ok (.iload_n 3, 1) := by decide +kernel
theorem dX6_covers_62 : decode cX6_covers 62 = .ok (.imul, 1) := by decide +kernel
theorem dX6_covers_63 : decode cX6_covers 63 = .ok (.iload_n 1, 1) := by decide +kernel
theorem dX6_covers_64 : decode cX6_covers 64 = .ok (.iadd, 1) := by decide +kernel
theorem dX6_covers_65 : decode cX6_covers 65 = .ok (.laload, 1) := by decide +kernel
theorem dX6_covers_66 : decode cX6_covers 66 = .ok (.ldc2_w 103, 3) := by decide +kernel
theorem dX6_covers_69 : decode cX6_covers 69 = .ok (.lcmp, 1) := by decide +kernel
theorem dX6_covers_70 : decode cX6_covers 70 = .ok (.ifCond .ge 7, 3) := by decide +kernel
theorem dX6_covers_73 : decode cX6_covers 73 = .ok (.iconst 1, 1) := by decide +kernel
theorem dX6_covers_74 : decode cX6_covers 74 = .ok (.goto 4, 3) := by decide +kernel
theorem dX6_covers_77 : decode cX6_covers 77 = .ok (.iconst 0, 1) := by decide +kernel
theorem dX6_covers_78 : decode cX6_covers 78 = .ok (.istore_n 2, 1) := by decide +kernel
theorem dX6_covers_79 : decode cX6_covers 79 = .ok (.iinc 3 1, 3) := by decide +kernel
theorem dX6_covers_82 : decode cX6_covers 82 = .ok (.goto (-65), 3) := by decide +kernel
theorem dX6_covers_85 : decode cX6_covers 85 = .ok (.iload_n 2, 1) := by decide +kernel
theorem dX6_covers_86 : decode cX6_covers 86 = .ok (.ireturn, 1) := by decide +kernel
theorem dX6_round_0 : decode cX6_round 0 = .ok (.aload_n 0, 1) := by decide +kernel
theorem dX6_round_1 : decode cX6_round 1 = .ok (.aload_n 0, 1) := by decide +kernel
theorem dX6_round_2 : decode cX6_round 2 = .ok (.iload_n 1, 1) := by decide +kernel
theorem dX6_round_3 : decode cX6_round 3 = .ok (.invokevirtual 94, 3) := by decide +kernel
theorem dX6_round_6 : decode cX6_round 6 = .ok (.ifCond .ne 7, 3) := by decide +kernel
theorem dX6_round_9 : decode cX6_round 9 = .ok (.iconst 1, 1) := by decide +kernel
theorem dX6_round_10 : decode cX6_round 10 = .ok (.goto 4, 3) := by decide +kernel
theorem dX6_round_13 : decode cX6_round 13 = .ok (.iconst 0, 1) := by decide +kernel
theorem dX6_round_14 : decode cX6_round 14 = .ok (.iconst 0, 1) := by decide +kernel
theorem dX6_round_15 : decode cX6_round 15 = .ok (.invokevirtual 81, 3) := by decide +kernel
theorem dX6_round_18 : decode cX6_round 18 = .ok (.ifCond .eq 5, 3) := by decide +kernel
theorem dX6_round_21 : decode cX6_round 21 = .ok (.lconst 0, 1) := by decide +kernel
theorem dX6_round_22 : decode cX6_round 22 = .ok (.lreturn, 1) := by decide +kernel
theorem dX6_round_23 : decode cX6_round 23 = .ok (.aload_n 0, 1) := by decide +kernel
theorem dX6_round_24 : decode cX6_round 24 = .ok (.invokevirtual 109, 3) := by decide +kernel
theorem dX6_round_27 : decode cX6_round 27 = .ok (.aload_n 0, 1) := by decide +kernel
theorem dX6_round_28 : decode cX6_round 28 = .ok (.iload_n 1, 1) := by decide +kernel
theorem dX6_round_29 : decode cX6_round 29 = .ok (.invokevirtual 168, 3) := by decide +kernel
theorem dX6_round_32 : decode cX6_round 32 = .ok (.ifCond .ne 7, 3) := by decide +kernel
theorem dX6_round_35 : decode cX6_round 35 = .ok (.ldc2_w 112, 3) := by decide +kernel
theorem dX6_round_38 : decode cX6_round 38 = .ok (.lreturn, 1) := by decide +kernel
theorem dX6_round_39 : decode cX6_round 39 = .ok (.aload_n 0, 1) := by decide +kernel
theorem dX6_round_40 : decode cX6_round 40 = .ok (.getfield 88, 3) := by decide +kernel
theorem dX6_round_43 : decode cX6_round 43 = .ok (.ifCond .eq 10, 3) := by decide +kernel
theorem dX6_round_46 : decode cX6_round 46 = .ok (.aload_n 0, 1) := by decide +kernel
theorem dX6_round_47 : decode cX6_round 47 = .ok (.invokevirtual 171, 3) := by decide +kernel
theorem dX6_round_50 : decode cX6_round 50 = .ok (.goto 7, 3) := by decide +kernel
theorem dX6_round_53 : decode cX6_round 53 = .ok (.aload_n 0, 1) := by decide +kernel
theorem dX6_round_54 : decode cX6_round 54 = .ok (.invokevirtual 174, 3) := by decide +kernel
theorem dX6_round_57 : decode cX6_round 57 = .ok (.lconst 0, 1) := by decide +kernel
theorem dX6_round_58 : decode cX6_round 58 = .ok (.lstore_n 2, 1) := by decide +kernel
theorem dX6_round_59 : decode cX6_round 59 = .ok (.iconst 0, 1) := by decide +kernel
theorem dX6_round_60 : decode cX6_round 60 = .ok (.istore 4, 2) := by decide +kernel
theorem dX6_round_62 : decode cX6_round 62 = .ok (.iload 4, 2) := by decide +kernel
theorem dX6_round_64 : decode cX6_round 64 = .ok (.aload_n 0, 1) := by decide +kernel
theorem dX6_round_65 : decode cX6_round 65 = .ok (.getfield 85, 3) := by decide +kernel
theorem dX6_round_68 : decode cX6_round 68 = .ok (.if_icmp .ge 45, 3) := by decide +kernel
theorem dX6_round_71 : decode cX6_round 71 = .ok (.aload_n 0, 1) := by decide +kernel
theorem dX6_round_72 : decode cX6_round 72 = .ok (.getfield 65, 3) := by decide +kernel
theorem dX6_round_75 : decode cX6_round 75 = .ok (.iload 4, 2) := by decide +kernel
theorem dX6_round_77 : decode cX6_round 77 = .ok (.iconst 1, 1) := by decide +kernel
theorem dX6_round_78 : decode cX6_round 78 = .ok (.aload_n 0, 1) := by decide +kernel
theorem dX6_round_79 : decode cX6_round 79 = .ok (.getfield 29, 3) := by decide +kernel
theorem dX6_round_82 : decode cX6_round 82 = .ok (.iload 4, 2) := by decide +kernel
theorem dX6_round_84 : decode cX6_round 84 = .ok (.iaload, 1) := by decide +kernel
theorem dX6_round_85 : decode cX6_round 85 = .ok (.iadd, 1) := by decide +kernel
theorem dX6_round_86 : decode cX6_round 86 = .ok (.iastore, 1) := by decide +kernel
theorem dX6_round_87 : decode cX6_round 87 = .ok (.lload_n 2, 1) := by decide +kernel
theorem dX6_round_88 : decode cX6_round 88 = .ok (.aload_n 0, 1) := by decide +kernel
theorem dX6_round_89 : decode cX6_round 89 = .ok (.getfield 65, 3) := by decide +kernel
theorem dX6_round_92 : decode cX6_round 92 = .ok (.iload 4, 2) := by decide +kernel
theorem dX6_round_94 : decode cX6_round 94 = .ok (.iaload, 1) := by decide +kernel
theorem dX6_round_95 : decode cX6_round 95 = .ok (.i2l, 1) := by decide +kernel
theorem dX6_round_96 : decode cX6_round 96 = .ok (.aload_n 0, 1) := by decide +kernel
theorem dX6_round_97 : decode cX6_round 97 = .ok (.getfield 20, 3) := by decide +kernel
theorem dX6_round_100 : decode cX6_round 100 = .ok (.iload 4, 2) := by decide +kernel
theorem dX6_round_102 : decode cX6_round 102 = .ok (.iaload, 1) := by decide +kernel
theorem dX6_round_103 : decode cX6_round 103 = .ok (.i2l, 1) := by decide +kernel
theorem dX6_round_104 : decode cX6_round 104 = .ok (.lmul, 1) := by decide +kernel
theorem dX6_round_105 : decode cX6_round 105 = .ok (.ladd, 1) := by decide +kernel
theorem dX6_round_106 : decode cX6_round 106 = .ok (.lstore_n 2, 1) := by decide +kernel
theorem dX6_round_107 : decode cX6_round 107 = .ok (.iinc 4 1, 3) := by decide +kernel
theorem dX6_round_110 : decode cX6_round 110 = .ok (.goto (-48), 3) := by decide +kernel
theorem dX6_round_113 : decode cX6_round 113 = .ok (.aload_n 0, 1) := by decide +kernel
theorem dX6_round_114 : decode cX6_round 114 = .ok (.iload_n 1, 1) := by decide +kernel
theorem dX6_round_115 : decode cX6_round 115 = .ok (.invokevirtual 138, 3) := by decide +kernel
theorem dX6_round_118 : decode cX6_round 118 = .ok (.aload_n 0, 1) := by decide +kernel
theorem dX6_round_119 : decode cX6_round 119 = .ok (.iconst 1, 1) := by decide +kernel
theorem dX6_round_120 : decode cX6_round 120 = .ok (.putfield 77, 3) := by decide +kernel
theorem dX6_round_123 : decode cX6_round 123 = .ok (.lload_n 2, 1) := by decide +kernel
theorem dX6_round_124 : decode cX6_round 124 = .ok (.lreturn, 1) := by decide +kernel
theorem dX6_extra_0 : decode cX6_extra 0 = .ok (.aload_n 0, 1) := by decide +kernel
theorem dX6_extra_1 : decode cX6_extra 1 = .ok (.iload_n 1, 1) := by decide +kernel
theorem dX6_extra_2 : decode cX6_extra 2 = .ok (.ifCond .lt 11, 3) := by decide +kernel
theorem dX6_extra_5 : decode cX6_extra 5 = .ok (.iload_n 1, 1) := by decide +kernel
theorem dX6_extra_6 : decode cX6_extra 6 = .ok (.aload_n 0, 1) := by decide +kernel
theorem dX6_extra_7 : decode cX6_extra 7 = .ok (.getfield 85, 3) := by decide +kernel
theorem dX6_extra_10 : decode cX6_extra 10 = .ok (.if_icmp .lt 7, 3) := by decide +kernel
theorem dX6_extra_13 : decode cX6_extra 13 = .ok (.iconst 1, 1) := by decide +kernel
theorem dX6_extra_14 : decode cX6_extra 14 = .ok (.goto 4, 3) := by decide +kernel
theorem dX6_extra_17 : decode cX6_extra 17 = .ok (.iconst 0, 1) := by decide +kernel
theorem dX6_extra_18 : decode cX6_extra 18 = .ok (.aload_n 0, 1) := by decide +kernel
theorem dX6_extra_19 : decode cX6_extra 19 = .ok (.getfield 77, 3) := by decide +kernel
theorem dX6_extra_22 : decode cX6_extra 22 = .ok (.ifCond .ne 7, 3) := by decide +kernel
theorem dX6_extra_25 : decode cX6_extra 25 = .ok (.iconst 1, 1) := by decide +kernel
theorem dX6_extra_26 : decode cX6_extra 26 = .ok (.goto 4, 3) := by decide +kernel
theorem dX6_extra_29 : decode cX6_extra 29 = .ok (.iconst 0, 1) := by decide +kernel
theorem dX6_extra_30 : decode cX6_extra 30 = .ok (.invokevirtual 81, 3) := by decide +kernel
theorem dX6_extra_33 : decode cX6_extra 33 = .ok (.ifCond .eq 5, 3) := by decide +kernel
theorem dX6_extra_36 : decode cX6_extra 36 = .ok (.iconst 0, 1) := by decide +kernel
theorem dX6_extra_37 : decode cX6_extra 37 = .ok (.ireturn, 1) := by decide +kernel
theorem dX6_extra_38 : decode cX6_extra 38 = .ok (.aload_n 0, 1) := by decide +kernel
theorem dX6_extra_39 : decode cX6_extra 39 = .ok (.getfield 29, 3) := by decide +kernel
theorem dX6_extra_42 : decode cX6_extra 42 = .ok (.iload_n 1, 1) := by decide +kernel
theorem dX6_extra_43 : decode cX6_extra 43 = .ok (.iaload, 1) := by decide +kernel
theorem dX6_extra_44 : decode cX6_extra 44 = .ok (.ireturn, 1) := by decide +kernel
theorem dX6_row_0 : decode cX6_row 0 = .ok (.aload_n 0, 1) := by decide +kernel
theorem dX6_row_1 : decode cX6_row 1 = .ok (.iload_n 1, 1) := by decide +kernel
theorem dX6_row_2 : decode cX6_row 2 = .ok (.ifCond .lt 11, 3) := by decide +kernel
theorem dX6_row_5 : decode cX6_row 5 = .ok (.iload_n 1, 1) := by decide +kernel
theorem dX6_row_6 : decode cX6_row 6 = .ok (.aload_n 0, 1) := by decide +kernel
theorem dX6_row_7 : decode cX6_row 7 = .ok (.getfield 74, 3) := by decide +kernel
theorem dX6_row_10 : decode cX6_row 10 = .ok (.if_icmp .lt 7, 3) := by decide +kernel
theorem dX6_row_13 : decode cX6_row 13 = .ok (.iconst 1, 1) := by decide +kernel
theorem dX6_row_14 : decode cX6_row 14 = .ok (.goto 4, 3) := by decide +kernel
theorem dX6_row_17 : decode cX6_row 17 = .ok (.iconst 0, 1) := by decide +kernel
theorem dX6_row_18 : decode cX6_row 18 = .ok (.iconst 0, 1) := by decide +kernel
theorem dX6_row_19 : decode cX6_row 19 = .ok (.invokevirtual 81, 3) := by decide +kernel
theorem dX6_row_22 : decode cX6_row 22 = .ok (.ifCond .eq 5, 3) := by decide +kernel
theorem dX6_row_25 : decode cX6_row 25 = .ok (.iconst 0, 1) := by decide +kernel
theorem dX6_row_26 : decode cX6_row 26 = .ok (.ireturn, 1) := by decide +kernel
theorem dX6_row_27 : decode cX6_row 27 = .ok (.aload_n 0, 1) := by decide +kernel
theorem dX6_row_28 : decode cX6_row 28 = .ok (.getfield 23, 3) := by decide +kernel
theorem dX6_row_31 : decode cX6_row 31 = .ok (.iload_n 1, 1) := by decide +kernel
theorem dX6_row_32 : decode cX6_row 32 = .ok (.iaload, 1) := by decide +kernel
theorem dX6_row_33 : decode cX6_row 33 = .ok (.ireturn, 1) := by decide +kernel
theorem dX6_step_0 : decode cX6_step 0 = .ok (.aload_n 0, 1) := by decide +kernel
theorem dX6_step_1 : decode cX6_step 1 = .ok (.aload_n 0, 1) := by decide +kernel
theorem dX6_step_2 : decode cX6_step 2 = .ok (.getfield 177, 3) := by decide +kernel
theorem dX6_step_5 : decode cX6_step 5 = .ok (.sipush 1000, 3) := by decide +kernel
theorem dX6_step_8 : decode cX6_step 8 = .ok (.if_icmp .ne 7, 3) := by decide +kernel
theorem dX6_step_11 : decode cX6_step 11 = .ok (.iconst 1, 1) := by decide +kernel
theorem dX6_step_12 : decode cX6_step 12 = .ok (.goto 4, 3) := by decide +kernel
theorem dX6_step_15 : decode cX6_step 15 = .ok (.iconst 0, 1) := by decide +kernel
theorem dX6_step_16 : decode cX6_step 16 = .ok (.iconst 0, 1) := by decide +kernel
theorem dX6_step_17 : decode cX6_step 17 = .ok (.invokevirtual 81, 3) := by decide +kernel
theorem dX6_step_20 : decode cX6_step 20 = .ok (.ifCond .eq 5, 3) := by decide +kernel
theorem dX6_step_23 : decode cX6_step 23 = .ok (.iconst 0, 1) := by decide +kernel
theorem dX6_step_24 : decode cX6_step 24 = .ok (.ireturn, 1) := by decide +kernel
theorem dX6_step_25 : decode cX6_step 25 = .ok (.aload_n 0, 1) := by decide +kernel
theorem dX6_step_26 : decode cX6_step 26 = .ok (.getfield 26, 3) := by decide +kernel
theorem dX6_step_29 : decode cX6_step 29 = .ok (.aload_n 0, 1) := by decide +kernel
theorem dX6_step_30 : decode cX6_step 30 = .ok (.getfield 177, 3) := by decide +kernel
theorem dX6_step_33 : decode cX6_step 33 = .ok (.iload_n 1, 1) := by decide +kernel
theorem dX6_step_34 : decode cX6_step 34 = .ok (.iastore, 1) := by decide +kernel
theorem dX6_step_35 : decode cX6_step 35 = .ok (.aload_n 0, 1) := by decide +kernel
theorem dX6_step_36 : decode cX6_step 36 = .ok (.dup, 1) := by decide +kernel
theorem dX6_step_37 : decode cX6_step 37 = .ok (.getfield 177, 3) := by decide +kernel
theorem dX6_step_40 : decode cX6_step 40 = .ok (.iconst 1, 1) := by decide +kernel
theorem dX6_step_41 : decode cX6_step 41 = .ok (.iadd, 1) := by decide +kernel
theorem dX6_step_42 : decode cX6_step 42 = .ok (.putfield 177, 3) := by decide +kernel
theorem dX6_step_45 : decode cX6_step 45 = .ok (.aload_n 0, 1) := by decide +kernel
theorem dX6_step_46 : decode cX6_step 46 = .ok (.getfield 177, 3) := by decide +kernel
theorem dX6_step_49 : decode cX6_step 49 = .ok (.ireturn, 1) := by decide +kernel
theorem dX6_judge_0 : decode cX6_judge 0 = .ok (.aload_n 0, 1) := by decide +kernel
theorem dX6_judge_1 : decode cX6_judge 1 = .ok (.aload_n 0, 1) := by decide +kernel
theorem dX6_judge_2 : decode cX6_judge 2 = .ok (.iload_n 1, 1) := by decide +kernel
theorem dX6_judge_3 : decode cX6_judge 3 = .ok (.invokevirtual 94, 3) := by decide +kernel
theorem dX6_judge_6 : decode cX6_judge 6 = .ok (.ifCond .ne 7, 3) := by decide +kernel
theorem dX6_judge_9 : decode cX6_judge 9 = .ok (.iconst 1, 1) := by decide +kernel
theorem dX6_judge_10 : decode cX6_judge 10 = .ok (.goto 4, 3) := by decide +kernel
theorem dX6_judge_13 : decode cX6_judge 13 = .ok (.iconst 0, 1) := by decide +kernel
theorem dX6_judge_14 : decode cX6_judge 14 = .ok (.iconst 0, 1) := by decide +kernel
theorem dX6_judge_15 : decode cX6_judge 15 = .ok (.invokevirtual 81, 3) := by decide +kernel
theorem dX6_judge_18 : decode cX6_judge 18 = .ok (.ifCond .eq 5, 3) := by decide +kernel
theorem dX6_judge_21 : decode cX6_judge 21 = .ok (.lconst 0, 1) := by decide +kernel
theorem dX6_judge_22 : decode cX6_judge 22 = .ok (.lreturn, 1) := by decide +kernel
theorem dX6_judge_23 : decode cX6_judge 23 = .ok (.aload_n 0, 1) := by decide +kernel
theorem dX6_judge_24 : decode cX6_judge 24 = .ok (.getfield 177, 3) := by decide +kernel
theorem dX6_judge_27 : decode cX6_judge 27 = .ok (.istore_n 2, 1) := by decide +kernel
theorem dX6_judge_28 : decode cX6_judge 28 = .ok (.aload_n 0, 1) := by decide +kernel
theorem dX6_judge_29 : decode cX6_judge 29 = .ok (.iconst 0, 1) := by decide +kernel
theorem dX6_judge_30 : decode cX6_judge 30 = .ok (.putfield 177, 3) := by decide +kernel
theorem dX6_judge_33 : decode cX6_judge 33 = .ok (.iload_n 1, 1) := by decide +kernel
theorem dX6_judge_34 : decode cX6_judge 34 = .ok (.istore_n 3, 1) := by decide +kernel
theorem dX6_judge_35 : decode cX6_judge 35 = .ok (.lconst 0, 1) := by decide +kernel
theorem dX6_judge_36 : decode cX6_judge 36 = .ok (.lstore 4, 2) := by decide +kernel
theorem dX6_judge_38 : decode cX6_judge 38 = .ok (.iconst 0, 1) := by decide +kernel
theorem dX6_judge_39 : decode cX6_judge 39 = .ok (.istore 6, 2) := by decide +kernel
theorem dX6_judge_41 : decode cX6_judge 41 = .ok (.iload 6, 2) := by decide +kernel
theorem dX6_judge_43 : decode cX6_judge 43 = .ok (.aload_n 0, 1) := by decide +kernel
theorem dX6_judge_44 : decode cX6_judge 44 = .ok (.getfield 85, 3) := by decide +kernel
theorem dX6_judge_47 : decode cX6_judge 47 = .ok (.if_icmp .ge 17, 3) := by decide +kernel
theorem dX6_judge_50 : decode cX6_judge 50 = .ok (.aload_n 0, 1) := by decide +kernel
theorem dX6_judge_51 : decode cX6_judge 51 = .ok (.getfield 65, 3) := by decide +kernel
theorem dX6_judge_54 : decode cX6_judge 54 = .ok (.iload 6, 2) := by decide +kernel
theorem dX6_judge_56 : decode cX6_judge 56 = .ok (.iconst 1, 1) := by decide +kernel
theorem dX6_judge_57 : decode cX6_judge 57 = .ok (.iastore, 1) := by decide +kernel
theorem dX6_judge_58 : decode cX6_judge 58 = .ok (.iinc 6 1, 3) := by decide +kernel
theorem dX6_judge_61 : decode cX6_judge 61 = .ok (.goto (-20), 3) := by decide +kernel
theorem dX6_judge_64 : decode cX6_judge 64 = .ok (.iconst 0, 1) := by decide +kernel
theorem dX6_judge_65 : decode cX6_judge 65 = .ok (.istore 6, 2) := by decide +kernel
theorem dX6_judge_67 : decode cX6_judge 67 = .ok (.iload 6, 2) := by decide +kernel
theorem dX6_judge_69 : decode cX6_judge 69 = .ok (.iload_n 2, 1) := by decide +kernel
theorem dX6_judge_70 : decode cX6_judge 70 = .ok (.if_icmp .ge 68, 3) := by decide +kernel
theorem dX6_judge_73 : decode cX6_judge 73 = .ok (.iload_n 3, 1) := by decide +kernel
theorem dX6_judge_74 : decode cX6_judge 74 = .ok (.ifCond .lt 64, 3) := by decide +kernel
theorem dX6_judge_77 : decode cX6_judge 77 = .ok (.aload_n 0, 1) := by decide +kernel
theorem dX6_judge_78 : decode cX6_judge 78 = .ok (.iload_n 3, 1) := by decide +kernel
theorem dX6_judge_79 : decode cX6_judge 79 = .ok (.aload_n 0, 1) := by decide +kernel
theorem dX6_judge_80 : decode cX6_judge 80 = .ok (.getfield 26, 3) := by decide +kernel
theorem dX6_judge_83 : decode cX6_judge 83 = .ok (.iload 6, 2) := by decide +kernel
theorem dX6_judge_85 : decode cX6_judge 85 = .ok (.iaload, 1) := by decide +kernel
theorem dX6_judge_86 : decode cX6_judge 86 = .ok (.invokevirtual 124, 3) := by decide +kernel
theorem dX6_judge_89 : decode cX6_judge 89 = .ok (.istore_n 3, 1) := by decide +kernel
theorem dX6_judge_90 : decode cX6_judge 90 = .ok (.iload_n 3, 1) := by decide +kernel
theorem dX6_judge_91 : decode cX6_judge 91 = .ok (.ifCond .ge 6, 3) := by decide +kernel
theorem dX6_judge_94 : decode cX6_judge 94 = .ok (.goto 38, 3) := by decide +kernel
theorem dX6_judge_97 : decode cX6_judge 97 = .ok (.lload 4, 2) := by decide +kernel
theorem dX6_judge_99 : decode cX6_judge 99 = .ok (.aload_n 0, 1) := by decide +kernel
theorem dX6_judge_100 : decode cX6_judge 100 = .ok (.getfield 20, 3) := by decide +kernel
theorem dX6_judge_103 : decode cX6_judge 103 = .ok (.aload_n 0, 1) := by decide +kernel
theorem dX6_judge_104 : decode cX6_judge 104 = .ok (.getfield 26, 3) := by decide +kernel
theorem dX6_judge_107 : decode cX6_judge 107 = .ok (.iload 6, 2) := by decide +kernel
theorem dX6_judge_109 : decode cX6_judge 109 = .ok (.iaload, 1) := by decide +kernel
theorem dX6_judge_110 : decode cX6_judge 110 = .ok (.iconst 2, 1) := by decide +kernel
theorem dX6_judge_111 : decode cX6_judge 111 = .ok (.idiv, 1) := by decide +kernel
theorem dX6_judge_112 : decode cX6_judge 112 = .ok (.iaload, 1) := by decide +kernel
theorem dX6_judge_113 : decode cX6_judge 113 = .ok (.i2l, 1) := by decide +kernel
theorem dX6_judge_114 : decode cX6_judge 114 = .ok (.ladd, 1) := by decide +kernel
theorem dX6_judge_115 : decode cX6_judge 115 = .ok (.lstore 4, 2) := by decide +kernel
theorem dX6_judge_117 : decode cX6_judge 117 = .ok (.aload_n 0, 1) := by decide +kernel
theorem dX6_judge_118 : decode cX6_judge 118 = .ok (.getfield 65, 3) := by decide +kernel
theorem dX6_judge_121 : decode cX6_judge 121 = .ok (.aload_n 0, 1) := by decide +kernel
theorem dX6_judge_122 : decode cX6_judge 122 = .ok (.getfield 26, 3) := by decide +kernel
theorem dX6_judge_125 : decode cX6_judge 125 = .ok (.iload 6, 2) := by decide +kernel
theorem dX6_judge_127 : decode cX6_judge 127 = .ok (.iaload, 1) := by decide +kernel
theorem dX6_judge_128 : decode cX6_judge 128 = .ok (.iconst 2, 1) := by decide +kernel
theorem dX6_judge_129 : decode cX6_judge 129 = .ok (.idiv, 1) := by decide +kernel
theorem dX6_judge_130 : decode cX6_judge 130 = .ok (.iconst 0, 1) := by decide +kernel
theorem dX6_judge_131 : decode cX6_judge 131 = .ok (.iastore, 1) := by decide +kernel
theorem dX6_judge_132 : decode cX6_judge 132 = .ok (.iinc 6 1, 3) := by decide +kernel
theorem dX6_judge_135 : decode cX6_judge 135 = .ok (.goto (-68), 3) := by decide +kernel
theorem dX6_judge_138 : decode cX6_judge 138 = .ok (.iconst 1, 1) := by decide +kernel
theorem dX6_judge_139 : decode cX6_judge 139 = .ok (.istore 6, 2) := by decide +kernel
theorem dX6_judge_141 : decode cX6_judge 141 = .ok (.iconst 0, 1) := by decide +kernel
theorem dX6_judge_142 : decode cX6_judge 142 = .ok (.istore 7, 2) := by decide +kernel
theorem dX6_judge_144 : decode cX6_judge 144 = .ok (.iload 7, 2) := by decide +kernel
theorem dX6_judge_146 : decode cX6_judge 146 = .ok (.aload_n 0, 1) := by decide +kernel
theorem dX6_judge_147 : decode cX6_judge 147 = .ok (.getfield 85, 3) := by decide +kernel
theorem dX6_judge_150 : decode cX6_judge 150 = .ok (.if_icmp .ge 31, 3) := by decide +kernel
theorem dX6_judge_153 : decode cX6_judge 153 = .ok (.iload 6, 2) := by decide +kernel
theorem dX6_judge_155 : decode cX6_judge 155 = .ok (.ifCond .eq 17, 3) := by decide +kernel
theorem dX6_judge_158 : decode cX6_judge 158 = .ok (.aload_n 0, 1) := by decide +kernel
theorem dX6_judge_159 : decode cX6_judge 159 = .ok (.getfield 65, 3) := by decide +kernel
theorem dX6_judge_162 : decode cX6_judge 162 = .ok (.iload 7, 2) := by decide +kernel
theorem dX6_judge_164 : decode cX6_judge 164 = .ok (.iaload, 1) := by decide +kernel
theorem dX6_judge_165 : decode cX6_judge 165 = .ok (.ifCond .ne 7, 3) := by decide +kernel
theorem dX6_judge_168 : decode cX6_judge 168 = .ok (.iconst 1, 1) := by decide +kernel
theorem dX6_judge_169 : decode cX6_judge 169 = .ok (.goto 4, 3) := by decide +kernel
theorem dX6_judge_172 : decode cX6_judge 172 = .ok (.iconst 0, 1) := by decide +kernel
theorem dX6_judge_173 : decode cX6_judge 173 = .ok (.istore 6, 2) := by decide +kernel
theorem dX6_judge_175 : decode cX6_judge 175 = .ok (.iinc 7 1, 3) := by decide +kernel
theorem dX6_judge_178 : decode cX6_judge 178 = .ok (.goto (-34), 3) := by decide +kernel
theorem dX6_judge_181 : decode cX6_judge 181 = .ok (.iload_n 3, 1) := by decide +kernel
theorem dX6_judge_182 : decode cX6_judge 182 = .ok (.ifCond .ge 9, 3) := by decide +kernel
theorem dX6_judge_185 : decode cX6_judge 185 = .ok (.ldc2_w 112, 3) := by decide +kernel
theorem dX6_judge_188 : decode cX6_judge 188 = .ok (.goto 27, 3) := by decide +kernel
theorem dX6_judge_191 : decode cX6_judge 191 = .ok (.iload_n 3, 1) := by decide +kernel
theorem dX6_judge_192 : decode cX6_judge 192 = .ok (.iload_n 1, 1) := by decide +kernel
theorem dX6_judge_193 : decode cX6_judge 193 = .ok (.if_icmp .eq 9, 3) := by decide +kernel
theorem dX6_judge_196 : decode cX6_judge 196 = .ok (.ldc2_w 180, 3) := by decide +kernel
theorem dX6_judge_199 : decode cX6_judge 199 = .ok (.goto 16, 3) := by decide +kernel
theorem dX6_judge_202 : decode cX6_judge 202 = .ok (.iload 6, 2) := by decide +kernel
theorem dX6_judge_204 : decode cX6_judge 204 = .ok (.ifCond .eq 8, 3) := by decide +kernel
theorem dX6_judge_207 : decode cX6_judge 207 = .ok (.lload 4, 2) := by decide +kernel
theorem dX6_judge_209 : decode cX6_judge 209 = .ok (.goto 6, 3) := by decide +kernel
theorem dX6_judge_212 : decode cX6_judge 212 = .ok (.ldc2_w 182, 3) := by decide +kernel
theorem dX6_judge_215 : decode cX6_judge 215 = .ok (.lreturn, 1) := by decide +kernel
theorem dX6_sets_0 : decode cX6_sets 0 = .ok (.aload_n 0, 1) := by decide +kernel
theorem dX6_sets_1 : decode cX6_sets 1 = .ok (.invokevirtual 135, 3) := by decide +kernel
theorem dX6_sets_4 : decode cX6_sets 4 = .ok (.aload_n 0, 1) := by decide +kernel
theorem dX6_sets_5 : decode cX6_sets 5 = .ok (.invokevirtual 114, 3) := by decide +kernel
theorem dX6_sets_8 : decode cX6_sets 8 = .ok (.iconst 0, 1) := by decide +kernel
theorem dX6_sets_9 : decode cX6_sets 9 = .ok (.istore_n 1, 1) := by decide +kernel
theorem dX6_sets_10 : decode cX6_sets 10 = .ok (.iconst 0, 1) := by decide +kernel
theorem dX6_sets_11 : decode cX6_sets 11 = .ok (.istore_n 2, 1) := by decide +kernel
theorem dX6_sets_12 : decode cX6_sets 12 = .ok (.iload_n 2, 1) := by decide +kernel
theorem dX6_sets_13 : decode cX6_sets 13 = .ok (.aload_n 0, 1) := by decide +kernel
theorem dX6_sets_14 : decode cX6_sets 14 = .ok (.getfield 7, 3) := by decide +kernel
theorem dX6_sets_17 : decode cX6_sets 17 = .ok (.if_icmp .ge 35, 3) := by decide +kernel
theorem dX6_sets_20 : decode cX6_sets 20 = .ok (.iload_n 1, 1) := by decide +kernel
theorem dX6_sets_21 : decode cX6_sets 21 = .ok (.aload_n 0, 1) := by decide +kernel
theorem dX6_sets_22 : decode cX6_sets 22 = .ok (.getfield 68, 3) := by decide +kernel
theorem dX6_sets_25 : decode cX6_sets 25 = .ok (.iload_n 2, 1) := by decide +kernel
theorem dX6_sets_26 : decode cX6_sets 26 = .ok (.iaload, 1) := by decide +kernel
theorem dX6_sets_27 : decode cX6_sets 27 = .ok (.iload_n 2, 1) := by decide +kernel
theorem dX6_sets_28 : decode cX6_sets 28 = .ok (.if_icmp .ne 15, 3) := by decide +kernel
theorem dX6_sets_31 : decode cX6_sets 31 = .ok (.aload_n 0, 1) := by decide +kernel
