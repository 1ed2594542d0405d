theorem dX5_joins_147 : decode cX5_joins 147 = .ok (.iconst 5, 1) := by decide +kernel
theorem dX5_joins_148 : decode cX5_joins 148 = .ok (.if_icmp .ne 23, 3) := by decide +kernel
theorem dX5_joins_151 : decode cX5_joins 151 = .ok (.lload 4, 2) := by decide +kernel
theorem dX5_joins_153 : decode cX5_joins 153 = .ok (.ldc2_w 178, 3) := by decide +kernel
theorem dX5_joins_156 : decode cX5_joins 156 = .ok (.lcmp, 1) := by decide +kernel
theorem dX5_joins_157 : decode cX5_joins 157 = .ok (.ifCond .ne 7, 3) := by decide +kernel
theorem dX5_joins_160 : decode cX5_joins 160 = .ok (.lconst 0, 1) := by decide +kernel
theorem dX5_joins_161 : decode cX5_joins 161 = .ok (.goto 8, 3) := by decide +kernel
theorem dX5_joins_164 : decode cX5_joins 164 = .ok (.lload 6, 2) := by decide +kernel
theorem dX5_joins_166 : decode cX5_joins 166 = .ok (.lload 4, 2) := by decide +kernel
theorem dX5_joins_168 : decode cX5_joins 168 = .ok (.lrem, 1) := by decide +kernel
theorem dX5_joins_169 : decode cX5_joins 169 = .ok (.lstore 8, 2) := by decide +kernel
theorem dX5_joins_171 : decode cX5_joins 171 = .ok (.aload_n 0, 1) := by decide +kernel
theorem dX5_joins_172 : decode cX5_joins 172 = .ok (.iload_n 1, 1) := by decide +kernel
theorem dX5_joins_173 : decode cX5_joins 173 = .ok (.iload_n 2, 1) := by decide +kernel
theorem dX5_joins_174 : decode cX5_joins 174 = .ok (.lload 8, 2) := by decide +kernel
theorem dX5_joins_176 : decode cX5_joins 176 = .ok (.invokevirtual 171, 3) := by decide +kernel
theorem dX5_joins_179 : decode cX5_joins 179 = .ok (.iconst 1, 1) := by decide +kernel
theorem dX5_joins_180 : decode cX5_joins 180 = .ok (.ireturn, 1) := by decide +kernel
theorem dX5_gather_0 : decode cX5_gather 0 = .ok (.iload_n 2, 1) := by decide +kernel
theorem dX5_gather_1 : decode cX5_gather 1 = .ok (.i2l, 1) := by decide +kernel
theorem dX5_gather_2 : decode cX5_gather 2 = .ok (.lconst 0, 1) := by decide +kernel
theorem dX5_gather_3 : decode cX5_gather 3 = .ok (.ldc2_w 180, 3) := by decide +kernel
theorem dX5_gather_6 : decode cX5_gather 6 = .ok (.invokestatic 101, 3) := by decide +kernel
theorem dX5_gather_9 : decode cX5_gather 9 = .ok (.ifCond .ne 6, 3) := by decide +kernel
theorem dX5_gather_12 : decode cX5_gather 12 = .ok (.ldc 116, 2) := by decide +kernel
theorem dX5_gather_14 : decode cX5_gather 14 = .ok (.ireturn, 1) := by decide +kernel
theorem dX5_gather_15 : decode cX5_gather 15 = .ok (.aload_n 0, 1) := by decide +kernel
theorem dX5_gather_16 : decode cX5_gather 16 = .ok (.iload_n 1, 1) := by decide +kernel
theorem dX5_gather_17 : decode cX5_gather 17 = .ok (.invokevirtual 135, 3) := by decide +kernel
theorem dX5_gather_20 : decode cX5_gather 20 = .ok (.istore_n 3, 1) := by decide +kernel
theorem dX5_gather_21 : decode cX5_gather 21 = .ok (.iload_n 3, 1) := by decide +kernel
theorem dX5_gather_22 : decode cX5_gather 22 = .ok (.ifCond .eq 9, 3) := by decide +kernel
theorem dX5_gather_25 : decode cX5_gather 25 = .ok (.aload_n 0, 1) := by decide +kernel
theorem dX5_gather_26 : decode cX5_gather 26 = .ok (.iload_n 3, 1) := by decide +kernel
theorem dX5_gather_27 : decode cX5_gather 27 = .ok (.invokevirtual 68, 3) := by decide +kernel
theorem dX5_gather_30 : decode cX5_gather 30 = .ok (.ireturn, 1) := by decide +kernel
theorem dX5_gather_31 : decode cX5_gather 31 = .ok (.iconst 0, 1) := by decide +kernel
theorem dX5_gather_32 : decode cX5_gather 32 = .ok (.istore 4, 2) := by decide +kernel
theorem dX5_gather_34 : decode cX5_gather 34 = .ok (.iload 4, 2) := by decide +kernel
theorem dX5_gather_36 : decode cX5_gather 36 = .ok (.aload_n 0, 1) := by decide +kernel
theorem dX5_gather_37 : decode cX5_gather 37 = .ok (.getfield 175, 3) := by decide +kernel
theorem dX5_gather_40 : decode cX5_gather 40 = .ok (.if_icmp .ge 78, 3) := by decide +kernel
theorem dX5_gather_43 : decode cX5_gather 43 = .ok (.aload_n 0, 1) := by decide +kernel
theorem dX5_gather_44 : decode cX5_gather 44 = .ok (.iload_n 1, 1) := by decide +kernel
theorem dX5_gather_45 : decode cX5_gather 45 = .ok (.aload_n 0, 1) := by decide +kernel
theorem dX5_gather_46 : decode cX5_gather 46 = .ok (.getfield 53, 3) := by decide +kernel
theorem dX5_gather_49 : decode cX5_gather 49 = .ok (.iload 4, 2) := by decide +kernel
theorem dX5_gather_51 : decode cX5_gather 51 = .ok (.iaload, 1) := by decide +kernel
theorem dX5_gather_52 : decode cX5_gather 52 = .ok (.aload_n 0, 1) := by decide +kernel
theorem dX5_gather_53 : decode cX5_gather 53 = .ok (.getfield 56, 3) := by decide +kernel
theorem dX5_gather_56 : decode cX5_gather 56 = .ok (.iload 4, 2) := by decide +kernel
theorem dX5_gather_58 : decode cX5_gather 58 = .ok (.iaload, 1) := by decide +kernel
theorem dX5_gather_59 : decode cX5_gather 59 = .ok (.aload_n 0, 1) := by decide +kernel
theorem dX5_gather_60 : decode cX5_gather 60 = .ok (.getfield 59, 3) := by decide +kernel
theorem dX5_gather_63 : decode cX5_gather 63 = .ok (.iload 4, 2) := by decide +kernel
theorem dX5_gather_65 : decode cX5_gather 65 = .ok (.iaload, 1) := by decide +kernel
theorem dX5_gather_66 : decode cX5_gather 66 = .ok (.invokevirtual 164, 3) := by decide +kernel
theorem dX5_gather_69 : decode cX5_gather 69 = .ok (.istore 5, 2) := by decide +kernel
theorem dX5_gather_71 : decode cX5_gather 71 = .ok (.iload 5, 2) := by decide +kernel
theorem dX5_gather_73 : decode cX5_gather 73 = .ok (.iconst (-1), 1) := by decide +kernel
theorem dX5_gather_74 : decode cX5_gather 74 = .ok (.if_icmp .ne 6, 3) := by decide +kernel
theorem dX5_gather_77 : decode cX5_gather 77 = .ok (.iload 4, 2) := by decide +kernel
theorem dX5_gather_79 : decode cX5_gather 79 = .ok (.ireturn, 1) := by decide +kernel
theorem dX5_gather_80 : decode cX5_gather 80 = .ok (.aload_n 0, 1) := by decide +kernel
theorem dX5_gather_81 : decode cX5_gather 81 = .ok (.iload 5, 2) := by decide +kernel
theorem dX5_gather_83 : decode cX5_gather 83 = .ok (.aload_n 0, 1) := by decide +kernel
theorem dX5_gather_84 : decode cX5_gather 84 = .ok (.getfield 20, 3) := by decide +kernel
theorem dX5_gather_87 : decode cX5_gather 87 = .ok (.iload_n 1, 1) := by decide +kernel
theorem dX5_gather_88 : decode cX5_gather 88 = .ok (.iaload, 1) := by decide +kernel
theorem dX5_gather_89 : decode cX5_gather 89 = .ok (.iload_n 2, 1) := by decide +kernel
theorem dX5_gather_90 : decode cX5_gather 90 = .ok (.aload_n 0, 1) := by decide +kernel
theorem dX5_gather_91 : decode cX5_gather 91 = .ok (.getfield 62, 3) := by decide +kernel
theorem dX5_gather_94 : decode cX5_gather 94 = .ok (.iload 4, 2) := by decide +kernel
theorem dX5_gather_96 : decode cX5_gather 96 = .ok (.laload, 1) := by decide +kernel
theorem dX5_gather_97 : decode cX5_gather 97 = .ok (.invokevirtual 182, 3) := by decide +kernel
theorem dX5_gather_100 : decode cX5_gather 100 = .ok (.ifCond .ne 12, 3) := by decide +kernel
theorem dX5_gather_103 : decode cX5_gather 103 = .ok (.aload_n 0, 1) := by decide +kernel
theorem dX5_gather_104 : decode cX5_gather 104 = .ok (.bipush 6, 2) := by decide +kernel
theorem dX5_gather_106 : decode cX5_gather 106 = .ok (.putfield 65, 3) := by decide +kernel
theorem dX5_gather_109 : decode cX5_gather 109 = .ok (.iload 4, 2) := by decide +kernel
theorem dX5_gather_111 : decode cX5_gather 111 = .ok (.ireturn, 1) := by decide +kernel
theorem dX5_gather_112 : decode cX5_gather 112 = .ok (.iinc 4 1, 3) := by decide +kernel
theorem dX5_gather_115 : decode cX5_gather 115 = .ok (.goto (-81), 3) := by decide +kernel
theorem dX5_gather_118 : decode cX5_gather 118 = .ok (.aload_n 0, 1) := by decide +kernel
theorem dX5_gather_119 : decode cX5_gather 119 = .ok (.getfield 175, 3) := by decide +kernel
theorem dX5_gather_122 : decode cX5_gather 122 = .ok (.istore 4, 2) := by decide +kernel
theorem dX5_gather_124 : decode cX5_gather 124 = .ok (.aload_n 0, 1) := by decide +kernel
theorem dX5_gather_125 : decode cX5_gather 125 = .ok (.iconst 0, 1) := by decide +kernel
theorem dX5_gather_126 : decode cX5_gather 126 = .ok (.putfield 175, 3) := by decide +kernel
theorem dX5_gather_129 : decode cX5_gather 129 = .ok (.aload_n 0, 1) := by decide +kernel
theorem dX5_gather_130 : decode cX5_gather 130 = .ok (.iload 4, 2) := by decide +kernel
theorem dX5_gather_132 : decode cX5_gather 132 = .ok (.invokevirtual 75, 3) := by decide +kernel
theorem dX5_gather_135 : decode cX5_gather 135 = .ok (.ireturn, 1) := by decide +kernel
theorem dX5_join_0 : decode cX5_join 0 = .ok (.iload_n 3, 1) := by decide +kernel
theorem dX5_join_1 : decode cX5_join 1 = .ok (.i2l, 1) := by decide +kernel
theorem dX5_join_2 : decode cX5_join 2 = .ok (.lconst 0, 1) := by decide +kernel
theorem dX5_join_3 : decode cX5_join 3 = .ok (.ldc2_w 180, 3) := by decide +kernel
theorem dX5_join_6 : decode cX5_join 6 = .ok (.invokestatic 101, 3) := by decide +kernel
theorem dX5_join_9 : decode cX5_join 9 = .ok (.ifCond .ne 6, 3) := by decide +kernel
theorem dX5_join_12 : decode cX5_join 12 = .ok (.ldc 116, 2) := by decide +kernel
theorem dX5_join_14 : decode cX5_join 14 = .ok (.ireturn, 1) := by decide +kernel
theorem dX5_join_15 : decode cX5_join 15 = .ok (.aload_n 0, 1) := by decide +kernel
theorem dX5_join_16 : decode cX5_join 16 = .ok (.iload_n 1, 1) := by decide +kernel
theorem dX5_join_17 : decode cX5_join 17 = .ok (.invokevirtual 131, 3) := by decide +kernel
theorem dX5_join_20 : decode cX5_join 20 = .ok (.ifCond .eq 11, 3) := by decide +kernel
theorem dX5_join_23 : decode cX5_join 23 = .ok (.aload_n 0, 1) := by decide +kernel
theorem dX5_join_24 : decode cX5_join 24 = .ok (.iload_n 2, 1) := by decide +kernel
theorem dX5_join_25 : decode cX5_join 25 = .ok (.invokevirtual 131, 3) := by decide +kernel
theorem dX5_join_28 : decode cX5_join 28 = .ok (.ifCond .ne 10, 3) := by decide +kernel
theorem dX5_join_31 : decode cX5_join 31 = .ok (.aload_n 0, 1) := by decide +kernel
theorem dX5_join_32 : decode cX5_join 32 = .ok (.bipush 7, 2) := by decide +kernel
theorem dX5_join_34 : decode cX5_join 34 = .ok (.invokevirtual 68, 3) := by decide +kernel
theorem dX5_join_37 : decode cX5_join 37 = .ok (.ireturn, 1) := by decide +kernel
theorem dX5_join_38 : decode cX5_join 38 = .ok (.aload_n 0, 1) := by decide +kernel
theorem dX5_join_39 : decode cX5_join 39 = .ok (.getfield 20, 3) := by decide +kernel
theorem dX5_join_42 : decode cX5_join 42 = .ok (.iload_n 1, 1) := by decide +kernel
theorem dX5_join_43 : decode cX5_join 43 = .ok (.iaload, 1) := by decide +kernel
theorem dX5_join_44 : decode cX5_join 44 = .ok (.aload_n 0, 1) := by decide +kernel
theorem dX5_join_45 : decode cX5_join 45 = .ok (.getfield 20, 3) := by decide +kernel
theorem dX5_join_48 : decode cX5_join 48 = .ok (.iload_n 2, 1) := by decide +kernel
theorem dX5_join_49 : decode cX5_join 49 = .ok (.iaload, 1) := by decide +kernel
theorem dX5_join_50 : decode cX5_join 50 = .ok (.if_icmp .ne 13, 3) := by decide +kernel
theorem dX5_join_53 : decode cX5_join 53 = .ok (.aload_n 0, 1) := by decide +kernel
theorem dX5_join_54 : decode cX5_join 54 = .ok (.getfield 20, 3) := by decide +kernel
theorem dX5_join_57 : decode cX5_join 57 = .ok (.iload_n 1, 1) := by decide +kernel
theorem dX5_join_58 : decode cX5_join 58 = .ok (.iaload, 1) := by decide +kernel
theorem dX5_join_59 : decode cX5_join 59 = .ok (.iconst 4, 1) := by decide +kernel
theorem dX5_join_60 : decode cX5_join 60 = .ok (.if_icmp .ne 9, 3) := by decide +kernel
theorem dX5_join_63 : decode cX5_join 63 = .ok (.aload_n 0, 1) := by decide +kernel
theorem dX5_join_64 : decode cX5_join 64 = .ok (.iconst 2, 1) := by decide +kernel
theorem dX5_join_65 : decode cX5_join 65 = .ok (.invokevirtual 68, 3) := by decide +kernel
theorem dX5_join_68 : decode cX5_join 68 = .ok (.ireturn, 1) := by decide +kernel
theorem dX5_join_69 : decode cX5_join 69 = .ok (.aload_n 0, 1) := by decide +kernel
theorem dX5_join_70 : decode cX5_join 70 = .ok (.getfield 38, 3) := by decide +kernel
theorem dX5_join_73 : decode cX5_join 73 = .ok (.aload_n 0, 1) := by decide +kernel
theorem dX5_join_74 : decode cX5_join 74 = .ok (.getfield 32, 3) := by decide +kernel
theorem dX5_join_77 : decode cX5_join 77 = .ok (.iload_n 1, 1) := by decide +kernel
theorem dX5_join_78 : decode cX5_join 78 = .ok (.iaload, 1) := by decide +kernel
theorem dX5_join_79 : decode cX5_join 79 = .ok (.iaload, 1) := by decide +kernel
theorem dX5_join_80 : decode cX5_join 80 = .ok (.istore 4, 2) := by decide +kernel
theorem dX5_join_82 : decode cX5_join 82 = .ok (.iload 4, 2) := by decide +kernel
theorem dX5_join_84 : decode cX5_join 84 = .ok (.aload_n 0, 1) := by decide +kernel
theorem dX5_join_85 : decode cX5_join 85 = .ok (.getfield 38, 3) := by decide +kernel
theorem dX5_join_88 : decode cX5_join 88 = .ok (.aload_n 0, 1) := by decide +kernel
theorem dX5_join_89 : decode cX5_join 89 = .ok (.getfield 32, 3) := by decide +kernel
theorem dX5_join_92 : decode cX5_join 92 = .ok (.iload_n 2, 1) := by decide +kernel
theorem dX5_join_93 : decode cX5_join 93 = .ok (.iaload, 1) := by decide +kernel
theorem dX5_join_94 : decode cX5_join 94 = .ok (.iaload, 1) := by decide +kernel
theorem dX5_join_95 : decode cX5_join 95 = .ok (.if_icmp .eq 10, 3) := by decide +kernel
theorem dX5_join_98 : decode cX5_join 98 = .ok (.aload_n 0, 1) := by decide +kernel
theorem dX5_join_99 : decode cX5_join 99 = .ok (.bipush 10, 2) := by decide +kernel
theorem dX5_join_101 : decode cX5_join 101 = .ok (.invokevirtual 68, 3) := by decide +kernel
theorem dX5_join_104 : decode cX5_join 104 = .ok (.ireturn, 1) := by decide +kernel
theorem dX5_join_105 : decode cX5_join 105 = .ok (.iconst 0, 1) := by decide +kernel
theorem dX5_join_106 : decode cX5_join 106 = .ok (.istore 5, 2) := by decide +kernel
theorem dX5_join_108 : decode cX5_join 108 = .ok (.iload 5, 2) := by decide +kernel
theorem dX5_join_110 : decode cX5_join 110 = .ok (.iload 4, 2) := by decide +kernel
theorem dX5_join_112 : decode cX5_join 112 = .ok (.if_icmp .ge 101, 3) := by decide +kernel
theorem dX5_join_115 : decode cX5_join 115 = .ok (.aload_n 0, 1) := by decide +kernel
theorem dX5_join_116 : decode cX5_join 116 = .ok (.getfield 35, 3) := by decide +kernel
theorem dX5_join_119 : decode cX5_join 119 = .ok (.aload_n 0, 1) := by decide +kernel
theorem dX5_join_120 : decode cX5_join 120 = .ok (.getfield 32, 3) := by decide +kernel
theorem dX5_join_123 : decode cX5_join 123 = .ok (.iload_n 1, 1) := by decide +kernel
theorem dX5_join_124 : decode cX5_join 124 = .ok (.iaload, 1) := by decide +kernel
theorem dX5_join_125 : decode cX5_join 125 = .ok (.iaload, 1) := by decide +kernel
theorem dX5_join_126 : decode cX5_join 126 = .ok (.iload 5, 2) := by decide +kernel
theorem dX5_join_128 : decode cX5_join 128 = .ok (.iadd, 1) := by decide +kernel
theorem dX5_join_129 : decode cX5_join 129 = .ok (.istore 6, 2) := by decide +kernel
theorem dX5_join_131 : decode cX5_join 131 = .ok (.aload_n 0, 1) := by decide +kernel
theorem dX5_join_132 : decode cX5_join 132 = .ok (.getfield 35, 3) := by decide +kernel
theorem dX5_join_135 : decode cX5_join 135 = .ok (.aload_n 0, 1) := by decide +kernel
theorem dX5_join_136 : decode cX5_join 136 = .ok (.getfield 32, 3) := by decide +kernel
theorem dX5_join_139 : decode cX5_join 139 = .ok (.iload_n 2, 1) := by decide +kernel
theorem dX5_join_140 : decode cX5_join 140 = .ok (.iaload, 1) := by decide +kernel
theorem dX5_join_141 : decode cX5_join 141 = .ok (.iaload, 1) := by decide +kernel
theorem dX5_join_142 : decode cX5_join 142 = .ok (.iload 5, 2) := by decide +kernel
theorem dX5_join_144 : decode cX5_join 144 = .ok (.iadd, 1) := by decide +kernel
theorem dX5_join_145 : decode cX5_join 145 = .ok (.istore 7, 2) := by decide +kernel
theorem dX5_join_147 : decode cX5_join 147 = .ok (.aload_n 0, 1) := by decide +kernel
theorem dX5_join_148 : decode cX5_join 148 = .ok (.getfield 20, 3) := by decide +kernel
theorem dX5_join_151 : decode cX5_join 151 = .ok (.iload_n 2, 1) := by decide +kernel
theorem dX5_join_152 : decode cX5_join 152 = .ok (.iaload, 1) := by decide +kernel
theorem dX5_join_153 : decode cX5_join 153 = .ok (.iconst 3, 1) := by decide +kernel
theorem dX5_join_154 : decode cX5_join 154 = .ok (.if_icmp .ne 21, 3) := by decide +kernel
theorem dX5_join_157 : decode cX5_join 157 = .ok (.aload_n 0, 1) := by decide +kernel
theorem dX5_join_158 : decode cX5_join 158 = .ok (.getfield 46, 3) := by decide +kernel
theorem dX5_join_161 : decode cX5_join 161 = .ok (.iload 7, 2) := by decide +kernel
theorem dX5_join_163 : decode cX5_join 163 = .ok (.baload, 1) := by decide +kernel
theorem dX5_join_164 : decode cX5_join 164 = .ok (.ifCond .ne 11, 3) := by decide +kernel
theorem dX5_join_167 : decode cX5_join 167 = .ok (.aload_n 0, 1) := by decide +kernel
theorem dX5_join_168 : decode cX5_join 168 = .ok (.iconst 1, 1) := by decide +kernel
theorem dX5_join_169 : decode cX5_join 169 = .ok (.putfield 65, 3) := by decide +kernel
theorem dX5_join_172 : decode cX5_join 172 = .ok (.iload 5, 2) := by decide +kernel
theorem dX5_join_174 : decode cX5_join 174 = .ok (.ireturn, 1) := by decide +kernel
theorem dX5_join_175 : decode cX5_join 175 = .ok (.aload_n 0, 1) := by decide +kernel
theorem dX5_join_176 : decode cX5_join 176 = .ok (.iload 6, 2) := by decide +kernel
theorem dX5_join_178 : decode cX5_join 178 = .ok (.aload_n 0, 1) := by decide +kernel
theorem dX5_join_179 : decode cX5_join 179 = .ok (.getfield 20, 3) := by decide +kernel
theorem dX5_join_182 : decode cX5_join 182 = .ok (.iload_n 1, 1) := by decide +kernel
theorem dX5_join_183 : decode cX5_join 183 = .ok (.iaload, 1) := by decide +kernel
theorem dX5_join_184 : decode cX5_join 184 = .ok (.iload_n 3, 1) := by decide +kernel
theorem dX5_join_185 : decode cX5_join 185 = .ok (.aload_n 0, 1) := by decide +kernel
theorem dX5_join_186 : decode cX5_join 186 = .ok (.getfield 42, 3) := by decide +kernel
theorem dX5_join_189 : decode cX5_join 189 = .ok (.iload 7, 2) := by decide +kernel
theorem dX5_join_191 : decode cX5_join 191 = .ok (.laload, 1) := by decide +kernel
theorem dX5_join_192 : decode cX5_join 192 = .ok (.invokevirtual 182, 3) := by decide +kernel
theorem dX5_join_195 : decode cX5_join 195 = .ok (.ifCond .ne 12, 3) := by decide +kernel
theorem dX5_join_198 : decode cX5_join 198 = .ok (.aload_n 0, 1) := by decide +kernel
theorem dX5_join_199 : decode cX5_join 199 = .ok (.bipush 6, 2) := by decide +kernel
theorem dX5_join_201 : decode cX5_join 201 = .ok (.putfield 65, 3) := by decide +kernel
theorem dX5_join_204 : decode cX5_join 204 = .ok (.iload 5, 2) := by decide +kernel
theorem dX5_join_206 : decode cX5_join 206 = .ok (.ireturn, 1) := by decide +kernel
theorem dX5_join_207 : decode cX5_join 207 = .ok (.iinc 5 1, 3) := by decide +kernel
theorem dX5_join_210 : decode cX5_join 210 = .ok (.goto (-102), 3) := by decide +kernel
theorem dX5_join_213 : decode cX5_join 213 = .ok (.aload_n 0, 1) := by decide +kernel
theorem dX5_join_214 : decode cX5_join 214 = .ok (.iload 4, 2) := by decide +kernel
theorem dX5_join_216 : decode cX5_join 216 = .ok (.invokevirtual 75, 3) := by decide +kernel
theorem dX5_join_219 : decode cX5_join 219 = .ok (.ireturn, 1) := by decide +kernel
theorem dX5_sumOf_0 : decode cX5_sumOf 0 = .ok (.lconst 0, 1) := by decide +kernel
theorem dX5_sumOf_1 : decode cX5_sumOf 1 = .ok (.lstore_n 2, 1) := by decide +kernel
theorem dX5_sumOf_2 : decode cX5_sumOf 2 = .ok (.iconst 0, 1) := by decide +kernel
theorem dX5_sumOf_3 : decode cX5_sumOf 3 = .ok (.istore 4, 2) := by decide +kernel
theorem dX5_sumOf_5 : decode cX5_sumOf 5 = .ok (.iload 4, 2) := by decide +kernel
theorem dX5_sumOf_7 : decode cX5_sumOf 7 = .ok (.aload_n 0, 1) := by decide +kernel
theorem dX5_sumOf_8 : decode cX5_sumOf 8 = .ok (.getfield 38, 3) := by decide +kernel
theorem dX5_sumOf_11 : decode cX5_sumOf 11 = .ok (.iload_n 1, 1) := by decide +kernel
theorem dX5_sumOf_12 : decode cX5_sumOf 12 = .ok (.iaload, 1) := by decide +kernel
theorem dX5_sumOf_13 : decode cX5_sumOf 13 = .ok (.if_icmp .ge 26, 3) := by decide +kernel
theorem dX5_sumOf_16 : decode cX5_sumOf 16 = .ok (.lload_n 2, 1) := by decide +kernel
theorem dX5_sumOf_17 : decode cX5_sumOf 17 = .ok (.aload_n 0, 1) := by decide +kernel
theorem dX5_sumOf_18 : decode cX5_sumOf 18 = .ok (.getfield 42, 3) := by decide +kernel
theorem dX5_sumOf_21 : decode cX5_sumOf 21 = .ok (.aload_n 0, 1) := by decide +kernel
theorem dX5_sumOf_22 : decode cX5_sumOf 22 = .ok (.getfield 35, 3) := by decide +kernel
theorem dX5_sumOf_25 : decode cX5_sumOf 25 = .ok (.iload_n 1, 1) := by decide +kernel
theorem dX5_sumOf_26 : decode cX5_sumOf 26 = .ok (.iaload, 1) := by decide +kernel
theorem dX5_sumOf_27 : decode cX5_sumOf 27 = .ok (.iload 4, 2) := by decide +kernel
theorem dX5_sumOf_29 : decode cX5_sumOf 29 = .ok (.iadd, 1) := by decide +kernel
theorem dX5_sumOf_30 : decode cX5_sumOf 30 = .ok (.laload, 1) := by decide +kernel
theorem dX5_sumOf_31 : decode cX5_sumOf 31 = .ok (.ladd, 1) := by decide +kernel
theorem dX5_sumOf_32 : decode cX5_sumOf 32 = .ok (.lstore_n 2, 1) := by decide +kernel
theorem dX5_sumOf_33 : decode cX5_sumOf 33 = .ok (.iinc 4 1, 3) := by decide +kernel
theorem dX5_sumOf_36 : decode cX5_sumOf 36 = .ok (.goto (-31), 3) := by decide +kernel
theorem dX5_sumOf_39 : decode cX5_sumOf 39 = .ok (.lload_n 2, 1) := by decide +kernel
theorem dX5_sumOf_40 : decode cX5_sumOf 40 = .ok (.lreturn, 1) := by decide +kernel
theorem dX5_sum_0 : decode cX5_sum 0 = .ok (.aload_n 0, 1) := by decide +kernel
theorem dX5_sum_1 : decode cX5_sum 1 = .ok (.iload_n 1, 1) := by decide +kernel
theorem dX5_sum_2 : decode cX5_sum 2 = .ok (.invokevirtual 131, 3) := by decide +kernel
theorem dX5_sum_5 : decode cX5_sum 5 = .ok (.ifCond .ne 11, 3) := by decide +kernel
theorem dX5_sum_8 : decode cX5_sum 8 = .ok (.aload_n 0, 1) := by decide +kernel
theorem dX5_sum_9 : decode cX5_sum 9 = .ok (.bipush 7, 2) := by decide +kernel
theorem dX5_sum_11 : decode cX5_sum 11 = .ok (.invokevirtual 68, 3) := by decide +kernel
theorem dX5_sum_14 : decode cX5_sum 14 = .ok (.i2l, 1) := by decide +kernel
theorem dX5_sum_15 : decode cX5_sum 15 = .ok (.lreturn, 1) := by decide +kernel
theorem dX5_sum_16 : decode cX5_sum 16 = .ok (.aload_n 0, 1) := by decide +kernel
theorem dX5_sum_17 : decode cX5_sum 17 = .ok (.iconst 0, 1) := by decide +kernel
theorem dX5_sum_18 : decode cX5_sum 18 = .ok (.putfield 65, 3) := by decide +kernel
theorem dX5_sum_21 : decode cX5_sum 21 = .ok (.aload_n 0, 1) := by decide +kernel
theorem dX5_sum_22 : decode cX5_sum 22 = .ok (.getfield 20, 3) := by decide +kernel
theorem dX5_sum_25 : decode cX5_sum 25 = .ok (.iload_n 1, 1) := by decide +kernel
theorem dX5_sum_26 : decode cX5_sum 26 = .ok (.iaload, 1) := by decide +kernel
theorem dX5_sum_27 : decode cX5_sum 27 = .ok (.iconst 4, 1) := by decide +kernel
theorem dX5_sum_28 : decode cX5_sum 28 = .ok (.if_icmp .eq 14, 3) := by decide +kernel
theorem dX5_sum_31 : decode cX5_sum 31 = .ok (.aload_n 0, 1) := by decide +kernel
theorem dX5_sum_32 : decode cX5_sum 32 = .ok (.aload_n 0, 1) := by decide +kernel
theorem dX5_sum_33 : decode cX5_sum 33 = .ok (.getfield 32, 3) := by decide +kernel
theorem dX5_sum_36 : decode cX5_sum 36 = .ok (.iload_n 1, 1) := by decide +kernel
theorem dX5_sum_37 : decode cX5_sum 37 = .ok (.iaload, 1) := by decide +kernel
theorem dX5_sum_38 : decode cX5_sum 38 = .ok (.invokevirtual 186, 3) := by decide +kernel
theorem dX5_sum_41 : decode cX5_sum 41 = .ok (.lreturn, 1) := by decide +kernel
theorem dX5_sum_42 : decode cX5_sum 42 = .ok (.lconst 0, 1) := by decide +kernel
theorem dX5_sum_43 : decode cX5_sum 43 = .ok (.lstore_n 2, 1) := by decide +kernel
theorem dX5_sum_44 : decode cX5_sum 44 = .ok (.iconst 0, 1) := by decide +kernel
theorem dX5_sum_45 : decode cX5_sum 45 = .ok (.istore 4, 2) := by decide +kernel
theorem dX5_sum_47 : decode cX5_sum 47 = .ok (.iload 4, 2) := by decide +kernel
theorem dX5_sum_49 : decode cX5_sum 49 = .ok (.aload_n 0, 1) := by decide +kernel
theorem dX5_sum_50 : decode cX5_sum 50 = .ok (.iload_n 1, 1) := by decide +kernel
theorem dX5_sum_51 : decode cX5_sum 51 = .ok (.invokevirtual 155, 3) := by decide +kernel
theorem dX5_sum_54 : decode cX5_sum 54 = .ok (.if_icmp .ge 44, 3) := by decide +kernel
theorem dX5_sum_57 : decode cX5_sum 57 = .ok (.aload_n 0, 1) := by decide +kernel
theorem dX5_sum_58 : decode cX5_sum 58 = .ok (.getfield 50, 3) := by decide +kernel
theorem dX5_sum_61 : decode cX5_sum 61 = .ok (.aload_n 0, 1) := by decide +kernel
theorem dX5_sum_62 : decode cX5_sum 62 = .ok (.getfield 32, 3) := by decide +kernel
theorem dX5_sum_65 : decode cX5_sum 65 = .ok (.iload_n 1, 1) := by decide +kernel
theorem dX5_sum_66 : decode cX5_sum 66 = .ok (.iaload, 1) := by decide +kernel
theorem dX5_sum_67 : decode cX5_sum 67 = .ok (.iload 4, 2) := by decide +kernel
theorem dX5_sum_69 : decode cX5_sum 69 = .ok (.iadd, 1) := by decide +kernel
theorem dX5_sum_70 : decode cX5_sum 70 = .ok (.iaload, 1) := by decide +kernel
theorem dX5_sum_71 : decode cX5_sum 71 = .ok (.istore 5, 2) := by decide +kernel
theorem dX5_sum_73 : decode cX5_sum 73 = .ok (.lload_n 2, 1) := by decide +kernel
theorem dX5_sum_74 : decode cX5_sum 74 = .ok (.iload 5, 2) := by decide +kernel
theorem dX5_sum_76 : decode cX5_sum 76 = .ok (.iconst (-1), 1) := by decide +kernel
theorem dX5_sum_77 : decode cX5_sum 77 = .ok (.if_icmp .ne 7, 3) := by decide +kernel
theorem dX5_sum_80 : decode cX5_sum 80 = .ok (.lconst 0, 1) := by decide +kernel
theorem dX5_sum_81 : decode cX5_sum 81 = .ok (.goto 9, 3) := by decide +kernel
theorem dX5_sum_84 : decode cX5_sum 84 = .ok (.aload_n 0, 1) := by decide +kernel
theorem dX5_sum_85 : decode cX5_sum 85 = .ok (.iload 5, 2) := by decide +kernel
theorem dX5_sum_87 : decode cX5_sum 87 = .ok (.invokevirtual 186, 3) := by decide +kernel
theorem dX5_sum_90 : decode cX5_sum 90 = .ok (.ladd, 1) := by decide +kernel
theorem dX5_sum_91 : decode cX5_sum 91 = .ok (.lstore_n 2, 1) := by decide +kernel
theorem dX5_sum_92 : decode cX5_sum 92 = .ok (.iinc 4 1, 3) := by decide +kernel
theorem dX5_sum_95 : decode cX5_sum 95 = .ok (.goto (-48), 3) := by decide +kernel
theorem dX5_sum_98 : decode cX5_sum 98 = .ok (.lload_n 2, 1) := by decide +kernel
theorem dX5_sum_99 : decode cX5_sum 99 = .ok (.lreturn, 1) := by decide +kernel
theorem dX5_mean_0 : decode cX5_mean 0 = .ok (.aload_n 0, 1) := by decide +kernel
theorem dX5_mean_1 : decode cX5_mean 1 = .ok (.iload_n 1, 1) := by decide +kernel
theorem dX5_mean_2 : decode cX5_mean 2 = .ok (.invokevirtual 131, 3) := by decide +kernel
theorem dX5_mean_5 : decode cX5_mean 5 = .ok (.ifCond .ne 8, 3) := by decide +kernel
theorem dX5_mean_8 : decode cX5_mean 8 = .ok (.bipush 7, 2) := by decide +kernel
theorem dX5_mean_10 : decode cX5_mean 10 = .ok (.goto 37, 3) := by decide +kernel
theorem dX5_mean_13 : decode cX5_mean 13 = .ok (.aload_n 0, 1) := by decide +kernel
theorem dX5_mean_14 : decode cX5_mean 14 = .ok (.getfield 20, 3) := by decide +kernel
theorem dX5_mean_17 : decode cX5_mean 17 = .ok (.iload_n 1, 1) := by decide +kernel
theorem dX5_mean_18 : decode cX5_mean 18 = .ok (.iaload, 1) := by decide +kernel
theorem dX5_mean_19 : decode cX5_mean 19 = .ok (.iconst 3, 1) := by decide +kernel
theorem dX5_mean_20 : decode cX5_mean 20 = .ok (.if_icmp .lt 7, 3) := by decide +kernel
theorem dX5_mean_23 : decode cX5_mean 23 = .ok (.iconst 2, 1) := by decide +kernel
theorem dX5_mean_24 : decode cX5_mean 24 = .ok (.goto 23, 3) := by decide +kernel
theorem dX5_mean_27 : decode cX5_mean 27 = .ok (.aload_n 0, 1) := by decide +kernel
theorem dX5_mean_28 : decode cX5_mean 28 = .ok (.getfield 38, 3) := by decide +kernel
theorem dX5_mean_31 : decode cX5_mean 31 = .ok (.aload_n 0, 1) := by decide +kernel
theorem dX5_mean_32 : decode cX5_mean 32 = .ok (.getfield 32, 3) := by decide +kernel
theorem dX5_mean_35 : decode cX5_mean 35 = .ok (.iload_n 1, 1) := by decide +kernel
theorem dX5_mean_36 : decode cX5_mean 36 = .ok (.iaload, 1) := by decide +kernel
theorem dX5_mean_37 : decode cX5_mean 37 = .ok (.iaload, 1) := by decide +kernel
theorem dX5_mean_38 : decode cX5_mean 38 = .ok (.ifCond .ne 8, 3) := by decide +kernel
theorem dX5_mean_41 : decode cX5_mean 41 = .ok (.bipush 6, 2) := by decide +kernel
theorem dX5_mean_43 : decode cX5_mean 43 = .ok (.goto 4, 3) := by decide +kernel
theorem dX5_mean_46 : decode cX5_mean 46 = .ok (.iconst 0, 1) := by decide +kernel
theorem dX5_mean_47 : decode cX5_mean 47 = .ok (.istore_n 2, 1) := by decide +kernel
theorem dX5_mean_48 : decode cX5_mean 48 = .ok (.iload_n 2, 1) := by decide +kernel
theorem dX5_mean_49 : decode cX5_mean 49 = .ok (.ifCond .eq 10, 3) := by decide +kernel
theorem dX5_mean_52 : decode cX5_mean 52 = .ok (.aload_n 0, 1) := by decide +kernel
theorem dX5_mean_53 : decode cX5_mean 53 = .ok (.iload_n 2, 1) := by decide +kernel
theorem dX5_mean_54 : decode cX5_mean 54 = .ok (.invokevirtual 68, 3) := by decide +kernel
theorem dX5_mean_57 : decode cX5_mean 57 = .ok (.i2l, 1) := by decide +kernel
theorem dX5_mean_58 : decode cX5_mean 58 = .ok (.lreturn, 1) := by decide +kernel
theorem dX5_mean_59 : decode cX5_mean 59 = .ok (.aload_n 0, 1) := by decide +kernel
theorem dX5_mean_60 : decode cX5_mean 60 = .ok (.iconst 0, 1) := by decide +kernel
theorem dX5_mean_61 : decode cX5_mean 61 = .ok (.putfield 65, 3) := by decide +kernel
theorem dX5_mean_64 : decode cX5_mean 64 = .ok (.aload_n 0, 1) := by decide +kernel
theorem dX5_mean_65 : decode cX5_mean 65 = .ok (.aload_n 0, 1) := by decide +kernel
theorem dX5_mean_66 : decode cX5_mean 66 = .ok (.getfield 32, 3) := by decide +kernel
theorem dX5_mean_69 : decode cX5_mean 69 = .ok (.iload_n 1, 1) := by decide +kernel
theorem dX5_mean_70 : decode cX5_mean 70 = .ok (.iaload, 1) := by decide +kernel
theorem dX5_mean_71 : decode cX5_mean 71 = .ok (.invokevirtual 186, 3) := by decide +kernel
theorem dX5_mean_74 : decode cX5_mean 74 = .ok (.aload_n 0, 1) := by decide +kernel
theorem dX5_mean_75 : decode cX5_mean 75 = .ok (.getfield 38, 3) := by decide +kernel
theorem dX5_mean_78 : decode cX5_mean 78 = .ok (.aload_n 0, 1) := by decide +kernel
theorem dX5_mean_79 : decode cX5_mean 79 = .ok (.getfield 32, 3) := by decide +kernel
theorem dX5_mean_82 : decode cX5_mean 82 = .ok (.iload_n 1, 1) := by decide +kernel
theorem dX5_mean_83 : decode cX5_mean 83 = .ok (.iaload, 1) := by decide +kernel
theorem dX5_mean_84 : decode cX5_mean 84 = .ok (.iaload, 1) := by decide +kernel
theorem dX5_mean_85 : decode cX5_mean 85 = .ok (.i2l, 1) := by decide +kernel
theorem dX5_mean_86 : decode cX5_mean 86 = .ok (.ldiv, 1) := by decide +kernel
theorem dX5_mean_87 : decode cX5_mean 87 = .ok (.lreturn, 1) := by decide +kernel
theorem dX5_about_0 : decode cX5_about 0 = .ok (.iload_n 2, 1) := by decide +kernel
theorem dX5_about_1 : decode cX5_about 1 = .ok (.i2l, 1) := by decide +kernel
theorem dX5_about_2 : decode cX5_about 2 = .ok (.lconst 0, 1) := by decide +kernel
theorem dX5_about_3 : decode cX5_about 3 = .ok (.ldc2_w 190, 3) := by decide +kernel
theorem dX5_about_6 : decode cX5_about 6 = .ok (.invokestatic 101, 3) := by decide +kernel
theorem dX5_about_9 : decode cX5_about 9 = .ok (.ifCond .ne 6, 3) := by decide +kernel
theorem dX5_about_12 : decode cX5_about 12 = .ok (.ldc 116, 2) := by decide +kernel
theorem dX5_about_14 : decode cX5_about 14 = .ok (.ireturn, 1) := by decide +kernel
theorem dX5_about_15 : decode cX5_about 15 = .ok (.aload_n 0, 1) := by decide +kernel
theorem dX5_about_16 : decode cX5_about 16 = .ok (.iload_n 1, 1) := by decide +kernel
theorem dX5_about_17 : decode cX5_about 17 = .ok (.invokevirtual 131, 3) := by decide +kernel
theorem dX5_about_20 : decode cX5_about 20 = .ok (.ifCond .ne 10, 3) := by decide +kernel
theorem dX5_about_23 : decode cX5_about 23 = .ok (.aload_n 0, 1) := by decide +kernel
theorem dX5_about_24 : decode cX5_about 24 = .ok (.bipush 7, 2) := by decide +kernel
theorem dX5_about_26 : decode cX5_about 26 = .ok (.invokevirtual 68, 3) := by decide +kernel
theorem dX5_about_29 : decode cX5_about 29 = .ok (.ireturn, 1) := by decide +kernel
theorem dX5_about_30 : decode cX5_about 30 = .ok (.iload_n 2, 1) := by decide +kernel
theorem dX5_about_31 : decode cX5_about 31 = .ok (.ifCond .ne 14, 3) := by decide +kernel
theorem dX5_about_34 : decode cX5_about 34 = .ok (.aload_n 0, 1) := by decide +kernel
theorem dX5_about_35 : decode cX5_about 35 = .ok (.aload_n 0, 1) := by decide +kernel
theorem dX5_about_36 : decode cX5_about 36 = .ok (.getfield 20, 3) := by decide +kernel
theorem dX5_about_39 : decode cX5_about 39 = .ok (.iload_n 1, 1) := by decide +kernel
theorem dX5_about_40 : decode cX5_about 40 = .ok (.iaload, 1) := by decide +kernel
theorem dX5_about_41 : decode cX5_about 41 = .ok (.invokevirtual 75, 3) := by decide +kernel
theorem dX5_about_44 : decode cX5_about 44 = .ok (.ireturn, 1) := by decide +kernel
theorem dX5_about_45 : decode cX5_about 45 = .ok (.iload_n 2, 1) := by decide +kernel
theorem dX5_about_46 : decode cX5_about 46 = .ok (.iconst 1, 1) := by decide +kernel
theorem dX5_about_47 : decode cX5_about 47 = .ok (.if_icmp .ne 14, 3) := by decide +kernel
theorem dX5_about_50 : decode cX5_about 50 = .ok (.aload_n 0, 1) := by decide +kernel
theorem dX5_about_51 : decode cX5_about 51 = .ok (.aload_n 0, 1) := by decide +kernel
theorem dX5_about_52 : decode cX5_about 52 = .ok (.getfield 23, 3) := by decide +kernel
theorem dX5_about_55 : decode cX5_about 55 = .ok (.iload_n 1, 1) := by decide +kernel
theorem dX5_about_56 : decode cX5_about 56 = .ok (.iaload, 1) := by decide +kernel
theorem dX5_about_57 : decode cX5_about 57 = .ok (.invokevirtual 75, 3) := by decide +kernel
theorem dX5_about_60 : decode cX5_about 60 = .ok (.ireturn, 1) := by decide +kernel
theorem dX5_about_61 : decode cX5_about 61 = .ok (.iload_n 2, 1) := by decide +kernel
theorem dX5_about_62 : decode cX5_about 62 = .ok (.iconst 2, 1) := by decide +kernel
theorem dX5_about_63 : decode cX5_about 63 = .ok (.if_icmp .ne 100, 3) := by decide +kernel
theorem dX5_about_66 : decode cX5_about 66 = .ok (.aload_n 0, 1) := by decide +kernel
theorem dX5_about_67 : decode cX5_about 67 = .ok (.getfield 20, 3) := by decide +kernel
theorem dX5_about_70 : decode cX5_about 70 = .ok (.iload_n 1, 1) := by decide +kernel
theorem dX5_about_71 : decode cX5_about 71 = .ok (.iaload, 1) := by decide +kernel
theorem dX5_about_72 : decode cX5_about 72 = .ok (.iconst 4, 1) := by decide +kernel
theorem dX5_about_73 : decode cX5_about 73 = .ok (.if_icmp .ne 7, 3) := by decide +kernel
theorem dX5_about_76 : decode cX5_about 76 = .ok (.iconst 0, 1) := by decide +kernel
theorem dX5_about_77 : decode cX5_about 77 = .ok (.goto 14, 3) := by decide +kernel
theorem dX5_about_80 : decode cX5_about 80 = .ok (.aload_n 0, 1) := by decide +kernel
theorem dX5_about_81 : decode cX5_about 81 = .ok (.getfield 38, 3) := by decide +kernel
theorem dX5_about_84 : decode cX5_about 84 = .ok (.aload_n 0, 1) := by decide +kernel
theorem dX5_about_85 : decode cX5_about 85 = .ok (.getfield 32, 3) := by decide +kernel
theorem dX5_about_88 : decode cX5_about 88 = .ok (.iload_n 1, 1) := by decide +kernel
theorem dX5_about_89 : decode cX5_about 89 = .ok (.iaload, 1) := by decide +kernel
theorem dX5_about_90 : decode cX5_about 90 = .ok (.iaload, 1) := by decide +kernel
theorem dX5_about_91 : decode cX5_about 91 = .ok (.istore_n 3, 1) := by decide +kernel
theorem dX5_about_92 : decode cX5_about 92 = .ok (.iconst 0, 1) := by decide +kernel
theorem dX5_about_93 : decode cX5_about 93 = .ok (.istore 4, 2) := by decide +kernel
theorem dX5_about_95 : decode cX5_about 95 = .ok (.aload_n 0, 1) := by decide +kernel
theorem dX5_about_96 : decode cX5_about 96 = .ok (.getfield 20, 3) := by decide +kernel
theorem dX5_about_99 : decode cX5_about 99 = .ok (.iload_n 1, 1) := by decide +kernel
theorem dX5_about_100 : decode cX5_about 100 = .ok (.iaload, 1) := by decide +kernel
theorem dX5_about_101 : decode cX5_about 101 = .ok (.iconst 4, 1) := by decide +kernel
theorem dX5_about_102 : decode cX5_about 102 = .ok (.if_icmp .ne 55, 3) := by decide +kernel
theorem dX5_about_105 : decode cX5_about 105 = .ok (.iload 4, 2) := by decide +kernel
theorem dX5_about_107 : decode cX5_about 107 = .ok (.aload_n 0, 1) := by decide +kernel
theorem dX5_about_108 : decode cX5_about 108 = .ok (.iload_n 1, 1) := by decide +kernel
theorem dX5_about_109 : decode cX5_about 109 = .ok (.invokevirtual 155, 3) := by decide +kernel
theorem dX5_about_112 : decode cX5_about 112 = .ok (.if_icmp .ge 45, 3) := by decide +kernel
theorem dX5_about_115 : decode cX5_about 115 = .ok (.aload_n 0, 1) := by decide +kernel
theorem dX5_about_116 : decode cX5_about 116 = .ok (.getfield 50, 3) := by decide +kernel
theorem dX5_about_119 : decode cX5_about 119 = .ok (.aload_n 0, 1) := by decide +kernel
theorem dX5_about_120 : decode cX5_about 120 = .ok (.getfield 32, 3) := by decide +kernel
theorem dX5_about_123 : decode cX5_about 123 = .ok (.iload_n 1, 1) := by decide +kernel
theorem dX5_about_124 : decode cX5_about 124 = .ok (.iaload, 1) := by decide +kernel
theorem dX5_about_125 : decode cX5_about 125 = .ok (.iload 4, 2) := by decide +kernel
theorem dX5_about_127 : decode cX5_about 127 = .ok (.iadd, 1) := by decide +kernel
theorem dX5_about_128 : decode cX5_about 128 = .ok (.iaload, 1) := by decide +kernel
theorem dX5_about_129 : decode cX5_about 129 = .ok (.istore 5, 2) := by decide +kernel
theorem dX5_about_131 : decode cX5_about 131 = .ok (.iload_n 3, 1) := by decide +kernel
theorem dX5_about_132 : decode cX5_about 132 = .ok (.iload 5, 2) := by decide +kernel
theorem dX5_about_134 : decode cX5_about 134 = .ok (.iconst (-1), 1) := by decide +kernel
theorem dX5_about_135 : decode cX5_about 135 = .ok (.if_icmp .ne 7, 3) := by decide +kernel
theorem dX5_about_138 : decode cX5_about 138 = .ok (.iconst 0, 1) := by decide +kernel
theorem dX5_about_139 : decode cX5_about 139 = .ok (.goto 10, 3) := by decide +kernel
theorem dX5_about_142 : decode cX5_about 142 = .ok (.aload_n 0, 1) := by decide +kernel
theorem dX5_about_143 : decode cX5_about 143 = .ok (.getfield 38, 3) := by decide +kernel
theorem dX5_about_146 : decode cX5_about 146 = .ok (.iload 5, 2) := by decide +kernel
theorem dX5_about_148 : decode cX5_about 148 = .ok (.iaload, 1) := by decide +kernel
theorem dX5_about_149 : decode cX5_about 149 = .ok (.iadd, 1) := by decide +kernel
theorem dX5_about_150 : decode cX5_about 150 = .ok (.istore_n 3, 1) := by decide +kernel
theorem dX5_about_151 : decode cX5_about 151 = .ok (.iinc 4 1, 3) := by decide +kernel
theorem dX5_about_154 : decode cX5_about 154 = .ok (.goto (-59), 3) := by decide +kernel
theorem dX5_about_157 : decode cX5_about 157 = .ok (.aload_n 0, 1) := by decide +kernel
theorem dX5_about_158 : decode cX5_about 158 = .ok (.iload_n 3, 1) := by decide +kernel
theorem dX5_about_159 : decode cX5_about 159 = .ok (.invokevirtual 75, 3) := by decide +kernel
theorem dX5_about_162 : decode cX5_about 162 = .ok (.ireturn, 1) := by decide +kernel
theorem dX5_about_163 : decode cX5_about 163 = .ok (.iload_n 2, 1) := by decide +kernel
theorem dX5_about_164 : decode cX5_about 164 = .ok (.iconst 3, 1) := by decide +kernel
theorem dX5_about_165 : decode cX5_about 165 = .ok (.isub, 1) := by decide +kernel
theorem dX5_about_166 : decode cX5_about 166 = .ok (.iconst 2, 1) := by decide +kernel
theorem dX5_about_167 : decode cX5_about 167 = .ok (.idiv, 1) := by decide +kernel
theorem dX5_about_168 : decode cX5_about 168 = .ok (.istore_n 3, 1) := by decide +kernel
theorem dX5_about_169 : decode cX5_about 169 = .ok (.iload_n 3, 1) := by decide +kernel
theorem dX5_about_170 : decode cX5_about 170 = .ok (.aload_n 0, 1) := by decide +kernel
theorem dX5_about_171 : decode cX5_about 171 = .ok (.getfield 23, 3) := by decide +kernel
theorem dX5_about_174 : decode cX5_about 174 = .ok (.iload_n 1, 1) := by decide +kernel
theorem dX5_about_175 : decode cX5_about 175 = .ok (.iaload, 1) := by decide +kernel
theorem dX5_about_176 : decode cX5_about 176 = .ok (.if_icmp .lt 10, 3) := by decide +kernel
theorem dX5_about_179 : decode cX5_about 179 = .ok (.aload_n 0, 1) := by decide +kernel
theorem dX5_about_180 : decode cX5_about 180 = .ok (.bipush 9, 2) := by decide +kernel
theorem dX5_about_182 : decode cX5_about 182 = .ok (.invokevirtual 68, 3) := by decide +kernel
theorem dX5_about_185 : decode cX5_about 185 = .ok (.ireturn, 1) := by decide +kernel
theorem dX5_about_186 : decode cX5_about 186 = .ok (.aload_n 0, 1) := by decide +kernel
theorem dX5_about_187 : decode cX5_about 187 = .ok (.iload_n 2, 1) := by decide +kernel
theorem dX5_about_188 : decode cX5_about 188 = .ok (.iconst 2, 1) := by decide +kernel
theorem dX5_about_189 : decode cX5_about 189 = .ok (.irem, 1) := by decide +kernel
theorem dX5_about_190 : decode cX5_about 190 = .ok (.iconst 1, 1) := by decide +kernel
theorem dX5_about_191 : decode cX5_about 191 = .ok (.if_icmp .ne 16, 3) := by decide +kernel
theorem dX5_about_194 : decode cX5_about 194 = .ok (.aload_n 0, 1) := by decide +kernel
theorem dX5_about_195 : decode cX5_about 195 = .ok (.getfield 26, 3) := by decide +kernel
theorem dX5_about_198 : decode cX5_about 198 = .ok (.iconst 3, 1) := by decide +kernel
theorem dX5_about_199 : decode cX5_about 199 = .ok (.iload_n 1, 1) := by decide +kernel
theorem dX5_about_200 : decode cX5_about 200 = .ok (.imul, 1) := by decide +kernel
theorem dX5_about_201 : decode cX5_about 201 = .ok (.iload_n 3, 1) := by decide +kernel
theorem dX5_about_202 : decode cX5_about 202 = .ok (.iadd, 1) := by decide +kernel
theorem dX5_about_203 : decode cX5_about 203 = .ok (.iaload, 1) := by decide +kernel
theorem dX5_about_204 : decode cX5_about 204 = .ok (.goto 13, 3) := by decide +kernel
theorem dX5_about_207 : decode cX5_about 207 = .ok (.aload_n 0, 1) := by decide +kernel
theorem dX5_about_208 : decode cX5_about 208 = .ok (.getfield 29, 3) := by decide +kernel
theorem dX5_about_211 : decode cX5_about 211 = .ok (.iconst 3, 1) := by decide +kernel
theorem dX5_about_212 : decode cX5_about 212 = .ok (.iload_n 1, 1) := by decide +kernel
theorem dX5_about_213 : decode cX5_about 213 = .ok (.imul, 1) := by decide +kernel
theorem dX5_about_214 : decode cX5_about 214 = .ok (.iload_n 3, 1) := by decide +kernel
theorem dX5_about_215 : decode cX5_about 215 = .ok (.iadd, 1) := by decide +kernel
theorem dX5_about_216 : decode cX5_about 216 = .ok (.iaload, 1) := by decide +kernel
theorem dX5_about_217 : decode cX5_about 217 = .ok (.invokevirtual 75, 3) := by decide +kernel
theorem dX5_about_220 : decode cX5_about 220 = .ok (.ireturn, 1) := by decide +kernel
theorem dX5_same_0 : decode cX5_same 0 = .ok (.aload_n 0, 1) := by decide +kernel
theorem dX5_same_1 : decode cX5_same 1 = .ok (.iload_n 1, 1) := by decide +kernel
theorem dX5_same_2 : decode cX5_same 2 = .ok (.invokevirtual 131, 3) := by decide +kernel
theorem dX5_same_5 : decode cX5_same 5 = .ok (.ifCond .eq 11, 3) := by decide +kernel
theorem dX5_same_8 : decode cX5_same 8 = .ok (.aload_n 0, 1) := by decide +kernel
theorem dX5_same_9 : decode cX5_same 9 = .ok (.iload_n 2, 1) := by decide +kernel
theorem dX5_same_10 : decode cX5_same 10 = .ok (.invokevirtual 131, 3) := by decide +kernel
theorem dX5_same_13 : decode cX5_same 13 = .ok (.ifCond .ne 10, 3) := by decide +kernel
theorem dX5_same_16 : decode cX5_same 16 = .ok (.aload_n 0, 1) := by decide +kernel
theorem dX5_same_17 : decode cX5_same 17 = .ok (.bipush 7, 2) := by decide +kernel
theorem dX5_same_19 : decode cX5_same 19 = .ok (.invokevirtual 68, 3) := by decide +kernel
theorem dX5_same_22 : decode cX5_same 22 = .ok (.ireturn, 1) := by decide +kernel
theorem dX5_same_23 : decode cX5_same 23 = .ok (.aload_n 0, 1) := by decide +kernel
theorem dX5_same_24 : decode cX5_same 24 = .ok (.getfield 20, 3) := by decide +kernel
theorem dX5_same_27 : decode cX5_same 27 = .ok (.iload_n 1, 1) := by decide +kernel
theorem dX5_same_28 : decode cX5_same 28 = .ok (.iaload, 1) := by decide +kernel
theorem dX5_same_29 : decode cX5_same 29 = .ok (.iconst 4, 1) := by decide +kernel
theorem dX5_same_30 : decode cX5_same 30 = .ok (.if_icmp .ne 13, 3) := by decide +kernel
theorem dX5_same_33 : decode cX5_same 33 = .ok (.aload_n 0, 1) := by decide +kernel
theorem dX5_same_34 : decode cX5_same 34 = .ok (.getfield 20, 3) := by decide +kernel
theorem dX5_same_37 : decode cX5_same 37 = .ok (.iload_n 2, 1) := by decide +kernel
theorem dX5_same_38 : decode cX5_same 38 = .ok (.iaload, 1) := by decide +kernel
theorem dX5_same_39 : decode cX5_same 39 = .ok (.iconst 4, 1) := by decide +kernel
theorem dX5_same_40 : decode cX5_same 40 = .ok (.if_icmp .eq 48, 3) := by decide +kernel
theorem dX5_same_43 : decode cX5_same 43 = .ok (.aload_n 0, 1) := by decide +kernel
theorem dX5_same_44 : decode cX5_same 44 = .ok (.aload_n 0, 1) := by decide +kernel
theorem dX5_same_45 : decode cX5_same 45 = .ok (.getfield 20, 3) := by decide +kernel
theorem dX5_same_48 : decode cX5_same 48 = .ok (.iload_n 1, 1) := by decide +kernel
theorem dX5_same_49 : decode cX5_same 49 = .ok (.iaload, 1) := by decide +kernel
theorem dX5_same_50 : decode cX5_same 50 = .ok (.iconst 4, 1) := by decide +kernel
theorem dX5_same_51 : decode cX5_same 51 = .ok (.if_icmp .eq 32, 3) := by decide +kernel
theorem dX5_same_54 : decode cX5_same 54 = .ok (.aload_n 0, 1) := by decide +kernel
theorem dX5_same_55 : decode cX5_same 55 = .ok (.getfield 20, 3) := by decide +kernel
theorem dX5_same_58 : decode cX5_same 58 = .ok (.iload_n 2, 1) := by decide +kernel
theorem dX5_same_59 : decode cX5_same 59 = .ok (.iaload, 1) := by decide +kernel
theorem dX5_same_60 : decode cX5_same 60 = .ok (.iconst 4, 1) := by decide +kernel
theorem dX5_same_61 : decode cX5_same 61 = .ok (.if_icmp .eq 22, 3) := by decide +kernel
theorem dX5_same_64 : decode cX5_same 64 = .ok (.aload_n 0, 1) := by decide +kernel
theorem dX5_same_65 : decode cX5_same 65 = .ok (.getfield 32, 3) := by decide +kernel
theorem dX5_same_68 : decode cX5_same 68 = .ok (.iload_n 1, 1) := by decide +kernel
theorem dX5_same_69 : decode cX5_same 69 = .ok (.iaload, 1) := by decide +kernel
theorem dX5_same_70 : decode cX5_same 70 = .ok (.aload_n 0, 1) := by decide +kernel
theorem dX5_same_71 : decode cX5_same 71 = .ok (.getfield 32, 3) := by decide +kernel
theorem dX5_same_74 : decode cX5_same 74 = .ok (.iload_n 2, 1) := by decide +kernel
theorem dX5_same_75 : decode cX5_same 75 = .ok (.iaload, 1) := by decide +kernel
theorem dX5_same_76 : decode cX5_same 76 = .ok (.if_icmp .ne 7, 3) := by decide +kernel
theorem dX5_same_79 : decode cX5_same 79 = .ok (.iconst 1, 1) := by decide +kernel
theorem dX5_same_80 : decode cX5_same 80 = .ok (.goto 4, 3) := by decide +kernel
theorem dX5_same_83 : decode cX5_same 83 = .ok (.iconst 0, 1) := by decide +kernel
theorem dX5_same_84 : decode cX5_same 84 = .ok (.invokevirtual 75, 3) := by decide +kernel
theorem dX5_same_87 : decode cX5_same 87 = .ok (.ireturn, 1) := by decide +kernel
theorem dX5_same_88 : decode cX5_same 88 = .ok (.aload_n 0, 1) := by decide +kernel
theorem dX5_same_89 : decode cX5_same 89 = .ok (.iload_n 1, 1) := by decide +kernel
theorem dX5_same_90 : decode cX5_same 90 = .ok (.invokevirtual 155, 3) := by decide +kernel
theorem dX5_same_93 : decode cX5_same 93 = .ok (.aload_n 0, 1) := by decide +kernel
theorem dX5_same_94 : decode cX5_same 94 = .ok (.iload_n 2, 1) := by decide +kernel
theorem dX5_same_95 : decode cX5_same 95 = .ok (.invokevirtual 155, 3) := by decide +kernel
theorem dX5_same_98 : decode cX5_same 98 = .ok (.if_icmp .ne 7, 3) := by decide +kernel
theorem dX5_same_101 : decode cX5_same 101 = .ok (.iconst 1, 1) := by decide +kernel
theorem dX5_same_102 : decode cX5_same 102 = .ok (.goto 4, 3) := by decide +kernel
theorem dX5_same_105 : decode cX5_same 105 = .ok (.iconst 0, 1) := by decide +kernel
theorem dX5_same_106 : decode cX5_same 106 = .ok (.istore_n 3, 1) := by decide +kernel
theorem dX5_same_107 : decode cX5_same 107 = .ok (.iconst 0, 1) := by decide +kernel
theorem dX5_same_108 : decode cX5_same 108 = .ok (.istore 4, 2) := by decide +kernel
theorem dX5_same_110 : decode cX5_same 110 = .ok (.iload_n 3, 1) := by decide +kernel
theorem dX5_same_111 : decode cX5_same 111 = .ok (.ifCond .eq 56, 3) := by decide +kernel
theorem dX5_same_114 : decode cX5_same 114 = .ok (.iload 4, 2) := by decide +kernel
theorem dX5_same_116 : decode cX5_same 116 = .ok (.aload_n 0, 1) := by decide +kernel
theorem dX5_same_117 : decode cX5_same 117 = .ok (.iload_n 1, 1) := by decide +kernel
theorem dX5_same_118 : decode cX5_same 118 = .ok (.invokevirtual 155, 3) := by decide +kernel
theorem dX5_same_121 : decode cX5_same 121 = .ok (.if_icmp .ge 46, 3) := by decide +kernel
theorem dX5_same_124 : decode cX5_same 124 = .ok (.aload_n 0, 1) := by decide +kernel
theorem dX5_same_125 : decode cX5_same 125 = .ok (.getfield 50, 3) := by decide +kernel
theorem dX5_same_128 : decode cX5_same 128 = .ok (.aload_n 0, 1) := by decide +kernel
theorem dX5_same_129 : decode cX5_same 129 = .ok (.getfield 32, 3) := by decide +kernel
theorem dX5_same_132 : decode cX5_same 132 = .ok (.iload_n 1, 1) := by decide +kernel
theorem dX5_same_133 : decode cX5_same 133 = .ok (.iaload, 1) := by decide +kernel
theorem dX5_same_134 : decode cX5_same 134 = .ok (.iload 4, 2) := by decide +kernel
theorem dX5_same_136 : decode cX5_same 136 = .ok (.iadd, 1) := by decide +kernel
theorem dX5_same_137 : decode cX5_same 137 = .ok (.iaload, 1) := by decide +kernel
theorem dX5_same_138 : decode cX5_same 138 = .ok (.aload_n 0, 1) := by decide +kernel
theorem dX5_same_139 : decode cX5_same 139 = .ok (.getfield 50, 3) := by decide +kernel
theorem dX5_same_142 : decode cX5_same 142 = .ok (.aload_n 0, 1) := by decide +kernel
theorem dX5_same_143 : decode cX5_same 143 = .ok (.getfield 32, 3) := by decide +kernel
theorem dX5_same_146 : decode cX5_same 146 = .ok (.iload_n 2, 1) := by decide +kernel
theorem dX5_same_147 : decode cX5_same 147 = .ok (.iaload, 1) := by decide +kernel
theorem dX5_same_148 : decode cX5_same 148 = .ok (.iload 4, 2) := by decide +kernel
theorem dX5_same_150 : decode cX5_same 150 = .ok (.iadd, 1) := by decide +kernel
theorem dX5_same_151 : decode cX5_same 151 = .ok (.iaload, 1) := by decide +kernel
theorem dX5_same_152 : decode cX5_same 152 = .ok (.if_icmp .ne 7, 3) := by decide +kernel
theorem dX5_same_155 : decode cX5_same 155 = .ok (.iconst 1, 1) := by decide +kernel
theorem dX5_same_156 : decode cX5_same 156 = .ok (.goto 4, 3) := by decide +kernel
theorem dX5_same_159 : decode cX5_same 159 = .ok (.iconst 0, 1) := by decide +kernel
theorem dX5_same_160 : decode cX5_same 160 = .ok (.istore_n 3, 1) := by decide +kernel
theorem dX5_same_161 : decode cX5_same 161 = .ok (.iinc 4 1, 3) := by decide +kernel
theorem dX5_same_164 : decode cX5_same 164 = .ok (.goto (-54), 3) := by decide +kernel
theorem dX5_same_167 : decode cX5_same 167 = .ok (.aload_n 0, 1) := by decide +kernel
theorem dX5_same_168 : decode cX5_same 168 = .ok (.iload_n 3, 1) := by decide +kernel
theorem dX5_same_169 : decode cX5_same 169 = .ok (.ifCond .eq 7, 3) := by decide +kernel
theorem dX5_same_172 : decode cX5_same 172 = .ok (.iconst 1, 1) := by decide +kernel
theorem dX5_same_173 : decode cX5_same 173 = .ok (.goto 4, 3) := by decide +kernel
theorem dX5_same_176 : decode cX5_same 176 = .ok (.iconst 0, 1) := by decide +kernel
theorem dX5_same_177 : decode cX5_same 177 = .ok (.invokevirtual 75, 3) := by decide +kernel
theorem dX5_same_180 : decode cX5_same 180 = .ok (.ireturn, 1) := by decide +kernel
theorem dX5_compare_0 : decode cX5_compare 0 = .ok (.aload_n 0, 1) := by decide +kernel
theorem dX5_compare_1 : decode cX5_compare 1 = .ok (.iload_n 1, 1) := by decide +kernel
theorem dX5_compare_2 : decode cX5_compare 2 = .ok (.invokevirtual 131, 3) := by decide +kernel
theorem dX5_compare_5 : decode cX5_compare 5 = .ok (.ifCond .eq 11, 3) := by decide +kernel
theorem dX5_compare_8 : decode cX5_compare 8 = .ok (.aload_n 0, 1) := by decide +kernel
theorem dX5_compare_9 : decode cX5_compare 9 = .ok (.iload_n 2, 1) := by decide +kernel
theorem dX5_compare_10 : decode cX5_compare 10 = .ok (.invokevirtual 131, 3) := by decide +kernel
theorem dX5_compare_13 : decode cX5_compare 13 = .ok (.ifCond .ne 10, 3) := by decide +kernel
theorem dX5_compare_16 : decode cX5_compare 16 = .ok (.aload_n 0, 1) := by decide +kernel
theorem dX5_compare_17 : decode cX5_compare 17 = .ok (.bipush 7, 2) := by decide +kernel
theorem dX5_compare_19 : decode cX5_compare 19 = .ok (.invokevirtual 68, 3) := by decide +kernel
theorem dX5_compare_22 : decode cX5_compare 22 = .ok (.ireturn, 1) := by decide +kernel
theorem dX5_compare_23 : decode cX5_compare 23 = .ok (.aload_n 0, 1) := by decide +kernel
theorem dX5_compare_24 : decode cX5_compare 24 = .ok (.getfield 20, 3) := by decide +kernel
theorem dX5_compare_27 : decode cX5_compare 27 = .ok (.iload_n 1, 1) := by decide +kernel
theorem dX5_compare_28 : decode cX5_compare 28 = .ok (.iaload, 1) := by decide +kernel
theorem dX5_compare_29 : decode cX5_compare 29 = .ok (.aload_n 0, 1) := by decide +kernel
theorem dX5_compare_30 : decode cX5_compare 30 = .ok (.getfield 20, 3) := by decide +kernel
theorem dX5_compare_33 : decode cX5_compare 33 = .ok (.iload_n 2, 1) := by decide +kernel
theorem dX5_compare_34 : decode cX5_compare 34 = .ok (.iaload, 1) := by decide +kernel
theorem dX5_compare_35 : decode cX5_compare 35 = .ok (.if_icmp .ne 13, 3) := by decide +kernel
theorem dX5_compare_38 : decode cX5_compare 38 = .ok (.aload_n 0, 1) := by decide +kernel
theorem dX5_compare_39 : decode cX5_compare 39 = .ok (.getfield 20, 3) := by decide +kernel
theorem dX5_compare_42 : decode cX5_compare 42 = .ok (.iload_n 1, 1) := by decide +kernel
theorem dX5_compare_43 : decode cX5_compare 43 = .ok (.iaload, 1) := by decide +kernel
theorem dX5_compare_44 : decode cX5_compare 44 = .ok (.iconst 3, 1) := by decide +kernel
theorem dX5_compare_45 : decode cX5_compare 45 = .ok (.if_icmp .lt 9, 3) := by decide +kernel
theorem dX5_compare_48 : decode cX5_compare 48 = .ok (.aload_n 0, 1) := by decide +kernel
theorem dX5_compare_49 : decode cX5_compare 49 = .ok (.iconst 2, 1) := by decide +kernel
theorem dX5_compare_50 : decode cX5_compare 50 = .ok (.invokevirtual 68, 3) := by decide +kernel
theorem dX5_compare_53 : decode cX5_compare 53 = .ok (.ireturn, 1) := by decide +kernel
theorem dX5_compare_54 : decode cX5_compare 54 = .ok (.aload_n 0, 1) := by decide +kernel
theorem dX5_compare_55 : decode cX5_compare 55 = .ok (.getfield 38, 3) := by decide +kernel
theorem dX5_compare_58 : decode cX5_compare 58 = .ok (.aload_n 0, 1) := by decide +kernel
theorem dX5_compare_59 : decode cX5_compare 59 = .ok (.getfield 32, 3) := by decide +kernel
theorem dX5_compare_62 : decode cX5_compare 62 = .ok (.iload_n 1, 1) := by decide +kernel
theorem dX5_compare_63 : decode cX5_compare 63 = .ok (.iaload, 1) := by decide +kernel
theorem dX5_compare_64 : decode cX5_compare 64 = .ok (.iaload, 1) := by decide +kernel
theorem dX5_compare_65 : decode cX5_compare 65 = .ok (.istore_n 3, 1) := by decide +kernel
theorem dX5_compare_66 : decode cX5_compare 66 = .ok (.aload_n 0, 1) := by decide +kernel
theorem dX5_compare_67 : decode cX5_compare 67 = .ok (.getfield 38, 3) := by decide +kernel
theorem dX5_compare_70 : decode cX5_compare 70 = .ok (.aload_n 0, 1) := by decide +kernel
theorem dX5_compare_71 : decode cX5_compare 71 = .ok (.getfield 32, 3) := by decide +kernel
theorem dX5_compare_74 : decode cX5_compare 74 = .ok (.iload_n 2, 1) := by decide +kernel
theorem dX5_compare_75 : decode cX5_compare 75 = .ok (.iaload, 1) := by decide +kernel
theorem dX5_compare_76 : decode cX5_compare 76 = .ok (.iaload, 1) := by decide +kernel
theorem dX5_compare_77 : decode cX5_compare 77 = .ok (.istore 4, 2) := by decide +kernel
theorem dX5_compare_79 : decode cX5_compare 79 = .ok (.iconst 0, 1) := by decide +kernel
theorem dX5_compare_80 : decode cX5_compare 80 = .ok (.istore 5, 2) := by decide +kernel
theorem dX5_compare_82 : decode cX5_compare 82 = .ok (.iload 5, 2) := by decide +kernel
theorem dX5_compare_84 : decode cX5_compare 84 = .ok (.iload_n 3, 1) := by decide +kernel
theorem dX5_compare_85 : decode cX5_compare 85 = .ok (.if_icmp .ge 84, 3) := by decide +kernel
theorem dX5_compare_88 : decode cX5_compare 88 = .ok (.iload 5, 2) := by decide +kernel
theorem dX5_compare_90 : decode cX5_compare 90 = .ok (.iload 4, 2) := by decide +kernel
theorem dX5_compare_92 : decode cX5_compare 92 = .ok (.if_icmp .ge 77, 3) := by decide +kernel
theorem dX5_compare_95 : decode cX5_compare 95 = .ok (.aload_n 0, 1) := by decide +kernel
theorem dX5_compare_96 : decode cX5_compare 96 = .ok (.getfield 42, 3) := by decide +kernel
theorem dX5_compare_99 : decode cX5_compare 99 = .ok (.aload_n 0, 1) := by decide +kernel
theorem dX5_compare_100 : decode cX5_compare 100 = .ok (.getfield 35, 3) := by decide +kernel
theorem dX5_compare_103 : decode cX5_compare 103 = .ok (.aload_n 0, 1) := by decide +kernel
theorem dX5_compare_104 : decode cX5_compare 104 = .ok (.getfield 32, 3) := by decide +kernel
theorem dX5_compare_107 : decode cX5_compare 107 = .ok (.iload_n 1, 1) := by decide +kernel
theorem dX5_compare_108 : decode cX5_compare 108 = .ok (.iaload, 1) := by decide +kernel
theorem dX5_compare_109 : decode cX5_compare 109 = .ok (.iaload, 1) := by decide +kernel
theorem dX5_compare_110 : decode cX5_compare 110 = .ok (.iload 5, 2) := by decide +kernel
theorem dX5_compare_112 : decode cX5_compare 112 = .ok (.iadd, 1) := by decide +kernel
theorem dX5_compare_113 : decode cX5_compare 113 = .ok (.laload, 1) := by decide +kernel
theorem dX5_compare_114 : decode cX5_compare 114 = .ok (.lstore 6, 2) := by decide +kernel
theorem dX5_compare_116 : decode cX5_compare 116 = .ok (.aload_n 0, 1) := by decide +kernel
theorem dX5_compare_117 : decode cX5_compare 117 = .ok (.getfield 42, 3) := by decide +kernel
theorem dX5_compare_120 : decode cX5_compare 120 = .ok (.aload_n 0, 1) := by decide +kernel
theorem dX5_compare_121 : decode cX5_compare 121 = .ok (.getfield 35, 3) := by decide +kernel
theorem dX5_compare_124 : decode cX5_compare 124 = .ok (.aload_n 0, 1) := by decide +kernel
theorem dX5_compare_125 : decode cX5_compare 125 = .ok (.getfield 32, 3) := by decide +kernel
theorem dX5_compare_128 : decode cX5_compare 128 = .ok (.iload_n 2, 1) := by decide +kernel
theorem dX5_compare_129 : decode cX5_compare 129 = .ok (.iaload, 1) := by decide +kernel
theorem dX5_compare_130 : decode cX5_compare 130 = .ok (.iaload, 1) := by decide +kernel
theorem dX5_compare_131 : decode cX5_compare 131 = .ok (.iload 5, 2) := by decide +kernel
theorem dX5_compare_133 : decode cX5_compare 133 = .ok (.iadd, 1) := by decide +kernel
theorem dX5_compare_134 : decode cX5_compare 134 = .ok (.laload, 1) := by decide +kernel
theorem dX5_compare_135 : decode cX5_compare 135 = .ok (.lstore 8, 2) := by decide +kernel
theorem dX5_compare_137 : decode cX5_compare 137 = .ok (.lload 6, 2) := by decide +kernel
theorem dX5_compare_139 : decode cX5_compare 139 = .ok (.lload 8, 2) := by decide +kernel
theorem dX5_compare_141 : decode cX5_compare 141 = .ok (.lcmp, 1) := by decide +kernel
theorem dX5_compare_142 : decode cX5_compare 142 = .ok (.ifCond .eq 21, 3) := by decide +kernel
theorem dX5_compare_145 : decode cX5_compare 145 = .ok (.aload_n 0, 1) := by decide +kernel
theorem dX5_compare_146 : decode cX5_compare 146 = .ok (.lload 6, 2) := by decide +kernel
theorem dX5_compare_148 : decode cX5_compare 148 = .ok (.lload 8, 2) := by decide +kernel
theorem dX5_compare_150 : decode cX5_compare 150 = .ok (.lcmp, 1) := by decide +kernel
theorem dX5_compare_151 : decode cX5_compare 151 = .ok (.ifCond .ge 7, 3) := by decide +kernel
theorem dX5_compare_154 : decode cX5_compare 154 = .ok (.iconst (-1), 1) := by decide +kernel
theorem dX5_compare_155 : decode cX5_compare 155 = .ok (.goto 4, 3) := by decide +kernel
theorem dX5_compare_158 : decode cX5_compare 158 = .ok (.iconst 1, 1) := by decide +kernel
theorem dX5_compare_159 : decode cX5_compare 159 = .ok (.invokevirtual 75, 3) := by decide +kernel
theorem dX5_compare_162 : decode cX5_compare 162 = .ok (.ireturn, 1) := by decide +kernel
theorem dX5_compare_163 : decode cX5_compare 163 = .ok (.iinc 5 1, 3) := by decide +kernel
theorem dX5_compare_166 : decode cX5_compare 166 = .ok (.goto (-84), 3) := by decide +kernel
theorem dX5_compare_169 : decode cX5_compare 169 = .ok (.aload_n 0, 1) := by decide +kernel
theorem dX5_compare_170 : decode cX5_compare 170 = .ok (.iload_n 3, 1) := by decide +kernel
theorem dX5_compare_171 : decode cX5_compare 171 = .ok (.iload 4, 2) := by decide +kernel
theorem dX5_compare_173 : decode cX5_compare 173 = .ok (.if_icmp .ge 7, 3) := by decide +kernel
theorem dX5_compare_176 : decode cX5_compare 176 = .ok (.iconst (-1), 1) := by decide +kernel
theorem dX5_compare_177 : decode cX5_compare 177 = .ok (.goto 14, 3) := by decide +kernel
theorem dX5_compare_180 : decode cX5_compare 180 = .ok (.iload_n 3, 1) := by decide +kernel
theorem dX5_compare_181 : decode cX5_compare 181 = .ok (.iload 4, 2) := by decide +kernel
theorem dX5_compare_183 : decode cX5_compare 183 = .ok (.if_icmp .le 7, 3) := by decide +kernel
theorem dX5_compare_186 : decode cX5_compare 186 = .ok (.iconst 1, 1) := by decide +kernel
theorem dX5_compare_187 : decode cX5_compare 187 = .ok (.goto 4, 3) := by decide +kernel
theorem dX5_compare_190 : decode cX5_compare 190 = .ok (.iconst 0, 1) := by decide +kernel
theorem dX5_compare_191 : decode cX5_compare 191 = .ok (.invokevirtual 75, 3) := by decide +kernel
theorem dX5_compare_194 : decode cX5_compare 194 = .ok (.ireturn, 1) := by decide +kernel
theorem dX5_clear_0 : decode cX5_clear 0 = .ok (.aload_n 0, 1) := by decide +kernel
theorem dX5_clear_1 : decode cX5_clear 1 = .ok (.getfield 98, 3) := by decide +kernel
theorem dX5_clear_4 : decode cX5_clear 4 = .ok (.istore_n 1, 1) := by decide +kernel
theorem dX5_clear_5 : decode cX5_clear 5 = .ok (.aload_n 0, 1) := by decide +kernel
theorem dX5_clear_6 : decode cX5_clear 6 = .ok (.iconst 0, 1) := by decide +kernel
theorem dX5_clear_7 : decode cX5_clear 7 = .ok (.putfield 98, 3) := by decide +kernel
theorem dX5_clear_10 : decode cX5_clear 10 = .ok (.aload_n 0, 1) := by decide +kernel
theorem dX5_clear_11 : decode cX5_clear 11 = .ok (.iconst 0, 1) := by decide +kernel
theorem dX5_clear_12 : decode cX5_clear 12 = .ok (.putfield 86, 3) := by decide +kernel
theorem dX5_clear_15 : decode cX5_clear 15 = .ok (.aload_n 0, 1) := by decide +kernel
theorem dX5_clear_16 : decode cX5_clear 16 = .ok (.iconst 0, 1) := by decide +kernel
theorem dX5_clear_17 : decode cX5_clear 17 = .ok (.putfield 89, 3) := by decide +kernel
theorem dX5_clear_20 : decode cX5_clear 20 = .ok (.aload_n 0, 1) := by decide +kernel
theorem dX5_clear_21 : decode cX5_clear 21 = .ok (.iconst 0, 1) := by decide +kernel
theorem dX5_clear_22 : decode cX5_clear 22 = .ok (.putfield 105, 3) := by decide +kernel
theorem dX5_clear_25 : decode cX5_clear 25 = .ok (.aload_n 0, 1) := by decide +kernel
theorem dX5_clear_26 : decode cX5_clear 26 = .ok (.iconst 0, 1) := by decide +kernel
theorem dX5_clear_27 : decode cX5_clear 27 = .ok (.putfield 175, 3) := by decide +kernel
theorem dX5_clear_30 : decode cX5_clear 30 = .ok (.aload_n 0, 1) := by decide +kernel
theorem dX5_clear_31 : decode cX5_clear 31 = .ok (.iconst 0, 1) := by decide +kernel
theorem dX5_clear_32 : decode cX5_clear 32 = .ok (.putfield 72, 3) := by decide +kernel
theorem dX5_clear_35 : decode cX5_clear 35 = .ok (.aload_n 0, 1) := by decide +kernel
theorem dX5_clear_36 : decode cX5_clear 36 = .ok (.iconst 0, 1) := by decide +kernel
theorem dX5_clear_37 : decode cX5_clear 37 = .ok (.putfield 65, 3) := by decide +kernel
theorem dX5_clear_40 : decode cX5_clear 40 = .ok (.aload_n 0, 1) := by decide +kernel
theorem dX5_clear_41 : decode cX5_clear 41 = .ok (.iconst (-1), 1) := by decide +kernel
theorem dX5_clear_42 : decode cX5_clear 42 = .ok (.putfield 9, 3) := by decide +kernel
theorem dX5_clear_45 : decode cX5_clear 45 = .ok (.iload_n 1, 1) := by decide +kernel
theorem dX5_clear_46 : decode cX5_clear 46 = .ok (.ireturn, 1) := by decide +kernel
