theorem dX7_linkLine_34 : decode cX7_linkLine 34 = .ok (.getfield 30, 3) := by decide +kernel
theorem dX7_linkLine_37 : decode cX7_linkLine 37 = .ok (.iload_n 2, 1) := by decide +kernel
theorem dX7_linkLine_38 : decode cX7_linkLine 38 = .ok (.iaload, 1) := by decide +kernel
theorem dX7_linkLine_39 : decode cX7_linkLine 39 = .ok (.iconst (-1), 1) := by decide +kernel
theorem dX7_linkLine_40 : decode cX7_linkLine 40 = .ok (.if_icmp .ne 5, 3) := by decide +kernel
theorem dX7_linkLine_43 : decode cX7_linkLine 43 = .ok (.iconst 0, 1) := by decide +kernel
theorem dX7_linkLine_44 : decode cX7_linkLine 44 = .ok (.ireturn, 1) := by decide +kernel
theorem dX7_linkLine_45 : decode cX7_linkLine 45 = .ok (.aload_n 0, 1) := by decide +kernel
theorem dX7_linkLine_46 : decode cX7_linkLine 46 = .ok (.invokevirtual 191, 3) := by decide +kernel
theorem dX7_linkLine_49 : decode cX7_linkLine 49 = .ok (.aload_n 0, 1) := by decide +kernel
theorem dX7_linkLine_50 : decode cX7_linkLine 50 = .ok (.getfield 30, 3) := by decide +kernel
theorem dX7_linkLine_53 : decode cX7_linkLine 53 = .ok (.iload_n 2, 1) := by decide +kernel
theorem dX7_linkLine_54 : decode cX7_linkLine 54 = .ok (.iconst 1, 1) := by decide +kernel
theorem dX7_linkLine_55 : decode cX7_linkLine 55 = .ok (.iadd, 1) := by decide +kernel
theorem dX7_linkLine_56 : decode cX7_linkLine 56 = .ok (.aload_n 0, 1) := by decide +kernel
theorem dX7_linkLine_57 : decode cX7_linkLine 57 = .ok (.invokevirtual 210, 3) := by decide +kernel
theorem dX7_linkLine_60 : decode cX7_linkLine 60 = .ok (.iastore, 1) := by decide +kernel
theorem dX7_linkLine_61 : decode cX7_linkLine 61 = .ok (.aload_n 0, 1) := by decide +kernel
theorem dX7_linkLine_62 : decode cX7_linkLine 62 = .ok (.getfield 30, 3) := by decide +kernel
theorem dX7_linkLine_65 : decode cX7_linkLine 65 = .ok (.iload_n 2, 1) := by decide +kernel
theorem dX7_linkLine_66 : decode cX7_linkLine 66 = .ok (.iconst 1, 1) := by decide +kernel
theorem dX7_linkLine_67 : decode cX7_linkLine 67 = .ok (.iadd, 1) := by decide +kernel
theorem dX7_linkLine_68 : decode cX7_linkLine 68 = .ok (.iaload, 1) := by decide +kernel
theorem dX7_linkLine_69 : decode cX7_linkLine 69 = .ok (.iconst (-1), 1) := by decide +kernel
theorem dX7_linkLine_70 : decode cX7_linkLine 70 = .ok (.if_icmp .eq 20, 3) := by decide +kernel
theorem dX7_linkLine_73 : decode cX7_linkLine 73 = .ok (.aload_n 0, 1) := by decide +kernel
theorem dX7_linkLine_74 : decode cX7_linkLine 74 = .ok (.getfield 30, 3) := by decide +kernel
theorem dX7_linkLine_77 : decode cX7_linkLine 77 = .ok (.iload_n 2, 1) := by decide +kernel
theorem dX7_linkLine_78 : decode cX7_linkLine 78 = .ok (.iconst 1, 1) := by decide +kernel
theorem dX7_linkLine_79 : decode cX7_linkLine 79 = .ok (.iadd, 1) := by decide +kernel
theorem dX7_linkLine_80 : decode cX7_linkLine 80 = .ok (.iaload, 1) := by decide +kernel
theorem dX7_linkLine_81 : decode cX7_linkLine 81 = .ok (.aload_n 0, 1) := by decide +kernel
theorem dX7_linkLine_82 : decode cX7_linkLine 82 = .ok (.getfield 30, 3) := by decide +kernel
theorem dX7_linkLine_85 : decode cX7_linkLine 85 = .ok (.iload_n 2, 1) := by decide +kernel
theorem dX7_linkLine_86 : decode cX7_linkLine 86 = .ok (.iaload, 1) := by decide +kernel
theorem dX7_linkLine_87 : decode cX7_linkLine 87 = .ok (.if_icmp .ne 5, 3) := by decide +kernel
theorem dX7_linkLine_90 : decode cX7_linkLine 90 = .ok (.iconst 0, 1) := by decide +kernel
theorem dX7_linkLine_91 : decode cX7_linkLine 91 = .ok (.ireturn, 1) := by decide +kernel
theorem dX7_linkLine_92 : decode cX7_linkLine 92 = .ok (.aload_n 0, 1) := by decide +kernel
theorem dX7_linkLine_93 : decode cX7_linkLine 93 = .ok (.invokevirtual 191, 3) := by decide +kernel
theorem dX7_linkLine_96 : decode cX7_linkLine 96 = .ok (.aload_n 0, 1) := by decide +kernel
theorem dX7_linkLine_97 : decode cX7_linkLine 97 = .ok (.ldc 186, 2) := by decide +kernel
theorem dX7_linkLine_99 : decode cX7_linkLine 99 = .ok (.invokevirtual 219, 3) := by decide +kernel
theorem dX7_linkLine_102 : decode cX7_linkLine 102 = .ok (.ifCond .eq 22, 3) := by decide +kernel
theorem dX7_linkLine_105 : decode cX7_linkLine 105 = .ok (.aload_n 0, 1) := by decide +kernel
theorem dX7_linkLine_106 : decode cX7_linkLine 106 = .ok (.iconst 0, 1) := by decide +kernel
theorem dX7_linkLine_107 : decode cX7_linkLine 107 = .ok (.iload_n 1, 1) := by decide +kernel
theorem dX7_linkLine_108 : decode cX7_linkLine 108 = .ok (.ifCond .eq 8, 3) := by decide +kernel
theorem dX7_linkLine_111 : decode cX7_linkLine 111 = .ok (.bipush 23, 2) := by decide +kernel
theorem dX7_linkLine_113 : decode cX7_linkLine 113 = .ok (.goto 5, 3) := by decide +kernel
theorem dX7_linkLine_116 : decode cX7_linkLine 116 = .ok (.bipush 95, 2) := by decide +kernel
theorem dX7_linkLine_118 : decode cX7_linkLine 118 = .ok (.invokevirtual 222, 3) := by decide +kernel
theorem dX7_linkLine_121 : decode cX7_linkLine 121 = .ok (.ifCond .ne 5, 3) := by decide +kernel
theorem dX7_linkLine_124 : decode cX7_linkLine 124 = .ok (.iconst 0, 1) := by decide +kernel
theorem dX7_linkLine_125 : decode cX7_linkLine 125 = .ok (.ireturn, 1) := by decide +kernel
theorem dX7_linkLine_126 : decode cX7_linkLine 126 = .ok (.aload_n 0, 1) := by decide +kernel
theorem dX7_linkLine_127 : decode cX7_linkLine 127 = .ok (.getfield 30, 3) := by decide +kernel
theorem dX7_linkLine_130 : decode cX7_linkLine 130 = .ok (.iload_n 2, 1) := by decide +kernel
theorem dX7_linkLine_131 : decode cX7_linkLine 131 = .ok (.iconst 2, 1) := by decide +kernel
theorem dX7_linkLine_132 : decode cX7_linkLine 132 = .ok (.iadd, 1) := by decide +kernel
theorem dX7_linkLine_133 : decode cX7_linkLine 133 = .ok (.aload_n 0, 1) := by decide +kernel
theorem dX7_linkLine_134 : decode cX7_linkLine 134 = .ok (.getfield 194, 3) := by decide +kernel
theorem dX7_linkLine_137 : decode cX7_linkLine 137 = .ok (.iastore, 1) := by decide +kernel
theorem dX7_linkLine_138 : decode cX7_linkLine 138 = .ok (.aload_n 0, 1) := by decide +kernel
theorem dX7_linkLine_139 : decode cX7_linkLine 139 = .ok (.ldc 187, 2) := by decide +kernel
theorem dX7_linkLine_141 : decode cX7_linkLine 141 = .ok (.invokevirtual 219, 3) := by decide +kernel
theorem dX7_linkLine_144 : decode cX7_linkLine 144 = .ok (.ifCond .eq 13, 3) := by decide +kernel
theorem dX7_linkLine_147 : decode cX7_linkLine 147 = .ok (.aload_n 0, 1) := by decide +kernel
theorem dX7_linkLine_148 : decode cX7_linkLine 148 = .ok (.iconst 1, 1) := by decide +kernel
theorem dX7_linkLine_149 : decode cX7_linkLine 149 = .ok (.bipush 48, 2) := by decide +kernel
theorem dX7_linkLine_151 : decode cX7_linkLine 151 = .ok (.invokevirtual 222, 3) := by decide +kernel
theorem dX7_linkLine_154 : decode cX7_linkLine 154 = .ok (.ifCond .ne 5, 3) := by decide +kernel
theorem dX7_linkLine_157 : decode cX7_linkLine 157 = .ok (.iconst 0, 1) := by decide +kernel
theorem dX7_linkLine_158 : decode cX7_linkLine 158 = .ok (.ireturn, 1) := by decide +kernel
theorem dX7_linkLine_159 : decode cX7_linkLine 159 = .ok (.aload_n 0, 1) := by decide +kernel
theorem dX7_linkLine_160 : decode cX7_linkLine 160 = .ok (.getfield 30, 3) := by decide +kernel
theorem dX7_linkLine_163 : decode cX7_linkLine 163 = .ok (.iload_n 2, 1) := by decide +kernel
theorem dX7_linkLine_164 : decode cX7_linkLine 164 = .ok (.iconst 3, 1) := by decide +kernel
theorem dX7_linkLine_165 : decode cX7_linkLine 165 = .ok (.iadd, 1) := by decide +kernel
theorem dX7_linkLine_166 : decode cX7_linkLine 166 = .ok (.aload_n 0, 1) := by decide +kernel
theorem dX7_linkLine_167 : decode cX7_linkLine 167 = .ok (.getfield 194, 3) := by decide +kernel
theorem dX7_linkLine_170 : decode cX7_linkLine 170 = .ok (.iastore, 1) := by decide +kernel
theorem dX7_linkLine_171 : decode cX7_linkLine 171 = .ok (.aload_n 0, 1) := by decide +kernel
theorem dX7_linkLine_172 : decode cX7_linkLine 172 = .ok (.ldc 189, 2) := by decide +kernel
theorem dX7_linkLine_174 : decode cX7_linkLine 174 = .ok (.invokevirtual 219, 3) := by decide +kernel
theorem dX7_linkLine_177 : decode cX7_linkLine 177 = .ok (.ifCond .eq 13, 3) := by decide +kernel
theorem dX7_linkLine_180 : decode cX7_linkLine 180 = .ok (.aload_n 0, 1) := by decide +kernel
theorem dX7_linkLine_181 : decode cX7_linkLine 181 = .ok (.iconst 0, 1) := by decide +kernel
theorem dX7_linkLine_182 : decode cX7_linkLine 182 = .ok (.bipush 99, 2) := by decide +kernel
theorem dX7_linkLine_184 : decode cX7_linkLine 184 = .ok (.invokevirtual 222, 3) := by decide +kernel
theorem dX7_linkLine_187 : decode cX7_linkLine 187 = .ok (.ifCond .ne 5, 3) := by decide +kernel
theorem dX7_linkLine_190 : decode cX7_linkLine 190 = .ok (.iconst 0, 1) := by decide +kernel
theorem dX7_linkLine_191 : decode cX7_linkLine 191 = .ok (.ireturn, 1) := by decide +kernel
theorem dX7_linkLine_192 : decode cX7_linkLine 192 = .ok (.aload_n 0, 1) := by decide +kernel
theorem dX7_linkLine_193 : decode cX7_linkLine 193 = .ok (.getfield 30, 3) := by decide +kernel
theorem dX7_linkLine_196 : decode cX7_linkLine 196 = .ok (.iload_n 2, 1) := by decide +kernel
theorem dX7_linkLine_197 : decode cX7_linkLine 197 = .ok (.iconst 4, 1) := by decide +kernel
theorem dX7_linkLine_198 : decode cX7_linkLine 198 = .ok (.iadd, 1) := by decide +kernel
theorem dX7_linkLine_199 : decode cX7_linkLine 199 = .ok (.aload_n 0, 1) := by decide +kernel
theorem dX7_linkLine_200 : decode cX7_linkLine 200 = .ok (.getfield 194, 3) := by decide +kernel
theorem dX7_linkLine_203 : decode cX7_linkLine 203 = .ok (.iastore, 1) := by decide +kernel
theorem dX7_linkLine_204 : decode cX7_linkLine 204 = .ok (.aload_n 0, 1) := by decide +kernel
theorem dX7_linkLine_205 : decode cX7_linkLine 205 = .ok (.getfield 30, 3) := by decide +kernel
theorem dX7_linkLine_208 : decode cX7_linkLine 208 = .ok (.iload_n 2, 1) := by decide +kernel
theorem dX7_linkLine_209 : decode cX7_linkLine 209 = .ok (.iconst 5, 1) := by decide +kernel
theorem dX7_linkLine_210 : decode cX7_linkLine 210 = .ok (.iadd, 1) := by decide +kernel
theorem dX7_linkLine_211 : decode cX7_linkLine 211 = .ok (.iload_n 1, 1) := by decide +kernel
theorem dX7_linkLine_212 : decode cX7_linkLine 212 = .ok (.ifCond .eq 7, 3) := by decide +kernel
theorem dX7_linkLine_215 : decode cX7_linkLine 215 = .ok (.iconst 1, 1) := by decide +kernel
theorem dX7_linkLine_216 : decode cX7_linkLine 216 = .ok (.goto 4, 3) := by decide +kernel
theorem dX7_linkLine_219 : decode cX7_linkLine 219 = .ok (.iconst 0, 1) := by decide +kernel
theorem dX7_linkLine_220 : decode cX7_linkLine 220 = .ok (.iastore, 1) := by decide +kernel
theorem dX7_linkLine_221 : decode cX7_linkLine 221 = .ok (.aload_n 0, 1) := by decide +kernel
theorem dX7_linkLine_222 : decode cX7_linkLine 222 = .ok (.dup, 1) := by decide +kernel
theorem dX7_linkLine_223 : decode cX7_linkLine 223 = .ok (.getfield 225, 3) := by decide +kernel
theorem dX7_linkLine_226 : decode cX7_linkLine 226 = .ok (.iconst 1, 1) := by decide +kernel
theorem dX7_linkLine_227 : decode cX7_linkLine 227 = .ok (.iadd, 1) := by decide +kernel
theorem dX7_linkLine_228 : decode cX7_linkLine 228 = .ok (.putfield 225, 3) := by decide +kernel
theorem dX7_linkLine_231 : decode cX7_linkLine 231 = .ok (.aload_n 0, 1) := by decide +kernel
theorem dX7_linkLine_232 : decode cX7_linkLine 232 = .ok (.invokevirtual 216, 3) := by decide +kernel
theorem dX7_linkLine_235 : decode cX7_linkLine 235 = .ok (.ireturn, 1) := by decide +kernel
theorem dX7_line_0 : decode cX7_line 0 = .ok (.aload_n 0, 1) := by decide +kernel
theorem dX7_line_1 : decode cX7_line 1 = .ok (.ldc 161, 2) := by decide +kernel
theorem dX7_line_3 : decode cX7_line 3 = .ok (.invokevirtual 163, 3) := by decide +kernel
theorem dX7_line_6 : decode cX7_line 6 = .ok (.ifCond .eq 8, 3) := by decide +kernel
theorem dX7_line_9 : decode cX7_line 9 = .ok (.aload_n 0, 1) := by decide +kernel
theorem dX7_line_10 : decode cX7_line 10 = .ok (.invokevirtual 228, 3) := by decide +kernel
theorem dX7_line_13 : decode cX7_line 13 = .ok (.ireturn, 1) := by decide +kernel
theorem dX7_line_14 : decode cX7_line 14 = .ok (.aload_n 0, 1) := by decide +kernel
theorem dX7_line_15 : decode cX7_line 15 = .ok (.ldc 167, 2) := by decide +kernel
theorem dX7_line_17 : decode cX7_line 17 = .ok (.invokevirtual 163, 3) := by decide +kernel
theorem dX7_line_20 : decode cX7_line 20 = .ok (.ifCond .eq 8, 3) := by decide +kernel
theorem dX7_line_23 : decode cX7_line 23 = .ok (.aload_n 0, 1) := by decide +kernel
theorem dX7_line_24 : decode cX7_line 24 = .ok (.invokevirtual 231, 3) := by decide +kernel
theorem dX7_line_27 : decode cX7_line 27 = .ok (.ireturn, 1) := by decide +kernel
theorem dX7_line_28 : decode cX7_line 28 = .ok (.aload_n 0, 1) := by decide +kernel
theorem dX7_line_29 : decode cX7_line 29 = .ok (.ldc 182, 2) := by decide +kernel
theorem dX7_line_31 : decode cX7_line 31 = .ok (.invokevirtual 163, 3) := by decide +kernel
theorem dX7_line_34 : decode cX7_line 34 = .ok (.ifCond .ne 12, 3) := by decide +kernel
theorem dX7_line_37 : decode cX7_line 37 = .ok (.aload_n 0, 1) := by decide +kernel
theorem dX7_line_38 : decode cX7_line 38 = .ok (.ldc 184, 2) := by decide +kernel
theorem dX7_line_40 : decode cX7_line 40 = .ok (.invokevirtual 163, 3) := by decide +kernel
theorem dX7_line_43 : decode cX7_line 43 = .ok (.ifCond .eq 20, 3) := by decide +kernel
theorem dX7_line_46 : decode cX7_line 46 = .ok (.aload_n 0, 1) := by decide +kernel
theorem dX7_line_47 : decode cX7_line 47 = .ok (.aload_n 0, 1) := by decide +kernel
theorem dX7_line_48 : decode cX7_line 48 = .ok (.ldc 182, 2) := by decide +kernel
theorem dX7_line_50 : decode cX7_line 50 = .ok (.invokevirtual 163, 3) := by decide +kernel
theorem dX7_line_53 : decode cX7_line 53 = .ok (.invokevirtual 234, 3) := by decide +kernel
theorem dX7_line_56 : decode cX7_line 56 = .ok (.ifCond .eq 7, 3) := by decide +kernel
theorem dX7_line_59 : decode cX7_line 59 = .ok (.iconst 1, 1) := by decide +kernel
theorem dX7_line_60 : decode cX7_line 60 = .ok (.goto 4, 3) := by decide +kernel
theorem dX7_line_63 : decode cX7_line 63 = .ok (.iconst 0, 1) := by decide +kernel
theorem dX7_line_64 : decode cX7_line 64 = .ok (.ireturn, 1) := by decide +kernel
theorem dX7_fault_0 : decode cX7_fault 0 = .ok (.aload_n 0, 1) := by decide +kernel
theorem dX7_fault_1 : decode cX7_fault 1 = .ok (.iconst 0, 1) := by decide +kernel
theorem dX7_fault_2 : decode cX7_fault 2 = .ok (.putfield 197, 3) := by decide +kernel
theorem dX7_fault_5 : decode cX7_fault 5 = .ok (.aload_n 0, 1) := by decide +kernel
theorem dX7_fault_6 : decode cX7_fault 6 = .ok (.iconst 0, 1) := by decide +kernel
theorem dX7_fault_7 : decode cX7_fault 7 = .ok (.putfield 204, 3) := by decide +kernel
theorem dX7_fault_10 : decode cX7_fault 10 = .ok (.aload_n 0, 1) := by decide +kernel
theorem dX7_fault_11 : decode cX7_fault 11 = .ok (.iconst 0, 1) := by decide +kernel
theorem dX7_fault_12 : decode cX7_fault 12 = .ok (.putfield 225, 3) := by decide +kernel
theorem dX7_fault_15 : decode cX7_fault 15 = .ok (.aload_n 0, 1) := by decide +kernel
theorem dX7_fault_16 : decode cX7_fault 16 = .ok (.iconst 0, 1) := by decide +kernel
theorem dX7_fault_17 : decode cX7_fault 17 = .ok (.putfield 121, 3) := by decide +kernel
theorem dX7_fault_20 : decode cX7_fault 20 = .ok (.aload_n 0, 1) := by decide +kernel
theorem dX7_fault_21 : decode cX7_fault 21 = .ok (.invokevirtual 191, 3) := by decide +kernel
theorem dX7_fault_24 : decode cX7_fault 24 = .ok (.aload_n 0, 1) := by decide +kernel
theorem dX7_fault_25 : decode cX7_fault 25 = .ok (.getfield 131, 3) := by decide +kernel
theorem dX7_fault_28 : decode cX7_fault 28 = .ok (.ifCond .eq 15, 3) := by decide +kernel
theorem dX7_fault_31 : decode cX7_fault 31 = .ok (.aload_n 0, 1) := by decide +kernel
theorem dX7_fault_32 : decode cX7_fault 32 = .ok (.invokevirtual 238, 3) := by decide +kernel
theorem dX7_fault_35 : decode cX7_fault 35 = .ok (.ifCond .ne (-11), 3) := by decide +kernel
theorem dX7_fault_38 : decode cX7_fault 38 = .ok (.aload_n 0, 1) := by decide +kernel
theorem dX7_fault_39 : decode cX7_fault 39 = .ok (.getfield 124, 3) := by decide +kernel
theorem dX7_fault_42 : decode cX7_fault 42 = .ok (.ireturn, 1) := by decide +kernel
theorem dX7_fault_43 : decode cX7_fault 43 = .ok (.aload_n 0, 1) := by decide +kernel
theorem dX7_fault_44 : decode cX7_fault 44 = .ok (.getfield 204, 3) := by decide +kernel
theorem dX7_fault_47 : decode cX7_fault 47 = .ok (.ifCond .ne 10, 3) := by decide +kernel
theorem dX7_fault_50 : decode cX7_fault 50 = .ok (.aload_n 0, 1) := by decide +kernel
theorem dX7_fault_51 : decode cX7_fault 51 = .ok (.getfield 124, 3) := by decide +kernel
theorem dX7_fault_54 : decode cX7_fault 54 = .ok (.goto 4, 3) := by decide +kernel
theorem dX7_fault_57 : decode cX7_fault 57 = .ok (.iconst (-1), 1) := by decide +kernel
theorem dX7_fault_58 : decode cX7_fault 58 = .ok (.ireturn, 1) := by decide +kernel
theorem dX7_map_0 : decode cX7_map 0 = .ok (.aload_n 0, 1) := by decide +kernel
theorem dX7_map_1 : decode cX7_map 1 = .ok (.invokevirtual 241, 3) := by decide +kernel
theorem dX7_map_4 : decode cX7_map 4 = .ok (.iconst (-1), 1) := by decide +kernel
theorem dX7_map_5 : decode cX7_map 5 = .ok (.if_icmp .eq 5, 3) := by decide +kernel
theorem dX7_map_8 : decode cX7_map 8 = .ok (.iconst (-1), 1) := by decide +kernel
theorem dX7_map_9 : decode cX7_map 9 = .ok (.ireturn, 1) := by decide +kernel
theorem dX7_map_10 : decode cX7_map 10 = .ok (.aload_n 0, 1) := by decide +kernel
theorem dX7_map_11 : decode cX7_map 11 = .ok (.aload_n 0, 1) := by decide +kernel
theorem dX7_map_12 : decode cX7_map 12 = .ok (.getfield 197, 3) := by decide +kernel
theorem dX7_map_15 : decode cX7_map 15 = .ok (.putfield 244, 3) := by decide +kernel
theorem dX7_map_18 : decode cX7_map 18 = .ok (.aload_n 0, 1) := by decide +kernel
theorem dX7_map_19 : decode cX7_map 19 = .ok (.aload_n 0, 1) := by decide +kernel
theorem dX7_map_20 : decode cX7_map 20 = .ok (.getfield 204, 3) := by decide +kernel
theorem dX7_map_23 : decode cX7_map 23 = .ok (.putfield 247, 3) := by decide +kernel
theorem dX7_map_26 : decode cX7_map 26 = .ok (.aload_n 0, 1) := by decide +kernel
theorem dX7_map_27 : decode cX7_map 27 = .ok (.aload_n 0, 1) := by decide +kernel
theorem dX7_map_28 : decode cX7_map 28 = .ok (.getfield 225, 3) := by decide +kernel
theorem dX7_map_31 : decode cX7_map 31 = .ok (.putfield 250, 3) := by decide +kernel
theorem dX7_map_34 : decode cX7_map 34 = .ok (.iconst 0, 1) := by decide +kernel
theorem dX7_map_35 : decode cX7_map 35 = .ok (.istore_n 1, 1) := by decide +kernel
theorem dX7_map_36 : decode cX7_map 36 = .ok (.iload_n 1, 1) := by decide +kernel
theorem dX7_map_37 : decode cX7_map 37 = .ok (.iconst 4, 1) := by decide +kernel
theorem dX7_map_38 : decode cX7_map 38 = .ok (.if_icmp .ge 21, 3) := by decide +kernel
theorem dX7_map_41 : decode cX7_map 41 = .ok (.aload_n 0, 1) := by decide +kernel
theorem dX7_map_42 : decode cX7_map 42 = .ok (.getfield 33, 3) := by decide +kernel
theorem dX7_map_45 : decode cX7_map 45 = .ok (.iload_n 1, 1) := by decide +kernel
theorem dX7_map_46 : decode cX7_map 46 = .ok (.aload_n 0, 1) := by decide +kernel
theorem dX7_map_47 : decode cX7_map 47 = .ok (.getfield 17, 3) := by decide +kernel
theorem dX7_map_50 : decode cX7_map 50 = .ok (.iload_n 1, 1) := by decide +kernel
theorem dX7_map_51 : decode cX7_map 51 = .ok (.iaload, 1) := by decide +kernel
theorem dX7_map_52 : decode cX7_map 52 = .ok (.iastore, 1) := by decide +kernel
theorem dX7_map_53 : decode cX7_map 53 = .ok (.iinc 1 1, 3) := by decide +kernel
theorem dX7_map_56 : decode cX7_map 56 = .ok (.goto (-20), 3) := by decide +kernel
theorem dX7_map_59 : decode cX7_map 59 = .ok (.iconst 0, 1) := by decide +kernel
theorem dX7_map_60 : decode cX7_map 60 = .ok (.istore_n 1, 1) := by decide +kernel
theorem dX7_map_61 : decode cX7_map 61 = .ok (.iload_n 1, 1) := by decide +kernel
theorem dX7_map_62 : decode cX7_map 62 = .ok (.bipush 8, 2) := by decide +kernel
theorem dX7_map_64 : decode cX7_map 64 = .ok (.if_icmp .ge 33, 3) := by decide +kernel
theorem dX7_map_67 : decode cX7_map 67 = .ok (.aload_n 0, 1) := by decide +kernel
theorem dX7_map_68 : decode cX7_map 68 = .ok (.getfield 36, 3) := by decide +kernel
theorem dX7_map_71 : decode cX7_map 71 = .ok (.iload_n 1, 1) := by decide +kernel
theorem dX7_map_72 : decode cX7_map 72 = .ok (.aload_n 0, 1) := by decide +kernel
theorem dX7_map_73 : decode cX7_map 73 = .ok (.getfield 24, 3) := by decide +kernel
theorem dX7_map_76 : decode cX7_map 76 = .ok (.iload_n 1, 1) := by decide +kernel
theorem dX7_map_77 : decode cX7_map 77 = .ok (.iaload, 1) := by decide +kernel
theorem dX7_map_78 : decode cX7_map 78 = .ok (.iastore, 1) := by decide +kernel
theorem dX7_map_79 : decode cX7_map 79 = .ok (.aload_n 0, 1) := by decide +kernel
theorem dX7_map_80 : decode cX7_map 80 = .ok (.getfield 39, 3) := by decide +kernel
theorem dX7_map_83 : decode cX7_map 83 = .ok (.iload_n 1, 1) := by decide +kernel
theorem dX7_map_84 : decode cX7_map 84 = .ok (.aload_n 0, 1) := by decide +kernel
theorem dX7_map_85 : decode cX7_map 85 = .ok (.getfield 27, 3) := by decide +kernel
theorem dX7_map_88 : decode cX7_map 88 = .ok (.iload_n 1, 1) := by decide +kernel
theorem dX7_map_89 : decode cX7_map 89 = .ok (.iaload, 1) := by decide +kernel
theorem dX7_map_90 : decode cX7_map 90 = .ok (.iastore, 1) := by decide +kernel
theorem dX7_map_91 : decode cX7_map 91 = .ok (.iinc 1 1, 3) := by decide +kernel
theorem dX7_map_94 : decode cX7_map 94 = .ok (.goto (-33), 3) := by decide +kernel
theorem dX7_map_97 : decode cX7_map 97 = .ok (.iconst 0, 1) := by decide +kernel
theorem dX7_map_98 : decode cX7_map 98 = .ok (.istore_n 1, 1) := by decide +kernel
theorem dX7_map_99 : decode cX7_map 99 = .ok (.iload_n 1, 1) := by decide +kernel
theorem dX7_map_100 : decode cX7_map 100 = .ok (.bipush 96, 2) := by decide +kernel
theorem dX7_map_102 : decode cX7_map 102 = .ok (.if_icmp .ge 21, 3) := by decide +kernel
theorem dX7_map_105 : decode cX7_map 105 = .ok (.aload_n 0, 1) := by decide +kernel
theorem dX7_map_106 : decode cX7_map 106 = .ok (.getfield 42, 3) := by decide +kernel
theorem dX7_map_109 : decode cX7_map 109 = .ok (.iload_n 1, 1) := by decide +kernel
theorem dX7_map_110 : decode cX7_map 110 = .ok (.aload_n 0, 1) := by decide +kernel
theorem dX7_map_111 : decode cX7_map 111 = .ok (.getfield 30, 3) := by decide +kernel
theorem dX7_map_114 : decode cX7_map 114 = .ok (.iload_n 1, 1) := by decide +kernel
theorem dX7_map_115 : decode cX7_map 115 = .ok (.iaload, 1) := by decide +kernel
theorem dX7_map_116 : decode cX7_map 116 = .ok (.iastore, 1) := by decide +kernel
theorem dX7_map_117 : decode cX7_map 117 = .ok (.iinc 1 1, 3) := by decide +kernel
theorem dX7_map_120 : decode cX7_map 120 = .ok (.goto (-21), 3) := by decide +kernel
theorem dX7_map_123 : decode cX7_map 123 = .ok (.iconst 0, 1) := by decide +kernel
theorem dX7_map_124 : decode cX7_map 124 = .ok (.istore_n 1, 1) := by decide +kernel
theorem dX7_map_125 : decode cX7_map 125 = .ok (.iload_n 1, 1) := by decide +kernel
theorem dX7_map_126 : decode cX7_map 126 = .ok (.iconst 2, 1) := by decide +kernel
theorem dX7_map_127 : decode cX7_map 127 = .ok (.if_icmp .ge 38, 3) := by decide +kernel
theorem dX7_map_130 : decode cX7_map 130 = .ok (.aload_n 0, 1) := by decide +kernel
theorem dX7_map_131 : decode cX7_map 131 = .ok (.getfield 45, 3) := by decide +kernel
theorem dX7_map_134 : decode cX7_map 134 = .ok (.iload_n 1, 1) := by decide +kernel
theorem dX7_map_135 : decode cX7_map 135 = .ok (.iconst 0, 1) := by decide +kernel
theorem dX7_map_136 : decode cX7_map 136 = .ok (.iastore, 1) := by decide +kernel
theorem dX7_map_137 : decode cX7_map 137 = .ok (.aload_n 0, 1) := by decide +kernel
theorem dX7_map_138 : decode cX7_map 138 = .ok (.getfield 48, 3) := by decide +kernel
theorem dX7_map_141 : decode cX7_map 141 = .ok (.iload_n 1, 1) := by decide +kernel
theorem dX7_map_142 : decode cX7_map 142 = .ok (.iconst 0, 1) := by decide +kernel
theorem dX7_map_143 : decode cX7_map 143 = .ok (.iastore, 1) := by decide +kernel
theorem dX7_map_144 : decode cX7_map 144 = .ok (.aload_n 0, 1) := by decide +kernel
theorem dX7_map_145 : decode cX7_map 145 = .ok (.getfield 51, 3) := by decide +kernel
theorem dX7_map_148 : decode cX7_map 148 = .ok (.iload_n 1, 1) := by decide +kernel
theorem dX7_map_149 : decode cX7_map 149 = .ok (.bipush 96, 2) := by decide +kernel
theorem dX7_map_151 : decode cX7_map 151 = .ok (.iastore, 1) := by decide +kernel
theorem dX7_map_152 : decode cX7_map 152 = .ok (.aload_n 0, 1) := by decide +kernel
theorem dX7_map_153 : decode cX7_map 153 = .ok (.getfield 54, 3) := by decide +kernel
theorem dX7_map_156 : decode cX7_map 156 = .ok (.iload_n 1, 1) := by decide +kernel
theorem dX7_map_157 : decode cX7_map 157 = .ok (.iconst 0, 1) := by decide +kernel
theorem dX7_map_158 : decode cX7_map 158 = .ok (.iastore, 1) := by decide +kernel
theorem dX7_map_159 : decode cX7_map 159 = .ok (.iinc 1 1, 3) := by decide +kernel
theorem dX7_map_162 : decode cX7_map 162 = .ok (.goto (-37), 3) := by decide +kernel
theorem dX7_map_165 : decode cX7_map 165 = .ok (.aload_n 0, 1) := by decide +kernel
theorem dX7_map_166 : decode cX7_map 166 = .ok (.iconst 0, 1) := by decide +kernel
theorem dX7_map_167 : decode cX7_map 167 = .ok (.putfield 253, 3) := by decide +kernel
theorem dX7_map_170 : decode cX7_map 170 = .ok (.aload_n 0, 1) := by decide +kernel
theorem dX7_map_171 : decode cX7_map 171 = .ok (.iconst 0, 1) := by decide +kernel
theorem dX7_map_172 : decode cX7_map 172 = .ok (.putfield 113, 3) := by decide +kernel
theorem dX7_map_175 : decode cX7_map 175 = .ok (.aload_n 0, 1) := by decide +kernel
theorem dX7_map_176 : decode cX7_map 176 = .ok (.getfield 247, 3) := by decide +kernel
theorem dX7_map_179 : decode cX7_map 179 = .ok (.ireturn, 1) := by decide +kernel
theorem dX7_isMan_0 : decode cX7_isMan 0 = .ok (.aload_n 0, 1) := by decide +kernel
theorem dX7_isMan_1 : decode cX7_isMan 1 = .ok (.getfield 247, 3) := by decide +kernel
theorem dX7_isMan_4 : decode cX7_isMan 4 = .ok (.ifCond .le 16, 3) := by decide +kernel
theorem dX7_isMan_7 : decode cX7_isMan 7 = .ok (.iload_n 1, 1) := by decide +kernel
theorem dX7_isMan_8 : decode cX7_isMan 8 = .ok (.iconst 0, 1) := by decide +kernel
theorem dX7_isMan_9 : decode cX7_isMan 9 = .ok (.iconst 1, 1) := by decide +kernel
theorem dX7_isMan_10 : decode cX7_isMan 10 = .ok (.invokestatic 117, 3) := by decide +kernel
theorem dX7_isMan_13 : decode cX7_isMan 13 = .ok (.ifCond .eq 7, 3) := by decide +kernel
theorem dX7_isMan_16 : decode cX7_isMan 16 = .ok (.iconst 1, 1) := by decide +kernel
theorem dX7_isMan_17 : decode cX7_isMan 17 = .ok (.goto 4, 3) := by decide +kernel
theorem dX7_isMan_20 : decode cX7_isMan 20 = .ok (.iconst 0, 1) := by decide +kernel
theorem dX7_isMan_21 : decode cX7_isMan 21 = .ok (.ireturn, 1) := by decide +kernel
theorem dX7_isTown_0 : decode cX7_isTown 0 = .ok (.iload_n 1, 1) := by decide +kernel
theorem dX7_isTown_1 : decode cX7_isTown 1 = .ok (.iconst 0, 1) := by decide +kernel
theorem dX7_isTown_2 : decode cX7_isTown 2 = .ok (.aload_n 0, 1) := by decide +kernel
theorem dX7_isTown_3 : decode cX7_isTown 3 = .ok (.getfield 247, 3) := by decide +kernel
theorem dX7_isTown_6 : decode cX7_isTown 6 = .ok (.iconst 1, 1) := by decide +kernel
theorem dX7_isTown_7 : decode cX7_isTown 7 = .ok (.isub, 1) := by decide +kernel
theorem dX7_isTown_8 : decode cX7_isTown 8 = .ok (.invokestatic 117, 3) := by decide +kernel
theorem dX7_isTown_11 : decode cX7_isTown 11 = .ok (.ireturn, 1) := by decide +kernel
theorem dX7_isLink_0 : decode cX7_isLink 0 = .ok (.iload_n 1, 1) := by decide +kernel
theorem dX7_isLink_1 : decode cX7_isLink 1 = .ok (.iconst 0, 1) := by decide +kernel
theorem dX7_isLink_2 : decode cX7_isLink 2 = .ok (.aload_n 0, 1) := by decide +kernel
theorem dX7_isLink_3 : decode cX7_isLink 3 = .ok (.getfield 250, 3) := by decide +kernel
theorem dX7_isLink_6 : decode cX7_isLink 6 = .ok (.iconst 1, 1) := by decide +kernel
theorem dX7_isLink_7 : decode cX7_isLink 7 = .ok (.isub, 1) := by decide +kernel
theorem dX7_isLink_8 : decode cX7_isLink 8 = .ok (.invokestatic 117, 3) := by decide +kernel
theorem dX7_isLink_11 : decode cX7_isLink 11 = .ok (.ireturn, 1) := by decide +kernel
theorem dX7_isTrace_0 : decode cX7_isTrace 0 = .ok (.aload_n 0, 1) := by decide +kernel
theorem dX7_isTrace_1 : decode cX7_isTrace 1 = .ok (.iload_n 1, 1) := by decide +kernel
theorem dX7_isTrace_2 : decode cX7_isTrace 2 = .ok (.invokevirtual 256, 3) := by decide +kernel
theorem dX7_isTrace_5 : decode cX7_isTrace 5 = .ok (.ifCond .eq 23, 3) := by decide +kernel
theorem dX7_isTrace_8 : decode cX7_isTrace 8 = .ok (.iload_n 2, 1) := by decide +kernel
theorem dX7_isTrace_9 : decode cX7_isTrace 9 = .ok (.iconst 0, 1) := by decide +kernel
theorem dX7_isTrace_10 : decode cX7_isTrace 10 = .ok (.aload_n 0, 1) := by decide +kernel
theorem dX7_isTrace_11 : decode cX7_isTrace 11 = .ok (.getfield 54, 3) := by decide +kernel
theorem dX7_isTrace_14 : decode cX7_isTrace 14 = .ok (.iload_n 1, 1) := by decide +kernel
theorem dX7_isTrace_15 : decode cX7_isTrace 15 = .ok (.iaload, 1) := by decide +kernel
theorem dX7_isTrace_16 : decode cX7_isTrace 16 = .ok (.iconst 1, 1) := by decide +kernel
theorem dX7_isTrace_17 : decode cX7_isTrace 17 = .ok (.isub, 1) := by decide +kernel
theorem dX7_isTrace_18 : decode cX7_isTrace 18 = .ok (.invokestatic 117, 3) := by decide +kernel
theorem dX7_isTrace_21 : decode cX7_isTrace 21 = .ok (.ifCond .eq 7, 3) := by decide +kernel
theorem dX7_isTrace_24 : decode cX7_isTrace 24 = .ok (.iconst 1, 1) := by decide +kernel
theorem dX7_isTrace_25 : decode cX7_isTrace 25 = .ok (.goto 4, 3) := by decide +kernel
theorem dX7_isTrace_28 : decode cX7_isTrace 28 = .ok (.iconst 0, 1) := by decide +kernel
theorem dX7_isTrace_29 : decode cX7_isTrace 29 = .ok (.ireturn, 1) := by decide +kernel
theorem dX7_ofLink_0 : decode cX7_ofLink 0 = .ok (.aload_n 0, 1) := by decide +kernel
theorem dX7_ofLink_1 : decode cX7_ofLink 1 = .ok (.getfield 42, 3) := by decide +kernel
theorem dX7_ofLink_4 : decode cX7_ofLink 4 = .ok (.bipush 6, 2) := by decide +kernel
theorem dX7_ofLink_6 : decode cX7_ofLink 6 = .ok (.iload_n 1, 1) := by decide +kernel
theorem dX7_ofLink_7 : decode cX7_ofLink 7 = .ok (.imul, 1) := by decide +kernel
theorem dX7_ofLink_8 : decode cX7_ofLink 8 = .ok (.iload_n 2, 1) := by decide +kernel
theorem dX7_ofLink_9 : decode cX7_ofLink 9 = .ok (.iadd, 1) := by decide +kernel
theorem dX7_ofLink_10 : decode cX7_ofLink 10 = .ok (.iaload, 1) := by decide +kernel
theorem dX7_ofLink_11 : decode cX7_ofLink 11 = .ok (.ireturn, 1) := by decide +kernel
theorem dX7_man_0 : decode cX7_man 0 = .ok (.aload_n 0, 1) := by decide +kernel
theorem dX7_man_1 : decode cX7_man 1 = .ok (.iload_n 1, 1) := by decide +kernel
theorem dX7_man_2 : decode cX7_man 2 = .ok (.invokevirtual 256, 3) := by decide +kernel
theorem dX7_man_5 : decode cX7_man 5 = .ok (.ifCond .eq 31, 3) := by decide +kernel
theorem dX7_man_8 : decode cX7_man 8 = .ok (.aload_n 0, 1) := by decide +kernel
theorem dX7_man_9 : decode cX7_man 9 = .ok (.iload_n 2, 1) := by decide +kernel
theorem dX7_man_10 : decode cX7_man 10 = .ok (.invokevirtual 259, 3) := by decide +kernel
theorem dX7_man_13 : decode cX7_man 13 = .ok (.ifCond .eq 23, 3) := by decide +kernel
theorem dX7_man_16 : decode cX7_man 16 = .ok (.iload_n 3, 1) := by decide +kernel
theorem dX7_man_17 : decode cX7_man 17 = .ok (.iconst 0, 1) := by decide +kernel
theorem dX7_man_18 : decode cX7_man 18 = .ok (.iconst 4, 1) := by decide +kernel
theorem dX7_man_19 : decode cX7_man 19 = .ok (.invokestatic 117, 3) := by decide +kernel
theorem dX7_man_22 : decode cX7_man 22 = .ok (.ifCond .eq 14, 3) := by decide +kernel
theorem dX7_man_25 : decode cX7_man 25 = .ok (.iload 4, 2) := by decide +kernel
theorem dX7_man_27 : decode cX7_man 27 = .ok (.iconst 1, 1) := by decide +kernel
theorem dX7_man_28 : decode cX7_man 28 = .ok (.bipush 96, 2) := by decide +kernel
theorem dX7_man_30 : decode cX7_man 30 = .ok (.invokestatic 117, 3) := by decide +kernel
theorem dX7_man_33 : decode cX7_man 33 = .ok (.ifCond .ne 5, 3) := by decide +kernel
theorem dX7_man_36 : decode cX7_man 36 = .ok (.iconst 0, 1) := by decide +kernel
theorem dX7_man_37 : decode cX7_man 37 = .ok (.ireturn, 1) := by decide +kernel
theorem dX7_man_38 : decode cX7_man 38 = .ok (.aload_n 0, 1) := by decide +kernel
theorem dX7_man_39 : decode cX7_man 39 = .ok (.getfield 45, 3) := by decide +kernel
theorem dX7_man_42 : decode cX7_man 42 = .ok (.iload_n 1, 1) := by decide +kernel
theorem dX7_man_43 : decode cX7_man 43 = .ok (.iload_n 2, 1) := by decide +kernel
theorem dX7_man_44 : decode cX7_man 44 = .ok (.iastore, 1) := by decide +kernel
theorem dX7_man_45 : decode cX7_man 45 = .ok (.aload_n 0, 1) := by decide +kernel
theorem dX7_man_46 : decode cX7_man 46 = .ok (.getfield 48, 3) := by decide +kernel
theorem dX7_man_49 : decode cX7_man 49 = .ok (.iload_n 1, 1) := by decide +kernel
theorem dX7_man_50 : decode cX7_man 50 = .ok (.iload_n 3, 1) := by decide +kernel
theorem dX7_man_51 : decode cX7_man 51 = .ok (.iastore, 1) := by decide +kernel
theorem dX7_man_52 : decode cX7_man 52 = .ok (.aload_n 0, 1) := by decide +kernel
theorem dX7_man_53 : decode cX7_man 53 = .ok (.getfield 51, 3) := by decide +kernel
theorem dX7_man_56 : decode cX7_man 56 = .ok (.iload_n 1, 1) := by decide +kernel
theorem dX7_man_57 : decode cX7_man 57 = .ok (.iload 4, 2) := by decide +kernel
theorem dX7_man_59 : decode cX7_man 59 = .ok (.iastore, 1) := by decide +kernel
theorem dX7_man_60 : decode cX7_man 60 = .ok (.iconst 1, 1) := by decide +kernel
theorem dX7_man_61 : decode cX7_man 61 = .ok (.ireturn, 1) := by decide +kernel
theorem dX7_many_0 : decode cX7_many 0 = .ok (.iconst 0, 1) := by decide +kernel
theorem dX7_many_1 : decode cX7_many 1 = .ok (.istore_n 3, 1) := by decide +kernel
theorem dX7_many_2 : decode cX7_many 2 = .ok (.iconst 0, 1) := by decide +kernel
theorem dX7_many_3 : decode cX7_many 3 = .ok (.istore 4, 2) := by decide +kernel
theorem dX7_many_5 : decode cX7_many 5 = .ok (.iload 4, 2) := by decide +kernel
theorem dX7_many_7 : decode cX7_many 7 = .ok (.aload_n 0, 1) := by decide +kernel
theorem dX7_many_8 : decode cX7_many 8 = .ok (.getfield 54, 3) := by decide +kernel
theorem dX7_many_11 : decode cX7_many 11 = .ok (.iload_n 1, 1) := by decide +kernel
theorem dX7_many_12 : decode cX7_many 12 = .ok (.iaload, 1) := by decide +kernel
theorem dX7_many_13 : decode cX7_many 13 = .ok (.if_icmp .ge 33, 3) := by decide +kernel
theorem dX7_many_16 : decode cX7_many 16 = .ok (.iload_n 3, 1) := by decide +kernel
theorem dX7_many_17 : decode cX7_many 17 = .ok (.aload_n 0, 1) := by decide +kernel
theorem dX7_many_18 : decode cX7_many 18 = .ok (.getfield 57, 3) := by decide +kernel
theorem dX7_many_21 : decode cX7_many 21 = .ok (.bipush 8, 2) := by decide +kernel
theorem dX7_many_23 : decode cX7_many 23 = .ok (.iload_n 1, 1) := by decide +kernel
theorem dX7_many_24 : decode cX7_many 24 = .ok (.imul, 1) := by decide +kernel
theorem dX7_many_25 : decode cX7_many 25 = .ok (.iload 4, 2) := by decide +kernel
theorem dX7_many_27 : decode cX7_many 27 = .ok (.iadd, 1) := by decide +kernel
theorem dX7_many_28 : decode cX7_many 28 = .ok (.iaload, 1) := by decide +kernel
theorem dX7_many_29 : decode cX7_many 29 = .ok (.iload_n 2, 1) := by decide +kernel
theorem dX7_many_30 : decode cX7_many 30 = .ok (.if_icmp .ne 7, 3) := by decide +kernel
theorem dX7_many_33 : decode cX7_many 33 = .ok (.iconst 1, 1) := by decide +kernel
theorem dX7_many_34 : decode cX7_many 34 = .ok (.goto 4, 3) := by decide +kernel
theorem dX7_many_37 : decode cX7_many 37 = .ok (.iconst 0, 1) := by decide +kernel
theorem dX7_many_38 : decode cX7_many 38 = .ok (.iadd, 1) := by decide +kernel
theorem dX7_many_39 : decode cX7_many 39 = .ok (.istore_n 3, 1) := by decide +kernel
theorem dX7_many_40 : decode cX7_many 40 = .ok (.iinc 4 1, 3) := by decide +kernel
theorem dX7_many_43 : decode cX7_many 43 = .ok (.goto (-38), 3) := by decide +kernel
theorem dX7_many_46 : decode cX7_many 46 = .ok (.iload_n 3, 1) := by decide +kernel
theorem dX7_many_47 : decode cX7_many 47 = .ok (.ireturn, 1) := by decide +kernel
theorem dX7_left_0 : decode cX7_left 0 = .ok (.aload_n 0, 1) := by decide +kernel
theorem dX7_left_1 : decode cX7_left 1 = .ok (.getfield 54, 3) := by decide +kernel
theorem dX7_left_4 : decode cX7_left 4 = .ok (.iload_n 1, 1) := by decide +kernel
theorem dX7_left_5 : decode cX7_left 5 = .ok (.iaload, 1) := by decide +kernel
theorem dX7_left_6 : decode cX7_left 6 = .ok (.bipush 8, 2) := by decide +kernel
theorem dX7_left_8 : decode cX7_left 8 = .ok (.if_icmp .ne 5, 3) := by decide +kernel
theorem dX7_left_11 : decode cX7_left 11 = .ok (.iconst (-1), 1) := by decide +kernel
theorem dX7_left_12 : decode cX7_left 12 = .ok (.ireturn, 1) := by decide +kernel
theorem dX7_left_13 : decode cX7_left 13 = .ok (.bipush 8, 2) := by decide +kernel
theorem dX7_left_15 : decode cX7_left 15 = .ok (.iload_n 1, 1) := by decide +kernel
theorem dX7_left_16 : decode cX7_left 16 = .ok (.imul, 1) := by decide +kernel
theorem dX7_left_17 : decode cX7_left 17 = .ok (.aload_n 0, 1) := by decide +kernel
theorem dX7_left_18 : decode cX7_left 18 = .ok (.getfield 54, 3) := by decide +kernel
theorem dX7_left_21 : decode cX7_left 21 = .ok (.iload_n 1, 1) := by decide +kernel
theorem dX7_left_22 : decode cX7_left 22 = .ok (.iaload, 1) := by decide +kernel
theorem dX7_left_23 : decode cX7_left 23 = .ok (.iadd, 1) := by decide +kernel
theorem dX7_left_24 : decode cX7_left 24 = .ok (.istore 7, 2) := by decide +kernel
theorem dX7_left_26 : decode cX7_left 26 = .ok (.aload_n 0, 1) := by decide +kernel
theorem dX7_left_27 : decode cX7_left 27 = .ok (.getfield 57, 3) := by decide +kernel
theorem dX7_left_30 : decode cX7_left 30 = .ok (.iload 7, 2) := by decide +kernel
theorem dX7_left_32 : decode cX7_left 32 = .ok (.iload_n 2, 1) := by decide +kernel
theorem dX7_left_33 : decode cX7_left 33 = .ok (.iastore, 1) := by decide +kernel
theorem dX7_left_34 : decode cX7_left 34 = .ok (.aload_n 0, 1) := by decide +kernel
theorem dX7_left_35 : decode cX7_left 35 = .ok (.getfield 60, 3) := by decide +kernel
theorem dX7_left_38 : decode cX7_left 38 = .ok (.iload 7, 2) := by decide +kernel
theorem dX7_left_40 : decode cX7_left 40 = .ok (.iload_n 3, 1) := by decide +kernel
theorem dX7_left_41 : decode cX7_left 41 = .ok (.iastore, 1) := by decide +kernel
theorem dX7_left_42 : decode cX7_left 42 = .ok (.aload_n 0, 1) := by decide +kernel
theorem dX7_left_43 : decode cX7_left 43 = .ok (.getfield 63, 3) := by decide +kernel
theorem dX7_left_46 : decode cX7_left 46 = .ok (.iload 7, 2) := by decide +kernel
theorem dX7_left_48 : decode cX7_left 48 = .ok (.iload 4, 2) := by decide +kernel
theorem dX7_left_50 : decode cX7_left 50 = .ok (.iastore, 1) := by decide +kernel
theorem dX7_left_51 : decode cX7_left 51 = .ok (.aload_n 0, 1) := by decide +kernel
theorem dX7_left_52 : decode cX7_left 52 = .ok (.getfield 66, 3) := by decide +kernel
theorem dX7_left_55 : decode cX7_left 55 = .ok (.iload 7, 2) := by decide +kernel
theorem dX7_left_57 : decode cX7_left 57 = .ok (.iload 5, 2) := by decide +kernel
theorem dX7_left_59 : decode cX7_left 59 = .ok (.iastore, 1) := by decide +kernel
theorem dX7_left_60 : decode cX7_left 60 = .ok (.aload_n 0, 1) := by decide +kernel
theorem dX7_left_61 : decode cX7_left 61 = .ok (.getfield 69, 3) := by decide +kernel
theorem dX7_left_64 : decode cX7_left 64 = .ok (.iload 7, 2) := by decide +kernel
theorem dX7_left_66 : decode cX7_left 66 = .ok (.iload 6, 2) := by decide +kernel
theorem dX7_left_68 : decode cX7_left 68 = .ok (.iastore, 1) := by decide +kernel
theorem dX7_left_69 : decode cX7_left 69 = .ok (.aload_n 0, 1) := by decide +kernel
theorem dX7_left_70 : decode cX7_left 70 = .ok (.getfield 72, 3) := by decide +kernel
theorem dX7_left_73 : decode cX7_left 73 = .ok (.iload 7, 2) := by decide +kernel
theorem dX7_left_75 : decode cX7_left 75 = .ok (.iconst 0, 1) := by decide +kernel
theorem dX7_left_76 : decode cX7_left 76 = .ok (.bastore, 1) := by decide +kernel
theorem dX7_left_77 : decode cX7_left 77 = .ok (.aload_n 0, 1) := by decide +kernel
theorem dX7_left_78 : decode cX7_left 78 = .ok (.getfield 54, 3) := by decide +kernel
theorem dX7_left_81 : decode cX7_left 81 = .ok (.iload_n 1, 1) := by decide +kernel
theorem dX7_left_82 : decode cX7_left 82 = .ok (.dup2, 1) := by decide +kernel
theorem dX7_left_83 : decode cX7_left 83 = .ok (.iaload, 1) := by decide +kernel
theorem dX7_left_84 : decode cX7_left 84 = .ok (.iconst 1, 1) := by decide +kernel
theorem dX7_left_85 : decode cX7_left 85 = .ok (.iadd, 1) := by decide +kernel
theorem dX7_left_86 : decode cX7_left 86 = .ok (.iastore, 1) := by decide +kernel
theorem dX7_left_87 : decode cX7_left 87 = .ok (.aload_n 0, 1) := by decide +kernel
theorem dX7_left_88 : decode cX7_left 88 = .ok (.getfield 54, 3) := by decide +kernel
theorem dX7_left_91 : decode cX7_left 91 = .ok (.iload_n 1, 1) := by decide +kernel
theorem dX7_left_92 : decode cX7_left 92 = .ok (.iaload, 1) := by decide +kernel
theorem dX7_left_93 : decode cX7_left 93 = .ok (.iconst 1, 1) := by decide +kernel
theorem dX7_left_94 : decode cX7_left 94 = .ok (.isub, 1) := by decide +kernel
theorem dX7_left_95 : decode cX7_left 95 = .ok (.ireturn, 1) := by decide +kernel
theorem dX7_stamp_0 : decode cX7_stamp 0 = .ok (.aload_n 0, 1) := by decide +kernel
theorem dX7_stamp_1 : decode cX7_stamp 1 = .ok (.iload_n 1, 1) := by decide +kernel
theorem dX7_stamp_2 : decode cX7_stamp 2 = .ok (.invokevirtual 256, 3) := by decide +kernel
theorem dX7_stamp_5 : decode cX7_stamp 5 = .ok (.ifCond .eq 49, 3) := by decide +kernel
theorem dX7_stamp_8 : decode cX7_stamp 8 = .ok (.iload_n 2, 1) := by decide +kernel
theorem dX7_stamp_9 : decode cX7_stamp 9 = .ok (.iconst 0, 1) := by decide +kernel
theorem dX7_stamp_10 : decode cX7_stamp 10 = .ok (.aload_n 0, 1) := by decide +kernel
theorem dX7_stamp_11 : decode cX7_stamp 11 = .ok (.getfield 244, 3) := by decide +kernel
theorem dX7_stamp_14 : decode cX7_stamp 14 = .ok (.iconst 1, 1) := by decide +kernel
theorem dX7_stamp_15 : decode cX7_stamp 15 = .ok (.isub, 1) := by decide +kernel
theorem dX7_stamp_16 : decode cX7_stamp 16 = .ok (.invokestatic 117, 3) := by decide +kernel
theorem dX7_stamp_19 : decode cX7_stamp 19 = .ok (.ifCond .eq 35, 3) := by decide +kernel
theorem dX7_stamp_22 : decode cX7_stamp 22 = .ok (.iload 4, 2) := by decide +kernel
theorem dX7_stamp_24 : decode cX7_stamp 24 = .ok (.iconst (-1), 1) := by decide +kernel
theorem dX7_stamp_25 : decode cX7_stamp 25 = .ok (.iconst 5, 1) := by decide +kernel
theorem dX7_stamp_26 : decode cX7_stamp 26 = .ok (.invokestatic 117, 3) := by decide +kernel
theorem dX7_stamp_29 : decode cX7_stamp 29 = .ok (.ifCond .eq 25, 3) := by decide +kernel
theorem dX7_stamp_32 : decode cX7_stamp 32 = .ok (.iload 5, 2) := by decide +kernel
theorem dX7_stamp_34 : decode cX7_stamp 34 = .ok (.iload 4, 2) := by decide +kernel
theorem dX7_stamp_36 : decode cX7_stamp 36 = .ok (.iconst 5, 1) := by decide +kernel
theorem dX7_stamp_37 : decode cX7_stamp 37 = .ok (.invokestatic 117, 3) := by decide +kernel
theorem dX7_stamp_40 : decode cX7_stamp 40 = .ok (.ifCond .eq 14, 3) := by decide +kernel
theorem dX7_stamp_43 : decode cX7_stamp 43 = .ok (.aload_n 0, 1) := by decide +kernel
theorem dX7_stamp_44 : decode cX7_stamp 44 = .ok (.iload_n 1, 1) := by decide +kernel
theorem dX7_stamp_45 : decode cX7_stamp 45 = .ok (.iconst 0, 1) := by decide +kernel
theorem dX7_stamp_46 : decode cX7_stamp 46 = .ok (.invokevirtual 262, 3) := by decide +kernel
theorem dX7_stamp_49 : decode cX7_stamp 49 = .ok (.bipush 6, 2) := by decide +kernel
theorem dX7_stamp_51 : decode cX7_stamp 51 = .ok (.if_icmp .ne 5, 3) := by decide +kernel
theorem dX7_stamp_54 : decode cX7_stamp 54 = .ok (.iconst (-1), 1) := by decide +kernel
theorem dX7_stamp_55 : decode cX7_stamp 55 = .ok (.ireturn, 1) := by decide +kernel
theorem dX7_stamp_56 : decode cX7_stamp 56 = .ok (.aload_n 0, 1) := by decide +kernel
theorem dX7_stamp_57 : decode cX7_stamp 57 = .ok (.iload_n 1, 1) := by decide +kernel
theorem dX7_stamp_58 : decode cX7_stamp 58 = .ok (.iconst 0, 1) := by decide +kernel
theorem dX7_stamp_59 : decode cX7_stamp 59 = .ok (.iload_n 2, 1) := by decide +kernel
theorem dX7_stamp_60 : decode cX7_stamp 60 = .ok (.iload 4, 2) := by decide +kernel
theorem dX7_stamp_62 : decode cX7_stamp 62 = .ok (.iload 5, 2) := by decide +kernel
theorem dX7_stamp_64 : decode cX7_stamp 64 = .ok (.iload_n 3, 1) := by decide +kernel
theorem dX7_stamp_65 : decode cX7_stamp 65 = .ok (.ifCond .eq 7, 3) := by decide +kernel
theorem dX7_stamp_68 : decode cX7_stamp 68 = .ok (.iconst 1, 1) := by decide +kernel
theorem dX7_stamp_69 : decode cX7_stamp 69 = .ok (.goto 4, 3) := by decide +kernel
theorem dX7_stamp_72 : decode cX7_stamp 72 = .ok (.iconst 0, 1) := by decide +kernel
theorem dX7_stamp_73 : decode cX7_stamp 73 = .ok (.invokevirtual 266, 3) := by decide +kernel
theorem dX7_stamp_76 : decode cX7_stamp 76 = .ok (.ireturn, 1) := by decide +kernel
theorem dX7_paper_0 : decode cX7_paper 0 = .ok (.aload_n 0, 1) := by decide +kernel
theorem dX7_paper_1 : decode cX7_paper 1 = .ok (.iload_n 1, 1) := by decide +kernel
theorem dX7_paper_2 : decode cX7_paper 2 = .ok (.invokevirtual 256, 3) := by decide +kernel
theorem dX7_paper_5 : decode cX7_paper 5 = .ok (.ifCond .eq 34, 3) := by decide +kernel
theorem dX7_paper_8 : decode cX7_paper 8 = .ok (.aload_n 0, 1) := by decide +kernel
theorem dX7_paper_9 : decode cX7_paper 9 = .ok (.iload_n 2, 1) := by decide +kernel
theorem dX7_paper_10 : decode cX7_paper 10 = .ok (.invokevirtual 259, 3) := by decide +kernel
theorem dX7_paper_13 : decode cX7_paper 13 = .ok (.ifCond .eq 26, 3) := by decide +kernel
theorem dX7_paper_16 : decode cX7_paper 16 = .ok (.iload_n 3, 1) := by decide +kernel
theorem dX7_paper_17 : decode cX7_paper 17 = .ok (.iconst 0, 1) := by decide +kernel
theorem dX7_paper_18 : decode cX7_paper 18 = .ok (.bipush 96, 2) := by decide +kernel
theorem dX7_paper_20 : decode cX7_paper 20 = .ok (.invokestatic 117, 3) := by decide +kernel
theorem dX7_paper_23 : decode cX7_paper 23 = .ok (.ifCond .eq 16, 3) := by decide +kernel
theorem dX7_paper_26 : decode cX7_paper 26 = .ok (.aload_n 0, 1) := by decide +kernel
theorem dX7_paper_27 : decode cX7_paper 27 = .ok (.iload_n 1, 1) := by decide +kernel
theorem dX7_paper_28 : decode cX7_paper 28 = .ok (.iconst 1, 1) := by decide +kernel
theorem dX7_paper_29 : decode cX7_paper 29 = .ok (.iload_n 2, 1) := by decide +kernel
theorem dX7_paper_30 : decode cX7_paper 30 = .ok (.iload_n 3, 1) := by decide +kernel
theorem dX7_paper_31 : decode cX7_paper 31 = .ok (.iload_n 3, 1) := by decide +kernel
theorem dX7_paper_32 : decode cX7_paper 32 = .ok (.iconst 0, 1) := by decide +kernel
theorem dX7_paper_33 : decode cX7_paper 33 = .ok (.invokevirtual 266, 3) := by decide +kernel
theorem dX7_paper_36 : decode cX7_paper 36 = .ok (.goto 4, 3) := by decide +kernel
theorem dX7_paper_39 : decode cX7_paper 39 = .ok (.iconst (-1), 1) := by decide +kernel
theorem dX7_paper_40 : decode cX7_paper 40 = .ok (.ireturn, 1) := by decide +kernel
theorem dX7_look_0 : decode cX7_look 0 = .ok (.aload_n 0, 1) := by decide +kernel
theorem dX7_look_1 : decode cX7_look 1 = .ok (.iload_n 1, 1) := by decide +kernel
theorem dX7_look_2 : decode cX7_look 2 = .ok (.invokevirtual 256, 3) := by decide +kernel
theorem dX7_look_5 : decode cX7_look 5 = .ok (.ifCond .eq 56, 3) := by decide +kernel
theorem dX7_look_8 : decode cX7_look 8 = .ok (.aload_n 0, 1) := by decide +kernel
theorem dX7_look_9 : decode cX7_look 9 = .ok (.iload_n 2, 1) := by decide +kernel
theorem dX7_look_10 : decode cX7_look 10 = .ok (.invokevirtual 259, 3) := by decide +kernel
theorem dX7_look_13 : decode cX7_look 13 = .ok (.ifCond .eq 48, 3) := by decide +kernel
theorem dX7_look_16 : decode cX7_look 16 = .ok (.iload_n 3, 1) := by decide +kernel
theorem dX7_look_17 : decode cX7_look 17 = .ok (.iconst 0, 1) := by decide +kernel
theorem dX7_look_18 : decode cX7_look 18 = .ok (.bipush 96, 2) := by decide +kernel
theorem dX7_look_20 : decode cX7_look 20 = .ok (.invokestatic 117, 3) := by decide +kernel
theorem dX7_look_23 : decode cX7_look 23 = .ok (.ifCond .eq 38, 3) := by decide +kernel
theorem dX7_look_26 : decode cX7_look 26 = .ok (.iload 4, 2) := by decide +kernel
theorem dX7_look_28 : decode cX7_look 28 = .ok (.iload_n 3, 1) := by decide +kernel
theorem dX7_look_29 : decode cX7_look 29 = .ok (.bipush 96, 2) := by decide +kernel
theorem dX7_look_31 : decode cX7_look 31 = .ok (.invokestatic 117, 3) := by decide +kernel
theorem dX7_look_34 : decode cX7_look 34 = .ok (.ifCond .eq 27, 3) := by decide +kernel
theorem dX7_look_37 : decode cX7_look 37 = .ok (.aload_n 0, 1) := by decide +kernel
theorem dX7_look_38 : decode cX7_look 38 = .ok (.iload_n 1, 1) := by decide +kernel
theorem dX7_look_39 : decode cX7_look 39 = .ok (.iconst 2, 1) := by decide +kernel
theorem dX7_look_40 : decode cX7_look 40 = .ok (.invokevirtual 262, 3) := by decide +kernel
theorem dX7_look_43 : decode cX7_look 43 = .ok (.iconst 2, 1) := by decide +kernel
theorem dX7_look_44 : decode cX7_look 44 = .ok (.if_icmp .ge 17, 3) := by decide +kernel
theorem dX7_look_47 : decode cX7_look 47 = .ok (.aload_n 0, 1) := by decide +kernel
theorem dX7_look_48 : decode cX7_look 48 = .ok (.iload_n 1, 1) := by decide +kernel
theorem dX7_look_49 : decode cX7_look 49 = .ok (.iconst 2, 1) := by decide +kernel
theorem dX7_look_50 : decode cX7_look 50 = .ok (.iload_n 2, 1) := by decide +kernel
theorem dX7_look_51 : decode cX7_look 51 = .ok (.iload_n 3, 1) := by decide +kernel
theorem dX7_look_52 : decode cX7_look 52 = .ok (.iload 4, 2) := by decide +kernel
theorem dX7_look_54 : decode cX7_look 54 = .ok (.iconst 0, 1) := by decide +kernel
theorem dX7_look_55 : decode cX7_look 55 = .ok (.invokevirtual 266, 3) := by decide +kernel
theorem dX7_look_58 : decode cX7_look 58 = .ok (.goto 4, 3) := by decide +kernel
theorem dX7_look_61 : decode cX7_look 61 = .ok (.iconst (-1), 1) := by decide +kernel
theorem dX7_look_62 : decode cX7_look 62 = .ok (.ireturn, 1) := by decide +kernel
theorem dX7_doubt_0 : decode cX7_doubt 0 = .ok (.aload_n 0, 1) := by decide +kernel
theorem dX7_doubt_1 : decode cX7_doubt 1 = .ok (.iload_n 1, 1) := by decide +kernel
theorem dX7_doubt_2 : decode cX7_doubt 2 = .ok (.iload_n 2, 1) := by decide +kernel
theorem dX7_doubt_3 : decode cX7_doubt 3 = .ok (.invokevirtual 270, 3) := by decide +kernel
theorem dX7_doubt_6 : decode cX7_doubt 6 = .ok (.ifCond .eq 18, 3) := by decide +kernel
theorem dX7_doubt_9 : decode cX7_doubt 9 = .ok (.aload_n 0, 1) := by decide +kernel
theorem dX7_doubt_10 : decode cX7_doubt 10 = .ok (.getfield 72, 3) := by decide +kernel
theorem dX7_doubt_13 : decode cX7_doubt 13 = .ok (.bipush 8, 2) := by decide +kernel
theorem dX7_doubt_15 : decode cX7_doubt 15 = .ok (.iload_n 1, 1) := by decide +kernel
theorem dX7_doubt_16 : decode cX7_doubt 16 = .ok (.imul, 1) := by decide +kernel
theorem dX7_doubt_17 : decode cX7_doubt 17 = .ok (.iload_n 2, 1) := by decide +kernel
theorem dX7_doubt_18 : decode cX7_doubt 18 = .ok (.iadd, 1) := by decide +kernel
theorem dX7_doubt_19 : decode cX7_doubt 19 = .ok (.baload, 1) := by decide +kernel
theorem dX7_doubt_20 : decode cX7_doubt 20 = .ok (.iload_n 3, 1) := by decide +kernel
theorem dX7_doubt_21 : decode cX7_doubt 21 = .ok (.if_icmp .ne 5, 3) := by decide +kernel
theorem dX7_doubt_24 : decode cX7_doubt 24 = .ok (.iconst 0, 1) := by decide +kernel
theorem dX7_doubt_25 : decode cX7_doubt 25 = .ok (.ireturn, 1) := by decide +kernel
theorem dX7_doubt_26 : decode cX7_doubt 26 = .ok (.aload_n 0, 1) := by decide +kernel
theorem dX7_doubt_27 : decode cX7_doubt 27 = .ok (.getfield 72, 3) := by decide +kernel
theorem dX7_doubt_30 : decode cX7_doubt 30 = .ok (.bipush 8, 2) := by decide +kernel
theorem dX7_doubt_32 : decode cX7_doubt 32 = .ok (.iload_n 1, 1) := by decide +kernel
theorem dX7_doubt_33 : decode cX7_doubt 33 = .ok (.imul, 1) := by decide +kernel
theorem dX7_doubt_34 : decode cX7_doubt 34 = .ok (.iload_n 2, 1) := by decide +kernel
theorem dX7_doubt_35 : decode cX7_doubt 35 = .ok (.iadd, 1) := by decide +kernel
theorem dX7_doubt_36 : decode cX7_doubt 36 = .ok (.iload_n 3, 1) := by decide +kernel
theorem dX7_doubt_37 : decode cX7_doubt 37 = .ok (.bastore, 1) := by decide +kernel
theorem dX7_doubt_38 : decode cX7_doubt 38 = .ok (.iconst 1, 1) := by decide +kernel
theorem dX7_doubt_39 : decode cX7_doubt 39 = .ok (.ireturn, 1) := by decide +kernel
theorem dX7_undo_0 : decode cX7_undo 0 = .ok (.aload_n 0, 1) := by decide +kernel
theorem dX7_undo_1 : decode cX7_undo 1 = .ok (.iload_n 1, 1) := by decide +kernel
theorem dX7_undo_2 : decode cX7_undo 2 = .ok (.invokevirtual 256, 3) := by decide +kernel
theorem dX7_undo_5 : decode cX7_undo 5 = .ok (.ifCond .eq 12, 3) := by decide +kernel
theorem dX7_undo_8 : decode cX7_undo 8 = .ok (.aload_n 0, 1) := by decide +kernel
theorem dX7_undo_9 : decode cX7_undo 9 = .ok (.getfield 54, 3) := by decide +kernel
theorem dX7_undo_12 : decode cX7_undo 12 = .ok (.iload_n 1, 1) := by decide +kernel
theorem dX7_undo_13 : decode cX7_undo 13 = .ok (.iaload, 1) := by decide +kernel
theorem dX7_undo_14 : decode cX7_undo 14 = .ok (.ifCond .ne 5, 3) := by decide +kernel
theorem dX7_undo_17 : decode cX7_undo 17 = .ok (.iconst (-1), 1) := by decide +kernel
theorem dX7_undo_18 : decode cX7_undo 18 = .ok (.ireturn, 1) := by decide +kernel
theorem dX7_undo_19 : decode cX7_undo 19 = .ok (.aload_n 0, 1) := by decide +kernel
theorem dX7_undo_20 : decode cX7_undo 20 = .ok (.getfield 54, 3) := by decide +kernel
theorem dX7_undo_23 : decode cX7_undo 23 = .ok (.iload_n 1, 1) := by decide +kernel
theorem dX7_undo_24 : decode cX7_undo 24 = .ok (.dup2, 1) := by decide +kernel
theorem dX7_undo_25 : decode cX7_undo 25 = .ok (.iaload, 1) := by decide +kernel
theorem dX7_undo_26 : decode cX7_undo 26 = .ok (.iconst 1, 1) := by decide +kernel
theorem dX7_undo_27 : decode cX7_undo 27 = .ok (.isub, 1) := by decide +kernel
theorem dX7_undo_28 : decode cX7_undo 28 = .ok (.iastore, 1) := by decide +kernel
theorem dX7_undo_29 : decode cX7_undo 29 = .ok (.aload_n 0, 1) := by decide +kernel
theorem dX7_undo_30 : decode cX7_undo 30 = .ok (.getfield 54, 3) := by decide +kernel
theorem dX7_undo_33 : decode cX7_undo 33 = .ok (.iload_n 1, 1) := by decide +kernel
theorem dX7_undo_34 : decode cX7_undo 34 = .ok (.iaload, 1) := by decide +kernel
theorem dX7_undo_35 : decode cX7_undo 35 = .ok (.ireturn, 1) := by decide +kernel
theorem dX7_link_0 : decode cX7_link 0 = .ok (.aload_n 0, 1) := by decide +kernel
theorem dX7_link_1 : decode cX7_link 1 = .ok (.iload_n 1, 1) := by decide +kernel
theorem dX7_link_2 : decode cX7_link 2 = .ok (.invokevirtual 273, 3) := by decide +kernel
theorem dX7_link_5 : decode cX7_link 5 = .ok (.ifCond .eq 21, 3) := by decide +kernel
theorem dX7_link_8 : decode cX7_link 8 = .ok (.iload_n 2, 1) := by decide +kernel
theorem dX7_link_9 : decode cX7_link 9 = .ok (.iconst 0, 1) := by decide +kernel
theorem dX7_link_10 : decode cX7_link 10 = .ok (.iconst 5, 1) := by decide +kernel
theorem dX7_link_11 : decode cX7_link 11 = .ok (.invokestatic 117, 3) := by decide +kernel
theorem dX7_link_14 : decode cX7_link 14 = .ok (.ifCond .eq 12, 3) := by decide +kernel
theorem dX7_link_17 : decode cX7_link 17 = .ok (.aload_n 0, 1) := by decide +kernel
theorem dX7_link_18 : decode cX7_link 18 = .ok (.iload_n 1, 1) := by decide +kernel
theorem dX7_link_19 : decode cX7_link 19 = .ok (.iload_n 2, 1) := by decide +kernel
theorem dX7_link_20 : decode cX7_link 20 = .ok (.invokevirtual 276, 3) := by decide +kernel
theorem dX7_link_23 : decode cX7_link 23 = .ok (.goto 4, 3) := by decide +kernel
theorem dX7_link_26 : decode cX7_link 26 = .ok (.iconst (-1), 1) := by decide +kernel
theorem dX7_link_27 : decode cX7_link 27 = .ok (.ireturn, 1) := by decide +kernel
theorem dX7_town_0 : decode cX7_town 0 = .ok (.aload_n 0, 1) := by decide +kernel
theorem dX7_town_1 : decode cX7_town 1 = .ok (.iload_n 1, 1) := by decide +kernel
theorem dX7_town_2 : decode cX7_town 2 = .ok (.invokevirtual 259, 3) := by decide +kernel
theorem dX7_town_5 : decode cX7_town 5 = .ok (.ifCond .eq 12, 3) := by decide +kernel
theorem dX7_town_8 : decode cX7_town 8 = .ok (.iload_n 2, 1) := by decide +kernel
theorem dX7_town_9 : decode cX7_town 9 = .ok (.iconst 0, 1) := by decide +kernel
theorem dX7_town_10 : decode cX7_town 10 = .ok (.iconst 1, 1) := by decide +kernel
theorem dX7_town_11 : decode cX7_town 11 = .ok (.invokestatic 117, 3) := by decide +kernel
theorem dX7_town_14 : decode cX7_town 14 = .ok (.ifCond .ne 8, 3) := by decide +kernel
theorem dX7_town_17 : decode cX7_town 17 = .ok (.bipush (-99), 2) := by decide +kernel
theorem dX7_town_19 : decode cX7_town 19 = .ok (.goto 22, 3) := by decide +kernel
theorem dX7_town_22 : decode cX7_town 22 = .ok (.iload_n 2, 1) := by decide +kernel
theorem dX7_town_23 : decode cX7_town 23 = .ok (.ifCond .ne 12, 3) := by decide +kernel
theorem dX7_town_26 : decode cX7_town 26 = .ok (.aload_n 0, 1) := by decide +kernel
theorem dX7_town_27 : decode cX7_town 27 = .ok (.getfield 36, 3) := by decide +kernel
theorem dX7_town_30 : decode cX7_town 30 = .ok (.iload_n 1, 1) := by decide +kernel
theorem dX7_town_31 : decode cX7_town 31 = .ok (.iaload, 1) := by decide +kernel
theorem dX7_town_32 : decode cX7_town 32 = .ok (.goto 9, 3) := by decide +kernel
theorem dX7_town_35 : decode cX7_town 35 = .ok (.aload_n 0, 1) := by decide +kernel
theorem dX7_town_36 : decode cX7_town 36 = .ok (.getfield 39, 3) := by decide +kernel
theorem dX7_town_39 : decode cX7_town 39 = .ok (.iload_n 1, 1) := by decide +kernel
theorem dX7_town_40 : decode cX7_town 40 = .ok (.iaload, 1) := by decide +kernel
theorem dX7_town_41 : decode cX7_town 41 = .ok (.ireturn, 1) := by decide +kernel
theorem dX7_trace_0 : decode cX7_trace 0 = .ok (.aload_n 0, 1) := by decide +kernel
theorem dX7_trace_1 : decode cX7_trace 1 = .ok (.iload_n 1, 1) := by decide +kernel
theorem dX7_trace_2 : decode cX7_trace 2 = .ok (.iload_n 2, 1) := by decide +kernel
theorem dX7_trace_3 : decode cX7_trace 3 = .ok (.invokevirtual 270, 3) := by decide +kernel
theorem dX7_trace_6 : decode cX7_trace 6 = .ok (.ifCond .ne 6, 3) := by decide +kernel
theorem dX7_trace_9 : decode cX7_trace 9 = .ok (.bipush (-99), 2) := by decide +kernel
theorem dX7_trace_11 : decode cX7_trace 11 = .ok (.ireturn, 1) := by decide +kernel
theorem dX7_trace_12 : decode cX7_trace 12 = .ok (.bipush 8, 2) := by decide +kernel
theorem dX7_trace_14 : decode cX7_trace 14 = .ok (.iload_n 1, 1) := by decide +kernel
theorem dX7_trace_15 : decode cX7_trace 15 = .ok (.imul, 1) := by decide +kernel
theorem dX7_trace_16 : decode cX7_trace 16 = .ok (.iload_n 2, 1) := by decide +kernel
theorem dX7_trace_17 : decode cX7_trace 17 = .ok (.iadd, 1) := by decide +kernel
theorem dX7_trace_18 : decode cX7_trace 18 = .ok (.istore 4, 2) := by decide +kernel
theorem dX7_trace_20 : decode cX7_trace 20 = .ok (.iload_n 3, 1) := by decide +kernel
theorem dX7_trace_21 : decode cX7_trace 21 = .ok (.tableswitch 95 0 5 #[39, 47, 55, 63, 71, 79], 39) := by decide +kernel
theorem dX7_trace_60 : decode cX7_trace 60 = .ok (.aload_n 0, 1) := by decide +kernel
theorem dX7_trace_61 : decode cX7_trace 61 = .ok (.getfield 57, 3) := by decide +kernel
theorem dX7_trace_64 : decode cX7_trace 64 = .ok (.iload 4, 2) := by decide +kernel
theorem dX7_trace_66 : decode cX7_trace 66 = .ok (.iaload, 1) := by decide +kernel
theorem dX7_trace_67 : decode cX7_trace 67 = .ok (.ireturn, 1) := by decide +kernel
theorem dX7_trace_68 : decode cX7_trace 68 = .ok (.aload_n 0, 1) := by decide +kernel
theorem dX7_trace_69 : decode cX7_trace 69 = .ok (.getfield 60, 3) := by decide +kernel
theorem dX7_trace_72 : decode cX7_trace 72 = .ok (.iload 4, 2) := by decide +kernel
theorem dX7_trace_74 : decode cX7_trace 74 = .ok (.iaload, 1) := by decide +kernel
theorem dX7_trace_75 : decode cX7_trace 75 = .ok (.ireturn, 1) := by decide +kernel
theorem dX7_trace_76 : decode cX7_trace 76 = .ok (.aload_n 0, 1) := by decide +kernel
theorem dX7_trace_77 : decode cX7_trace 77 = .ok (.getfield 63, 3) := by decide +kernel
theorem dX7_trace_80 : decode cX7_trace 80 = .ok (.iload 4, 2) := by decide +kernel
theorem dX7_trace_82 : decode cX7_trace 82 = .ok (.iaload, 1) := by decide +kernel
theorem dX7_trace_83 : decode cX7_trace 83 = .ok (.ireturn, 1) := by decide +kernel
theorem dX7_trace_84 : decode cX7_trace 84 = .ok (.aload_n 0, 1) := by decide +kernel
theorem dX7_trace_85 : decode cX7_trace 85 = .ok (.getfield 66, 3) := by decide +kernel
theorem dX7_trace_88 : decode cX7_trace 88 = .ok (.iload 4, 2) := by decide +kernel
theorem dX7_trace_90 : decode cX7_trace 90 = .ok (.iaload, 1) := by decide +kernel
theorem dX7_trace_91 : decode cX7_trace 91 = .ok (.ireturn, 1) := by decide +kernel
theorem dX7_trace_92 : decode cX7_trace 92 = .ok (.aload_n 0, 1) := by decide +kernel
theorem dX7_trace_93 : decode cX7_trace 93 = .ok (.getfield 69, 3) := by decide +kernel
theorem dX7_trace_96 : decode cX7_trace 96 = .ok (.iload 4, 2) := by decide +kernel
theorem dX7_trace_98 : decode cX7_trace 98 = .ok (.iaload, 1) := by decide +kernel
theorem dX7_trace_99 : decode cX7_trace 99 = .ok (.ireturn, 1) := by decide +kernel
theorem dX7_trace_100 : decode cX7_trace 100 = .ok (.aload_n 0, 1) := by decide +kernel
theorem dX7_trace_101 : decode cX7_trace 101 = .ok (.getfield 72, 3) := by decide +kernel
theorem dX7_trace_104 : decode cX7_trace 104 = .ok (.iload 4, 2) := by decide +kernel
theorem dX7_trace_106 : decode cX7_trace 106 = .ok (.baload, 1) := by decide +kernel
theorem dX7_trace_107 : decode cX7_trace 107 = .ok (.ifCond .eq 7, 3) := by decide +kernel
theorem dX7_trace_110 : decode cX7_trace 110 = .ok (.iconst 1, 1) := by decide +kernel
theorem dX7_trace_111 : decode cX7_trace 111 = .ok (.goto 4, 3) := by decide +kernel
theorem dX7_trace_114 : decode cX7_trace 114 = .ok (.iconst 0, 1) := by decide +kernel
theorem dX7_trace_115 : decode cX7_trace 115 = .ok (.ireturn, 1) := by decide +kernel
theorem dX7_trace_116 : decode cX7_trace 116 = .ok (.bipush (-99), 2) := by decide +kernel
theorem dX7_trace_118 : decode cX7_trace 118 = .ok (.ireturn, 1) := by decide +kernel
theorem dX7_sets_0 : decode cX7_sets 0 = .ok (.aload_n 0, 1) := by decide +kernel
theorem dX7_sets_1 : decode cX7_sets 1 = .ok (.iload_n 1, 1) := by decide +kernel
theorem dX7_sets_2 : decode cX7_sets 2 = .ok (.putfield 279, 3) := by decide +kernel
theorem dX7_sets_5 : decode cX7_sets 5 = .ok (.aload_n 0, 1) := by decide +kernel
theorem dX7_sets_6 : decode cX7_sets 6 = .ok (.iconst 0, 1) := by decide +kernel
theorem dX7_sets_7 : decode cX7_sets 7 = .ok (.putfield 282, 3) := by decide +kernel
theorem dX7_sets_10 : decode cX7_sets 10 = .ok (.aload_n 0, 1) := by decide +kernel
theorem dX7_sets_11 : decode cX7_sets 11 = .ok (.iconst 0, 1) := by decide +kernel
theorem dX7_sets_12 : decode cX7_sets 12 = .ok (.putfield 285, 3) := by decide +kernel
theorem dX7_sets_15 : decode cX7_sets 15 = .ok (.iconst 0, 1) := by decide +kernel
theorem dX7_sets_16 : decode cX7_sets 16 = .ok (.istore_n 3, 1) := by decide +kernel
theorem dX7_sets_17 : decode cX7_sets 17 = .ok (.iload_n 3, 1) := by decide +kernel
theorem dX7_sets_18 : decode cX7_sets 18 = .ok (.bipush 96, 2) := by decide +kernel
theorem dX7_sets_20 : decode cX7_sets 20 = .ok (.if_icmp .gt 16, 3) := by decide +kernel
theorem dX7_sets_23 : decode cX7_sets 23 = .ok (.aload_n 0, 1) := by decide +kernel
theorem dX7_sets_24 : decode cX7_sets 24 = .ok (.getfield 85, 3) := by decide +kernel
theorem dX7_sets_27 : decode cX7_sets 27 = .ok (.iload_n 3, 1) := by decide +kernel
theorem dX7_sets_28 : decode cX7_sets 28 = .ok (.iconst (-1), 1) := by decide +kernel
theorem dX7_sets_29 : decode cX7_sets 29 = .ok (.iastore, 1) := by decide +kernel
theorem dX7_sets_30 : decode cX7_sets 30 = .ok (.iinc 3 1, 3) := by decide +kernel
theorem dX7_sets_33 : decode cX7_sets 33 = .ok (.goto (-16), 3) := by decide +kernel
theorem dX7_sets_36 : decode cX7_sets 36 = .ok (.iconst 0, 1) := by decide +kernel
theorem dX7_sets_37 : decode cX7_sets 37 = .ok (.istore_n 3, 1) := by decide +kernel
theorem dX7_sets_38 : decode cX7_sets 38 = .ok (.iload_n 3, 1) := by decide +kernel
theorem dX7_sets_39 : decode cX7_sets 39 = .ok (.aload_n 0, 1) := by decide +kernel
theorem dX7_sets_40 : decode cX7_sets 40 = .ok (.getfield 54, 3) := by decide +kernel
theorem dX7_sets_43 : decode cX7_sets 43 = .ok (.iload_n 1, 1) := by decide +kernel
theorem dX7_sets_44 : decode cX7_sets 44 = .ok (.iaload, 1) := by decide +kernel
theorem dX7_sets_45 : decode cX7_sets 45 = .ok (.if_icmp .ge 223, 3) := by decide +kernel
theorem dX7_sets_48 : decode cX7_sets 48 = .ok (.bipush 8, 2) := by decide +kernel
theorem dX7_sets_50 : decode cX7_sets 50 = .ok (.iload_n 1, 1) := by decide +kernel
theorem dX7_sets_51 : decode cX7_sets 51 = .ok (.imul, 1) := by decide +kernel
theorem dX7_sets_52 : decode cX7_sets 52 = .ok (.iload_n 3, 1) := by decide +kernel
theorem dX7_sets_53 : decode cX7_sets 53 = .ok (.iadd, 1) := by decide +kernel
theorem dX7_sets_54 : decode cX7_sets 54 = .ok (.istore 4, 2) := by decide +kernel
theorem dX7_sets_56 : decode cX7_sets 56 = .ok (.aload_n 0, 1) := by decide +kernel
theorem dX7_sets_57 : decode cX7_sets 57 = .ok (.getfield 72, 3) := by decide +kernel
theorem dX7_sets_60 : decode cX7_sets 60 = .ok (.iload 4, 2) := by decide +kernel
theorem dX7_sets_62 : decode cX7_sets 62 = .ok (.baload, 1) := by decide +kernel
theorem dX7_sets_63 : decode cX7_sets 63 = .ok (.ifCond .ne 199, 3) := by decide +kernel
theorem dX7_sets_66 : decode cX7_sets 66 = .ok (.iload_n 2, 1) := by decide +kernel
theorem dX7_sets_67 : decode cX7_sets 67 = .ok (.iload_n 3, 1) := by decide +kernel
theorem dX7_sets_68 : decode cX7_sets 68 = .ok (.ishr, 1) := by decide +kernel
theorem dX7_sets_69 : decode cX7_sets 69 = .ok (.iconst 1, 1) := by decide +kernel
theorem dX7_sets_70 : decode cX7_sets 70 = .ok (.iand, 1) := by decide +kernel
theorem dX7_sets_71 : decode cX7_sets 71 = .ok (.iconst 1, 1) := by decide +kernel
theorem dX7_sets_72 : decode cX7_sets 72 = .ok (.if_icmp .ne 6, 3) := by decide +kernel
theorem dX7_sets_75 : decode cX7_sets 75 = .ok (.goto 187, 3) := by decide +kernel
theorem dX7_sets_78 : decode cX7_sets 78 = .ok (.aload_n 0, 1) := by decide +kernel
theorem dX7_sets_79 : decode cX7_sets 79 = .ok (.getfield 57, 3) := by decide +kernel
theorem dX7_sets_82 : decode cX7_sets 82 = .ok (.iload 4, 2) := by decide +kernel
theorem dX7_sets_84 : decode cX7_sets 84 = .ok (.iaload, 1) := by decide +kernel
theorem dX7_sets_85 : decode cX7_sets 85 = .ok (.ifCond .ne 27, 3) := by decide +kernel
theorem dX7_sets_88 : decode cX7_sets 88 = .ok (.aload_n 0, 1) := by decide +kernel
theorem dX7_sets_89 : decode cX7_sets 89 = .ok (.getfield 82, 3) := by decide +kernel
theorem dX7_sets_92 : decode cX7_sets 92 = .ok (.aload_n 0, 1) := by decide +kernel
theorem dX7_sets_93 : decode cX7_sets 93 = .ok (.getfield 282, 3) := by decide +kernel
theorem dX7_sets_96 : decode cX7_sets 96 = .ok (.iload 4, 2) := by decide +kernel
theorem dX7_sets_98 : decode cX7_sets 98 = .ok (.iastore, 1) := by decide +kernel
theorem dX7_sets_99 : decode cX7_sets 99 = .ok (.aload_n 0, 1) := by decide +kernel
theorem dX7_sets_100 : decode cX7_sets 100 = .ok (.dup, 1) := by decide +kernel
theorem dX7_sets_101 : decode cX7_sets 101 = .ok (.getfield 282, 3) := by decide +kernel
theorem dX7_sets_104 : decode cX7_sets 104 = .ok (.iconst 1, 1) := by decide +kernel
theorem dX7_sets_105 : decode cX7_sets 105 = .ok (.iadd, 1) := by decide +kernel
theorem dX7_sets_106 : decode cX7_sets 106 = .ok (.putfield 282, 3) := by decide +kernel
theorem dX7_sets_109 : decode cX7_sets 109 = .ok (.goto 153, 3) := by decide +kernel
theorem dX7_sets_112 : decode cX7_sets 112 = .ok (.aload_n 0, 1) := by decide +kernel
theorem dX7_sets_113 : decode cX7_sets 113 = .ok (.getfield 57, 3) := by decide +kernel
theorem dX7_sets_116 : decode cX7_sets 116 = .ok (.iload 4, 2) := by decide +kernel
theorem dX7_sets_118 : decode cX7_sets 118 = .ok (.iaload, 1) := by decide +kernel
theorem dX7_sets_119 : decode cX7_sets 119 = .ok (.iconst 2, 1) := by decide +kernel
theorem dX7_sets_120 : decode cX7_sets 120 = .ok (.if_icmp .ne 64, 3) := by decide +kernel
theorem dX7_sets_123 : decode cX7_sets 123 = .ok (.aload_n 0, 1) := by decide +kernel
theorem dX7_sets_124 : decode cX7_sets 124 = .ok (.getfield 88, 3) := by decide +kernel
theorem dX7_sets_127 : decode cX7_sets 127 = .ok (.aload_n 0, 1) := by decide +kernel
theorem dX7_sets_128 : decode cX7_sets 128 = .ok (.getfield 285, 3) := by decide +kernel
theorem dX7_sets_131 : decode cX7_sets 131 = .ok (.aload_n 0, 1) := by decide +kernel
theorem dX7_sets_132 : decode cX7_sets 132 = .ok (.getfield 60, 3) := by decide +kernel
theorem dX7_sets_135 : decode cX7_sets 135 = .ok (.iload 4, 2) := by decide +kernel
theorem dX7_sets_137 : decode cX7_sets 137 = .ok (.iaload, 1) := by decide +kernel
theorem dX7_sets_138 : decode cX7_sets 138 = .ok (.iastore, 1) := by decide +kernel
theorem dX7_sets_139 : decode cX7_sets 139 = .ok (.aload_n 0, 1) := by decide +kernel
theorem dX7_sets_140 : decode cX7_sets 140 = .ok (.getfield 91, 3) := by decide +kernel
theorem dX7_sets_143 : decode cX7_sets 143 = .ok (.aload_n 0, 1) := by decide +kernel
theorem dX7_sets_144 : decode cX7_sets 144 = .ok (.getfield 285, 3) := by decide +kernel
theorem dX7_sets_147 : decode cX7_sets 147 = .ok (.aload_n 0, 1) := by decide +kernel
theorem dX7_sets_148 : decode cX7_sets 148 = .ok (.getfield 63, 3) := by decide +kernel
theorem dX7_sets_151 : decode cX7_sets 151 = .ok (.iload 4, 2) := by decide +kernel
theorem dX7_sets_153 : decode cX7_sets 153 = .ok (.iaload, 1) := by decide +kernel
theorem dX7_sets_154 : decode cX7_sets 154 = .ok (.iastore, 1) := by decide +kernel
theorem dX7_sets_155 : decode cX7_sets 155 = .ok (.aload_n 0, 1) := by decide +kernel
theorem dX7_sets_156 : decode cX7_sets 156 = .ok (.getfield 94, 3) := by decide +kernel
theorem dX7_sets_159 : decode cX7_sets 159 = .ok (.aload_n 0, 1) := by decide +kernel
theorem dX7_sets_160 : decode cX7_sets 160 = .ok (.getfield 285, 3) := by decide +kernel
theorem dX7_sets_163 : decode cX7_sets 163 = .ok (.aload_n 0, 1) := by decide +kernel
theorem dX7_sets_164 : decode cX7_sets 164 = .ok (.getfield 66, 3) := by decide +kernel
theorem dX7_sets_167 : decode cX7_sets 167 = .ok (.iload 4, 2) := by decide +kernel
theorem dX7_sets_169 : decode cX7_sets 169 = .ok (.iaload, 1) := by decide +kernel
theorem dX7_sets_170 : decode cX7_sets 170 = .ok (.iastore, 1) := by decide +kernel
theorem dX7_sets_171 : decode cX7_sets 171 = .ok (.aload_n 0, 1) := by decide +kernel
theorem dX7_sets_172 : decode cX7_sets 172 = .ok (.dup, 1) := by decide +kernel
theorem dX7_sets_173 : decode cX7_sets 173 = .ok (.getfield 285, 3) := by decide +kernel
theorem dX7_sets_176 : decode cX7_sets 176 = .ok (.iconst 1, 1) := by decide +kernel
theorem dX7_sets_177 : decode cX7_sets 177 = .ok (.iadd, 1) := by decide +kernel
theorem dX7_sets_178 : decode cX7_sets 178 = .ok (.putfield 285, 3) := by decide +kernel
theorem dX7_sets_181 : decode cX7_sets 181 = .ok (.goto 81, 3) := by decide +kernel
theorem dX7_sets_184 : decode cX7_sets 184 = .ok (.aload_n 0, 1) := by decide +kernel
theorem dX7_sets_185 : decode cX7_sets 185 = .ok (.getfield 63, 3) := by decide +kernel
theorem dX7_sets_188 : decode cX7_sets 188 = .ok (.iload 4, 2) := by decide +kernel
theorem dX7_sets_190 : decode cX7_sets 190 = .ok (.iaload, 1) := by decide +kernel
theorem dX7_sets_191 : decode cX7_sets 191 = .ok (.aload_n 0, 1) := by decide +kernel
theorem dX7_sets_192 : decode cX7_sets 192 = .ok (.getfield 51, 3) := by decide +kernel
theorem dX7_sets_195 : decode cX7_sets 195 = .ok (.iload_n 1, 1) := by decide +kernel
theorem dX7_sets_196 : decode cX7_sets 196 = .ok (.iaload, 1) := by decide +kernel
theorem dX7_sets_197 : decode cX7_sets 197 = .ok (.if_icmp .gt 65, 3) := by decide +kernel
theorem dX7_sets_200 : decode cX7_sets 200 = .ok (.aload_n 0, 1) := by decide +kernel
theorem dX7_sets_201 : decode cX7_sets 201 = .ok (.getfield 85, 3) := by decide +kernel
theorem dX7_sets_204 : decode cX7_sets 204 = .ok (.aload_n 0, 1) := by decide +kernel
theorem dX7_sets_205 : decode cX7_sets 205 = .ok (.getfield 63, 3) := by decide +kernel
theorem dX7_sets_208 : decode cX7_sets 208 = .ok (.iload 4, 2) := by decide +kernel
theorem dX7_sets_210 : decode cX7_sets 210 = .ok (.iaload, 1) := by decide +kernel
theorem dX7_sets_211 : decode cX7_sets 211 = .ok (.aload_n 0, 1) := by decide +kernel
theorem dX7_sets_212 : decode cX7_sets 212 = .ok (.getfield 85, 3) := by decide +kernel
theorem dX7_sets_215 : decode cX7_sets 215 = .ok (.aload_n 0, 1) := by decide +kernel
theorem dX7_sets_216 : decode cX7_sets 216 = .ok (.getfield 63, 3) := by decide +kernel
theorem dX7_sets_219 : decode cX7_sets 219 = .ok (.iload 4, 2) := by decide +kernel
theorem dX7_sets_221 : decode cX7_sets 221 = .ok (.iaload, 1) := by decide +kernel
theorem dX7_sets_222 : decode cX7_sets 222 = .ok (.iaload, 1) := by decide +kernel
theorem dX7_sets_223 : decode cX7_sets 223 = .ok (.iconst (-1), 1) := by decide +kernel
theorem dX7_sets_224 : decode cX7_sets 224 = .ok (.if_icmp .eq 25, 3) := by decide +kernel
theorem dX7_sets_227 : decode cX7_sets 227 = .ok (.aload_n 0, 1) := by decide +kernel
theorem dX7_sets_228 : decode cX7_sets 228 = .ok (.getfield 85, 3) := by decide +kernel
theorem dX7_sets_231 : decode cX7_sets 231 = .ok (.aload_n 0, 1) := by decide +kernel
theorem dX7_sets_232 : decode cX7_sets 232 = .ok (.getfield 63, 3) := by decide +kernel
theorem dX7_sets_235 : decode cX7_sets 235 = .ok (.iload 4, 2) := by decide +kernel
theorem dX7_sets_237 : decode cX7_sets 237 = .ok (.iaload, 1) := by decide +kernel
theorem dX7_sets_238 : decode cX7_sets 238 = .ok (.iaload, 1) := by decide +kernel
theorem dX7_sets_239 : decode cX7_sets 239 = .ok (.aload_n 0, 1) := by decide +kernel
theorem dX7_sets_240 : decode cX7_sets 240 = .ok (.getfield 60, 3) := by decide +kernel
theorem dX7_sets_243 : decode cX7_sets 243 = .ok (.iload 4, 2) := by decide +kernel
theorem dX7_sets_245 : decode cX7_sets 245 = .ok (.iaload, 1) := by decide +kernel
theorem dX7_sets_246 : decode cX7_sets 246 = .ok (.if_icmp .ne 13, 3) := by decide +kernel
theorem dX7_sets_249 : decode cX7_sets 249 = .ok (.aload_n 0, 1) := by decide +kernel
theorem dX7_sets_250 : decode cX7_sets 250 = .ok (.getfield 60, 3) := by decide +kernel
theorem dX7_sets_253 : decode cX7_sets 253 = .ok (.iload 4, 2) := by decide +kernel
theorem dX7_sets_255 : decode cX7_sets 255 = .ok (.iaload, 1) := by decide +kernel
theorem dX7_sets_256 : decode cX7_sets 256 = .ok (.goto 5, 3) := by decide +kernel
theorem dX7_sets_259 : decode cX7_sets 259 = .ok (.bipush 8, 2) := by decide +kernel
theorem dX7_sets_261 : decode cX7_sets 261 = .ok (.iastore, 1) := by decide +kernel
theorem dX7_sets_262 : decode cX7_sets 262 = .ok (.iinc 3 1, 3) := by decide +kernel
theorem dX7_sets_265 : decode cX7_sets 265 = .ok (.goto (-227), 3) := by decide +kernel
theorem dX7_sets_268 : decode cX7_sets 268 = .ok (.return_, 1) := by decide +kernel
theorem dX7_stateOf_0 : decode cX7_stateOf 0 = .ok (.iload_n 0, 1) := by decide +kernel
theorem dX7_stateOf_1 : decode cX7_stateOf 1 = .ok (.bipush 7, 2) := by decide +kernel
theorem dX7_stateOf_3 : decode cX7_stateOf 3 = .ok (.imul, 1) := by decide +kernel
theorem dX7_stateOf_4 : decode cX7_stateOf 4 = .ok (.iload_n 1, 1) := by decide +kernel
theorem dX7_stateOf_5 : decode cX7_stateOf 5 = .ok (.iadd, 1) := by decide +kernel
theorem dX7_stateOf_6 : decode cX7_stateOf 6 = .ok (.iconst 4, 1) := by decide +kernel
theorem dX7_stateOf_7 : decode cX7_stateOf 7 = .ok (.imul, 1) := by decide +kernel
theorem dX7_stateOf_8 : decode cX7_stateOf 8 = .ok (.iload_n 2, 1) := by decide +kernel
theorem dX7_stateOf_9 : decode cX7_stateOf 9 = .ok (.iadd, 1) := by decide +kernel
theorem dX7_stateOf_10 : decode cX7_stateOf 10 = .ok (.iconst 5, 1) := by decide +kernel
theorem dX7_stateOf_11 : decode cX7_stateOf 11 = .ok (.imul, 1) := by decide +kernel
theorem dX7_stateOf_12 : decode cX7_stateOf 12 = .ok (.iload_n 3, 1) := by decide +kernel
theorem dX7_stateOf_13 : decode cX7_stateOf 13 = .ok (.iadd, 1) := by decide +kernel
theorem dX7_stateOf_14 : decode cX7_stateOf 14 = .ok (.ireturn, 1) := by decide +kernel
theorem dX7_comesTo_0 : decode cX7_comesTo 0 = .ok (.aload_n 0, 1) := by decide +kernel
theorem dX7_comesTo_1 : decode cX7_comesTo 1 = .ok (.getfield 85, 3) := by decide +kernel
theorem dX7_comesTo_4 : decode cX7_comesTo 4 = .ok (.iload_n 1, 1) := by decide +kernel
theorem dX7_comesTo_5 : decode cX7_comesTo 5 = .ok (.iaload, 1) := by decide +kernel
theorem dX7_comesTo_6 : decode cX7_comesTo 6 = .ok (.iconst (-1), 1) := by decide +kernel
theorem dX7_comesTo_7 : decode cX7_comesTo 7 = .ok (.if_icmp .eq 15, 3) := by decide +kernel
theorem dX7_comesTo_10 : decode cX7_comesTo 10 = .ok (.aload_n 0, 1) := by decide +kernel
theorem dX7_comesTo_11 : decode cX7_comesTo 11 = .ok (.getfield 85, 3) := by decide +kernel
theorem dX7_comesTo_14 : decode cX7_comesTo 14 = .ok (.iload_n 1, 1) := by decide +kernel
theorem dX7_comesTo_15 : decode cX7_comesTo 15 = .ok (.iaload, 1) := by decide +kernel
theorem dX7_comesTo_16 : decode cX7_comesTo 16 = .ok (.iload_n 2, 1) := by decide +kernel
theorem dX7_comesTo_17 : decode cX7_comesTo 17 = .ok (.if_icmp .eq 5, 3) := by decide +kernel
theorem dX7_comesTo_20 : decode cX7_comesTo 20 = .ok (.iconst (-1), 1) := by decide +kernel
theorem dX7_comesTo_21 : decode cX7_comesTo 21 = .ok (.ireturn, 1) := by decide +kernel
theorem dX7_comesTo_22 : decode cX7_comesTo 22 = .ok (.iload 4, 2) := by decide +kernel
theorem dX7_comesTo_24 : decode cX7_comesTo 24 = .ok (.istore 6, 2) := by decide +kernel
theorem dX7_comesTo_26 : decode cX7_comesTo 26 = .ok (.iconst 0, 1) := by decide +kernel
theorem dX7_comesTo_27 : decode cX7_comesTo 27 = .ok (.istore 7, 2) := by decide +kernel
theorem dX7_comesTo_29 : decode cX7_comesTo 29 = .ok (.iload 7, 2) := by decide +kernel
theorem dX7_comesTo_31 : decode cX7_comesTo 31 = .ok (.aload_n 0, 1) := by decide +kernel
theorem dX7_comesTo_32 : decode cX7_comesTo 32 = .ok (.getfield 285, 3) := by decide +kernel
theorem dX7_comesTo_35 : decode cX7_comesTo 35 = .ok (.if_icmp .ge 50, 3) := by decide +kernel
theorem dX7_comesTo_38 : decode cX7_comesTo 38 = .ok (.aload_n 0, 1) := by decide +kernel
theorem dX7_comesTo_39 : decode cX7_comesTo 39 = .ok (.getfield 88, 3) := by decide +kernel
theorem dX7_comesTo_42 : decode cX7_comesTo 42 = .ok (.iload 7, 2) := by decide +kernel
theorem dX7_comesTo_44 : decode cX7_comesTo 44 = .ok (.iaload, 1) := by decide +kernel
theorem dX7_comesTo_45 : decode cX7_comesTo 45 = .ok (.iload_n 2, 1) := by decide +kernel
theorem dX7_comesTo_46 : decode cX7_comesTo 46 = .ok (.if_icmp .ne 33, 3) := by decide +kernel
theorem dX7_comesTo_49 : decode cX7_comesTo 49 = .ok (.iload_n 1, 1) := by decide +kernel
theorem dX7_comesTo_50 : decode cX7_comesTo 50 = .ok (.aload_n 0, 1) := by decide +kernel
theorem dX7_comesTo_51 : decode cX7_comesTo 51 = .ok (.getfield 91, 3) := by decide +kernel
theorem dX7_comesTo_54 : decode cX7_comesTo 54 = .ok (.iload 7, 2) := by decide +kernel
theorem dX7_comesTo_56 : decode cX7_comesTo 56 = .ok (.iaload, 1) := by decide +kernel
theorem dX7_comesTo_57 : decode cX7_comesTo 57 = .ok (.aload_n 0, 1) := by decide +kernel
theorem dX7_comesTo_58 : decode cX7_comesTo 58 = .ok (.getfield 94, 3) := by decide +kernel
theorem dX7_comesTo_61 : decode cX7_comesTo 61 = .ok (.iload 7, 2) := by decide +kernel
theorem dX7_comesTo_63 : decode cX7_comesTo 63 = .ok (.iaload, 1) := by decide +kernel
theorem dX7_comesTo_64 : decode cX7_comesTo 64 = .ok (.invokestatic 117, 3) := by decide +kernel
theorem dX7_comesTo_67 : decode cX7_comesTo 67 = .ok (.ifCond .eq 12, 3) := by decide +kernel
theorem dX7_comesTo_70 : decode cX7_comesTo 70 = .ok (.iload 6, 2) := by decide +kernel
theorem dX7_comesTo_72 : decode cX7_comesTo 72 = .ok (.iconst 1, 1) := by decide +kernel
theorem dX7_comesTo_73 : decode cX7_comesTo 73 = .ok (.iload 7, 2) := by decide +kernel
theorem dX7_comesTo_75 : decode cX7_comesTo 75 = .ok (.ishl, 1) := by decide +kernel
theorem dX7_comesTo_76 : decode cX7_comesTo 76 = .ok (.ior, 1) := by decide +kernel
theorem dX7_comesTo_77 : decode cX7_comesTo 77 = .ok (.istore 6, 2) := by decide +kernel
theorem dX7_comesTo_79 : decode cX7_comesTo 79 = .ok (.iinc 7 1, 3) := by decide +kernel
theorem dX7_comesTo_82 : decode cX7_comesTo 82 = .ok (.goto (-53), 3) := by decide +kernel
theorem dX7_comesTo_85 : decode cX7_comesTo 85 = .ok (.iload_n 2, 1) := by decide +kernel
theorem dX7_comesTo_86 : decode cX7_comesTo 86 = .ok (.iload_n 3, 1) := by decide +kernel
theorem dX7_comesTo_87 : decode cX7_comesTo 87 = .ok (.iload 6, 2) := by decide +kernel
theorem dX7_comesTo_89 : decode cX7_comesTo 89 = .ok (.iload 5, 2) := by decide +kernel
theorem dX7_comesTo_91 : decode cX7_comesTo 91 = .ok (.invokestatic 288, 3) := by decide +kernel
theorem dX7_comesTo_94 : decode cX7_comesTo 94 = .ok (.ireturn, 1) := by decide +kernel
theorem dX7_stamped_0 : decode cX7_stamped 0 = .ok (.aload_n 0, 1) := by decide +kernel
theorem dX7_stamped_1 : decode cX7_stamped 1 = .ok (.getfield 33, 3) := by decide +kernel
theorem dX7_stamped_4 : decode cX7_stamped 4 = .ok (.iload_n 2, 1) := by decide +kernel
theorem dX7_stamped_5 : decode cX7_stamped 5 = .ok (.iaload, 1) := by decide +kernel
theorem dX7_stamped_6 : decode cX7_stamped 6 = .ok (.iload_n 3, 1) := by decide +kernel
theorem dX7_stamped_7 : decode cX7_stamped 7 = .ok (.ishr, 1) := by decide +kernel
theorem dX7_stamped_8 : decode cX7_stamped 8 = .ok (.iconst 1, 1) := by decide +kernel
theorem dX7_stamped_9 : decode cX7_stamped 9 = .ok (.iand, 1) := by decide +kernel
theorem dX7_stamped_10 : decode cX7_stamped 10 = .ok (.ifCond .ne 5, 3) := by decide +kernel
theorem dX7_stamped_13 : decode cX7_stamped 13 = .ok (.iload_n 1, 1) := by decide +kernel
theorem dX7_stamped_14 : decode cX7_stamped 14 = .ok (.ireturn, 1) := by decide +kernel
theorem dX7_stamped_15 : decode cX7_stamped 15 = .ok (.iload 4, 2) := by decide +kernel
theorem dX7_stamped_17 : decode cX7_stamped 17 = .ok (.aload_n 0, 1) := by decide +kernel
theorem dX7_stamped_18 : decode cX7_stamped 18 = .ok (.getfield 39, 3) := by decide +kernel
theorem dX7_stamped_21 : decode cX7_stamped 21 = .ok (.iload 5, 2) := by decide +kernel
theorem dX7_stamped_23 : decode cX7_stamped 23 = .ok (.iaload, 1) := by decide +kernel
theorem dX7_stamped_24 : decode cX7_stamped 24 = .ok (.iadd, 1) := by decide +kernel
theorem dX7_stamped_25 : decode cX7_stamped 25 = .ok (.bipush 24, 2) := by decide +kernel
theorem dX7_stamped_27 : decode cX7_stamped 27 = .ok (.invokestatic 292, 3) := by decide +kernel
theorem dX7_stamped_30 : decode cX7_stamped 30 = .ok (.istore 6, 2) := by decide +kernel
theorem dX7_stamped_32 : decode cX7_stamped 32 = .ok (.iload_n 1, 1) := by decide +kernel
theorem dX7_stamped_33 : decode cX7_stamped 33 = .ok (.aload_n 0, 1) := by decide +kernel
theorem dX7_stamped_34 : decode cX7_stamped 34 = .ok (.getfield 282, 3) := by decide +kernel
theorem dX7_stamped_37 : decode cX7_stamped 37 = .ok (.if_icmp .ne 5, 3) := by decide +kernel
theorem dX7_stamped_40 : decode cX7_stamped 40 = .ok (.iconst (-1), 1) := by decide +kernel
theorem dX7_stamped_41 : decode cX7_stamped 41 = .ok (.ireturn, 1) := by decide +kernel
theorem dX7_stamped_42 : decode cX7_stamped 42 = .ok (.aload_n 0, 1) := by decide +kernel
theorem dX7_stamped_43 : decode cX7_stamped 43 = .ok (.getfield 82, 3) := by decide +kernel
theorem dX7_stamped_46 : decode cX7_stamped 46 = .ok (.iload_n 1, 1) := by decide +kernel
theorem dX7_stamped_47 : decode cX7_stamped 47 = .ok (.iaload, 1) := by decide +kernel
theorem dX7_stamped_48 : decode cX7_stamped 48 = .ok (.istore 7, 2) := by decide +kernel
theorem dX7_stamped_50 : decode cX7_stamped 50 = .ok (.aload_n 0, 1) := by decide +kernel
theorem dX7_stamped_51 : decode cX7_stamped 51 = .ok (.getfield 60, 3) := by decide +kernel
theorem dX7_stamped_54 : decode cX7_stamped 54 = .ok (.iload 7, 2) := by decide +kernel
theorem dX7_stamped_56 : decode cX7_stamped 56 = .ok (.iaload, 1) := by decide +kernel
theorem dX7_stamped_57 : decode cX7_stamped 57 = .ok (.iload_n 2, 1) := by decide +kernel
theorem dX7_stamped_58 : decode cX7_stamped 58 = .ok (.if_icmp .ne 42, 3) := by decide +kernel
theorem dX7_stamped_61 : decode cX7_stamped 61 = .ok (.aload_n 0, 1) := by decide +kernel
theorem dX7_stamped_62 : decode cX7_stamped 62 = .ok (.getfield 69, 3) := by decide +kernel
theorem dX7_stamped_65 : decode cX7_stamped 65 = .ok (.iload 7, 2) := by decide +kernel
theorem dX7_stamped_67 : decode cX7_stamped 67 = .ok (.iaload, 1) := by decide +kernel
theorem dX7_stamped_68 : decode cX7_stamped 68 = .ok (.iload_n 3, 1) := by decide +kernel
theorem dX7_stamped_69 : decode cX7_stamped 69 = .ok (.if_icmp .ne 31, 3) := by decide +kernel
theorem dX7_stamped_72 : decode cX7_stamped 72 = .ok (.iload 6, 2) := by decide +kernel
theorem dX7_stamped_74 : decode cX7_stamped 74 = .ok (.aload_n 0, 1) := by decide +kernel
theorem dX7_stamped_75 : decode cX7_stamped 75 = .ok (.getfield 63, 3) := by decide +kernel
theorem dX7_stamped_78 : decode cX7_stamped 78 = .ok (.iload 7, 2) := by decide +kernel
theorem dX7_stamped_80 : decode cX7_stamped 80 = .ok (.iaload, 1) := by decide +kernel
theorem dX7_stamped_81 : decode cX7_stamped 81 = .ok (.aload_n 0, 1) := by decide +kernel
theorem dX7_stamped_82 : decode cX7_stamped 82 = .ok (.getfield 66, 3) := by decide +kernel
theorem dX7_stamped_85 : decode cX7_stamped 85 = .ok (.iload 7, 2) := by decide +kernel
theorem dX7_stamped_87 : decode cX7_stamped 87 = .ok (.iaload, 1) := by decide +kernel
theorem dX7_stamped_88 : decode cX7_stamped 88 = .ok (.invokestatic 117, 3) := by decide +kernel
theorem dX7_stamped_91 : decode cX7_stamped 91 = .ok (.ifCond .eq 9, 3) := by decide +kernel
theorem dX7_stamped_94 : decode cX7_stamped 94 = .ok (.iload_n 1, 1) := by decide +kernel
theorem dX7_stamped_95 : decode cX7_stamped 95 = .ok (.iconst 1, 1) := by decide +kernel
theorem dX7_stamped_96 : decode cX7_stamped 96 = .ok (.iadd, 1) := by decide +kernel
theorem dX7_stamped_97 : decode cX7_stamped 97 = .ok (.goto 4, 3) := by decide +kernel
theorem dX7_stamped_100 : decode cX7_stamped 100 = .ok (.iconst (-1), 1) := by decide +kernel
theorem dX7_stamped_101 : decode cX7_stamped 101 = .ok (.ireturn, 1) := by decide +kernel
theorem dX7_goes_0 : decode cX7_goes 0 = .ok (.iload_n 2, 1) := by decide +kernel
theorem dX7_goes_1 : decode cX7_goes 1 = .ok (.iconst 5, 1) := by decide +kernel
