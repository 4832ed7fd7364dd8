theorem dX4_prepare_135 : decode cX4_prepare 135 = .ok (.aload_n 0, 1) := by decide +kernel
theorem dX4_prepare_136 : decode cX4_prepare 136 = .ok (.getfield 37, 3) := by decide +kernel
theorem dX4_prepare_139 : decode cX4_prepare 139 = .ok (.iload_n 2, 1) := by decide +kernel
theorem dX4_prepare_140 : decode cX4_prepare 140 = .ok (.iconst 1, 1) := by decide +kernel
theorem dX4_prepare_141 : decode cX4_prepare 141 = .ok (.invokevirtual 173, 3) := by decide +kernel
theorem dX4_prepare_144 : decode cX4_prepare 144 = .ok (.ifCond .eq 34, 3) := by decide +kernel
theorem dX4_prepare_147 : decode cX4_prepare 147 = .ok (.aload_n 0, 1) := by decide +kernel
theorem dX4_prepare_148 : decode cX4_prepare 148 = .ok (.getfield 37, 3) := by decide +kernel
theorem dX4_prepare_151 : decode cX4_prepare 151 = .ok (.getfield 176, 3) := by decide +kernel
theorem dX4_prepare_154 : decode cX4_prepare 154 = .ok (.iload_n 2, 1) := by decide +kernel
theorem dX4_prepare_155 : decode cX4_prepare 155 = .ok (.iaload, 1) := by decide +kernel
theorem dX4_prepare_156 : decode cX4_prepare 156 = .ok (.aload_n 0, 1) := by decide +kernel
theorem dX4_prepare_157 : decode cX4_prepare 157 = .ok (.getfield 37, 3) := by decide +kernel
theorem dX4_prepare_160 : decode cX4_prepare 160 = .ok (.getfield 114, 3) := by decide +kernel
theorem dX4_prepare_163 : decode cX4_prepare 163 = .ok (.if_icmp .gt 15, 3) := by decide +kernel
theorem dX4_prepare_166 : decode cX4_prepare 166 = .ok (.aload_n 0, 1) := by decide +kernel
theorem dX4_prepare_167 : decode cX4_prepare 167 = .ok (.dup, 1) := by decide +kernel
theorem dX4_prepare_168 : decode cX4_prepare 168 = .ok (.getfield 170, 3) := by decide +kernel
theorem dX4_prepare_171 : decode cX4_prepare 171 = .ok (.iconst 1, 1) := by decide +kernel
theorem dX4_prepare_172 : decode cX4_prepare 172 = .ok (.iload_n 2, 1) := by decide +kernel
theorem dX4_prepare_173 : decode cX4_prepare 173 = .ok (.ishl, 1) := by decide +kernel
theorem dX4_prepare_174 : decode cX4_prepare 174 = .ok (.ior, 1) := by decide +kernel
theorem dX4_prepare_175 : decode cX4_prepare 175 = .ok (.putfield 170, 3) := by decide +kernel
theorem dX4_prepare_178 : decode cX4_prepare 178 = .ok (.iinc 2 1, 3) := by decide +kernel
theorem dX4_prepare_181 : decode cX4_prepare 181 = .ok (.goto (-164), 3) := by decide +kernel
theorem dX4_prepare_184 : decode cX4_prepare 184 = .ok (.iconst 0, 1) := by decide +kernel
theorem dX4_prepare_185 : decode cX4_prepare 185 = .ok (.istore_n 2, 1) := by decide +kernel
theorem dX4_prepare_186 : decode cX4_prepare 186 = .ok (.iload_n 2, 1) := by decide +kernel
theorem dX4_prepare_187 : decode cX4_prepare 187 = .ok (.bipush 96, 2) := by decide +kernel
theorem dX4_prepare_189 : decode cX4_prepare 189 = .ok (.if_icmp .gt 20, 3) := by decide +kernel
theorem dX4_prepare_192 : decode cX4_prepare 192 = .ok (.aload_n 0, 1) := by decide +kernel
theorem dX4_prepare_193 : decode cX4_prepare 193 = .ok (.getfield 22, 3) := by decide +kernel
theorem dX4_prepare_196 : decode cX4_prepare 196 = .ok (.iload_n 2, 1) := by decide +kernel
theorem dX4_prepare_197 : decode cX4_prepare 197 = .ok (.aload_n 0, 1) := by decide +kernel
theorem dX4_prepare_198 : decode cX4_prepare 198 = .ok (.iload_n 2, 1) := by decide +kernel
theorem dX4_prepare_199 : decode cX4_prepare 199 = .ok (.invokevirtual 179, 3) := by decide +kernel
theorem dX4_prepare_202 : decode cX4_prepare 202 = .ok (.iastore, 1) := by decide +kernel
theorem dX4_prepare_203 : decode cX4_prepare 203 = .ok (.iinc 2 1, 3) := by decide +kernel
theorem dX4_prepare_206 : decode cX4_prepare 206 = .ok (.goto (-20), 3) := by decide +kernel
theorem dX4_prepare_209 : decode cX4_prepare 209 = .ok (.aload_n 0, 1) := by decide +kernel
theorem dX4_prepare_210 : decode cX4_prepare 210 = .ok (.invokevirtual 182, 3) := by decide +kernel
theorem dX4_prepare_213 : decode cX4_prepare 213 = .ok (.return_, 1) := by decide +kernel
theorem dX4_linksLeaving_0 : decode cX4_linksLeaving 0 = .ok (.iconst 0, 1) := by decide +kernel
theorem dX4_linksLeaving_1 : decode cX4_linksLeaving 1 = .ok (.istore_n 2, 1) := by decide +kernel
theorem dX4_linksLeaving_2 : decode cX4_linksLeaving 2 = .ok (.iconst 0, 1) := by decide +kernel
theorem dX4_linksLeaving_3 : decode cX4_linksLeaving 3 = .ok (.istore_n 3, 1) := by decide +kernel
theorem dX4_linksLeaving_4 : decode cX4_linksLeaving 4 = .ok (.iload_n 3, 1) := by decide +kernel
theorem dX4_linksLeaving_5 : decode cX4_linksLeaving 5 = .ok (.aload_n 0, 1) := by decide +kernel
theorem dX4_linksLeaving_6 : decode cX4_linksLeaving 6 = .ok (.getfield 33, 3) := by decide +kernel
theorem dX4_linksLeaving_9 : decode cX4_linksLeaving 9 = .ok (.getfield 138, 3) := by decide +kernel
theorem dX4_linksLeaving_12 : decode cX4_linksLeaving 12 = .ok (.if_icmp .ge 48, 3) := by decide +kernel
theorem dX4_linksLeaving_15 : decode cX4_linksLeaving 15 = .ok (.aload_n 0, 1) := by decide +kernel
theorem dX4_linksLeaving_16 : decode cX4_linksLeaving 16 = .ok (.getfield 33, 3) := by decide +kernel
theorem dX4_linksLeaving_19 : decode cX4_linksLeaving 19 = .ok (.iload_n 3, 1) := by decide +kernel
theorem dX4_linksLeaving_20 : decode cX4_linksLeaving 20 = .ok (.iload_n 1, 1) := by decide +kernel
theorem dX4_linksLeaving_21 : decode cX4_linksLeaving 21 = .ok (.invokevirtual 185, 3) := by decide +kernel
theorem dX4_linksLeaving_24 : decode cX4_linksLeaving 24 = .ok (.ifCond .eq 30, 3) := by decide +kernel
theorem dX4_linksLeaving_27 : decode cX4_linksLeaving 27 = .ok (.iload_n 1, 1) := by decide +kernel
theorem dX4_linksLeaving_28 : decode cX4_linksLeaving 28 = .ok (.aload_n 0, 1) := by decide +kernel
theorem dX4_linksLeaving_29 : decode cX4_linksLeaving 29 = .ok (.getfield 33, 3) := by decide +kernel
theorem dX4_linksLeaving_32 : decode cX4_linksLeaving 32 = .ok (.getfield 150, 3) := by decide +kernel
theorem dX4_linksLeaving_35 : decode cX4_linksLeaving 35 = .ok (.iload_n 3, 1) := by decide +kernel
theorem dX4_linksLeaving_36 : decode cX4_linksLeaving 36 = .ok (.iaload, 1) := by decide +kernel
theorem dX4_linksLeaving_37 : decode cX4_linksLeaving 37 = .ok (.iadd, 1) := by decide +kernel
theorem dX4_linksLeaving_38 : decode cX4_linksLeaving 38 = .ok (.aload_n 0, 1) := by decide +kernel
theorem dX4_linksLeaving_39 : decode cX4_linksLeaving 39 = .ok (.getfield 37, 3) := by decide +kernel
theorem dX4_linksLeaving_42 : decode cX4_linksLeaving 42 = .ok (.getfield 114, 3) := by decide +kernel
theorem dX4_linksLeaving_45 : decode cX4_linksLeaving 45 = .ok (.if_icmp .gt 9, 3) := by decide +kernel
theorem dX4_linksLeaving_48 : decode cX4_linksLeaving 48 = .ok (.iload_n 2, 1) := by decide +kernel
theorem dX4_linksLeaving_49 : decode cX4_linksLeaving 49 = .ok (.iconst 1, 1) := by decide +kernel
theorem dX4_linksLeaving_50 : decode cX4_linksLeaving 50 = .ok (.iload_n 3, 1) := by decide +kernel
theorem dX4_linksLeaving_51 : decode cX4_linksLeaving 51 = .ok (.ishl, 1) := by decide +kernel
theorem dX4_linksLeaving_52 : decode cX4_linksLeaving 52 = .ok (.ior, 1) := by decide +kernel
theorem dX4_linksLeaving_53 : decode cX4_linksLeaving 53 = .ok (.istore_n 2, 1) := by decide +kernel
theorem dX4_linksLeaving_54 : decode cX4_linksLeaving 54 = .ok (.iinc 3 1, 3) := by decide +kernel
theorem dX4_linksLeaving_57 : decode cX4_linksLeaving 57 = .ok (.goto (-53), 3) := by decide +kernel
theorem dX4_linksLeaving_60 : decode cX4_linksLeaving 60 = .ok (.iload_n 2, 1) := by decide +kernel
theorem dX4_linksLeaving_61 : decode cX4_linksLeaving 61 = .ok (.ireturn, 1) := by decide +kernel
theorem dX4_listCells_0 : decode cX4_listCells 0 = .ok (.aload_n 0, 1) := by decide +kernel
theorem dX4_listCells_1 : decode cX4_listCells 1 = .ok (.iconst 0, 1) := by decide +kernel
theorem dX4_listCells_2 : decode cX4_listCells 2 = .ok (.putfield 121, 3) := by decide +kernel
theorem dX4_listCells_5 : decode cX4_listCells 5 = .ok (.iconst 0, 1) := by decide +kernel
theorem dX4_listCells_6 : decode cX4_listCells 6 = .ok (.istore_n 1, 1) := by decide +kernel
theorem dX4_listCells_7 : decode cX4_listCells 7 = .ok (.iload_n 1, 1) := by decide +kernel
theorem dX4_listCells_8 : decode cX4_listCells 8 = .ok (.aload_n 0, 1) := by decide +kernel
theorem dX4_listCells_9 : decode cX4_listCells 9 = .ok (.getfield 33, 3) := by decide +kernel
theorem dX4_listCells_12 : decode cX4_listCells 12 = .ok (.getfield 188, 3) := by decide +kernel
theorem dX4_listCells_15 : decode cX4_listCells 15 = .ok (.if_icmp .ge 78, 3) := by decide +kernel
theorem dX4_listCells_18 : decode cX4_listCells 18 = .ok (.aload_n 0, 1) := by decide +kernel
theorem dX4_listCells_19 : decode cX4_listCells 19 = .ok (.getfield 164, 3) := by decide +kernel
theorem dX4_listCells_22 : decode cX4_listCells 22 = .ok (.istore_n 2, 1) := by decide +kernel
theorem dX4_listCells_23 : decode cX4_listCells 23 = .ok (.iload_n 2, 1) := by decide +kernel
theorem dX4_listCells_24 : decode cX4_listCells 24 = .ok (.ifCond .lt 63, 3) := by decide +kernel
theorem dX4_listCells_27 : decode cX4_listCells 27 = .ok (.iconst 0, 1) := by decide +kernel
theorem dX4_listCells_28 : decode cX4_listCells 28 = .ok (.istore_n 3, 1) := by decide +kernel
theorem dX4_listCells_29 : decode cX4_listCells 29 = .ok (.iload_n 3, 1) := by decide +kernel
theorem dX4_listCells_30 : decode cX4_listCells 30 = .ok (.iconst 1, 1) := by decide +kernel
theorem dX4_listCells_31 : decode cX4_listCells 31 = .ok (.aload_n 0, 1) := by decide +kernel
theorem dX4_listCells_32 : decode cX4_listCells 32 = .ok (.getfield 167, 3) := by decide +kernel
theorem dX4_listCells_35 : decode cX4_listCells 35 = .ok (.ishl, 1) := by decide +kernel
theorem dX4_listCells_36 : decode cX4_listCells 36 = .ok (.if_icmp .ge 45, 3) := by decide +kernel
theorem dX4_listCells_39 : decode cX4_listCells 39 = .ok (.aload_n 0, 1) := by decide +kernel
theorem dX4_listCells_40 : decode cX4_listCells 40 = .ok (.getfield 121, 3) := by decide +kernel
theorem dX4_listCells_43 : decode cX4_listCells 43 = .ok (.sipush 256, 3) := by decide +kernel
theorem dX4_listCells_46 : decode cX4_listCells 46 = .ok (.if_icmp .ge 35, 3) := by decide +kernel
theorem dX4_listCells_49 : decode cX4_listCells 49 = .ok (.aload_n 0, 1) := by decide +kernel
theorem dX4_listCells_50 : decode cX4_listCells 50 = .ok (.getfield 18, 3) := by decide +kernel
theorem dX4_listCells_53 : decode cX4_listCells 53 = .ok (.aload_n 0, 1) := by decide +kernel
theorem dX4_listCells_54 : decode cX4_listCells 54 = .ok (.getfield 121, 3) := by decide +kernel
theorem dX4_listCells_57 : decode cX4_listCells 57 = .ok (.iconst 0, 1) := by decide +kernel
theorem dX4_listCells_58 : decode cX4_listCells 58 = .ok (.iload_n 1, 1) := by decide +kernel
theorem dX4_listCells_59 : decode cX4_listCells 59 = .ok (.iload_n 2, 1) := by decide +kernel
theorem dX4_listCells_60 : decode cX4_listCells 60 = .ok (.iload_n 3, 1) := by decide +kernel
theorem dX4_listCells_61 : decode cX4_listCells 61 = .ok (.invokestatic 191, 3) := by decide +kernel
theorem dX4_listCells_64 : decode cX4_listCells 64 = .ok (.iastore, 1) := by decide +kernel
theorem dX4_listCells_65 : decode cX4_listCells 65 = .ok (.aload_n 0, 1) := by decide +kernel
theorem dX4_listCells_66 : decode cX4_listCells 66 = .ok (.dup, 1) := by decide +kernel
theorem dX4_listCells_67 : decode cX4_listCells 67 = .ok (.getfield 121, 3) := by decide +kernel
theorem dX4_listCells_70 : decode cX4_listCells 70 = .ok (.iconst 1, 1) := by decide +kernel
theorem dX4_listCells_71 : decode cX4_listCells 71 = .ok (.iadd, 1) := by decide +kernel
theorem dX4_listCells_72 : decode cX4_listCells 72 = .ok (.putfield 121, 3) := by decide +kernel
theorem dX4_listCells_75 : decode cX4_listCells 75 = .ok (.iinc 3 1, 3) := by decide +kernel
theorem dX4_listCells_78 : decode cX4_listCells 78 = .ok (.goto (-49), 3) := by decide +kernel
theorem dX4_listCells_81 : decode cX4_listCells 81 = .ok (.iinc 2 (-1), 3) := by decide +kernel
theorem dX4_listCells_84 : decode cX4_listCells 84 = .ok (.goto (-61), 3) := by decide +kernel
theorem dX4_listCells_87 : decode cX4_listCells 87 = .ok (.iinc 1 1, 3) := by decide +kernel
theorem dX4_listCells_90 : decode cX4_listCells 90 = .ok (.goto (-83), 3) := by decide +kernel
theorem dX4_listCells_93 : decode cX4_listCells 93 = .ok (.return_, 1) := by decide +kernel
theorem dX4_fill_0 : decode cX4_fill 0 = .ok (.aload_n 0, 1) := by decide +kernel
theorem dX4_fill_1 : decode cX4_fill 1 = .ok (.iload_n 1, 1) := by decide +kernel
theorem dX4_fill_2 : decode cX4_fill 2 = .ok (.putfield 194, 3) := by decide +kernel
theorem dX4_fill_5 : decode cX4_fill 5 = .ok (.aload_n 0, 1) := by decide +kernel
theorem dX4_fill_6 : decode cX4_fill 6 = .ok (.getfield 37, 3) := by decide +kernel
theorem dX4_fill_9 : decode cX4_fill 9 = .ok (.getfield 114, 3) := by decide +kernel
theorem dX4_fill_12 : decode cX4_fill 12 = .ok (.istore_n 2, 1) := by decide +kernel
theorem dX4_fill_13 : decode cX4_fill 13 = .ok (.iload_n 2, 1) := by decide +kernel
theorem dX4_fill_14 : decode cX4_fill 14 = .ok (.ifCond .lt 82, 3) := by decide +kernel
theorem dX4_fill_17 : decode cX4_fill 17 = .ok (.aload_n 0, 1) := by decide +kernel
theorem dX4_fill_18 : decode cX4_fill 18 = .ok (.iload_n 2, 1) := by decide +kernel
theorem dX4_fill_19 : decode cX4_fill 19 = .ok (.invokevirtual 117, 3) := by decide +kernel
theorem dX4_fill_22 : decode cX4_fill 22 = .ok (.istore_n 3, 1) := by decide +kernel
theorem dX4_fill_23 : decode cX4_fill 23 = .ok (.iconst 0, 1) := by decide +kernel
theorem dX4_fill_24 : decode cX4_fill 24 = .ok (.istore 4, 2) := by decide +kernel
theorem dX4_fill_26 : decode cX4_fill 26 = .ok (.iload 4, 2) := by decide +kernel
theorem dX4_fill_28 : decode cX4_fill 28 = .ok (.iload_n 3, 1) := by decide +kernel
theorem dX4_fill_29 : decode cX4_fill 29 = .ok (.if_icmp .gt 61, 3) := by decide +kernel
theorem dX4_fill_32 : decode cX4_fill 32 = .ok (.iconst 0, 1) := by decide +kernel
theorem dX4_fill_33 : decode cX4_fill 33 = .ok (.istore 5, 2) := by decide +kernel
theorem dX4_fill_35 : decode cX4_fill 35 = .ok (.iload 5, 2) := by decide +kernel
theorem dX4_fill_37 : decode cX4_fill 37 = .ok (.aload_n 0, 1) := by decide +kernel
theorem dX4_fill_38 : decode cX4_fill 38 = .ok (.getfield 121, 3) := by decide +kernel
theorem dX4_fill_41 : decode cX4_fill 41 = .ok (.if_icmp .ge 43, 3) := by decide +kernel
theorem dX4_fill_44 : decode cX4_fill 44 = .ok (.iload 4, 2) := by decide +kernel
theorem dX4_fill_46 : decode cX4_fill 46 = .ok (.sipush 256, 3) := by decide +kernel
theorem dX4_fill_49 : decode cX4_fill 49 = .ok (.imul, 1) := by decide +kernel
theorem dX4_fill_50 : decode cX4_fill 50 = .ok (.aload_n 0, 1) := by decide +kernel
theorem dX4_fill_51 : decode cX4_fill 51 = .ok (.getfield 18, 3) := by decide +kernel
theorem dX4_fill_54 : decode cX4_fill 54 = .ok (.iload 5, 2) := by decide +kernel
theorem dX4_fill_56 : decode cX4_fill 56 = .ok (.iaload, 1) := by decide +kernel
theorem dX4_fill_57 : decode cX4_fill 57 = .ok (.iadd, 1) := by decide +kernel
theorem dX4_fill_58 : decode cX4_fill 58 = .ok (.istore 6, 2) := by decide +kernel
theorem dX4_fill_60 : decode cX4_fill 60 = .ok (.aload_n 0, 1) := by decide +kernel
theorem dX4_fill_61 : decode cX4_fill 61 = .ok (.getfield 41, 3) := by decide +kernel
theorem dX4_fill_64 : decode cX4_fill 64 = .ok (.iload_n 2, 1) := by decide +kernel
theorem dX4_fill_65 : decode cX4_fill 65 = .ok (.iload 6, 2) := by decide +kernel
theorem dX4_fill_67 : decode cX4_fill 67 = .ok (.invokestatic 124, 3) := by decide +kernel
theorem dX4_fill_70 : decode cX4_fill 70 = .ok (.aload_n 0, 1) := by decide +kernel
theorem dX4_fill_71 : decode cX4_fill 71 = .ok (.iload_n 2, 1) := by decide +kernel
theorem dX4_fill_72 : decode cX4_fill 72 = .ok (.iload 6, 2) := by decide +kernel
theorem dX4_fill_74 : decode cX4_fill 74 = .ok (.invokevirtual 197, 3) := by decide +kernel
theorem dX4_fill_77 : decode cX4_fill 77 = .ok (.iastore, 1) := by decide +kernel
theorem dX4_fill_78 : decode cX4_fill 78 = .ok (.iinc 5 1, 3) := by decide +kernel
theorem dX4_fill_81 : decode cX4_fill 81 = .ok (.goto (-46), 3) := by decide +kernel
theorem dX4_fill_84 : decode cX4_fill 84 = .ok (.iinc 4 1, 3) := by decide +kernel
theorem dX4_fill_87 : decode cX4_fill 87 = .ok (.goto (-61), 3) := by decide +kernel
theorem dX4_fill_90 : decode cX4_fill 90 = .ok (.iinc 2 (-1), 3) := by decide +kernel
theorem dX4_fill_93 : decode cX4_fill 93 = .ok (.goto (-80), 3) := by decide +kernel
theorem dX4_fill_96 : decode cX4_fill 96 = .ok (.return_, 1) := by decide +kernel
theorem dX4_valueOf_0 : decode cX4_valueOf 0 = .ok (.iload_n 1, 1) := by decide +kernel
theorem dX4_valueOf_1 : decode cX4_valueOf 1 = .ok (.aload_n 0, 1) := by decide +kernel
theorem dX4_valueOf_2 : decode cX4_valueOf 2 = .ok (.getfield 37, 3) := by decide +kernel
theorem dX4_valueOf_5 : decode cX4_valueOf 5 = .ok (.getfield 114, 3) := by decide +kernel
theorem dX4_valueOf_8 : decode cX4_valueOf 8 = .ok (.if_icmp .ne 11, 3) := by decide +kernel
theorem dX4_valueOf_11 : decode cX4_valueOf 11 = .ok (.aload_n 0, 1) := by decide +kernel
theorem dX4_valueOf_12 : decode cX4_valueOf 12 = .ok (.iload_n 2, 1) := by decide +kernel
theorem dX4_valueOf_13 : decode cX4_valueOf 13 = .ok (.invokevirtual 200, 3) := by decide +kernel
theorem dX4_valueOf_16 : decode cX4_valueOf 16 = .ok (.goto 9, 3) := by decide +kernel
theorem dX4_valueOf_19 : decode cX4_valueOf 19 = .ok (.aload_n 0, 1) := by decide +kernel
theorem dX4_valueOf_20 : decode cX4_valueOf 20 = .ok (.iload_n 1, 1) := by decide +kernel
theorem dX4_valueOf_21 : decode cX4_valueOf 21 = .ok (.iload_n 2, 1) := by decide +kernel
theorem dX4_valueOf_22 : decode cX4_valueOf 22 = .ok (.invokevirtual 203, 3) := by decide +kernel
theorem dX4_valueOf_25 : decode cX4_valueOf 25 = .ok (.istore_n 3, 1) := by decide +kernel
theorem dX4_valueOf_26 : decode cX4_valueOf 26 = .ok (.iconst 0, 1) := by decide +kernel
theorem dX4_valueOf_27 : decode cX4_valueOf 27 = .ok (.istore 4, 2) := by decide +kernel
theorem dX4_valueOf_29 : decode cX4_valueOf 29 = .ok (.iload 4, 2) := by decide +kernel
theorem dX4_valueOf_31 : decode cX4_valueOf 31 = .ok (.aload_n 0, 1) := by decide +kernel
theorem dX4_valueOf_32 : decode cX4_valueOf 32 = .ok (.getfield 33, 3) := by decide +kernel
theorem dX4_valueOf_35 : decode cX4_valueOf 35 = .ok (.getfield 138, 3) := by decide +kernel
theorem dX4_valueOf_38 : decode cX4_valueOf 38 = .ok (.if_icmp .ge 46, 3) := by decide +kernel
theorem dX4_valueOf_41 : decode cX4_valueOf 41 = .ok (.aload_n 0, 1) := by decide +kernel
theorem dX4_valueOf_42 : decode cX4_valueOf 42 = .ok (.getfield 22, 3) := by decide +kernel
theorem dX4_valueOf_45 : decode cX4_valueOf 45 = .ok (.iload_n 1, 1) := by decide +kernel
theorem dX4_valueOf_46 : decode cX4_valueOf 46 = .ok (.iaload, 1) := by decide +kernel
theorem dX4_valueOf_47 : decode cX4_valueOf 47 = .ok (.iload 4, 2) := by decide +kernel
theorem dX4_valueOf_49 : decode cX4_valueOf 49 = .ok (.ishr, 1) := by decide +kernel
theorem dX4_valueOf_50 : decode cX4_valueOf 50 = .ok (.ifCond .eq 34, 3) := by decide +kernel
theorem dX4_valueOf_53 : decode cX4_valueOf 53 = .ok (.aload_n 0, 1) := by decide +kernel
theorem dX4_valueOf_54 : decode cX4_valueOf 54 = .ok (.iload 4, 2) := by decide +kernel
theorem dX4_valueOf_56 : decode cX4_valueOf 56 = .ok (.iload_n 1, 1) := by decide +kernel
theorem dX4_valueOf_57 : decode cX4_valueOf 57 = .ok (.iload_n 2, 1) := by decide +kernel
theorem dX4_valueOf_58 : decode cX4_valueOf 58 = .ok (.invokevirtual 143, 3) := by decide +kernel
theorem dX4_valueOf_61 : decode cX4_valueOf 61 = .ok (.ifCond .eq 17, 3) := by decide +kernel
theorem dX4_valueOf_64 : decode cX4_valueOf 64 = .ok (.aload_n 0, 1) := by decide +kernel
theorem dX4_valueOf_65 : decode cX4_valueOf 65 = .ok (.iload_n 3, 1) := by decide +kernel
theorem dX4_valueOf_66 : decode cX4_valueOf 66 = .ok (.aload_n 0, 1) := by decide +kernel
theorem dX4_valueOf_67 : decode cX4_valueOf 67 = .ok (.iload 4, 2) := by decide +kernel
theorem dX4_valueOf_69 : decode cX4_valueOf 69 = .ok (.iload_n 1, 1) := by decide +kernel
theorem dX4_valueOf_70 : decode cX4_valueOf 70 = .ok (.iload_n 2, 1) := by decide +kernel
theorem dX4_valueOf_71 : decode cX4_valueOf 71 = .ok (.invokevirtual 160, 3) := by decide +kernel
theorem dX4_valueOf_74 : decode cX4_valueOf 74 = .ok (.invokevirtual 206, 3) := by decide +kernel
theorem dX4_valueOf_77 : decode cX4_valueOf 77 = .ok (.istore_n 3, 1) := by decide +kernel
theorem dX4_valueOf_78 : decode cX4_valueOf 78 = .ok (.iinc 4 1, 3) := by decide +kernel
theorem dX4_valueOf_81 : decode cX4_valueOf 81 = .ok (.goto (-52), 3) := by decide +kernel
theorem dX4_valueOf_84 : decode cX4_valueOf 84 = .ok (.aload_n 0, 1) := by decide +kernel
theorem dX4_valueOf_85 : decode cX4_valueOf 85 = .ok (.iload_n 3, 1) := by decide +kernel
theorem dX4_valueOf_86 : decode cX4_valueOf 86 = .ok (.aload_n 0, 1) := by decide +kernel
theorem dX4_valueOf_87 : decode cX4_valueOf 87 = .ok (.iload_n 1, 1) := by decide +kernel
theorem dX4_valueOf_88 : decode cX4_valueOf 88 = .ok (.iload_n 2, 1) := by decide +kernel
theorem dX4_valueOf_89 : decode cX4_valueOf 89 = .ok (.invokestatic 132, 3) := by decide +kernel
theorem dX4_valueOf_92 : decode cX4_valueOf 92 = .ok (.invokevirtual 209, 3) := by decide +kernel
theorem dX4_valueOf_95 : decode cX4_valueOf 95 = .ok (.invokevirtual 212, 3) := by decide +kernel
theorem dX4_valueOf_98 : decode cX4_valueOf 98 = .ok (.istore_n 3, 1) := by decide +kernel
theorem dX4_valueOf_99 : decode cX4_valueOf 99 = .ok (.iload_n 2, 1) := by decide +kernel
theorem dX4_valueOf_100 : decode cX4_valueOf 100 = .ok (.invokestatic 215, 3) := by decide +kernel
theorem dX4_valueOf_103 : decode cX4_valueOf 103 = .ok (.istore 4, 2) := by decide +kernel
theorem dX4_valueOf_105 : decode cX4_valueOf 105 = .ok (.aload_n 0, 1) := by decide +kernel
theorem dX4_valueOf_106 : decode cX4_valueOf 106 = .ok (.getfield 194, 3) := by decide +kernel
theorem dX4_valueOf_109 : decode cX4_valueOf 109 = .ok (.iconst 5, 1) := by decide +kernel
theorem dX4_valueOf_110 : decode cX4_valueOf 110 = .ok (.if_icmp .ne 47, 3) := by decide +kernel
theorem dX4_valueOf_113 : decode cX4_valueOf 113 = .ok (.iload 4, 2) := by decide +kernel
theorem dX4_valueOf_115 : decode cX4_valueOf 115 = .ok (.aload_n 0, 1) := by decide +kernel
theorem dX4_valueOf_116 : decode cX4_valueOf 116 = .ok (.getfield 164, 3) := by decide +kernel
theorem dX4_valueOf_119 : decode cX4_valueOf 119 = .ok (.if_icmp .ge 38, 3) := by decide +kernel
theorem dX4_valueOf_122 : decode cX4_valueOf 122 = .ok (.aload_n 0, 1) := by decide +kernel
theorem dX4_valueOf_123 : decode cX4_valueOf 123 = .ok (.getfield 41, 3) := by decide +kernel
theorem dX4_valueOf_126 : decode cX4_valueOf 126 = .ok (.iload_n 1, 1) := by decide +kernel
theorem dX4_valueOf_127 : decode cX4_valueOf 127 = .ok (.iload_n 2, 1) := by decide +kernel
theorem dX4_valueOf_128 : decode cX4_valueOf 128 = .ok (.iconst 4, 1) := by decide +kernel
theorem dX4_valueOf_129 : decode cX4_valueOf 129 = .ok (.iadd, 1) := by decide +kernel
theorem dX4_valueOf_130 : decode cX4_valueOf 130 = .ok (.invokestatic 124, 3) := by decide +kernel
theorem dX4_valueOf_133 : decode cX4_valueOf 133 = .ok (.iaload, 1) := by decide +kernel
theorem dX4_valueOf_134 : decode cX4_valueOf 134 = .ok (.istore 5, 2) := by decide +kernel
theorem dX4_valueOf_136 : decode cX4_valueOf 136 = .ok (.aload_n 0, 1) := by decide +kernel
theorem dX4_valueOf_137 : decode cX4_valueOf 137 = .ok (.iload_n 3, 1) := by decide +kernel
theorem dX4_valueOf_138 : decode cX4_valueOf 138 = .ok (.aload_n 0, 1) := by decide +kernel
theorem dX4_valueOf_139 : decode cX4_valueOf 139 = .ok (.iload 5, 2) := by decide +kernel
theorem dX4_valueOf_141 : decode cX4_valueOf 141 = .ok (.iconst 1, 1) := by decide +kernel
theorem dX4_valueOf_142 : decode cX4_valueOf 142 = .ok (.aload_n 0, 1) := by decide +kernel
theorem dX4_valueOf_143 : decode cX4_valueOf 143 = .ok (.getfield 27, 3) := by decide +kernel
theorem dX4_valueOf_146 : decode cX4_valueOf 146 = .ok (.iload 4, 2) := by decide +kernel
theorem dX4_valueOf_148 : decode cX4_valueOf 148 = .ok (.iaload, 1) := by decide +kernel
theorem dX4_valueOf_149 : decode cX4_valueOf 149 = .ok (.ishl, 1) := by decide +kernel
theorem dX4_valueOf_150 : decode cX4_valueOf 150 = .ok (.invokevirtual 212, 3) := by decide +kernel
theorem dX4_valueOf_153 : decode cX4_valueOf 153 = .ok (.invokevirtual 206, 3) := by decide +kernel
theorem dX4_valueOf_156 : decode cX4_valueOf 156 = .ok (.istore_n 3, 1) := by decide +kernel
theorem dX4_valueOf_157 : decode cX4_valueOf 157 = .ok (.iload_n 3, 1) := by decide +kernel
theorem dX4_valueOf_158 : decode cX4_valueOf 158 = .ok (.ireturn, 1) := by decide +kernel
theorem dX4_valueAtEnd_0 : decode cX4_valueAtEnd 0 = .ok (.iload_n 1, 1) := by decide +kernel
theorem dX4_valueAtEnd_1 : decode cX4_valueAtEnd 1 = .ok (.invokestatic 215, 3) := by decide +kernel
theorem dX4_valueAtEnd_4 : decode cX4_valueAtEnd 4 = .ok (.aload_n 0, 1) := by decide +kernel
theorem dX4_valueAtEnd_5 : decode cX4_valueAtEnd 5 = .ok (.getfield 164, 3) := by decide +kernel
theorem dX4_valueAtEnd_8 : decode cX4_valueAtEnd 8 = .ok (.if_icmp .ge 5, 3) := by decide +kernel
theorem dX4_valueAtEnd_11 : decode cX4_valueAtEnd 11 = .ok (.iconst (-1), 1) := by decide +kernel
theorem dX4_valueAtEnd_12 : decode cX4_valueAtEnd 12 = .ok (.ireturn, 1) := by decide +kernel
theorem dX4_valueAtEnd_13 : decode cX4_valueAtEnd 13 = .ok (.iconst 0, 1) := by decide +kernel
theorem dX4_valueAtEnd_14 : decode cX4_valueAtEnd 14 = .ok (.istore_n 2, 1) := by decide +kernel
theorem dX4_valueAtEnd_15 : decode cX4_valueAtEnd 15 = .ok (.iconst 0, 1) := by decide +kernel
theorem dX4_valueAtEnd_16 : decode cX4_valueAtEnd 16 = .ok (.istore_n 3, 1) := by decide +kernel
theorem dX4_valueAtEnd_17 : decode cX4_valueAtEnd 17 = .ok (.iload_n 3, 1) := by decide +kernel
theorem dX4_valueAtEnd_18 : decode cX4_valueAtEnd 18 = .ok (.aload_n 0, 1) := by decide +kernel
theorem dX4_valueAtEnd_19 : decode cX4_valueAtEnd 19 = .ok (.getfield 167, 3) := by decide +kernel
theorem dX4_valueAtEnd_22 : decode cX4_valueAtEnd 22 = .ok (.if_icmp .ge 28, 3) := by decide +kernel
theorem dX4_valueAtEnd_25 : decode cX4_valueAtEnd 25 = .ok (.iload_n 1, 1) := by decide +kernel
theorem dX4_valueAtEnd_26 : decode cX4_valueAtEnd 26 = .ok (.iload_n 3, 1) := by decide +kernel
theorem dX4_valueAtEnd_27 : decode cX4_valueAtEnd 27 = .ok (.ishr, 1) := by decide +kernel
theorem dX4_valueAtEnd_28 : decode cX4_valueAtEnd 28 = .ok (.iconst 1, 1) := by decide +kernel
theorem dX4_valueAtEnd_29 : decode cX4_valueAtEnd 29 = .ok (.iand, 1) := by decide +kernel
theorem dX4_valueAtEnd_30 : decode cX4_valueAtEnd 30 = .ok (.ifCond .ne 14, 3) := by decide +kernel
theorem dX4_valueAtEnd_33 : decode cX4_valueAtEnd 33 = .ok (.iload_n 2, 1) := by decide +kernel
theorem dX4_valueAtEnd_34 : decode cX4_valueAtEnd 34 = .ok (.iconst 1, 1) := by decide +kernel
theorem dX4_valueAtEnd_35 : decode cX4_valueAtEnd 35 = .ok (.aload_n 0, 1) := by decide +kernel
theorem dX4_valueAtEnd_36 : decode cX4_valueAtEnd 36 = .ok (.getfield 30, 3) := by decide +kernel
theorem dX4_valueAtEnd_39 : decode cX4_valueAtEnd 39 = .ok (.iload_n 3, 1) := by decide +kernel
theorem dX4_valueAtEnd_40 : decode cX4_valueAtEnd 40 = .ok (.iaload, 1) := by decide +kernel
theorem dX4_valueAtEnd_41 : decode cX4_valueAtEnd 41 = .ok (.ishl, 1) := by decide +kernel
theorem dX4_valueAtEnd_42 : decode cX4_valueAtEnd 42 = .ok (.ior, 1) := by decide +kernel
theorem dX4_valueAtEnd_43 : decode cX4_valueAtEnd 43 = .ok (.istore_n 2, 1) := by decide +kernel
theorem dX4_valueAtEnd_44 : decode cX4_valueAtEnd 44 = .ok (.iinc 3 1, 3) := by decide +kernel
theorem dX4_valueAtEnd_47 : decode cX4_valueAtEnd 47 = .ok (.goto (-30), 3) := by decide +kernel
theorem dX4_valueAtEnd_50 : decode cX4_valueAtEnd 50 = .ok (.aload_n 0, 1) := by decide +kernel
theorem dX4_valueAtEnd_51 : decode cX4_valueAtEnd 51 = .ok (.aload_n 0, 1) := by decide +kernel
theorem dX4_valueAtEnd_52 : decode cX4_valueAtEnd 52 = .ok (.getfield 194, 3) := by decide +kernel
theorem dX4_valueAtEnd_55 : decode cX4_valueAtEnd 55 = .ok (.iconst 4, 1) := by decide +kernel
theorem dX4_valueAtEnd_56 : decode cX4_valueAtEnd 56 = .ok (.if_icmp .ne 7, 3) := by decide +kernel
theorem dX4_valueAtEnd_59 : decode cX4_valueAtEnd 59 = .ok (.iconst 1, 1) := by decide +kernel
theorem dX4_valueAtEnd_60 : decode cX4_valueAtEnd 60 = .ok (.goto 4, 3) := by decide +kernel
theorem dX4_valueAtEnd_63 : decode cX4_valueAtEnd 63 = .ok (.iconst 0, 1) := by decide +kernel
theorem dX4_valueAtEnd_64 : decode cX4_valueAtEnd 64 = .ok (.iload_n 2, 1) := by decide +kernel
theorem dX4_valueAtEnd_65 : decode cX4_valueAtEnd 65 = .ok (.invokevirtual 212, 3) := by decide +kernel
theorem dX4_valueAtEnd_68 : decode cX4_valueAtEnd 68 = .ok (.ireturn, 1) := by decide +kernel
theorem dX4_valueByStay_0 : decode cX4_valueByStay 0 = .ok (.aload_n 0, 1) := by decide +kernel
theorem dX4_valueByStay_1 : decode cX4_valueByStay 1 = .ok (.iload_n 1, 1) := by decide +kernel
theorem dX4_valueByStay_2 : decode cX4_valueByStay 2 = .ok (.iload_n 2, 1) := by decide +kernel
theorem dX4_valueByStay_3 : decode cX4_valueByStay 3 = .ok (.invokevirtual 135, 3) := by decide +kernel
theorem dX4_valueByStay_6 : decode cX4_valueByStay 6 = .ok (.istore_n 3, 1) := by decide +kernel
theorem dX4_valueByStay_7 : decode cX4_valueByStay 7 = .ok (.iload_n 3, 1) := by decide +kernel
theorem dX4_valueByStay_8 : decode cX4_valueByStay 8 = .ok (.ifCond .ge 7, 3) := by decide +kernel
theorem dX4_valueByStay_11 : decode cX4_valueByStay 11 = .ok (.iconst (-1), 1) := by decide +kernel
theorem dX4_valueByStay_12 : decode cX4_valueByStay 12 = .ok (.goto 15, 3) := by decide +kernel
theorem dX4_valueByStay_15 : decode cX4_valueByStay 15 = .ok (.aload_n 0, 1) := by decide +kernel
theorem dX4_valueByStay_16 : decode cX4_valueByStay 16 = .ok (.getfield 41, 3) := by decide +kernel
theorem dX4_valueByStay_19 : decode cX4_valueByStay 19 = .ok (.iload_n 1, 1) := by decide +kernel
theorem dX4_valueByStay_20 : decode cX4_valueByStay 20 = .ok (.iconst 1, 1) := by decide +kernel
theorem dX4_valueByStay_21 : decode cX4_valueByStay 21 = .ok (.iadd, 1) := by decide +kernel
theorem dX4_valueByStay_22 : decode cX4_valueByStay 22 = .ok (.iload_n 3, 1) := by decide +kernel
theorem dX4_valueByStay_23 : decode cX4_valueByStay 23 = .ok (.invokestatic 124, 3) := by decide +kernel
theorem dX4_valueByStay_26 : decode cX4_valueByStay 26 = .ok (.iaload, 1) := by decide +kernel
theorem dX4_valueByStay_27 : decode cX4_valueByStay 27 = .ok (.ireturn, 1) := by decide +kernel
theorem dX4_valueByLink_0 : decode cX4_valueByLink 0 = .ok (.aload_n 0, 1) := by decide +kernel
theorem dX4_valueByLink_1 : decode cX4_valueByLink 1 = .ok (.iload_n 1, 1) := by decide +kernel
theorem dX4_valueByLink_2 : decode cX4_valueByLink 2 = .ok (.iload_n 2, 1) := by decide +kernel
theorem dX4_valueByLink_3 : decode cX4_valueByLink 3 = .ok (.invokevirtual 147, 3) := by decide +kernel
theorem dX4_valueByLink_6 : decode cX4_valueByLink 6 = .ok (.istore 4, 2) := by decide +kernel
theorem dX4_valueByLink_8 : decode cX4_valueByLink 8 = .ok (.iload_n 3, 1) := by decide +kernel
theorem dX4_valueByLink_9 : decode cX4_valueByLink 9 = .ok (.invokestatic 215, 3) := by decide +kernel
theorem dX4_valueByLink_12 : decode cX4_valueByLink 12 = .ok (.aload_n 0, 1) := by decide +kernel
theorem dX4_valueByLink_13 : decode cX4_valueByLink 13 = .ok (.getfield 33, 3) := by decide +kernel
theorem dX4_valueByLink_16 : decode cX4_valueByLink 16 = .ok (.getfield 218, 3) := by decide +kernel
theorem dX4_valueByLink_19 : decode cX4_valueByLink 19 = .ok (.iload_n 1, 1) := by decide +kernel
theorem dX4_valueByLink_20 : decode cX4_valueByLink 20 = .ok (.iaload, 1) := by decide +kernel
theorem dX4_valueByLink_21 : decode cX4_valueByLink 21 = .ok (.iconst (-1), 1) := by decide +kernel
theorem dX4_valueByLink_22 : decode cX4_valueByLink 22 = .ok (.if_icmp .ne 7, 3) := by decide +kernel
theorem dX4_valueByLink_25 : decode cX4_valueByLink 25 = .ok (.iconst 0, 1) := by decide +kernel
theorem dX4_valueByLink_26 : decode cX4_valueByLink 26 = .ok (.goto 4, 3) := by decide +kernel
theorem dX4_valueByLink_29 : decode cX4_valueByLink 29 = .ok (.iconst 1, 1) := by decide +kernel
theorem dX4_valueByLink_30 : decode cX4_valueByLink 30 = .ok (.iadd, 1) := by decide +kernel
theorem dX4_valueByLink_31 : decode cX4_valueByLink 31 = .ok (.istore 5, 2) := by decide +kernel
theorem dX4_valueByLink_33 : decode cX4_valueByLink 33 = .ok (.aload_n 0, 1) := by decide +kernel
theorem dX4_valueByLink_34 : decode cX4_valueByLink 34 = .ok (.getfield 194, 3) := by decide +kernel
theorem dX4_valueByLink_37 : decode cX4_valueByLink 37 = .ok (.iconst 5, 1) := by decide +kernel
theorem dX4_valueByLink_38 : decode cX4_valueByLink 38 = .ok (.if_icmp .ne 23, 3) := by decide +kernel
theorem dX4_valueByLink_41 : decode cX4_valueByLink 41 = .ok (.aload_n 0, 1) := by decide +kernel
theorem dX4_valueByLink_42 : decode cX4_valueByLink 42 = .ok (.getfield 33, 3) := by decide +kernel
theorem dX4_valueByLink_45 : decode cX4_valueByLink 45 = .ok (.getfield 221, 3) := by decide +kernel
theorem dX4_valueByLink_48 : decode cX4_valueByLink 48 = .ok (.iload_n 1, 1) := by decide +kernel
theorem dX4_valueByLink_49 : decode cX4_valueByLink 49 = .ok (.iaload, 1) := by decide +kernel
theorem dX4_valueByLink_50 : decode cX4_valueByLink 50 = .ok (.iconst (-1), 1) := by decide +kernel
theorem dX4_valueByLink_51 : decode cX4_valueByLink 51 = .ok (.if_icmp .eq 10, 3) := by decide +kernel
theorem dX4_valueByLink_54 : decode cX4_valueByLink 54 = .ok (.aload_n 0, 1) := by decide +kernel
theorem dX4_valueByLink_55 : decode cX4_valueByLink 55 = .ok (.getfield 164, 3) := by decide +kernel
theorem dX4_valueByLink_58 : decode cX4_valueByLink 58 = .ok (.goto 5, 3) := by decide +kernel
theorem dX4_valueByLink_61 : decode cX4_valueByLink 61 = .ok (.iload 5, 2) := by decide +kernel
theorem dX4_valueByLink_63 : decode cX4_valueByLink 63 = .ok (.istore 6, 2) := by decide +kernel
theorem dX4_valueByLink_65 : decode cX4_valueByLink 65 = .ok (.iconst (-1), 1) := by decide +kernel
theorem dX4_valueByLink_66 : decode cX4_valueByLink 66 = .ok (.istore 7, 2) := by decide +kernel
theorem dX4_valueByLink_68 : decode cX4_valueByLink 68 = .ok (.iload 5, 2) := by decide +kernel
theorem dX4_valueByLink_70 : decode cX4_valueByLink 70 = .ok (.istore 8, 2) := by decide +kernel
theorem dX4_valueByLink_72 : decode cX4_valueByLink 72 = .ok (.iload 8, 2) := by decide +kernel
theorem dX4_valueByLink_74 : decode cX4_valueByLink 74 = .ok (.iload 6, 2) := by decide +kernel
theorem dX4_valueByLink_76 : decode cX4_valueByLink 76 = .ok (.if_icmp .gt 86, 3) := by decide +kernel
theorem dX4_valueByLink_79 : decode cX4_valueByLink 79 = .ok (.aload_n 0, 1) := by decide +kernel
theorem dX4_valueByLink_80 : decode cX4_valueByLink 80 = .ok (.iload_n 1, 1) := by decide +kernel
theorem dX4_valueByLink_81 : decode cX4_valueByLink 81 = .ok (.iload_n 2, 1) := by decide +kernel
theorem dX4_valueByLink_82 : decode cX4_valueByLink 82 = .ok (.iload_n 3, 1) := by decide +kernel
theorem dX4_valueByLink_83 : decode cX4_valueByLink 83 = .ok (.iload 8, 2) := by decide +kernel
theorem dX4_valueByLink_85 : decode cX4_valueByLink 85 = .ok (.iload 5, 2) := by decide +kernel
theorem dX4_valueByLink_87 : decode cX4_valueByLink 87 = .ok (.isub, 1) := by decide +kernel
theorem dX4_valueByLink_88 : decode cX4_valueByLink 88 = .ok (.invokevirtual 153, 3) := by decide +kernel
theorem dX4_valueByLink_91 : decode cX4_valueByLink 91 = .ok (.istore 9, 2) := by decide +kernel
theorem dX4_valueByLink_93 : decode cX4_valueByLink 93 = .ok (.iload 9, 2) := by decide +kernel
theorem dX4_valueByLink_95 : decode cX4_valueByLink 95 = .ok (.ifCond .lt 38, 3) := by decide +kernel
theorem dX4_valueByLink_98 : decode cX4_valueByLink 98 = .ok (.aload_n 0, 1) := by decide +kernel
theorem dX4_valueByLink_99 : decode cX4_valueByLink 99 = .ok (.iload 7, 2) := by decide +kernel
theorem dX4_valueByLink_101 : decode cX4_valueByLink 101 = .ok (.aload_n 0, 1) := by decide +kernel
theorem dX4_valueByLink_102 : decode cX4_valueByLink 102 = .ok (.aload_n 0, 1) := by decide +kernel
theorem dX4_valueByLink_103 : decode cX4_valueByLink 103 = .ok (.getfield 41, 3) := by decide +kernel
theorem dX4_valueByLink_106 : decode cX4_valueByLink 106 = .ok (.iload_n 2, 1) := by decide +kernel
theorem dX4_valueByLink_107 : decode cX4_valueByLink 107 = .ok (.aload_n 0, 1) := by decide +kernel
theorem dX4_valueByLink_108 : decode cX4_valueByLink 108 = .ok (.getfield 33, 3) := by decide +kernel
theorem dX4_valueByLink_111 : decode cX4_valueByLink 111 = .ok (.getfield 150, 3) := by decide +kernel
theorem dX4_valueByLink_114 : decode cX4_valueByLink 114 = .ok (.iload_n 1, 1) := by decide +kernel
theorem dX4_valueByLink_115 : decode cX4_valueByLink 115 = .ok (.iaload, 1) := by decide +kernel
theorem dX4_valueByLink_116 : decode cX4_valueByLink 116 = .ok (.iadd, 1) := by decide +kernel
theorem dX4_valueByLink_117 : decode cX4_valueByLink 117 = .ok (.iload 9, 2) := by decide +kernel
theorem dX4_valueByLink_119 : decode cX4_valueByLink 119 = .ok (.invokestatic 124, 3) := by decide +kernel
theorem dX4_valueByLink_122 : decode cX4_valueByLink 122 = .ok (.iaload, 1) := by decide +kernel
theorem dX4_valueByLink_123 : decode cX4_valueByLink 123 = .ok (.iload 4, 2) := by decide +kernel
theorem dX4_valueByLink_125 : decode cX4_valueByLink 125 = .ok (.invokevirtual 212, 3) := by decide +kernel
theorem dX4_valueByLink_128 : decode cX4_valueByLink 128 = .ok (.invokevirtual 206, 3) := by decide +kernel
theorem dX4_valueByLink_131 : decode cX4_valueByLink 131 = .ok (.istore 7, 2) := by decide +kernel
theorem dX4_valueByLink_133 : decode cX4_valueByLink 133 = .ok (.iload 8, 2) := by decide +kernel
theorem dX4_valueByLink_135 : decode cX4_valueByLink 135 = .ok (.aload_n 0, 1) := by decide +kernel
theorem dX4_valueByLink_136 : decode cX4_valueByLink 136 = .ok (.getfield 164, 3) := by decide +kernel
theorem dX4_valueByLink_139 : decode cX4_valueByLink 139 = .ok (.if_icmp .ge 17, 3) := by decide +kernel
theorem dX4_valueByLink_142 : decode cX4_valueByLink 142 = .ok (.iload 4, 2) := by decide +kernel
theorem dX4_valueByLink_144 : decode cX4_valueByLink 144 = .ok (.iconst 1, 1) := by decide +kernel
theorem dX4_valueByLink_145 : decode cX4_valueByLink 145 = .ok (.aload_n 0, 1) := by decide +kernel
theorem dX4_valueByLink_146 : decode cX4_valueByLink 146 = .ok (.getfield 27, 3) := by decide +kernel
theorem dX4_valueByLink_149 : decode cX4_valueByLink 149 = .ok (.iload 8, 2) := by decide +kernel
theorem dX4_valueByLink_151 : decode cX4_valueByLink 151 = .ok (.iaload, 1) := by decide +kernel
theorem dX4_valueByLink_152 : decode cX4_valueByLink 152 = .ok (.ishl, 1) := by decide +kernel
theorem dX4_valueByLink_153 : decode cX4_valueByLink 153 = .ok (.ior, 1) := by decide +kernel
theorem dX4_valueByLink_154 : decode cX4_valueByLink 154 = .ok (.istore 4, 2) := by decide +kernel
theorem dX4_valueByLink_156 : decode cX4_valueByLink 156 = .ok (.iinc 8 1, 3) := by decide +kernel
theorem dX4_valueByLink_159 : decode cX4_valueByLink 159 = .ok (.goto (-87), 3) := by decide +kernel
theorem dX4_valueByLink_162 : decode cX4_valueByLink 162 = .ok (.iload 7, 2) := by decide +kernel
theorem dX4_valueByLink_164 : decode cX4_valueByLink 164 = .ok (.ifCond .ge 7, 3) := by decide +kernel
theorem dX4_valueByLink_167 : decode cX4_valueByLink 167 = .ok (.iconst (-1), 1) := by decide +kernel
theorem dX4_valueByLink_168 : decode cX4_valueByLink 168 = .ok (.goto 11, 3) := by decide +kernel
theorem dX4_valueByLink_171 : decode cX4_valueByLink 171 = .ok (.iload 7, 2) := by decide +kernel
theorem dX4_valueByLink_173 : decode cX4_valueByLink 173 = .ok (.aload_n 0, 1) := by decide +kernel
theorem dX4_valueByLink_174 : decode cX4_valueByLink 174 = .ok (.iload_n 1, 1) := by decide +kernel
theorem dX4_valueByLink_175 : decode cX4_valueByLink 175 = .ok (.invokevirtual 224, 3) := by decide +kernel
theorem dX4_valueByLink_178 : decode cX4_valueByLink 178 = .ok (.iadd, 1) := by decide +kernel
theorem dX4_valueByLink_179 : decode cX4_valueByLink 179 = .ok (.ireturn, 1) := by decide +kernel
theorem dX4_weightOf_0 : decode cX4_weightOf 0 = .ok (.aload_n 0, 1) := by decide +kernel
theorem dX4_weightOf_1 : decode cX4_weightOf 1 = .ok (.getfield 194, 3) := by decide +kernel
theorem dX4_weightOf_4 : decode cX4_weightOf 4 = .ok (.ifCond .eq 11, 3) := by decide +kernel
theorem dX4_weightOf_7 : decode cX4_weightOf 7 = .ok (.aload_n 0, 1) := by decide +kernel
theorem dX4_weightOf_8 : decode cX4_weightOf 8 = .ok (.getfield 194, 3) := by decide +kernel
theorem dX4_weightOf_11 : decode cX4_weightOf 11 = .ok (.iconst 1, 1) := by decide +kernel
theorem dX4_weightOf_12 : decode cX4_weightOf 12 = .ok (.if_icmp .ne 13, 3) := by decide +kernel
theorem dX4_weightOf_15 : decode cX4_weightOf 15 = .ok (.aload_n 0, 1) := by decide +kernel
theorem dX4_weightOf_16 : decode cX4_weightOf 16 = .ok (.getfield 33, 3) := by decide +kernel
theorem dX4_weightOf_19 : decode cX4_weightOf 19 = .ok (.getfield 227, 3) := by decide +kernel
theorem dX4_weightOf_22 : decode cX4_weightOf 22 = .ok (.iload_n 1, 1) := by decide +kernel
theorem dX4_weightOf_23 : decode cX4_weightOf 23 = .ok (.iaload, 1) := by decide +kernel
theorem dX4_weightOf_24 : decode cX4_weightOf 24 = .ok (.ireturn, 1) := by decide +kernel
theorem dX4_weightOf_25 : decode cX4_weightOf 25 = .ok (.aload_n 0, 1) := by decide +kernel
theorem dX4_weightOf_26 : decode cX4_weightOf 26 = .ok (.getfield 194, 3) := by decide +kernel
theorem dX4_weightOf_29 : decode cX4_weightOf 29 = .ok (.iconst 2, 1) := by decide +kernel
theorem dX4_weightOf_30 : decode cX4_weightOf 30 = .ok (.if_icmp .eq 11, 3) := by decide +kernel
theorem dX4_weightOf_33 : decode cX4_weightOf 33 = .ok (.aload_n 0, 1) := by decide +kernel
theorem dX4_weightOf_34 : decode cX4_weightOf 34 = .ok (.getfield 194, 3) := by decide +kernel
theorem dX4_weightOf_37 : decode cX4_weightOf 37 = .ok (.iconst 3, 1) := by decide +kernel
theorem dX4_weightOf_38 : decode cX4_weightOf 38 = .ok (.if_icmp .ne 7, 3) := by decide +kernel
theorem dX4_weightOf_41 : decode cX4_weightOf 41 = .ok (.iconst 1, 1) := by decide +kernel
theorem dX4_weightOf_42 : decode cX4_weightOf 42 = .ok (.goto 4, 3) := by decide +kernel
theorem dX4_weightOf_45 : decode cX4_weightOf 45 = .ok (.iconst 0, 1) := by decide +kernel
theorem dX4_weightOf_46 : decode cX4_weightOf 46 = .ok (.ireturn, 1) := by decide +kernel
theorem dX4_join_0 : decode cX4_join 0 = .ok (.iload_n 1, 1) := by decide +kernel
theorem dX4_join_1 : decode cX4_join 1 = .ok (.ifCond .lt 7, 3) := by decide +kernel
theorem dX4_join_4 : decode cX4_join 4 = .ok (.iload_n 2, 1) := by decide +kernel
theorem dX4_join_5 : decode cX4_join 5 = .ok (.ifCond .ge 9, 3) := by decide +kernel
theorem dX4_join_8 : decode cX4_join 8 = .ok (.iload_n 1, 1) := by decide +kernel
theorem dX4_join_9 : decode cX4_join 9 = .ok (.iload_n 2, 1) := by decide +kernel
theorem dX4_join_10 : decode cX4_join 10 = .ok (.invokestatic 101, 3) := by decide +kernel
theorem dX4_join_13 : decode cX4_join 13 = .ok (.ireturn, 1) := by decide +kernel
theorem dX4_join_14 : decode cX4_join 14 = .ok (.aload_n 0, 1) := by decide +kernel
theorem dX4_join_15 : decode cX4_join 15 = .ok (.getfield 194, 3) := by decide +kernel
theorem dX4_join_18 : decode cX4_join 18 = .ok (.iconst 4, 1) := by decide +kernel
theorem dX4_join_19 : decode cX4_join 19 = .ok (.if_icmp .ne 12, 3) := by decide +kernel
theorem dX4_join_22 : decode cX4_join 22 = .ok (.ldc 230, 2) := by decide +kernel
theorem dX4_join_24 : decode cX4_join 24 = .ok (.iload_n 1, 1) := by decide +kernel
theorem dX4_join_25 : decode cX4_join 25 = .ok (.iload_n 2, 1) := by decide +kernel
theorem dX4_join_26 : decode cX4_join 26 = .ok (.iadd, 1) := by decide +kernel
theorem dX4_join_27 : decode cX4_join 27 = .ok (.invokestatic 231, 3) := by decide +kernel
theorem dX4_join_30 : decode cX4_join 30 = .ok (.ireturn, 1) := by decide +kernel
theorem dX4_join_31 : decode cX4_join 31 = .ok (.aload_n 0, 1) := by decide +kernel
theorem dX4_join_32 : decode cX4_join 32 = .ok (.getfield 194, 3) := by decide +kernel
theorem dX4_join_35 : decode cX4_join 35 = .ok (.iconst 1, 1) := by decide +kernel
theorem dX4_join_36 : decode cX4_join 36 = .ok (.if_icmp .eq 11, 3) := by decide +kernel
theorem dX4_join_39 : decode cX4_join 39 = .ok (.aload_n 0, 1) := by decide +kernel
theorem dX4_join_40 : decode cX4_join 40 = .ok (.getfield 194, 3) := by decide +kernel
theorem dX4_join_43 : decode cX4_join 43 = .ok (.iconst 3, 1) := by decide +kernel
theorem dX4_join_44 : decode cX4_join 44 = .ok (.if_icmp .ne 11, 3) := by decide +kernel
theorem dX4_join_47 : decode cX4_join 47 = .ok (.iload_n 1, 1) := by decide +kernel
theorem dX4_join_48 : decode cX4_join 48 = .ok (.iload_n 2, 1) := by decide +kernel
theorem dX4_join_49 : decode cX4_join 49 = .ok (.invokestatic 101, 3) := by decide +kernel
theorem dX4_join_52 : decode cX4_join 52 = .ok (.goto 8, 3) := by decide +kernel
theorem dX4_join_55 : decode cX4_join 55 = .ok (.iload_n 1, 1) := by decide +kernel
theorem dX4_join_56 : decode cX4_join 56 = .ok (.iload_n 2, 1) := by decide +kernel
theorem dX4_join_57 : decode cX4_join 57 = .ok (.invokestatic 231, 3) := by decide +kernel
theorem dX4_join_60 : decode cX4_join 60 = .ok (.ireturn, 1) := by decide +kernel
theorem dX4_charge_0 : decode cX4_charge 0 = .ok (.iload_n 1, 1) := by decide +kernel
theorem dX4_charge_1 : decode cX4_charge 1 = .ok (.ifCond .lt 7, 3) := by decide +kernel
theorem dX4_charge_4 : decode cX4_charge 4 = .ok (.iload_n 2, 1) := by decide +kernel
theorem dX4_charge_5 : decode cX4_charge 5 = .ok (.ifCond .ne 5, 3) := by decide +kernel
theorem dX4_charge_8 : decode cX4_charge 8 = .ok (.iload_n 1, 1) := by decide +kernel
theorem dX4_charge_9 : decode cX4_charge 9 = .ok (.ireturn, 1) := by decide +kernel
theorem dX4_charge_10 : decode cX4_charge 10 = .ok (.aload_n 0, 1) := by decide +kernel
theorem dX4_charge_11 : decode cX4_charge 11 = .ok (.getfield 194, 3) := by decide +kernel
theorem dX4_charge_14 : decode cX4_charge 14 = .ok (.iconst 5, 1) := by decide +kernel
theorem dX4_charge_15 : decode cX4_charge 15 = .ok (.if_icmp .ne 18, 3) := by decide +kernel
theorem dX4_charge_18 : decode cX4_charge 18 = .ok (.iload_n 1, 1) := by decide +kernel
theorem dX4_charge_19 : decode cX4_charge 19 = .ok (.iload_n 2, 1) := by decide +kernel
theorem dX4_charge_20 : decode cX4_charge 20 = .ok (.invokestatic 234, 3) := by decide +kernel
theorem dX4_charge_23 : decode cX4_charge 23 = .ok (.sipush 256, 3) := by decide +kernel
theorem dX4_charge_26 : decode cX4_charge 26 = .ok (.imul, 1) := by decide +kernel
theorem dX4_charge_27 : decode cX4_charge 27 = .ok (.iadd, 1) := by decide +kernel
theorem dX4_charge_28 : decode cX4_charge 28 = .ok (.iload_n 2, 1) := by decide +kernel
theorem dX4_charge_29 : decode cX4_charge 29 = .ok (.iadd, 1) := by decide +kernel
theorem dX4_charge_30 : decode cX4_charge 30 = .ok (.goto 4, 3) := by decide +kernel
theorem dX4_charge_33 : decode cX4_charge 33 = .ok (.iconst (-1), 1) := by decide +kernel
theorem dX4_charge_34 : decode cX4_charge 34 = .ok (.ireturn, 1) := by decide +kernel
theorem dX4_canTake_0 : decode cX4_canTake 0 = .ok (.aload_n 0, 1) := by decide +kernel
theorem dX4_canTake_1 : decode cX4_canTake 1 = .ok (.getfield 22, 3) := by decide +kernel
theorem dX4_canTake_4 : decode cX4_canTake 4 = .ok (.iload_n 2, 1) := by decide +kernel
theorem dX4_canTake_5 : decode cX4_canTake 5 = .ok (.iaload, 1) := by decide +kernel
theorem dX4_canTake_6 : decode cX4_canTake 6 = .ok (.iload_n 1, 1) := by decide +kernel
theorem dX4_canTake_7 : decode cX4_canTake 7 = .ok (.ishr, 1) := by decide +kernel
theorem dX4_canTake_8 : decode cX4_canTake 8 = .ok (.iconst 1, 1) := by decide +kernel
theorem dX4_canTake_9 : decode cX4_canTake 9 = .ok (.iand, 1) := by decide +kernel
theorem dX4_canTake_10 : decode cX4_canTake 10 = .ok (.ifCond .eq 23, 3) := by decide +kernel
theorem dX4_canTake_13 : decode cX4_canTake 13 = .ok (.aload_n 0, 1) := by decide +kernel
theorem dX4_canTake_14 : decode cX4_canTake 14 = .ok (.getfield 33, 3) := by decide +kernel
theorem dX4_canTake_17 : decode cX4_canTake 17 = .ok (.getfield 239, 3) := by decide +kernel
theorem dX4_canTake_20 : decode cX4_canTake 20 = .ok (.iload_n 1, 1) := by decide +kernel
theorem dX4_canTake_21 : decode cX4_canTake 21 = .ok (.iaload, 1) := by decide +kernel
theorem dX4_canTake_22 : decode cX4_canTake 22 = .ok (.iload_n 3, 1) := by decide +kernel
theorem dX4_canTake_23 : decode cX4_canTake 23 = .ok (.invokestatic 132, 3) := by decide +kernel
theorem dX4_canTake_26 : decode cX4_canTake 26 = .ok (.if_icmp .ne 7, 3) := by decide +kernel
theorem dX4_canTake_29 : decode cX4_canTake 29 = .ok (.iconst 1, 1) := by decide +kernel
theorem dX4_canTake_30 : decode cX4_canTake 30 = .ok (.goto 4, 3) := by decide +kernel
theorem dX4_canTake_33 : decode cX4_canTake 33 = .ok (.iconst 0, 1) := by decide +kernel
theorem dX4_canTake_34 : decode cX4_canTake 34 = .ok (.ireturn, 1) := by decide +kernel
theorem dX4_afterStay_0 : decode cX4_afterStay 0 = .ok (.iload_n 2, 1) := by decide +kernel
theorem dX4_afterStay_1 : decode cX4_afterStay 1 = .ok (.sipush 256, 3) := by decide +kernel
theorem dX4_afterStay_4 : decode cX4_afterStay 4 = .ok (.idiv, 1) := by decide +kernel
theorem dX4_afterStay_5 : decode cX4_afterStay 5 = .ok (.istore_n 3, 1) := by decide +kernel
theorem dX4_afterStay_6 : decode cX4_afterStay 6 = .ok (.iload_n 1, 1) := by decide +kernel
theorem dX4_afterStay_7 : decode cX4_afterStay 7 = .ok (.bipush 24, 2) := by decide +kernel
theorem dX4_afterStay_9 : decode cX4_afterStay 9 = .ok (.irem, 1) := by decide +kernel
theorem dX4_afterStay_10 : decode cX4_afterStay 10 = .ok (.istore 4, 2) := by decide +kernel
theorem dX4_afterStay_12 : decode cX4_afterStay 12 = .ok (.iload 4, 2) := by decide +kernel
theorem dX4_afterStay_14 : decode cX4_afterStay 14 = .ok (.bipush 8, 2) := by decide +kernel
theorem dX4_afterStay_16 : decode cX4_afterStay 16 = .ok (.if_icmp .ge 17, 3) := by decide +kernel
theorem dX4_afterStay_19 : decode cX4_afterStay 19 = .ok (.aload_n 0, 1) := by decide +kernel
theorem dX4_afterStay_20 : decode cX4_afterStay 20 = .ok (.getfield 37, 3) := by decide +kernel
theorem dX4_afterStay_23 : decode cX4_afterStay 23 = .ok (.getfield 240, 3) := by decide +kernel
theorem dX4_afterStay_26 : decode cX4_afterStay 26 = .ok (.iload_n 3, 1) := by decide +kernel
theorem dX4_afterStay_27 : decode cX4_afterStay 27 = .ok (.iconst 1, 1) := by decide +kernel
theorem dX4_afterStay_28 : decode cX4_afterStay 28 = .ok (.iadd, 1) := by decide +kernel
theorem dX4_afterStay_29 : decode cX4_afterStay 29 = .ok (.invokestatic 231, 3) := by decide +kernel
theorem dX4_afterStay_32 : decode cX4_afterStay 32 = .ok (.istore_n 3, 1) := by decide +kernel
theorem dX4_afterStay_33 : decode cX4_afterStay 33 = .ok (.iload 4, 2) := by decide +kernel
theorem dX4_afterStay_35 : decode cX4_afterStay 35 = .ok (.bipush 7, 2) := by decide +kernel
theorem dX4_afterStay_37 : decode cX4_afterStay 37 = .ok (.if_icmp .ne 20, 3) := by decide +kernel
theorem dX4_afterStay_40 : decode cX4_afterStay 40 = .ok (.iload_n 3, 1) := by decide +kernel
theorem dX4_afterStay_41 : decode cX4_afterStay 41 = .ok (.aload_n 0, 1) := by decide +kernel
theorem dX4_afterStay_42 : decode cX4_afterStay 42 = .ok (.getfield 37, 3) := by decide +kernel
theorem dX4_afterStay_45 : decode cX4_afterStay 45 = .ok (.getfield 240, 3) := by decide +kernel
theorem dX4_afterStay_48 : decode cX4_afterStay 48 = .ok (.if_icmp .ge 7, 3) := by decide +kernel
theorem dX4_afterStay_51 : decode cX4_afterStay 51 = .ok (.iconst (-1), 1) := by decide +kernel
theorem dX4_afterStay_52 : decode cX4_afterStay 52 = .ok (.goto 4, 3) := by decide +kernel
theorem dX4_afterStay_55 : decode cX4_afterStay 55 = .ok (.iconst 0, 1) := by decide +kernel
theorem dX4_afterStay_56 : decode cX4_afterStay 56 = .ok (.istore_n 3, 1) := by decide +kernel
theorem dX4_afterStay_57 : decode cX4_afterStay 57 = .ok (.iload_n 3, 1) := by decide +kernel
theorem dX4_afterStay_58 : decode cX4_afterStay 58 = .ok (.ifCond .ge 7, 3) := by decide +kernel
theorem dX4_afterStay_61 : decode cX4_afterStay 61 = .ok (.iconst (-1), 1) := by decide +kernel
theorem dX4_afterStay_62 : decode cX4_afterStay 62 = .ok (.goto 26, 3) := by decide +kernel
theorem dX4_afterStay_65 : decode cX4_afterStay 65 = .ok (.iload_n 3, 1) := by decide +kernel
theorem dX4_afterStay_66 : decode cX4_afterStay 66 = .ok (.sipush 256, 3) := by decide +kernel
theorem dX4_afterStay_69 : decode cX4_afterStay 69 = .ok (.imul, 1) := by decide +kernel
theorem dX4_afterStay_70 : decode cX4_afterStay 70 = .ok (.iload_n 2, 1) := by decide +kernel
theorem dX4_afterStay_71 : decode cX4_afterStay 71 = .ok (.sipush 256, 3) := by decide +kernel
theorem dX4_afterStay_74 : decode cX4_afterStay 74 = .ok (.irem, 1) := by decide +kernel
theorem dX4_afterStay_75 : decode cX4_afterStay 75 = .ok (.iadd, 1) := by decide +kernel
theorem dX4_afterStay_76 : decode cX4_afterStay 76 = .ok (.aload_n 0, 1) := by decide +kernel
theorem dX4_afterStay_77 : decode cX4_afterStay 77 = .ok (.iload_n 1, 1) := by decide +kernel
theorem dX4_afterStay_78 : decode cX4_afterStay 78 = .ok (.iconst 1, 1) := by decide +kernel
theorem dX4_afterStay_79 : decode cX4_afterStay 79 = .ok (.iadd, 1) := by decide +kernel
theorem dX4_afterStay_80 : decode cX4_afterStay 80 = .ok (.iload_n 2, 1) := by decide +kernel
theorem dX4_afterStay_81 : decode cX4_afterStay 81 = .ok (.invokestatic 132, 3) := by decide +kernel
theorem dX4_afterStay_84 : decode cX4_afterStay 84 = .ok (.invokevirtual 243, 3) := by decide +kernel
theorem dX4_afterStay_87 : decode cX4_afterStay 87 = .ok (.ior, 1) := by decide +kernel
theorem dX4_afterStay_88 : decode cX4_afterStay 88 = .ok (.ireturn, 1) := by decide +kernel
theorem dX4_afterLink_0 : decode cX4_afterLink 0 = .ok (.iload_n 2, 1) := by decide +kernel
theorem dX4_afterLink_1 : decode cX4_afterLink 1 = .ok (.aload_n 0, 1) := by decide +kernel
theorem dX4_afterLink_2 : decode cX4_afterLink 2 = .ok (.getfield 33, 3) := by decide +kernel
theorem dX4_afterLink_5 : decode cX4_afterLink 5 = .ok (.getfield 150, 3) := by decide +kernel
theorem dX4_afterLink_8 : decode cX4_afterLink 8 = .ok (.iload_n 1, 1) := by decide +kernel
theorem dX4_afterLink_9 : decode cX4_afterLink 9 = .ok (.iaload, 1) := by decide +kernel
theorem dX4_afterLink_10 : decode cX4_afterLink 10 = .ok (.iadd, 1) := by decide +kernel
theorem dX4_afterLink_11 : decode cX4_afterLink 11 = .ok (.istore 5, 2) := by decide +kernel
theorem dX4_afterLink_13 : decode cX4_afterLink 13 = .ok (.aload_n 0, 1) := by decide +kernel
theorem dX4_afterLink_14 : decode cX4_afterLink 14 = .ok (.iload_n 2, 1) := by decide +kernel
theorem dX4_afterLink_15 : decode cX4_afterLink 15 = .ok (.iload 5, 2) := by decide +kernel
theorem dX4_afterLink_17 : decode cX4_afterLink 17 = .ok (.iload_n 3, 1) := by decide +kernel
theorem dX4_afterLink_18 : decode cX4_afterLink 18 = .ok (.sipush 256, 3) := by decide +kernel
theorem dX4_afterLink_21 : decode cX4_afterLink 21 = .ok (.idiv, 1) := by decide +kernel
theorem dX4_afterLink_22 : decode cX4_afterLink 22 = .ok (.invokevirtual 246, 3) := by decide +kernel
theorem dX4_afterLink_25 : decode cX4_afterLink 25 = .ok (.istore 6, 2) := by decide +kernel
theorem dX4_afterLink_27 : decode cX4_afterLink 27 = .ok (.iload 6, 2) := by decide +kernel
theorem dX4_afterLink_29 : decode cX4_afterLink 29 = .ok (.ifCond .ge 5, 3) := by decide +kernel
theorem dX4_afterLink_32 : decode cX4_afterLink 32 = .ok (.iconst (-1), 1) := by decide +kernel
theorem dX4_afterLink_33 : decode cX4_afterLink 33 = .ok (.ireturn, 1) := by decide +kernel
theorem dX4_afterLink_34 : decode cX4_afterLink 34 = .ok (.iload_n 3, 1) := by decide +kernel
theorem dX4_afterLink_35 : decode cX4_afterLink 35 = .ok (.invokestatic 215, 3) := by decide +kernel
theorem dX4_afterLink_38 : decode cX4_afterLink 38 = .ok (.istore 7, 2) := by decide +kernel
theorem dX4_afterLink_40 : decode cX4_afterLink 40 = .ok (.aload_n 0, 1) := by decide +kernel
theorem dX4_afterLink_41 : decode cX4_afterLink 41 = .ok (.getfield 33, 3) := by decide +kernel
theorem dX4_afterLink_44 : decode cX4_afterLink 44 = .ok (.getfield 218, 3) := by decide +kernel
theorem dX4_afterLink_47 : decode cX4_afterLink 47 = .ok (.iload_n 1, 1) := by decide +kernel
theorem dX4_afterLink_48 : decode cX4_afterLink 48 = .ok (.iaload, 1) := by decide +kernel
theorem dX4_afterLink_49 : decode cX4_afterLink 49 = .ok (.iconst (-1), 1) := by decide +kernel
theorem dX4_afterLink_50 : decode cX4_afterLink 50 = .ok (.if_icmp .eq 69, 3) := by decide +kernel
theorem dX4_afterLink_53 : decode cX4_afterLink 53 = .ok (.iload 7, 2) := by decide +kernel
theorem dX4_afterLink_55 : decode cX4_afterLink 55 = .ok (.aload_n 0, 1) := by decide +kernel
theorem dX4_afterLink_56 : decode cX4_afterLink 56 = .ok (.getfield 164, 3) := by decide +kernel
theorem dX4_afterLink_59 : decode cX4_afterLink 59 = .ok (.if_icmp .ge 13, 3) := by decide +kernel
theorem dX4_afterLink_62 : decode cX4_afterLink 62 = .ok (.aload_n 0, 1) := by decide +kernel
theorem dX4_afterLink_63 : decode cX4_afterLink 63 = .ok (.getfield 27, 3) := by decide +kernel
theorem dX4_afterLink_66 : decode cX4_afterLink 66 = .ok (.iload 7, 2) := by decide +kernel
theorem dX4_afterLink_68 : decode cX4_afterLink 68 = .ok (.iaload, 1) := by decide +kernel
theorem dX4_afterLink_69 : decode cX4_afterLink 69 = .ok (.goto 4, 3) := by decide +kernel
theorem dX4_afterLink_72 : decode cX4_afterLink 72 = .ok (.iconst (-1), 1) := by decide +kernel
theorem dX4_afterLink_73 : decode cX4_afterLink 73 = .ok (.istore 8, 2) := by decide +kernel
theorem dX4_afterLink_75 : decode cX4_afterLink 75 = .ok (.aload_n 0, 1) := by decide +kernel
theorem dX4_afterLink_76 : decode cX4_afterLink 76 = .ok (.getfield 37, 3) := by decide +kernel
theorem dX4_afterLink_79 : decode cX4_afterLink 79 = .ok (.iload 8, 2) := by decide +kernel
theorem dX4_afterLink_81 : decode cX4_afterLink 81 = .ok (.aload_n 0, 1) := by decide +kernel
theorem dX4_afterLink_82 : decode cX4_afterLink 82 = .ok (.getfield 33, 3) := by decide +kernel
theorem dX4_afterLink_85 : decode cX4_afterLink 85 = .ok (.getfield 218, 3) := by decide +kernel
theorem dX4_afterLink_88 : decode cX4_afterLink 88 = .ok (.iload_n 1, 1) := by decide +kernel
theorem dX4_afterLink_89 : decode cX4_afterLink 89 = .ok (.iaload, 1) := by decide +kernel
theorem dX4_afterLink_90 : decode cX4_afterLink 90 = .ok (.iconst 1, 1) := by decide +kernel
theorem dX4_afterLink_91 : decode cX4_afterLink 91 = .ok (.aload_n 0, 1) := by decide +kernel
theorem dX4_afterLink_92 : decode cX4_afterLink 92 = .ok (.getfield 33, 3) := by decide +kernel
theorem dX4_afterLink_95 : decode cX4_afterLink 95 = .ok (.iload_n 2, 1) := by decide +kernel
theorem dX4_afterLink_96 : decode cX4_afterLink 96 = .ok (.aload_n 0, 1) := by decide +kernel
theorem dX4_afterLink_97 : decode cX4_afterLink 97 = .ok (.getfield 33, 3) := by decide +kernel
theorem dX4_afterLink_100 : decode cX4_afterLink 100 = .ok (.getfield 239, 3) := by decide +kernel
theorem dX4_afterLink_103 : decode cX4_afterLink 103 = .ok (.iload_n 1, 1) := by decide +kernel
theorem dX4_afterLink_104 : decode cX4_afterLink 104 = .ok (.iaload, 1) := by decide +kernel
theorem dX4_afterLink_105 : decode cX4_afterLink 105 = .ok (.invokevirtual 249, 3) := by decide +kernel
theorem dX4_afterLink_108 : decode cX4_afterLink 108 = .ok (.invokevirtual 252, 3) := by decide +kernel
theorem dX4_afterLink_111 : decode cX4_afterLink 111 = .ok (.ifCond .ne 5, 3) := by decide +kernel
theorem dX4_afterLink_114 : decode cX4_afterLink 114 = .ok (.iconst (-1), 1) := by decide +kernel
theorem dX4_afterLink_115 : decode cX4_afterLink 115 = .ok (.ireturn, 1) := by decide +kernel
theorem dX4_afterLink_116 : decode cX4_afterLink 116 = .ok (.iinc 7 1, 3) := by decide +kernel
theorem dX4_afterLink_119 : decode cX4_afterLink 119 = .ok (.iload 7, 2) := by decide +kernel
theorem dX4_afterLink_121 : decode cX4_afterLink 121 = .ok (.iload 4, 2) := by decide +kernel
theorem dX4_afterLink_123 : decode cX4_afterLink 123 = .ok (.iadd, 1) := by decide +kernel
theorem dX4_afterLink_124 : decode cX4_afterLink 124 = .ok (.istore 7, 2) := by decide +kernel
theorem dX4_afterLink_126 : decode cX4_afterLink 126 = .ok (.aload_n 0, 1) := by decide +kernel
theorem dX4_afterLink_127 : decode cX4_afterLink 127 = .ok (.getfield 33, 3) := by decide +kernel
theorem dX4_afterLink_130 : decode cX4_afterLink 130 = .ok (.getfield 221, 3) := by decide +kernel
theorem dX4_afterLink_133 : decode cX4_afterLink 133 = .ok (.iload_n 1, 1) := by decide +kernel
theorem dX4_afterLink_134 : decode cX4_afterLink 134 = .ok (.iaload, 1) := by decide +kernel
theorem dX4_afterLink_135 : decode cX4_afterLink 135 = .ok (.iconst (-1), 1) := by decide +kernel
theorem dX4_afterLink_136 : decode cX4_afterLink 136 = .ok (.if_icmp .eq 70, 3) := by decide +kernel
theorem dX4_afterLink_139 : decode cX4_afterLink 139 = .ok (.iload 7, 2) := by decide +kernel
theorem dX4_afterLink_141 : decode cX4_afterLink 141 = .ok (.aload_n 0, 1) := by decide +kernel
theorem dX4_afterLink_142 : decode cX4_afterLink 142 = .ok (.getfield 164, 3) := by decide +kernel
theorem dX4_afterLink_145 : decode cX4_afterLink 145 = .ok (.if_icmp .ge 13, 3) := by decide +kernel
theorem dX4_afterLink_148 : decode cX4_afterLink 148 = .ok (.aload_n 0, 1) := by decide +kernel
theorem dX4_afterLink_149 : decode cX4_afterLink 149 = .ok (.getfield 27, 3) := by decide +kernel
theorem dX4_afterLink_152 : decode cX4_afterLink 152 = .ok (.iload 7, 2) := by decide +kernel
theorem dX4_afterLink_154 : decode cX4_afterLink 154 = .ok (.iaload, 1) := by decide +kernel
theorem dX4_afterLink_155 : decode cX4_afterLink 155 = .ok (.goto 4, 3) := by decide +kernel
theorem dX4_afterLink_158 : decode cX4_afterLink 158 = .ok (.iconst (-1), 1) := by decide +kernel
theorem dX4_afterLink_159 : decode cX4_afterLink 159 = .ok (.istore 8, 2) := by decide +kernel
theorem dX4_afterLink_161 : decode cX4_afterLink 161 = .ok (.aload_n 0, 1) := by decide +kernel
theorem dX4_afterLink_162 : decode cX4_afterLink 162 = .ok (.getfield 37, 3) := by decide +kernel
theorem dX4_afterLink_165 : decode cX4_afterLink 165 = .ok (.iload 8, 2) := by decide +kernel
theorem dX4_afterLink_167 : decode cX4_afterLink 167 = .ok (.aload_n 0, 1) := by decide +kernel
theorem dX4_afterLink_168 : decode cX4_afterLink 168 = .ok (.getfield 33, 3) := by decide +kernel
theorem dX4_afterLink_171 : decode cX4_afterLink 171 = .ok (.getfield 221, 3) := by decide +kernel
theorem dX4_afterLink_174 : decode cX4_afterLink 174 = .ok (.iload_n 1, 1) := by decide +kernel
theorem dX4_afterLink_175 : decode cX4_afterLink 175 = .ok (.iaload, 1) := by decide +kernel
theorem dX4_afterLink_176 : decode cX4_afterLink 176 = .ok (.iconst 0, 1) := by decide +kernel
theorem dX4_afterLink_177 : decode cX4_afterLink 177 = .ok (.aload_n 0, 1) := by decide +kernel
theorem dX4_afterLink_178 : decode cX4_afterLink 178 = .ok (.getfield 33, 3) := by decide +kernel
theorem dX4_afterLink_181 : decode cX4_afterLink 181 = .ok (.iload 5, 2) := by decide +kernel
theorem dX4_afterLink_183 : decode cX4_afterLink 183 = .ok (.aload_n 0, 1) := by decide +kernel
theorem dX4_afterLink_184 : decode cX4_afterLink 184 = .ok (.getfield 33, 3) := by decide +kernel
theorem dX4_afterLink_187 : decode cX4_afterLink 187 = .ok (.getfield 256, 3) := by decide +kernel
theorem dX4_afterLink_190 : decode cX4_afterLink 190 = .ok (.iload_n 1, 1) := by decide +kernel
theorem dX4_afterLink_191 : decode cX4_afterLink 191 = .ok (.iaload, 1) := by decide +kernel
theorem dX4_afterLink_192 : decode cX4_afterLink 192 = .ok (.invokevirtual 249, 3) := by decide +kernel
theorem dX4_afterLink_195 : decode cX4_afterLink 195 = .ok (.invokevirtual 252, 3) := by decide +kernel
theorem dX4_afterLink_198 : decode cX4_afterLink 198 = .ok (.ifCond .ne 5, 3) := by decide +kernel
theorem dX4_afterLink_201 : decode cX4_afterLink 201 = .ok (.iconst (-1), 1) := by decide +kernel
theorem dX4_afterLink_202 : decode cX4_afterLink 202 = .ok (.ireturn, 1) := by decide +kernel
theorem dX4_afterLink_203 : decode cX4_afterLink 203 = .ok (.iinc 7 1, 3) := by decide +kernel
theorem dX4_afterLink_206 : decode cX4_afterLink 206 = .ok (.iload 6, 2) := by decide +kernel
theorem dX4_afterLink_208 : decode cX4_afterLink 208 = .ok (.aload_n 0, 1) := by decide +kernel
theorem dX4_afterLink_209 : decode cX4_afterLink 209 = .ok (.getfield 33, 3) := by decide +kernel
theorem dX4_afterLink_212 : decode cX4_afterLink 212 = .ok (.getfield 256, 3) := by decide +kernel
theorem dX4_afterLink_215 : decode cX4_afterLink 215 = .ok (.iload_n 1, 1) := by decide +kernel
theorem dX4_afterLink_216 : decode cX4_afterLink 216 = .ok (.iaload, 1) := by decide +kernel
theorem dX4_afterLink_217 : decode cX4_afterLink 217 = .ok (.iload 7, 2) := by decide +kernel
theorem dX4_afterLink_219 : decode cX4_afterLink 219 = .ok (.iload_n 3, 1) := by decide +kernel
theorem dX4_afterLink_220 : decode cX4_afterLink 220 = .ok (.iconst 3, 1) := by decide +kernel
theorem dX4_afterLink_221 : decode cX4_afterLink 221 = .ok (.iand, 1) := by decide +kernel
theorem dX4_afterLink_222 : decode cX4_afterLink 222 = .ok (.aload_n 0, 1) := by decide +kernel
theorem dX4_afterLink_223 : decode cX4_afterLink 223 = .ok (.iload 5, 2) := by decide +kernel
theorem dX4_afterLink_225 : decode cX4_afterLink 225 = .ok (.aload_n 0, 1) := by decide +kernel
theorem dX4_afterLink_226 : decode cX4_afterLink 226 = .ok (.getfield 33, 3) := by decide +kernel
theorem dX4_afterLink_229 : decode cX4_afterLink 229 = .ok (.getfield 256, 3) := by decide +kernel
theorem dX4_afterLink_232 : decode cX4_afterLink 232 = .ok (.iload_n 1, 1) := by decide +kernel
theorem dX4_afterLink_233 : decode cX4_afterLink 233 = .ok (.iaload, 1) := by decide +kernel
theorem dX4_afterLink_234 : decode cX4_afterLink 234 = .ok (.invokevirtual 243, 3) := by decide +kernel
theorem dX4_afterLink_237 : decode cX4_afterLink 237 = .ok (.ior, 1) := by decide +kernel
theorem dX4_afterLink_238 : decode cX4_afterLink 238 = .ok (.invokestatic 191, 3) := by decide +kernel
theorem dX4_afterLink_241 : decode cX4_afterLink 241 = .ok (.ireturn, 1) := by decide +kernel
theorem dX4_sleptAfter_0 : decode cX4_sleptAfter 0 = .ok (.iload_n 1, 1) := by decide +kernel
theorem dX4_sleptAfter_1 : decode cX4_sleptAfter 1 = .ok (.iload_n 1, 1) := by decide +kernel
theorem dX4_sleptAfter_2 : decode cX4_sleptAfter 2 = .ok (.bipush 24, 2) := by decide +kernel
theorem dX4_sleptAfter_4 : decode cX4_sleptAfter 4 = .ok (.irem, 1) := by decide +kernel
theorem dX4_sleptAfter_5 : decode cX4_sleptAfter 5 = .ok (.isub, 1) := by decide +kernel
theorem dX4_sleptAfter_6 : decode cX4_sleptAfter 6 = .ok (.istore 4, 2) := by decide +kernel
theorem dX4_sleptAfter_8 : decode cX4_sleptAfter 8 = .ok (.iload_n 1, 1) := by decide +kernel
theorem dX4_sleptAfter_9 : decode cX4_sleptAfter 9 = .ok (.iload 4, 2) := by decide +kernel
theorem dX4_sleptAfter_11 : decode cX4_sleptAfter 11 = .ok (.bipush 8, 2) := by decide +kernel
theorem dX4_sleptAfter_13 : decode cX4_sleptAfter 13 = .ok (.iadd, 1) := by decide +kernel
theorem dX4_sleptAfter_14 : decode cX4_sleptAfter 14 = .ok (.if_icmp .ge 7, 3) := by decide +kernel
theorem dX4_sleptAfter_17 : decode cX4_sleptAfter 17 = .ok (.iconst 1, 1) := by decide +kernel
theorem dX4_sleptAfter_18 : decode cX4_sleptAfter 18 = .ok (.goto 4, 3) := by decide +kernel
theorem dX4_sleptAfter_21 : decode cX4_sleptAfter 21 = .ok (.iconst 0, 1) := by decide +kernel
theorem dX4_sleptAfter_22 : decode cX4_sleptAfter 22 = .ok (.istore 5, 2) := by decide +kernel
theorem dX4_sleptAfter_24 : decode cX4_sleptAfter 24 = .ok (.iload 5, 2) := by decide +kernel
theorem dX4_sleptAfter_26 : decode cX4_sleptAfter 26 = .ok (.ifCond .eq 14, 3) := by decide +kernel
theorem dX4_sleptAfter_29 : decode cX4_sleptAfter 29 = .ok (.iload_n 2, 1) := by decide +kernel
theorem dX4_sleptAfter_30 : decode cX4_sleptAfter 30 = .ok (.iload 4, 2) := by decide +kernel
theorem dX4_sleptAfter_32 : decode cX4_sleptAfter 32 = .ok (.bipush 8, 2) := by decide +kernel
theorem dX4_sleptAfter_34 : decode cX4_sleptAfter 34 = .ok (.iadd, 1) := by decide +kernel
theorem dX4_sleptAfter_35 : decode cX4_sleptAfter 35 = .ok (.if_icmp .ge 5, 3) := by decide +kernel
theorem dX4_sleptAfter_38 : decode cX4_sleptAfter 38 = .ok (.iload_n 3, 1) := by decide +kernel
theorem dX4_sleptAfter_39 : decode cX4_sleptAfter 39 = .ok (.ireturn, 1) := by decide +kernel
theorem dX4_sleptAfter_40 : decode cX4_sleptAfter 40 = .ok (.iload 5, 2) := by decide +kernel
theorem dX4_sleptAfter_42 : decode cX4_sleptAfter 42 = .ok (.ifCond .eq 18, 3) := by decide +kernel
theorem dX4_sleptAfter_45 : decode cX4_sleptAfter 45 = .ok (.iload_n 3, 1) := by decide +kernel
theorem dX4_sleptAfter_46 : decode cX4_sleptAfter 46 = .ok (.aload_n 0, 1) := by decide +kernel
theorem dX4_sleptAfter_47 : decode cX4_sleptAfter 47 = .ok (.getfield 37, 3) := by decide +kernel
theorem dX4_sleptAfter_50 : decode cX4_sleptAfter 50 = .ok (.getfield 240, 3) := by decide +kernel
theorem dX4_sleptAfter_53 : decode cX4_sleptAfter 53 = .ok (.if_icmp .ge 7, 3) := by decide +kernel
theorem dX4_sleptAfter_56 : decode cX4_sleptAfter 56 = .ok (.iconst 1, 1) := by decide +kernel
theorem dX4_sleptAfter_57 : decode cX4_sleptAfter 57 = .ok (.goto 4, 3) := by decide +kernel
theorem dX4_sleptAfter_60 : decode cX4_sleptAfter 60 = .ok (.iconst 0, 1) := by decide +kernel
theorem dX4_sleptAfter_61 : decode cX4_sleptAfter 61 = .ok (.istore 6, 2) := by decide +kernel
theorem dX4_sleptAfter_63 : decode cX4_sleptAfter 63 = .ok (.aload_n 0, 1) := by decide +kernel
theorem dX4_sleptAfter_64 : decode cX4_sleptAfter 64 = .ok (.getfield 37, 3) := by decide +kernel
theorem dX4_sleptAfter_67 : decode cX4_sleptAfter 67 = .ok (.getfield 240, 3) := by decide +kernel
theorem dX4_sleptAfter_70 : decode cX4_sleptAfter 70 = .ok (.ifCond .le 19, 3) := by decide +kernel
theorem dX4_sleptAfter_73 : decode cX4_sleptAfter 73 = .ok (.iload_n 2, 1) := by decide +kernel
theorem dX4_sleptAfter_74 : decode cX4_sleptAfter 74 = .ok (.iload 4, 2) := by decide +kernel
theorem dX4_sleptAfter_76 : decode cX4_sleptAfter 76 = .ok (.bipush 24, 2) := by decide +kernel
theorem dX4_sleptAfter_78 : decode cX4_sleptAfter 78 = .ok (.iadd, 1) := by decide +kernel
theorem dX4_sleptAfter_79 : decode cX4_sleptAfter 79 = .ok (.bipush 8, 2) := by decide +kernel
theorem dX4_sleptAfter_81 : decode cX4_sleptAfter 81 = .ok (.iadd, 1) := by decide +kernel
theorem dX4_sleptAfter_82 : decode cX4_sleptAfter 82 = .ok (.if_icmp .lt 7, 3) := by decide +kernel
theorem dX4_sleptAfter_85 : decode cX4_sleptAfter 85 = .ok (.iconst 1, 1) := by decide +kernel
theorem dX4_sleptAfter_86 : decode cX4_sleptAfter 86 = .ok (.goto 4, 3) := by decide +kernel
theorem dX4_sleptAfter_89 : decode cX4_sleptAfter 89 = .ok (.iconst 0, 1) := by decide +kernel
theorem dX4_sleptAfter_90 : decode cX4_sleptAfter 90 = .ok (.istore 7, 2) := by decide +kernel
theorem dX4_sleptAfter_92 : decode cX4_sleptAfter 92 = .ok (.iload 6, 2) := by decide +kernel
theorem dX4_sleptAfter_94 : decode cX4_sleptAfter 94 = .ok (.ifCond .ne 8, 3) := by decide +kernel
theorem dX4_sleptAfter_97 : decode cX4_sleptAfter 97 = .ok (.iload 7, 2) := by decide +kernel
theorem dX4_sleptAfter_99 : decode cX4_sleptAfter 99 = .ok (.ifCond .eq 7, 3) := by decide +kernel
theorem dX4_sleptAfter_102 : decode cX4_sleptAfter 102 = .ok (.iconst (-1), 1) := by decide +kernel
theorem dX4_sleptAfter_103 : decode cX4_sleptAfter 103 = .ok (.goto 4, 3) := by decide +kernel
theorem dX4_sleptAfter_106 : decode cX4_sleptAfter 106 = .ok (.iconst 0, 1) := by decide +kernel
theorem dX4_sleptAfter_107 : decode cX4_sleptAfter 107 = .ok (.ireturn, 1) := by decide +kernel
theorem dX4_seenAt_0 : decode cX4_seenAt 0 = .ok (.iconst 0, 1) := by decide +kernel
theorem dX4_seenAt_1 : decode cX4_seenAt 1 = .ok (.istore_n 3, 1) := by decide +kernel
theorem dX4_seenAt_2 : decode cX4_seenAt 2 = .ok (.iconst 0, 1) := by decide +kernel
theorem dX4_seenAt_3 : decode cX4_seenAt 3 = .ok (.istore 4, 2) := by decide +kernel
theorem dX4_seenAt_5 : decode cX4_seenAt 5 = .ok (.iload 4, 2) := by decide +kernel
theorem dX4_seenAt_7 : decode cX4_seenAt 7 = .ok (.aload_n 0, 1) := by decide +kernel
theorem dX4_seenAt_8 : decode cX4_seenAt 8 = .ok (.getfield 167, 3) := by decide +kernel
theorem dX4_seenAt_11 : decode cX4_seenAt 11 = .ok (.if_icmp .ge 67, 3) := by decide +kernel
theorem dX4_seenAt_14 : decode cX4_seenAt 14 = .ok (.aload_n 0, 1) := by decide +kernel
theorem dX4_seenAt_15 : decode cX4_seenAt 15 = .ok (.getfield 30, 3) := by decide +kernel
theorem dX4_seenAt_18 : decode cX4_seenAt 18 = .ok (.iload 4, 2) := by decide +kernel
theorem dX4_seenAt_20 : decode cX4_seenAt 20 = .ok (.iaload, 1) := by decide +kernel
theorem dX4_seenAt_21 : decode cX4_seenAt 21 = .ok (.istore 5, 2) := by decide +kernel
theorem dX4_seenAt_23 : decode cX4_seenAt 23 = .ok (.aload_n 0, 1) := by decide +kernel
theorem dX4_seenAt_24 : decode cX4_seenAt 24 = .ok (.getfield 37, 3) := by decide +kernel
theorem dX4_seenAt_27 : decode cX4_seenAt 27 = .ok (.getfield 259, 3) := by decide +kernel
theorem dX4_seenAt_30 : decode cX4_seenAt 30 = .ok (.iload 5, 2) := by decide +kernel
theorem dX4_seenAt_32 : decode cX4_seenAt 32 = .ok (.iaload, 1) := by decide +kernel
theorem dX4_seenAt_33 : decode cX4_seenAt 33 = .ok (.iload_n 2, 1) := by decide +kernel
theorem dX4_seenAt_34 : decode cX4_seenAt 34 = .ok (.if_icmp .ne 38, 3) := by decide +kernel
theorem dX4_seenAt_37 : decode cX4_seenAt 37 = .ok (.iload_n 1, 1) := by decide +kernel
theorem dX4_seenAt_38 : decode cX4_seenAt 38 = .ok (.aload_n 0, 1) := by decide +kernel
theorem dX4_seenAt_39 : decode cX4_seenAt 39 = .ok (.getfield 37, 3) := by decide +kernel
theorem dX4_seenAt_42 : decode cX4_seenAt 42 = .ok (.getfield 176, 3) := by decide +kernel
theorem dX4_seenAt_45 : decode cX4_seenAt 45 = .ok (.iload 5, 2) := by decide +kernel
theorem dX4_seenAt_47 : decode cX4_seenAt 47 = .ok (.iaload, 1) := by decide +kernel
theorem dX4_seenAt_48 : decode cX4_seenAt 48 = .ok (.if_icmp .lt 24, 3) := by decide +kernel
theorem dX4_seenAt_51 : decode cX4_seenAt 51 = .ok (.iload_n 1, 1) := by decide +kernel
theorem dX4_seenAt_52 : decode cX4_seenAt 52 = .ok (.aload_n 0, 1) := by decide +kernel
theorem dX4_seenAt_53 : decode cX4_seenAt 53 = .ok (.getfield 37, 3) := by decide +kernel
theorem dX4_seenAt_56 : decode cX4_seenAt 56 = .ok (.getfield 262, 3) := by decide +kernel
theorem dX4_seenAt_59 : decode cX4_seenAt 59 = .ok (.iload 5, 2) := by decide +kernel
theorem dX4_seenAt_61 : decode cX4_seenAt 61 = .ok (.iaload, 1) := by decide +kernel
theorem dX4_seenAt_62 : decode cX4_seenAt 62 = .ok (.if_icmp .gt 10, 3) := by decide +kernel
theorem dX4_seenAt_65 : decode cX4_seenAt 65 = .ok (.iload_n 3, 1) := by decide +kernel
theorem dX4_seenAt_66 : decode cX4_seenAt 66 = .ok (.iconst 1, 1) := by decide +kernel
theorem dX4_seenAt_67 : decode cX4_seenAt 67 = .ok (.iload 4, 2) := by decide +kernel
theorem dX4_seenAt_69 : decode cX4_seenAt 69 = .ok (.ishl, 1) := by decide +kernel
theorem dX4_seenAt_70 : decode cX4_seenAt 70 = .ok (.ior, 1) := by decide +kernel
theorem dX4_seenAt_71 : decode cX4_seenAt 71 = .ok (.istore_n 3, 1) := by decide +kernel
theorem dX4_seenAt_72 : decode cX4_seenAt 72 = .ok (.iinc 4 1, 3) := by decide +kernel
theorem dX4_seenAt_75 : decode cX4_seenAt 75 = .ok (.goto (-70), 3) := by decide +kernel
theorem dX4_seenAt_78 : decode cX4_seenAt 78 = .ok (.iload_n 3, 1) := by decide +kernel
theorem dX4_seenAt_79 : decode cX4_seenAt 79 = .ok (.ireturn, 1) := by decide +kernel
theorem dX4_papersMissed_0 : decode cX4_papersMissed 0 = .ok (.iconst 0, 1) := by decide +kernel
theorem dX4_papersMissed_1 : decode cX4_papersMissed 1 = .ok (.istore_n 3, 1) := by decide +kernel
theorem dX4_papersMissed_2 : decode cX4_papersMissed 2 = .ok (.iconst 0, 1) := by decide +kernel
theorem dX4_papersMissed_3 : decode cX4_papersMissed 3 = .ok (.istore 4, 2) := by decide +kernel
theorem dX4_papersMissed_5 : decode cX4_papersMissed 5 = .ok (.iload 4, 2) := by decide +kernel
theorem dX4_papersMissed_7 : decode cX4_papersMissed 7 = .ok (.aload_n 0, 1) := by decide +kernel
theorem dX4_papersMissed_8 : decode cX4_papersMissed 8 = .ok (.getfield 37, 3) := by decide +kernel
theorem dX4_papersMissed_11 : decode cX4_papersMissed 11 = .ok (.getfield 87, 3) := by decide +kernel
theorem dX4_papersMissed_14 : decode cX4_papersMissed 14 = .ok (.if_icmp .ge 66, 3) := by decide +kernel
theorem dX4_papersMissed_17 : decode cX4_papersMissed 17 = .ok (.aload_n 0, 1) := by decide +kernel
theorem dX4_papersMissed_18 : decode cX4_papersMissed 18 = .ok (.getfield 170, 3) := by decide +kernel
theorem dX4_papersMissed_21 : decode cX4_papersMissed 21 = .ok (.iload 4, 2) := by decide +kernel
theorem dX4_papersMissed_23 : decode cX4_papersMissed 23 = .ok (.ishr, 1) := by decide +kernel
theorem dX4_papersMissed_24 : decode cX4_papersMissed 24 = .ok (.ifCond .eq 56, 3) := by decide +kernel
theorem dX4_papersMissed_27 : decode cX4_papersMissed 27 = .ok (.aload_n 0, 1) := by decide +kernel
theorem dX4_papersMissed_28 : decode cX4_papersMissed 28 = .ok (.getfield 170, 3) := by decide +kernel
theorem dX4_papersMissed_31 : decode cX4_papersMissed 31 = .ok (.iload 4, 2) := by decide +kernel
theorem dX4_papersMissed_33 : decode cX4_papersMissed 33 = .ok (.ishr, 1) := by decide +kernel
theorem dX4_papersMissed_34 : decode cX4_papersMissed 34 = .ok (.iconst 1, 1) := by decide +kernel
theorem dX4_papersMissed_35 : decode cX4_papersMissed 35 = .ok (.iand, 1) := by decide +kernel
theorem dX4_papersMissed_36 : decode cX4_papersMissed 36 = .ok (.ifCond .eq 38, 3) := by decide +kernel
theorem dX4_papersMissed_39 : decode cX4_papersMissed 39 = .ok (.aload_n 0, 1) := by decide +kernel
theorem dX4_papersMissed_40 : decode cX4_papersMissed 40 = .ok (.getfield 37, 3) := by decide +kernel
theorem dX4_papersMissed_43 : decode cX4_papersMissed 43 = .ok (.getfield 176, 3) := by decide +kernel
theorem dX4_papersMissed_46 : decode cX4_papersMissed 46 = .ok (.iload 4, 2) := by decide +kernel
theorem dX4_papersMissed_48 : decode cX4_papersMissed 48 = .ok (.iaload, 1) := by decide +kernel
theorem dX4_papersMissed_49 : decode cX4_papersMissed 49 = .ok (.iload_n 1, 1) := by decide +kernel
theorem dX4_papersMissed_50 : decode cX4_papersMissed 50 = .ok (.if_icmp .ne 24, 3) := by decide +kernel
theorem dX4_papersMissed_53 : decode cX4_papersMissed 53 = .ok (.aload_n 0, 1) := by decide +kernel
theorem dX4_papersMissed_54 : decode cX4_papersMissed 54 = .ok (.getfield 37, 3) := by decide +kernel
theorem dX4_papersMissed_57 : decode cX4_papersMissed 57 = .ok (.getfield 259, 3) := by decide +kernel
theorem dX4_papersMissed_60 : decode cX4_papersMissed 60 = .ok (.iload 4, 2) := by decide +kernel
theorem dX4_papersMissed_62 : decode cX4_papersMissed 62 = .ok (.iaload, 1) := by decide +kernel
theorem dX4_papersMissed_63 : decode cX4_papersMissed 63 = .ok (.iload_n 2, 1) := by decide +kernel
theorem dX4_papersMissed_64 : decode cX4_papersMissed 64 = .ok (.if_icmp .eq 10, 3) := by decide +kernel
theorem dX4_papersMissed_67 : decode cX4_papersMissed 67 = .ok (.iload_n 3, 1) := by decide +kernel
theorem dX4_papersMissed_68 : decode cX4_papersMissed 68 = .ok (.iconst 1, 1) := by decide +kernel
theorem dX4_papersMissed_69 : decode cX4_papersMissed 69 = .ok (.iload 4, 2) := by decide +kernel
theorem dX4_papersMissed_71 : decode cX4_papersMissed 71 = .ok (.ishl, 1) := by decide +kernel
theorem dX4_papersMissed_72 : decode cX4_papersMissed 72 = .ok (.ior, 1) := by decide +kernel
theorem dX4_papersMissed_73 : decode cX4_papersMissed 73 = .ok (.istore_n 3, 1) := by decide +kernel
theorem dX4_papersMissed_74 : decode cX4_papersMissed 74 = .ok (.iinc 4 1, 3) := by decide +kernel
theorem dX4_papersMissed_77 : decode cX4_papersMissed 77 = .ok (.goto (-72), 3) := by decide +kernel
theorem dX4_papersMissed_80 : decode cX4_papersMissed 80 = .ok (.iload_n 3, 1) := by decide +kernel
theorem dX4_papersMissed_81 : decode cX4_papersMissed 81 = .ok (.ireturn, 1) := by decide +kernel
theorem dX4_papersBetween_0 : decode cX4_papersBetween 0 = .ok (.iconst 0, 1) := by decide +kernel
theorem dX4_papersBetween_1 : decode cX4_papersBetween 1 = .ok (.istore_n 3, 1) := by decide +kernel
theorem dX4_papersBetween_2 : decode cX4_papersBetween 2 = .ok (.iconst 0, 1) := by decide +kernel
theorem dX4_papersBetween_3 : decode cX4_papersBetween 3 = .ok (.istore 4, 2) := by decide +kernel
theorem dX4_papersBetween_5 : decode cX4_papersBetween 5 = .ok (.iload 4, 2) := by decide +kernel
theorem dX4_papersBetween_7 : decode cX4_papersBetween 7 = .ok (.aload_n 0, 1) := by decide +kernel
theorem dX4_papersBetween_8 : decode cX4_papersBetween 8 = .ok (.getfield 37, 3) := by decide +kernel
theorem dX4_papersBetween_11 : decode cX4_papersBetween 11 = .ok (.getfield 87, 3) := by decide +kernel
theorem dX4_papersBetween_14 : decode cX4_papersBetween 14 = .ok (.if_icmp .ge 76, 3) := by decide +kernel
theorem dX4_papersBetween_17 : decode cX4_papersBetween 17 = .ok (.aload_n 0, 1) := by decide +kernel
theorem dX4_papersBetween_18 : decode cX4_papersBetween 18 = .ok (.getfield 170, 3) := by decide +kernel
theorem dX4_papersBetween_21 : decode cX4_papersBetween 21 = .ok (.iload 4, 2) := by decide +kernel
theorem dX4_papersBetween_23 : decode cX4_papersBetween 23 = .ok (.ishr, 1) := by decide +kernel
theorem dX4_papersBetween_24 : decode cX4_papersBetween 24 = .ok (.ifCond .eq 66, 3) := by decide +kernel
theorem dX4_papersBetween_27 : decode cX4_papersBetween 27 = .ok (.aload_n 0, 1) := by decide +kernel
theorem dX4_papersBetween_28 : decode cX4_papersBetween 28 = .ok (.getfield 170, 3) := by decide +kernel
theorem dX4_papersBetween_31 : decode cX4_papersBetween 31 = .ok (.iload 4, 2) := by decide +kernel
theorem dX4_papersBetween_33 : decode cX4_papersBetween 33 = .ok (.ishr, 1) := by decide +kernel
theorem dX4_papersBetween_34 : decode cX4_papersBetween 34 = .ok (.iconst 1, 1) := by decide +kernel
theorem dX4_papersBetween_35 : decode cX4_papersBetween 35 = .ok (.iand, 1) := by decide +kernel
theorem dX4_papersBetween_36 : decode cX4_papersBetween 36 = .ok (.ifCond .eq 48, 3) := by decide +kernel
theorem dX4_papersBetween_39 : decode cX4_papersBetween 39 = .ok (.aload_n 0, 1) := by decide +kernel
theorem dX4_papersBetween_40 : decode cX4_papersBetween 40 = .ok (.getfield 37, 3) := by decide +kernel
theorem dX4_papersBetween_43 : decode cX4_papersBetween 43 = .ok (.getfield 176, 3) := by decide +kernel
theorem dX4_papersBetween_46 : decode cX4_papersBetween 46 = .ok (.iload 4, 2) := by decide +kernel
theorem dX4_papersBetween_48 : decode cX4_papersBetween 48 = .ok (.iaload, 1) := by decide +kernel
theorem dX4_papersBetween_49 : decode cX4_papersBetween 49 = .ok (.iload_n 2, 1) := by decide +kernel
theorem dX4_papersBetween_50 : decode cX4_papersBetween 50 = .ok (.if_icmp .le 34, 3) := by decide +kernel
theorem dX4_papersBetween_53 : decode cX4_papersBetween 53 = .ok (.aload_n 0, 1) := by decide +kernel
theorem dX4_papersBetween_54 : decode cX4_papersBetween 54 = .ok (.getfield 37, 3) := by decide +kernel
theorem dX4_papersBetween_57 : decode cX4_papersBetween 57 = .ok (.getfield 176, 3) := by decide +kernel
theorem dX4_papersBetween_60 : decode cX4_papersBetween 60 = .ok (.iload 4, 2) := by decide +kernel
theorem dX4_papersBetween_62 : decode cX4_papersBetween 62 = .ok (.iaload, 1) := by decide +kernel
theorem dX4_papersBetween_63 : decode cX4_papersBetween 63 = .ok (.iload_n 2, 1) := by decide +kernel
theorem dX4_papersBetween_64 : decode cX4_papersBetween 64 = .ok (.aload_n 0, 1) := by decide +kernel
theorem dX4_papersBetween_65 : decode cX4_papersBetween 65 = .ok (.getfield 33, 3) := by decide +kernel
theorem dX4_papersBetween_68 : decode cX4_papersBetween 68 = .ok (.getfield 150, 3) := by decide +kernel
theorem dX4_papersBetween_71 : decode cX4_papersBetween 71 = .ok (.iload_n 1, 1) := by decide +kernel
theorem dX4_papersBetween_72 : decode cX4_papersBetween 72 = .ok (.iaload, 1) := by decide +kernel
theorem dX4_papersBetween_73 : decode cX4_papersBetween 73 = .ok (.iadd, 1) := by decide +kernel
theorem dX4_papersBetween_74 : decode cX4_papersBetween 74 = .ok (.if_icmp .ge 10, 3) := by decide +kernel
theorem dX4_papersBetween_77 : decode cX4_papersBetween 77 = .ok (.iload_n 3, 1) := by decide +kernel
theorem dX4_papersBetween_78 : decode cX4_papersBetween 78 = .ok (.iconst 1, 1) := by decide +kernel
theorem dX4_papersBetween_79 : decode cX4_papersBetween 79 = .ok (.iload 4, 2) := by decide +kernel
theorem dX4_papersBetween_81 : decode cX4_papersBetween 81 = .ok (.ishl, 1) := by decide +kernel
theorem dX4_papersBetween_82 : decode cX4_papersBetween 82 = .ok (.ior, 1) := by decide +kernel
theorem dX4_papersBetween_83 : decode cX4_papersBetween 83 = .ok (.istore_n 3, 1) := by decide +kernel
theorem dX4_papersBetween_84 : decode cX4_papersBetween 84 = .ok (.iinc 4 1, 3) := by decide +kernel
theorem dX4_papersBetween_87 : decode cX4_papersBetween 87 = .ok (.goto (-82), 3) := by decide +kernel
theorem dX4_papersBetween_90 : decode cX4_papersBetween 90 = .ok (.iload_n 3, 1) := by decide +kernel
theorem dX4_papersBetween_91 : decode cX4_papersBetween 91 = .ok (.ireturn, 1) := by decide +kernel
theorem dX4_startCell_0 : decode cX4_startCell 0 = .ok (.iconst 0, 1) := by decide +kernel
theorem dX4_startCell_1 : decode cX4_startCell 1 = .ok (.aload_n 0, 1) := by decide +kernel
theorem dX4_startCell_2 : decode cX4_startCell 2 = .ok (.getfield 37, 3) := by decide +kernel
theorem dX4_startCell_5 : decode cX4_startCell 5 = .ok (.getfield 263, 3) := by decide +kernel
theorem dX4_startCell_8 : decode cX4_startCell 8 = .ok (.iconst 0, 1) := by decide +kernel
theorem dX4_startCell_9 : decode cX4_startCell 9 = .ok (.aload_n 0, 1) := by decide +kernel
theorem dX4_startCell_10 : decode cX4_startCell 10 = .ok (.iconst 0, 1) := by decide +kernel
theorem dX4_startCell_11 : decode cX4_startCell 11 = .ok (.aload_n 0, 1) := by decide +kernel
theorem dX4_startCell_12 : decode cX4_startCell 12 = .ok (.getfield 37, 3) := by decide +kernel
theorem dX4_startCell_15 : decode cX4_startCell 15 = .ok (.getfield 263, 3) := by decide +kernel
theorem dX4_startCell_18 : decode cX4_startCell 18 = .ok (.invokevirtual 243, 3) := by decide +kernel
theorem dX4_startCell_21 : decode cX4_startCell 21 = .ok (.invokestatic 191, 3) := by decide +kernel
theorem dX4_startCell_24 : decode cX4_startCell 24 = .ok (.ireturn, 1) := by decide +kernel
theorem dX4_valueAtStart_0 : decode cX4_valueAtStart 0 = .ok (.aload_n 0, 1) := by decide +kernel
theorem dX4_valueAtStart_1 : decode cX4_valueAtStart 1 = .ok (.getfield 41, 3) := by decide +kernel
theorem dX4_valueAtStart_4 : decode cX4_valueAtStart 4 = .ok (.iconst 0, 1) := by decide +kernel
theorem dX4_valueAtStart_5 : decode cX4_valueAtStart 5 = .ok (.aload_n 0, 1) := by decide +kernel
theorem dX4_valueAtStart_6 : decode cX4_valueAtStart 6 = .ok (.invokevirtual 107, 3) := by decide +kernel
theorem dX4_valueAtStart_9 : decode cX4_valueAtStart 9 = .ok (.invokestatic 124, 3) := by decide +kernel
theorem dX4_valueAtStart_12 : decode cX4_valueAtStart 12 = .ok (.iaload, 1) := by decide +kernel
theorem dX4_valueAtStart_13 : decode cX4_valueAtStart 13 = .ok (.ireturn, 1) := by decide +kernel
theorem dX4_cellOf_0 : decode cX4_cellOf 0 = .ok (.iload_n 0, 1) := by decide +kernel
theorem dX4_cellOf_1 : decode cX4_cellOf 1 = .ok (.sipush 256, 3) := by decide +kernel
theorem dX4_cellOf_4 : decode cX4_cellOf 4 = .ok (.imul, 1) := by decide +kernel
theorem dX4_cellOf_5 : decode cX4_cellOf 5 = .ok (.iload_n 1, 1) := by decide +kernel
theorem dX4_cellOf_6 : decode cX4_cellOf 6 = .ok (.bipush 32, 2) := by decide +kernel
theorem dX4_cellOf_8 : decode cX4_cellOf 8 = .ok (.imul, 1) := by decide +kernel
theorem dX4_cellOf_9 : decode cX4_cellOf 9 = .ok (.iadd, 1) := by decide +kernel
theorem dX4_cellOf_10 : decode cX4_cellOf 10 = .ok (.iload_n 2, 1) := by decide +kernel
theorem dX4_cellOf_11 : decode cX4_cellOf 11 = .ok (.iconst 4, 1) := by decide +kernel
theorem dX4_cellOf_12 : decode cX4_cellOf 12 = .ok (.imul, 1) := by decide +kernel
theorem dX4_cellOf_13 : decode cX4_cellOf 13 = .ok (.iadd, 1) := by decide +kernel
theorem dX4_cellOf_14 : decode cX4_cellOf 14 = .ok (.iload_n 3, 1) := by decide +kernel
theorem dX4_cellOf_15 : decode cX4_cellOf 15 = .ok (.iadd, 1) := by decide +kernel
theorem dX4_cellOf_16 : decode cX4_cellOf 16 = .ok (.ireturn, 1) := by decide +kernel
theorem dX4_townOf_0 : decode cX4_townOf 0 = .ok (.iload_n 0, 1) := by decide +kernel
theorem dX4_townOf_1 : decode cX4_townOf 1 = .ok (.bipush 32, 2) := by decide +kernel
theorem dX4_townOf_3 : decode cX4_townOf 3 = .ok (.idiv, 1) := by decide +kernel
theorem dX4_townOf_4 : decode cX4_townOf 4 = .ok (.bipush 8, 2) := by decide +kernel
theorem dX4_townOf_6 : decode cX4_townOf 6 = .ok (.irem, 1) := by decide +kernel
theorem dX4_townOf_7 : decode cX4_townOf 7 = .ok (.ireturn, 1) := by decide +kernel
theorem dX4_stampsOf_0 : decode cX4_stampsOf 0 = .ok (.iload_n 0, 1) := by decide +kernel
theorem dX4_stampsOf_1 : decode cX4_stampsOf 1 = .ok (.bipush 32, 2) := by decide +kernel
theorem dX4_stampsOf_3 : decode cX4_stampsOf 3 = .ok (.irem, 1) := by decide +kernel
theorem dX4_stampsOf_4 : decode cX4_stampsOf 4 = .ok (.iconst 4, 1) := by decide +kernel
theorem dX4_stampsOf_5 : decode cX4_stampsOf 5 = .ok (.idiv, 1) := by decide +kernel
theorem dX4_stampsOf_6 : decode cX4_stampsOf 6 = .ok (.ireturn, 1) := by decide +kernel
theorem dX4_mostSlept_0 : decode cX4_mostSlept 0 = .ok (.iload_n 1, 1) := by decide +kernel
theorem dX4_mostSlept_1 : decode cX4_mostSlept 1 = .ok (.bipush 24, 2) := by decide +kernel
theorem dX4_mostSlept_3 : decode cX4_mostSlept 3 = .ok (.irem, 1) := by decide +kernel
theorem dX4_mostSlept_4 : decode cX4_mostSlept 4 = .ok (.istore_n 2, 1) := by decide +kernel
theorem dX4_mostSlept_5 : decode cX4_mostSlept 5 = .ok (.iload_n 2, 1) := by decide +kernel
theorem dX4_mostSlept_6 : decode cX4_mostSlept 6 = .ok (.bipush 8, 2) := by decide +kernel
theorem dX4_mostSlept_8 : decode cX4_mostSlept 8 = .ok (.if_icmp .ge 17, 3) := by decide +kernel
theorem dX4_mostSlept_11 : decode cX4_mostSlept 11 = .ok (.aload_n 0, 1) := by decide +kernel
theorem dX4_mostSlept_12 : decode cX4_mostSlept 12 = .ok (.getfield 37, 3) := by decide +kernel
theorem dX4_mostSlept_15 : decode cX4_mostSlept 15 = .ok (.getfield 240, 3) := by decide +kernel
theorem dX4_mostSlept_18 : decode cX4_mostSlept 18 = .ok (.iload_n 2, 1) := by decide +kernel
theorem dX4_mostSlept_19 : decode cX4_mostSlept 19 = .ok (.invokestatic 231, 3) := by decide +kernel
theorem dX4_mostSlept_22 : decode cX4_mostSlept 22 = .ok (.goto 4, 3) := by decide +kernel
theorem dX4_mostSlept_25 : decode cX4_mostSlept 25 = .ok (.iconst 0, 1) := by decide +kernel
theorem dX4_mostSlept_26 : decode cX4_mostSlept 26 = .ok (.ireturn, 1) := by decide +kernel
theorem dX4_index_0 : decode cX4_index 0 = .ok (.iload_n 0, 1) := by decide +kernel
theorem dX4_index_1 : decode cX4_index 1 = .ok (.bipush 24, 2) := by decide +kernel
theorem dX4_index_3 : decode cX4_index 3 = .ok (.irem, 1) := by decide +kernel
theorem dX4_index_4 : decode cX4_index 4 = .ok (.istore_n 2, 1) := by decide +kernel
theorem dX4_index_5 : decode cX4_index 5 = .ok (.iload_n 0, 1) := by decide +kernel
theorem dX4_index_6 : decode cX4_index 6 = .ok (.bipush 24, 2) := by decide +kernel
theorem dX4_index_8 : decode cX4_index 8 = .ok (.idiv, 1) := by decide +kernel
theorem dX4_index_9 : decode cX4_index 9 = .ok (.bipush 52, 2) := by decide +kernel
theorem dX4_index_11 : decode cX4_index 11 = .ok (.imul, 1) := by decide +kernel
theorem dX4_index_12 : decode cX4_index 12 = .ok (.iload_n 2, 1) := by decide +kernel
theorem dX4_index_13 : decode cX4_index 13 = .ok (.iadd, 1) := by decide +kernel
theorem dX4_index_14 : decode cX4_index 14 = .ok (.istore_n 3, 1) := by decide +kernel
theorem dX4_index_15 : decode cX4_index 15 = .ok (.iload_n 3, 1) := by decide +kernel
theorem dX4_index_16 : decode cX4_index 16 = .ok (.iconst 4, 1) := by decide +kernel
theorem dX4_index_17 : decode cX4_index 17 = .ok (.iconst 0, 1) := by decide +kernel
theorem dX4_index_18 : decode cX4_index 18 = .ok (.iload_n 2, 1) := by decide +kernel
theorem dX4_index_19 : decode cX4_index 19 = .ok (.bipush 8, 2) := by decide +kernel
theorem dX4_index_21 : decode cX4_index 21 = .ok (.invokestatic 231, 3) := by decide +kernel
theorem dX4_index_24 : decode cX4_index 24 = .ok (.iconst 1, 1) := by decide +kernel
theorem dX4_index_25 : decode cX4_index 25 = .ok (.isub, 1) := by decide +kernel
theorem dX4_index_26 : decode cX4_index 26 = .ok (.invokestatic 101, 3) := by decide +kernel
theorem dX4_index_29 : decode cX4_index 29 = .ok (.imul, 1) := by decide +kernel
theorem dX4_index_30 : decode cX4_index 30 = .ok (.iadd, 1) := by decide +kernel
theorem dX4_index_31 : decode cX4_index 31 = .ok (.istore_n 3, 1) := by decide +kernel
theorem dX4_index_32 : decode cX4_index 32 = .ok (.iload_n 3, 1) := by decide +kernel
theorem dX4_index_33 : decode cX4_index 33 = .ok (.sipush 256, 3) := by decide +kernel
theorem dX4_index_36 : decode cX4_index 36 = .ok (.imul, 1) := by decide +kernel
theorem dX4_index_37 : decode cX4_index 37 = .ok (.iload_n 1, 1) := by decide +kernel
theorem dX4_index_38 : decode cX4_index 38 = .ok (.iadd, 1) := by decide +kernel
theorem dX4_index_39 : decode cX4_index 39 = .ok (.ireturn, 1) := by decide +kernel
theorem dX5_init_0 : decode cX5_init 0 = .ok (.aload_n 0, 1) := by decide +kernel
theorem dX5_init_1 : decode cX5_init 1 = .ok (.invokespecial 3, 3) := by decide +kernel
theorem dX5_init_4 : decode cX5_init 4 = .ok (.aload_n 0, 1) := by decide +kernel
