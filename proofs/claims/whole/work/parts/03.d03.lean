theorem dX5_init_5 : decode cX5_init 5 = .ok (.bipush 20, 2) := by decide +kernel
theorem dX5_init_7 : decode cX5_init 7 = .ok (.newarray .int, 2) := by decide +kernel
theorem dX5_init_9 : decode cX5_init 9 = .ok (.putfield 11, 3) := by decide +kernel
theorem dX5_init_12 : decode cX5_init 12 = .ok (.aload_n 0, 1) := by decide +kernel
theorem dX5_init_13 : decode cX5_init 13 = .ok (.bipush 20, 2) := by decide +kernel
theorem dX5_init_15 : decode cX5_init 15 = .ok (.newarray .int, 2) := by decide +kernel
theorem dX5_init_17 : decode cX5_init 17 = .ok (.putfield 15, 3) := by decide +kernel
theorem dX5_init_20 : decode cX5_init 20 = .ok (.aload_n 0, 1) := by decide +kernel
theorem dX5_init_21 : decode cX5_init 21 = .ok (.bipush 97, 2) := by decide +kernel
theorem dX5_init_23 : decode cX5_init 23 = .ok (.newarray .int, 2) := by decide +kernel
theorem dX5_init_25 : decode cX5_init 25 = .ok (.putfield 18, 3) := by decide +kernel
theorem dX5_init_28 : decode cX5_init 28 = .ok (.aload_n 0, 1) := by decide +kernel
theorem dX5_init_29 : decode cX5_init 29 = .ok (.bipush 97, 2) := by decide +kernel
theorem dX5_init_31 : decode cX5_init 31 = .ok (.newarray .boolean, 2) := by decide +kernel
theorem dX5_init_33 : decode cX5_init 33 = .ok (.putfield 21, 3) := by decide +kernel
theorem dX5_init_36 : decode cX5_init 36 = .ok (.aload_n 0, 1) := by decide +kernel
theorem dX5_init_37 : decode cX5_init 37 = .ok (.aload_n 1, 1) := by decide +kernel
theorem dX5_init_38 : decode cX5_init 38 = .ok (.putfield 25, 3) := by decide +kernel
theorem dX5_init_41 : decode cX5_init 41 = .ok (.return_, 1) := by decide +kernel
theorem dX5_add_0 : decode cX5_add 0 = .ok (.aload_n 0, 1) := by decide +kernel
theorem dX5_add_1 : decode cX5_add 1 = .ok (.getfield 29, 3) := by decide +kernel
theorem dX5_add_4 : decode cX5_add 4 = .ok (.bipush 20, 2) := by decide +kernel
theorem dX5_add_6 : decode cX5_add 6 = .ok (.if_icmp .lt 5, 3) := by decide +kernel
theorem dX5_add_9 : decode cX5_add 9 = .ok (.iconst (-1), 1) := by decide +kernel
theorem dX5_add_10 : decode cX5_add 10 = .ok (.ireturn, 1) := by decide +kernel
theorem dX5_add_11 : decode cX5_add 11 = .ok (.aload_n 0, 1) := by decide +kernel
theorem dX5_add_12 : decode cX5_add 12 = .ok (.getfield 11, 3) := by decide +kernel
theorem dX5_add_15 : decode cX5_add 15 = .ok (.aload_n 0, 1) := by decide +kernel
theorem dX5_add_16 : decode cX5_add 16 = .ok (.getfield 29, 3) := by decide +kernel
theorem dX5_add_19 : decode cX5_add 19 = .ok (.iload_n 1, 1) := by decide +kernel
theorem dX5_add_20 : decode cX5_add 20 = .ok (.iastore, 1) := by decide +kernel
theorem dX5_add_21 : decode cX5_add 21 = .ok (.aload_n 0, 1) := by decide +kernel
theorem dX5_add_22 : decode cX5_add 22 = .ok (.getfield 15, 3) := by decide +kernel
theorem dX5_add_25 : decode cX5_add 25 = .ok (.aload_n 0, 1) := by decide +kernel
theorem dX5_add_26 : decode cX5_add 26 = .ok (.getfield 29, 3) := by decide +kernel
theorem dX5_add_29 : decode cX5_add 29 = .ok (.iload_n 2, 1) := by decide +kernel
theorem dX5_add_30 : decode cX5_add 30 = .ok (.iastore, 1) := by decide +kernel
theorem dX5_add_31 : decode cX5_add 31 = .ok (.aload_n 0, 1) := by decide +kernel
theorem dX5_add_32 : decode cX5_add 32 = .ok (.dup, 1) := by decide +kernel
theorem dX5_add_33 : decode cX5_add 33 = .ok (.getfield 29, 3) := by decide +kernel
theorem dX5_add_36 : decode cX5_add 36 = .ok (.iconst 1, 1) := by decide +kernel
theorem dX5_add_37 : decode cX5_add 37 = .ok (.iadd, 1) := by decide +kernel
theorem dX5_add_38 : decode cX5_add 38 = .ok (.putfield 29, 3) := by decide +kernel
theorem dX5_add_41 : decode cX5_add 41 = .ok (.aload_n 0, 1) := by decide +kernel
theorem dX5_add_42 : decode cX5_add 42 = .ok (.getfield 29, 3) := by decide +kernel
theorem dX5_add_45 : decode cX5_add 45 = .ok (.ireturn, 1) := by decide +kernel
theorem dX5_barOf_0 : decode cX5_barOf 0 = .ok (.aload_n 0, 1) := by decide +kernel
theorem dX5_barOf_1 : decode cX5_barOf 1 = .ok (.aload_n 1, 1) := by decide +kernel
theorem dX5_barOf_2 : decode cX5_barOf 2 = .ok (.invokevirtual 33, 3) := by decide +kernel
theorem dX5_barOf_5 : decode cX5_barOf 5 = .ok (.istore_n 2, 1) := by decide +kernel
theorem dX5_barOf_6 : decode cX5_barOf 6 = .ok (.iload_n 2, 1) := by decide +kernel
theorem dX5_barOf_7 : decode cX5_barOf 7 = .ok (.iconst (-1), 1) := by decide +kernel
theorem dX5_barOf_8 : decode cX5_barOf 8 = .ok (.if_icmp .eq 8, 3) := by decide +kernel
theorem dX5_barOf_11 : decode cX5_barOf 11 = .ok (.bipush 100, 2) := by decide +kernel
theorem dX5_barOf_13 : decode cX5_barOf 13 = .ok (.iload_n 2, 1) := by decide +kernel
theorem dX5_barOf_14 : decode cX5_barOf 14 = .ok (.iadd, 1) := by decide +kernel
theorem dX5_barOf_15 : decode cX5_barOf 15 = .ok (.ireturn, 1) := by decide +kernel
theorem dX5_barOf_16 : decode cX5_barOf 16 = .ok (.aload_n 0, 1) := by decide +kernel
theorem dX5_barOf_17 : decode cX5_barOf 17 = .ok (.aload_n 1, 1) := by decide +kernel
theorem dX5_barOf_18 : decode cX5_barOf 18 = .ok (.invokevirtual 37, 3) := by decide +kernel
theorem dX5_barOf_21 : decode cX5_barOf 21 = .ok (.istore_n 2, 1) := by decide +kernel
theorem dX5_barOf_22 : decode cX5_barOf 22 = .ok (.iload_n 2, 1) := by decide +kernel
theorem dX5_barOf_23 : decode cX5_barOf 23 = .ok (.iconst (-1), 1) := by decide +kernel
theorem dX5_barOf_24 : decode cX5_barOf 24 = .ok (.if_icmp .eq 9, 3) := by decide +kernel
theorem dX5_barOf_27 : decode cX5_barOf 27 = .ok (.sipush 200, 3) := by decide +kernel
theorem dX5_barOf_30 : decode cX5_barOf 30 = .ok (.iload_n 2, 1) := by decide +kernel
theorem dX5_barOf_31 : decode cX5_barOf 31 = .ok (.iadd, 1) := by decide +kernel
theorem dX5_barOf_32 : decode cX5_barOf 32 = .ok (.ireturn, 1) := by decide +kernel
theorem dX5_barOf_33 : decode cX5_barOf 33 = .ok (.aload_n 0, 1) := by decide +kernel
theorem dX5_barOf_34 : decode cX5_barOf 34 = .ok (.aload_n 1, 1) := by decide +kernel
theorem dX5_barOf_35 : decode cX5_barOf 35 = .ok (.invokevirtual 40, 3) := by decide +kernel
theorem dX5_barOf_38 : decode cX5_barOf 38 = .ok (.istore_n 2, 1) := by decide +kernel
theorem dX5_barOf_39 : decode cX5_barOf 39 = .ok (.iload_n 2, 1) := by decide +kernel
theorem dX5_barOf_40 : decode cX5_barOf 40 = .ok (.iconst (-1), 1) := by decide +kernel
theorem dX5_barOf_41 : decode cX5_barOf 41 = .ok (.if_icmp .eq 9, 3) := by decide +kernel
theorem dX5_barOf_44 : decode cX5_barOf 44 = .ok (.sipush 300, 3) := by decide +kernel
theorem dX5_barOf_47 : decode cX5_barOf 47 = .ok (.iload_n 2, 1) := by decide +kernel
theorem dX5_barOf_48 : decode cX5_barOf 48 = .ok (.iadd, 1) := by decide +kernel
theorem dX5_barOf_49 : decode cX5_barOf 49 = .ok (.ireturn, 1) := by decide +kernel
theorem dX5_barOf_50 : decode cX5_barOf 50 = .ok (.aload_n 0, 1) := by decide +kernel
theorem dX5_barOf_51 : decode cX5_barOf 51 = .ok (.aload_n 1, 1) := by decide +kernel
theorem dX5_barOf_52 : decode cX5_barOf 52 = .ok (.invokevirtual 43, 3) := by decide +kernel
theorem dX5_barOf_55 : decode cX5_barOf 55 = .ok (.istore_n 2, 1) := by decide +kernel
theorem dX5_barOf_56 : decode cX5_barOf 56 = .ok (.iload_n 2, 1) := by decide +kernel
theorem dX5_barOf_57 : decode cX5_barOf 57 = .ok (.iconst (-1), 1) := by decide +kernel
theorem dX5_barOf_58 : decode cX5_barOf 58 = .ok (.if_icmp .eq 9, 3) := by decide +kernel
theorem dX5_barOf_61 : decode cX5_barOf 61 = .ok (.sipush 400, 3) := by decide +kernel
theorem dX5_barOf_64 : decode cX5_barOf 64 = .ok (.iload_n 2, 1) := by decide +kernel
theorem dX5_barOf_65 : decode cX5_barOf 65 = .ok (.iadd, 1) := by decide +kernel
theorem dX5_barOf_66 : decode cX5_barOf 66 = .ok (.ireturn, 1) := by decide +kernel
theorem dX5_barOf_67 : decode cX5_barOf 67 = .ok (.aload_n 0, 1) := by decide +kernel
theorem dX5_barOf_68 : decode cX5_barOf 68 = .ok (.aload_n 1, 1) := by decide +kernel
theorem dX5_barOf_69 : decode cX5_barOf 69 = .ok (.invokevirtual 46, 3) := by decide +kernel
theorem dX5_barOf_72 : decode cX5_barOf 72 = .ok (.istore_n 2, 1) := by decide +kernel
theorem dX5_barOf_73 : decode cX5_barOf 73 = .ok (.iload_n 2, 1) := by decide +kernel
theorem dX5_barOf_74 : decode cX5_barOf 74 = .ok (.iconst (-1), 1) := by decide +kernel
theorem dX5_barOf_75 : decode cX5_barOf 75 = .ok (.if_icmp .ne 7, 3) := by decide +kernel
theorem dX5_barOf_78 : decode cX5_barOf 78 = .ok (.iconst 0, 1) := by decide +kernel
theorem dX5_barOf_79 : decode cX5_barOf 79 = .ok (.goto 8, 3) := by decide +kernel
theorem dX5_barOf_82 : decode cX5_barOf 82 = .ok (.sipush 500, 3) := by decide +kernel
theorem dX5_barOf_85 : decode cX5_barOf 85 = .ok (.iload_n 2, 1) := by decide +kernel
theorem dX5_barOf_86 : decode cX5_barOf 86 = .ok (.iadd, 1) := by decide +kernel
theorem dX5_barOf_87 : decode cX5_barOf 87 = .ok (.ireturn, 1) := by decide +kernel
theorem dX5_wrongLeg_0 : decode cX5_wrongLeg 0 = .ok (.aload_n 1, 1) := by decide +kernel
theorem dX5_wrongLeg_1 : decode cX5_wrongLeg 1 = .ok (.getfield 49, 3) := by decide +kernel
theorem dX5_wrongLeg_4 : decode cX5_wrongLeg 4 = .ok (.istore_n 2, 1) := by decide +kernel
theorem dX5_wrongLeg_5 : decode cX5_wrongLeg 5 = .ok (.iconst 0, 1) := by decide +kernel
theorem dX5_wrongLeg_6 : decode cX5_wrongLeg 6 = .ok (.istore_n 3, 1) := by decide +kernel
theorem dX5_wrongLeg_7 : decode cX5_wrongLeg 7 = .ok (.iconst 0, 1) := by decide +kernel
theorem dX5_wrongLeg_8 : decode cX5_wrongLeg 8 = .ok (.istore 4, 2) := by decide +kernel
theorem dX5_wrongLeg_10 : decode cX5_wrongLeg 10 = .ok (.iload 4, 2) := by decide +kernel
theorem dX5_wrongLeg_12 : decode cX5_wrongLeg 12 = .ok (.aload_n 0, 1) := by decide +kernel
theorem dX5_wrongLeg_13 : decode cX5_wrongLeg 13 = .ok (.getfield 29, 3) := by decide +kernel
theorem dX5_wrongLeg_16 : decode cX5_wrongLeg 16 = .ok (.if_icmp .ge 153, 3) := by decide +kernel
theorem dX5_wrongLeg_19 : decode cX5_wrongLeg 19 = .ok (.aload_n 0, 1) := by decide +kernel
theorem dX5_wrongLeg_20 : decode cX5_wrongLeg 20 = .ok (.getfield 11, 3) := by decide +kernel
theorem dX5_wrongLeg_23 : decode cX5_wrongLeg 23 = .ok (.iload 4, 2) := by decide +kernel
theorem dX5_wrongLeg_25 : decode cX5_wrongLeg 25 = .ok (.iaload, 1) := by decide +kernel
theorem dX5_wrongLeg_26 : decode cX5_wrongLeg 26 = .ok (.istore 5, 2) := by decide +kernel
theorem dX5_wrongLeg_28 : decode cX5_wrongLeg 28 = .ok (.aload_n 0, 1) := by decide +kernel
theorem dX5_wrongLeg_29 : decode cX5_wrongLeg 29 = .ok (.getfield 15, 3) := by decide +kernel
theorem dX5_wrongLeg_32 : decode cX5_wrongLeg 32 = .ok (.iload 4, 2) := by decide +kernel
theorem dX5_wrongLeg_34 : decode cX5_wrongLeg 34 = .ok (.iaload, 1) := by decide +kernel
theorem dX5_wrongLeg_35 : decode cX5_wrongLeg 35 = .ok (.istore 6, 2) := by decide +kernel
theorem dX5_wrongLeg_37 : decode cX5_wrongLeg 37 = .ok (.iload 6, 2) := by decide +kernel
theorem dX5_wrongLeg_39 : decode cX5_wrongLeg 39 = .ok (.aload_n 0, 1) := by decide +kernel
theorem dX5_wrongLeg_40 : decode cX5_wrongLeg 40 = .ok (.getfield 25, 3) := by decide +kernel
theorem dX5_wrongLeg_43 : decode cX5_wrongLeg 43 = .ok (.getfield 54, 3) := by decide +kernel
theorem dX5_wrongLeg_46 : decode cX5_wrongLeg 46 = .ok (.iload 5, 2) := by decide +kernel
theorem dX5_wrongLeg_48 : decode cX5_wrongLeg 48 = .ok (.iaload, 1) := by decide +kernel
theorem dX5_wrongLeg_49 : decode cX5_wrongLeg 49 = .ok (.iadd, 1) := by decide +kernel
theorem dX5_wrongLeg_50 : decode cX5_wrongLeg 50 = .ok (.istore 7, 2) := by decide +kernel
theorem dX5_wrongLeg_52 : decode cX5_wrongLeg 52 = .ok (.iload 6, 2) := by decide +kernel
theorem dX5_wrongLeg_54 : decode cX5_wrongLeg 54 = .ok (.iload_n 3, 1) := by decide +kernel
theorem dX5_wrongLeg_55 : decode cX5_wrongLeg 55 = .ok (.if_icmp .lt 40, 3) := by decide +kernel
theorem dX5_wrongLeg_58 : decode cX5_wrongLeg 58 = .ok (.aload_n 0, 1) := by decide +kernel
theorem dX5_wrongLeg_59 : decode cX5_wrongLeg 59 = .ok (.getfield 25, 3) := by decide +kernel
theorem dX5_wrongLeg_62 : decode cX5_wrongLeg 62 = .ok (.getfield 59, 3) := by decide +kernel
theorem dX5_wrongLeg_65 : decode cX5_wrongLeg 65 = .ok (.iload 5, 2) := by decide +kernel
theorem dX5_wrongLeg_67 : decode cX5_wrongLeg 67 = .ok (.iaload, 1) := by decide +kernel
theorem dX5_wrongLeg_68 : decode cX5_wrongLeg 68 = .ok (.iload_n 2, 1) := by decide +kernel
theorem dX5_wrongLeg_69 : decode cX5_wrongLeg 69 = .ok (.if_icmp .ne 26, 3) := by decide +kernel
theorem dX5_wrongLeg_72 : decode cX5_wrongLeg 72 = .ok (.aload_n 0, 1) := by decide +kernel
theorem dX5_wrongLeg_73 : decode cX5_wrongLeg 73 = .ok (.getfield 25, 3) := by decide +kernel
theorem dX5_wrongLeg_76 : decode cX5_wrongLeg 76 = .ok (.iload 5, 2) := by decide +kernel
theorem dX5_wrongLeg_78 : decode cX5_wrongLeg 78 = .ok (.iload 6, 2) := by decide +kernel
theorem dX5_wrongLeg_80 : decode cX5_wrongLeg 80 = .ok (.invokevirtual 62, 3) := by decide +kernel
theorem dX5_wrongLeg_83 : decode cX5_wrongLeg 83 = .ok (.ifCond .eq 12, 3) := by decide +kernel
theorem dX5_wrongLeg_86 : decode cX5_wrongLeg 86 = .ok (.iload 7, 2) := by decide +kernel
theorem dX5_wrongLeg_88 : decode cX5_wrongLeg 88 = .ok (.aload_n 1, 1) := by decide +kernel
theorem dX5_wrongLeg_89 : decode cX5_wrongLeg 89 = .ok (.getfield 66, 3) := by decide +kernel
theorem dX5_wrongLeg_92 : decode cX5_wrongLeg 92 = .ok (.if_icmp .le 6, 3) := by decide +kernel
theorem dX5_wrongLeg_95 : decode cX5_wrongLeg 95 = .ok (.iload 4, 2) := by decide +kernel
theorem dX5_wrongLeg_97 : decode cX5_wrongLeg 97 = .ok (.ireturn, 1) := by decide +kernel
theorem dX5_wrongLeg_98 : decode cX5_wrongLeg 98 = .ok (.aload_n 0, 1) := by decide +kernel
theorem dX5_wrongLeg_99 : decode cX5_wrongLeg 99 = .ok (.iload_n 3, 1) := by decide +kernel
theorem dX5_wrongLeg_100 : decode cX5_wrongLeg 100 = .ok (.iload 6, 2) := by decide +kernel
theorem dX5_wrongLeg_102 : decode cX5_wrongLeg 102 = .ok (.iload_n 2, 1) := by decide +kernel
theorem dX5_wrongLeg_103 : decode cX5_wrongLeg 103 = .ok (.invokevirtual 69, 3) := by decide +kernel
theorem dX5_wrongLeg_106 : decode cX5_wrongLeg 106 = .ok (.aload_n 0, 1) := by decide +kernel
theorem dX5_wrongLeg_107 : decode cX5_wrongLeg 107 = .ok (.getfield 21, 3) := by decide +kernel
theorem dX5_wrongLeg_110 : decode cX5_wrongLeg 110 = .ok (.iload 6, 2) := by decide +kernel
theorem dX5_wrongLeg_112 : decode cX5_wrongLeg 112 = .ok (.iconst 0, 1) := by decide +kernel
theorem dX5_wrongLeg_113 : decode cX5_wrongLeg 113 = .ok (.bastore, 1) := by decide +kernel
theorem dX5_wrongLeg_114 : decode cX5_wrongLeg 114 = .ok (.iload 6, 2) := by decide +kernel
theorem dX5_wrongLeg_116 : decode cX5_wrongLeg 116 = .ok (.iconst 1, 1) := by decide +kernel
theorem dX5_wrongLeg_117 : decode cX5_wrongLeg 117 = .ok (.iadd, 1) := by decide +kernel
theorem dX5_wrongLeg_118 : decode cX5_wrongLeg 118 = .ok (.istore 8, 2) := by decide +kernel
theorem dX5_wrongLeg_120 : decode cX5_wrongLeg 120 = .ok (.iload 8, 2) := by decide +kernel
theorem dX5_wrongLeg_122 : decode cX5_wrongLeg 122 = .ok (.iload 7, 2) := by decide +kernel
theorem dX5_wrongLeg_124 : decode cX5_wrongLeg 124 = .ok (.if_icmp .ge 25, 3) := by decide +kernel
theorem dX5_wrongLeg_127 : decode cX5_wrongLeg 127 = .ok (.aload_n 0, 1) := by decide +kernel
theorem dX5_wrongLeg_128 : decode cX5_wrongLeg 128 = .ok (.getfield 18, 3) := by decide +kernel
theorem dX5_wrongLeg_131 : decode cX5_wrongLeg 131 = .ok (.iload 8, 2) := by decide +kernel
theorem dX5_wrongLeg_133 : decode cX5_wrongLeg 133 = .ok (.iconst (-1), 1) := by decide +kernel
theorem dX5_wrongLeg_134 : decode cX5_wrongLeg 134 = .ok (.iastore, 1) := by decide +kernel
theorem dX5_wrongLeg_135 : decode cX5_wrongLeg 135 = .ok (.aload_n 0, 1) := by decide +kernel
theorem dX5_wrongLeg_136 : decode cX5_wrongLeg 136 = .ok (.getfield 21, 3) := by decide +kernel
theorem dX5_wrongLeg_139 : decode cX5_wrongLeg 139 = .ok (.iload 8, 2) := by decide +kernel
theorem dX5_wrongLeg_141 : decode cX5_wrongLeg 141 = .ok (.iconst 0, 1) := by decide +kernel
theorem dX5_wrongLeg_142 : decode cX5_wrongLeg 142 = .ok (.bastore, 1) := by decide +kernel
theorem dX5_wrongLeg_143 : decode cX5_wrongLeg 143 = .ok (.iinc 8 1, 3) := by decide +kernel
theorem dX5_wrongLeg_146 : decode cX5_wrongLeg 146 = .ok (.goto (-26), 3) := by decide +kernel
theorem dX5_wrongLeg_149 : decode cX5_wrongLeg 149 = .ok (.aload_n 0, 1) := by decide +kernel
theorem dX5_wrongLeg_150 : decode cX5_wrongLeg 150 = .ok (.getfield 25, 3) := by decide +kernel
theorem dX5_wrongLeg_153 : decode cX5_wrongLeg 153 = .ok (.getfield 73, 3) := by decide +kernel
theorem dX5_wrongLeg_156 : decode cX5_wrongLeg 156 = .ok (.iload 5, 2) := by decide +kernel
theorem dX5_wrongLeg_158 : decode cX5_wrongLeg 158 = .ok (.iaload, 1) := by decide +kernel
theorem dX5_wrongLeg_159 : decode cX5_wrongLeg 159 = .ok (.istore_n 2, 1) := by decide +kernel
theorem dX5_wrongLeg_160 : decode cX5_wrongLeg 160 = .ok (.iload 7, 2) := by decide +kernel
theorem dX5_wrongLeg_162 : decode cX5_wrongLeg 162 = .ok (.istore_n 3, 1) := by decide +kernel
theorem dX5_wrongLeg_163 : decode cX5_wrongLeg 163 = .ok (.iinc 4 1, 3) := by decide +kernel
theorem dX5_wrongLeg_166 : decode cX5_wrongLeg 166 = .ok (.goto (-156), 3) := by decide +kernel
theorem dX5_wrongLeg_169 : decode cX5_wrongLeg 169 = .ok (.aload_n 0, 1) := by decide +kernel
theorem dX5_wrongLeg_170 : decode cX5_wrongLeg 170 = .ok (.iload_n 3, 1) := by decide +kernel
theorem dX5_wrongLeg_171 : decode cX5_wrongLeg 171 = .ok (.aload_n 1, 1) := by decide +kernel
theorem dX5_wrongLeg_172 : decode cX5_wrongLeg 172 = .ok (.getfield 66, 3) := by decide +kernel
theorem dX5_wrongLeg_175 : decode cX5_wrongLeg 175 = .ok (.iload_n 2, 1) := by decide +kernel
theorem dX5_wrongLeg_176 : decode cX5_wrongLeg 176 = .ok (.invokevirtual 69, 3) := by decide +kernel
theorem dX5_wrongLeg_179 : decode cX5_wrongLeg 179 = .ok (.iconst (-1), 1) := by decide +kernel
theorem dX5_wrongLeg_180 : decode cX5_wrongLeg 180 = .ok (.ireturn, 1) := by decide +kernel
theorem dX5_stay_0 : decode cX5_stay 0 = .ok (.iload_n 1, 1) := by decide +kernel
theorem dX5_stay_1 : decode cX5_stay 1 = .ok (.istore 4, 2) := by decide +kernel
theorem dX5_stay_3 : decode cX5_stay 3 = .ok (.iload 4, 2) := by decide +kernel
theorem dX5_stay_5 : decode cX5_stay 5 = .ok (.iload_n 2, 1) := by decide +kernel
theorem dX5_stay_6 : decode cX5_stay 6 = .ok (.if_icmp .gt 25, 3) := by decide +kernel
theorem dX5_stay_9 : decode cX5_stay 9 = .ok (.aload_n 0, 1) := by decide +kernel
theorem dX5_stay_10 : decode cX5_stay 10 = .ok (.getfield 18, 3) := by decide +kernel
theorem dX5_stay_13 : decode cX5_stay 13 = .ok (.iload 4, 2) := by decide +kernel
theorem dX5_stay_15 : decode cX5_stay 15 = .ok (.iload_n 3, 1) := by decide +kernel
theorem dX5_stay_16 : decode cX5_stay 16 = .ok (.iastore, 1) := by decide +kernel
theorem dX5_stay_17 : decode cX5_stay 17 = .ok (.aload_n 0, 1) := by decide +kernel
theorem dX5_stay_18 : decode cX5_stay 18 = .ok (.getfield 21, 3) := by decide +kernel
theorem dX5_stay_21 : decode cX5_stay 21 = .ok (.iload 4, 2) := by decide +kernel
theorem dX5_stay_23 : decode cX5_stay 23 = .ok (.iconst 1, 1) := by decide +kernel
theorem dX5_stay_24 : decode cX5_stay 24 = .ok (.bastore, 1) := by decide +kernel
theorem dX5_stay_25 : decode cX5_stay 25 = .ok (.iinc 4 1, 3) := by decide +kernel
theorem dX5_stay_28 : decode cX5_stay 28 = .ok (.goto (-25), 3) := by decide +kernel
theorem dX5_stay_31 : decode cX5_stay 31 = .ok (.return_, 1) := by decide +kernel
theorem dX5_sleeplessDay_0 : decode cX5_sleeplessDay 0 = .ok (.iconst 0, 1) := by decide +kernel
theorem dX5_sleeplessDay_1 : decode cX5_sleeplessDay 1 = .ok (.istore_n 2, 1) := by decide +kernel
theorem dX5_sleeplessDay_2 : decode cX5_sleeplessDay 2 = .ok (.iload_n 2, 1) := by decide +kernel
theorem dX5_sleeplessDay_3 : decode cX5_sleeplessDay 3 = .ok (.bipush 24, 2) := by decide +kernel
theorem dX5_sleeplessDay_5 : decode cX5_sleeplessDay 5 = .ok (.imul, 1) := by decide +kernel
theorem dX5_sleeplessDay_6 : decode cX5_sleeplessDay 6 = .ok (.bipush 8, 2) := by decide +kernel
theorem dX5_sleeplessDay_8 : decode cX5_sleeplessDay 8 = .ok (.iadd, 1) := by decide +kernel
theorem dX5_sleeplessDay_9 : decode cX5_sleeplessDay 9 = .ok (.aload_n 1, 1) := by decide +kernel
theorem dX5_sleeplessDay_10 : decode cX5_sleeplessDay 10 = .ok (.getfield 66, 3) := by decide +kernel
theorem dX5_sleeplessDay_13 : decode cX5_sleeplessDay 13 = .ok (.if_icmp .gt 55, 3) := by decide +kernel
theorem dX5_sleeplessDay_16 : decode cX5_sleeplessDay 16 = .ok (.iconst 0, 1) := by decide +kernel
theorem dX5_sleeplessDay_17 : decode cX5_sleeplessDay 17 = .ok (.istore_n 3, 1) := by decide +kernel
theorem dX5_sleeplessDay_18 : decode cX5_sleeplessDay 18 = .ok (.iconst 0, 1) := by decide +kernel
theorem dX5_sleeplessDay_19 : decode cX5_sleeplessDay 19 = .ok (.istore 4, 2) := by decide +kernel
theorem dX5_sleeplessDay_21 : decode cX5_sleeplessDay 21 = .ok (.iload 4, 2) := by decide +kernel
theorem dX5_sleeplessDay_23 : decode cX5_sleeplessDay 23 = .ok (.bipush 8, 2) := by decide +kernel
theorem dX5_sleeplessDay_25 : decode cX5_sleeplessDay 25 = .ok (.if_icmp .ge 27, 3) := by decide +kernel
theorem dX5_sleeplessDay_28 : decode cX5_sleeplessDay 28 = .ok (.aload_n 0, 1) := by decide +kernel
theorem dX5_sleeplessDay_29 : decode cX5_sleeplessDay 29 = .ok (.getfield 21, 3) := by decide +kernel
theorem dX5_sleeplessDay_32 : decode cX5_sleeplessDay 32 = .ok (.iload_n 2, 1) := by decide +kernel
theorem dX5_sleeplessDay_33 : decode cX5_sleeplessDay 33 = .ok (.bipush 24, 2) := by decide +kernel
theorem dX5_sleeplessDay_35 : decode cX5_sleeplessDay 35 = .ok (.imul, 1) := by decide +kernel
theorem dX5_sleeplessDay_36 : decode cX5_sleeplessDay 36 = .ok (.iload 4, 2) := by decide +kernel
theorem dX5_sleeplessDay_38 : decode cX5_sleeplessDay 38 = .ok (.iadd, 1) := by decide +kernel
theorem dX5_sleeplessDay_39 : decode cX5_sleeplessDay 39 = .ok (.baload, 1) := by decide +kernel
theorem dX5_sleeplessDay_40 : decode cX5_sleeplessDay 40 = .ok (.ifCond .eq 6, 3) := by decide +kernel
theorem dX5_sleeplessDay_43 : decode cX5_sleeplessDay 43 = .ok (.iinc 3 1, 3) := by decide +kernel
theorem dX5_sleeplessDay_46 : decode cX5_sleeplessDay 46 = .ok (.iinc 4 1, 3) := by decide +kernel
theorem dX5_sleeplessDay_49 : decode cX5_sleeplessDay 49 = .ok (.goto (-28), 3) := by decide +kernel
theorem dX5_sleeplessDay_52 : decode cX5_sleeplessDay 52 = .ok (.iload_n 3, 1) := by decide +kernel
theorem dX5_sleeplessDay_53 : decode cX5_sleeplessDay 53 = .ok (.aload_n 1, 1) := by decide +kernel
theorem dX5_sleeplessDay_54 : decode cX5_sleeplessDay 54 = .ok (.getfield 76, 3) := by decide +kernel
theorem dX5_sleeplessDay_57 : decode cX5_sleeplessDay 57 = .ok (.if_icmp .ge 5, 3) := by decide +kernel
theorem dX5_sleeplessDay_60 : decode cX5_sleeplessDay 60 = .ok (.iload_n 2, 1) := by decide +kernel
theorem dX5_sleeplessDay_61 : decode cX5_sleeplessDay 61 = .ok (.ireturn, 1) := by decide +kernel
theorem dX5_sleeplessDay_62 : decode cX5_sleeplessDay 62 = .ok (.iinc 2 1, 3) := by decide +kernel
theorem dX5_sleeplessDay_65 : decode cX5_sleeplessDay 65 = .ok (.goto (-63), 3) := by decide +kernel
theorem dX5_sleeplessDay_68 : decode cX5_sleeplessDay 68 = .ok (.iconst (-1), 1) := by decide +kernel
theorem dX5_sleeplessDay_69 : decode cX5_sleeplessDay 69 = .ok (.ireturn, 1) := by decide +kernel
theorem dX5_wrongStamp_0 : decode cX5_wrongStamp 0 = .ok (.iconst 0, 1) := by decide +kernel
theorem dX5_wrongStamp_1 : decode cX5_wrongStamp 1 = .ok (.istore_n 2, 1) := by decide +kernel
theorem dX5_wrongStamp_2 : decode cX5_wrongStamp 2 = .ok (.aload_n 1, 1) := by decide +kernel
theorem dX5_wrongStamp_3 : decode cX5_wrongStamp 3 = .ok (.iconst (-1), 1) := by decide +kernel
theorem dX5_wrongStamp_4 : decode cX5_wrongStamp 4 = .ok (.invokestatic 79, 3) := by decide +kernel
theorem dX5_wrongStamp_7 : decode cX5_wrongStamp 7 = .ok (.istore_n 3, 1) := by decide +kernel
theorem dX5_wrongStamp_8 : decode cX5_wrongStamp 8 = .ok (.iconst 0, 1) := by decide +kernel
theorem dX5_wrongStamp_9 : decode cX5_wrongStamp 9 = .ok (.istore 4, 2) := by decide +kernel
theorem dX5_wrongStamp_11 : decode cX5_wrongStamp 11 = .ok (.iload 4, 2) := by decide +kernel
theorem dX5_wrongStamp_13 : decode cX5_wrongStamp 13 = .ok (.aload_n 0, 1) := by decide +kernel
theorem dX5_wrongStamp_14 : decode cX5_wrongStamp 14 = .ok (.getfield 29, 3) := by decide +kernel
theorem dX5_wrongStamp_17 : decode cX5_wrongStamp 17 = .ok (.if_icmp .ge 168, 3) := by decide +kernel
theorem dX5_wrongStamp_20 : decode cX5_wrongStamp 20 = .ok (.aload_n 0, 1) := by decide +kernel
theorem dX5_wrongStamp_21 : decode cX5_wrongStamp 21 = .ok (.getfield 11, 3) := by decide +kernel
theorem dX5_wrongStamp_24 : decode cX5_wrongStamp 24 = .ok (.iload 4, 2) := by decide +kernel
theorem dX5_wrongStamp_26 : decode cX5_wrongStamp 26 = .ok (.iaload, 1) := by decide +kernel
theorem dX5_wrongStamp_27 : decode cX5_wrongStamp 27 = .ok (.istore 5, 2) := by decide +kernel
theorem dX5_wrongStamp_29 : decode cX5_wrongStamp 29 = .ok (.aload_n 0, 1) := by decide +kernel
theorem dX5_wrongStamp_30 : decode cX5_wrongStamp 30 = .ok (.getfield 15, 3) := by decide +kernel
theorem dX5_wrongStamp_33 : decode cX5_wrongStamp 33 = .ok (.iload 4, 2) := by decide +kernel
theorem dX5_wrongStamp_35 : decode cX5_wrongStamp 35 = .ok (.iaload, 1) := by decide +kernel
theorem dX5_wrongStamp_36 : decode cX5_wrongStamp 36 = .ok (.istore 6, 2) := by decide +kernel
theorem dX5_wrongStamp_38 : decode cX5_wrongStamp 38 = .ok (.iload 6, 2) := by decide +kernel
theorem dX5_wrongStamp_40 : decode cX5_wrongStamp 40 = .ok (.aload_n 0, 1) := by decide +kernel
theorem dX5_wrongStamp_41 : decode cX5_wrongStamp 41 = .ok (.getfield 25, 3) := by decide +kernel
theorem dX5_wrongStamp_44 : decode cX5_wrongStamp 44 = .ok (.getfield 54, 3) := by decide +kernel
theorem dX5_wrongStamp_47 : decode cX5_wrongStamp 47 = .ok (.iload 5, 2) := by decide +kernel
theorem dX5_wrongStamp_49 : decode cX5_wrongStamp 49 = .ok (.iaload, 1) := by decide +kernel
theorem dX5_wrongStamp_50 : decode cX5_wrongStamp 50 = .ok (.iadd, 1) := by decide +kernel
theorem dX5_wrongStamp_51 : decode cX5_wrongStamp 51 = .ok (.istore 7, 2) := by decide +kernel
theorem dX5_wrongStamp_53 : decode cX5_wrongStamp 53 = .ok (.aload_n 0, 1) := by decide +kernel
theorem dX5_wrongStamp_54 : decode cX5_wrongStamp 54 = .ok (.getfield 25, 3) := by decide +kernel
theorem dX5_wrongStamp_57 : decode cX5_wrongStamp 57 = .ok (.getfield 83, 3) := by decide +kernel
theorem dX5_wrongStamp_60 : decode cX5_wrongStamp 60 = .ok (.iload 5, 2) := by decide +kernel
theorem dX5_wrongStamp_62 : decode cX5_wrongStamp 62 = .ok (.iaload, 1) := by decide +kernel
theorem dX5_wrongStamp_63 : decode cX5_wrongStamp 63 = .ok (.iconst (-1), 1) := by decide +kernel
theorem dX5_wrongStamp_64 : decode cX5_wrongStamp 64 = .ok (.if_icmp .eq 52, 3) := by decide +kernel
theorem dX5_wrongStamp_67 : decode cX5_wrongStamp 67 = .ok (.aload_n 1, 1) := by decide +kernel
theorem dX5_wrongStamp_68 : decode cX5_wrongStamp 68 = .ok (.iload_n 3, 1) := by decide +kernel
theorem dX5_wrongStamp_69 : decode cX5_wrongStamp 69 = .ok (.aload_n 0, 1) := by decide +kernel
theorem dX5_wrongStamp_70 : decode cX5_wrongStamp 70 = .ok (.getfield 25, 3) := by decide +kernel
theorem dX5_wrongStamp_73 : decode cX5_wrongStamp 73 = .ok (.getfield 83, 3) := by decide +kernel
theorem dX5_wrongStamp_76 : decode cX5_wrongStamp 76 = .ok (.iload 5, 2) := by decide +kernel
theorem dX5_wrongStamp_78 : decode cX5_wrongStamp 78 = .ok (.iaload, 1) := by decide +kernel
theorem dX5_wrongStamp_79 : decode cX5_wrongStamp 79 = .ok (.iconst 1, 1) := by decide +kernel
theorem dX5_wrongStamp_80 : decode cX5_wrongStamp 80 = .ok (.aload_n 0, 1) := by decide +kernel
theorem dX5_wrongStamp_81 : decode cX5_wrongStamp 81 = .ok (.getfield 25, 3) := by decide +kernel
theorem dX5_wrongStamp_84 : decode cX5_wrongStamp 84 = .ok (.iload 6, 2) := by decide +kernel
theorem dX5_wrongStamp_86 : decode cX5_wrongStamp 86 = .ok (.aload_n 0, 1) := by decide +kernel
theorem dX5_wrongStamp_87 : decode cX5_wrongStamp 87 = .ok (.getfield 25, 3) := by decide +kernel
theorem dX5_wrongStamp_90 : decode cX5_wrongStamp 90 = .ok (.getfield 59, 3) := by decide +kernel
theorem dX5_wrongStamp_93 : decode cX5_wrongStamp 93 = .ok (.iload 5, 2) := by decide +kernel
theorem dX5_wrongStamp_95 : decode cX5_wrongStamp 95 = .ok (.iaload, 1) := by decide +kernel
theorem dX5_wrongStamp_96 : decode cX5_wrongStamp 96 = .ok (.invokevirtual 86, 3) := by decide +kernel
theorem dX5_wrongStamp_99 : decode cX5_wrongStamp 99 = .ok (.invokevirtual 90, 3) := by decide +kernel
theorem dX5_wrongStamp_102 : decode cX5_wrongStamp 102 = .ok (.ifCond .ne 5, 3) := by decide +kernel
theorem dX5_wrongStamp_105 : decode cX5_wrongStamp 105 = .ok (.iload_n 2, 1) := by decide +kernel
theorem dX5_wrongStamp_106 : decode cX5_wrongStamp 106 = .ok (.ireturn, 1) := by decide +kernel
theorem dX5_wrongStamp_107 : decode cX5_wrongStamp 107 = .ok (.iinc 2 1, 3) := by decide +kernel
theorem dX5_wrongStamp_110 : decode cX5_wrongStamp 110 = .ok (.aload_n 1, 1) := by decide +kernel
theorem dX5_wrongStamp_111 : decode cX5_wrongStamp 111 = .ok (.iload_n 3, 1) := by decide +kernel
theorem dX5_wrongStamp_112 : decode cX5_wrongStamp 112 = .ok (.invokestatic 79, 3) := by decide +kernel
theorem dX5_wrongStamp_115 : decode cX5_wrongStamp 115 = .ok (.istore_n 3, 1) := by decide +kernel
theorem dX5_wrongStamp_116 : decode cX5_wrongStamp 116 = .ok (.aload_n 0, 1) := by decide +kernel
theorem dX5_wrongStamp_117 : decode cX5_wrongStamp 117 = .ok (.getfield 25, 3) := by decide +kernel
theorem dX5_wrongStamp_120 : decode cX5_wrongStamp 120 = .ok (.getfield 94, 3) := by decide +kernel
theorem dX5_wrongStamp_123 : decode cX5_wrongStamp 123 = .ok (.iload 5, 2) := by decide +kernel
theorem dX5_wrongStamp_125 : decode cX5_wrongStamp 125 = .ok (.iaload, 1) := by decide +kernel
theorem dX5_wrongStamp_126 : decode cX5_wrongStamp 126 = .ok (.iconst (-1), 1) := by decide +kernel
theorem dX5_wrongStamp_127 : decode cX5_wrongStamp 127 = .ok (.if_icmp .eq 52, 3) := by decide +kernel
theorem dX5_wrongStamp_130 : decode cX5_wrongStamp 130 = .ok (.aload_n 1, 1) := by decide +kernel
theorem dX5_wrongStamp_131 : decode cX5_wrongStamp 131 = .ok (.iload_n 3, 1) := by decide +kernel
theorem dX5_wrongStamp_132 : decode cX5_wrongStamp 132 = .ok (.aload_n 0, 1) := by decide +kernel
theorem dX5_wrongStamp_133 : decode cX5_wrongStamp 133 = .ok (.getfield 25, 3) := by decide +kernel
theorem dX5_wrongStamp_136 : decode cX5_wrongStamp 136 = .ok (.getfield 94, 3) := by decide +kernel
theorem dX5_wrongStamp_139 : decode cX5_wrongStamp 139 = .ok (.iload 5, 2) := by decide +kernel
theorem dX5_wrongStamp_141 : decode cX5_wrongStamp 141 = .ok (.iaload, 1) := by decide +kernel
theorem dX5_wrongStamp_142 : decode cX5_wrongStamp 142 = .ok (.iconst 0, 1) := by decide +kernel
theorem dX5_wrongStamp_143 : decode cX5_wrongStamp 143 = .ok (.aload_n 0, 1) := by decide +kernel
theorem dX5_wrongStamp_144 : decode cX5_wrongStamp 144 = .ok (.getfield 25, 3) := by decide +kernel
theorem dX5_wrongStamp_147 : decode cX5_wrongStamp 147 = .ok (.iload 7, 2) := by decide +kernel
theorem dX5_wrongStamp_149 : decode cX5_wrongStamp 149 = .ok (.aload_n 0, 1) := by decide +kernel
theorem dX5_wrongStamp_150 : decode cX5_wrongStamp 150 = .ok (.getfield 25, 3) := by decide +kernel
theorem dX5_wrongStamp_153 : decode cX5_wrongStamp 153 = .ok (.getfield 73, 3) := by decide +kernel
theorem dX5_wrongStamp_156 : decode cX5_wrongStamp 156 = .ok (.iload 5, 2) := by decide +kernel
theorem dX5_wrongStamp_158 : decode cX5_wrongStamp 158 = .ok (.iaload, 1) := by decide +kernel
theorem dX5_wrongStamp_159 : decode cX5_wrongStamp 159 = .ok (.invokevirtual 86, 3) := by decide +kernel
theorem dX5_wrongStamp_162 : decode cX5_wrongStamp 162 = .ok (.invokevirtual 90, 3) := by decide +kernel
theorem dX5_wrongStamp_165 : decode cX5_wrongStamp 165 = .ok (.ifCond .ne 5, 3) := by decide +kernel
theorem dX5_wrongStamp_168 : decode cX5_wrongStamp 168 = .ok (.iload_n 2, 1) := by decide +kernel
theorem dX5_wrongStamp_169 : decode cX5_wrongStamp 169 = .ok (.ireturn, 1) := by decide +kernel
theorem dX5_wrongStamp_170 : decode cX5_wrongStamp 170 = .ok (.iinc 2 1, 3) := by decide +kernel
theorem dX5_wrongStamp_173 : decode cX5_wrongStamp 173 = .ok (.aload_n 1, 1) := by decide +kernel
theorem dX5_wrongStamp_174 : decode cX5_wrongStamp 174 = .ok (.iload_n 3, 1) := by decide +kernel
theorem dX5_wrongStamp_175 : decode cX5_wrongStamp 175 = .ok (.invokestatic 79, 3) := by decide +kernel
theorem dX5_wrongStamp_178 : decode cX5_wrongStamp 178 = .ok (.istore_n 3, 1) := by decide +kernel
theorem dX5_wrongStamp_179 : decode cX5_wrongStamp 179 = .ok (.iinc 4 1, 3) := by decide +kernel
theorem dX5_wrongStamp_182 : decode cX5_wrongStamp 182 = .ok (.goto (-171), 3) := by decide +kernel
theorem dX5_wrongStamp_185 : decode cX5_wrongStamp 185 = .ok (.iload_n 3, 1) := by decide +kernel
theorem dX5_wrongStamp_186 : decode cX5_wrongStamp 186 = .ok (.iconst (-1), 1) := by decide +kernel
theorem dX5_wrongStamp_187 : decode cX5_wrongStamp 187 = .ok (.if_icmp .ne 7, 3) := by decide +kernel
theorem dX5_wrongStamp_190 : decode cX5_wrongStamp 190 = .ok (.iconst (-1), 1) := by decide +kernel
theorem dX5_wrongStamp_191 : decode cX5_wrongStamp 191 = .ok (.goto 4, 3) := by decide +kernel
theorem dX5_wrongStamp_194 : decode cX5_wrongStamp 194 = .ok (.iload_n 2, 1) := by decide +kernel
theorem dX5_wrongStamp_195 : decode cX5_wrongStamp 195 = .ok (.ireturn, 1) := by decide +kernel
theorem dX5_stampBehind_0 : decode cX5_stampBehind 0 = .ok (.iload_n 1, 1) := by decide +kernel
theorem dX5_stampBehind_1 : decode cX5_stampBehind 1 = .ok (.iconst 1, 1) := by decide +kernel
theorem dX5_stampBehind_2 : decode cX5_stampBehind 2 = .ok (.iadd, 1) := by decide +kernel
theorem dX5_stampBehind_3 : decode cX5_stampBehind 3 = .ok (.istore_n 2, 1) := by decide +kernel
theorem dX5_stampBehind_4 : decode cX5_stampBehind 4 = .ok (.iload_n 2, 1) := by decide +kernel
theorem dX5_stampBehind_5 : decode cX5_stampBehind 5 = .ok (.aload_n 0, 1) := by decide +kernel
theorem dX5_stampBehind_6 : decode cX5_stampBehind 6 = .ok (.getfield 97, 3) := by decide +kernel
theorem dX5_stampBehind_9 : decode cX5_stampBehind 9 = .ok (.if_icmp .ge 20, 3) := by decide +kernel
theorem dX5_stampBehind_12 : decode cX5_stampBehind 12 = .ok (.aload_n 0, 1) := by decide +kernel
theorem dX5_stampBehind_13 : decode cX5_stampBehind 13 = .ok (.iload_n 2, 1) := by decide +kernel
theorem dX5_stampBehind_14 : decode cX5_stampBehind 14 = .ok (.iconst 0, 1) := by decide +kernel
theorem dX5_stampBehind_15 : decode cX5_stampBehind 15 = .ok (.invokevirtual 98, 3) := by decide +kernel
theorem dX5_stampBehind_18 : decode cX5_stampBehind 18 = .ok (.ifCond .eq 5, 3) := by decide +kernel
theorem dX5_stampBehind_21 : decode cX5_stampBehind 21 = .ok (.iload_n 2, 1) := by decide +kernel
theorem dX5_stampBehind_22 : decode cX5_stampBehind 22 = .ok (.ireturn, 1) := by decide +kernel
theorem dX5_stampBehind_23 : decode cX5_stampBehind 23 = .ok (.iinc 2 1, 3) := by decide +kernel
theorem dX5_stampBehind_26 : decode cX5_stampBehind 26 = .ok (.goto (-22), 3) := by decide +kernel
theorem dX5_stampBehind_29 : decode cX5_stampBehind 29 = .ok (.iconst (-1), 1) := by decide +kernel
theorem dX5_stampBehind_30 : decode cX5_stampBehind 30 = .ok (.ireturn, 1) := by decide +kernel
theorem dX5_missedPaper_0 : decode cX5_missedPaper 0 = .ok (.iconst 0, 1) := by decide +kernel
theorem dX5_missedPaper_1 : decode cX5_missedPaper 1 = .ok (.istore_n 2, 1) := by decide +kernel
theorem dX5_missedPaper_2 : decode cX5_missedPaper 2 = .ok (.iload_n 2, 1) := by decide +kernel
theorem dX5_missedPaper_3 : decode cX5_missedPaper 3 = .ok (.aload_n 1, 1) := by decide +kernel
theorem dX5_missedPaper_4 : decode cX5_missedPaper 4 = .ok (.getfield 97, 3) := by decide +kernel
theorem dX5_missedPaper_7 : decode cX5_missedPaper 7 = .ok (.if_icmp .ge 53, 3) := by decide +kernel
theorem dX5_missedPaper_10 : decode cX5_missedPaper 10 = .ok (.aload_n 1, 1) := by decide +kernel
theorem dX5_missedPaper_11 : decode cX5_missedPaper 11 = .ok (.iload_n 2, 1) := by decide +kernel
theorem dX5_missedPaper_12 : decode cX5_missedPaper 12 = .ok (.iconst 1, 1) := by decide +kernel
theorem dX5_missedPaper_13 : decode cX5_missedPaper 13 = .ok (.invokevirtual 98, 3) := by decide +kernel
theorem dX5_missedPaper_16 : decode cX5_missedPaper 16 = .ok (.ifCond .eq 38, 3) := by decide +kernel
theorem dX5_missedPaper_19 : decode cX5_missedPaper 19 = .ok (.aload_n 1, 1) := by decide +kernel
theorem dX5_missedPaper_20 : decode cX5_missedPaper 20 = .ok (.getfield 101, 3) := by decide +kernel
theorem dX5_missedPaper_23 : decode cX5_missedPaper 23 = .ok (.iload_n 2, 1) := by decide +kernel
theorem dX5_missedPaper_24 : decode cX5_missedPaper 24 = .ok (.iaload, 1) := by decide +kernel
theorem dX5_missedPaper_25 : decode cX5_missedPaper 25 = .ok (.aload_n 1, 1) := by decide +kernel
theorem dX5_missedPaper_26 : decode cX5_missedPaper 26 = .ok (.getfield 66, 3) := by decide +kernel
theorem dX5_missedPaper_29 : decode cX5_missedPaper 29 = .ok (.if_icmp .gt 25, 3) := by decide +kernel
theorem dX5_missedPaper_32 : decode cX5_missedPaper 32 = .ok (.aload_n 0, 1) := by decide +kernel
theorem dX5_missedPaper_33 : decode cX5_missedPaper 33 = .ok (.getfield 18, 3) := by decide +kernel
theorem dX5_missedPaper_36 : decode cX5_missedPaper 36 = .ok (.aload_n 1, 1) := by decide +kernel
theorem dX5_missedPaper_37 : decode cX5_missedPaper 37 = .ok (.getfield 101, 3) := by decide +kernel
theorem dX5_missedPaper_40 : decode cX5_missedPaper 40 = .ok (.iload_n 2, 1) := by decide +kernel
theorem dX5_missedPaper_41 : decode cX5_missedPaper 41 = .ok (.iaload, 1) := by decide +kernel
theorem dX5_missedPaper_42 : decode cX5_missedPaper 42 = .ok (.iaload, 1) := by decide +kernel
theorem dX5_missedPaper_43 : decode cX5_missedPaper 43 = .ok (.aload_n 1, 1) := by decide +kernel
theorem dX5_missedPaper_44 : decode cX5_missedPaper 44 = .ok (.getfield 102, 3) := by decide +kernel
theorem dX5_missedPaper_47 : decode cX5_missedPaper 47 = .ok (.iload_n 2, 1) := by decide +kernel
theorem dX5_missedPaper_48 : decode cX5_missedPaper 48 = .ok (.iaload, 1) := by decide +kernel
theorem dX5_missedPaper_49 : decode cX5_missedPaper 49 = .ok (.if_icmp .eq 5, 3) := by decide +kernel
theorem dX5_missedPaper_52 : decode cX5_missedPaper 52 = .ok (.iload_n 2, 1) := by decide +kernel
theorem dX5_missedPaper_53 : decode cX5_missedPaper 53 = .ok (.ireturn, 1) := by decide +kernel
theorem dX5_missedPaper_54 : decode cX5_missedPaper 54 = .ok (.iinc 2 1, 3) := by decide +kernel
theorem dX5_missedPaper_57 : decode cX5_missedPaper 57 = .ok (.goto (-55), 3) := by decide +kernel
theorem dX5_missedPaper_60 : decode cX5_missedPaper 60 = .ok (.iconst (-1), 1) := by decide +kernel
theorem dX5_missedPaper_61 : decode cX5_missedPaper 61 = .ok (.ireturn, 1) := by decide +kernel
theorem dX5_missedLook_0 : decode cX5_missedLook 0 = .ok (.iconst 0, 1) := by decide +kernel
theorem dX5_missedLook_1 : decode cX5_missedLook 1 = .ok (.istore_n 2, 1) := by decide +kernel
theorem dX5_missedLook_2 : decode cX5_missedLook 2 = .ok (.iload_n 2, 1) := by decide +kernel
theorem dX5_missedLook_3 : decode cX5_missedLook 3 = .ok (.aload_n 1, 1) := by decide +kernel
theorem dX5_missedLook_4 : decode cX5_missedLook 4 = .ok (.getfield 97, 3) := by decide +kernel
theorem dX5_missedLook_7 : decode cX5_missedLook 7 = .ok (.if_icmp .ge 29, 3) := by decide +kernel
theorem dX5_missedLook_10 : decode cX5_missedLook 10 = .ok (.aload_n 1, 1) := by decide +kernel
theorem dX5_missedLook_11 : decode cX5_missedLook 11 = .ok (.iload_n 2, 1) := by decide +kernel
theorem dX5_missedLook_12 : decode cX5_missedLook 12 = .ok (.iconst 2, 1) := by decide +kernel
theorem dX5_missedLook_13 : decode cX5_missedLook 13 = .ok (.invokevirtual 98, 3) := by decide +kernel
theorem dX5_missedLook_16 : decode cX5_missedLook 16 = .ok (.ifCond .eq 14, 3) := by decide +kernel
theorem dX5_missedLook_19 : decode cX5_missedLook 19 = .ok (.aload_n 0, 1) := by decide +kernel
theorem dX5_missedLook_20 : decode cX5_missedLook 20 = .ok (.aload_n 1, 1) := by decide +kernel
theorem dX5_missedLook_21 : decode cX5_missedLook 21 = .ok (.iload_n 2, 1) := by decide +kernel
theorem dX5_missedLook_22 : decode cX5_missedLook 22 = .ok (.invokevirtual 105, 3) := by decide +kernel
theorem dX5_missedLook_25 : decode cX5_missedLook 25 = .ok (.ifCond .ne 5, 3) := by decide +kernel
theorem dX5_missedLook_28 : decode cX5_missedLook 28 = .ok (.iload_n 2, 1) := by decide +kernel
theorem dX5_missedLook_29 : decode cX5_missedLook 29 = .ok (.ireturn, 1) := by decide +kernel
theorem dX5_missedLook_30 : decode cX5_missedLook 30 = .ok (.iinc 2 1, 3) := by decide +kernel
theorem dX5_missedLook_33 : decode cX5_missedLook 33 = .ok (.goto (-31), 3) := by decide +kernel
theorem dX5_missedLook_36 : decode cX5_missedLook 36 = .ok (.iconst (-1), 1) := by decide +kernel
theorem dX5_missedLook_37 : decode cX5_missedLook 37 = .ok (.ireturn, 1) := by decide +kernel
theorem dX5_isSeen_0 : decode cX5_isSeen 0 = .ok (.aload_n 1, 1) := by decide +kernel
theorem dX5_isSeen_1 : decode cX5_isSeen 1 = .ok (.getfield 109, 3) := by decide +kernel
theorem dX5_isSeen_4 : decode cX5_isSeen 4 = .ok (.iload_n 2, 1) := by decide +kernel
theorem dX5_isSeen_5 : decode cX5_isSeen 5 = .ok (.iaload, 1) := by decide +kernel
theorem dX5_isSeen_6 : decode cX5_isSeen 6 = .ok (.aload_n 1, 1) := by decide +kernel
theorem dX5_isSeen_7 : decode cX5_isSeen 7 = .ok (.getfield 66, 3) := by decide +kernel
theorem dX5_isSeen_10 : decode cX5_isSeen 10 = .ok (.invokestatic 110, 3) := by decide +kernel
theorem dX5_isSeen_13 : decode cX5_isSeen 13 = .ok (.istore_n 3, 1) := by decide +kernel
theorem dX5_isSeen_14 : decode cX5_isSeen 14 = .ok (.aload_n 1, 1) := by decide +kernel
theorem dX5_isSeen_15 : decode cX5_isSeen 15 = .ok (.getfield 101, 3) := by decide +kernel
theorem dX5_isSeen_18 : decode cX5_isSeen 18 = .ok (.iload_n 2, 1) := by decide +kernel
theorem dX5_isSeen_19 : decode cX5_isSeen 19 = .ok (.iaload, 1) := by decide +kernel
theorem dX5_isSeen_20 : decode cX5_isSeen 20 = .ok (.istore 4, 2) := by decide +kernel
theorem dX5_isSeen_22 : decode cX5_isSeen 22 = .ok (.iload 4, 2) := by decide +kernel
theorem dX5_isSeen_24 : decode cX5_isSeen 24 = .ok (.iload_n 3, 1) := by decide +kernel
theorem dX5_isSeen_25 : decode cX5_isSeen 25 = .ok (.if_icmp .gt 27, 3) := by decide +kernel
theorem dX5_isSeen_28 : decode cX5_isSeen 28 = .ok (.aload_n 0, 1) := by decide +kernel
theorem dX5_isSeen_29 : decode cX5_isSeen 29 = .ok (.getfield 18, 3) := by decide +kernel
theorem dX5_isSeen_32 : decode cX5_isSeen 32 = .ok (.iload 4, 2) := by decide +kernel
theorem dX5_isSeen_34 : decode cX5_isSeen 34 = .ok (.iaload, 1) := by decide +kernel
theorem dX5_isSeen_35 : decode cX5_isSeen 35 = .ok (.aload_n 1, 1) := by decide +kernel
theorem dX5_isSeen_36 : decode cX5_isSeen 36 = .ok (.getfield 102, 3) := by decide +kernel
theorem dX5_isSeen_39 : decode cX5_isSeen 39 = .ok (.iload_n 2, 1) := by decide +kernel
theorem dX5_isSeen_40 : decode cX5_isSeen 40 = .ok (.iaload, 1) := by decide +kernel
theorem dX5_isSeen_41 : decode cX5_isSeen 41 = .ok (.if_icmp .ne 5, 3) := by decide +kernel
theorem dX5_isSeen_44 : decode cX5_isSeen 44 = .ok (.iconst 1, 1) := by decide +kernel
theorem dX5_isSeen_45 : decode cX5_isSeen 45 = .ok (.ireturn, 1) := by decide +kernel
theorem dX5_isSeen_46 : decode cX5_isSeen 46 = .ok (.iinc 4 1, 3) := by decide +kernel
theorem dX5_isSeen_49 : decode cX5_isSeen 49 = .ok (.goto (-27), 3) := by decide +kernel
theorem dX5_isSeen_52 : decode cX5_isSeen 52 = .ok (.iconst 0, 1) := by decide +kernel
theorem dX5_isSeen_53 : decode cX5_isSeen 53 = .ok (.ireturn, 1) := by decide +kernel
theorem dX6_init_0 : decode cX6_init 0 = .ok (.aload_n 0, 1) := by decide +kernel
theorem dX6_init_1 : decode cX6_init 1 = .ok (.invokespecial 1, 3) := by decide +kernel
theorem dX6_init_4 : decode cX6_init 4 = .ok (.aload_n 0, 1) := by decide +kernel
theorem dX6_init_5 : decode cX6_init 5 = .ok (.sipush 500, 3) := by decide +kernel
theorem dX6_init_8 : decode cX6_init 8 = .ok (.newarray .byte, 2) := by decide +kernel
theorem dX6_init_10 : decode cX6_init 10 = .ok (.putfield 9, 3) := by decide +kernel
theorem dX6_init_13 : decode cX6_init 13 = .ok (.aload_n 0, 1) := by decide +kernel
theorem dX6_init_14 : decode cX6_init 14 = .ok (.new 13, 3) := by decide +kernel
theorem dX6_init_17 : decode cX6_init 17 = .ok (.dup, 1) := by decide +kernel
theorem dX6_init_18 : decode cX6_init 18 = .ok (.invokespecial 15, 3) := by decide +kernel
theorem dX6_init_21 : decode cX6_init 21 = .ok (.putfield 16, 3) := by decide +kernel
theorem dX6_init_24 : decode cX6_init 24 = .ok (.aload_n 0, 1) := by decide +kernel
theorem dX6_init_25 : decode cX6_init 25 = .ok (.new 13, 3) := by decide +kernel
theorem dX6_init_28 : decode cX6_init 28 = .ok (.dup, 1) := by decide +kernel
theorem dX6_init_29 : decode cX6_init 29 = .ok (.invokespecial 15, 3) := by decide +kernel
theorem dX6_init_32 : decode cX6_init 32 = .ok (.putfield 20, 3) := by decide +kernel
theorem dX6_init_35 : decode cX6_init 35 = .ok (.aload_n 0, 1) := by decide +kernel
theorem dX6_init_36 : decode cX6_init 36 = .ok (.new 23, 3) := by decide +kernel
theorem dX6_init_39 : decode cX6_init 39 = .ok (.dup, 1) := by decide +kernel
theorem dX6_init_40 : decode cX6_init 40 = .ok (.aload_n 0, 1) := by decide +kernel
theorem dX6_init_41 : decode cX6_init 41 = .ok (.getfield 9, 3) := by decide +kernel
theorem dX6_init_44 : decode cX6_init 44 = .ok (.aload_n 0, 1) := by decide +kernel
theorem dX6_init_45 : decode cX6_init 45 = .ok (.getfield 20, 3) := by decide +kernel
theorem dX6_init_48 : decode cX6_init 48 = .ok (.invokespecial 25, 3) := by decide +kernel
theorem dX6_init_51 : decode cX6_init 51 = .ok (.putfield 28, 3) := by decide +kernel
theorem dX6_init_54 : decode cX6_init 54 = .ok (.ldc 34, 2) := by decide +kernel
theorem dX6_init_56 : decode cX6_init 56 = .ok (.newarray .int, 2) := by decide +kernel
theorem dX6_init_58 : decode cX6_init 58 = .ok (.astore_n 1, 1) := by decide +kernel
theorem dX6_init_59 : decode cX6_init 59 = .ok (.aload_n 0, 1) := by decide +kernel
theorem dX6_init_60 : decode cX6_init 60 = .ok (.new 32, 3) := by decide +kernel
theorem dX6_init_63 : decode cX6_init 63 = .ok (.dup, 1) := by decide +kernel
theorem dX6_init_64 : decode cX6_init 64 = .ok (.aload_n 0, 1) := by decide +kernel
theorem dX6_init_65 : decode cX6_init 65 = .ok (.getfield 16, 3) := by decide +kernel
theorem dX6_init_68 : decode cX6_init 68 = .ok (.new 35, 3) := by decide +kernel
theorem dX6_init_71 : decode cX6_init 71 = .ok (.dup, 1) := by decide +kernel
theorem dX6_init_72 : decode cX6_init 72 = .ok (.invokespecial 37, 3) := by decide +kernel
theorem dX6_init_75 : decode cX6_init 75 = .ok (.aload_n 1, 1) := by decide +kernel
theorem dX6_init_76 : decode cX6_init 76 = .ok (.invokespecial 38, 3) := by decide +kernel
theorem dX6_init_79 : decode cX6_init 79 = .ok (.putfield 41, 3) := by decide +kernel
theorem dX6_init_82 : decode cX6_init 82 = .ok (.aload_n 0, 1) := by decide +kernel
theorem dX6_init_83 : decode cX6_init 83 = .ok (.new 32, 3) := by decide +kernel
theorem dX6_init_86 : decode cX6_init 86 = .ok (.dup, 1) := by decide +kernel
theorem dX6_init_87 : decode cX6_init 87 = .ok (.aload_n 0, 1) := by decide +kernel
theorem dX6_init_88 : decode cX6_init 88 = .ok (.getfield 16, 3) := by decide +kernel
theorem dX6_init_91 : decode cX6_init 91 = .ok (.new 35, 3) := by decide +kernel
theorem dX6_init_94 : decode cX6_init 94 = .ok (.dup, 1) := by decide +kernel
theorem dX6_init_95 : decode cX6_init 95 = .ok (.invokespecial 37, 3) := by decide +kernel
theorem dX6_init_98 : decode cX6_init 98 = .ok (.aload_n 1, 1) := by decide +kernel
theorem dX6_init_99 : decode cX6_init 99 = .ok (.invokespecial 38, 3) := by decide +kernel
theorem dX6_init_102 : decode cX6_init 102 = .ok (.putfield 45, 3) := by decide +kernel
theorem dX6_init_105 : decode cX6_init 105 = .ok (.aload_n 0, 1) := by decide +kernel
theorem dX6_init_106 : decode cX6_init 106 = .ok (.new 48, 3) := by decide +kernel
theorem dX6_init_109 : decode cX6_init 109 = .ok (.dup, 1) := by decide +kernel
theorem dX6_init_110 : decode cX6_init 110 = .ok (.aload_n 0, 1) := by decide +kernel
theorem dX6_init_111 : decode cX6_init 111 = .ok (.getfield 16, 3) := by decide +kernel
theorem dX6_init_114 : decode cX6_init 114 = .ok (.invokespecial 50, 3) := by decide +kernel
theorem dX6_init_117 : decode cX6_init 117 = .ok (.putfield 53, 3) := by decide +kernel
theorem dX6_init_120 : decode cX6_init 120 = .ok (.return_, 1) := by decide +kernel
theorem dX6_feed_0 : decode cX6_feed 0 = .ok (.aload_n 0, 1) := by decide +kernel
theorem dX6_feed_1 : decode cX6_feed 1 = .ok (.getfield 57, 3) := by decide +kernel
theorem dX6_feed_4 : decode cX6_feed 4 = .ok (.bipush 20, 2) := by decide +kernel
theorem dX6_feed_6 : decode cX6_feed 6 = .ok (.iadd, 1) := by decide +kernel
theorem dX6_feed_7 : decode cX6_feed 7 = .ok (.sipush 500, 3) := by decide +kernel
theorem dX6_feed_10 : decode cX6_feed 10 = .ok (.if_icmp .le 5, 3) := by decide +kernel
theorem dX6_feed_13 : decode cX6_feed 13 = .ok (.iconst (-1), 1) := by decide +kernel
theorem dX6_feed_14 : decode cX6_feed 14 = .ok (.ireturn, 1) := by decide +kernel
theorem dX6_feed_15 : decode cX6_feed 15 = .ok (.aload_n 0, 1) := by decide +kernel
theorem dX6_feed_16 : decode cX6_feed 16 = .ok (.iload_n 1, 1) := by decide +kernel
theorem dX6_feed_17 : decode cX6_feed 17 = .ok (.invokevirtual 61, 3) := by decide +kernel
theorem dX6_feed_20 : decode cX6_feed 20 = .ok (.aload_n 0, 1) := by decide +kernel
theorem dX6_feed_21 : decode cX6_feed 21 = .ok (.iload_n 2, 1) := by decide +kernel
theorem dX6_feed_22 : decode cX6_feed 22 = .ok (.invokevirtual 61, 3) := by decide +kernel
theorem dX6_feed_25 : decode cX6_feed 25 = .ok (.aload_n 0, 1) := by decide +kernel
theorem dX6_feed_26 : decode cX6_feed 26 = .ok (.iload_n 3, 1) := by decide +kernel
theorem dX6_feed_27 : decode cX6_feed 27 = .ok (.invokevirtual 61, 3) := by decide +kernel
theorem dX6_feed_30 : decode cX6_feed 30 = .ok (.aload_n 0, 1) := by decide +kernel
theorem dX6_feed_31 : decode cX6_feed 31 = .ok (.iload 4, 2) := by decide +kernel
theorem dX6_feed_33 : decode cX6_feed 33 = .ok (.invokevirtual 61, 3) := by decide +kernel
theorem dX6_feed_36 : decode cX6_feed 36 = .ok (.aload_n 0, 1) := by decide +kernel
theorem dX6_feed_37 : decode cX6_feed 37 = .ok (.iload 5, 2) := by decide +kernel
theorem dX6_feed_39 : decode cX6_feed 39 = .ok (.invokevirtual 61, 3) := by decide +kernel
theorem dX6_feed_42 : decode cX6_feed 42 = .ok (.aload_n 0, 1) := by decide +kernel
theorem dX6_feed_43 : decode cX6_feed 43 = .ok (.getfield 57, 3) := by decide +kernel
theorem dX6_feed_46 : decode cX6_feed 46 = .ok (.ireturn, 1) := by decide +kernel
theorem dX6_append_0 : decode cX6_append 0 = .ok (.bipush 24, 2) := by decide +kernel
theorem dX6_append_2 : decode cX6_append 2 = .ok (.istore_n 2, 1) := by decide +kernel
theorem dX6_append_3 : decode cX6_append 3 = .ok (.iload_n 2, 1) := by decide +kernel
theorem dX6_append_4 : decode cX6_append 4 = .ok (.ifCond .lt 42, 3) := by decide +kernel
theorem dX6_append_7 : decode cX6_append 7 = .ok (.aload_n 0, 1) := by decide +kernel
theorem dX6_append_8 : decode cX6_append 8 = .ok (.getfield 57, 3) := by decide +kernel
theorem dX6_append_11 : decode cX6_append 11 = .ok (.sipush 500, 3) := by decide +kernel
theorem dX6_append_14 : decode cX6_append 14 = .ok (.if_icmp .ge 32, 3) := by decide +kernel
theorem dX6_append_17 : decode cX6_append 17 = .ok (.aload_n 0, 1) := by decide +kernel
theorem dX6_append_18 : decode cX6_append 18 = .ok (.getfield 9, 3) := by decide +kernel
theorem dX6_append_21 : decode cX6_append 21 = .ok (.aload_n 0, 1) := by decide +kernel
theorem dX6_append_22 : decode cX6_append 22 = .ok (.getfield 57, 3) := by decide +kernel
theorem dX6_append_25 : decode cX6_append 25 = .ok (.iload_n 1, 1) := by decide +kernel
theorem dX6_append_26 : decode cX6_append 26 = .ok (.iload_n 2, 1) := by decide +kernel
theorem dX6_append_27 : decode cX6_append 27 = .ok (.ishr, 1) := by decide +kernel
theorem dX6_append_28 : decode cX6_append 28 = .ok (.i2b, 1) := by decide +kernel
theorem dX6_append_29 : decode cX6_append 29 = .ok (.bastore, 1) := by decide +kernel
theorem dX6_append_30 : decode cX6_append 30 = .ok (.aload_n 0, 1) := by decide +kernel
theorem dX6_append_31 : decode cX6_append 31 = .ok (.dup, 1) := by decide +kernel
theorem dX6_append_32 : decode cX6_append 32 = .ok (.getfield 57, 3) := by decide +kernel
theorem dX6_append_35 : decode cX6_append 35 = .ok (.iconst 1, 1) := by decide +kernel
theorem dX6_append_36 : decode cX6_append 36 = .ok (.iadd, 1) := by decide +kernel
theorem dX6_append_37 : decode cX6_append 37 = .ok (.putfield 57, 3) := by decide +kernel
theorem dX6_append_40 : decode cX6_append 40 = .ok (.iinc 2 (-8), 3) := by decide +kernel
theorem dX6_append_43 : decode cX6_append 43 = .ok (.goto (-40), 3) := by decide +kernel
theorem dX6_append_46 : decode cX6_append 46 = .ok (.return_, 1) := by decide +kernel
theorem dX6_end_0 : decode cX6_end 0 = .ok (.iload_n 1, 1) := by decide +kernel
theorem dX6_end_1 : decode cX6_end 1 = .ok (.ifCond .lt 11, 3) := by decide +kernel
theorem dX6_end_4 : decode cX6_end 4 = .ok (.iload_n 1, 1) := by decide +kernel
theorem dX6_end_5 : decode cX6_end 5 = .ok (.aload_n 0, 1) := by decide +kernel
theorem dX6_end_6 : decode cX6_end 6 = .ok (.getfield 57, 3) := by decide +kernel
theorem dX6_end_9 : decode cX6_end 9 = .ok (.if_icmp .le 5, 3) := by decide +kernel
theorem dX6_end_12 : decode cX6_end 12 = .ok (.iconst 0, 1) := by decide +kernel
theorem dX6_end_13 : decode cX6_end 13 = .ok (.ireturn, 1) := by decide +kernel
theorem dX6_end_14 : decode cX6_end 14 = .ok (.aload_n 0, 1) := by decide +kernel
theorem dX6_end_15 : decode cX6_end 15 = .ok (.iload_n 1, 1) := by decide +kernel
theorem dX6_end_16 : decode cX6_end 16 = .ok (.putfield 57, 3) := by decide +kernel
theorem dX6_end_19 : decode cX6_end 19 = .ok (.iconst 1, 1) := by decide +kernel
theorem dX6_end_20 : decode cX6_end 20 = .ok (.ireturn, 1) := by decide +kernel
theorem dX6_fault_0 : decode cX6_fault 0 = .ok (.aload_n 0, 1) := by decide +kernel
theorem dX6_fault_1 : decode cX6_fault 1 = .ok (.getfield 28, 3) := by decide +kernel
theorem dX6_fault_4 : decode cX6_fault 4 = .ok (.aload_n 0, 1) := by decide +kernel
theorem dX6_fault_5 : decode cX6_fault 5 = .ok (.getfield 57, 3) := by decide +kernel
theorem dX6_fault_8 : decode cX6_fault 8 = .ok (.invokevirtual 65, 3) := by decide +kernel
theorem dX6_fault_11 : decode cX6_fault 11 = .ok (.ireturn, 1) := by decide +kernel
theorem dX6_map_0 : decode cX6_map 0 = .ok (.aload_n 0, 1) := by decide +kernel
theorem dX6_map_1 : decode cX6_map 1 = .ok (.getfield 28, 3) := by decide +kernel
theorem dX6_map_4 : decode cX6_map 4 = .ok (.aload_n 0, 1) := by decide +kernel
theorem dX6_map_5 : decode cX6_map 5 = .ok (.getfield 57, 3) := by decide +kernel
theorem dX6_map_8 : decode cX6_map 8 = .ok (.invokevirtual 65, 3) := by decide +kernel
theorem dX6_map_11 : decode cX6_map 11 = .ok (.iconst (-1), 1) := by decide +kernel
theorem dX6_map_12 : decode cX6_map 12 = .ok (.if_icmp .eq 5, 3) := by decide +kernel
theorem dX6_map_15 : decode cX6_map 15 = .ok (.iconst (-1), 1) := by decide +kernel
theorem dX6_map_16 : decode cX6_map 16 = .ok (.ireturn, 1) := by decide +kernel
theorem dX6_map_17 : decode cX6_map 17 = .ok (.aload_n 0, 1) := by decide +kernel
theorem dX6_map_18 : decode cX6_map 18 = .ok (.getfield 16, 3) := by decide +kernel
theorem dX6_map_21 : decode cX6_map 21 = .ok (.aload_n 0, 1) := by decide +kernel
theorem dX6_map_22 : decode cX6_map 22 = .ok (.getfield 20, 3) := by decide +kernel
theorem dX6_map_25 : decode cX6_map 25 = .ok (.invokevirtual 69, 3) := by decide +kernel
theorem dX6_map_28 : decode cX6_map 28 = .ok (.aload_n 0, 1) := by decide +kernel
theorem dX6_map_29 : decode cX6_map 29 = .ok (.iconst 0, 1) := by decide +kernel
theorem dX6_map_30 : decode cX6_map 30 = .ok (.putfield 57, 3) := by decide +kernel
theorem dX6_map_33 : decode cX6_map 33 = .ok (.aload_n 0, 1) := by decide +kernel
theorem dX6_map_34 : decode cX6_map 34 = .ok (.getfield 41, 3) := by decide +kernel
theorem dX6_map_37 : decode cX6_map 37 = .ok (.getfield 72, 3) := by decide +kernel
theorem dX6_map_40 : decode cX6_map 40 = .ok (.invokevirtual 76, 3) := by decide +kernel
theorem dX6_map_43 : decode cX6_map 43 = .ok (.aload_n 0, 1) := by decide +kernel
theorem dX6_map_44 : decode cX6_map 44 = .ok (.getfield 45, 3) := by decide +kernel
theorem dX6_map_47 : decode cX6_map 47 = .ok (.getfield 72, 3) := by decide +kernel
theorem dX6_map_50 : decode cX6_map 50 = .ok (.invokevirtual 76, 3) := by decide +kernel
theorem dX6_map_53 : decode cX6_map 53 = .ok (.aload_n 0, 1) := by decide +kernel
theorem dX6_map_54 : decode cX6_map 54 = .ok (.getfield 53, 3) := by decide +kernel
theorem dX6_map_57 : decode cX6_map 57 = .ok (.iconst 0, 1) := by decide +kernel
theorem dX6_map_58 : decode cX6_map 58 = .ok (.putfield 79, 3) := by decide +kernel
theorem dX6_map_61 : decode cX6_map 61 = .ok (.aload_n 0, 1) := by decide +kernel
theorem dX6_map_62 : decode cX6_map 62 = .ok (.getfield 16, 3) := by decide +kernel
theorem dX6_map_65 : decode cX6_map 65 = .ok (.getfield 82, 3) := by decide +kernel
theorem dX6_map_68 : decode cX6_map 68 = .ok (.ireturn, 1) := by decide +kernel
theorem dX6_man_0 : decode cX6_man 0 = .ok (.aload_n 0, 1) := by decide +kernel
theorem dX6_man_1 : decode cX6_man 1 = .ok (.iload_n 1, 1) := by decide +kernel
theorem dX6_man_2 : decode cX6_man 2 = .ok (.invokevirtual 85, 3) := by decide +kernel
theorem dX6_man_5 : decode cX6_man 5 = .ok (.ifCond .eq 36, 3) := by decide +kernel
theorem dX6_man_8 : decode cX6_man 8 = .ok (.aload_n 0, 1) := by decide +kernel
theorem dX6_man_9 : decode cX6_man 9 = .ok (.getfield 16, 3) := by decide +kernel
theorem dX6_man_12 : decode cX6_man 12 = .ok (.iload_n 2, 1) := by decide +kernel
theorem dX6_man_13 : decode cX6_man 13 = .ok (.invokevirtual 89, 3) := by decide +kernel
theorem dX6_man_16 : decode cX6_man 16 = .ok (.ifCond .eq 25, 3) := by decide +kernel
theorem dX6_man_19 : decode cX6_man 19 = .ok (.iload_n 3, 1) := by decide +kernel
theorem dX6_man_20 : decode cX6_man 20 = .ok (.ifCond .lt 21, 3) := by decide +kernel
theorem dX6_man_23 : decode cX6_man 23 = .ok (.iload_n 3, 1) := by decide +kernel
theorem dX6_man_24 : decode cX6_man 24 = .ok (.iconst 4, 1) := by decide +kernel
theorem dX6_man_25 : decode cX6_man 25 = .ok (.if_icmp .gt 16, 3) := by decide +kernel
theorem dX6_man_28 : decode cX6_man 28 = .ok (.iload 4, 2) := by decide +kernel
theorem dX6_man_30 : decode cX6_man 30 = .ok (.iconst 1, 1) := by decide +kernel
theorem dX6_man_31 : decode cX6_man 31 = .ok (.if_icmp .lt 10, 3) := by decide +kernel
theorem dX6_man_34 : decode cX6_man 34 = .ok (.iload 4, 2) := by decide +kernel
theorem dX6_man_36 : decode cX6_man 36 = .ok (.bipush 96, 2) := by decide +kernel
theorem dX6_man_38 : decode cX6_man 38 = .ok (.if_icmp .le 5, 3) := by decide +kernel
theorem dX6_man_41 : decode cX6_man 41 = .ok (.iconst 0, 1) := by decide +kernel
theorem dX6_man_42 : decode cX6_man 42 = .ok (.ireturn, 1) := by decide +kernel
theorem dX6_man_43 : decode cX6_man 43 = .ok (.aload_n 0, 1) := by decide +kernel
theorem dX6_man_44 : decode cX6_man 44 = .ok (.iload_n 1, 1) := by decide +kernel
theorem dX6_man_45 : decode cX6_man 45 = .ok (.invokevirtual 92, 3) := by decide +kernel
theorem dX6_man_48 : decode cX6_man 48 = .ok (.getfield 72, 3) := by decide +kernel
theorem dX6_man_51 : decode cX6_man 51 = .ok (.iload_n 2, 1) := by decide +kernel
theorem dX6_man_52 : decode cX6_man 52 = .ok (.iload_n 3, 1) := by decide +kernel
theorem dX6_man_53 : decode cX6_man 53 = .ok (.iload 4, 2) := by decide +kernel
theorem dX6_man_55 : decode cX6_man 55 = .ok (.invokevirtual 96, 3) := by decide +kernel
theorem dX6_man_58 : decode cX6_man 58 = .ok (.iconst 1, 1) := by decide +kernel
theorem dX6_man_59 : decode cX6_man 59 = .ok (.ireturn, 1) := by decide +kernel
theorem dX6_stamp_0 : decode cX6_stamp 0 = .ok (.aload_n 0, 1) := by decide +kernel
theorem dX6_stamp_1 : decode cX6_stamp 1 = .ok (.iload_n 1, 1) := by decide +kernel
theorem dX6_stamp_2 : decode cX6_stamp 2 = .ok (.invokevirtual 85, 3) := by decide +kernel
theorem dX6_stamp_5 : decode cX6_stamp 5 = .ok (.ifCond .eq 33, 3) := by decide +kernel
theorem dX6_stamp_8 : decode cX6_stamp 8 = .ok (.aload_n 0, 1) := by decide +kernel
theorem dX6_stamp_9 : decode cX6_stamp 9 = .ok (.getfield 16, 3) := by decide +kernel
theorem dX6_stamp_12 : decode cX6_stamp 12 = .ok (.iload_n 2, 1) := by decide +kernel
theorem dX6_stamp_13 : decode cX6_stamp 13 = .ok (.invokevirtual 100, 3) := by decide +kernel
theorem dX6_stamp_16 : decode cX6_stamp 16 = .ok (.ifCond .eq 22, 3) := by decide +kernel
theorem dX6_stamp_19 : decode cX6_stamp 19 = .ok (.iload 4, 2) := by decide +kernel
theorem dX6_stamp_21 : decode cX6_stamp 21 = .ok (.iconst (-1), 1) := by decide +kernel
theorem dX6_stamp_22 : decode cX6_stamp 22 = .ok (.if_icmp .lt 16, 3) := by decide +kernel
theorem dX6_stamp_25 : decode cX6_stamp 25 = .ok (.iload 5, 2) := by decide +kernel
theorem dX6_stamp_27 : decode cX6_stamp 27 = .ok (.iload 4, 2) := by decide +kernel
theorem dX6_stamp_29 : decode cX6_stamp 29 = .ok (.if_icmp .lt 9, 3) := by decide +kernel
theorem dX6_stamp_32 : decode cX6_stamp 32 = .ok (.iload 5, 2) := by decide +kernel
theorem dX6_stamp_34 : decode cX6_stamp 34 = .ok (.iconst 5, 1) := by decide +kernel
theorem dX6_stamp_35 : decode cX6_stamp 35 = .ok (.if_icmp .le 5, 3) := by decide +kernel
theorem dX6_stamp_38 : decode cX6_stamp 38 = .ok (.iconst (-1), 1) := by decide +kernel
theorem dX6_stamp_39 : decode cX6_stamp 39 = .ok (.ireturn, 1) := by decide +kernel
theorem dX6_stamp_40 : decode cX6_stamp 40 = .ok (.aload_n 0, 1) := by decide +kernel
theorem dX6_stamp_41 : decode cX6_stamp 41 = .ok (.iload_n 1, 1) := by decide +kernel
theorem dX6_stamp_42 : decode cX6_stamp 42 = .ok (.invokevirtual 92, 3) := by decide +kernel
theorem dX6_stamp_45 : decode cX6_stamp 45 = .ok (.getfield 72, 3) := by decide +kernel
theorem dX6_stamp_48 : decode cX6_stamp 48 = .ok (.astore 6, 2) := by decide +kernel
theorem dX6_stamp_50 : decode cX6_stamp 50 = .ok (.aload 6, 2) := by decide +kernel
theorem dX6_stamp_52 : decode cX6_stamp 52 = .ok (.iconst 0, 1) := by decide +kernel
theorem dX6_stamp_53 : decode cX6_stamp 53 = .ok (.iload_n 2, 1) := by decide +kernel
theorem dX6_stamp_54 : decode cX6_stamp 54 = .ok (.iload 4, 2) := by decide +kernel
theorem dX6_stamp_56 : decode cX6_stamp 56 = .ok (.iload 5, 2) := by decide +kernel
theorem dX6_stamp_58 : decode cX6_stamp 58 = .ok (.invokevirtual 103, 3) := by decide +kernel
theorem dX6_stamp_61 : decode cX6_stamp 61 = .ok (.istore 7, 2) := by decide +kernel
theorem dX6_stamp_63 : decode cX6_stamp 63 = .ok (.iload 7, 2) := by decide +kernel
theorem dX6_stamp_65 : decode cX6_stamp 65 = .ok (.ifCond .lt 12, 3) := by decide +kernel
theorem dX6_stamp_68 : decode cX6_stamp 68 = .ok (.aload 6, 2) := by decide +kernel
theorem dX6_stamp_70 : decode cX6_stamp 70 = .ok (.getfield 107, 3) := by decide +kernel
theorem dX6_stamp_73 : decode cX6_stamp 73 = .ok (.iload 7, 2) := by decide +kernel
theorem dX6_stamp_75 : decode cX6_stamp 75 = .ok (.iload_n 3, 1) := by decide +kernel
theorem dX6_stamp_76 : decode cX6_stamp 76 = .ok (.bastore, 1) := by decide +kernel
theorem dX6_stamp_77 : decode cX6_stamp 77 = .ok (.iload 7, 2) := by decide +kernel
theorem dX6_stamp_79 : decode cX6_stamp 79 = .ok (.ireturn, 1) := by decide +kernel
theorem dX6_paper_0 : decode cX6_paper 0 = .ok (.aload_n 0, 1) := by decide +kernel
theorem dX6_paper_1 : decode cX6_paper 1 = .ok (.iload_n 1, 1) := by decide +kernel
theorem dX6_paper_2 : decode cX6_paper 2 = .ok (.invokevirtual 85, 3) := by decide +kernel
theorem dX6_paper_5 : decode cX6_paper 5 = .ok (.ifCond .eq 21, 3) := by decide +kernel
theorem dX6_paper_8 : decode cX6_paper 8 = .ok (.aload_n 0, 1) := by decide +kernel
theorem dX6_paper_9 : decode cX6_paper 9 = .ok (.getfield 16, 3) := by decide +kernel
theorem dX6_paper_12 : decode cX6_paper 12 = .ok (.iload_n 2, 1) := by decide +kernel
theorem dX6_paper_13 : decode cX6_paper 13 = .ok (.invokevirtual 89, 3) := by decide +kernel
theorem dX6_paper_16 : decode cX6_paper 16 = .ok (.ifCond .eq 10, 3) := by decide +kernel
theorem dX6_paper_19 : decode cX6_paper 19 = .ok (.iload_n 3, 1) := by decide +kernel
theorem dX6_paper_20 : decode cX6_paper 20 = .ok (.invokestatic 111, 3) := by decide +kernel
theorem dX6_paper_23 : decode cX6_paper 23 = .ok (.ifCond .ne 5, 3) := by decide +kernel
theorem dX6_paper_26 : decode cX6_paper 26 = .ok (.iconst (-1), 1) := by decide +kernel
theorem dX6_paper_27 : decode cX6_paper 27 = .ok (.ireturn, 1) := by decide +kernel
theorem dX6_paper_28 : decode cX6_paper 28 = .ok (.aload_n 0, 1) := by decide +kernel
theorem dX6_paper_29 : decode cX6_paper 29 = .ok (.iload_n 1, 1) := by decide +kernel
theorem dX6_paper_30 : decode cX6_paper 30 = .ok (.invokevirtual 92, 3) := by decide +kernel
theorem dX6_paper_33 : decode cX6_paper 33 = .ok (.getfield 72, 3) := by decide +kernel
theorem dX6_paper_36 : decode cX6_paper 36 = .ok (.iconst 1, 1) := by decide +kernel
theorem dX6_paper_37 : decode cX6_paper 37 = .ok (.iload_n 2, 1) := by decide +kernel
theorem dX6_paper_38 : decode cX6_paper 38 = .ok (.iload_n 3, 1) := by decide +kernel
theorem dX6_paper_39 : decode cX6_paper 39 = .ok (.iload_n 3, 1) := by decide +kernel
theorem dX6_paper_40 : decode cX6_paper 40 = .ok (.invokevirtual 103, 3) := by decide +kernel
theorem dX6_paper_43 : decode cX6_paper 43 = .ok (.ireturn, 1) := by decide +kernel
theorem dX6_look_0 : decode cX6_look 0 = .ok (.aload_n 0, 1) := by decide +kernel
theorem dX6_look_1 : decode cX6_look 1 = .ok (.iload_n 1, 1) := by decide +kernel
theorem dX6_look_2 : decode cX6_look 2 = .ok (.invokevirtual 85, 3) := by decide +kernel
theorem dX6_look_5 : decode cX6_look 5 = .ok (.ifCond .eq 35, 3) := by decide +kernel
theorem dX6_look_8 : decode cX6_look 8 = .ok (.aload_n 0, 1) := by decide +kernel
theorem dX6_look_9 : decode cX6_look 9 = .ok (.getfield 16, 3) := by decide +kernel
theorem dX6_look_12 : decode cX6_look 12 = .ok (.iload_n 2, 1) := by decide +kernel
theorem dX6_look_13 : decode cX6_look 13 = .ok (.invokevirtual 89, 3) := by decide +kernel
theorem dX6_look_16 : decode cX6_look 16 = .ok (.ifCond .eq 24, 3) := by decide +kernel
theorem dX6_look_19 : decode cX6_look 19 = .ok (.iload_n 3, 1) := by decide +kernel
theorem dX6_look_20 : decode cX6_look 20 = .ok (.invokestatic 111, 3) := by decide +kernel
theorem dX6_look_23 : decode cX6_look 23 = .ok (.ifCond .eq 17, 3) := by decide +kernel
theorem dX6_look_26 : decode cX6_look 26 = .ok (.iload 4, 2) := by decide +kernel
theorem dX6_look_28 : decode cX6_look 28 = .ok (.invokestatic 111, 3) := by decide +kernel
theorem dX6_look_31 : decode cX6_look 31 = .ok (.ifCond .eq 9, 3) := by decide +kernel
theorem dX6_look_34 : decode cX6_look 34 = .ok (.iload 4, 2) := by decide +kernel
theorem dX6_look_36 : decode cX6_look 36 = .ok (.iload_n 3, 1) := by decide +kernel
theorem dX6_look_37 : decode cX6_look 37 = .ok (.if_icmp .ge 5, 3) := by decide +kernel
theorem dX6_look_40 : decode cX6_look 40 = .ok (.iconst (-1), 1) := by decide +kernel
theorem dX6_look_41 : decode cX6_look 41 = .ok (.ireturn, 1) := by decide +kernel
theorem dX6_look_42 : decode cX6_look 42 = .ok (.aload_n 0, 1) := by decide +kernel
theorem dX6_look_43 : decode cX6_look 43 = .ok (.iload_n 1, 1) := by decide +kernel
theorem dX6_look_44 : decode cX6_look 44 = .ok (.invokevirtual 92, 3) := by decide +kernel
theorem dX6_look_47 : decode cX6_look 47 = .ok (.getfield 72, 3) := by decide +kernel
theorem dX6_look_50 : decode cX6_look 50 = .ok (.iconst 2, 1) := by decide +kernel
theorem dX6_look_51 : decode cX6_look 51 = .ok (.iload_n 2, 1) := by decide +kernel
theorem dX6_look_52 : decode cX6_look 52 = .ok (.iload_n 3, 1) := by decide +kernel
theorem dX6_look_53 : decode cX6_look 53 = .ok (.iload 4, 2) := by decide +kernel
theorem dX6_look_55 : decode cX6_look 55 = .ok (.invokevirtual 103, 3) := by decide +kernel
theorem dX6_look_58 : decode cX6_look 58 = .ok (.ireturn, 1) := by decide +kernel
theorem dX6_doubt_0 : decode cX6_doubt 0 = .ok (.aload_n 0, 1) := by decide +kernel
theorem dX6_doubt_1 : decode cX6_doubt 1 = .ok (.iload_n 1, 1) := by decide +kernel
theorem dX6_doubt_2 : decode cX6_doubt 2 = .ok (.invokevirtual 85, 3) := by decide +kernel
theorem dX6_doubt_5 : decode cX6_doubt 5 = .ok (.ifCond .eq 23, 3) := by decide +kernel
theorem dX6_doubt_8 : decode cX6_doubt 8 = .ok (.aload_n 0, 1) := by decide +kernel
theorem dX6_doubt_9 : decode cX6_doubt 9 = .ok (.iload_n 1, 1) := by decide +kernel
theorem dX6_doubt_10 : decode cX6_doubt 10 = .ok (.invokevirtual 92, 3) := by decide +kernel
theorem dX6_doubt_13 : decode cX6_doubt 13 = .ok (.getfield 72, 3) := by decide +kernel
theorem dX6_doubt_16 : decode cX6_doubt 16 = .ok (.iload_n 2, 1) := by decide +kernel
theorem dX6_doubt_17 : decode cX6_doubt 17 = .ok (.iload_n 3, 1) := by decide +kernel
theorem dX6_doubt_18 : decode cX6_doubt 18 = .ok (.invokevirtual 114, 3) := by decide +kernel
theorem dX6_doubt_21 : decode cX6_doubt 21 = .ok (.ifCond .eq 7, 3) := by decide +kernel
theorem dX6_doubt_24 : decode cX6_doubt 24 = .ok (.iconst 1, 1) := by decide +kernel
theorem dX6_doubt_25 : decode cX6_doubt 25 = .ok (.goto 4, 3) := by decide +kernel
theorem dX6_doubt_28 : decode cX6_doubt 28 = .ok (.iconst 0, 1) := by decide +kernel
theorem dX6_doubt_29 : decode cX6_doubt 29 = .ok (.ireturn, 1) := by decide +kernel
theorem dX6_undo_0 : decode cX6_undo 0 = .ok (.aload_n 0, 1) := by decide +kernel
theorem dX6_undo_1 : decode cX6_undo 1 = .ok (.iload_n 1, 1) := by decide +kernel
theorem dX6_undo_2 : decode cX6_undo 2 = .ok (.invokevirtual 85, 3) := by decide +kernel
theorem dX6_undo_5 : decode cX6_undo 5 = .ok (.ifCond .eq 17, 3) := by decide +kernel
theorem dX6_undo_8 : decode cX6_undo 8 = .ok (.aload_n 0, 1) := by decide +kernel
theorem dX6_undo_9 : decode cX6_undo 9 = .ok (.iload_n 1, 1) := by decide +kernel
theorem dX6_undo_10 : decode cX6_undo 10 = .ok (.invokevirtual 92, 3) := by decide +kernel
theorem dX6_undo_13 : decode cX6_undo 13 = .ok (.getfield 72, 3) := by decide +kernel
theorem dX6_undo_16 : decode cX6_undo 16 = .ok (.invokevirtual 118, 3) := by decide +kernel
theorem dX6_undo_19 : decode cX6_undo 19 = .ok (.goto 4, 3) := by decide +kernel
theorem dX6_undo_22 : decode cX6_undo 22 = .ok (.iconst (-1), 1) := by decide +kernel
theorem dX6_undo_23 : decode cX6_undo 23 = .ok (.ireturn, 1) := by decide +kernel
theorem dX6_link_0 : decode cX6_link 0 = .ok (.aload_n 0, 1) := by decide +kernel
theorem dX6_link_1 : decode cX6_link 1 = .ok (.getfield 16, 3) := by decide +kernel
theorem dX6_link_4 : decode cX6_link 4 = .ok (.iload_n 1, 1) := by decide +kernel
theorem dX6_link_5 : decode cX6_link 5 = .ok (.invokevirtual 122, 3) := by decide +kernel
theorem dX6_link_8 : decode cX6_link 8 = .ok (.ifCond .ne 5, 3) := by decide +kernel
theorem dX6_link_11 : decode cX6_link 11 = .ok (.iconst (-1), 1) := by decide +kernel
theorem dX6_link_12 : decode cX6_link 12 = .ok (.ireturn, 1) := by decide +kernel
theorem dX6_link_13 : decode cX6_link 13 = .ok (.iload_n 2, 1) := by decide +kernel
theorem dX6_link_14 : decode cX6_link 14 = .ok (.tableswitch 106 0 5 #[38, 48, 58, 68, 78, 88], 38) := by decide +kernel
theorem dX6_link_52 : decode cX6_link 52 = .ok (.aload_n 0, 1) := by decide +kernel
theorem dX6_link_53 : decode cX6_link 53 = .ok (.getfield 16, 3) := by decide +kernel
theorem dX6_link_56 : decode cX6_link 56 = .ok (.getfield 125, 3) := by decide +kernel
theorem dX6_link_59 : decode cX6_link 59 = .ok (.iload_n 1, 1) := by decide +kernel
theorem dX6_link_60 : decode cX6_link 60 = .ok (.iaload, 1) := by decide +kernel
theorem dX6_link_61 : decode cX6_link 61 = .ok (.ireturn, 1) := by decide +kernel
theorem dX6_link_62 : decode cX6_link 62 = .ok (.aload_n 0, 1) := by decide +kernel
theorem dX6_link_63 : decode cX6_link 63 = .ok (.getfield 16, 3) := by decide +kernel
theorem dX6_link_66 : decode cX6_link 66 = .ok (.getfield 129, 3) := by decide +kernel
theorem dX6_link_69 : decode cX6_link 69 = .ok (.iload_n 1, 1) := by decide +kernel
theorem dX6_link_70 : decode cX6_link 70 = .ok (.iaload, 1) := by decide +kernel
theorem dX6_link_71 : decode cX6_link 71 = .ok (.ireturn, 1) := by decide +kernel
theorem dX6_link_72 : decode cX6_link 72 = .ok (.aload_n 0, 1) := by decide +kernel
theorem dX6_link_73 : decode cX6_link 73 = .ok (.getfield 16, 3) := by decide +kernel
theorem dX6_link_76 : decode cX6_link 76 = .ok (.getfield 132, 3) := by decide +kernel
theorem dX6_link_79 : decode cX6_link 79 = .ok (.iload_n 1, 1) := by decide +kernel
theorem dX6_link_80 : decode cX6_link 80 = .ok (.iaload, 1) := by decide +kernel
theorem dX6_link_81 : decode cX6_link 81 = .ok (.ireturn, 1) := by decide +kernel
theorem dX6_link_82 : decode cX6_link 82 = .ok (.aload_n 0, 1) := by decide +kernel
theorem dX6_link_83 : decode cX6_link 83 = .ok (.getfield 16, 3) := by decide +kernel
theorem dX6_link_86 : decode cX6_link 86 = .ok (.getfield 135, 3) := by decide +kernel
theorem dX6_link_89 : decode cX6_link 89 = .ok (.iload_n 1, 1) := by decide +kernel
theorem dX6_link_90 : decode cX6_link 90 = .ok (.iaload, 1) := by decide +kernel
theorem dX6_link_91 : decode cX6_link 91 = .ok (.ireturn, 1) := by decide +kernel
theorem dX6_link_92 : decode cX6_link 92 = .ok (.aload_n 0, 1) := by decide +kernel
theorem dX6_link_93 : decode cX6_link 93 = .ok (.getfield 16, 3) := by decide +kernel
theorem dX6_link_96 : decode cX6_link 96 = .ok (.getfield 138, 3) := by decide +kernel
theorem dX6_link_99 : decode cX6_link 99 = .ok (.iload_n 1, 1) := by decide +kernel
theorem dX6_link_100 : decode cX6_link 100 = .ok (.iaload, 1) := by decide +kernel
theorem dX6_link_101 : decode cX6_link 101 = .ok (.ireturn, 1) := by decide +kernel
theorem dX6_link_102 : decode cX6_link 102 = .ok (.aload_n 0, 1) := by decide +kernel
theorem dX6_link_103 : decode cX6_link 103 = .ok (.getfield 16, 3) := by decide +kernel
theorem dX6_link_106 : decode cX6_link 106 = .ok (.getfield 141, 3) := by decide +kernel
theorem dX6_link_109 : decode cX6_link 109 = .ok (.iload_n 1, 1) := by decide +kernel
theorem dX6_link_110 : decode cX6_link 110 = .ok (.baload, 1) := by decide +kernel
theorem dX6_link_111 : decode cX6_link 111 = .ok (.ifCond .eq 7, 3) := by decide +kernel
theorem dX6_link_114 : decode cX6_link 114 = .ok (.iconst 1, 1) := by decide +kernel
theorem dX6_link_115 : decode cX6_link 115 = .ok (.goto 4, 3) := by decide +kernel
theorem dX6_link_118 : decode cX6_link 118 = .ok (.iconst 0, 1) := by decide +kernel
theorem dX6_link_119 : decode cX6_link 119 = .ok (.ireturn, 1) := by decide +kernel
theorem dX6_link_120 : decode cX6_link 120 = .ok (.iconst (-1), 1) := by decide +kernel
theorem dX6_link_121 : decode cX6_link 121 = .ok (.ireturn, 1) := by decide +kernel
theorem dX6_town_0 : decode cX6_town 0 = .ok (.aload_n 0, 1) := by decide +kernel
theorem dX6_town_1 : decode cX6_town 1 = .ok (.getfield 16, 3) := by decide +kernel
theorem dX6_town_4 : decode cX6_town 4 = .ok (.iload_n 1, 1) := by decide +kernel
theorem dX6_town_5 : decode cX6_town 5 = .ok (.invokevirtual 89, 3) := by decide +kernel
theorem dX6_town_8 : decode cX6_town 8 = .ok (.ifCond .ne 6, 3) := by decide +kernel
theorem dX6_town_11 : decode cX6_town 11 = .ok (.bipush (-99), 2) := by decide +kernel
theorem dX6_town_13 : decode cX6_town 13 = .ok (.ireturn, 1) := by decide +kernel
theorem dX6_town_14 : decode cX6_town 14 = .ok (.iload_n 2, 1) := by decide +kernel
theorem dX6_town_15 : decode cX6_town 15 = .ok (.lookupswitch 45 #[(0, 25), (1, 35)], 25) := by decide +kernel
theorem dX6_town_40 : decode cX6_town 40 = .ok (.aload_n 0, 1) := by decide +kernel
theorem dX6_town_41 : decode cX6_town 41 = .ok (.getfield 16, 3) := by decide +kernel
theorem dX6_town_44 : decode cX6_town 44 = .ok (.getfield 144, 3) := by decide +kernel
theorem dX6_town_47 : decode cX6_town 47 = .ok (.iload_n 1, 1) := by decide +kernel
theorem dX6_town_48 : decode cX6_town 48 = .ok (.iaload, 1) := by decide +kernel
theorem dX6_town_49 : decode cX6_town 49 = .ok (.ireturn, 1) := by decide +kernel
theorem dX6_town_50 : decode cX6_town 50 = .ok (.aload_n 0, 1) := by decide +kernel
theorem dX6_town_51 : decode cX6_town 51 = .ok (.getfield 16, 3) := by decide +kernel
theorem dX6_town_54 : decode cX6_town 54 = .ok (.getfield 147, 3) := by decide +kernel
theorem dX6_town_57 : decode cX6_town 57 = .ok (.iload_n 1, 1) := by decide +kernel
theorem dX6_town_58 : decode cX6_town 58 = .ok (.iaload, 1) := by decide +kernel
theorem dX6_town_59 : decode cX6_town 59 = .ok (.ireturn, 1) := by decide +kernel
theorem dX6_town_60 : decode cX6_town 60 = .ok (.bipush (-99), 2) := by decide +kernel
theorem dX6_town_62 : decode cX6_town 62 = .ok (.ireturn, 1) := by decide +kernel
theorem dX6_trace_0 : decode cX6_trace 0 = .ok (.aload_n 0, 1) := by decide +kernel
theorem dX6_trace_1 : decode cX6_trace 1 = .ok (.iload_n 1, 1) := by decide +kernel
theorem dX6_trace_2 : decode cX6_trace 2 = .ok (.invokevirtual 85, 3) := by decide +kernel
theorem dX6_trace_5 : decode cX6_trace 5 = .ok (.ifCond .eq 18, 3) := by decide +kernel
theorem dX6_trace_8 : decode cX6_trace 8 = .ok (.aload_n 0, 1) := by decide +kernel
theorem dX6_trace_9 : decode cX6_trace 9 = .ok (.iload_n 1, 1) := by decide +kernel
theorem dX6_trace_10 : decode cX6_trace 10 = .ok (.invokevirtual 92, 3) := by decide +kernel
theorem dX6_trace_13 : decode cX6_trace 13 = .ok (.getfield 72, 3) := by decide +kernel
theorem dX6_trace_16 : decode cX6_trace 16 = .ok (.iload_n 2, 1) := by decide +kernel
theorem dX6_trace_17 : decode cX6_trace 17 = .ok (.invokevirtual 150, 3) := by decide +kernel
theorem dX6_trace_20 : decode cX6_trace 20 = .ok (.ifCond .ne 6, 3) := by decide +kernel
theorem dX6_trace_23 : decode cX6_trace 23 = .ok (.bipush (-99), 2) := by decide +kernel
theorem dX6_trace_25 : decode cX6_trace 25 = .ok (.ireturn, 1) := by decide +kernel
theorem dX6_trace_26 : decode cX6_trace 26 = .ok (.aload_n 0, 1) := by decide +kernel
theorem dX6_trace_27 : decode cX6_trace 27 = .ok (.iload_n 1, 1) := by decide +kernel
theorem dX6_trace_28 : decode cX6_trace 28 = .ok (.invokevirtual 92, 3) := by decide +kernel
theorem dX6_trace_31 : decode cX6_trace 31 = .ok (.getfield 72, 3) := by decide +kernel
theorem dX6_trace_34 : decode cX6_trace 34 = .ok (.astore 4, 2) := by decide +kernel
theorem dX6_trace_36 : decode cX6_trace 36 = .ok (.iload_n 3, 1) := by decide +kernel
theorem dX6_trace_37 : decode cX6_trace 37 = .ok (.tableswitch 103 0 5 #[39, 47, 55, 63, 71, 87], 39) := by decide +kernel
theorem dX6_trace_76 : decode cX6_trace 76 = .ok (.aload 4, 2) := by decide +kernel
theorem dX6_trace_78 : decode cX6_trace 78 = .ok (.getfield 153, 3) := by decide +kernel
theorem dX6_trace_81 : decode cX6_trace 81 = .ok (.iload_n 2, 1) := by decide +kernel
theorem dX6_trace_82 : decode cX6_trace 82 = .ok (.iaload, 1) := by decide +kernel
theorem dX6_trace_83 : decode cX6_trace 83 = .ok (.ireturn, 1) := by decide +kernel
theorem dX6_trace_84 : decode cX6_trace 84 = .ok (.aload 4, 2) := by decide +kernel
theorem dX6_trace_86 : decode cX6_trace 86 = .ok (.getfield 156, 3) := by decide +kernel
theorem dX6_trace_89 : decode cX6_trace 89 = .ok (.iload_n 2, 1) := by decide +kernel
theorem dX6_trace_90 : decode cX6_trace 90 = .ok (.iaload, 1) := by decide +kernel
theorem dX6_trace_91 : decode cX6_trace 91 = .ok (.ireturn, 1) := by decide +kernel
theorem dX6_trace_92 : decode cX6_trace 92 = .ok (.aload 4, 2) := by decide +kernel
theorem dX6_trace_94 : decode cX6_trace 94 = .ok (.getfield 159, 3) := by decide +kernel
theorem dX6_trace_97 : decode cX6_trace 97 = .ok (.iload_n 2, 1) := by decide +kernel
theorem dX6_trace_98 : decode cX6_trace 98 = .ok (.iaload, 1) := by decide +kernel
theorem dX6_trace_99 : decode cX6_trace 99 = .ok (.ireturn, 1) := by decide +kernel
theorem dX6_trace_100 : decode cX6_trace 100 = .ok (.aload 4, 2) := by decide +kernel
theorem dX6_trace_102 : decode cX6_trace 102 = .ok (.getfield 160, 3) := by decide +kernel
theorem dX6_trace_105 : decode cX6_trace 105 = .ok (.iload_n 2, 1) := by decide +kernel
theorem dX6_trace_106 : decode cX6_trace 106 = .ok (.iaload, 1) := by decide +kernel
theorem dX6_trace_107 : decode cX6_trace 107 = .ok (.ireturn, 1) := by decide +kernel
theorem dX6_trace_108 : decode cX6_trace 108 = .ok (.aload 4, 2) := by decide +kernel
theorem dX6_trace_110 : decode cX6_trace 110 = .ok (.getfield 107, 3) := by decide +kernel
theorem dX6_trace_113 : decode cX6_trace 113 = .ok (.iload_n 2, 1) := by decide +kernel
theorem dX6_trace_114 : decode cX6_trace 114 = .ok (.baload, 1) := by decide +kernel
theorem dX6_trace_115 : decode cX6_trace 115 = .ok (.ifCond .eq 7, 3) := by decide +kernel
theorem dX6_trace_118 : decode cX6_trace 118 = .ok (.iconst 1, 1) := by decide +kernel
theorem dX6_trace_119 : decode cX6_trace 119 = .ok (.goto 4, 3) := by decide +kernel
theorem dX6_trace_122 : decode cX6_trace 122 = .ok (.iconst 0, 1) := by decide +kernel
theorem dX6_trace_123 : decode cX6_trace 123 = .ok (.ireturn, 1) := by decide +kernel
theorem dX6_trace_124 : decode cX6_trace 124 = .ok (.aload 4, 2) := by decide +kernel
theorem dX6_trace_126 : decode cX6_trace 126 = .ok (.getfield 161, 3) := by decide +kernel
theorem dX6_trace_129 : decode cX6_trace 129 = .ok (.iload_n 2, 1) := by decide +kernel
theorem dX6_trace_130 : decode cX6_trace 130 = .ok (.baload, 1) := by decide +kernel
theorem dX6_trace_131 : decode cX6_trace 131 = .ok (.ifCond .eq 7, 3) := by decide +kernel
theorem dX6_trace_134 : decode cX6_trace 134 = .ok (.iconst 1, 1) := by decide +kernel
theorem dX6_trace_135 : decode cX6_trace 135 = .ok (.goto 4, 3) := by decide +kernel
theorem dX6_trace_138 : decode cX6_trace 138 = .ok (.iconst 0, 1) := by decide +kernel
theorem dX6_trace_139 : decode cX6_trace 139 = .ok (.ireturn, 1) := by decide +kernel
theorem dX6_trace_140 : decode cX6_trace 140 = .ok (.bipush (-99), 2) := by decide +kernel
theorem dX6_trace_142 : decode cX6_trace 142 = .ok (.ireturn, 1) := by decide +kernel
theorem dX6_ways_0 : decode cX6_ways 0 = .ok (.aload_n 0, 1) := by decide +kernel
theorem dX6_ways_1 : decode cX6_ways 1 = .ok (.iload_n 1, 1) := by decide +kernel
theorem dX6_ways_2 : decode cX6_ways 2 = .ok (.invokevirtual 85, 3) := by decide +kernel
theorem dX6_ways_5 : decode cX6_ways 5 = .ok (.ifCond .eq 14, 3) := by decide +kernel
theorem dX6_ways_8 : decode cX6_ways 8 = .ok (.aload_n 0, 1) := by decide +kernel
theorem dX6_ways_9 : decode cX6_ways 9 = .ok (.iload_n 1, 1) := by decide +kernel
theorem dX6_ways_10 : decode cX6_ways 10 = .ok (.invokevirtual 92, 3) := by decide +kernel
theorem dX6_ways_13 : decode cX6_ways 13 = .ok (.invokevirtual 164, 3) := by decide +kernel
theorem dX6_ways_16 : decode cX6_ways 16 = .ok (.goto 4, 3) := by decide +kernel
theorem dX6_ways_19 : decode cX6_ways 19 = .ok (.iconst (-1), 1) := by decide +kernel
theorem dX6_ways_20 : decode cX6_ways 20 = .ok (.ireturn, 1) := by decide +kernel
theorem dX6_may_0 : decode cX6_may 0 = .ok (.aload_n 0, 1) := by decide +kernel
theorem dX6_may_1 : decode cX6_may 1 = .ok (.iload_n 1, 1) := by decide +kernel
theorem dX6_may_2 : decode cX6_may 2 = .ok (.iload_n 2, 1) := by decide +kernel
theorem dX6_may_3 : decode cX6_may 3 = .ok (.invokevirtual 167, 3) := by decide +kernel
theorem dX6_may_6 : decode cX6_may 6 = .ok (.ifCond .eq 15, 3) := by decide +kernel
theorem dX6_may_9 : decode cX6_may 9 = .ok (.aload_n 0, 1) := by decide +kernel
theorem dX6_may_10 : decode cX6_may 10 = .ok (.iload_n 1, 1) := by decide +kernel
theorem dX6_may_11 : decode cX6_may 11 = .ok (.invokevirtual 92, 3) := by decide +kernel
theorem dX6_may_14 : decode cX6_may 14 = .ok (.iload_n 2, 1) := by decide +kernel
theorem dX6_may_15 : decode cX6_may 15 = .ok (.invokevirtual 171, 3) := by decide +kernel
theorem dX6_may_18 : decode cX6_may 18 = .ok (.goto 4, 3) := by decide +kernel
theorem dX6_may_21 : decode cX6_may 21 = .ok (.iconst (-1), 1) := by decide +kernel
theorem dX6_may_22 : decode cX6_may 22 = .ok (.ireturn, 1) := by decide +kernel
theorem dX6_surely_0 : decode cX6_surely 0 = .ok (.aload_n 0, 1) := by decide +kernel
theorem dX6_surely_1 : decode cX6_surely 1 = .ok (.iload_n 1, 1) := by decide +kernel
theorem dX6_surely_2 : decode cX6_surely 2 = .ok (.iload_n 2, 1) := by decide +kernel
theorem dX6_surely_3 : decode cX6_surely 3 = .ok (.invokevirtual 167, 3) := by decide +kernel
theorem dX6_surely_6 : decode cX6_surely 6 = .ok (.ifCond .ne 5, 3) := by decide +kernel
theorem dX6_surely_9 : decode cX6_surely 9 = .ok (.iconst (-1), 1) := by decide +kernel
theorem dX6_surely_10 : decode cX6_surely 10 = .ok (.ireturn, 1) := by decide +kernel
theorem dX6_surely_11 : decode cX6_surely 11 = .ok (.aload_n 0, 1) := by decide +kernel
theorem dX6_surely_12 : decode cX6_surely 12 = .ok (.iload_n 1, 1) := by decide +kernel
theorem dX6_surely_13 : decode cX6_surely 13 = .ok (.invokevirtual 92, 3) := by decide +kernel
theorem dX6_surely_16 : decode cX6_surely 16 = .ok (.iload_n 2, 1) := by decide +kernel
theorem dX6_surely_17 : decode cX6_surely 17 = .ok (.invokevirtual 171, 3) := by decide +kernel
theorem dX6_surely_20 : decode cX6_surely 20 = .ok (.istore_n 3, 1) := by decide +kernel
theorem dX6_surely_21 : decode cX6_surely 21 = .ok (.iload_n 3, 1) := by decide +kernel
theorem dX6_surely_22 : decode cX6_surely 22 = .ok (.invokestatic 174, 3) := by decide +kernel
theorem dX6_surely_25 : decode cX6_surely 25 = .ok (.ifCond .eq 10, 3) := by decide +kernel
theorem dX6_surely_28 : decode cX6_surely 28 = .ok (.iload_n 3, 1) := by decide +kernel
theorem dX6_surely_29 : decode cX6_surely 29 = .ok (.invokestatic 177, 3) := by decide +kernel
theorem dX6_surely_32 : decode cX6_surely 32 = .ok (.goto 4, 3) := by decide +kernel
theorem dX6_surely_35 : decode cX6_surely 35 = .ok (.iconst (-1), 1) := by decide +kernel
theorem dX6_surely_36 : decode cX6_surely 36 = .ok (.ireturn, 1) := by decide +kernel
theorem dX6_extreme_0 : decode cX6_extreme 0 = .ok (.aload_n 0, 1) := by decide +kernel
theorem dX6_extreme_1 : decode cX6_extreme 1 = .ok (.iload_n 1, 1) := by decide +kernel
theorem dX6_extreme_2 : decode cX6_extreme 2 = .ok (.invokevirtual 85, 3) := by decide +kernel
theorem dX6_extreme_5 : decode cX6_extreme 5 = .ok (.ifCond .eq 12, 3) := by decide +kernel
theorem dX6_extreme_8 : decode cX6_extreme 8 = .ok (.iload_n 2, 1) := by decide +kernel
theorem dX6_extreme_9 : decode cX6_extreme 9 = .ok (.ifCond .lt 8, 3) := by decide +kernel
theorem dX6_extreme_12 : decode cX6_extreme 12 = .ok (.iload_n 2, 1) := by decide +kernel
theorem dX6_extreme_13 : decode cX6_extreme 13 = .ok (.iconst 3, 1) := by decide +kernel
theorem dX6_extreme_14 : decode cX6_extreme 14 = .ok (.if_icmp .le 5, 3) := by decide +kernel
theorem dX6_extreme_17 : decode cX6_extreme 17 = .ok (.iconst (-1), 1) := by decide +kernel
theorem dX6_extreme_18 : decode cX6_extreme 18 = .ok (.ireturn, 1) := by decide +kernel
theorem dX6_extreme_19 : decode cX6_extreme 19 = .ok (.aload_n 0, 1) := by decide +kernel
theorem dX6_extreme_20 : decode cX6_extreme 20 = .ok (.iload_n 1, 1) := by decide +kernel
theorem dX6_extreme_21 : decode cX6_extreme 21 = .ok (.invokevirtual 92, 3) := by decide +kernel
theorem dX6_extreme_24 : decode cX6_extreme 24 = .ok (.iload_n 2, 1) := by decide +kernel
theorem dX6_extreme_25 : decode cX6_extreme 25 = .ok (.invokevirtual 182, 3) := by decide +kernel
theorem dX6_extreme_28 : decode cX6_extreme 28 = .ok (.ireturn, 1) := by decide +kernel
theorem dX6_tale_0 : decode cX6_tale 0 = .ok (.aload_n 0, 1) := by decide +kernel
theorem dX6_tale_1 : decode cX6_tale 1 = .ok (.iload_n 1, 1) := by decide +kernel
theorem dX6_tale_2 : decode cX6_tale 2 = .ok (.invokevirtual 85, 3) := by decide +kernel
theorem dX6_tale_5 : decode cX6_tale 5 = .ok (.ifCond .eq 20, 3) := by decide +kernel
theorem dX6_tale_8 : decode cX6_tale 8 = .ok (.iload_n 2, 1) := by decide +kernel
theorem dX6_tale_9 : decode cX6_tale 9 = .ok (.iconst (-1), 1) := by decide +kernel
theorem dX6_tale_10 : decode cX6_tale 10 = .ok (.if_icmp .lt 15, 3) := by decide +kernel
theorem dX6_tale_13 : decode cX6_tale 13 = .ok (.aload_n 0, 1) := by decide +kernel
theorem dX6_tale_14 : decode cX6_tale 14 = .ok (.iload_n 1, 1) := by decide +kernel
theorem dX6_tale_15 : decode cX6_tale 15 = .ok (.invokevirtual 92, 3) := by decide +kernel
theorem dX6_tale_18 : decode cX6_tale 18 = .ok (.iload_n 2, 1) := by decide +kernel
theorem dX6_tale_19 : decode cX6_tale 19 = .ok (.invokevirtual 185, 3) := by decide +kernel
theorem dX6_tale_22 : decode cX6_tale 22 = .ok (.goto 4, 3) := by decide +kernel
theorem dX6_tale_25 : decode cX6_tale 25 = .ok (.iconst (-1), 1) := by decide +kernel
theorem dX6_tale_26 : decode cX6_tale 26 = .ok (.ireturn, 1) := by decide +kernel
theorem dX6_toDoubt_0 : decode cX6_toDoubt 0 = .ok (.aload_n 0, 1) := by decide +kernel
