theorem dX0_init_0 : decode cX0_init 0 = .ok (.aload_n 0, 1) := by decide +kernel
theorem dX0_init_1 : decode cX0_init 1 = .ok (.invokespecial 3, 3) := by decide +kernel
theorem dX0_init_4 : decode cX0_init 4 = .ok (.aload_n 0, 1) := by decide +kernel
theorem dX0_init_5 : decode cX0_init 5 = .ok (.iconst 4, 1) := by decide +kernel
theorem dX0_init_6 : decode cX0_init 6 = .ok (.newarray .int, 2) := by decide +kernel
theorem dX0_init_8 : decode cX0_init 8 = .ok (.putfield 11, 3) := by decide +kernel
theorem dX0_init_11 : decode cX0_init 11 = .ok (.aload_n 0, 1) := by decide +kernel
theorem dX0_init_12 : decode cX0_init 12 = .ok (.bipush 8, 2) := by decide +kernel
theorem dX0_init_14 : decode cX0_init 14 = .ok (.newarray .int, 2) := by decide +kernel
theorem dX0_init_16 : decode cX0_init 16 = .ok (.putfield 15, 3) := by decide +kernel
theorem dX0_init_19 : decode cX0_init 19 = .ok (.aload_n 0, 1) := by decide +kernel
theorem dX0_init_20 : decode cX0_init 20 = .ok (.bipush 8, 2) := by decide +kernel
theorem dX0_init_22 : decode cX0_init 22 = .ok (.newarray .int, 2) := by decide +kernel
theorem dX0_init_24 : decode cX0_init 24 = .ok (.putfield 18, 3) := by decide +kernel
theorem dX0_init_27 : decode cX0_init 27 = .ok (.aload_n 0, 1) := by decide +kernel
theorem dX0_init_28 : decode cX0_init 28 = .ok (.bipush 16, 2) := by decide +kernel
theorem dX0_init_30 : decode cX0_init 30 = .ok (.newarray .int, 2) := by decide +kernel
theorem dX0_init_32 : decode cX0_init 32 = .ok (.putfield 21, 3) := by decide +kernel
theorem dX0_init_35 : decode cX0_init 35 = .ok (.aload_n 0, 1) := by decide +kernel
theorem dX0_init_36 : decode cX0_init 36 = .ok (.bipush 16, 2) := by decide +kernel
theorem dX0_init_38 : decode cX0_init 38 = .ok (.newarray .int, 2) := by decide +kernel
theorem dX0_init_40 : decode cX0_init 40 = .ok (.putfield 24, 3) := by decide +kernel
theorem dX0_init_43 : decode cX0_init 43 = .ok (.aload_n 0, 1) := by decide +kernel
theorem dX0_init_44 : decode cX0_init 44 = .ok (.bipush 16, 2) := by decide +kernel
theorem dX0_init_46 : decode cX0_init 46 = .ok (.newarray .int, 2) := by decide +kernel
theorem dX0_init_48 : decode cX0_init 48 = .ok (.putfield 27, 3) := by decide +kernel
theorem dX0_init_51 : decode cX0_init 51 = .ok (.aload_n 0, 1) := by decide +kernel
theorem dX0_init_52 : decode cX0_init 52 = .ok (.bipush 16, 2) := by decide +kernel
theorem dX0_init_54 : decode cX0_init 54 = .ok (.newarray .int, 2) := by decide +kernel
theorem dX0_init_56 : decode cX0_init 56 = .ok (.putfield 30, 3) := by decide +kernel
theorem dX0_init_59 : decode cX0_init 59 = .ok (.aload_n 0, 1) := by decide +kernel
theorem dX0_init_60 : decode cX0_init 60 = .ok (.bipush 16, 2) := by decide +kernel
theorem dX0_init_62 : decode cX0_init 62 = .ok (.newarray .int, 2) := by decide +kernel
theorem dX0_init_64 : decode cX0_init 64 = .ok (.putfield 33, 3) := by decide +kernel
theorem dX0_init_67 : decode cX0_init 67 = .ok (.aload_n 0, 1) := by decide +kernel
theorem dX0_init_68 : decode cX0_init 68 = .ok (.bipush 16, 2) := by decide +kernel
theorem dX0_init_70 : decode cX0_init 70 = .ok (.newarray .boolean, 2) := by decide +kernel
theorem dX0_init_72 : decode cX0_init 72 = .ok (.putfield 36, 3) := by decide +kernel
theorem dX0_init_75 : decode cX0_init 75 = .ok (.aload_n 0, 1) := by decide +kernel
theorem dX0_init_76 : decode cX0_init 76 = .ok (.bipush 16, 2) := by decide +kernel
theorem dX0_init_78 : decode cX0_init 78 = .ok (.newarray .int, 2) := by decide +kernel
theorem dX0_init_80 : decode cX0_init 80 = .ok (.putfield 40, 3) := by decide +kernel
theorem dX0_init_83 : decode cX0_init 83 = .ok (.aload_n 0, 1) := by decide +kernel
theorem dX0_init_84 : decode cX0_init 84 = .ok (.bipush 16, 2) := by decide +kernel
theorem dX0_init_86 : decode cX0_init 86 = .ok (.newarray .int, 2) := by decide +kernel
theorem dX0_init_88 : decode cX0_init 88 = .ok (.putfield 43, 3) := by decide +kernel
theorem dX0_init_91 : decode cX0_init 91 = .ok (.return_, 1) := by decide +kernel
theorem dX0_clear_0 : decode cX0_clear 0 = .ok (.aload_n 0, 1) := by decide +kernel
theorem dX0_clear_1 : decode cX0_clear 1 = .ok (.iconst 0, 1) := by decide +kernel
theorem dX0_clear_2 : decode cX0_clear 2 = .ok (.putfield 46, 3) := by decide +kernel
theorem dX0_clear_5 : decode cX0_clear 5 = .ok (.aload_n 0, 1) := by decide +kernel
theorem dX0_clear_6 : decode cX0_clear 6 = .ok (.iconst 0, 1) := by decide +kernel
theorem dX0_clear_7 : decode cX0_clear 7 = .ok (.putfield 50, 3) := by decide +kernel
theorem dX0_clear_10 : decode cX0_clear 10 = .ok (.aload_n 0, 1) := by decide +kernel
theorem dX0_clear_11 : decode cX0_clear 11 = .ok (.iconst 0, 1) := by decide +kernel
theorem dX0_clear_12 : decode cX0_clear 12 = .ok (.putfield 53, 3) := by decide +kernel
theorem dX0_clear_15 : decode cX0_clear 15 = .ok (.return_, 1) := by decide +kernel
theorem dX0_takeOver_0 : decode cX0_takeOver 0 = .ok (.aload_n 0, 1) := by decide +kernel
theorem dX0_takeOver_1 : decode cX0_takeOver 1 = .ok (.aload_n 1, 1) := by decide +kernel
theorem dX0_takeOver_2 : decode cX0_takeOver 2 = .ok (.getfield 46, 3) := by decide +kernel
theorem dX0_takeOver_5 : decode cX0_takeOver 5 = .ok (.putfield 46, 3) := by decide +kernel
theorem dX0_takeOver_8 : decode cX0_takeOver 8 = .ok (.aload_n 0, 1) := by decide +kernel
theorem dX0_takeOver_9 : decode cX0_takeOver 9 = .ok (.aload_n 1, 1) := by decide +kernel
theorem dX0_takeOver_10 : decode cX0_takeOver 10 = .ok (.getfield 50, 3) := by decide +kernel
theorem dX0_takeOver_13 : decode cX0_takeOver 13 = .ok (.putfield 50, 3) := by decide +kernel
theorem dX0_takeOver_16 : decode cX0_takeOver 16 = .ok (.aload_n 0, 1) := by decide +kernel
theorem dX0_takeOver_17 : decode cX0_takeOver 17 = .ok (.aload_n 1, 1) := by decide +kernel
theorem dX0_takeOver_18 : decode cX0_takeOver 18 = .ok (.getfield 53, 3) := by decide +kernel
theorem dX0_takeOver_21 : decode cX0_takeOver 21 = .ok (.putfield 53, 3) := by decide +kernel
theorem dX0_takeOver_24 : decode cX0_takeOver 24 = .ok (.aload_n 1, 1) := by decide +kernel
theorem dX0_takeOver_25 : decode cX0_takeOver 25 = .ok (.getfield 11, 3) := by decide +kernel
theorem dX0_takeOver_28 : decode cX0_takeOver 28 = .ok (.iconst 0, 1) := by decide +kernel
theorem dX0_takeOver_29 : decode cX0_takeOver 29 = .ok (.aload_n 0, 1) := by decide +kernel
theorem dX0_takeOver_30 : decode cX0_takeOver 30 = .ok (.getfield 11, 3) := by decide +kernel
theorem dX0_takeOver_33 : decode cX0_takeOver 33 = .ok (.iconst 0, 1) := by decide +kernel
theorem dX0_takeOver_34 : decode cX0_takeOver 34 = .ok (.iconst 4, 1) := by decide +kernel
theorem dX0_takeOver_35 : decode cX0_takeOver 35 = .ok (.invokestatic 56, 3) := by decide +kernel
theorem dX0_takeOver_38 : decode cX0_takeOver 38 = .ok (.aload_n 1, 1) := by decide +kernel
theorem dX0_takeOver_39 : decode cX0_takeOver 39 = .ok (.getfield 15, 3) := by decide +kernel
theorem dX0_takeOver_42 : decode cX0_takeOver 42 = .ok (.iconst 0, 1) := by decide +kernel
theorem dX0_takeOver_43 : decode cX0_takeOver 43 = .ok (.aload_n 0, 1) := by decide +kernel
theorem dX0_takeOver_44 : decode cX0_takeOver 44 = .ok (.getfield 15, 3) := by decide +kernel
theorem dX0_takeOver_47 : decode cX0_takeOver 47 = .ok (.iconst 0, 1) := by decide +kernel
theorem dX0_takeOver_48 : decode cX0_takeOver 48 = .ok (.bipush 8, 2) := by decide +kernel
theorem dX0_takeOver_50 : decode cX0_takeOver 50 = .ok (.invokestatic 56, 3) := by decide +kernel
theorem dX0_takeOver_53 : decode cX0_takeOver 53 = .ok (.aload_n 1, 1) := by decide +kernel
theorem dX0_takeOver_54 : decode cX0_takeOver 54 = .ok (.getfield 18, 3) := by decide +kernel
theorem dX0_takeOver_57 : decode cX0_takeOver 57 = .ok (.iconst 0, 1) := by decide +kernel
theorem dX0_takeOver_58 : decode cX0_takeOver 58 = .ok (.aload_n 0, 1) := by decide +kernel
theorem dX0_takeOver_59 : decode cX0_takeOver 59 = .ok (.getfield 18, 3) := by decide +kernel
theorem dX0_takeOver_62 : decode cX0_takeOver 62 = .ok (.iconst 0, 1) := by decide +kernel
theorem dX0_takeOver_63 : decode cX0_takeOver 63 = .ok (.bipush 8, 2) := by decide +kernel
theorem dX0_takeOver_65 : decode cX0_takeOver 65 = .ok (.invokestatic 56, 3) := by decide +kernel
theorem dX0_takeOver_68 : decode cX0_takeOver 68 = .ok (.aload_n 1, 1) := by decide +kernel
theorem dX0_takeOver_69 : decode cX0_takeOver 69 = .ok (.getfield 21, 3) := by decide +kernel
theorem dX0_takeOver_72 : decode cX0_takeOver 72 = .ok (.iconst 0, 1) := by decide +kernel
theorem dX0_takeOver_73 : decode cX0_takeOver 73 = .ok (.aload_n 0, 1) := by decide +kernel
theorem dX0_takeOver_74 : decode cX0_takeOver 74 = .ok (.getfield 21, 3) := by decide +kernel
theorem dX0_takeOver_77 : decode cX0_takeOver 77 = .ok (.iconst 0, 1) := by decide +kernel
theorem dX0_takeOver_78 : decode cX0_takeOver 78 = .ok (.bipush 16, 2) := by decide +kernel
theorem dX0_takeOver_80 : decode cX0_takeOver 80 = .ok (.invokestatic 56, 3) := by decide +kernel
theorem dX0_takeOver_83 : decode cX0_takeOver 83 = .ok (.aload_n 1, 1) := by decide +kernel
theorem dX0_takeOver_84 : decode cX0_takeOver 84 = .ok (.getfield 24, 3) := by decide +kernel
theorem dX0_takeOver_87 : decode cX0_takeOver 87 = .ok (.iconst 0, 1) := by decide +kernel
theorem dX0_takeOver_88 : decode cX0_takeOver 88 = .ok (.aload_n 0, 1) := by decide +kernel
theorem dX0_takeOver_89 : decode cX0_takeOver 89 = .ok (.getfield 24, 3) := by decide +kernel
theorem dX0_takeOver_92 : decode cX0_takeOver 92 = .ok (.iconst 0, 1) := by decide +kernel
theorem dX0_takeOver_93 : decode cX0_takeOver 93 = .ok (.bipush 16, 2) := by decide +kernel
theorem dX0_takeOver_95 : decode cX0_takeOver 95 = .ok (.invokestatic 56, 3) := by decide +kernel
theorem dX0_takeOver_98 : decode cX0_takeOver 98 = .ok (.aload_n 1, 1) := by decide +kernel
theorem dX0_takeOver_99 : decode cX0_takeOver 99 = .ok (.getfield 27, 3) := by decide +kernel
theorem dX0_takeOver_102 : decode cX0_takeOver 102 = .ok (.iconst 0, 1) := by decide +kernel
theorem dX0_takeOver_103 : decode cX0_takeOver 103 = .ok (.aload_n 0, 1) := by decide +kernel
theorem dX0_takeOver_104 : decode cX0_takeOver 104 = .ok (.getfield 27, 3) := by decide +kernel
theorem dX0_takeOver_107 : decode cX0_takeOver 107 = .ok (.iconst 0, 1) := by decide +kernel
theorem dX0_takeOver_108 : decode cX0_takeOver 108 = .ok (.bipush 16, 2) := by decide +kernel
theorem dX0_takeOver_110 : decode cX0_takeOver 110 = .ok (.invokestatic 56, 3) := by decide +kernel
theorem dX0_takeOver_113 : decode cX0_takeOver 113 = .ok (.aload_n 1, 1) := by decide +kernel
theorem dX0_takeOver_114 : decode cX0_takeOver 114 = .ok (.getfield 30, 3) := by decide +kernel
theorem dX0_takeOver_117 : decode cX0_takeOver 117 = .ok (.iconst 0, 1) := by decide +kernel
theorem dX0_takeOver_118 : decode cX0_takeOver 118 = .ok (.aload_n 0, 1) := by decide +kernel
theorem dX0_takeOver_119 : decode cX0_takeOver 119 = .ok (.getfield 30, 3) := by decide +kernel
theorem dX0_takeOver_122 : decode cX0_takeOver 122 = .ok (.iconst 0, 1) := by decide +kernel
theorem dX0_takeOver_123 : decode cX0_takeOver 123 = .ok (.bipush 16, 2) := by decide +kernel
theorem dX0_takeOver_125 : decode cX0_takeOver 125 = .ok (.invokestatic 56, 3) := by decide +kernel
theorem dX0_takeOver_128 : decode cX0_takeOver 128 = .ok (.aload_n 1, 1) := by decide +kernel
theorem dX0_takeOver_129 : decode cX0_takeOver 129 = .ok (.getfield 33, 3) := by decide +kernel
theorem dX0_takeOver_132 : decode cX0_takeOver 132 = .ok (.iconst 0, 1) := by decide +kernel
theorem dX0_takeOver_133 : decode cX0_takeOver 133 = .ok (.aload_n 0, 1) := by decide +kernel
theorem dX0_takeOver_134 : decode cX0_takeOver 134 = .ok (.getfield 33, 3) := by decide +kernel
theorem dX0_takeOver_137 : decode cX0_takeOver 137 = .ok (.iconst 0, 1) := by decide +kernel
theorem dX0_takeOver_138 : decode cX0_takeOver 138 = .ok (.bipush 16, 2) := by decide +kernel
theorem dX0_takeOver_140 : decode cX0_takeOver 140 = .ok (.invokestatic 56, 3) := by decide +kernel
theorem dX0_takeOver_143 : decode cX0_takeOver 143 = .ok (.iconst 0, 1) := by decide +kernel
theorem dX0_takeOver_144 : decode cX0_takeOver 144 = .ok (.istore_n 2, 1) := by decide +kernel
theorem dX0_takeOver_145 : decode cX0_takeOver 145 = .ok (.iload_n 2, 1) := by decide +kernel
theorem dX0_takeOver_146 : decode cX0_takeOver 146 = .ok (.bipush 16, 2) := by decide +kernel
theorem dX0_takeOver_148 : decode cX0_takeOver 148 = .ok (.if_icmp .ge 21, 3) := by decide +kernel
theorem dX0_takeOver_151 : decode cX0_takeOver 151 = .ok (.aload_n 0, 1) := by decide +kernel
theorem dX0_takeOver_152 : decode cX0_takeOver 152 = .ok (.getfield 36, 3) := by decide +kernel
theorem dX0_takeOver_155 : decode cX0_takeOver 155 = .ok (.iload_n 2, 1) := by decide +kernel
theorem dX0_takeOver_156 : decode cX0_takeOver 156 = .ok (.aload_n 1, 1) := by decide +kernel
theorem dX0_takeOver_157 : decode cX0_takeOver 157 = .ok (.getfield 36, 3) := by decide +kernel
theorem dX0_takeOver_160 : decode cX0_takeOver 160 = .ok (.iload_n 2, 1) := by decide +kernel
theorem dX0_takeOver_161 : decode cX0_takeOver 161 = .ok (.baload, 1) := by decide +kernel
theorem dX0_takeOver_162 : decode cX0_takeOver 162 = .ok (.bastore, 1) := by decide +kernel
theorem dX0_takeOver_163 : decode cX0_takeOver 163 = .ok (.iinc 2 1, 3) := by decide +kernel
theorem dX0_takeOver_166 : decode cX0_takeOver 166 = .ok (.goto (-21), 3) := by decide +kernel
theorem dX0_takeOver_169 : decode cX0_takeOver 169 = .ok (.aload_n 1, 1) := by decide +kernel
theorem dX0_takeOver_170 : decode cX0_takeOver 170 = .ok (.getfield 40, 3) := by decide +kernel
theorem dX0_takeOver_173 : decode cX0_takeOver 173 = .ok (.iconst 0, 1) := by decide +kernel
theorem dX0_takeOver_174 : decode cX0_takeOver 174 = .ok (.aload_n 0, 1) := by decide +kernel
theorem dX0_takeOver_175 : decode cX0_takeOver 175 = .ok (.getfield 40, 3) := by decide +kernel
theorem dX0_takeOver_178 : decode cX0_takeOver 178 = .ok (.iconst 0, 1) := by decide +kernel
theorem dX0_takeOver_179 : decode cX0_takeOver 179 = .ok (.bipush 16, 2) := by decide +kernel
theorem dX0_takeOver_181 : decode cX0_takeOver 181 = .ok (.invokestatic 56, 3) := by decide +kernel
theorem dX0_takeOver_184 : decode cX0_takeOver 184 = .ok (.aload_n 1, 1) := by decide +kernel
theorem dX0_takeOver_185 : decode cX0_takeOver 185 = .ok (.getfield 43, 3) := by decide +kernel
theorem dX0_takeOver_188 : decode cX0_takeOver 188 = .ok (.iconst 0, 1) := by decide +kernel
theorem dX0_takeOver_189 : decode cX0_takeOver 189 = .ok (.aload_n 0, 1) := by decide +kernel
theorem dX0_takeOver_190 : decode cX0_takeOver 190 = .ok (.getfield 43, 3) := by decide +kernel
theorem dX0_takeOver_193 : decode cX0_takeOver 193 = .ok (.iconst 0, 1) := by decide +kernel
theorem dX0_takeOver_194 : decode cX0_takeOver 194 = .ok (.bipush 16, 2) := by decide +kernel
theorem dX0_takeOver_196 : decode cX0_takeOver 196 = .ok (.invokestatic 56, 3) := by decide +kernel
theorem dX0_takeOver_199 : decode cX0_takeOver 199 = .ok (.return_, 1) := by decide +kernel
theorem dX0_addLand_0 : decode cX0_addLand 0 = .ok (.aload_n 0, 1) := by decide +kernel
theorem dX0_addLand_1 : decode cX0_addLand 1 = .ok (.getfield 46, 3) := by decide +kernel
theorem dX0_addLand_4 : decode cX0_addLand 4 = .ok (.iconst 4, 1) := by decide +kernel
theorem dX0_addLand_5 : decode cX0_addLand 5 = .ok (.if_icmp .ge 23, 3) := by decide +kernel
theorem dX0_addLand_8 : decode cX0_addLand 8 = .ok (.aload_n 0, 1) := by decide +kernel
theorem dX0_addLand_9 : decode cX0_addLand 9 = .ok (.getfield 11, 3) := by decide +kernel
theorem dX0_addLand_12 : decode cX0_addLand 12 = .ok (.aload_n 0, 1) := by decide +kernel
theorem dX0_addLand_13 : decode cX0_addLand 13 = .ok (.getfield 46, 3) := by decide +kernel
theorem dX0_addLand_16 : decode cX0_addLand 16 = .ok (.iload_n 1, 1) := by decide +kernel
theorem dX0_addLand_17 : decode cX0_addLand 17 = .ok (.iastore, 1) := by decide +kernel
theorem dX0_addLand_18 : decode cX0_addLand 18 = .ok (.aload_n 0, 1) := by decide +kernel
theorem dX0_addLand_19 : decode cX0_addLand 19 = .ok (.dup, 1) := by decide +kernel
theorem dX0_addLand_20 : decode cX0_addLand 20 = .ok (.getfield 46, 3) := by decide +kernel
theorem dX0_addLand_23 : decode cX0_addLand 23 = .ok (.iconst 1, 1) := by decide +kernel
theorem dX0_addLand_24 : decode cX0_addLand 24 = .ok (.iadd, 1) := by decide +kernel
theorem dX0_addLand_25 : decode cX0_addLand 25 = .ok (.putfield 46, 3) := by decide +kernel
theorem dX0_addLand_28 : decode cX0_addLand 28 = .ok (.return_, 1) := by decide +kernel
theorem dX0_addTown_0 : decode cX0_addTown 0 = .ok (.aload_n 0, 1) := by decide +kernel
theorem dX0_addTown_1 : decode cX0_addTown 1 = .ok (.getfield 50, 3) := by decide +kernel
theorem dX0_addTown_4 : decode cX0_addTown 4 = .ok (.bipush 8, 2) := by decide +kernel
theorem dX0_addTown_6 : decode cX0_addTown 6 = .ok (.if_icmp .ge 33, 3) := by decide +kernel
theorem dX0_addTown_9 : decode cX0_addTown 9 = .ok (.aload_n 0, 1) := by decide +kernel
theorem dX0_addTown_10 : decode cX0_addTown 10 = .ok (.getfield 15, 3) := by decide +kernel
theorem dX0_addTown_13 : decode cX0_addTown 13 = .ok (.aload_n 0, 1) := by decide +kernel
theorem dX0_addTown_14 : decode cX0_addTown 14 = .ok (.getfield 50, 3) := by decide +kernel
theorem dX0_addTown_17 : decode cX0_addTown 17 = .ok (.iload_n 1, 1) := by decide +kernel
theorem dX0_addTown_18 : decode cX0_addTown 18 = .ok (.iastore, 1) := by decide +kernel
theorem dX0_addTown_19 : decode cX0_addTown 19 = .ok (.aload_n 0, 1) := by decide +kernel
theorem dX0_addTown_20 : decode cX0_addTown 20 = .ok (.getfield 18, 3) := by decide +kernel
theorem dX0_addTown_23 : decode cX0_addTown 23 = .ok (.aload_n 0, 1) := by decide +kernel
theorem dX0_addTown_24 : decode cX0_addTown 24 = .ok (.getfield 50, 3) := by decide +kernel
theorem dX0_addTown_27 : decode cX0_addTown 27 = .ok (.iload_n 2, 1) := by decide +kernel
theorem dX0_addTown_28 : decode cX0_addTown 28 = .ok (.iastore, 1) := by decide +kernel
theorem dX0_addTown_29 : decode cX0_addTown 29 = .ok (.aload_n 0, 1) := by decide +kernel
theorem dX0_addTown_30 : decode cX0_addTown 30 = .ok (.dup, 1) := by decide +kernel
theorem dX0_addTown_31 : decode cX0_addTown 31 = .ok (.getfield 50, 3) := by decide +kernel
theorem dX0_addTown_34 : decode cX0_addTown 34 = .ok (.iconst 1, 1) := by decide +kernel
theorem dX0_addTown_35 : decode cX0_addTown 35 = .ok (.iadd, 1) := by decide +kernel
theorem dX0_addTown_36 : decode cX0_addTown 36 = .ok (.putfield 50, 3) := by decide +kernel
theorem dX0_addTown_39 : decode cX0_addTown 39 = .ok (.return_, 1) := by decide +kernel
theorem dX0_addLink_0 : decode cX0_addLink 0 = .ok (.aload_n 0, 1) := by decide +kernel
theorem dX0_addLink_1 : decode cX0_addLink 1 = .ok (.getfield 53, 3) := by decide +kernel
theorem dX0_addLink_4 : decode cX0_addLink 4 = .ok (.bipush 16, 2) := by decide +kernel
theorem dX0_addLink_6 : decode cX0_addLink 6 = .ok (.if_icmp .ge 108, 3) := by decide +kernel
theorem dX0_addLink_9 : decode cX0_addLink 9 = .ok (.aload_n 0, 1) := by decide +kernel
theorem dX0_addLink_10 : decode cX0_addLink 10 = .ok (.getfield 21, 3) := by decide +kernel
theorem dX0_addLink_13 : decode cX0_addLink 13 = .ok (.aload_n 0, 1) := by decide +kernel
theorem dX0_addLink_14 : decode cX0_addLink 14 = .ok (.getfield 53, 3) := by decide +kernel
theorem dX0_addLink_17 : decode cX0_addLink 17 = .ok (.iload_n 1, 1) := by decide +kernel
theorem dX0_addLink_18 : decode cX0_addLink 18 = .ok (.iastore, 1) := by decide +kernel
theorem dX0_addLink_19 : decode cX0_addLink 19 = .ok (.aload_n 0, 1) := by decide +kernel
theorem dX0_addLink_20 : decode cX0_addLink 20 = .ok (.getfield 24, 3) := by decide +kernel
theorem dX0_addLink_23 : decode cX0_addLink 23 = .ok (.aload_n 0, 1) := by decide +kernel
theorem dX0_addLink_24 : decode cX0_addLink 24 = .ok (.getfield 53, 3) := by decide +kernel
theorem dX0_addLink_27 : decode cX0_addLink 27 = .ok (.iload_n 2, 1) := by decide +kernel
theorem dX0_addLink_28 : decode cX0_addLink 28 = .ok (.iastore, 1) := by decide +kernel
theorem dX0_addLink_29 : decode cX0_addLink 29 = .ok (.aload_n 0, 1) := by decide +kernel
theorem dX0_addLink_30 : decode cX0_addLink 30 = .ok (.getfield 36, 3) := by decide +kernel
theorem dX0_addLink_33 : decode cX0_addLink 33 = .ok (.aload_n 0, 1) := by decide +kernel
theorem dX0_addLink_34 : decode cX0_addLink 34 = .ok (.getfield 53, 3) := by decide +kernel
theorem dX0_addLink_37 : decode cX0_addLink 37 = .ok (.iload_n 3, 1) := by decide +kernel
theorem dX0_addLink_38 : decode cX0_addLink 38 = .ok (.bastore, 1) := by decide +kernel
theorem dX0_addLink_39 : decode cX0_addLink 39 = .ok (.aload_n 0, 1) := by decide +kernel
theorem dX0_addLink_40 : decode cX0_addLink 40 = .ok (.getfield 27, 3) := by decide +kernel
theorem dX0_addLink_43 : decode cX0_addLink 43 = .ok (.aload_n 0, 1) := by decide +kernel
theorem dX0_addLink_44 : decode cX0_addLink 44 = .ok (.getfield 53, 3) := by decide +kernel
theorem dX0_addLink_47 : decode cX0_addLink 47 = .ok (.iload 4, 2) := by decide +kernel
theorem dX0_addLink_49 : decode cX0_addLink 49 = .ok (.iastore, 1) := by decide +kernel
theorem dX0_addLink_50 : decode cX0_addLink 50 = .ok (.aload_n 0, 1) := by decide +kernel
theorem dX0_addLink_51 : decode cX0_addLink 51 = .ok (.getfield 30, 3) := by decide +kernel
theorem dX0_addLink_54 : decode cX0_addLink 54 = .ok (.aload_n 0, 1) := by decide +kernel
theorem dX0_addLink_55 : decode cX0_addLink 55 = .ok (.getfield 53, 3) := by decide +kernel
theorem dX0_addLink_58 : decode cX0_addLink 58 = .ok (.iload 5, 2) := by decide +kernel
theorem dX0_addLink_60 : decode cX0_addLink 60 = .ok (.iastore, 1) := by decide +kernel
theorem dX0_addLink_61 : decode cX0_addLink 61 = .ok (.aload_n 0, 1) := by decide +kernel
theorem dX0_addLink_62 : decode cX0_addLink 62 = .ok (.getfield 33, 3) := by decide +kernel
theorem dX0_addLink_65 : decode cX0_addLink 65 = .ok (.aload_n 0, 1) := by decide +kernel
theorem dX0_addLink_66 : decode cX0_addLink 66 = .ok (.getfield 53, 3) := by decide +kernel
theorem dX0_addLink_69 : decode cX0_addLink 69 = .ok (.iload 6, 2) := by decide +kernel
theorem dX0_addLink_71 : decode cX0_addLink 71 = .ok (.iastore, 1) := by decide +kernel
theorem dX0_addLink_72 : decode cX0_addLink 72 = .ok (.aload_n 0, 1) := by decide +kernel
theorem dX0_addLink_73 : decode cX0_addLink 73 = .ok (.getfield 40, 3) := by decide +kernel
theorem dX0_addLink_76 : decode cX0_addLink 76 = .ok (.aload_n 0, 1) := by decide +kernel
theorem dX0_addLink_77 : decode cX0_addLink 77 = .ok (.getfield 53, 3) := by decide +kernel
theorem dX0_addLink_80 : decode cX0_addLink 80 = .ok (.aload_n 0, 1) := by decide +kernel
theorem dX0_addLink_81 : decode cX0_addLink 81 = .ok (.iload_n 1, 1) := by decide +kernel
theorem dX0_addLink_82 : decode cX0_addLink 82 = .ok (.iload_n 2, 1) := by decide +kernel
theorem dX0_addLink_83 : decode cX0_addLink 83 = .ok (.iconst 2, 1) := by decide +kernel
theorem dX0_addLink_84 : decode cX0_addLink 84 = .ok (.invokevirtual 62, 3) := by decide +kernel
theorem dX0_addLink_87 : decode cX0_addLink 87 = .ok (.iastore, 1) := by decide +kernel
theorem dX0_addLink_88 : decode cX0_addLink 88 = .ok (.aload_n 0, 1) := by decide +kernel
theorem dX0_addLink_89 : decode cX0_addLink 89 = .ok (.getfield 43, 3) := by decide +kernel
theorem dX0_addLink_92 : decode cX0_addLink 92 = .ok (.aload_n 0, 1) := by decide +kernel
theorem dX0_addLink_93 : decode cX0_addLink 93 = .ok (.getfield 53, 3) := by decide +kernel
theorem dX0_addLink_96 : decode cX0_addLink 96 = .ok (.aload_n 0, 1) := by decide +kernel
theorem dX0_addLink_97 : decode cX0_addLink 97 = .ok (.iload_n 2, 1) := by decide +kernel
theorem dX0_addLink_98 : decode cX0_addLink 98 = .ok (.iload_n 1, 1) := by decide +kernel
theorem dX0_addLink_99 : decode cX0_addLink 99 = .ok (.iconst 1, 1) := by decide +kernel
theorem dX0_addLink_100 : decode cX0_addLink 100 = .ok (.invokevirtual 62, 3) := by decide +kernel
theorem dX0_addLink_103 : decode cX0_addLink 103 = .ok (.iastore, 1) := by decide +kernel
theorem dX0_addLink_104 : decode cX0_addLink 104 = .ok (.aload_n 0, 1) := by decide +kernel
theorem dX0_addLink_105 : decode cX0_addLink 105 = .ok (.dup, 1) := by decide +kernel
theorem dX0_addLink_106 : decode cX0_addLink 106 = .ok (.getfield 53, 3) := by decide +kernel
theorem dX0_addLink_109 : decode cX0_addLink 109 = .ok (.iconst 1, 1) := by decide +kernel
theorem dX0_addLink_110 : decode cX0_addLink 110 = .ok (.iadd, 1) := by decide +kernel
theorem dX0_addLink_111 : decode cX0_addLink 111 = .ok (.putfield 53, 3) := by decide +kernel
theorem dX0_addLink_114 : decode cX0_addLink 114 = .ok (.return_, 1) := by decide +kernel
theorem dX0_hasLand_0 : decode cX0_hasLand 0 = .ok (.iload_n 1, 1) := by decide +kernel
theorem dX0_hasLand_1 : decode cX0_hasLand 1 = .ok (.ifCond .lt 15, 3) := by decide +kernel
theorem dX0_hasLand_4 : decode cX0_hasLand 4 = .ok (.iload_n 1, 1) := by decide +kernel
theorem dX0_hasLand_5 : decode cX0_hasLand 5 = .ok (.aload_n 0, 1) := by decide +kernel
theorem dX0_hasLand_6 : decode cX0_hasLand 6 = .ok (.getfield 46, 3) := by decide +kernel
theorem dX0_hasLand_9 : decode cX0_hasLand 9 = .ok (.if_icmp .ge 7, 3) := by decide +kernel
theorem dX0_hasLand_12 : decode cX0_hasLand 12 = .ok (.iconst 1, 1) := by decide +kernel
theorem dX0_hasLand_13 : decode cX0_hasLand 13 = .ok (.goto 4, 3) := by decide +kernel
theorem dX0_hasLand_16 : decode cX0_hasLand 16 = .ok (.iconst 0, 1) := by decide +kernel
theorem dX0_hasLand_17 : decode cX0_hasLand 17 = .ok (.ireturn, 1) := by decide +kernel
theorem dX0_hasTown_0 : decode cX0_hasTown 0 = .ok (.iload_n 1, 1) := by decide +kernel
theorem dX0_hasTown_1 : decode cX0_hasTown 1 = .ok (.ifCond .lt 15, 3) := by decide +kernel
theorem dX0_hasTown_4 : decode cX0_hasTown 4 = .ok (.iload_n 1, 1) := by decide +kernel
theorem dX0_hasTown_5 : decode cX0_hasTown 5 = .ok (.aload_n 0, 1) := by decide +kernel
theorem dX0_hasTown_6 : decode cX0_hasTown 6 = .ok (.getfield 50, 3) := by decide +kernel
theorem dX0_hasTown_9 : decode cX0_hasTown 9 = .ok (.if_icmp .ge 7, 3) := by decide +kernel
theorem dX0_hasTown_12 : decode cX0_hasTown 12 = .ok (.iconst 1, 1) := by decide +kernel
theorem dX0_hasTown_13 : decode cX0_hasTown 13 = .ok (.goto 4, 3) := by decide +kernel
theorem dX0_hasTown_16 : decode cX0_hasTown 16 = .ok (.iconst 0, 1) := by decide +kernel
theorem dX0_hasTown_17 : decode cX0_hasTown 17 = .ok (.ireturn, 1) := by decide +kernel
theorem dX0_hasLink_0 : decode cX0_hasLink 0 = .ok (.iload_n 1, 1) := by decide +kernel
theorem dX0_hasLink_1 : decode cX0_hasLink 1 = .ok (.ifCond .lt 15, 3) := by decide +kernel
theorem dX0_hasLink_4 : decode cX0_hasLink 4 = .ok (.iload_n 1, 1) := by decide +kernel
theorem dX0_hasLink_5 : decode cX0_hasLink 5 = .ok (.aload_n 0, 1) := by decide +kernel
theorem dX0_hasLink_6 : decode cX0_hasLink 6 = .ok (.getfield 53, 3) := by decide +kernel
theorem dX0_hasLink_9 : decode cX0_hasLink 9 = .ok (.if_icmp .ge 7, 3) := by decide +kernel
theorem dX0_hasLink_12 : decode cX0_hasLink 12 = .ok (.iconst 1, 1) := by decide +kernel
theorem dX0_hasLink_13 : decode cX0_hasLink 13 = .ok (.goto 4, 3) := by decide +kernel
theorem dX0_hasLink_16 : decode cX0_hasLink 16 = .ok (.iconst 0, 1) := by decide +kernel
theorem dX0_hasLink_17 : decode cX0_hasLink 17 = .ok (.ireturn, 1) := by decide +kernel
theorem dX0_leavesAt_0 : decode cX0_leavesAt 0 = .ok (.aload_n 0, 1) := by decide +kernel
theorem dX0_leavesAt_1 : decode cX0_leavesAt 1 = .ok (.getfield 27, 3) := by decide +kernel
theorem dX0_leavesAt_4 : decode cX0_leavesAt 4 = .ok (.iload_n 1, 1) := by decide +kernel
theorem dX0_leavesAt_5 : decode cX0_leavesAt 5 = .ok (.iaload, 1) := by decide +kernel
theorem dX0_leavesAt_6 : decode cX0_leavesAt 6 = .ok (.aload_n 0, 1) := by decide +kernel
theorem dX0_leavesAt_7 : decode cX0_leavesAt 7 = .ok (.getfield 36, 3) := by decide +kernel
theorem dX0_leavesAt_10 : decode cX0_leavesAt 10 = .ok (.iload_n 1, 1) := by decide +kernel
theorem dX0_leavesAt_11 : decode cX0_leavesAt 11 = .ok (.baload, 1) := by decide +kernel
theorem dX0_leavesAt_12 : decode cX0_leavesAt 12 = .ok (.ifCond .eq 10, 3) := by decide +kernel
theorem dX0_leavesAt_15 : decode cX0_leavesAt 15 = .ok (.iload_n 2, 1) := by decide +kernel
theorem dX0_leavesAt_16 : decode cX0_leavesAt 16 = .ok (.bipush 24, 2) := by decide +kernel
theorem dX0_leavesAt_18 : decode cX0_leavesAt 18 = .ok (.irem, 1) := by decide +kernel
theorem dX0_leavesAt_19 : decode cX0_leavesAt 19 = .ok (.goto 4, 3) := by decide +kernel
theorem dX0_leavesAt_22 : decode cX0_leavesAt 22 = .ok (.iload_n 2, 1) := by decide +kernel
theorem dX0_leavesAt_23 : decode cX0_leavesAt 23 = .ok (.if_icmp .ne 7, 3) := by decide +kernel
theorem dX0_leavesAt_26 : decode cX0_leavesAt 26 = .ok (.iconst 1, 1) := by decide +kernel
theorem dX0_leavesAt_27 : decode cX0_leavesAt 27 = .ok (.goto 4, 3) := by decide +kernel
theorem dX0_leavesAt_30 : decode cX0_leavesAt 30 = .ok (.iconst 0, 1) := by decide +kernel
theorem dX0_leavesAt_31 : decode cX0_leavesAt 31 = .ok (.ireturn, 1) := by decide +kernel
theorem dX0_stampingLand_0 : decode cX0_stampingLand 0 = .ok (.aload_n 0, 1) := by decide +kernel
theorem dX0_stampingLand_1 : decode cX0_stampingLand 1 = .ok (.getfield 15, 3) := by decide +kernel
theorem dX0_stampingLand_4 : decode cX0_stampingLand 4 = .ok (.iload_n 1, 1) := by decide +kernel
theorem dX0_stampingLand_5 : decode cX0_stampingLand 5 = .ok (.iaload, 1) := by decide +kernel
theorem dX0_stampingLand_6 : decode cX0_stampingLand 6 = .ok (.istore 4, 2) := by decide +kernel
theorem dX0_stampingLand_8 : decode cX0_stampingLand 8 = .ok (.iload 4, 2) := by decide +kernel
theorem dX0_stampingLand_10 : decode cX0_stampingLand 10 = .ok (.aload_n 0, 1) := by decide +kernel
theorem dX0_stampingLand_11 : decode cX0_stampingLand 11 = .ok (.getfield 15, 3) := by decide +kernel
theorem dX0_stampingLand_14 : decode cX0_stampingLand 14 = .ok (.iload_n 2, 1) := by decide +kernel
theorem dX0_stampingLand_15 : decode cX0_stampingLand 15 = .ok (.iaload, 1) := by decide +kernel
theorem dX0_stampingLand_16 : decode cX0_stampingLand 16 = .ok (.if_icmp .eq 20, 3) := by decide +kernel
theorem dX0_stampingLand_19 : decode cX0_stampingLand 19 = .ok (.aload_n 0, 1) := by decide +kernel
theorem dX0_stampingLand_20 : decode cX0_stampingLand 20 = .ok (.getfield 11, 3) := by decide +kernel
theorem dX0_stampingLand_23 : decode cX0_stampingLand 23 = .ok (.iload 4, 2) := by decide +kernel
theorem dX0_stampingLand_25 : decode cX0_stampingLand 25 = .ok (.iaload, 1) := by decide +kernel
theorem dX0_stampingLand_26 : decode cX0_stampingLand 26 = .ok (.iload_n 3, 1) := by decide +kernel
theorem dX0_stampingLand_27 : decode cX0_stampingLand 27 = .ok (.iand, 1) := by decide +kernel
theorem dX0_stampingLand_28 : decode cX0_stampingLand 28 = .ok (.ifCond .eq 8, 3) := by decide +kernel
theorem dX0_stampingLand_31 : decode cX0_stampingLand 31 = .ok (.iload 4, 2) := by decide +kernel
theorem dX0_stampingLand_33 : decode cX0_stampingLand 33 = .ok (.goto 4, 3) := by decide +kernel
theorem dX0_stampingLand_36 : decode cX0_stampingLand 36 = .ok (.iconst (-1), 1) := by decide +kernel
theorem dX0_stampingLand_37 : decode cX0_stampingLand 37 = .ok (.ireturn, 1) := by decide +kernel
theorem dX0_dayAt_0 : decode cX0_dayAt 0 = .ok (.iload_n 1, 1) := by decide +kernel
theorem dX0_dayAt_1 : decode cX0_dayAt 1 = .ok (.aload_n 0, 1) := by decide +kernel
theorem dX0_dayAt_2 : decode cX0_dayAt 2 = .ok (.getfield 18, 3) := by decide +kernel
theorem dX0_dayAt_5 : decode cX0_dayAt 5 = .ok (.iload_n 2, 1) := by decide +kernel
theorem dX0_dayAt_6 : decode cX0_dayAt 6 = .ok (.iaload, 1) := by decide +kernel
theorem dX0_dayAt_7 : decode cX0_dayAt 7 = .ok (.iadd, 1) := by decide +kernel
theorem dX0_dayAt_8 : decode cX0_dayAt 8 = .ok (.bipush 24, 2) := by decide +kernel
theorem dX0_dayAt_10 : decode cX0_dayAt 10 = .ok (.iadd, 1) := by decide +kernel
theorem dX0_dayAt_11 : decode cX0_dayAt 11 = .ok (.bipush 24, 2) := by decide +kernel
theorem dX0_dayAt_13 : decode cX0_dayAt 13 = .ok (.idiv, 1) := by decide +kernel
theorem dX0_dayAt_14 : decode cX0_dayAt 14 = .ok (.iconst 1, 1) := by decide +kernel
theorem dX0_dayAt_15 : decode cX0_dayAt 15 = .ok (.isub, 1) := by decide +kernel
theorem dX0_dayAt_16 : decode cX0_dayAt 16 = .ok (.ireturn, 1) := by decide +kernel
theorem dX1_init_0 : decode cX1_init 0 = .ok (.aload_n 0, 1) := by decide +kernel
theorem dX1_init_1 : decode cX1_init 1 = .ok (.invokespecial 3, 3) := by decide +kernel
theorem dX1_init_4 : decode cX1_init 4 = .ok (.aload_n 0, 1) := by decide +kernel
theorem dX1_init_5 : decode cX1_init 5 = .ok (.bipush 97, 2) := by decide +kernel
theorem dX1_init_7 : decode cX1_init 7 = .ok (.newarray .int, 2) := by decide +kernel
theorem dX1_init_9 : decode cX1_init 9 = .ok (.putfield 9, 3) := by decide +kernel
theorem dX1_init_12 : decode cX1_init 12 = .ok (.aload_n 0, 1) := by decide +kernel
theorem dX1_init_13 : decode cX1_init 13 = .ok (.iconst 4, 1) := by decide +kernel
theorem dX1_init_14 : decode cX1_init 14 = .ok (.newarray .int, 2) := by decide +kernel
theorem dX1_init_16 : decode cX1_init 16 = .ok (.putfield 17, 3) := by decide +kernel
theorem dX1_init_19 : decode cX1_init 19 = .ok (.aload_n 0, 1) := by decide +kernel
theorem dX1_init_20 : decode cX1_init 20 = .ok (.bipush 96, 2) := by decide +kernel
theorem dX1_init_22 : decode cX1_init 22 = .ok (.newarray .int, 2) := by decide +kernel
theorem dX1_init_24 : decode cX1_init 24 = .ok (.putfield 20, 3) := by decide +kernel
theorem dX1_init_27 : decode cX1_init 27 = .ok (.return_, 1) := by decide +kernel
theorem dX2_init_0 : decode cX2_init 0 = .ok (.aload_n 0, 1) := by decide +kernel
theorem dX2_init_1 : decode cX2_init 1 = .ok (.invokespecial 3, 3) := by decide +kernel
theorem dX2_init_4 : decode cX2_init 4 = .ok (.aload_n 0, 1) := by decide +kernel
theorem dX2_init_5 : decode cX2_init 5 = .ok (.bipush 96, 2) := by decide +kernel
theorem dX2_init_7 : decode cX2_init 7 = .ok (.putfield 9, 3) := by decide +kernel
theorem dX2_init_10 : decode cX2_init 10 = .ok (.aload_n 0, 1) := by decide +kernel
theorem dX2_init_11 : decode cX2_init 11 = .ok (.iconst 1, 1) := by decide +kernel
theorem dX2_init_12 : decode cX2_init 12 = .ok (.putfield 15, 3) := by decide +kernel
theorem dX2_init_15 : decode cX2_init 15 = .ok (.aload_n 0, 1) := by decide +kernel
theorem dX2_init_16 : decode cX2_init 16 = .ok (.bipush 8, 2) := by decide +kernel
theorem dX2_init_18 : decode cX2_init 18 = .ok (.newarray .int, 2) := by decide +kernel
theorem dX2_init_20 : decode cX2_init 20 = .ok (.putfield 19, 3) := by decide +kernel
theorem dX2_init_23 : decode cX2_init 23 = .ok (.aload_n 0, 1) := by decide +kernel
theorem dX2_init_24 : decode cX2_init 24 = .ok (.bipush 8, 2) := by decide +kernel
theorem dX2_init_26 : decode cX2_init 26 = .ok (.newarray .int, 2) := by decide +kernel
theorem dX2_init_28 : decode cX2_init 28 = .ok (.putfield 23, 3) := by decide +kernel
theorem dX2_init_31 : decode cX2_init 31 = .ok (.aload_n 0, 1) := by decide +kernel
theorem dX2_init_32 : decode cX2_init 32 = .ok (.bipush 8, 2) := by decide +kernel
theorem dX2_init_34 : decode cX2_init 34 = .ok (.newarray .int, 2) := by decide +kernel
theorem dX2_init_36 : decode cX2_init 36 = .ok (.putfield 26, 3) := by decide +kernel
theorem dX2_init_39 : decode cX2_init 39 = .ok (.aload_n 0, 1) := by decide +kernel
theorem dX2_init_40 : decode cX2_init 40 = .ok (.bipush 8, 2) := by decide +kernel
theorem dX2_init_42 : decode cX2_init 42 = .ok (.newarray .int, 2) := by decide +kernel
theorem dX2_init_44 : decode cX2_init 44 = .ok (.putfield 29, 3) := by decide +kernel
theorem dX2_init_47 : decode cX2_init 47 = .ok (.aload_n 0, 1) := by decide +kernel
theorem dX2_init_48 : decode cX2_init 48 = .ok (.bipush 8, 2) := by decide +kernel
theorem dX2_init_50 : decode cX2_init 50 = .ok (.newarray .boolean, 2) := by decide +kernel
theorem dX2_init_52 : decode cX2_init 52 = .ok (.putfield 32, 3) := by decide +kernel
theorem dX2_init_55 : decode cX2_init 55 = .ok (.aload_n 0, 1) := by decide +kernel
theorem dX2_init_56 : decode cX2_init 56 = .ok (.bipush 8, 2) := by decide +kernel
theorem dX2_init_58 : decode cX2_init 58 = .ok (.newarray .boolean, 2) := by decide +kernel
theorem dX2_init_60 : decode cX2_init 60 = .ok (.putfield 36, 3) := by decide +kernel
theorem dX2_init_63 : decode cX2_init 63 = .ok (.return_, 1) := by decide +kernel
theorem dX2_startAnew_0 : decode cX2_startAnew 0 = .ok (.aload_n 0, 1) := by decide +kernel
theorem dX2_startAnew_1 : decode cX2_startAnew 1 = .ok (.iconst 0, 1) := by decide +kernel
theorem dX2_startAnew_2 : decode cX2_startAnew 2 = .ok (.putfield 39, 3) := by decide +kernel
theorem dX2_startAnew_5 : decode cX2_startAnew 5 = .ok (.aload_n 0, 1) := by decide +kernel
theorem dX2_startAnew_6 : decode cX2_startAnew 6 = .ok (.iconst 0, 1) := by decide +kernel
theorem dX2_startAnew_7 : decode cX2_startAnew 7 = .ok (.iconst 0, 1) := by decide +kernel
theorem dX2_startAnew_8 : decode cX2_startAnew 8 = .ok (.bipush 96, 2) := by decide +kernel
theorem dX2_startAnew_10 : decode cX2_startAnew 10 = .ok (.invokevirtual 42, 3) := by decide +kernel
theorem dX2_startAnew_13 : decode cX2_startAnew 13 = .ok (.return_, 1) := by decide +kernel
theorem dX2_settle_0 : decode cX2_settle 0 = .ok (.aload_n 0, 1) := by decide +kernel
theorem dX2_settle_1 : decode cX2_settle 1 = .ok (.iload_n 1, 1) := by decide +kernel
theorem dX2_settle_2 : decode cX2_settle 2 = .ok (.putfield 46, 3) := by decide +kernel
theorem dX2_settle_5 : decode cX2_settle 5 = .ok (.aload_n 0, 1) := by decide +kernel
theorem dX2_settle_6 : decode cX2_settle 6 = .ok (.iload_n 2, 1) := by decide +kernel
theorem dX2_settle_7 : decode cX2_settle 7 = .ok (.putfield 49, 3) := by decide +kernel
theorem dX2_settle_10 : decode cX2_settle 10 = .ok (.aload_n 0, 1) := by decide +kernel
theorem dX2_settle_11 : decode cX2_settle 11 = .ok (.iload_n 3, 1) := by decide +kernel
theorem dX2_settle_12 : decode cX2_settle 12 = .ok (.putfield 9, 3) := by decide +kernel
theorem dX2_settle_15 : decode cX2_settle 15 = .ok (.aload_n 0, 1) := by decide +kernel
theorem dX2_settle_16 : decode cX2_settle 16 = .ok (.iconst 1, 1) := by decide +kernel
theorem dX2_settle_17 : decode cX2_settle 17 = .ok (.putfield 15, 3) := by decide +kernel
theorem dX2_settle_20 : decode cX2_settle 20 = .ok (.return_, 1) := by decide +kernel
theorem dX2_add_0 : decode cX2_add 0 = .ok (.aload_n 0, 1) := by decide +kernel
theorem dX2_add_1 : decode cX2_add 1 = .ok (.getfield 39, 3) := by decide +kernel
theorem dX2_add_4 : decode cX2_add 4 = .ok (.bipush 8, 2) := by decide +kernel
theorem dX2_add_6 : decode cX2_add 6 = .ok (.if_icmp .ge 15, 3) := by decide +kernel
theorem dX2_add_9 : decode cX2_add 9 = .ok (.aload_n 0, 1) := by decide +kernel
theorem dX2_add_10 : decode cX2_add 10 = .ok (.iload_n 1, 1) := by decide +kernel
theorem dX2_add_11 : decode cX2_add 11 = .ok (.invokevirtual 52, 3) := by decide +kernel
theorem dX2_add_14 : decode cX2_add 14 = .ok (.iload_n 1, 1) := by decide +kernel
theorem dX2_add_15 : decode cX2_add 15 = .ok (.invokestatic 56, 3) := by decide +kernel
theorem dX2_add_18 : decode cX2_add 18 = .ok (.if_icmp .lt 5, 3) := by decide +kernel
theorem dX2_add_21 : decode cX2_add 21 = .ok (.iconst (-1), 1) := by decide +kernel
theorem dX2_add_22 : decode cX2_add 22 = .ok (.ireturn, 1) := by decide +kernel
theorem dX2_add_23 : decode cX2_add 23 = .ok (.aload_n 0, 1) := by decide +kernel
theorem dX2_add_24 : decode cX2_add 24 = .ok (.getfield 19, 3) := by decide +kernel
theorem dX2_add_27 : decode cX2_add 27 = .ok (.aload_n 0, 1) := by decide +kernel
theorem dX2_add_28 : decode cX2_add 28 = .ok (.getfield 39, 3) := by decide +kernel
theorem dX2_add_31 : decode cX2_add 31 = .ok (.iload_n 1, 1) := by decide +kernel
theorem dX2_add_32 : decode cX2_add 32 = .ok (.iastore, 1) := by decide +kernel
theorem dX2_add_33 : decode cX2_add 33 = .ok (.aload_n 0, 1) := by decide +kernel
theorem dX2_add_34 : decode cX2_add 34 = .ok (.getfield 23, 3) := by decide +kernel
theorem dX2_add_37 : decode cX2_add 37 = .ok (.aload_n 0, 1) := by decide +kernel
theorem dX2_add_38 : decode cX2_add 38 = .ok (.getfield 39, 3) := by decide +kernel
theorem dX2_add_41 : decode cX2_add 41 = .ok (.iload_n 2, 1) := by decide +kernel
theorem dX2_add_42 : decode cX2_add 42 = .ok (.iastore, 1) := by decide +kernel
theorem dX2_add_43 : decode cX2_add 43 = .ok (.aload_n 0, 1) := by decide +kernel
theorem dX2_add_44 : decode cX2_add 44 = .ok (.getfield 26, 3) := by decide +kernel
theorem dX2_add_47 : decode cX2_add 47 = .ok (.aload_n 0, 1) := by decide +kernel
theorem dX2_add_48 : decode cX2_add 48 = .ok (.getfield 39, 3) := by decide +kernel
theorem dX2_add_51 : decode cX2_add 51 = .ok (.iload_n 3, 1) := by decide +kernel
theorem dX2_add_52 : decode cX2_add 52 = .ok (.iastore, 1) := by decide +kernel
theorem dX2_add_53 : decode cX2_add 53 = .ok (.aload_n 0, 1) := by decide +kernel
theorem dX2_add_54 : decode cX2_add 54 = .ok (.getfield 29, 3) := by decide +kernel
theorem dX2_add_57 : decode cX2_add 57 = .ok (.aload_n 0, 1) := by decide +kernel
theorem dX2_add_58 : decode cX2_add 58 = .ok (.getfield 39, 3) := by decide +kernel
theorem dX2_add_61 : decode cX2_add 61 = .ok (.iload 4, 2) := by decide +kernel
theorem dX2_add_63 : decode cX2_add 63 = .ok (.iastore, 1) := by decide +kernel
theorem dX2_add_64 : decode cX2_add 64 = .ok (.aload_n 0, 1) := by decide +kernel
theorem dX2_add_65 : decode cX2_add 65 = .ok (.getfield 32, 3) := by decide +kernel
theorem dX2_add_68 : decode cX2_add 68 = .ok (.aload_n 0, 1) := by decide +kernel
theorem dX2_add_69 : decode cX2_add 69 = .ok (.getfield 39, 3) := by decide +kernel
theorem dX2_add_72 : decode cX2_add 72 = .ok (.iconst 0, 1) := by decide +kernel
theorem dX2_add_73 : decode cX2_add 73 = .ok (.bastore, 1) := by decide +kernel
theorem dX2_add_74 : decode cX2_add 74 = .ok (.aload_n 0, 1) := by decide +kernel
theorem dX2_add_75 : decode cX2_add 75 = .ok (.getfield 36, 3) := by decide +kernel
theorem dX2_add_78 : decode cX2_add 78 = .ok (.aload_n 0, 1) := by decide +kernel
theorem dX2_add_79 : decode cX2_add 79 = .ok (.getfield 39, 3) := by decide +kernel
theorem dX2_add_82 : decode cX2_add 82 = .ok (.iconst 0, 1) := by decide +kernel
theorem dX2_add_83 : decode cX2_add 83 = .ok (.bastore, 1) := by decide +kernel
theorem dX2_add_84 : decode cX2_add 84 = .ok (.aload_n 0, 1) := by decide +kernel
theorem dX2_add_85 : decode cX2_add 85 = .ok (.dup, 1) := by decide +kernel
theorem dX2_add_86 : decode cX2_add 86 = .ok (.getfield 39, 3) := by decide +kernel
theorem dX2_add_89 : decode cX2_add 89 = .ok (.iconst 1, 1) := by decide +kernel
theorem dX2_add_90 : decode cX2_add 90 = .ok (.iadd, 1) := by decide +kernel
theorem dX2_add_91 : decode cX2_add 91 = .ok (.putfield 39, 3) := by decide +kernel
theorem dX2_add_94 : decode cX2_add 94 = .ok (.aload_n 0, 1) := by decide +kernel
theorem dX2_add_95 : decode cX2_add 95 = .ok (.iconst 1, 1) := by decide +kernel
theorem dX2_add_96 : decode cX2_add 96 = .ok (.putfield 15, 3) := by decide +kernel
theorem dX2_add_99 : decode cX2_add 99 = .ok (.aload_n 0, 1) := by decide +kernel
theorem dX2_add_100 : decode cX2_add 100 = .ok (.getfield 39, 3) := by decide +kernel
theorem dX2_add_103 : decode cX2_add 103 = .ok (.iconst 1, 1) := by decide +kernel
theorem dX2_add_104 : decode cX2_add 104 = .ok (.isub, 1) := by decide +kernel
theorem dX2_add_105 : decode cX2_add 105 = .ok (.ireturn, 1) := by decide +kernel
theorem dX2_howMany_0 : decode cX2_howMany 0 = .ok (.iconst 0, 1) := by decide +kernel
theorem dX2_howMany_1 : decode cX2_howMany 1 = .ok (.istore_n 2, 1) := by decide +kernel
theorem dX2_howMany_2 : decode cX2_howMany 2 = .ok (.iconst 0, 1) := by decide +kernel
theorem dX2_howMany_3 : decode cX2_howMany 3 = .ok (.istore_n 3, 1) := by decide +kernel
theorem dX2_howMany_4 : decode cX2_howMany 4 = .ok (.iload_n 3, 1) := by decide +kernel
theorem dX2_howMany_5 : decode cX2_howMany 5 = .ok (.aload_n 0, 1) := by decide +kernel
theorem dX2_howMany_6 : decode cX2_howMany 6 = .ok (.getfield 39, 3) := by decide +kernel
theorem dX2_howMany_9 : decode cX2_howMany 9 = .ok (.if_icmp .ge 22, 3) := by decide +kernel
theorem dX2_howMany_12 : decode cX2_howMany 12 = .ok (.aload_n 0, 1) := by decide +kernel
theorem dX2_howMany_13 : decode cX2_howMany 13 = .ok (.getfield 19, 3) := by decide +kernel
theorem dX2_howMany_16 : decode cX2_howMany 16 = .ok (.iload_n 3, 1) := by decide +kernel
theorem dX2_howMany_17 : decode cX2_howMany 17 = .ok (.iaload, 1) := by decide +kernel
theorem dX2_howMany_18 : decode cX2_howMany 18 = .ok (.iload_n 1, 1) := by decide +kernel
theorem dX2_howMany_19 : decode cX2_howMany 19 = .ok (.if_icmp .ne 6, 3) := by decide +kernel
theorem dX2_howMany_22 : decode cX2_howMany 22 = .ok (.iinc 2 1, 3) := by decide +kernel
theorem dX2_howMany_25 : decode cX2_howMany 25 = .ok (.iinc 3 1, 3) := by decide +kernel
theorem dX2_howMany_28 : decode cX2_howMany 28 = .ok (.goto (-24), 3) := by decide +kernel
theorem dX2_howMany_31 : decode cX2_howMany 31 = .ok (.iload_n 2, 1) := by decide +kernel
theorem dX2_howMany_32 : decode cX2_howMany 32 = .ok (.ireturn, 1) := by decide +kernel
theorem dX2_mostOf_0 : decode cX2_mostOf 0 = .ok (.iload_n 0, 1) := by decide +kernel
theorem dX2_mostOf_1 : decode cX2_mostOf 1 = .ok (.ifCond .ne 6, 3) := by decide +kernel
theorem dX2_mostOf_4 : decode cX2_mostOf 4 = .ok (.bipush 6, 2) := by decide +kernel
theorem dX2_mostOf_6 : decode cX2_mostOf 6 = .ok (.ireturn, 1) := by decide +kernel
theorem dX2_mostOf_7 : decode cX2_mostOf 7 = .ok (.iload_n 0, 1) := by decide +kernel
theorem dX2_mostOf_8 : decode cX2_mostOf 8 = .ok (.iconst 2, 1) := by decide +kernel
theorem dX2_mostOf_9 : decode cX2_mostOf 9 = .ok (.if_icmp .ne 7, 3) := by decide +kernel
theorem dX2_mostOf_12 : decode cX2_mostOf 12 = .ok (.iconst 2, 1) := by decide +kernel
theorem dX2_mostOf_13 : decode cX2_mostOf 13 = .ok (.goto 5, 3) := by decide +kernel
theorem dX2_mostOf_16 : decode cX2_mostOf 16 = .ok (.bipush 8, 2) := by decide +kernel
theorem dX2_mostOf_18 : decode cX2_mostOf 18 = .ok (.ireturn, 1) := by decide +kernel
theorem dX2_has_0 : decode cX2_has 0 = .ok (.iload_n 1, 1) := by decide +kernel
theorem dX2_has_1 : decode cX2_has 1 = .ok (.ifCond .lt 15, 3) := by decide +kernel
theorem dX2_has_4 : decode cX2_has 4 = .ok (.iload_n 1, 1) := by decide +kernel
theorem dX2_has_5 : decode cX2_has 5 = .ok (.aload_n 0, 1) := by decide +kernel
theorem dX2_has_6 : decode cX2_has 6 = .ok (.getfield 39, 3) := by decide +kernel
theorem dX2_has_9 : decode cX2_has 9 = .ok (.if_icmp .ge 7, 3) := by decide +kernel
theorem dX2_has_12 : decode cX2_has 12 = .ok (.iconst 1, 1) := by decide +kernel
theorem dX2_has_13 : decode cX2_has 13 = .ok (.goto 4, 3) := by decide +kernel
theorem dX2_has_16 : decode cX2_has 16 = .ok (.iconst 0, 1) := by decide +kernel
theorem dX2_has_17 : decode cX2_has 17 = .ok (.ireturn, 1) := by decide +kernel
theorem dX2_setDoubted_0 : decode cX2_setDoubted 0 = .ok (.aload_n 0, 1) := by decide +kernel
theorem dX2_setDoubted_1 : decode cX2_setDoubted 1 = .ok (.iload_n 1, 1) := by decide +kernel
theorem dX2_setDoubted_2 : decode cX2_setDoubted 2 = .ok (.invokevirtual 59, 3) := by decide +kernel
theorem dX2_setDoubted_5 : decode cX2_setDoubted 5 = .ok (.ifCond .eq 13, 3) := by decide +kernel
theorem dX2_setDoubted_8 : decode cX2_setDoubted 8 = .ok (.aload_n 0, 1) := by decide +kernel
theorem dX2_setDoubted_9 : decode cX2_setDoubted 9 = .ok (.getfield 36, 3) := by decide +kernel
theorem dX2_setDoubted_12 : decode cX2_setDoubted 12 = .ok (.iload_n 1, 1) := by decide +kernel
theorem dX2_setDoubted_13 : decode cX2_setDoubted 13 = .ok (.baload, 1) := by decide +kernel
theorem dX2_setDoubted_14 : decode cX2_setDoubted 14 = .ok (.iload_n 2, 1) := by decide +kernel
theorem dX2_setDoubted_15 : decode cX2_setDoubted 15 = .ok (.if_icmp .ne 5, 3) := by decide +kernel
theorem dX2_setDoubted_18 : decode cX2_setDoubted 18 = .ok (.iconst 0, 1) := by decide +kernel
theorem dX2_setDoubted_19 : decode cX2_setDoubted 19 = .ok (.ireturn, 1) := by decide +kernel
theorem dX2_setDoubted_20 : decode cX2_setDoubted 20 = .ok (.aload_n 0, 1) := by decide +kernel
theorem dX2_setDoubted_21 : decode cX2_setDoubted 21 = .ok (.getfield 36, 3) := by decide +kernel
theorem dX2_setDoubted_24 : decode cX2_setDoubted 24 = .ok (.iload_n 1, 1) := by decide +kernel
theorem dX2_setDoubted_25 : decode cX2_setDoubted 25 = .ok (.iload_n 2, 1) := by decide +kernel
theorem dX2_setDoubted_26 : decode cX2_setDoubted 26 = .ok (.bastore, 1) := by decide +kernel
theorem dX2_setDoubted_27 : decode cX2_setDoubted 27 = .ok (.aload_n 0, 1) := by decide +kernel
theorem dX2_setDoubted_28 : decode cX2_setDoubted 28 = .ok (.iconst 1, 1) := by decide +kernel
theorem dX2_setDoubted_29 : decode cX2_setDoubted 29 = .ok (.putfield 15, 3) := by decide +kernel
theorem dX2_setDoubted_32 : decode cX2_setDoubted 32 = .ok (.iconst 1, 1) := by decide +kernel
theorem dX2_setDoubted_33 : decode cX2_setDoubted 33 = .ok (.ireturn, 1) := by decide +kernel
theorem dX2_dropLast_0 : decode cX2_dropLast 0 = .ok (.aload_n 0, 1) := by decide +kernel
theorem dX2_dropLast_1 : decode cX2_dropLast 1 = .ok (.getfield 39, 3) := by decide +kernel
theorem dX2_dropLast_4 : decode cX2_dropLast 4 = .ok (.ifCond .ne 5, 3) := by decide +kernel
theorem dX2_dropLast_7 : decode cX2_dropLast 7 = .ok (.iconst (-1), 1) := by decide +kernel
theorem dX2_dropLast_8 : decode cX2_dropLast 8 = .ok (.ireturn, 1) := by decide +kernel
theorem dX2_dropLast_9 : decode cX2_dropLast 9 = .ok (.aload_n 0, 1) := by decide +kernel
theorem dX2_dropLast_10 : decode cX2_dropLast 10 = .ok (.dup, 1) := by decide +kernel
theorem dX2_dropLast_11 : decode cX2_dropLast 11 = .ok (.getfield 39, 3) := by decide +kernel
theorem dX2_dropLast_14 : decode cX2_dropLast 14 = .ok (.iconst 1, 1) := by decide +kernel
theorem dX2_dropLast_15 : decode cX2_dropLast 15 = .ok (.isub, 1) := by decide +kernel
theorem dX2_dropLast_16 : decode cX2_dropLast 16 = .ok (.putfield 39, 3) := by decide +kernel
theorem dX2_dropLast_19 : decode cX2_dropLast 19 = .ok (.aload_n 0, 1) := by decide +kernel
theorem dX2_dropLast_20 : decode cX2_dropLast 20 = .ok (.iconst 1, 1) := by decide +kernel
theorem dX2_dropLast_21 : decode cX2_dropLast 21 = .ok (.putfield 15, 3) := by decide +kernel
theorem dX2_dropLast_24 : decode cX2_dropLast 24 = .ok (.aload_n 0, 1) := by decide +kernel
theorem dX2_dropLast_25 : decode cX2_dropLast 25 = .ok (.getfield 39, 3) := by decide +kernel
theorem dX2_dropLast_28 : decode cX2_dropLast 28 = .ok (.ireturn, 1) := by decide +kernel
theorem dX2_counts_0 : decode cX2_counts 0 = .ok (.aload_n 0, 1) := by decide +kernel
theorem dX2_counts_1 : decode cX2_counts 1 = .ok (.iload_n 1, 1) := by decide +kernel
theorem dX2_counts_2 : decode cX2_counts 2 = .ok (.invokevirtual 59, 3) := by decide +kernel
theorem dX2_counts_5 : decode cX2_counts 5 = .ok (.ifCond .eq 26, 3) := by decide +kernel
theorem dX2_counts_8 : decode cX2_counts 8 = .ok (.aload_n 0, 1) := by decide +kernel
theorem dX2_counts_9 : decode cX2_counts 9 = .ok (.getfield 19, 3) := by decide +kernel
theorem dX2_counts_12 : decode cX2_counts 12 = .ok (.iload_n 1, 1) := by decide +kernel
theorem dX2_counts_13 : decode cX2_counts 13 = .ok (.iaload, 1) := by decide +kernel
theorem dX2_counts_14 : decode cX2_counts 14 = .ok (.iload_n 2, 1) := by decide +kernel
theorem dX2_counts_15 : decode cX2_counts 15 = .ok (.if_icmp .ne 16, 3) := by decide +kernel
theorem dX2_counts_18 : decode cX2_counts 18 = .ok (.aload_n 0, 1) := by decide +kernel
theorem dX2_counts_19 : decode cX2_counts 19 = .ok (.getfield 36, 3) := by decide +kernel
theorem dX2_counts_22 : decode cX2_counts 22 = .ok (.iload_n 1, 1) := by decide +kernel
theorem dX2_counts_23 : decode cX2_counts 23 = .ok (.baload, 1) := by decide +kernel
theorem dX2_counts_24 : decode cX2_counts 24 = .ok (.ifCond .ne 7, 3) := by decide +kernel
theorem dX2_counts_27 : decode cX2_counts 27 = .ok (.iconst 1, 1) := by decide +kernel
theorem dX2_counts_28 : decode cX2_counts 28 = .ok (.goto 4, 3) := by decide +kernel
theorem dX2_counts_31 : decode cX2_counts 31 = .ok (.iconst 0, 1) := by decide +kernel
theorem dX2_counts_32 : decode cX2_counts 32 = .ok (.ireturn, 1) := by decide +kernel
theorem dX2_stampFits_0 : decode cX2_stampFits 0 = .ok (.iload_n 1, 1) := by decide +kernel
theorem dX2_stampFits_1 : decode cX2_stampFits 1 = .ok (.ifCond .lt 57, 3) := by decide +kernel
theorem dX2_stampFits_4 : decode cX2_stampFits 4 = .ok (.iload_n 1, 1) := by decide +kernel
theorem dX2_stampFits_5 : decode cX2_stampFits 5 = .ok (.aload_n 0, 1) := by decide +kernel
theorem dX2_stampFits_6 : decode cX2_stampFits 6 = .ok (.getfield 39, 3) := by decide +kernel
theorem dX2_stampFits_9 : decode cX2_stampFits 9 = .ok (.if_icmp .ge 49, 3) := by decide +kernel
theorem dX2_stampFits_12 : decode cX2_stampFits 12 = .ok (.aload_n 0, 1) := by decide +kernel
theorem dX2_stampFits_13 : decode cX2_stampFits 13 = .ok (.getfield 23, 3) := by decide +kernel
theorem dX2_stampFits_16 : decode cX2_stampFits 16 = .ok (.iload_n 1, 1) := by decide +kernel
theorem dX2_stampFits_17 : decode cX2_stampFits 17 = .ok (.iaload, 1) := by decide +kernel
theorem dX2_stampFits_18 : decode cX2_stampFits 18 = .ok (.iload_n 2, 1) := by decide +kernel
theorem dX2_stampFits_19 : decode cX2_stampFits 19 = .ok (.if_icmp .ne 39, 3) := by decide +kernel
theorem dX2_stampFits_22 : decode cX2_stampFits 22 = .ok (.aload_n 0, 1) := by decide +kernel
theorem dX2_stampFits_23 : decode cX2_stampFits 23 = .ok (.getfield 32, 3) := by decide +kernel
theorem dX2_stampFits_26 : decode cX2_stampFits 26 = .ok (.iload_n 1, 1) := by decide +kernel
theorem dX2_stampFits_27 : decode cX2_stampFits 27 = .ok (.baload, 1) := by decide +kernel
theorem dX2_stampFits_28 : decode cX2_stampFits 28 = .ok (.iload_n 3, 1) := by decide +kernel
theorem dX2_stampFits_29 : decode cX2_stampFits 29 = .ok (.if_icmp .ne 29, 3) := by decide +kernel
theorem dX2_stampFits_32 : decode cX2_stampFits 32 = .ok (.iload 4, 2) := by decide +kernel
theorem dX2_stampFits_34 : decode cX2_stampFits 34 = .ok (.aload_n 0, 1) := by decide +kernel
theorem dX2_stampFits_35 : decode cX2_stampFits 35 = .ok (.getfield 26, 3) := by decide +kernel
theorem dX2_stampFits_38 : decode cX2_stampFits 38 = .ok (.iload_n 1, 1) := by decide +kernel
theorem dX2_stampFits_39 : decode cX2_stampFits 39 = .ok (.iaload, 1) := by decide +kernel
theorem dX2_stampFits_40 : decode cX2_stampFits 40 = .ok (.if_icmp .lt 18, 3) := by decide +kernel
theorem dX2_stampFits_43 : decode cX2_stampFits 43 = .ok (.iload 4, 2) := by decide +kernel
theorem dX2_stampFits_45 : decode cX2_stampFits 45 = .ok (.aload_n 0, 1) := by decide +kernel
theorem dX2_stampFits_46 : decode cX2_stampFits 46 = .ok (.getfield 29, 3) := by decide +kernel
theorem dX2_stampFits_49 : decode cX2_stampFits 49 = .ok (.iload_n 1, 1) := by decide +kernel
theorem dX2_stampFits_50 : decode cX2_stampFits 50 = .ok (.iaload, 1) := by decide +kernel
theorem dX2_stampFits_51 : decode cX2_stampFits 51 = .ok (.if_icmp .gt 7, 3) := by decide +kernel
theorem dX2_stampFits_54 : decode cX2_stampFits 54 = .ok (.iconst 1, 1) := by decide +kernel
theorem dX2_stampFits_55 : decode cX2_stampFits 55 = .ok (.goto 4, 3) := by decide +kernel
theorem dX2_stampFits_58 : decode cX2_stampFits 58 = .ok (.iconst 0, 1) := by decide +kernel
theorem dX2_stampFits_59 : decode cX2_stampFits 59 = .ok (.ireturn, 1) := by decide +kernel
theorem dX3_init_0 : decode cX3_init 0 = .ok (.aload_n 0, 1) := by decide +kernel
theorem dX3_init_1 : decode cX3_init 1 = .ok (.invokespecial 3, 3) := by decide +kernel
theorem dX3_init_4 : decode cX3_init 4 = .ok (.aload_n 0, 1) := by decide +kernel
theorem dX3_init_5 : decode cX3_init 5 = .ok (.iconst 4, 1) := by decide +kernel
theorem dX3_init_6 : decode cX3_init 6 = .ok (.newarray .long, 2) := by decide +kernel
theorem dX3_init_8 : decode cX3_init 8 = .ok (.putfield 11, 3) := by decide +kernel
theorem dX3_init_11 : decode cX3_init 11 = .ok (.aload_n 0, 1) := by decide +kernel
theorem dX3_init_12 : decode cX3_init 12 = .ok (.bipush 8, 2) := by decide +kernel
theorem dX3_init_14 : decode cX3_init 14 = .ok (.newarray .long, 2) := by decide +kernel
theorem dX3_init_16 : decode cX3_init 16 = .ok (.putfield 17, 3) := by decide +kernel
theorem dX3_init_19 : decode cX3_init 19 = .ok (.aload_n 0, 1) := by decide +kernel
theorem dX3_init_20 : decode cX3_init 20 = .ok (.aload_n 1, 1) := by decide +kernel
theorem dX3_init_21 : decode cX3_init 21 = .ok (.putfield 20, 3) := by decide +kernel
theorem dX3_init_24 : decode cX3_init 24 = .ok (.aload_n 0, 1) := by decide +kernel
theorem dX3_init_25 : decode cX3_init 25 = .ok (.aload_n 2, 1) := by decide +kernel
theorem dX3_init_26 : decode cX3_init 26 = .ok (.putfield 24, 3) := by decide +kernel
theorem dX3_init_29 : decode cX3_init 29 = .ok (.return_, 1) := by decide +kernel
theorem dX3_faultOf_0 : decode cX3_faultOf 0 = .ok (.aload_n 0, 1) := by decide +kernel
theorem dX3_faultOf_1 : decode cX3_faultOf 1 = .ok (.iload_n 1, 1) := by decide +kernel
theorem dX3_faultOf_2 : decode cX3_faultOf 2 = .ok (.aload_n 0, 1) := by decide +kernel
theorem dX3_faultOf_3 : decode cX3_faultOf 3 = .ok (.getfield 20, 3) := by decide +kernel
theorem dX3_faultOf_6 : decode cX3_faultOf 6 = .ok (.arraylength, 1) := by decide +kernel
theorem dX3_faultOf_7 : decode cX3_faultOf 7 = .ok (.invokestatic 28, 3) := by decide +kernel
theorem dX3_faultOf_10 : decode cX3_faultOf 10 = .ok (.putfield 34, 3) := by decide +kernel
theorem dX3_faultOf_13 : decode cX3_faultOf 13 = .ok (.aload_n 0, 1) := by decide +kernel
theorem dX3_faultOf_14 : decode cX3_faultOf 14 = .ok (.iconst 0, 1) := by decide +kernel
theorem dX3_faultOf_15 : decode cX3_faultOf 15 = .ok (.putfield 38, 3) := by decide +kernel
theorem dX3_faultOf_18 : decode cX3_faultOf 18 = .ok (.aload_n 0, 1) := by decide +kernel
theorem dX3_faultOf_19 : decode cX3_faultOf 19 = .ok (.getfield 24, 3) := by decide +kernel
theorem dX3_faultOf_22 : decode cX3_faultOf 22 = .ok (.invokevirtual 41, 3) := by decide +kernel
theorem dX3_faultOf_25 : decode cX3_faultOf 25 = .ok (.aload_n 0, 1) := by decide +kernel
theorem dX3_faultOf_26 : decode cX3_faultOf 26 = .ok (.invokevirtual 44, 3) := by decide +kernel
theorem dX3_faultOf_29 : decode cX3_faultOf 29 = .ok (.iconst 0, 1) := by decide +kernel
theorem dX3_faultOf_30 : decode cX3_faultOf 30 = .ok (.istore_n 2, 1) := by decide +kernel
theorem dX3_faultOf_31 : decode cX3_faultOf 31 = .ok (.iload_n 2, 1) := by decide +kernel
theorem dX3_faultOf_32 : decode cX3_faultOf 32 = .ok (.sipush 500, 3) := by decide +kernel
theorem dX3_faultOf_35 : decode cX3_faultOf 35 = .ok (.if_icmp .ge 28, 3) := by decide +kernel
theorem dX3_faultOf_38 : decode cX3_faultOf 38 = .ok (.aload_n 0, 1) := by decide +kernel
theorem dX3_faultOf_39 : decode cX3_faultOf 39 = .ok (.getfield 47, 3) := by decide +kernel
theorem dX3_faultOf_42 : decode cX3_faultOf 42 = .ok (.ifCond .eq 21, 3) := by decide +kernel
theorem dX3_faultOf_45 : decode cX3_faultOf 45 = .ok (.aload_n 0, 1) := by decide +kernel
theorem dX3_faultOf_46 : decode cX3_faultOf 46 = .ok (.invokevirtual 50, 3) := by decide +kernel
theorem dX3_faultOf_49 : decode cX3_faultOf 49 = .ok (.ifCond .ne 8, 3) := by decide +kernel
theorem dX3_faultOf_52 : decode cX3_faultOf 52 = .ok (.aload_n 0, 1) := by decide +kernel
theorem dX3_faultOf_53 : decode cX3_faultOf 53 = .ok (.getfield 54, 3) := by decide +kernel
theorem dX3_faultOf_56 : decode cX3_faultOf 56 = .ok (.ireturn, 1) := by decide +kernel
theorem dX3_faultOf_57 : decode cX3_faultOf 57 = .ok (.iinc 2 1, 3) := by decide +kernel
theorem dX3_faultOf_60 : decode cX3_faultOf 60 = .ok (.goto (-29), 3) := by decide +kernel
theorem dX3_faultOf_63 : decode cX3_faultOf 63 = .ok (.aload_n 0, 1) := by decide +kernel
theorem dX3_faultOf_64 : decode cX3_faultOf 64 = .ok (.getfield 24, 3) := by decide +kernel
theorem dX3_faultOf_67 : decode cX3_faultOf 67 = .ok (.getfield 57, 3) := by decide +kernel
theorem dX3_faultOf_70 : decode cX3_faultOf 70 = .ok (.ifCond .ne 10, 3) := by decide +kernel
theorem dX3_faultOf_73 : decode cX3_faultOf 73 = .ok (.aload_n 0, 1) := by decide +kernel
theorem dX3_faultOf_74 : decode cX3_faultOf 74 = .ok (.getfield 34, 3) := by decide +kernel
theorem dX3_faultOf_77 : decode cX3_faultOf 77 = .ok (.goto 4, 3) := by decide +kernel
theorem dX3_faultOf_80 : decode cX3_faultOf 80 = .ok (.iconst (-1), 1) := by decide +kernel
theorem dX3_faultOf_81 : decode cX3_faultOf 81 = .ok (.ireturn, 1) := by decide +kernel
theorem dX3_readLine_0 : decode cX3_readLine 0 = .ok (.aload_n 0, 1) := by decide +kernel
theorem dX3_readLine_1 : decode cX3_readLine 1 = .ok (.ldc 60, 2) := by decide +kernel
theorem dX3_readLine_3 : decode cX3_readLine 3 = .ok (.invokevirtual 62, 3) := by decide +kernel
theorem dX3_readLine_6 : decode cX3_readLine 6 = .ok (.ifCond .eq 8, 3) := by decide +kernel
theorem dX3_readLine_9 : decode cX3_readLine 9 = .ok (.aload_n 0, 1) := by decide +kernel
theorem dX3_readLine_10 : decode cX3_readLine 10 = .ok (.invokevirtual 66, 3) := by decide +kernel
theorem dX3_readLine_13 : decode cX3_readLine 13 = .ok (.ireturn, 1) := by decide +kernel
theorem dX3_readLine_14 : decode cX3_readLine 14 = .ok (.aload_n 0, 1) := by decide +kernel
theorem dX3_readLine_15 : decode cX3_readLine 15 = .ok (.ldc 69, 2) := by decide +kernel
theorem dX3_readLine_17 : decode cX3_readLine 17 = .ok (.invokevirtual 62, 3) := by decide +kernel
theorem dX3_readLine_20 : decode cX3_readLine 20 = .ok (.ifCond .eq 8, 3) := by decide +kernel
theorem dX3_readLine_23 : decode cX3_readLine 23 = .ok (.aload_n 0, 1) := by decide +kernel
theorem dX3_readLine_24 : decode cX3_readLine 24 = .ok (.invokevirtual 71, 3) := by decide +kernel
theorem dX3_readLine_27 : decode cX3_readLine 27 = .ok (.ireturn, 1) := by decide +kernel
theorem dX3_readLine_28 : decode cX3_readLine 28 = .ok (.aload_n 0, 1) := by decide +kernel
theorem dX3_readLine_29 : decode cX3_readLine 29 = .ok (.ldc 74, 2) := by decide +kernel
theorem dX3_readLine_31 : decode cX3_readLine 31 = .ok (.invokevirtual 62, 3) := by decide +kernel
theorem dX3_readLine_34 : decode cX3_readLine 34 = .ok (.ifCond .eq 9, 3) := by decide +kernel
theorem dX3_readLine_37 : decode cX3_readLine 37 = .ok (.aload_n 0, 1) := by decide +kernel
theorem dX3_readLine_38 : decode cX3_readLine 38 = .ok (.iconst 1, 1) := by decide +kernel
theorem dX3_readLine_39 : decode cX3_readLine 39 = .ok (.invokevirtual 76, 3) := by decide +kernel
theorem dX3_readLine_42 : decode cX3_readLine 42 = .ok (.ireturn, 1) := by decide +kernel
theorem dX3_readLine_43 : decode cX3_readLine 43 = .ok (.aload_n 0, 1) := by decide +kernel
theorem dX3_readLine_44 : decode cX3_readLine 44 = .ok (.ldc 80, 2) := by decide +kernel
theorem dX3_readLine_46 : decode cX3_readLine 46 = .ok (.invokevirtual 62, 3) := by decide +kernel
theorem dX3_readLine_49 : decode cX3_readLine 49 = .ok (.ifCond .eq 15, 3) := by decide +kernel
theorem dX3_readLine_52 : decode cX3_readLine 52 = .ok (.aload_n 0, 1) := by decide +kernel
theorem dX3_readLine_53 : decode cX3_readLine 53 = .ok (.iconst 0, 1) := by decide +kernel
theorem dX3_readLine_54 : decode cX3_readLine 54 = .ok (.invokevirtual 76, 3) := by decide +kernel
theorem dX3_readLine_57 : decode cX3_readLine 57 = .ok (.ifCond .eq 7, 3) := by decide +kernel
theorem dX3_readLine_60 : decode cX3_readLine 60 = .ok (.iconst 1, 1) := by decide +kernel
theorem dX3_readLine_61 : decode cX3_readLine 61 = .ok (.goto 4, 3) := by decide +kernel
theorem dX3_readLine_64 : decode cX3_readLine 64 = .ok (.iconst 0, 1) := by decide +kernel
theorem dX3_readLine_65 : decode cX3_readLine 65 = .ok (.ireturn, 1) := by decide +kernel
theorem dX3_readLand_0 : decode cX3_readLand 0 = .ok (.aload_n 0, 1) := by decide +kernel
theorem dX3_readLand_1 : decode cX3_readLand 1 = .ok (.getfield 24, 3) := by decide +kernel
theorem dX3_readLand_4 : decode cX3_readLand 4 = .ok (.getfield 82, 3) := by decide +kernel
theorem dX3_readLand_7 : decode cX3_readLand 7 = .ok (.iconst 4, 1) := by decide +kernel
theorem dX3_readLand_8 : decode cX3_readLand 8 = .ok (.if_icmp .lt 5, 3) := by decide +kernel
theorem dX3_readLand_11 : decode cX3_readLand 11 = .ok (.iconst 0, 1) := by decide +kernel
theorem dX3_readLand_12 : decode cX3_readLand 12 = .ok (.ireturn, 1) := by decide +kernel
theorem dX3_readLand_13 : decode cX3_readLand 13 = .ok (.aload_n 0, 1) := by decide +kernel
theorem dX3_readLand_14 : decode cX3_readLand 14 = .ok (.invokevirtual 44, 3) := by decide +kernel
theorem dX3_readLand_17 : decode cX3_readLand 17 = .ok (.aload_n 0, 1) := by decide +kernel
theorem dX3_readLand_18 : decode cX3_readLand 18 = .ok (.invokevirtual 85, 3) := by decide +kernel
theorem dX3_readLand_21 : decode cX3_readLand 21 = .ok (.ifCond .ne 5, 3) := by decide +kernel
theorem dX3_readLand_24 : decode cX3_readLand 24 = .ok (.iconst 0, 1) := by decide +kernel
theorem dX3_readLand_25 : decode cX3_readLand 25 = .ok (.ireturn, 1) := by decide +kernel
theorem dX3_readLand_26 : decode cX3_readLand 26 = .ok (.aload_n 0, 1) := by decide +kernel
theorem dX3_readLand_27 : decode cX3_readLand 27 = .ok (.getfield 88, 3) := by decide +kernel
theorem dX3_readLand_30 : decode cX3_readLand 30 = .ok (.lstore_n 1, 1) := by decide +kernel
theorem dX3_readLand_31 : decode cX3_readLand 31 = .ok (.aload_n 0, 1) := by decide +kernel
theorem dX3_readLand_32 : decode cX3_readLand 32 = .ok (.invokevirtual 44, 3) := by decide +kernel
theorem dX3_readLand_35 : decode cX3_readLand 35 = .ok (.aload_n 0, 1) := by decide +kernel
theorem dX3_readLand_36 : decode cX3_readLand 36 = .ok (.invokevirtual 92, 3) := by decide +kernel
theorem dX3_readLand_39 : decode cX3_readLand 39 = .ok (.istore_n 3, 1) := by decide +kernel
theorem dX3_readLand_40 : decode cX3_readLand 40 = .ok (.iload_n 3, 1) := by decide +kernel
theorem dX3_readLand_41 : decode cX3_readLand 41 = .ok (.ifCond .ge 5, 3) := by decide +kernel
theorem dX3_readLand_44 : decode cX3_readLand 44 = .ok (.iconst 0, 1) := by decide +kernel
theorem dX3_readLand_45 : decode cX3_readLand 45 = .ok (.ireturn, 1) := by decide +kernel
theorem dX3_readLand_46 : decode cX3_readLand 46 = .ok (.aload_n 0, 1) := by decide +kernel
theorem dX3_readLand_47 : decode cX3_readLand 47 = .ok (.invokevirtual 44, 3) := by decide +kernel
theorem dX3_readLand_50 : decode cX3_readLand 50 = .ok (.aload_n 0, 1) := by decide +kernel
theorem dX3_readLand_51 : decode cX3_readLand 51 = .ok (.getfield 47, 3) := by decide +kernel
theorem dX3_readLand_54 : decode cX3_readLand 54 = .ok (.iconst 3, 1) := by decide +kernel
theorem dX3_readLand_55 : decode cX3_readLand 55 = .ok (.if_icmp .eq 5, 3) := by decide +kernel
theorem dX3_readLand_58 : decode cX3_readLand 58 = .ok (.iconst 0, 1) := by decide +kernel
theorem dX3_readLand_59 : decode cX3_readLand 59 = .ok (.ireturn, 1) := by decide +kernel
theorem dX3_readLand_60 : decode cX3_readLand 60 = .ok (.aload_n 0, 1) := by decide +kernel
theorem dX3_readLand_61 : decode cX3_readLand 61 = .ok (.invokevirtual 44, 3) := by decide +kernel
theorem dX3_readLand_64 : decode cX3_readLand 64 = .ok (.aload_n 0, 1) := by decide +kernel
theorem dX3_readLand_65 : decode cX3_readLand 65 = .ok (.getfield 11, 3) := by decide +kernel
theorem dX3_readLand_68 : decode cX3_readLand 68 = .ok (.aload_n 0, 1) := by decide +kernel
theorem dX3_readLand_69 : decode cX3_readLand 69 = .ok (.getfield 24, 3) := by decide +kernel
theorem dX3_readLand_72 : decode cX3_readLand 72 = .ok (.getfield 82, 3) := by decide +kernel
theorem dX3_readLand_75 : decode cX3_readLand 75 = .ok (.lload_n 1, 1) := by decide +kernel
theorem dX3_readLand_76 : decode cX3_readLand 76 = .ok (.lastore, 1) := by decide +kernel
theorem dX3_readLand_77 : decode cX3_readLand 77 = .ok (.aload_n 0, 1) := by decide +kernel
theorem dX3_readLand_78 : decode cX3_readLand 78 = .ok (.getfield 24, 3) := by decide +kernel
theorem dX3_readLand_81 : decode cX3_readLand 81 = .ok (.iload_n 3, 1) := by decide +kernel
theorem dX3_readLand_82 : decode cX3_readLand 82 = .ok (.invokevirtual 96, 3) := by decide +kernel
theorem dX3_readLand_85 : decode cX3_readLand 85 = .ok (.iconst 1, 1) := by decide +kernel
theorem dX3_readLand_86 : decode cX3_readLand 86 = .ok (.ireturn, 1) := by decide +kernel
theorem dX3_readTown_0 : decode cX3_readTown 0 = .ok (.aload_n 0, 1) := by decide +kernel
theorem dX3_readTown_1 : decode cX3_readTown 1 = .ok (.getfield 24, 3) := by decide +kernel
theorem dX3_readTown_4 : decode cX3_readTown 4 = .ok (.getfield 57, 3) := by decide +kernel
theorem dX3_readTown_7 : decode cX3_readTown 7 = .ok (.bipush 8, 2) := by decide +kernel
theorem dX3_readTown_9 : decode cX3_readTown 9 = .ok (.if_icmp .lt 5, 3) := by decide +kernel
theorem dX3_readTown_12 : decode cX3_readTown 12 = .ok (.iconst 0, 1) := by decide +kernel
theorem dX3_readTown_13 : decode cX3_readTown 13 = .ok (.ireturn, 1) := by decide +kernel
theorem dX3_readTown_14 : decode cX3_readTown 14 = .ok (.aload_n 0, 1) := by decide +kernel
theorem dX3_readTown_15 : decode cX3_readTown 15 = .ok (.invokevirtual 44, 3) := by decide +kernel
theorem dX3_readTown_18 : decode cX3_readTown 18 = .ok (.aload_n 0, 1) := by decide +kernel
theorem dX3_readTown_19 : decode cX3_readTown 19 = .ok (.invokevirtual 85, 3) := by decide +kernel
theorem dX3_readTown_22 : decode cX3_readTown 22 = .ok (.ifCond .ne 5, 3) := by decide +kernel
theorem dX3_readTown_25 : decode cX3_readTown 25 = .ok (.iconst 0, 1) := by decide +kernel
theorem dX3_readTown_26 : decode cX3_readTown 26 = .ok (.ireturn, 1) := by decide +kernel
theorem dX3_readTown_27 : decode cX3_readTown 27 = .ok (.aload_n 0, 1) := by decide +kernel
theorem dX3_readTown_28 : decode cX3_readTown 28 = .ok (.getfield 88, 3) := by decide +kernel
theorem dX3_readTown_31 : decode cX3_readTown 31 = .ok (.lstore_n 1, 1) := by decide +kernel
theorem dX3_readTown_32 : decode cX3_readTown 32 = .ok (.aload_n 0, 1) := by decide +kernel
theorem dX3_readTown_33 : decode cX3_readTown 33 = .ok (.invokevirtual 44, 3) := by decide +kernel
theorem dX3_readTown_36 : decode cX3_readTown 36 = .ok (.aload_n 0, 1) := by decide +kernel
theorem dX3_readTown_37 : decode cX3_readTown 37 = .ok (.ldc 100, 2) := by decide +kernel
theorem dX3_readTown_39 : decode cX3_readTown 39 = .ok (.invokevirtual 102, 3) := by decide +kernel
theorem dX3_readTown_42 : decode cX3_readTown 42 = .ok (.ifCond .ne 5, 3) := by decide +kernel
theorem dX3_readTown_45 : decode cX3_readTown 45 = .ok (.iconst 0, 1) := by decide +kernel
theorem dX3_readTown_46 : decode cX3_readTown 46 = .ok (.ireturn, 1) := by decide +kernel
theorem dX3_readTown_47 : decode cX3_readTown 47 = .ok (.aload_n 0, 1) := by decide +kernel
theorem dX3_readTown_48 : decode cX3_readTown 48 = .ok (.invokevirtual 105, 3) := by decide +kernel
theorem dX3_readTown_51 : decode cX3_readTown 51 = .ok (.istore_n 3, 1) := by decide +kernel
theorem dX3_readTown_52 : decode cX3_readTown 52 = .ok (.iload_n 3, 1) := by decide +kernel
theorem dX3_readTown_53 : decode cX3_readTown 53 = .ok (.ifCond .ge 5, 3) := by decide +kernel
theorem dX3_readTown_56 : decode cX3_readTown 56 = .ok (.iconst 0, 1) := by decide +kernel
theorem dX3_readTown_57 : decode cX3_readTown 57 = .ok (.ireturn, 1) := by decide +kernel
theorem dX3_readTown_58 : decode cX3_readTown 58 = .ok (.aload_n 0, 1) := by decide +kernel
theorem dX3_readTown_59 : decode cX3_readTown 59 = .ok (.invokevirtual 44, 3) := by decide +kernel
theorem dX3_readTown_62 : decode cX3_readTown 62 = .ok (.iconst 0, 1) := by decide +kernel
theorem dX3_readTown_63 : decode cX3_readTown 63 = .ok (.istore 4, 2) := by decide +kernel
theorem dX3_readTown_65 : decode cX3_readTown 65 = .ok (.aload_n 0, 1) := by decide +kernel
theorem dX3_readTown_66 : decode cX3_readTown 66 = .ok (.ldc 108, 2) := by decide +kernel
theorem dX3_readTown_68 : decode cX3_readTown 68 = .ok (.invokevirtual 62, 3) := by decide +kernel
theorem dX3_readTown_71 : decode cX3_readTown 71 = .ok (.ifCond .eq 7, 3) := by decide +kernel
theorem dX3_readTown_74 : decode cX3_readTown 74 = .ok (.iconst 1, 1) := by decide +kernel
theorem dX3_readTown_75 : decode cX3_readTown 75 = .ok (.goto 17, 3) := by decide +kernel
theorem dX3_readTown_78 : decode cX3_readTown 78 = .ok (.aload_n 0, 1) := by decide +kernel
theorem dX3_readTown_79 : decode cX3_readTown 79 = .ok (.ldc 110, 2) := by decide +kernel
theorem dX3_readTown_81 : decode cX3_readTown 81 = .ok (.invokevirtual 62, 3) := by decide +kernel
theorem dX3_readTown_84 : decode cX3_readTown 84 = .ok (.ifCond .eq 7, 3) := by decide +kernel
theorem dX3_readTown_87 : decode cX3_readTown 87 = .ok (.iconst (-1), 1) := by decide +kernel
theorem dX3_readTown_88 : decode cX3_readTown 88 = .ok (.goto 4, 3) := by decide +kernel
theorem dX3_readTown_91 : decode cX3_readTown 91 = .ok (.iconst 0, 1) := by decide +kernel
theorem dX3_readTown_92 : decode cX3_readTown 92 = .ok (.istore 5, 2) := by decide +kernel
theorem dX3_readTown_94 : decode cX3_readTown 94 = .ok (.iload 5, 2) := by decide +kernel
theorem dX3_readTown_96 : decode cX3_readTown 96 = .ok (.ifCond .eq 32, 3) := by decide +kernel
theorem dX3_readTown_99 : decode cX3_readTown 99 = .ok (.aload_n 0, 1) := by decide +kernel
theorem dX3_readTown_100 : decode cX3_readTown 100 = .ok (.invokevirtual 44, 3) := by decide +kernel
theorem dX3_readTown_103 : decode cX3_readTown 103 = .ok (.aload_n 0, 1) := by decide +kernel
theorem dX3_readTown_104 : decode cX3_readTown 104 = .ok (.iconst 0, 1) := by decide +kernel
theorem dX3_readTown_105 : decode cX3_readTown 105 = .ok (.bipush 12, 2) := by decide +kernel
theorem dX3_readTown_107 : decode cX3_readTown 107 = .ok (.invokevirtual 112, 3) := by decide +kernel
theorem dX3_readTown_110 : decode cX3_readTown 110 = .ok (.ifCond .ne 5, 3) := by decide +kernel
theorem dX3_readTown_113 : decode cX3_readTown 113 = .ok (.iconst 0, 1) := by decide +kernel
theorem dX3_readTown_114 : decode cX3_readTown 114 = .ok (.ireturn, 1) := by decide +kernel
theorem dX3_readTown_115 : decode cX3_readTown 115 = .ok (.iload 5, 2) := by decide +kernel
theorem dX3_readTown_117 : decode cX3_readTown 117 = .ok (.aload_n 0, 1) := by decide +kernel
theorem dX3_readTown_118 : decode cX3_readTown 118 = .ok (.getfield 116, 3) := by decide +kernel
theorem dX3_readTown_121 : decode cX3_readTown 121 = .ok (.imul, 1) := by decide +kernel
theorem dX3_readTown_122 : decode cX3_readTown 122 = .ok (.istore 4, 2) := by decide +kernel
theorem dX3_readTown_124 : decode cX3_readTown 124 = .ok (.aload_n 0, 1) := by decide +kernel
theorem dX3_readTown_125 : decode cX3_readTown 125 = .ok (.invokevirtual 44, 3) := by decide +kernel
theorem dX3_readTown_128 : decode cX3_readTown 128 = .ok (.aload_n 0, 1) := by decide +kernel
theorem dX3_readTown_129 : decode cX3_readTown 129 = .ok (.getfield 47, 3) := by decide +kernel
theorem dX3_readTown_132 : decode cX3_readTown 132 = .ok (.iconst 3, 1) := by decide +kernel
theorem dX3_readTown_133 : decode cX3_readTown 133 = .ok (.if_icmp .eq 5, 3) := by decide +kernel
theorem dX3_readTown_136 : decode cX3_readTown 136 = .ok (.iconst 0, 1) := by decide +kernel
theorem dX3_readTown_137 : decode cX3_readTown 137 = .ok (.ireturn, 1) := by decide +kernel
theorem dX3_readTown_138 : decode cX3_readTown 138 = .ok (.aload_n 0, 1) := by decide +kernel
theorem dX3_readTown_139 : decode cX3_readTown 139 = .ok (.invokevirtual 44, 3) := by decide +kernel
theorem dX3_readTown_142 : decode cX3_readTown 142 = .ok (.aload_n 0, 1) := by decide +kernel
theorem dX3_readTown_143 : decode cX3_readTown 143 = .ok (.getfield 17, 3) := by decide +kernel
theorem dX3_readTown_146 : decode cX3_readTown 146 = .ok (.aload_n 0, 1) := by decide +kernel
theorem dX3_readTown_147 : decode cX3_readTown 147 = .ok (.getfield 24, 3) := by decide +kernel
theorem dX3_readTown_150 : decode cX3_readTown 150 = .ok (.getfield 57, 3) := by decide +kernel
theorem dX3_readTown_153 : decode cX3_readTown 153 = .ok (.lload_n 1, 1) := by decide +kernel
theorem dX3_readTown_154 : decode cX3_readTown 154 = .ok (.lastore, 1) := by decide +kernel
theorem dX3_readTown_155 : decode cX3_readTown 155 = .ok (.aload_n 0, 1) := by decide +kernel
theorem dX3_readTown_156 : decode cX3_readTown 156 = .ok (.getfield 24, 3) := by decide +kernel
theorem dX3_readTown_159 : decode cX3_readTown 159 = .ok (.iload_n 3, 1) := by decide +kernel
theorem dX3_readTown_160 : decode cX3_readTown 160 = .ok (.iload 4, 2) := by decide +kernel
theorem dX3_readTown_162 : decode cX3_readTown 162 = .ok (.invokevirtual 119, 3) := by decide +kernel
theorem dX3_readTown_165 : decode cX3_readTown 165 = .ok (.iconst 1, 1) := by decide +kernel
theorem dX3_readTown_166 : decode cX3_readTown 166 = .ok (.ireturn, 1) := by decide +kernel
theorem dX3_readLink_0 : decode cX3_readLink 0 = .ok (.aload_n 0, 1) := by decide +kernel
theorem dX3_readLink_1 : decode cX3_readLink 1 = .ok (.getfield 24, 3) := by decide +kernel
theorem dX3_readLink_4 : decode cX3_readLink 4 = .ok (.getfield 123, 3) := by decide +kernel
theorem dX3_readLink_7 : decode cX3_readLink 7 = .ok (.bipush 16, 2) := by decide +kernel
theorem dX3_readLink_9 : decode cX3_readLink 9 = .ok (.if_icmp .lt 5, 3) := by decide +kernel
theorem dX3_readLink_12 : decode cX3_readLink 12 = .ok (.iconst 0, 1) := by decide +kernel
theorem dX3_readLink_13 : decode cX3_readLink 13 = .ok (.ireturn, 1) := by decide +kernel
theorem dX3_readLink_14 : decode cX3_readLink 14 = .ok (.aload_n 0, 1) := by decide +kernel
theorem dX3_readLink_15 : decode cX3_readLink 15 = .ok (.invokevirtual 44, 3) := by decide +kernel
theorem dX3_readLink_18 : decode cX3_readLink 18 = .ok (.aload_n 0, 1) := by decide +kernel
theorem dX3_readLink_19 : decode cX3_readLink 19 = .ok (.invokevirtual 126, 3) := by decide +kernel
theorem dX3_readLink_22 : decode cX3_readLink 22 = .ok (.istore_n 2, 1) := by decide +kernel
theorem dX3_readLink_23 : decode cX3_readLink 23 = .ok (.iload_n 2, 1) := by decide +kernel
theorem dX3_readLink_24 : decode cX3_readLink 24 = .ok (.ifCond .ge 5, 3) := by decide +kernel
theorem dX3_readLink_27 : decode cX3_readLink 27 = .ok (.iconst 0, 1) := by decide +kernel
theorem dX3_readLink_28 : decode cX3_readLink 28 = .ok (.ireturn, 1) := by decide +kernel
theorem dX3_readLink_29 : decode cX3_readLink 29 = .ok (.aload_n 0, 1) := by decide +kernel
theorem dX3_readLink_30 : decode cX3_readLink 30 = .ok (.invokevirtual 44, 3) := by decide +kernel
theorem dX3_readLink_33 : decode cX3_readLink 33 = .ok (.aload_n 0, 1) := by decide +kernel
theorem dX3_readLink_34 : decode cX3_readLink 34 = .ok (.invokevirtual 126, 3) := by decide +kernel
theorem dX3_readLink_37 : decode cX3_readLink 37 = .ok (.istore_n 3, 1) := by decide +kernel
theorem dX3_readLink_38 : decode cX3_readLink 38 = .ok (.iload_n 3, 1) := by decide +kernel
theorem dX3_readLink_39 : decode cX3_readLink 39 = .ok (.ifCond .lt 8, 3) := by decide +kernel
theorem dX3_readLink_42 : decode cX3_readLink 42 = .ok (.iload_n 3, 1) := by decide +kernel
theorem dX3_readLink_43 : decode cX3_readLink 43 = .ok (.iload_n 2, 1) := by decide +kernel
theorem dX3_readLink_44 : decode cX3_readLink 44 = .ok (.if_icmp .ne 5, 3) := by decide +kernel
theorem dX3_readLink_47 : decode cX3_readLink 47 = .ok (.iconst 0, 1) := by decide +kernel
theorem dX3_readLink_48 : decode cX3_readLink 48 = .ok (.ireturn, 1) := by decide +kernel
theorem dX3_readLink_49 : decode cX3_readLink 49 = .ok (.aload_n 0, 1) := by decide +kernel
theorem dX3_readLink_50 : decode cX3_readLink 50 = .ok (.invokevirtual 44, 3) := by decide +kernel
theorem dX3_readLink_53 : decode cX3_readLink 53 = .ok (.aload_n 0, 1) := by decide +kernel
theorem dX3_readLink_54 : decode cX3_readLink 54 = .ok (.ldc 129, 2) := by decide +kernel
theorem dX3_readLink_56 : decode cX3_readLink 56 = .ok (.invokevirtual 102, 3) := by decide +kernel
theorem dX3_readLink_59 : decode cX3_readLink 59 = .ok (.ifCond .eq 22, 3) := by decide +kernel
theorem dX3_readLink_62 : decode cX3_readLink 62 = .ok (.aload_n 0, 1) := by decide +kernel
theorem dX3_readLink_63 : decode cX3_readLink 63 = .ok (.iconst 0, 1) := by decide +kernel
theorem dX3_readLink_64 : decode cX3_readLink 64 = .ok (.iload_n 1, 1) := by decide +kernel
theorem dX3_readLink_65 : decode cX3_readLink 65 = .ok (.ifCond .eq 8, 3) := by decide +kernel
theorem dX3_readLink_68 : decode cX3_readLink 68 = .ok (.bipush 23, 2) := by decide +kernel
theorem dX3_readLink_70 : decode cX3_readLink 70 = .ok (.goto 5, 3) := by decide +kernel
theorem dX3_readLink_73 : decode cX3_readLink 73 = .ok (.bipush 95, 2) := by decide +kernel
theorem dX3_readLink_75 : decode cX3_readLink 75 = .ok (.invokevirtual 112, 3) := by decide +kernel
theorem dX3_readLink_78 : decode cX3_readLink 78 = .ok (.ifCond .ne 5, 3) := by decide +kernel
theorem dX3_readLink_81 : decode cX3_readLink 81 = .ok (.iconst 0, 1) := by decide +kernel
theorem dX3_readLink_82 : decode cX3_readLink 82 = .ok (.ireturn, 1) := by decide +kernel
theorem dX3_readLink_83 : decode cX3_readLink 83 = .ok (.aload_n 0, 1) := by decide +kernel
theorem dX3_readLink_84 : decode cX3_readLink 84 = .ok (.getfield 116, 3) := by decide +kernel
theorem dX3_readLink_87 : decode cX3_readLink 87 = .ok (.istore 4, 2) := by decide +kernel
theorem dX3_readLink_89 : decode cX3_readLink 89 = .ok (.aload_n 0, 1) := by decide +kernel
theorem dX3_readLink_90 : decode cX3_readLink 90 = .ok (.invokevirtual 44, 3) := by decide +kernel
theorem dX3_readLink_93 : decode cX3_readLink 93 = .ok (.aload_n 0, 1) := by decide +kernel
theorem dX3_readLink_94 : decode cX3_readLink 94 = .ok (.ldc 131, 2) := by decide +kernel
theorem dX3_readLink_96 : decode cX3_readLink 96 = .ok (.invokevirtual 102, 3) := by decide +kernel
theorem dX3_readLink_99 : decode cX3_readLink 99 = .ok (.ifCond .eq 13, 3) := by decide +kernel
theorem dX3_readLink_102 : decode cX3_readLink 102 = .ok (.aload_n 0, 1) := by decide +kernel
theorem dX3_readLink_103 : decode cX3_readLink 103 = .ok (.iconst 1, 1) := by decide +kernel
theorem dX3_readLink_104 : decode cX3_readLink 104 = .ok (.bipush 48, 2) := by decide +kernel
theorem dX3_readLink_106 : decode cX3_readLink 106 = .ok (.invokevirtual 112, 3) := by decide +kernel
theorem dX3_readLink_109 : decode cX3_readLink 109 = .ok (.ifCond .ne 5, 3) := by decide +kernel
theorem dX3_readLink_112 : decode cX3_readLink 112 = .ok (.iconst 0, 1) := by decide +kernel
theorem dX3_readLink_113 : decode cX3_readLink 113 = .ok (.ireturn, 1) := by decide +kernel
theorem dX3_readLink_114 : decode cX3_readLink 114 = .ok (.aload_n 0, 1) := by decide +kernel
theorem dX3_readLink_115 : decode cX3_readLink 115 = .ok (.getfield 116, 3) := by decide +kernel
theorem dX3_readLink_118 : decode cX3_readLink 118 = .ok (.istore 5, 2) := by decide +kernel
theorem dX3_readLink_120 : decode cX3_readLink 120 = .ok (.aload_n 0, 1) := by decide +kernel
theorem dX3_readLink_121 : decode cX3_readLink 121 = .ok (.invokevirtual 44, 3) := by decide +kernel
theorem dX3_readLink_124 : decode cX3_readLink 124 = .ok (.aload_n 0, 1) := by decide +kernel
theorem dX3_readLink_125 : decode cX3_readLink 125 = .ok (.ldc 133, 2) := by decide +kernel
theorem dX3_readLink_127 : decode cX3_readLink 127 = .ok (.invokevirtual 102, 3) := by decide +kernel
theorem dX3_readLink_130 : decode cX3_readLink 130 = .ok (.ifCond .eq 13, 3) := by decide +kernel
theorem dX3_readLink_133 : decode cX3_readLink 133 = .ok (.aload_n 0, 1) := by decide +kernel
theorem dX3_readLink_134 : decode cX3_readLink 134 = .ok (.iconst 0, 1) := by decide +kernel
theorem dX3_readLink_135 : decode cX3_readLink 135 = .ok (.bipush 99, 2) := by decide +kernel
theorem dX3_readLink_137 : decode cX3_readLink 137 = .ok (.invokevirtual 112, 3) := by decide +kernel
theorem dX3_readLink_140 : decode cX3_readLink 140 = .ok (.ifCond .ne 5, 3) := by decide +kernel
theorem dX3_readLink_143 : decode cX3_readLink 143 = .ok (.iconst 0, 1) := by decide +kernel
theorem dX3_readLink_144 : decode cX3_readLink 144 = .ok (.ireturn, 1) := by decide +kernel
theorem dX3_readLink_145 : decode cX3_readLink 145 = .ok (.aload_n 0, 1) := by decide +kernel
theorem dX3_readLink_146 : decode cX3_readLink 146 = .ok (.getfield 116, 3) := by decide +kernel
theorem dX3_readLink_149 : decode cX3_readLink 149 = .ok (.istore 6, 2) := by decide +kernel
theorem dX3_readLink_151 : decode cX3_readLink 151 = .ok (.aload_n 0, 1) := by decide +kernel
theorem dX3_readLink_152 : decode cX3_readLink 152 = .ok (.invokevirtual 44, 3) := by decide +kernel
theorem dX3_readLink_155 : decode cX3_readLink 155 = .ok (.aload_n 0, 1) := by decide +kernel
theorem dX3_readLink_156 : decode cX3_readLink 156 = .ok (.getfield 47, 3) := by decide +kernel
theorem dX3_readLink_159 : decode cX3_readLink 159 = .ok (.iconst 3, 1) := by decide +kernel
theorem dX3_readLink_160 : decode cX3_readLink 160 = .ok (.if_icmp .eq 5, 3) := by decide +kernel
theorem dX3_readLink_163 : decode cX3_readLink 163 = .ok (.iconst 0, 1) := by decide +kernel
theorem dX3_readLink_164 : decode cX3_readLink 164 = .ok (.ireturn, 1) := by decide +kernel
theorem dX3_readLink_165 : decode cX3_readLink 165 = .ok (.aload_n 0, 1) := by decide +kernel
theorem dX3_readLink_166 : decode cX3_readLink 166 = .ok (.invokevirtual 44, 3) := by decide +kernel
theorem dX3_readLink_169 : decode cX3_readLink 169 = .ok (.aload_n 0, 1) := by decide +kernel
theorem dX3_readLink_170 : decode cX3_readLink 170 = .ok (.getfield 24, 3) := by decide +kernel
theorem dX3_readLink_173 : decode cX3_readLink 173 = .ok (.iload_n 2, 1) := by decide +kernel
theorem dX3_readLink_174 : decode cX3_readLink 174 = .ok (.iload_n 3, 1) := by decide +kernel
theorem dX3_readLink_175 : decode cX3_readLink 175 = .ok (.iload_n 1, 1) := by decide +kernel
theorem dX3_readLink_176 : decode cX3_readLink 176 = .ok (.iload 4, 2) := by decide +kernel
theorem dX3_readLink_178 : decode cX3_readLink 178 = .ok (.iload 5, 2) := by decide +kernel
theorem dX3_readLink_180 : decode cX3_readLink 180 = .ok (.iload 6, 2) := by decide +kernel
theorem dX3_readLink_182 : decode cX3_readLink 182 = .ok (.invokevirtual 135, 3) := by decide +kernel
theorem dX3_readLink_185 : decode cX3_readLink 185 = .ok (.iconst 1, 1) := by decide +kernel
theorem dX3_readLink_186 : decode cX3_readLink 186 = .ok (.ireturn, 1) := by decide +kernel
theorem dX3_passWord_0 : decode cX3_passWord 0 = .ok (.aload_n 0, 1) := by decide +kernel
theorem dX3_passWord_1 : decode cX3_passWord 1 = .ok (.aload_n 1, 1) := by decide +kernel
theorem dX3_passWord_2 : decode cX3_passWord 2 = .ok (.invokevirtual 62, 3) := by decide +kernel
theorem dX3_passWord_5 : decode cX3_passWord 5 = .ok (.ifCond .ne 5, 3) := by decide +kernel
theorem dX3_passWord_8 : decode cX3_passWord 8 = .ok (.iconst 0, 1) := by decide +kernel
theorem dX3_passWord_9 : decode cX3_passWord 9 = .ok (.ireturn, 1) := by decide +kernel
theorem dX3_passWord_10 : decode cX3_passWord 10 = .ok (.aload_n 0, 1) := by decide +kernel
theorem dX3_passWord_11 : decode cX3_passWord 11 = .ok (.invokevirtual 44, 3) := by decide +kernel
theorem dX3_passWord_14 : decode cX3_passWord 14 = .ok (.iconst 1, 1) := by decide +kernel
theorem dX3_passWord_15 : decode cX3_passWord 15 = .ok (.ireturn, 1) := by decide +kernel
theorem dX3_isNumber_0 : decode cX3_isNumber 0 = .ok (.aload_n 0, 1) := by decide +kernel
theorem dX3_isNumber_1 : decode cX3_isNumber 1 = .ok (.getfield 47, 3) := by decide +kernel
theorem dX3_isNumber_4 : decode cX3_isNumber 4 = .ok (.iconst 2, 1) := by decide +kernel
theorem dX3_isNumber_5 : decode cX3_isNumber 5 = .ok (.if_icmp .ne 23, 3) := by decide +kernel
theorem dX3_isNumber_8 : decode cX3_isNumber 8 = .ok (.aload_n 0, 1) := by decide +kernel
theorem dX3_isNumber_9 : decode cX3_isNumber 9 = .ok (.getfield 116, 3) := by decide +kernel
theorem dX3_isNumber_12 : decode cX3_isNumber 12 = .ok (.iload_n 1, 1) := by decide +kernel
theorem dX3_isNumber_13 : decode cX3_isNumber 13 = .ok (.if_icmp .lt 15, 3) := by decide +kernel
theorem dX3_isNumber_16 : decode cX3_isNumber 16 = .ok (.aload_n 0, 1) := by decide +kernel
theorem dX3_isNumber_17 : decode cX3_isNumber 17 = .ok (.getfield 116, 3) := by decide +kernel
theorem dX3_isNumber_20 : decode cX3_isNumber 20 = .ok (.iload_n 2, 1) := by decide +kernel
theorem dX3_isNumber_21 : decode cX3_isNumber 21 = .ok (.if_icmp .gt 7, 3) := by decide +kernel
theorem dX3_isNumber_24 : decode cX3_isNumber 24 = .ok (.iconst 1, 1) := by decide +kernel
theorem dX3_isNumber_25 : decode cX3_isNumber 25 = .ok (.goto 4, 3) := by decide +kernel
theorem dX3_isNumber_28 : decode cX3_isNumber 28 = .ok (.iconst 0, 1) := by decide +kernel
theorem dX3_isNumber_29 : decode cX3_isNumber 29 = .ok (.ireturn, 1) := by decide +kernel
theorem dX3_howOfWord_0 : decode cX3_howOfWord 0 = .ok (.aload_n 0, 1) := by decide +kernel
theorem dX3_howOfWord_1 : decode cX3_howOfWord 1 = .ok (.ldc 139, 2) := by decide +kernel
theorem dX3_howOfWord_3 : decode cX3_howOfWord 3 = .ok (.invokevirtual 62, 3) := by decide +kernel
theorem dX3_howOfWord_6 : decode cX3_howOfWord 6 = .ok (.ifCond .eq 5, 3) := by decide +kernel
theorem dX3_howOfWord_9 : decode cX3_howOfWord 9 = .ok (.iconst 1, 1) := by decide +kernel
theorem dX3_howOfWord_10 : decode cX3_howOfWord 10 = .ok (.ireturn, 1) := by decide +kernel
theorem dX3_howOfWord_11 : decode cX3_howOfWord 11 = .ok (.aload_n 0, 1) := by decide +kernel
theorem dX3_howOfWord_12 : decode cX3_howOfWord 12 = .ok (.ldc 141, 2) := by decide +kernel
theorem dX3_howOfWord_14 : decode cX3_howOfWord 14 = .ok (.invokevirtual 62, 3) := by decide +kernel
theorem dX3_howOfWord_17 : decode cX3_howOfWord 17 = .ok (.ifCond .eq 5, 3) := by decide +kernel
theorem dX3_howOfWord_20 : decode cX3_howOfWord 20 = .ok (.iconst 2, 1) := by decide +kernel
theorem dX3_howOfWord_21 : decode cX3_howOfWord 21 = .ok (.ireturn, 1) := by decide +kernel
theorem dX3_howOfWord_22 : decode cX3_howOfWord 22 = .ok (.aload_n 0, 1) := by decide +kernel
theorem dX3_howOfWord_23 : decode cX3_howOfWord 23 = .ok (.ldc 143, 2) := by decide +kernel
theorem dX3_howOfWord_25 : decode cX3_howOfWord 25 = .ok (.invokevirtual 62, 3) := by decide +kernel
theorem dX3_howOfWord_28 : decode cX3_howOfWord 28 = .ok (.ifCond .eq 5, 3) := by decide +kernel
theorem dX3_howOfWord_31 : decode cX3_howOfWord 31 = .ok (.iconst 3, 1) := by decide +kernel
theorem dX3_howOfWord_32 : decode cX3_howOfWord 32 = .ok (.ireturn, 1) := by decide +kernel
theorem dX3_howOfWord_33 : decode cX3_howOfWord 33 = .ok (.aload_n 0, 1) := by decide +kernel
theorem dX3_howOfWord_34 : decode cX3_howOfWord 34 = .ok (.ldc 145, 2) := by decide +kernel
theorem dX3_howOfWord_36 : decode cX3_howOfWord 36 = .ok (.invokevirtual 62, 3) := by decide +kernel
theorem dX3_howOfWord_39 : decode cX3_howOfWord 39 = .ok (.ifCond .eq 7, 3) := by decide +kernel
theorem dX3_howOfWord_42 : decode cX3_howOfWord 42 = .ok (.iconst 0, 1) := by decide +kernel
