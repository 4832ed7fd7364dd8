theorem dX7_toDoubt_39 : decode cX7_toDoubt 39 = .ok (.iconst 1, 1) := by decide +kernel
theorem dX7_toDoubt_40 : decode cX7_toDoubt 40 = .ok (.iload_n 3, 1) := by decide +kernel
theorem dX7_toDoubt_41 : decode cX7_toDoubt 41 = .ok (.ishl, 1) := by decide +kernel
theorem dX7_toDoubt_42 : decode cX7_toDoubt 42 = .ok (.goto 4, 3) := by decide +kernel
theorem dX7_toDoubt_45 : decode cX7_toDoubt 45 = .ok (.iconst 0, 1) := by decide +kernel
theorem dX7_toDoubt_46 : decode cX7_toDoubt 46 = .ok (.ior, 1) := by decide +kernel
theorem dX7_toDoubt_47 : decode cX7_toDoubt 47 = .ok (.istore_n 2, 1) := by decide +kernel
theorem dX7_toDoubt_48 : decode cX7_toDoubt 48 = .ok (.iinc 3 1, 3) := by decide +kernel
theorem dX7_toDoubt_51 : decode cX7_toDoubt 51 = .ok (.goto (-37), 3) := by decide +kernel
theorem dX7_toDoubt_54 : decode cX7_toDoubt 54 = .ok (.iconst 0, 1) := by decide +kernel
theorem dX7_toDoubt_55 : decode cX7_toDoubt 55 = .ok (.istore_n 3, 1) := by decide +kernel
theorem dX7_toDoubt_56 : decode cX7_toDoubt 56 = .ok (.iload_n 3, 1) := by decide +kernel
theorem dX7_toDoubt_57 : decode cX7_toDoubt 57 = .ok (.aload_n 0, 1) := by decide +kernel
theorem dX7_toDoubt_58 : decode cX7_toDoubt 58 = .ok (.getfield 54, 3) := by decide +kernel
theorem dX7_toDoubt_61 : decode cX7_toDoubt 61 = .ok (.iload_n 1, 1) := by decide +kernel
theorem dX7_toDoubt_62 : decode cX7_toDoubt 62 = .ok (.iaload, 1) := by decide +kernel
theorem dX7_toDoubt_63 : decode cX7_toDoubt 63 = .ok (.if_icmp .gt 67, 3) := by decide +kernel
theorem dX7_toDoubt_66 : decode cX7_toDoubt 66 = .ok (.iconst 0, 1) := by decide +kernel
theorem dX7_toDoubt_67 : decode cX7_toDoubt 67 = .ok (.istore 4, 2) := by decide +kernel
theorem dX7_toDoubt_69 : decode cX7_toDoubt 69 = .ok (.iload 4, 2) := by decide +kernel
theorem dX7_toDoubt_71 : decode cX7_toDoubt 71 = .ok (.iconst 1, 1) := by decide +kernel
theorem dX7_toDoubt_72 : decode cX7_toDoubt 72 = .ok (.aload_n 0, 1) := by decide +kernel
theorem dX7_toDoubt_73 : decode cX7_toDoubt 73 = .ok (.getfield 54, 3) := by decide +kernel
theorem dX7_toDoubt_76 : decode cX7_toDoubt 76 = .ok (.iload_n 1, 1) := by decide +kernel
theorem dX7_toDoubt_77 : decode cX7_toDoubt 77 = .ok (.iaload, 1) := by decide +kernel
theorem dX7_toDoubt_78 : decode cX7_toDoubt 78 = .ok (.ishl, 1) := by decide +kernel
theorem dX7_toDoubt_79 : decode cX7_toDoubt 79 = .ok (.if_icmp .ge 45, 3) := by decide +kernel
theorem dX7_toDoubt_82 : decode cX7_toDoubt 82 = .ok (.iload 4, 2) := by decide +kernel
theorem dX7_toDoubt_84 : decode cX7_toDoubt 84 = .ok (.invokestatic 331, 3) := by decide +kernel
theorem dX7_toDoubt_87 : decode cX7_toDoubt 87 = .ok (.iload_n 3, 1) := by decide +kernel
theorem dX7_toDoubt_88 : decode cX7_toDoubt 88 = .ok (.if_icmp .ne 30, 3) := by decide +kernel
theorem dX7_toDoubt_91 : decode cX7_toDoubt 91 = .ok (.iload 4, 2) := by decide +kernel
theorem dX7_toDoubt_93 : decode cX7_toDoubt 93 = .ok (.iload_n 2, 1) := by decide +kernel
theorem dX7_toDoubt_94 : decode cX7_toDoubt 94 = .ok (.iand, 1) := by decide +kernel
theorem dX7_toDoubt_95 : decode cX7_toDoubt 95 = .ok (.ifCond .eq 6, 3) := by decide +kernel
theorem dX7_toDoubt_98 : decode cX7_toDoubt 98 = .ok (.goto 20, 3) := by decide +kernel
theorem dX7_toDoubt_101 : decode cX7_toDoubt 101 = .ok (.aload_n 0, 1) := by decide +kernel
theorem dX7_toDoubt_102 : decode cX7_toDoubt 102 = .ok (.iload_n 1, 1) := by decide +kernel
theorem dX7_toDoubt_103 : decode cX7_toDoubt 103 = .ok (.iload 4, 2) := by decide +kernel
theorem dX7_toDoubt_105 : decode cX7_toDoubt 105 = .ok (.invokevirtual 321, 3) := by decide +kernel
theorem dX7_toDoubt_108 : decode cX7_toDoubt 108 = .ok (.aload_n 0, 1) := by decide +kernel
theorem dX7_toDoubt_109 : decode cX7_toDoubt 109 = .ok (.invokevirtual 317, 3) := by decide +kernel
theorem dX7_toDoubt_112 : decode cX7_toDoubt 112 = .ok (.ifCond .eq 6, 3) := by decide +kernel
theorem dX7_toDoubt_115 : decode cX7_toDoubt 115 = .ok (.iload 4, 2) := by decide +kernel
theorem dX7_toDoubt_117 : decode cX7_toDoubt 117 = .ok (.ireturn, 1) := by decide +kernel
theorem dX7_toDoubt_118 : decode cX7_toDoubt 118 = .ok (.iinc 4 1, 3) := by decide +kernel
theorem dX7_toDoubt_121 : decode cX7_toDoubt 121 = .ok (.goto (-52), 3) := by decide +kernel
theorem dX7_toDoubt_124 : decode cX7_toDoubt 124 = .ok (.iinc 3 1, 3) := by decide +kernel
theorem dX7_toDoubt_127 : decode cX7_toDoubt 127 = .ok (.goto (-71), 3) := by decide +kernel
theorem dX7_toDoubt_130 : decode cX7_toDoubt 130 = .ok (.iconst (-1), 1) := by decide +kernel
theorem dX7_toDoubt_131 : decode cX7_toDoubt 131 = .ok (.ireturn, 1) := by decide +kernel
theorem dX7_away_0 : decode cX7_away 0 = .ok (.aload_n 0, 1) := by decide +kernel
theorem dX7_away_1 : decode cX7_away 1 = .ok (.iload_n 1, 1) := by decide +kernel
theorem dX7_away_2 : decode cX7_away 2 = .ok (.invokevirtual 256, 3) := by decide +kernel
theorem dX7_away_5 : decode cX7_away 5 = .ok (.ifCond .ne 5, 3) := by decide +kernel
theorem dX7_away_8 : decode cX7_away 8 = .ok (.iconst (-1), 1) := by decide +kernel
theorem dX7_away_9 : decode cX7_away 9 = .ok (.ireturn, 1) := by decide +kernel
theorem dX7_away_10 : decode cX7_away 10 = .ok (.aload_n 0, 1) := by decide +kernel
theorem dX7_away_11 : decode cX7_away 11 = .ok (.iload_n 1, 1) := by decide +kernel
theorem dX7_away_12 : decode cX7_away 12 = .ok (.iconst 0, 1) := by decide +kernel
theorem dX7_away_13 : decode cX7_away 13 = .ok (.invokevirtual 321, 3) := by decide +kernel
theorem dX7_away_16 : decode cX7_away 16 = .ok (.aload_n 0, 1) := by decide +kernel
theorem dX7_away_17 : decode cX7_away 17 = .ok (.invokevirtual 325, 3) := by decide +kernel
theorem dX7_away_20 : decode cX7_away 20 = .ok (.istore_n 2, 1) := by decide +kernel
theorem dX7_away_21 : decode cX7_away 21 = .ok (.iconst (-1), 1) := by decide +kernel
theorem dX7_away_22 : decode cX7_away 22 = .ok (.istore_n 3, 1) := by decide +kernel
theorem dX7_away_23 : decode cX7_away 23 = .ok (.iconst 0, 1) := by decide +kernel
theorem dX7_away_24 : decode cX7_away 24 = .ok (.istore 4, 2) := by decide +kernel
theorem dX7_away_26 : decode cX7_away 26 = .ok (.iload 4, 2) := by decide +kernel
theorem dX7_away_28 : decode cX7_away 28 = .ok (.aload_n 0, 1) := by decide +kernel
theorem dX7_away_29 : decode cX7_away 29 = .ok (.getfield 54, 3) := by decide +kernel
theorem dX7_away_32 : decode cX7_away 32 = .ok (.iload_n 1, 1) := by decide +kernel
theorem dX7_away_33 : decode cX7_away 33 = .ok (.iaload, 1) := by decide +kernel
theorem dX7_away_34 : decode cX7_away 34 = .ok (.if_icmp .ge 57, 3) := by decide +kernel
theorem dX7_away_37 : decode cX7_away 37 = .ok (.aload_n 0, 1) := by decide +kernel
theorem dX7_away_38 : decode cX7_away 38 = .ok (.getfield 72, 3) := by decide +kernel
theorem dX7_away_41 : decode cX7_away 41 = .ok (.bipush 8, 2) := by decide +kernel
theorem dX7_away_43 : decode cX7_away 43 = .ok (.iload_n 1, 1) := by decide +kernel
theorem dX7_away_44 : decode cX7_away 44 = .ok (.imul, 1) := by decide +kernel
theorem dX7_away_45 : decode cX7_away 45 = .ok (.iload 4, 2) := by decide +kernel
theorem dX7_away_47 : decode cX7_away 47 = .ok (.iadd, 1) := by decide +kernel
theorem dX7_away_48 : decode cX7_away 48 = .ok (.baload, 1) := by decide +kernel
theorem dX7_away_49 : decode cX7_away 49 = .ok (.ifCond .eq 6, 3) := by decide +kernel
theorem dX7_away_52 : decode cX7_away 52 = .ok (.goto 33, 3) := by decide +kernel
theorem dX7_away_55 : decode cX7_away 55 = .ok (.aload_n 0, 1) := by decide +kernel
theorem dX7_away_56 : decode cX7_away 56 = .ok (.iload_n 1, 1) := by decide +kernel
theorem dX7_away_57 : decode cX7_away 57 = .ok (.iconst 1, 1) := by decide +kernel
theorem dX7_away_58 : decode cX7_away 58 = .ok (.iload 4, 2) := by decide +kernel
theorem dX7_away_60 : decode cX7_away 60 = .ok (.ishl, 1) := by decide +kernel
theorem dX7_away_61 : decode cX7_away 61 = .ok (.invokevirtual 321, 3) := by decide +kernel
theorem dX7_away_64 : decode cX7_away 64 = .ok (.aload_n 0, 1) := by decide +kernel
theorem dX7_away_65 : decode cX7_away 65 = .ok (.invokevirtual 325, 3) := by decide +kernel
theorem dX7_away_68 : decode cX7_away 68 = .ok (.istore 5, 2) := by decide +kernel
theorem dX7_away_70 : decode cX7_away 70 = .ok (.iload 5, 2) := by decide +kernel
theorem dX7_away_72 : decode cX7_away 72 = .ok (.iload_n 2, 1) := by decide +kernel
theorem dX7_away_73 : decode cX7_away 73 = .ok (.if_icmp .gt 6, 3) := by decide +kernel
theorem dX7_away_76 : decode cX7_away 76 = .ok (.goto 9, 3) := by decide +kernel
theorem dX7_away_79 : decode cX7_away 79 = .ok (.iload 5, 2) := by decide +kernel
theorem dX7_away_81 : decode cX7_away 81 = .ok (.istore_n 2, 1) := by decide +kernel
theorem dX7_away_82 : decode cX7_away 82 = .ok (.iload 4, 2) := by decide +kernel
theorem dX7_away_84 : decode cX7_away 84 = .ok (.istore_n 3, 1) := by decide +kernel
theorem dX7_away_85 : decode cX7_away 85 = .ok (.iinc 4 1, 3) := by decide +kernel
theorem dX7_away_88 : decode cX7_away 88 = .ok (.goto (-62), 3) := by decide +kernel
theorem dX7_away_91 : decode cX7_away 91 = .ok (.iload_n 3, 1) := by decide +kernel
theorem dX7_away_92 : decode cX7_away 92 = .ok (.ireturn, 1) := by decide +kernel
theorem dX7_met_0 : decode cX7_met 0 = .ok (.aload_n 0, 1) := by decide +kernel
theorem dX7_met_1 : decode cX7_met 1 = .ok (.getfield 247, 3) := by decide +kernel
theorem dX7_met_4 : decode cX7_met 4 = .ok (.ifCond .eq 27, 3) := by decide +kernel
theorem dX7_met_7 : decode cX7_met 7 = .ok (.iload_n 1, 1) := by decide +kernel
theorem dX7_met_8 : decode cX7_met 8 = .ok (.iconst 0, 1) := by decide +kernel
theorem dX7_met_9 : decode cX7_met 9 = .ok (.aload_n 0, 1) := by decide +kernel
theorem dX7_met_10 : decode cX7_met 10 = .ok (.getfield 51, 3) := by decide +kernel
theorem dX7_met_13 : decode cX7_met 13 = .ok (.iconst 0, 1) := by decide +kernel
theorem dX7_met_14 : decode cX7_met 14 = .ok (.iaload, 1) := by decide +kernel
theorem dX7_met_15 : decode cX7_met 15 = .ok (.invokestatic 117, 3) := by decide +kernel
theorem dX7_met_18 : decode cX7_met 18 = .ok (.ifCond .eq 13, 3) := by decide +kernel
theorem dX7_met_21 : decode cX7_met 21 = .ok (.iload_n 1, 1) := by decide +kernel
theorem dX7_met_22 : decode cX7_met 22 = .ok (.aload_n 0, 1) := by decide +kernel
theorem dX7_met_23 : decode cX7_met 23 = .ok (.getfield 51, 3) := by decide +kernel
theorem dX7_met_26 : decode cX7_met 26 = .ok (.iconst 1, 1) := by decide +kernel
theorem dX7_met_27 : decode cX7_met 27 = .ok (.iaload, 1) := by decide +kernel
theorem dX7_met_28 : decode cX7_met 28 = .ok (.if_icmp .le 5, 3) := by decide +kernel
theorem dX7_met_31 : decode cX7_met 31 = .ok (.iconst (-1), 1) := by decide +kernel
theorem dX7_met_32 : decode cX7_met 32 = .ok (.ireturn, 1) := by decide +kernel
theorem dX7_met_33 : decode cX7_met 33 = .ok (.iload_n 2, 1) := by decide +kernel
theorem dX7_met_34 : decode cX7_met 34 = .ok (.ifCond .ne 21, 3) := by decide +kernel
theorem dX7_met_37 : decode cX7_met 37 = .ok (.aload_n 0, 1) := by decide +kernel
theorem dX7_met_38 : decode cX7_met 38 = .ok (.iconst 0, 1) := by decide +kernel
theorem dX7_met_39 : decode cX7_met 39 = .ok (.iload_n 1, 1) := by decide +kernel
theorem dX7_met_40 : decode cX7_met 40 = .ok (.invokevirtual 328, 3) := by decide +kernel
theorem dX7_met_43 : decode cX7_met 43 = .ok (.aload_n 0, 1) := by decide +kernel
theorem dX7_met_44 : decode cX7_met 44 = .ok (.iconst 1, 1) := by decide +kernel
theorem dX7_met_45 : decode cX7_met 45 = .ok (.iload_n 1, 1) := by decide +kernel
theorem dX7_met_46 : decode cX7_met 46 = .ok (.invokevirtual 328, 3) := by decide +kernel
theorem dX7_met_49 : decode cX7_met 49 = .ok (.iand, 1) := by decide +kernel
theorem dX7_met_50 : decode cX7_met 50 = .ok (.sipush 255, 3) := by decide +kernel
theorem dX7_met_53 : decode cX7_met 53 = .ok (.iand, 1) := by decide +kernel
theorem dX7_met_54 : decode cX7_met 54 = .ok (.ireturn, 1) := by decide +kernel
theorem dX7_met_55 : decode cX7_met 55 = .ok (.aload_n 0, 1) := by decide +kernel
theorem dX7_met_56 : decode cX7_met 56 = .ok (.iconst 0, 1) := by decide +kernel
theorem dX7_met_57 : decode cX7_met 57 = .ok (.iload_n 1, 1) := by decide +kernel
theorem dX7_met_58 : decode cX7_met 58 = .ok (.invokevirtual 344, 3) := by decide +kernel
theorem dX7_met_61 : decode cX7_met 61 = .ok (.istore_n 3, 1) := by decide +kernel
theorem dX7_met_62 : decode cX7_met 62 = .ok (.iload_n 3, 1) := by decide +kernel
theorem dX7_met_63 : decode cX7_met 63 = .ok (.iconst (-1), 1) := by decide +kernel
theorem dX7_met_64 : decode cX7_met 64 = .ok (.if_icmp .eq 19, 3) := by decide +kernel
theorem dX7_met_67 : decode cX7_met 67 = .ok (.iload_n 3, 1) := by decide +kernel
theorem dX7_met_68 : decode cX7_met 68 = .ok (.aload_n 0, 1) := by decide +kernel
theorem dX7_met_69 : decode cX7_met 69 = .ok (.iconst 1, 1) := by decide +kernel
theorem dX7_met_70 : decode cX7_met 70 = .ok (.iload_n 1, 1) := by decide +kernel
theorem dX7_met_71 : decode cX7_met 71 = .ok (.invokevirtual 344, 3) := by decide +kernel
theorem dX7_met_74 : decode cX7_met 74 = .ok (.if_icmp .ne 9, 3) := by decide +kernel
theorem dX7_met_77 : decode cX7_met 77 = .ok (.iconst 1, 1) := by decide +kernel
theorem dX7_met_78 : decode cX7_met 78 = .ok (.iload_n 3, 1) := by decide +kernel
theorem dX7_met_79 : decode cX7_met 79 = .ok (.ishl, 1) := by decide +kernel
theorem dX7_met_80 : decode cX7_met 80 = .ok (.goto 4, 3) := by decide +kernel
theorem dX7_met_83 : decode cX7_met 83 = .ok (.iconst 0, 1) := by decide +kernel
theorem dX7_met_84 : decode cX7_met 84 = .ok (.ireturn, 1) := by decide +kernel
theorem dX7_leg_0 : decode cX7_leg 0 = .ok (.aload_n 0, 1) := by decide +kernel
theorem dX7_leg_1 : decode cX7_leg 1 = .ok (.iload_n 1, 1) := by decide +kernel
theorem dX7_leg_2 : decode cX7_leg 2 = .ok (.invokevirtual 273, 3) := by decide +kernel
theorem dX7_leg_5 : decode cX7_leg 5 = .ok (.ifCond .eq 22, 3) := by decide +kernel
theorem dX7_leg_8 : decode cX7_leg 8 = .ok (.iload_n 2, 1) := by decide +kernel
theorem dX7_leg_9 : decode cX7_leg 9 = .ok (.iconst 0, 1) := by decide +kernel
theorem dX7_leg_10 : decode cX7_leg 10 = .ok (.bipush 96, 2) := by decide +kernel
theorem dX7_leg_12 : decode cX7_leg 12 = .ok (.invokestatic 117, 3) := by decide +kernel
theorem dX7_leg_15 : decode cX7_leg 15 = .ok (.ifCond .eq 12, 3) := by decide +kernel
theorem dX7_leg_18 : decode cX7_leg 18 = .ok (.aload_n 0, 1) := by decide +kernel
theorem dX7_leg_19 : decode cX7_leg 19 = .ok (.getfield 253, 3) := by decide +kernel
theorem dX7_leg_22 : decode cX7_leg 22 = .ok (.bipush 20, 2) := by decide +kernel
theorem dX7_leg_24 : decode cX7_leg 24 = .ok (.if_icmp .ne 5, 3) := by decide +kernel
theorem dX7_leg_27 : decode cX7_leg 27 = .ok (.iconst (-1), 1) := by decide +kernel
theorem dX7_leg_28 : decode cX7_leg 28 = .ok (.ireturn, 1) := by decide +kernel
theorem dX7_leg_29 : decode cX7_leg 29 = .ok (.aload_n 0, 1) := by decide +kernel
theorem dX7_leg_30 : decode cX7_leg 30 = .ok (.getfield 76, 3) := by decide +kernel
theorem dX7_leg_33 : decode cX7_leg 33 = .ok (.aload_n 0, 1) := by decide +kernel
theorem dX7_leg_34 : decode cX7_leg 34 = .ok (.getfield 253, 3) := by decide +kernel
theorem dX7_leg_37 : decode cX7_leg 37 = .ok (.iload_n 1, 1) := by decide +kernel
theorem dX7_leg_38 : decode cX7_leg 38 = .ok (.iastore, 1) := by decide +kernel
theorem dX7_leg_39 : decode cX7_leg 39 = .ok (.aload_n 0, 1) := by decide +kernel
theorem dX7_leg_40 : decode cX7_leg 40 = .ok (.getfield 79, 3) := by decide +kernel
theorem dX7_leg_43 : decode cX7_leg 43 = .ok (.aload_n 0, 1) := by decide +kernel
theorem dX7_leg_44 : decode cX7_leg 44 = .ok (.getfield 253, 3) := by decide +kernel
theorem dX7_leg_47 : decode cX7_leg 47 = .ok (.iload_n 2, 1) := by decide +kernel
theorem dX7_leg_48 : decode cX7_leg 48 = .ok (.iastore, 1) := by decide +kernel
theorem dX7_leg_49 : decode cX7_leg 49 = .ok (.aload_n 0, 1) := by decide +kernel
theorem dX7_leg_50 : decode cX7_leg 50 = .ok (.dup, 1) := by decide +kernel
theorem dX7_leg_51 : decode cX7_leg 51 = .ok (.getfield 253, 3) := by decide +kernel
theorem dX7_leg_54 : decode cX7_leg 54 = .ok (.iconst 1, 1) := by decide +kernel
theorem dX7_leg_55 : decode cX7_leg 55 = .ok (.iadd, 1) := by decide +kernel
theorem dX7_leg_56 : decode cX7_leg 56 = .ok (.putfield 253, 3) := by decide +kernel
theorem dX7_leg_59 : decode cX7_leg 59 = .ok (.aload_n 0, 1) := by decide +kernel
theorem dX7_leg_60 : decode cX7_leg 60 = .ok (.getfield 253, 3) := by decide +kernel
theorem dX7_leg_63 : decode cX7_leg 63 = .ok (.ireturn, 1) := by decide +kernel
theorem dX7_forget_0 : decode cX7_forget 0 = .ok (.aload_n 0, 1) := by decide +kernel
theorem dX7_forget_1 : decode cX7_forget 1 = .ok (.getfield 253, 3) := by decide +kernel
theorem dX7_forget_4 : decode cX7_forget 4 = .ok (.istore_n 1, 1) := by decide +kernel
theorem dX7_forget_5 : decode cX7_forget 5 = .ok (.aload_n 0, 1) := by decide +kernel
theorem dX7_forget_6 : decode cX7_forget 6 = .ok (.iconst 0, 1) := by decide +kernel
theorem dX7_forget_7 : decode cX7_forget 7 = .ok (.putfield 253, 3) := by decide +kernel
theorem dX7_forget_10 : decode cX7_forget 10 = .ok (.iload_n 1, 1) := by decide +kernel
theorem dX7_forget_11 : decode cX7_forget 11 = .ok (.ireturn, 1) := by decide +kernel
theorem dX7_follows_0 : decode cX7_follows 0 = .ok (.iconst 0, 1) := by decide +kernel
theorem dX7_follows_1 : decode cX7_follows 1 = .ok (.istore_n 1, 1) := by decide +kernel
theorem dX7_follows_2 : decode cX7_follows 2 = .ok (.aload_n 0, 1) := by decide +kernel
theorem dX7_follows_3 : decode cX7_follows 3 = .ok (.getfield 45, 3) := by decide +kernel
theorem dX7_follows_6 : decode cX7_follows 6 = .ok (.aload_n 0, 1) := by decide +kernel
theorem dX7_follows_7 : decode cX7_follows 7 = .ok (.getfield 279, 3) := by decide +kernel
theorem dX7_follows_10 : decode cX7_follows 10 = .ok (.iaload, 1) := by decide +kernel
theorem dX7_follows_11 : decode cX7_follows 11 = .ok (.istore_n 2, 1) := by decide +kernel
theorem dX7_follows_12 : decode cX7_follows 12 = .ok (.iconst 0, 1) := by decide +kernel
theorem dX7_follows_13 : decode cX7_follows 13 = .ok (.istore_n 3, 1) := by decide +kernel
theorem dX7_follows_14 : decode cX7_follows 14 = .ok (.iload_n 3, 1) := by decide +kernel
theorem dX7_follows_15 : decode cX7_follows 15 = .ok (.aload_n 0, 1) := by decide +kernel
theorem dX7_follows_16 : decode cX7_follows 16 = .ok (.getfield 253, 3) := by decide +kernel
theorem dX7_follows_19 : decode cX7_follows 19 = .ok (.if_icmp .gt 236, 3) := by decide +kernel
theorem dX7_follows_22 : decode cX7_follows 22 = .ok (.iload_n 3, 1) := by decide +kernel
theorem dX7_follows_23 : decode cX7_follows 23 = .ok (.aload_n 0, 1) := by decide +kernel
theorem dX7_follows_24 : decode cX7_follows 24 = .ok (.getfield 253, 3) := by decide +kernel
theorem dX7_follows_27 : decode cX7_follows 27 = .ok (.if_icmp .ne 15, 3) := by decide +kernel
theorem dX7_follows_30 : decode cX7_follows 30 = .ok (.aload_n 0, 1) := by decide +kernel
theorem dX7_follows_31 : decode cX7_follows 31 = .ok (.getfield 51, 3) := by decide +kernel
theorem dX7_follows_34 : decode cX7_follows 34 = .ok (.aload_n 0, 1) := by decide +kernel
theorem dX7_follows_35 : decode cX7_follows 35 = .ok (.getfield 279, 3) := by decide +kernel
theorem dX7_follows_38 : decode cX7_follows 38 = .ok (.iaload, 1) := by decide +kernel
theorem dX7_follows_39 : decode cX7_follows 39 = .ok (.goto 9, 3) := by decide +kernel
theorem dX7_follows_42 : decode cX7_follows 42 = .ok (.aload_n 0, 1) := by decide +kernel
theorem dX7_follows_43 : decode cX7_follows 43 = .ok (.getfield 79, 3) := by decide +kernel
theorem dX7_follows_46 : decode cX7_follows 46 = .ok (.iload_n 3, 1) := by decide +kernel
theorem dX7_follows_47 : decode cX7_follows 47 = .ok (.iaload, 1) := by decide +kernel
theorem dX7_follows_48 : decode cX7_follows 48 = .ok (.istore 4, 2) := by decide +kernel
theorem dX7_follows_50 : decode cX7_follows 50 = .ok (.iload_n 3, 1) := by decide +kernel
theorem dX7_follows_51 : decode cX7_follows 51 = .ok (.aload_n 0, 1) := by decide +kernel
theorem dX7_follows_52 : decode cX7_follows 52 = .ok (.getfield 253, 3) := by decide +kernel
theorem dX7_follows_55 : decode cX7_follows 55 = .ok (.if_icmp .ge 87, 3) := by decide +kernel
theorem dX7_follows_58 : decode cX7_follows 58 = .ok (.aload_n 0, 1) := by decide +kernel
theorem dX7_follows_59 : decode cX7_follows 59 = .ok (.getfield 76, 3) := by decide +kernel
theorem dX7_follows_62 : decode cX7_follows 62 = .ok (.iload_n 3, 1) := by decide +kernel
theorem dX7_follows_63 : decode cX7_follows 63 = .ok (.iaload, 1) := by decide +kernel
theorem dX7_follows_64 : decode cX7_follows 64 = .ok (.istore 5, 2) := by decide +kernel
theorem dX7_follows_66 : decode cX7_follows 66 = .ok (.aload_n 0, 1) := by decide +kernel
theorem dX7_follows_67 : decode cX7_follows 67 = .ok (.iload 5, 2) := by decide +kernel
theorem dX7_follows_69 : decode cX7_follows 69 = .ok (.iconst 5, 1) := by decide +kernel
theorem dX7_follows_70 : decode cX7_follows 70 = .ok (.invokevirtual 276, 3) := by decide +kernel
theorem dX7_follows_73 : decode cX7_follows 73 = .ok (.iconst 1, 1) := by decide +kernel
theorem dX7_follows_74 : decode cX7_follows 74 = .ok (.if_icmp .ne 11, 3) := by decide +kernel
theorem dX7_follows_77 : decode cX7_follows 77 = .ok (.iload 4, 2) := by decide +kernel
theorem dX7_follows_79 : decode cX7_follows 79 = .ok (.bipush 24, 2) := by decide +kernel
theorem dX7_follows_81 : decode cX7_follows 81 = .ok (.irem, 1) := by decide +kernel
theorem dX7_follows_82 : decode cX7_follows 82 = .ok (.goto 5, 3) := by decide +kernel
theorem dX7_follows_85 : decode cX7_follows 85 = .ok (.iload 4, 2) := by decide +kernel
theorem dX7_follows_87 : decode cX7_follows 87 = .ok (.istore 6, 2) := by decide +kernel
theorem dX7_follows_89 : decode cX7_follows 89 = .ok (.iload 4, 2) := by decide +kernel
theorem dX7_follows_91 : decode cX7_follows 91 = .ok (.iload_n 1, 1) := by decide +kernel
theorem dX7_follows_92 : decode cX7_follows 92 = .ok (.if_icmp .lt 48, 3) := by decide +kernel
theorem dX7_follows_95 : decode cX7_follows 95 = .ok (.aload_n 0, 1) := by decide +kernel
theorem dX7_follows_96 : decode cX7_follows 96 = .ok (.iload 5, 2) := by decide +kernel
theorem dX7_follows_98 : decode cX7_follows 98 = .ok (.iconst 0, 1) := by decide +kernel
theorem dX7_follows_99 : decode cX7_follows 99 = .ok (.invokevirtual 276, 3) := by decide +kernel
theorem dX7_follows_102 : decode cX7_follows 102 = .ok (.iload_n 2, 1) := by decide +kernel
theorem dX7_follows_103 : decode cX7_follows 103 = .ok (.if_icmp .ne 37, 3) := by decide +kernel
theorem dX7_follows_106 : decode cX7_follows 106 = .ok (.aload_n 0, 1) := by decide +kernel
theorem dX7_follows_107 : decode cX7_follows 107 = .ok (.iload 5, 2) := by decide +kernel
theorem dX7_follows_109 : decode cX7_follows 109 = .ok (.iconst 2, 1) := by decide +kernel
theorem dX7_follows_110 : decode cX7_follows 110 = .ok (.invokevirtual 276, 3) := by decide +kernel
theorem dX7_follows_113 : decode cX7_follows 113 = .ok (.iload 6, 2) := by decide +kernel
theorem dX7_follows_115 : decode cX7_follows 115 = .ok (.if_icmp .ne 25, 3) := by decide +kernel
theorem dX7_follows_118 : decode cX7_follows 118 = .ok (.iload 4, 2) := by decide +kernel
theorem dX7_follows_120 : decode cX7_follows 120 = .ok (.aload_n 0, 1) := by decide +kernel
theorem dX7_follows_121 : decode cX7_follows 121 = .ok (.iload 5, 2) := by decide +kernel
theorem dX7_follows_123 : decode cX7_follows 123 = .ok (.iconst 3, 1) := by decide +kernel
theorem dX7_follows_124 : decode cX7_follows 124 = .ok (.invokevirtual 276, 3) := by decide +kernel
theorem dX7_follows_127 : decode cX7_follows 127 = .ok (.iadd, 1) := by decide +kernel
theorem dX7_follows_128 : decode cX7_follows 128 = .ok (.aload_n 0, 1) := by decide +kernel
theorem dX7_follows_129 : decode cX7_follows 129 = .ok (.getfield 51, 3) := by decide +kernel
theorem dX7_follows_132 : decode cX7_follows 132 = .ok (.aload_n 0, 1) := by decide +kernel
theorem dX7_follows_133 : decode cX7_follows 133 = .ok (.getfield 279, 3) := by decide +kernel
theorem dX7_follows_136 : decode cX7_follows 136 = .ok (.iaload, 1) := by decide +kernel
theorem dX7_follows_137 : decode cX7_follows 137 = .ok (.if_icmp .le 5, 3) := by decide +kernel
theorem dX7_follows_140 : decode cX7_follows 140 = .ok (.iload_n 3, 1) := by decide +kernel
theorem dX7_follows_141 : decode cX7_follows 141 = .ok (.ireturn, 1) := by decide +kernel
theorem dX7_follows_142 : decode cX7_follows 142 = .ok (.iload_n 1, 1) := by decide +kernel
theorem dX7_follows_143 : decode cX7_follows 143 = .ok (.iload 4, 2) := by decide +kernel
theorem dX7_follows_145 : decode cX7_follows 145 = .ok (.if_icmp .ge 23, 3) := by decide +kernel
theorem dX7_follows_148 : decode cX7_follows 148 = .ok (.aload_n 0, 1) := by decide +kernel
theorem dX7_follows_149 : decode cX7_follows 149 = .ok (.getfield 107, 3) := by decide +kernel
theorem dX7_follows_152 : decode cX7_follows 152 = .ok (.iload_n 1, 1) := by decide +kernel
theorem dX7_follows_153 : decode cX7_follows 153 = .ok (.iload_n 2, 1) := by decide +kernel
theorem dX7_follows_154 : decode cX7_follows 154 = .ok (.iastore, 1) := by decide +kernel
theorem dX7_follows_155 : decode cX7_follows 155 = .ok (.aload_n 0, 1) := by decide +kernel
theorem dX7_follows_156 : decode cX7_follows 156 = .ok (.getfield 110, 3) := by decide +kernel
theorem dX7_follows_159 : decode cX7_follows 159 = .ok (.iload_n 1, 1) := by decide +kernel
theorem dX7_follows_160 : decode cX7_follows 160 = .ok (.iconst 1, 1) := by decide +kernel
theorem dX7_follows_161 : decode cX7_follows 161 = .ok (.bastore, 1) := by decide +kernel
theorem dX7_follows_162 : decode cX7_follows 162 = .ok (.iinc 1 1, 3) := by decide +kernel
theorem dX7_follows_165 : decode cX7_follows 165 = .ok (.goto (-23), 3) := by decide +kernel
theorem dX7_follows_168 : decode cX7_follows 168 = .ok (.iload_n 3, 1) := by decide +kernel
theorem dX7_follows_169 : decode cX7_follows 169 = .ok (.aload_n 0, 1) := by decide +kernel
theorem dX7_follows_170 : decode cX7_follows 170 = .ok (.getfield 253, 3) := by decide +kernel
theorem dX7_follows_173 : decode cX7_follows 173 = .ok (.if_icmp .ne 6, 3) := by decide +kernel
theorem dX7_follows_176 : decode cX7_follows 176 = .ok (.goto 79, 3) := by decide +kernel
theorem dX7_follows_179 : decode cX7_follows 179 = .ok (.aload_n 0, 1) := by decide +kernel
theorem dX7_follows_180 : decode cX7_follows 180 = .ok (.getfield 107, 3) := by decide +kernel
theorem dX7_follows_183 : decode cX7_follows 183 = .ok (.iload_n 1, 1) := by decide +kernel
theorem dX7_follows_184 : decode cX7_follows 184 = .ok (.iload_n 2, 1) := by decide +kernel
theorem dX7_follows_185 : decode cX7_follows 185 = .ok (.iastore, 1) := by decide +kernel
theorem dX7_follows_186 : decode cX7_follows 186 = .ok (.aload_n 0, 1) := by decide +kernel
theorem dX7_follows_187 : decode cX7_follows 187 = .ok (.getfield 110, 3) := by decide +kernel
theorem dX7_follows_190 : decode cX7_follows 190 = .ok (.iload_n 1, 1) := by decide +kernel
theorem dX7_follows_191 : decode cX7_follows 191 = .ok (.iconst 0, 1) := by decide +kernel
theorem dX7_follows_192 : decode cX7_follows 192 = .ok (.bastore, 1) := by decide +kernel
theorem dX7_follows_193 : decode cX7_follows 193 = .ok (.iload_n 1, 1) := by decide +kernel
theorem dX7_follows_194 : decode cX7_follows 194 = .ok (.aload_n 0, 1) := by decide +kernel
theorem dX7_follows_195 : decode cX7_follows 195 = .ok (.aload_n 0, 1) := by decide +kernel
theorem dX7_follows_196 : decode cX7_follows 196 = .ok (.getfield 76, 3) := by decide +kernel
theorem dX7_follows_199 : decode cX7_follows 199 = .ok (.iload_n 3, 1) := by decide +kernel
theorem dX7_follows_200 : decode cX7_follows 200 = .ok (.iaload, 1) := by decide +kernel
theorem dX7_follows_201 : decode cX7_follows 201 = .ok (.iconst 3, 1) := by decide +kernel
theorem dX7_follows_202 : decode cX7_follows 202 = .ok (.invokevirtual 276, 3) := by decide +kernel
theorem dX7_follows_205 : decode cX7_follows 205 = .ok (.iadd, 1) := by decide +kernel
theorem dX7_follows_206 : decode cX7_follows 206 = .ok (.istore 5, 2) := by decide +kernel
theorem dX7_follows_208 : decode cX7_follows 208 = .ok (.iinc 1 1, 3) := by decide +kernel
theorem dX7_follows_211 : decode cX7_follows 211 = .ok (.iload_n 1, 1) := by decide +kernel
theorem dX7_follows_212 : decode cX7_follows 212 = .ok (.iload 5, 2) := by decide +kernel
theorem dX7_follows_214 : decode cX7_follows 214 = .ok (.if_icmp .ge 23, 3) := by decide +kernel
theorem dX7_follows_217 : decode cX7_follows 217 = .ok (.aload_n 0, 1) := by decide +kernel
theorem dX7_follows_218 : decode cX7_follows 218 = .ok (.getfield 107, 3) := by decide +kernel
theorem dX7_follows_221 : decode cX7_follows 221 = .ok (.iload_n 1, 1) := by decide +kernel
theorem dX7_follows_222 : decode cX7_follows 222 = .ok (.iconst (-1), 1) := by decide +kernel
theorem dX7_follows_223 : decode cX7_follows 223 = .ok (.iastore, 1) := by decide +kernel
theorem dX7_follows_224 : decode cX7_follows 224 = .ok (.aload_n 0, 1) := by decide +kernel
theorem dX7_follows_225 : decode cX7_follows 225 = .ok (.getfield 110, 3) := by decide +kernel
theorem dX7_follows_228 : decode cX7_follows 228 = .ok (.iload_n 1, 1) := by decide +kernel
theorem dX7_follows_229 : decode cX7_follows 229 = .ok (.iconst 0, 1) := by decide +kernel
theorem dX7_follows_230 : decode cX7_follows 230 = .ok (.bastore, 1) := by decide +kernel
theorem dX7_follows_231 : decode cX7_follows 231 = .ok (.iinc 1 1, 3) := by decide +kernel
theorem dX7_follows_234 : decode cX7_follows 234 = .ok (.goto (-23), 3) := by decide +kernel
theorem dX7_follows_237 : decode cX7_follows 237 = .ok (.aload_n 0, 1) := by decide +kernel
theorem dX7_follows_238 : decode cX7_follows 238 = .ok (.aload_n 0, 1) := by decide +kernel
theorem dX7_follows_239 : decode cX7_follows 239 = .ok (.getfield 76, 3) := by decide +kernel
theorem dX7_follows_242 : decode cX7_follows 242 = .ok (.iload_n 3, 1) := by decide +kernel
theorem dX7_follows_243 : decode cX7_follows 243 = .ok (.iaload, 1) := by decide +kernel
theorem dX7_follows_244 : decode cX7_follows 244 = .ok (.iconst 1, 1) := by decide +kernel
theorem dX7_follows_245 : decode cX7_follows 245 = .ok (.invokevirtual 276, 3) := by decide +kernel
theorem dX7_follows_248 : decode cX7_follows 248 = .ok (.istore_n 2, 1) := by decide +kernel
theorem dX7_follows_249 : decode cX7_follows 249 = .ok (.iinc 3 1, 3) := by decide +kernel
theorem dX7_follows_252 : decode cX7_follows 252 = .ok (.goto (-238), 3) := by decide +kernel
theorem dX7_follows_255 : decode cX7_follows 255 = .ok (.aload_n 0, 1) := by decide +kernel
theorem dX7_follows_256 : decode cX7_follows 256 = .ok (.getfield 107, 3) := by decide +kernel
theorem dX7_follows_259 : decode cX7_follows 259 = .ok (.aload_n 0, 1) := by decide +kernel
theorem dX7_follows_260 : decode cX7_follows 260 = .ok (.getfield 51, 3) := by decide +kernel
theorem dX7_follows_263 : decode cX7_follows 263 = .ok (.aload_n 0, 1) := by decide +kernel
theorem dX7_follows_264 : decode cX7_follows 264 = .ok (.getfield 279, 3) := by decide +kernel
theorem dX7_follows_267 : decode cX7_follows 267 = .ok (.iaload, 1) := by decide +kernel
theorem dX7_follows_268 : decode cX7_follows 268 = .ok (.iload_n 2, 1) := by decide +kernel
theorem dX7_follows_269 : decode cX7_follows 269 = .ok (.iastore, 1) := by decide +kernel
theorem dX7_follows_270 : decode cX7_follows 270 = .ok (.iconst (-1), 1) := by decide +kernel
theorem dX7_follows_271 : decode cX7_follows 271 = .ok (.ireturn, 1) := by decide +kernel
theorem dX7_sleepless_0 : decode cX7_sleepless 0 = .ok (.iconst 0, 1) := by decide +kernel
theorem dX7_sleepless_1 : decode cX7_sleepless 1 = .ok (.istore_n 1, 1) := by decide +kernel
theorem dX7_sleepless_2 : decode cX7_sleepless 2 = .ok (.bipush 24, 2) := by decide +kernel
theorem dX7_sleepless_4 : decode cX7_sleepless 4 = .ok (.iload_n 1, 1) := by decide +kernel
theorem dX7_sleepless_5 : decode cX7_sleepless 5 = .ok (.imul, 1) := by decide +kernel
theorem dX7_sleepless_6 : decode cX7_sleepless 6 = .ok (.bipush 8, 2) := by decide +kernel
theorem dX7_sleepless_8 : decode cX7_sleepless 8 = .ok (.iadd, 1) := by decide +kernel
theorem dX7_sleepless_9 : decode cX7_sleepless 9 = .ok (.aload_n 0, 1) := by decide +kernel
theorem dX7_sleepless_10 : decode cX7_sleepless 10 = .ok (.getfield 51, 3) := by decide +kernel
theorem dX7_sleepless_13 : decode cX7_sleepless 13 = .ok (.aload_n 0, 1) := by decide +kernel
theorem dX7_sleepless_14 : decode cX7_sleepless 14 = .ok (.getfield 279, 3) := by decide +kernel
theorem dX7_sleepless_17 : decode cX7_sleepless 17 = .ok (.iaload, 1) := by decide +kernel
theorem dX7_sleepless_18 : decode cX7_sleepless 18 = .ok (.if_icmp .gt 65, 3) := by decide +kernel
theorem dX7_sleepless_21 : decode cX7_sleepless 21 = .ok (.iconst 0, 1) := by decide +kernel
theorem dX7_sleepless_22 : decode cX7_sleepless 22 = .ok (.istore_n 2, 1) := by decide +kernel
theorem dX7_sleepless_23 : decode cX7_sleepless 23 = .ok (.bipush 24, 2) := by decide +kernel
theorem dX7_sleepless_25 : decode cX7_sleepless 25 = .ok (.iload_n 1, 1) := by decide +kernel
theorem dX7_sleepless_26 : decode cX7_sleepless 26 = .ok (.imul, 1) := by decide +kernel
theorem dX7_sleepless_27 : decode cX7_sleepless 27 = .ok (.istore_n 3, 1) := by decide +kernel
theorem dX7_sleepless_28 : decode cX7_sleepless 28 = .ok (.iload_n 3, 1) := by decide +kernel
theorem dX7_sleepless_29 : decode cX7_sleepless 29 = .ok (.bipush 24, 2) := by decide +kernel
theorem dX7_sleepless_31 : decode cX7_sleepless 31 = .ok (.iload_n 1, 1) := by decide +kernel
theorem dX7_sleepless_32 : decode cX7_sleepless 32 = .ok (.imul, 1) := by decide +kernel
theorem dX7_sleepless_33 : decode cX7_sleepless 33 = .ok (.bipush 8, 2) := by decide +kernel
theorem dX7_sleepless_35 : decode cX7_sleepless 35 = .ok (.iadd, 1) := by decide +kernel
theorem dX7_sleepless_36 : decode cX7_sleepless 36 = .ok (.if_icmp .ge 26, 3) := by decide +kernel
theorem dX7_sleepless_39 : decode cX7_sleepless 39 = .ok (.iload_n 2, 1) := by decide +kernel
theorem dX7_sleepless_40 : decode cX7_sleepless 40 = .ok (.aload_n 0, 1) := by decide +kernel
theorem dX7_sleepless_41 : decode cX7_sleepless 41 = .ok (.getfield 110, 3) := by decide +kernel
theorem dX7_sleepless_44 : decode cX7_sleepless 44 = .ok (.iload_n 3, 1) := by decide +kernel
theorem dX7_sleepless_45 : decode cX7_sleepless 45 = .ok (.baload, 1) := by decide +kernel
theorem dX7_sleepless_46 : decode cX7_sleepless 46 = .ok (.ifCond .eq 7, 3) := by decide +kernel
theorem dX7_sleepless_49 : decode cX7_sleepless 49 = .ok (.iconst 1, 1) := by decide +kernel
theorem dX7_sleepless_50 : decode cX7_sleepless 50 = .ok (.goto 4, 3) := by decide +kernel
theorem dX7_sleepless_53 : decode cX7_sleepless 53 = .ok (.iconst 0, 1) := by decide +kernel
theorem dX7_sleepless_54 : decode cX7_sleepless 54 = .ok (.iadd, 1) := by decide +kernel
theorem dX7_sleepless_55 : decode cX7_sleepless 55 = .ok (.istore_n 2, 1) := by decide +kernel
theorem dX7_sleepless_56 : decode cX7_sleepless 56 = .ok (.iinc 3 1, 3) := by decide +kernel
theorem dX7_sleepless_59 : decode cX7_sleepless 59 = .ok (.goto (-31), 3) := by decide +kernel
theorem dX7_sleepless_62 : decode cX7_sleepless 62 = .ok (.iload_n 2, 1) := by decide +kernel
theorem dX7_sleepless_63 : decode cX7_sleepless 63 = .ok (.aload_n 0, 1) := by decide +kernel
theorem dX7_sleepless_64 : decode cX7_sleepless 64 = .ok (.getfield 48, 3) := by decide +kernel
theorem dX7_sleepless_67 : decode cX7_sleepless 67 = .ok (.aload_n 0, 1) := by decide +kernel
theorem dX7_sleepless_68 : decode cX7_sleepless 68 = .ok (.getfield 279, 3) := by decide +kernel
theorem dX7_sleepless_71 : decode cX7_sleepless 71 = .ok (.iaload, 1) := by decide +kernel
theorem dX7_sleepless_72 : decode cX7_sleepless 72 = .ok (.if_icmp .ge 5, 3) := by decide +kernel
theorem dX7_sleepless_75 : decode cX7_sleepless 75 = .ok (.iload_n 1, 1) := by decide +kernel
theorem dX7_sleepless_76 : decode cX7_sleepless 76 = .ok (.ireturn, 1) := by decide +kernel
theorem dX7_sleepless_77 : decode cX7_sleepless 77 = .ok (.iinc 1 1, 3) := by decide +kernel
theorem dX7_sleepless_80 : decode cX7_sleepless 80 = .ok (.goto (-78), 3) := by decide +kernel
theorem dX7_sleepless_83 : decode cX7_sleepless 83 = .ok (.iconst (-1), 1) := by decide +kernel
theorem dX7_sleepless_84 : decode cX7_sleepless 84 = .ok (.ireturn, 1) := by decide +kernel
theorem dX7_wrongStamp_0 : decode cX7_wrongStamp 0 = .ok (.iconst 0, 1) := by decide +kernel
theorem dX7_wrongStamp_1 : decode cX7_wrongStamp 1 = .ok (.istore_n 1, 1) := by decide +kernel
theorem dX7_wrongStamp_2 : decode cX7_wrongStamp 2 = .ok (.iconst 0, 1) := by decide +kernel
theorem dX7_wrongStamp_3 : decode cX7_wrongStamp 3 = .ok (.istore_n 2, 1) := by decide +kernel
theorem dX7_wrongStamp_4 : decode cX7_wrongStamp 4 = .ok (.iload_n 2, 1) := by decide +kernel
theorem dX7_wrongStamp_5 : decode cX7_wrongStamp 5 = .ok (.aload_n 0, 1) := by decide +kernel
theorem dX7_wrongStamp_6 : decode cX7_wrongStamp 6 = .ok (.getfield 253, 3) := by decide +kernel
theorem dX7_wrongStamp_9 : decode cX7_wrongStamp 9 = .ok (.if_icmp .ge 138, 3) := by decide +kernel
theorem dX7_wrongStamp_12 : decode cX7_wrongStamp 12 = .ok (.aload_n 0, 1) := by decide +kernel
theorem dX7_wrongStamp_13 : decode cX7_wrongStamp 13 = .ok (.aload_n 0, 1) := by decide +kernel
theorem dX7_wrongStamp_14 : decode cX7_wrongStamp 14 = .ok (.getfield 76, 3) := by decide +kernel
theorem dX7_wrongStamp_17 : decode cX7_wrongStamp 17 = .ok (.iload_n 2, 1) := by decide +kernel
theorem dX7_wrongStamp_18 : decode cX7_wrongStamp 18 = .ok (.iaload, 1) := by decide +kernel
theorem dX7_wrongStamp_19 : decode cX7_wrongStamp 19 = .ok (.iconst 0, 1) := by decide +kernel
theorem dX7_wrongStamp_20 : decode cX7_wrongStamp 20 = .ok (.invokevirtual 276, 3) := by decide +kernel
theorem dX7_wrongStamp_23 : decode cX7_wrongStamp 23 = .ok (.istore_n 3, 1) := by decide +kernel
theorem dX7_wrongStamp_24 : decode cX7_wrongStamp 24 = .ok (.aload_n 0, 1) := by decide +kernel
theorem dX7_wrongStamp_25 : decode cX7_wrongStamp 25 = .ok (.aload_n 0, 1) := by decide +kernel
theorem dX7_wrongStamp_26 : decode cX7_wrongStamp 26 = .ok (.getfield 76, 3) := by decide +kernel
theorem dX7_wrongStamp_29 : decode cX7_wrongStamp 29 = .ok (.iload_n 2, 1) := by decide +kernel
theorem dX7_wrongStamp_30 : decode cX7_wrongStamp 30 = .ok (.iaload, 1) := by decide +kernel
theorem dX7_wrongStamp_31 : decode cX7_wrongStamp 31 = .ok (.iconst 1, 1) := by decide +kernel
theorem dX7_wrongStamp_32 : decode cX7_wrongStamp 32 = .ok (.invokevirtual 276, 3) := by decide +kernel
theorem dX7_wrongStamp_35 : decode cX7_wrongStamp 35 = .ok (.istore 4, 2) := by decide +kernel
theorem dX7_wrongStamp_37 : decode cX7_wrongStamp 37 = .ok (.iconst 0, 1) := by decide +kernel
theorem dX7_wrongStamp_38 : decode cX7_wrongStamp 38 = .ok (.istore 5, 2) := by decide +kernel
theorem dX7_wrongStamp_40 : decode cX7_wrongStamp 40 = .ok (.iload 5, 2) := by decide +kernel
theorem dX7_wrongStamp_42 : decode cX7_wrongStamp 42 = .ok (.iconst 2, 1) := by decide +kernel
theorem dX7_wrongStamp_43 : decode cX7_wrongStamp 43 = .ok (.if_icmp .ge 98, 3) := by decide +kernel
theorem dX7_wrongStamp_46 : decode cX7_wrongStamp 46 = .ok (.aload_n 0, 1) := by decide +kernel
theorem dX7_wrongStamp_47 : decode cX7_wrongStamp 47 = .ok (.getfield 36, 3) := by decide +kernel
theorem dX7_wrongStamp_50 : decode cX7_wrongStamp 50 = .ok (.iload_n 3, 1) := by decide +kernel
theorem dX7_wrongStamp_51 : decode cX7_wrongStamp 51 = .ok (.iaload, 1) := by decide +kernel
theorem dX7_wrongStamp_52 : decode cX7_wrongStamp 52 = .ok (.aload_n 0, 1) := by decide +kernel
theorem dX7_wrongStamp_53 : decode cX7_wrongStamp 53 = .ok (.getfield 36, 3) := by decide +kernel
theorem dX7_wrongStamp_56 : decode cX7_wrongStamp 56 = .ok (.iload 4, 2) := by decide +kernel
theorem dX7_wrongStamp_58 : decode cX7_wrongStamp 58 = .ok (.iaload, 1) := by decide +kernel
theorem dX7_wrongStamp_59 : decode cX7_wrongStamp 59 = .ok (.if_icmp .eq 82, 3) := by decide +kernel
theorem dX7_wrongStamp_62 : decode cX7_wrongStamp 62 = .ok (.iload 5, 2) := by decide +kernel
theorem dX7_wrongStamp_64 : decode cX7_wrongStamp 64 = .ok (.ifCond .ne 25, 3) := by decide +kernel
theorem dX7_wrongStamp_67 : decode cX7_wrongStamp 67 = .ok (.aload_n 0, 1) := by decide +kernel
theorem dX7_wrongStamp_68 : decode cX7_wrongStamp 68 = .ok (.iload_n 1, 1) := by decide +kernel
theorem dX7_wrongStamp_69 : decode cX7_wrongStamp 69 = .ok (.aload_n 0, 1) := by decide +kernel
theorem dX7_wrongStamp_70 : decode cX7_wrongStamp 70 = .ok (.getfield 36, 3) := by decide +kernel
theorem dX7_wrongStamp_73 : decode cX7_wrongStamp 73 = .ok (.iload_n 3, 1) := by decide +kernel
theorem dX7_wrongStamp_74 : decode cX7_wrongStamp 74 = .ok (.iaload, 1) := by decide +kernel
theorem dX7_wrongStamp_75 : decode cX7_wrongStamp 75 = .ok (.iconst 1, 1) := by decide +kernel
theorem dX7_wrongStamp_76 : decode cX7_wrongStamp 76 = .ok (.aload_n 0, 1) := by decide +kernel
theorem dX7_wrongStamp_77 : decode cX7_wrongStamp 77 = .ok (.getfield 79, 3) := by decide +kernel
theorem dX7_wrongStamp_80 : decode cX7_wrongStamp 80 = .ok (.iload_n 2, 1) := by decide +kernel
theorem dX7_wrongStamp_81 : decode cX7_wrongStamp 81 = .ok (.iaload, 1) := by decide +kernel
theorem dX7_wrongStamp_82 : decode cX7_wrongStamp 82 = .ok (.iload_n 3, 1) := by decide +kernel
theorem dX7_wrongStamp_83 : decode cX7_wrongStamp 83 = .ok (.invokevirtual 300, 3) := by decide +kernel
theorem dX7_wrongStamp_86 : decode cX7_wrongStamp 86 = .ok (.goto 36, 3) := by decide +kernel
theorem dX7_wrongStamp_89 : decode cX7_wrongStamp 89 = .ok (.aload_n 0, 1) := by decide +kernel
theorem dX7_wrongStamp_90 : decode cX7_wrongStamp 90 = .ok (.iload_n 1, 1) := by decide +kernel
theorem dX7_wrongStamp_91 : decode cX7_wrongStamp 91 = .ok (.aload_n 0, 1) := by decide +kernel
theorem dX7_wrongStamp_92 : decode cX7_wrongStamp 92 = .ok (.getfield 36, 3) := by decide +kernel
theorem dX7_wrongStamp_95 : decode cX7_wrongStamp 95 = .ok (.iload 4, 2) := by decide +kernel
theorem dX7_wrongStamp_97 : decode cX7_wrongStamp 97 = .ok (.iaload, 1) := by decide +kernel
theorem dX7_wrongStamp_98 : decode cX7_wrongStamp 98 = .ok (.iconst 0, 1) := by decide +kernel
theorem dX7_wrongStamp_99 : decode cX7_wrongStamp 99 = .ok (.aload_n 0, 1) := by decide +kernel
theorem dX7_wrongStamp_100 : decode cX7_wrongStamp 100 = .ok (.getfield 79, 3) := by decide +kernel
theorem dX7_wrongStamp_103 : decode cX7_wrongStamp 103 = .ok (.iload_n 2, 1) := by decide +kernel
theorem dX7_wrongStamp_104 : decode cX7_wrongStamp 104 = .ok (.iaload, 1) := by decide +kernel
theorem dX7_wrongStamp_105 : decode cX7_wrongStamp 105 = .ok (.aload_n 0, 1) := by decide +kernel
theorem dX7_wrongStamp_106 : decode cX7_wrongStamp 106 = .ok (.aload_n 0, 1) := by decide +kernel
theorem dX7_wrongStamp_107 : decode cX7_wrongStamp 107 = .ok (.getfield 76, 3) := by decide +kernel
theorem dX7_wrongStamp_110 : decode cX7_wrongStamp 110 = .ok (.iload_n 2, 1) := by decide +kernel
theorem dX7_wrongStamp_111 : decode cX7_wrongStamp 111 = .ok (.iaload, 1) := by decide +kernel
theorem dX7_wrongStamp_112 : decode cX7_wrongStamp 112 = .ok (.iconst 3, 1) := by decide +kernel
theorem dX7_wrongStamp_113 : decode cX7_wrongStamp 113 = .ok (.invokevirtual 276, 3) := by decide +kernel
theorem dX7_wrongStamp_116 : decode cX7_wrongStamp 116 = .ok (.iadd, 1) := by decide +kernel
theorem dX7_wrongStamp_117 : decode cX7_wrongStamp 117 = .ok (.iload 4, 2) := by decide +kernel
theorem dX7_wrongStamp_119 : decode cX7_wrongStamp 119 = .ok (.invokevirtual 300, 3) := by decide +kernel
theorem dX7_wrongStamp_122 : decode cX7_wrongStamp 122 = .ok (.istore 6, 2) := by decide +kernel
theorem dX7_wrongStamp_124 : decode cX7_wrongStamp 124 = .ok (.iload 6, 2) := by decide +kernel
theorem dX7_wrongStamp_126 : decode cX7_wrongStamp 126 = .ok (.iconst (-1), 1) := by decide +kernel
theorem dX7_wrongStamp_127 : decode cX7_wrongStamp 127 = .ok (.if_icmp .ne 5, 3) := by decide +kernel
theorem dX7_wrongStamp_130 : decode cX7_wrongStamp 130 = .ok (.iload_n 1, 1) := by decide +kernel
theorem dX7_wrongStamp_131 : decode cX7_wrongStamp 131 = .ok (.ireturn, 1) := by decide +kernel
theorem dX7_wrongStamp_132 : decode cX7_wrongStamp 132 = .ok (.iload 6, 2) := by decide +kernel
theorem dX7_wrongStamp_134 : decode cX7_wrongStamp 134 = .ok (.istore_n 1, 1) := by decide +kernel
theorem dX7_wrongStamp_135 : decode cX7_wrongStamp 135 = .ok (.iinc 5 1, 3) := by decide +kernel
theorem dX7_wrongStamp_138 : decode cX7_wrongStamp 138 = .ok (.goto (-98), 3) := by decide +kernel
theorem dX7_wrongStamp_141 : decode cX7_wrongStamp 141 = .ok (.iinc 2 1, 3) := by decide +kernel
theorem dX7_wrongStamp_144 : decode cX7_wrongStamp 144 = .ok (.goto (-140), 3) := by decide +kernel
theorem dX7_wrongStamp_147 : decode cX7_wrongStamp 147 = .ok (.iload_n 1, 1) := by decide +kernel
theorem dX7_wrongStamp_148 : decode cX7_wrongStamp 148 = .ok (.aload_n 0, 1) := by decide +kernel
theorem dX7_wrongStamp_149 : decode cX7_wrongStamp 149 = .ok (.getfield 282, 3) := by decide +kernel
theorem dX7_wrongStamp_152 : decode cX7_wrongStamp 152 = .ok (.if_icmp .ne 7, 3) := by decide +kernel
theorem dX7_wrongStamp_155 : decode cX7_wrongStamp 155 = .ok (.iconst (-1), 1) := by decide +kernel
theorem dX7_wrongStamp_156 : decode cX7_wrongStamp 156 = .ok (.goto 4, 3) := by decide +kernel
theorem dX7_wrongStamp_159 : decode cX7_wrongStamp 159 = .ok (.iload_n 1, 1) := by decide +kernel
theorem dX7_wrongStamp_160 : decode cX7_wrongStamp 160 = .ok (.ireturn, 1) := by decide +kernel
theorem dX7_barred_0 : decode cX7_barred 0 = .ok (.aload_n 0, 1) := by decide +kernel
theorem dX7_barred_1 : decode cX7_barred 1 = .ok (.iload_n 1, 1) := by decide +kernel
theorem dX7_barred_2 : decode cX7_barred 2 = .ok (.invokevirtual 256, 3) := by decide +kernel
theorem dX7_barred_5 : decode cX7_barred 5 = .ok (.ifCond .ne 5, 3) := by decide +kernel
theorem dX7_barred_8 : decode cX7_barred 8 = .ok (.iconst (-1), 1) := by decide +kernel
theorem dX7_barred_9 : decode cX7_barred 9 = .ok (.ireturn, 1) := by decide +kernel
theorem dX7_barred_10 : decode cX7_barred 10 = .ok (.aload_n 0, 1) := by decide +kernel
theorem dX7_barred_11 : decode cX7_barred 11 = .ok (.iload_n 1, 1) := by decide +kernel
theorem dX7_barred_12 : decode cX7_barred 12 = .ok (.iconst 0, 1) := by decide +kernel
theorem dX7_barred_13 : decode cX7_barred 13 = .ok (.invokevirtual 321, 3) := by decide +kernel
theorem dX7_barred_16 : decode cX7_barred 16 = .ok (.aload_n 0, 1) := by decide +kernel
theorem dX7_barred_17 : decode cX7_barred 17 = .ok (.invokevirtual 347, 3) := by decide +kernel
theorem dX7_barred_20 : decode cX7_barred 20 = .ok (.istore_n 2, 1) := by decide +kernel
theorem dX7_barred_21 : decode cX7_barred 21 = .ok (.iload_n 2, 1) := by decide +kernel
theorem dX7_barred_22 : decode cX7_barred 22 = .ok (.iconst (-1), 1) := by decide +kernel
theorem dX7_barred_23 : decode cX7_barred 23 = .ok (.if_icmp .eq 8, 3) := by decide +kernel
theorem dX7_barred_26 : decode cX7_barred 26 = .ok (.bipush 100, 2) := by decide +kernel
theorem dX7_barred_28 : decode cX7_barred 28 = .ok (.iload_n 2, 1) := by decide +kernel
theorem dX7_barred_29 : decode cX7_barred 29 = .ok (.iadd, 1) := by decide +kernel
theorem dX7_barred_30 : decode cX7_barred 30 = .ok (.ireturn, 1) := by decide +kernel
theorem dX7_barred_31 : decode cX7_barred 31 = .ok (.aload_n 0, 1) := by decide +kernel
theorem dX7_barred_32 : decode cX7_barred 32 = .ok (.invokevirtual 350, 3) := by decide +kernel
theorem dX7_barred_35 : decode cX7_barred 35 = .ok (.istore_n 2, 1) := by decide +kernel
theorem dX7_barred_36 : decode cX7_barred 36 = .ok (.iload_n 2, 1) := by decide +kernel
theorem dX7_barred_37 : decode cX7_barred 37 = .ok (.iconst (-1), 1) := by decide +kernel
theorem dX7_barred_38 : decode cX7_barred 38 = .ok (.if_icmp .eq 9, 3) := by decide +kernel
theorem dX7_barred_41 : decode cX7_barred 41 = .ok (.sipush 200, 3) := by decide +kernel
theorem dX7_barred_44 : decode cX7_barred 44 = .ok (.iload_n 2, 1) := by decide +kernel
theorem dX7_barred_45 : decode cX7_barred 45 = .ok (.iadd, 1) := by decide +kernel
theorem dX7_barred_46 : decode cX7_barred 46 = .ok (.ireturn, 1) := by decide +kernel
theorem dX7_barred_47 : decode cX7_barred 47 = .ok (.aload_n 0, 1) := by decide +kernel
theorem dX7_barred_48 : decode cX7_barred 48 = .ok (.invokevirtual 353, 3) := by decide +kernel
theorem dX7_barred_51 : decode cX7_barred 51 = .ok (.istore_n 2, 1) := by decide +kernel
theorem dX7_barred_52 : decode cX7_barred 52 = .ok (.iload_n 2, 1) := by decide +kernel
theorem dX7_barred_53 : decode cX7_barred 53 = .ok (.iconst (-1), 1) := by decide +kernel
theorem dX7_barred_54 : decode cX7_barred 54 = .ok (.if_icmp .eq 9, 3) := by decide +kernel
theorem dX7_barred_57 : decode cX7_barred 57 = .ok (.sipush 300, 3) := by decide +kernel
theorem dX7_barred_60 : decode cX7_barred 60 = .ok (.iload_n 2, 1) := by decide +kernel
theorem dX7_barred_61 : decode cX7_barred 61 = .ok (.iadd, 1) := by decide +kernel
theorem dX7_barred_62 : decode cX7_barred 62 = .ok (.ireturn, 1) := by decide +kernel
theorem dX7_barred_63 : decode cX7_barred 63 = .ok (.iconst 1, 1) := by decide +kernel
theorem dX7_barred_64 : decode cX7_barred 64 = .ok (.istore_n 3, 1) := by decide +kernel
theorem dX7_barred_65 : decode cX7_barred 65 = .ok (.iload_n 3, 1) := by decide +kernel
theorem dX7_barred_66 : decode cX7_barred 66 = .ok (.iconst 2, 1) := by decide +kernel
theorem dX7_barred_67 : decode cX7_barred 67 = .ok (.if_icmp .gt 170, 3) := by decide +kernel
theorem dX7_barred_70 : decode cX7_barred 70 = .ok (.iconst 0, 1) := by decide +kernel
theorem dX7_barred_71 : decode cX7_barred 71 = .ok (.istore 4, 2) := by decide +kernel
theorem dX7_barred_73 : decode cX7_barred 73 = .ok (.iload 4, 2) := by decide +kernel
theorem dX7_barred_75 : decode cX7_barred 75 = .ok (.aload_n 0, 1) := by decide +kernel
theorem dX7_barred_76 : decode cX7_barred 76 = .ok (.getfield 54, 3) := by decide +kernel
theorem dX7_barred_79 : decode cX7_barred 79 = .ok (.iload_n 1, 1) := by decide +kernel
theorem dX7_barred_80 : decode cX7_barred 80 = .ok (.iaload, 1) := by decide +kernel
theorem dX7_barred_81 : decode cX7_barred 81 = .ok (.if_icmp .ge 150, 3) := by decide +kernel
theorem dX7_barred_84 : decode cX7_barred 84 = .ok (.bipush 8, 2) := by decide +kernel
theorem dX7_barred_86 : decode cX7_barred 86 = .ok (.iload_n 1, 1) := by decide +kernel
theorem dX7_barred_87 : decode cX7_barred 87 = .ok (.imul, 1) := by decide +kernel
theorem dX7_barred_88 : decode cX7_barred 88 = .ok (.iload 4, 2) := by decide +kernel
theorem dX7_barred_90 : decode cX7_barred 90 = .ok (.iadd, 1) := by decide +kernel
theorem dX7_barred_91 : decode cX7_barred 91 = .ok (.istore 5, 2) := by decide +kernel
theorem dX7_barred_93 : decode cX7_barred 93 = .ok (.aload_n 0, 1) := by decide +kernel
theorem dX7_barred_94 : decode cX7_barred 94 = .ok (.getfield 72, 3) := by decide +kernel
theorem dX7_barred_97 : decode cX7_barred 97 = .ok (.iload 5, 2) := by decide +kernel
theorem dX7_barred_99 : decode cX7_barred 99 = .ok (.baload, 1) := by decide +kernel
theorem dX7_barred_100 : decode cX7_barred 100 = .ok (.ifCond .ne 125, 3) := by decide +kernel
theorem dX7_barred_103 : decode cX7_barred 103 = .ok (.aload_n 0, 1) := by decide +kernel
theorem dX7_barred_104 : decode cX7_barred 104 = .ok (.getfield 57, 3) := by decide +kernel
theorem dX7_barred_107 : decode cX7_barred 107 = .ok (.iload 5, 2) := by decide +kernel
theorem dX7_barred_109 : decode cX7_barred 109 = .ok (.iaload, 1) := by decide +kernel
theorem dX7_barred_110 : decode cX7_barred 110 = .ok (.iload_n 3, 1) := by decide +kernel
theorem dX7_barred_111 : decode cX7_barred 111 = .ok (.if_icmp .ne 114, 3) := by decide +kernel
theorem dX7_barred_114 : decode cX7_barred 114 = .ok (.iload_n 3, 1) := by decide +kernel
theorem dX7_barred_115 : decode cX7_barred 115 = .ok (.iconst 1, 1) := by decide +kernel
theorem dX7_barred_116 : decode cX7_barred 116 = .ok (.if_icmp .ne 22, 3) := by decide +kernel
theorem dX7_barred_119 : decode cX7_barred 119 = .ok (.aload_n 0, 1) := by decide +kernel
theorem dX7_barred_120 : decode cX7_barred 120 = .ok (.getfield 63, 3) := by decide +kernel
theorem dX7_barred_123 : decode cX7_barred 123 = .ok (.iload 5, 2) := by decide +kernel
theorem dX7_barred_125 : decode cX7_barred 125 = .ok (.iaload, 1) := by decide +kernel
theorem dX7_barred_126 : decode cX7_barred 126 = .ok (.aload_n 0, 1) := by decide +kernel
theorem dX7_barred_127 : decode cX7_barred 127 = .ok (.getfield 51, 3) := by decide +kernel
theorem dX7_barred_130 : decode cX7_barred 130 = .ok (.iload_n 1, 1) := by decide +kernel
theorem dX7_barred_131 : decode cX7_barred 131 = .ok (.iaload, 1) := by decide +kernel
theorem dX7_barred_132 : decode cX7_barred 132 = .ok (.if_icmp .le 6, 3) := by decide +kernel
theorem dX7_barred_135 : decode cX7_barred 135 = .ok (.goto 90, 3) := by decide +kernel
theorem dX7_barred_138 : decode cX7_barred 138 = .ok (.iconst 0, 1) := by decide +kernel
theorem dX7_barred_139 : decode cX7_barred 139 = .ok (.istore 6, 2) := by decide +kernel
theorem dX7_barred_141 : decode cX7_barred 141 = .ok (.aload_n 0, 1) := by decide +kernel
theorem dX7_barred_142 : decode cX7_barred 142 = .ok (.getfield 63, 3) := by decide +kernel
theorem dX7_barred_145 : decode cX7_barred 145 = .ok (.iload 5, 2) := by decide +kernel
theorem dX7_barred_147 : decode cX7_barred 147 = .ok (.iaload, 1) := by decide +kernel
theorem dX7_barred_148 : decode cX7_barred 148 = .ok (.istore 7, 2) := by decide +kernel
theorem dX7_barred_150 : decode cX7_barred 150 = .ok (.iload 7, 2) := by decide +kernel
theorem dX7_barred_152 : decode cX7_barred 152 = .ok (.aload_n 0, 1) := by decide +kernel
theorem dX7_barred_153 : decode cX7_barred 153 = .ok (.getfield 66, 3) := by decide +kernel
theorem dX7_barred_156 : decode cX7_barred 156 = .ok (.iload 5, 2) := by decide +kernel
theorem dX7_barred_158 : decode cX7_barred 158 = .ok (.iaload, 1) := by decide +kernel
theorem dX7_barred_159 : decode cX7_barred 159 = .ok (.if_icmp .gt 49, 3) := by decide +kernel
theorem dX7_barred_162 : decode cX7_barred 162 = .ok (.iload 7, 2) := by decide +kernel
theorem dX7_barred_164 : decode cX7_barred 164 = .ok (.aload_n 0, 1) := by decide +kernel
theorem dX7_barred_165 : decode cX7_barred 165 = .ok (.getfield 51, 3) := by decide +kernel
theorem dX7_barred_168 : decode cX7_barred 168 = .ok (.iload_n 1, 1) := by decide +kernel
theorem dX7_barred_169 : decode cX7_barred 169 = .ok (.iaload, 1) := by decide +kernel
theorem dX7_barred_170 : decode cX7_barred 170 = .ok (.if_icmp .gt 38, 3) := by decide +kernel
theorem dX7_barred_173 : decode cX7_barred 173 = .ok (.iload 6, 2) := by decide +kernel
theorem dX7_barred_175 : decode cX7_barred 175 = .ok (.ifCond .ne 20, 3) := by decide +kernel
theorem dX7_barred_178 : decode cX7_barred 178 = .ok (.aload_n 0, 1) := by decide +kernel
theorem dX7_barred_179 : decode cX7_barred 179 = .ok (.getfield 107, 3) := by decide +kernel
theorem dX7_barred_182 : decode cX7_barred 182 = .ok (.iload 7, 2) := by decide +kernel
theorem dX7_barred_184 : decode cX7_barred 184 = .ok (.iaload, 1) := by decide +kernel
theorem dX7_barred_185 : decode cX7_barred 185 = .ok (.aload_n 0, 1) := by decide +kernel
theorem dX7_barred_186 : decode cX7_barred 186 = .ok (.getfield 60, 3) := by decide +kernel
theorem dX7_barred_189 : decode cX7_barred 189 = .ok (.iload 5, 2) := by decide +kernel
theorem dX7_barred_191 : decode cX7_barred 191 = .ok (.iaload, 1) := by decide +kernel
theorem dX7_barred_192 : decode cX7_barred 192 = .ok (.if_icmp .ne 7, 3) := by decide +kernel
theorem dX7_barred_195 : decode cX7_barred 195 = .ok (.iconst 1, 1) := by decide +kernel
theorem dX7_barred_196 : decode cX7_barred 196 = .ok (.goto 4, 3) := by decide +kernel
theorem dX7_barred_199 : decode cX7_barred 199 = .ok (.iconst 0, 1) := by decide +kernel
theorem dX7_barred_200 : decode cX7_barred 200 = .ok (.istore 6, 2) := by decide +kernel
theorem dX7_barred_202 : decode cX7_barred 202 = .ok (.iinc 7 1, 3) := by decide +kernel
theorem dX7_barred_205 : decode cX7_barred 205 = .ok (.goto (-55), 3) := by decide +kernel
theorem dX7_barred_208 : decode cX7_barred 208 = .ok (.iload 6, 2) := by decide +kernel
theorem dX7_barred_210 : decode cX7_barred 210 = .ok (.ifCond .ne 15, 3) := by decide +kernel
theorem dX7_barred_213 : decode cX7_barred 213 = .ok (.sipush 300, 3) := by decide +kernel
theorem dX7_barred_216 : decode cX7_barred 216 = .ok (.bipush 100, 2) := by decide +kernel
theorem dX7_barred_218 : decode cX7_barred 218 = .ok (.iload_n 3, 1) := by decide +kernel
theorem dX7_barred_219 : decode cX7_barred 219 = .ok (.imul, 1) := by decide +kernel
theorem dX7_barred_220 : decode cX7_barred 220 = .ok (.iadd, 1) := by decide +kernel
theorem dX7_barred_221 : decode cX7_barred 221 = .ok (.iload 4, 2) := by decide +kernel
theorem dX7_barred_223 : decode cX7_barred 223 = .ok (.iadd, 1) := by decide +kernel
theorem dX7_barred_224 : decode cX7_barred 224 = .ok (.ireturn, 1) := by decide +kernel
theorem dX7_barred_225 : decode cX7_barred 225 = .ok (.iinc 4 1, 3) := by decide +kernel
theorem dX7_barred_228 : decode cX7_barred 228 = .ok (.goto (-155), 3) := by decide +kernel
theorem dX7_barred_231 : decode cX7_barred 231 = .ok (.iinc 3 1, 3) := by decide +kernel
theorem dX7_barred_234 : decode cX7_barred 234 = .ok (.goto (-169), 3) := by decide +kernel
theorem dX7_barred_237 : decode cX7_barred 237 = .ok (.iconst 0, 1) := by decide +kernel
theorem dX7_barred_238 : decode cX7_barred 238 = .ok (.ireturn, 1) := by decide +kernel
theorem dX7_count_0 : decode cX7_count 0 = .ok (.iload_n 1, 1) := by decide +kernel
theorem dX7_count_1 : decode cX7_count 1 = .ok (.tableswitch 82 0 6 #[43, 48, 53, 58, 65, 72, 77], 43) := by decide +kernel
theorem dX7_count_44 : decode cX7_count 44 = .ok (.aload_n 0, 1) := by decide +kernel
theorem dX7_count_45 : decode cX7_count 45 = .ok (.getfield 244, 3) := by decide +kernel
theorem dX7_count_48 : decode cX7_count 48 = .ok (.ireturn, 1) := by decide +kernel
theorem dX7_count_49 : decode cX7_count 49 = .ok (.aload_n 0, 1) := by decide +kernel
theorem dX7_count_50 : decode cX7_count 50 = .ok (.getfield 247, 3) := by decide +kernel
theorem dX7_count_53 : decode cX7_count 53 = .ok (.ireturn, 1) := by decide +kernel
theorem dX7_count_54 : decode cX7_count 54 = .ok (.aload_n 0, 1) := by decide +kernel
theorem dX7_count_55 : decode cX7_count 55 = .ok (.getfield 250, 3) := by decide +kernel
theorem dX7_count_58 : decode cX7_count 58 = .ok (.ireturn, 1) := by decide +kernel
theorem dX7_count_59 : decode cX7_count 59 = .ok (.aload_n 0, 1) := by decide +kernel
theorem dX7_count_60 : decode cX7_count 60 = .ok (.getfield 54, 3) := by decide +kernel
theorem dX7_count_63 : decode cX7_count 63 = .ok (.iconst 0, 1) := by decide +kernel
theorem dX7_count_64 : decode cX7_count 64 = .ok (.iaload, 1) := by decide +kernel
theorem dX7_count_65 : decode cX7_count 65 = .ok (.ireturn, 1) := by decide +kernel
theorem dX7_count_66 : decode cX7_count 66 = .ok (.aload_n 0, 1) := by decide +kernel
theorem dX7_count_67 : decode cX7_count 67 = .ok (.getfield 54, 3) := by decide +kernel
theorem dX7_count_70 : decode cX7_count 70 = .ok (.iconst 1, 1) := by decide +kernel
theorem dX7_count_71 : decode cX7_count 71 = .ok (.iaload, 1) := by decide +kernel
theorem dX7_count_72 : decode cX7_count 72 = .ok (.ireturn, 1) := by decide +kernel
theorem dX7_count_73 : decode cX7_count 73 = .ok (.aload_n 0, 1) := by decide +kernel
theorem dX7_count_74 : decode cX7_count 74 = .ok (.getfield 253, 3) := by decide +kernel
theorem dX7_count_77 : decode cX7_count 77 = .ok (.ireturn, 1) := by decide +kernel
theorem dX7_count_78 : decode cX7_count 78 = .ok (.aload_n 0, 1) := by decide +kernel
theorem dX7_count_79 : decode cX7_count 79 = .ok (.getfield 113, 3) := by decide +kernel
theorem dX7_count_82 : decode cX7_count 82 = .ok (.ireturn, 1) := by decide +kernel
theorem dX7_count_83 : decode cX7_count 83 = .ok (.iconst (-1), 1) := by decide +kernel
theorem dX7_count_84 : decode cX7_count 84 = .ok (.ireturn, 1) := by decide +kernel
theorem dJ6_numberOfTrailingZeros_0f7a4_0 : decode cJ6_numberOfTrailingZeros_0f7a4 0 = .ok (.iload_n 0, 1) := by decide +kernel
theorem dJ6_numberOfTrailingZeros_0f7a4_1 : decode cJ6_numberOfTrailingZeros_0f7a4 1 = .ok (.iconst (-1), 1) := by decide +kernel
theorem dJ6_numberOfTrailingZeros_0f7a4_2 : decode cJ6_numberOfTrailingZeros_0f7a4 2 = .ok (.ixor, 1) := by decide +kernel
theorem dJ6_numberOfTrailingZeros_0f7a4_3 : decode cJ6_numberOfTrailingZeros_0f7a4 3 = .ok (.iload_n 0, 1) := by decide +kernel
theorem dJ6_numberOfTrailingZeros_0f7a4_4 : decode cJ6_numberOfTrailingZeros_0f7a4 4 = .ok (.iconst 1, 1) := by decide +kernel
theorem dJ6_numberOfTrailingZeros_0f7a4_5 : decode cJ6_numberOfTrailingZeros_0f7a4 5 = .ok (.isub, 1) := by decide +kernel
theorem dJ6_numberOfTrailingZeros_0f7a4_6 : decode cJ6_numberOfTrailingZeros_0f7a4 6 = .ok (.iand, 1) := by decide +kernel
theorem dJ6_numberOfTrailingZeros_0f7a4_7 : decode cJ6_numberOfTrailingZeros_0f7a4 7 = .ok (.istore_n 0, 1) := by decide +kernel
theorem dJ6_numberOfTrailingZeros_0f7a4_8 : decode cJ6_numberOfTrailingZeros_0f7a4 8 = .ok (.iload_n 0, 1) := by decide +kernel
theorem dJ6_numberOfTrailingZeros_0f7a4_9 : decode cJ6_numberOfTrailingZeros_0f7a4 9 = .ok (.ifCond .gt 8, 3) := by decide +kernel
theorem dJ6_numberOfTrailingZeros_0f7a4_12 : decode cJ6_numberOfTrailingZeros_0f7a4 12 = .ok (.iload_n 0, 1) := by decide +kernel
theorem dJ6_numberOfTrailingZeros_0f7a4_13 : decode cJ6_numberOfTrailingZeros_0f7a4 13 = .ok (.bipush 32, 2) := by decide +kernel
theorem dJ6_numberOfTrailingZeros_0f7a4_15 : decode cJ6_numberOfTrailingZeros_0f7a4 15 = .ok (.iand, 1) := by decide +kernel
theorem dJ6_numberOfTrailingZeros_0f7a4_16 : decode cJ6_numberOfTrailingZeros_0f7a4 16 = .ok (.ireturn, 1) := by decide +kernel
theorem dJ6_numberOfTrailingZeros_0f7a4_17 : decode cJ6_numberOfTrailingZeros_0f7a4 17 = .ok (.iconst 1, 1) := by decide +kernel
theorem dJ6_numberOfTrailingZeros_0f7a4_18 : decode cJ6_numberOfTrailingZeros_0f7a4 18 = .ok (.istore_n 1, 1) := by decide +kernel
theorem dJ6_numberOfTrailingZeros_0f7a4_19 : decode cJ6_numberOfTrailingZeros_0f7a4 19 = .ok (.iload_n 0, 1) := by decide +kernel
theorem dJ6_numberOfTrailingZeros_0f7a4_20 : decode cJ6_numberOfTrailingZeros_0f7a4 20 = .ok (.ldc_w 264, 3) := by decide +kernel
theorem dJ6_numberOfTrailingZeros_0f7a4_23 : decode cJ6_numberOfTrailingZeros_0f7a4 23 = .ok (.if_icmp .le 11, 3) := by decide +kernel
theorem dJ6_numberOfTrailingZeros_0f7a4_26 : decode cJ6_numberOfTrailingZeros_0f7a4 26 = .ok (.iinc 1 16, 3) := by decide +kernel
theorem dJ6_numberOfTrailingZeros_0f7a4_29 : decode cJ6_numberOfTrailingZeros_0f7a4 29 = .ok (.iload_n 0, 1) := by decide +kernel
theorem dJ6_numberOfTrailingZeros_0f7a4_30 : decode cJ6_numberOfTrailingZeros_0f7a4 30 = .ok (.bipush 16, 2) := by decide +kernel
theorem dJ6_numberOfTrailingZeros_0f7a4_32 : decode cJ6_numberOfTrailingZeros_0f7a4 32 = .ok (.iushr, 1) := by decide +kernel
theorem dJ6_numberOfTrailingZeros_0f7a4_33 : decode cJ6_numberOfTrailingZeros_0f7a4 33 = .ok (.istore_n 0, 1) := by decide +kernel
theorem dJ6_numberOfTrailingZeros_0f7a4_34 : decode cJ6_numberOfTrailingZeros_0f7a4 34 = .ok (.iload_n 0, 1) := by decide +kernel
theorem dJ6_numberOfTrailingZeros_0f7a4_35 : decode cJ6_numberOfTrailingZeros_0f7a4 35 = .ok (.sipush 256, 3) := by decide +kernel
theorem dJ6_numberOfTrailingZeros_0f7a4_38 : decode cJ6_numberOfTrailingZeros_0f7a4 38 = .ok (.if_icmp .le 11, 3) := by decide +kernel
theorem dJ6_numberOfTrailingZeros_0f7a4_41 : decode cJ6_numberOfTrailingZeros_0f7a4 41 = .ok (.iinc 1 8, 3) := by decide +kernel
theorem dJ6_numberOfTrailingZeros_0f7a4_44 : decode cJ6_numberOfTrailingZeros_0f7a4 44 = .ok (.iload_n 0, 1) := by decide +kernel
theorem dJ6_numberOfTrailingZeros_0f7a4_45 : decode cJ6_numberOfTrailingZeros_0f7a4 45 = .ok (.bipush 8, 2) := by decide +kernel
theorem dJ6_numberOfTrailingZeros_0f7a4_47 : decode cJ6_numberOfTrailingZeros_0f7a4 47 = .ok (.iushr, 1) := by decide +kernel
theorem dJ6_numberOfTrailingZeros_0f7a4_48 : decode cJ6_numberOfTrailingZeros_0f7a4 48 = .ok (.istore_n 0, 1) := by decide +kernel
theorem dJ6_numberOfTrailingZeros_0f7a4_49 : decode cJ6_numberOfTrailingZeros_0f7a4 49 = .ok (.iload_n 0, 1) := by decide +kernel
theorem dJ6_numberOfTrailingZeros_0f7a4_50 : decode cJ6_numberOfTrailingZeros_0f7a4 50 = .ok (.bipush 16, 2) := by decide +kernel
theorem dJ6_numberOfTrailingZeros_0f7a4_52 : decode cJ6_numberOfTrailingZeros_0f7a4 52 = .ok (.if_icmp .le 10, 3) := by decide +kernel
theorem dJ6_numberOfTrailingZeros_0f7a4_55 : decode cJ6_numberOfTrailingZeros_0f7a4 55 = .ok (.iinc 1 4, 3) := by decide +kernel
theorem dJ6_numberOfTrailingZeros_0f7a4_58 : decode cJ6_numberOfTrailingZeros_0f7a4 58 = .ok (.iload_n 0, 1) := by decide +kernel
theorem dJ6_numberOfTrailingZeros_0f7a4_59 : decode cJ6_numberOfTrailingZeros_0f7a4 59 = .ok (.iconst 4, 1) := by decide +kernel
theorem dJ6_numberOfTrailingZeros_0f7a4_60 : decode cJ6_numberOfTrailingZeros_0f7a4 60 = .ok (.iushr, 1) := by decide +kernel
theorem dJ6_numberOfTrailingZeros_0f7a4_61 : decode cJ6_numberOfTrailingZeros_0f7a4 61 = .ok (.istore_n 0, 1) := by decide +kernel
theorem dJ6_numberOfTrailingZeros_0f7a4_62 : decode cJ6_numberOfTrailingZeros_0f7a4 62 = .ok (.iload_n 0, 1) := by decide +kernel
theorem dJ6_numberOfTrailingZeros_0f7a4_63 : decode cJ6_numberOfTrailingZeros_0f7a4 63 = .ok (.iconst 4, 1) := by decide +kernel
theorem dJ6_numberOfTrailingZeros_0f7a4_64 : decode cJ6_numberOfTrailingZeros_0f7a4 64 = .ok (.if_icmp .le 10, 3) := by decide +kernel
theorem dJ6_numberOfTrailingZeros_0f7a4_67 : decode cJ6_numberOfTrailingZeros_0f7a4 67 = .ok (.iinc 1 2, 3) := by decide +kernel
theorem dJ6_numberOfTrailingZeros_0f7a4_70 : decode cJ6_numberOfTrailingZeros_0f7a4 70 = .ok (.iload_n 0, 1) := by decide +kernel
theorem dJ6_numberOfTrailingZeros_0f7a4_71 : decode cJ6_numberOfTrailingZeros_0f7a4 71 = .ok (.iconst 2, 1) := by decide +kernel
theorem dJ6_numberOfTrailingZeros_0f7a4_72 : decode cJ6_numberOfTrailingZeros_0f7a4 72 = .ok (.iushr, 1) := by decide +kernel
theorem dJ6_numberOfTrailingZeros_0f7a4_73 : decode cJ6_numberOfTrailingZeros_0f7a4 73 = .ok (.istore_n 0, 1) := by decide +kernel
theorem dJ6_numberOfTrailingZeros_0f7a4_74 : decode cJ6_numberOfTrailingZeros_0f7a4 74 = .ok (.iload_n 1, 1) := by decide +kernel
theorem dJ6_numberOfTrailingZeros_0f7a4_75 : decode cJ6_numberOfTrailingZeros_0f7a4 75 = .ok (.iload_n 0, 1) := by decide +kernel
theorem dJ6_numberOfTrailingZeros_0f7a4_76 : decode cJ6_numberOfTrailingZeros_0f7a4 76 = .ok (.iconst 1, 1) := by decide +kernel
theorem dJ6_numberOfTrailingZeros_0f7a4_77 : decode cJ6_numberOfTrailingZeros_0f7a4 77 = .ok (.iushr, 1) := by decide +kernel
theorem dJ6_numberOfTrailingZeros_0f7a4_78 : decode cJ6_numberOfTrailingZeros_0f7a4 78 = .ok (.iadd, 1) := by decide +kernel
theorem dJ6_numberOfTrailingZeros_0f7a4_79 : decode cJ6_numberOfTrailingZeros_0f7a4 79 = .ok (.ireturn, 1) := by decide +kernel
theorem dJ6_bitCount_0f7a4_0 : decode cJ6_bitCount_0f7a4 0 = .ok (.iload_n 0, 1) := by decide +kernel
theorem dJ6_bitCount_0f7a4_1 : decode cJ6_bitCount_0f7a4 1 = .ok (.iload_n 0, 1) := by decide +kernel
theorem dJ6_bitCount_0f7a4_2 : decode cJ6_bitCount_0f7a4 2 = .ok (.iconst 1, 1) := by decide +kernel
theorem dJ6_bitCount_0f7a4_3 : decode cJ6_bitCount_0f7a4 3 = .ok (.iushr, 1) := by decide +kernel
theorem dJ6_bitCount_0f7a4_4 : decode cJ6_bitCount_0f7a4 4 = .ok (.ldc_w 265, 3) := by decide +kernel
theorem dJ6_bitCount_0f7a4_7 : decode cJ6_bitCount_0f7a4 7 = .ok (.iand, 1) := by decide +kernel
theorem dJ6_bitCount_0f7a4_8 : decode cJ6_bitCount_0f7a4 8 = .ok (.isub, 1) := by decide +kernel
theorem dJ6_bitCount_0f7a4_9 : decode cJ6_bitCount_0f7a4 9 = .ok (.istore_n 0, 1) := by decide +kernel
theorem dJ6_bitCount_0f7a4_10 : decode cJ6_bitCount_0f7a4 10 = .ok (.iload_n 0, 1) := by decide +kernel
theorem dJ6_bitCount_0f7a4_11 : decode cJ6_bitCount_0f7a4 11 = .ok (.ldc_w 266, 3) := by decide +kernel
theorem dJ6_bitCount_0f7a4_14 : decode cJ6_bitCount_0f7a4 14 = .ok (.iand, 1) := by decide +kernel
theorem dJ6_bitCount_0f7a4_15 : decode cJ6_bitCount_0f7a4 15 = .ok (.iload_n 0, 1) := by decide +kernel
theorem dJ6_bitCount_0f7a4_16 : decode cJ6_bitCount_0f7a4 16 = .ok (.iconst 2, 1) := by decide +kernel
theorem dJ6_bitCount_0f7a4_17 : decode cJ6_bitCount_0f7a4 17 = .ok (.iushr, 1) := by decide +kernel
theorem dJ6_bitCount_0f7a4_18 : decode cJ6_bitCount_0f7a4 18 = .ok (.ldc_w 266, 3) := by decide +kernel
theorem dJ6_bitCount_0f7a4_21 : decode cJ6_bitCount_0f7a4 21 = .ok (.iand, 1) := by decide +kernel
theorem dJ6_bitCount_0f7a4_22 : decode cJ6_bitCount_0f7a4 22 = .ok (.iadd, 1) := by decide +kernel
theorem dJ6_bitCount_0f7a4_23 : decode cJ6_bitCount_0f7a4 23 = .ok (.istore_n 0, 1) := by decide +kernel
theorem dJ6_bitCount_0f7a4_24 : decode cJ6_bitCount_0f7a4 24 = .ok (.iload_n 0, 1) := by decide +kernel
theorem dJ6_bitCount_0f7a4_25 : decode cJ6_bitCount_0f7a4 25 = .ok (.iload_n 0, 1) := by decide +kernel
theorem dJ6_bitCount_0f7a4_26 : decode cJ6_bitCount_0f7a4 26 = .ok (.iconst 4, 1) := by decide +kernel
theorem dJ6_bitCount_0f7a4_27 : decode cJ6_bitCount_0f7a4 27 = .ok (.iushr, 1) := by decide +kernel
theorem dJ6_bitCount_0f7a4_28 : decode cJ6_bitCount_0f7a4 28 = .ok (.iadd, 1) := by decide +kernel
theorem dJ6_bitCount_0f7a4_29 : decode cJ6_bitCount_0f7a4 29 = .ok (.ldc_w 267, 3) := by decide +kernel
theorem dJ6_bitCount_0f7a4_32 : decode cJ6_bitCount_0f7a4 32 = .ok (.iand, 1) := by decide +kernel
theorem dJ6_bitCount_0f7a4_33 : decode cJ6_bitCount_0f7a4 33 = .ok (.istore_n 0, 1) := by decide +kernel
theorem dJ6_bitCount_0f7a4_34 : decode cJ6_bitCount_0f7a4 34 = .ok (.iload_n 0, 1) := by decide +kernel
theorem dJ6_bitCount_0f7a4_35 : decode cJ6_bitCount_0f7a4 35 = .ok (.iload_n 0, 1) := by decide +kernel
theorem dJ6_bitCount_0f7a4_36 : decode cJ6_bitCount_0f7a4 36 = .ok (.bipush 8, 2) := by decide +kernel
theorem dJ6_bitCount_0f7a4_38 : decode cJ6_bitCount_0f7a4 38 = .ok (.iushr, 1) := by decide +kernel
theorem dJ6_bitCount_0f7a4_39 : decode cJ6_bitCount_0f7a4 39 = .ok (.iadd, 1) := by decide +kernel
theorem dJ6_bitCount_0f7a4_40 : decode cJ6_bitCount_0f7a4 40 = .ok (.istore_n 0, 1) := by decide +kernel
theorem dJ6_bitCount_0f7a4_41 : decode cJ6_bitCount_0f7a4 41 = .ok (.iload_n 0, 1) := by decide +kernel
theorem dJ6_bitCount_0f7a4_42 : decode cJ6_bitCount_0f7a4 42 = .ok (.iload_n 0, 1) := by decide +kernel
theorem dJ6_bitCount_0f7a4_43 : decode cJ6_bitCount_0f7a4 43 = .ok (.bipush 16, 2) := by decide +kernel
theorem dJ6_bitCount_0f7a4_45 : decode cJ6_bitCount_0f7a4 45 = .ok (.iushr, 1) := by decide +kernel
theorem dJ6_bitCount_0f7a4_46 : decode cJ6_bitCount_0f7a4 46 = .ok (.iadd, 1) := by decide +kernel
theorem dJ6_bitCount_0f7a4_47 : decode cJ6_bitCount_0f7a4 47 = .ok (.istore_n 0, 1) := by decide +kernel
theorem dJ6_bitCount_0f7a4_48 : decode cJ6_bitCount_0f7a4 48 = .ok (.iload_n 0, 1) := by decide +kernel
theorem dJ6_bitCount_0f7a4_49 : decode cJ6_bitCount_0f7a4 49 = .ok (.bipush 63, 2) := by decide +kernel
theorem dJ6_bitCount_0f7a4_51 : decode cJ6_bitCount_0f7a4 51 = .ok (.iand, 1) := by decide +kernel
theorem dJ6_bitCount_0f7a4_52 : decode cJ6_bitCount_0f7a4 52 = .ok (.ireturn, 1) := by decide +kernel
theorem dJ9_floorDiv_7cf53_0 : decode cJ9_floorDiv_7cf53 0 = .ok (.iload_n 0, 1) := by decide +kernel
theorem dJ9_floorDiv_7cf53_1 : decode cJ9_floorDiv_7cf53 1 = .ok (.iload_n 1, 1) := by decide +kernel
theorem dJ9_floorDiv_7cf53_2 : decode cJ9_floorDiv_7cf53 2 = .ok (.idiv, 1) := by decide +kernel
theorem dJ9_floorDiv_7cf53_3 : decode cJ9_floorDiv_7cf53 3 = .ok (.istore_n 2, 1) := by decide +kernel
theorem dJ9_floorDiv_7cf53_4 : decode cJ9_floorDiv_7cf53 4 = .ok (.iload_n 0, 1) := by decide +kernel
theorem dJ9_floorDiv_7cf53_5 : decode cJ9_floorDiv_7cf53 5 = .ok (.iload_n 1, 1) := by decide +kernel
theorem dJ9_floorDiv_7cf53_6 : decode cJ9_floorDiv_7cf53 6 = .ok (.ixor, 1) := by decide +kernel
theorem dJ9_floorDiv_7cf53_7 : decode cJ9_floorDiv_7cf53 7 = .ok (.ifCond .ge 14, 3) := by decide +kernel
theorem dJ9_floorDiv_7cf53_10 : decode cJ9_floorDiv_7cf53 10 = .ok (.iload_n 2, 1) := by decide +kernel
theorem dJ9_floorDiv_7cf53_11 : decode cJ9_floorDiv_7cf53 11 = .ok (.iload_n 1, 1) := by decide +kernel
theorem dJ9_floorDiv_7cf53_12 : decode cJ9_floorDiv_7cf53 12 = .ok (.imul, 1) := by decide +kernel
theorem dJ9_floorDiv_7cf53_13 : decode cJ9_floorDiv_7cf53 13 = .ok (.iload_n 0, 1) := by decide +kernel
theorem dJ9_floorDiv_7cf53_14 : decode cJ9_floorDiv_7cf53 14 = .ok (.if_icmp .eq 7, 3) := by decide +kernel
theorem dJ9_floorDiv_7cf53_17 : decode cJ9_floorDiv_7cf53 17 = .ok (.iload_n 2, 1) := by decide +kernel
theorem dJ9_floorDiv_7cf53_18 : decode cJ9_floorDiv_7cf53 18 = .ok (.iconst 1, 1) := by decide +kernel
theorem dJ9_floorDiv_7cf53_19 : decode cJ9_floorDiv_7cf53 19 = .ok (.isub, 1) := by decide +kernel
theorem dJ9_floorDiv_7cf53_20 : decode cJ9_floorDiv_7cf53 20 = .ok (.ireturn, 1) := by decide +kernel
theorem dJ9_floorDiv_7cf53_21 : decode cJ9_floorDiv_7cf53 21 = .ok (.iload_n 2, 1) := by decide +kernel
theorem dJ9_floorDiv_7cf53_22 : decode cJ9_floorDiv_7cf53 22 = .ok (.ireturn, 1) := by decide +kernel
theorem dJ9_max_7cf53_0 : decode cJ9_max_7cf53 0 = .ok (.iload_n 0, 1) := by decide +kernel
theorem dJ9_max_7cf53_1 : decode cJ9_max_7cf53 1 = .ok (.iload_n 1, 1) := by decide +kernel
theorem dJ9_max_7cf53_2 : decode cJ9_max_7cf53 2 = .ok (.if_icmp .lt 7, 3) := by decide +kernel
theorem dJ9_max_7cf53_5 : decode cJ9_max_7cf53 5 = .ok (.iload_n 0, 1) := by decide +kernel
theorem dJ9_max_7cf53_6 : decode cJ9_max_7cf53 6 = .ok (.goto 4, 3) := by decide +kernel
theorem dJ9_max_7cf53_9 : decode cJ9_max_7cf53 9 = .ok (.iload_n 1, 1) := by decide +kernel
theorem dJ9_max_7cf53_10 : decode cJ9_max_7cf53 10 = .ok (.ireturn, 1) := by decide +kernel
theorem dJ9_min_7cf53_0 : decode cJ9_min_7cf53 0 = .ok (.iload_n 0, 1) := by decide +kernel
theorem dJ9_min_7cf53_1 : decode cJ9_min_7cf53 1 = .ok (.iload_n 1, 1) := by decide +kernel
theorem dJ9_min_7cf53_2 : decode cJ9_min_7cf53 2 = .ok (.if_icmp .gt 7, 3) := by decide +kernel
theorem dJ9_min_7cf53_5 : decode cJ9_min_7cf53 5 = .ok (.iload_n 0, 1) := by decide +kernel
theorem dJ9_min_7cf53_6 : decode cJ9_min_7cf53 6 = .ok (.goto 4, 3) := by decide +kernel
theorem dJ9_min_7cf53_9 : decode cJ9_min_7cf53 9 = .ok (.iload_n 1, 1) := by decide +kernel
theorem dJ9_min_7cf53_10 : decode cJ9_min_7cf53 10 = .ok (.ireturn, 1) := by decide +kernel
theorem dJ0_length_8abf5_0 : decode cJ0_length_8abf5 0 = .ok (.aload_n 0, 1) := by decide +kernel
theorem dJ0_length_8abf5_1 : decode cJ0_length_8abf5 1 = .ok (.getfield 9, 3) := by decide +kernel
theorem dJ0_length_8abf5_4 : decode cJ0_length_8abf5 4 = .ok (.arraylength, 1) := by decide +kernel
theorem dJ0_length_8abf5_5 : decode cJ0_length_8abf5 5 = .ok (.aload_n 0, 1) := by decide +kernel
theorem dJ0_length_8abf5_6 : decode cJ0_length_8abf5 6 = .ok (.invokevirtual 335, 3) := by decide +kernel
theorem dJ0_length_8abf5_9 : decode cJ0_length_8abf5 9 = .ok (.ishr, 1) := by decide +kernel
theorem dJ0_length_8abf5_10 : decode cJ0_length_8abf5 10 = .ok (.ireturn, 1) := by decide +kernel
theorem dJ0_charAt_5068e_0 : decode cJ0_charAt_5068e 0 = .ok (.aload_n 0, 1) := by decide +kernel
theorem dJ0_charAt_5068e_1 : decode cJ0_charAt_5068e 1 = .ok (.invokevirtual 492, 3) := by decide +kernel
theorem dJ0_charAt_5068e_4 : decode cJ0_charAt_5068e 4 = .ok (.ifCond .eq 12, 3) := by decide +kernel
theorem dJ0_charAt_5068e_7 : decode cJ0_charAt_5068e 7 = .ok (.aload_n 0, 1) := by decide +kernel
theorem dJ0_charAt_5068e_8 : decode cJ0_charAt_5068e 8 = .ok (.getfield 9, 3) := by decide +kernel
theorem dJ0_charAt_5068e_11 : decode cJ0_charAt_5068e 11 = .ok (.iload_n 1, 1) := by decide +kernel
theorem dJ0_charAt_5068e_12 : decode cJ0_charAt_5068e 12 = .ok (.invokestatic 495, 3) := by decide +kernel
theorem dJ0_charAt_5068e_15 : decode cJ0_charAt_5068e 15 = .ok (.ireturn, 1) := by decide +kernel
theorem dJ0_charAt_5068e_16 : decode cJ0_charAt_5068e 16 = .ok (.aload_n 0, 1) := by decide +kernel
theorem dJ0_charAt_5068e_17 : decode cJ0_charAt_5068e 17 = .ok (.getfield 9, 3) := by decide +kernel
theorem dJ0_charAt_5068e_20 : decode cJ0_charAt_5068e 20 = .ok (.iload_n 1, 1) := by decide +kernel
theorem dJ0_charAt_5068e_21 : decode cJ0_charAt_5068e 21 = .ok (.invokestatic 498, 3) := by decide +kernel
theorem dJ0_charAt_5068e_24 : decode cJ0_charAt_5068e 24 = .ok (.ireturn, 1) := by decide +kernel
theorem dJ0_coder_7d493_0 : decode cJ0_coder_7d493 0 = .ok (.getstatic 38, 3) := by decide +kernel
theorem dJ0_coder_7d493_3 : decode cJ0_coder_7d493 3 = .ok (.ifCond .eq 10, 3) := by decide +kernel
theorem dJ0_coder_7d493_6 : decode cJ0_coder_7d493 6 = .ok (.aload_n 0, 1) := by decide +kernel
theorem dJ0_coder_7d493_7 : decode cJ0_coder_7d493 7 = .ok (.getfield 15, 3) := by decide +kernel
theorem dJ0_coder_7d493_10 : decode cJ0_coder_7d493 10 = .ok (.goto 4, 3) := by decide +kernel
theorem dJ0_coder_7d493_13 : decode cJ0_coder_7d493 13 = .ok (.iconst 1, 1) := by decide +kernel
theorem dJ0_coder_7d493_14 : decode cJ0_coder_7d493 14 = .ok (.ireturn, 1) := by decide +kernel
theorem dJ0_isLatin1_aae02_0 : decode cJ0_isLatin1_aae02 0 = .ok (.getstatic 38, 3) := by decide +kernel
theorem dJ0_isLatin1_aae02_3 : decode cJ0_isLatin1_aae02 3 = .ok (.ifCond .eq 14, 3) := by decide +kernel
theorem dJ0_isLatin1_aae02_6 : decode cJ0_isLatin1_aae02 6 = .ok (.aload_n 0, 1) := by decide +kernel
theorem dJ0_isLatin1_aae02_7 : decode cJ0_isLatin1_aae02 7 = .ok (.getfield 15, 3) := by decide +kernel
theorem dJ0_isLatin1_aae02_10 : decode cJ0_isLatin1_aae02 10 = .ok (.ifCond .ne 7, 3) := by decide +kernel
theorem dJ0_isLatin1_aae02_13 : decode cJ0_isLatin1_aae02 13 = .ok (.iconst 1, 1) := by decide +kernel
theorem dJ0_isLatin1_aae02_14 : decode cJ0_isLatin1_aae02 14 = .ok (.goto 4, 3) := by decide +kernel
theorem dJ0_isLatin1_aae02_17 : decode cJ0_isLatin1_aae02 17 = .ok (.iconst 0, 1) := by decide +kernel
theorem dJ0_isLatin1_aae02_18 : decode cJ0_isLatin1_aae02 18 = .ok (.ireturn, 1) := by decide +kernel
theorem dJ0_checkIndex_df160_0 : decode cJ0_checkIndex_df160 0 = .ok (.iload_n 0, 1) := by decide +kernel
theorem dJ0_checkIndex_df160_1 : decode cJ0_checkIndex_df160 1 = .ok (.iload_n 1, 1) := by decide +kernel
theorem dJ0_checkIndex_df160_2 : decode cJ0_checkIndex_df160 2 = .ok (.getstatic 1053, 3) := by decide +kernel
theorem dJ0_checkIndex_df160_5 : decode cJ0_checkIndex_df160 5 = .ok (.invokestatic 1059, 3) := by decide +kernel
theorem dJ0_checkIndex_df160_8 : decode cJ0_checkIndex_df160 8 = .ok (.pop, 1) := by decide +kernel
theorem dJ0_checkIndex_df160_9 : decode cJ0_checkIndex_df160 9 = .ok (.return_, 1) := by decide +kernel
theorem dJ1_charAt_3b067_0 : decode cJ1_charAt_3b067 0 = .ok (.iload_n 1, 1) := by decide +kernel
theorem dJ1_charAt_3b067_1 : decode cJ1_charAt_3b067 1 = .ok (.aload_n 0, 1) := by decide +kernel
theorem dJ1_charAt_3b067_2 : decode cJ1_charAt_3b067 2 = .ok (.arraylength, 1) := by decide +kernel
theorem dJ1_charAt_3b067_3 : decode cJ1_charAt_3b067 3 = .ok (.invokestatic 9, 3) := by decide +kernel
theorem dJ1_charAt_3b067_6 : decode cJ1_charAt_3b067 6 = .ok (.aload_n 0, 1) := by decide +kernel
theorem dJ1_charAt_3b067_7 : decode cJ1_charAt_3b067 7 = .ok (.iload_n 1, 1) := by decide +kernel
theorem dJ1_charAt_3b067_8 : decode cJ1_charAt_3b067 8 = .ok (.baload, 1) := by decide +kernel
theorem dJ1_charAt_3b067_9 : decode cJ1_charAt_3b067 9 = .ok (.sipush 255, 3) := by decide +kernel
theorem dJ1_charAt_3b067_12 : decode cJ1_charAt_3b067 12 = .ok (.iand, 1) := by decide +kernel
theorem dJ1_charAt_3b067_13 : decode cJ1_charAt_3b067 13 = .ok (.i2c, 1) := by decide +kernel
theorem dJ1_charAt_3b067_14 : decode cJ1_charAt_3b067 14 = .ok (.ireturn, 1) := by decide +kernel
theorem dJ2_getChar_3b067_0 : decode cJ2_getChar_3b067 0 = .ok (.getstatic 44, 3) := by decide +kernel
theorem dJ2_getChar_3b067_3 : decode cJ2_getChar_3b067 3 = .ok (.ifCond .ne 25, 3) := by decide +kernel
theorem dJ2_getChar_3b067_6 : decode cJ2_getChar_3b067 6 = .ok (.iload_n 1, 1) := by decide +kernel
theorem dJ2_getChar_3b067_7 : decode cJ2_getChar_3b067 7 = .ok (.ifCond .lt 11, 3) := by decide +kernel
theorem dJ2_getChar_3b067_10 : decode cJ2_getChar_3b067 10 = .ok (.iload_n 1, 1) := by decide +kernel
theorem dJ2_getChar_3b067_11 : decode cJ2_getChar_3b067 11 = .ok (.aload_n 0, 1) := by decide +kernel
theorem dJ2_getChar_3b067_12 : decode cJ2_getChar_3b067 12 = .ok (.invokestatic 48, 3) := by decide +kernel
theorem dJ2_getChar_3b067_15 : decode cJ2_getChar_3b067 15 = .ok (.if_icmp .lt 13, 3) := by decide +kernel
theorem dJ2_getChar_3b067_18 : decode cJ2_getChar_3b067 18 = .ok (.new 52, 3) := by decide +kernel
theorem dJ2_getChar_3b067_21 : decode cJ2_getChar_3b067 21 = .ok (.dup, 1) := by decide +kernel
theorem dJ2_getChar_3b067_22 : decode cJ2_getChar_3b067 22 = .ok (.ldc 54, 2) := by decide +kernel
theorem dJ2_getChar_3b067_24 : decode cJ2_getChar_3b067 24 = .ok (.invokespecial 56, 3) := by decide +kernel
theorem dJ2_getChar_3b067_27 : decode cJ2_getChar_3b067 27 = .ok (.athrow, 1) := by decide +kernel
theorem dJ2_getChar_3b067_28 : decode cJ2_getChar_3b067 28 = .ok (.iload_n 1, 1) := by decide +kernel
theorem dJ2_getChar_3b067_29 : decode cJ2_getChar_3b067 29 = .ok (.iconst 1, 1) := by decide +kernel
theorem dJ2_getChar_3b067_30 : decode cJ2_getChar_3b067 30 = .ok (.ishl, 1) := by decide +kernel
theorem dJ2_getChar_3b067_31 : decode cJ2_getChar_3b067 31 = .ok (.istore_n 1, 1) := by decide +kernel
theorem dJ2_getChar_3b067_32 : decode cJ2_getChar_3b067 32 = .ok (.aload_n 0, 1) := by decide +kernel
theorem dJ2_getChar_3b067_33 : decode cJ2_getChar_3b067 33 = .ok (.iload_n 1, 1) := by decide +kernel
theorem dJ2_getChar_3b067_34 : decode cJ2_getChar_3b067 34 = .ok (.iinc 1 1, 3) := by decide +kernel
theorem dJ2_getChar_3b067_37 : decode cJ2_getChar_3b067 37 = .ok (.baload, 1) := by decide +kernel
theorem dJ2_getChar_3b067_38 : decode cJ2_getChar_3b067 38 = .ok (.sipush 255, 3) := by decide +kernel
theorem dJ2_getChar_3b067_41 : decode cJ2_getChar_3b067 41 = .ok (.iand, 1) := by decide +kernel
theorem dJ2_getChar_3b067_42 : decode cJ2_getChar_3b067 42 = .ok (.getstatic 59, 3) := by decide +kernel
theorem dJ2_getChar_3b067_45 : decode cJ2_getChar_3b067 45 = .ok (.ishl, 1) := by decide +kernel
theorem dJ2_getChar_3b067_46 : decode cJ2_getChar_3b067 46 = .ok (.aload_n 0, 1) := by decide +kernel
theorem dJ2_getChar_3b067_47 : decode cJ2_getChar_3b067 47 = .ok (.iload_n 1, 1) := by decide +kernel
theorem dJ2_getChar_3b067_48 : decode cJ2_getChar_3b067 48 = .ok (.baload, 1) := by decide +kernel
theorem dJ2_getChar_3b067_49 : decode cJ2_getChar_3b067 49 = .ok (.sipush 255, 3) := by decide +kernel
theorem dJ2_getChar_3b067_52 : decode cJ2_getChar_3b067 52 = .ok (.iand, 1) := by decide +kernel
theorem dJ2_getChar_3b067_53 : decode cJ2_getChar_3b067 53 = .ok (.getstatic 63, 3) := by decide +kernel
theorem dJ2_getChar_3b067_56 : decode cJ2_getChar_3b067 56 = .ok (.ishl, 1) := by decide +kernel
theorem dJ2_getChar_3b067_57 : decode cJ2_getChar_3b067 57 = .ok (.ior, 1) := by decide +kernel
theorem dJ2_getChar_3b067_58 : decode cJ2_getChar_3b067 58 = .ok (.i2c, 1) := by decide +kernel
theorem dJ2_getChar_3b067_59 : decode cJ2_getChar_3b067 59 = .ok (.ireturn, 1) := by decide +kernel
theorem dJ2_length_9d52b_0 : decode cJ2_length_9d52b 0 = .ok (.aload_n 0, 1) := by decide +kernel
theorem dJ2_length_9d52b_1 : decode cJ2_length_9d52b 1 = .ok (.arraylength, 1) := by decide +kernel
theorem dJ2_length_9d52b_2 : decode cJ2_length_9d52b 2 = .ok (.iconst 1, 1) := by decide +kernel
theorem dJ2_length_9d52b_3 : decode cJ2_length_9d52b 3 = .ok (.ishr, 1) := by decide +kernel
theorem dJ2_length_9d52b_4 : decode cJ2_length_9d52b 4 = .ok (.ireturn, 1) := by decide +kernel
theorem dJ2_charAt_3b067_0 : decode cJ2_charAt_3b067 0 = .ok (.iload_n 1, 1) := by decide +kernel
theorem dJ2_charAt_3b067_1 : decode cJ2_charAt_3b067 1 = .ok (.aload_n 0, 1) := by decide +kernel
theorem dJ2_charAt_3b067_2 : decode cJ2_charAt_3b067 2 = .ok (.invokestatic 67, 3) := by decide +kernel
theorem dJ2_charAt_3b067_5 : decode cJ2_charAt_3b067 5 = .ok (.aload_n 0, 1) := by decide +kernel
theorem dJ2_charAt_3b067_6 : decode cJ2_charAt_3b067 6 = .ok (.iload_n 1, 1) := by decide +kernel
theorem dJ2_charAt_3b067_7 : decode cJ2_charAt_3b067 7 = .ok (.invokestatic 71, 3) := by decide +kernel
theorem dJ2_charAt_3b067_10 : decode cJ2_charAt_3b067 10 = .ok (.ireturn, 1) := by decide +kernel
theorem dJ2_checkIndex_2214a_0 : decode cJ2_checkIndex_2214a 0 = .ok (.iload_n 0, 1) := by decide +kernel
theorem dJ2_checkIndex_2214a_1 : decode cJ2_checkIndex_2214a 1 = .ok (.aload_n 1, 1) := by decide +kernel
theorem dJ2_checkIndex_2214a_2 : decode cJ2_checkIndex_2214a 2 = .ok (.invokestatic 48, 3) := by decide +kernel
theorem dJ2_checkIndex_2214a_5 : decode cJ2_checkIndex_2214a 5 = .ok (.invokestatic 414, 3) := by decide +kernel
theorem dJ2_checkIndex_2214a_8 : decode cJ2_checkIndex_2214a 8 = .ok (.return_, 1) := by decide +kernel
theorem dJ3_checkIndex_8e157_0 : decode cJ3_checkIndex_8e157 0 = .ok (.iload_n 0, 1) := by decide +kernel
theorem dJ3_checkIndex_8e157_1 : decode cJ3_checkIndex_8e157 1 = .ok (.ifCond .lt 8, 3) := by decide +kernel
theorem dJ3_checkIndex_8e157_4 : decode cJ3_checkIndex_8e157 4 = .ok (.iload_n 0, 1) := by decide +kernel
theorem dJ3_checkIndex_8e157_5 : decode cJ3_checkIndex_8e157 5 = .ok (.iload_n 1, 1) := by decide +kernel
theorem dJ3_checkIndex_8e157_6 : decode cJ3_checkIndex_8e157 6 = .ok (.if_icmp .lt 10, 3) := by decide +kernel
theorem dJ3_checkIndex_8e157_9 : decode cJ3_checkIndex_8e157 9 = .ok (.aload_n 2, 1) := by decide +kernel
theorem dJ3_checkIndex_8e157_10 : decode cJ3_checkIndex_8e157 10 = .ok (.iload_n 0, 1) := by decide +kernel
theorem dJ3_checkIndex_8e157_11 : decode cJ3_checkIndex_8e157 11 = .ok (.iload_n 1, 1) := by decide +kernel
theorem dJ3_checkIndex_8e157_12 : decode cJ3_checkIndex_8e157 12 = .ok (.invokestatic 95, 3) := by decide +kernel
theorem dJ3_checkIndex_8e157_15 : decode cJ3_checkIndex_8e157 15 = .ok (.athrow, 1) := by decide +kernel
theorem dJ3_checkIndex_8e157_16 : decode cJ3_checkIndex_8e157 16 = .ok (.iload_n 0, 1) := by decide +kernel
theorem dJ3_checkIndex_8e157_17 : decode cJ3_checkIndex_8e157 17 = .ok (.ireturn, 1) := by decide +kernel
theorem dL_law_0 : decode cL_law 0 = .ok (.new 7, 3) := by decide +kernel
theorem dL_law_3 : decode cL_law 3 = .ok (.dup, 1) := by decide +kernel
theorem dL_law_4 : decode cL_law 4 = .ok (.invokespecial 9, 3) := by decide +kernel
theorem dL_law_7 : decode cL_law 7 = .ok (.astore_n 1, 1) := by decide +kernel
theorem dL_law_8 : decode cL_law 8 = .ok (.new 10, 3) := by decide +kernel
theorem dL_law_11 : decode cL_law 11 = .ok (.dup, 1) := by decide +kernel
theorem dL_law_12 : decode cL_law 12 = .ok (.invokespecial 12, 3) := by decide +kernel
theorem dL_law_15 : decode cL_law 15 = .ok (.astore_n 2, 1) := by decide +kernel
theorem dL_law_16 : decode cL_law 16 = .ok (.iconst 0, 1) := by decide +kernel
theorem dL_law_17 : decode cL_law 17 = .ok (.istore_n 3, 1) := by decide +kernel
theorem dL_law_18 : decode cL_law 18 = .ok (.iload_n 3, 1) := by decide +kernel
theorem dL_law_19 : decode cL_law 19 = .ok (.aload_n 0, 1) := by decide +kernel
theorem dL_law_20 : decode cL_law 20 = .ok (.arraylength, 1) := by decide +kernel
theorem dL_law_21 : decode cL_law 21 = .ok (.bipush 6, 2) := by decide +kernel
theorem dL_law_23 : decode cL_law 23 = .ok (.isub, 1) := by decide +kernel
theorem dL_law_24 : decode cL_law 24 = .ok (.if_icmp .gt 1003, 3) := by decide +kernel
theorem dL_law_27 : decode cL_law 27 = .ok (.aload_n 0, 1) := by decide +kernel
theorem dL_law_28 : decode cL_law 28 = .ok (.iload_n 3, 1) := by decide +kernel
theorem dL_law_29 : decode cL_law 29 = .ok (.iaload, 1) := by decide +kernel
theorem dL_law_30 : decode cL_law 30 = .ok (.bipush 31, 2) := by decide +kernel
theorem dL_law_32 : decode cL_law 32 = .ok (.iand, 1) := by decide +kernel
theorem dL_law_33 : decode cL_law 33 = .ok (.tableswitch 988 0 24 #[115, 178, 201, 214, 227, 280, 359, 402, 455, 514, 537, 570, 603, 646, 669, 702, 735, 768, 801, 824, 847, 896, 929, 942, 965], 115) := by decide +kernel
theorem dL_law_148 : decode cL_law 148 = .ok (.aload_n 1, 1) := by decide +kernel
theorem dL_law_149 : decode cL_law 149 = .ok (.aload_n 0, 1) := by decide +kernel
theorem dL_law_150 : decode cL_law 150 = .ok (.iload_n 3, 1) := by decide +kernel
theorem dL_law_151 : decode cL_law 151 = .ok (.iconst 1, 1) := by decide +kernel
theorem dL_law_152 : decode cL_law 152 = .ok (.iadd, 1) := by decide +kernel
theorem dL_law_153 : decode cL_law 153 = .ok (.iaload, 1) := by decide +kernel
theorem dL_law_154 : decode cL_law 154 = .ok (.aload_n 0, 1) := by decide +kernel
theorem dL_law_155 : decode cL_law 155 = .ok (.iload_n 3, 1) := by decide +kernel
theorem dL_law_156 : decode cL_law 156 = .ok (.iconst 2, 1) := by decide +kernel
theorem dL_law_157 : decode cL_law 157 = .ok (.iadd, 1) := by decide +kernel
theorem dL_law_158 : decode cL_law 158 = .ok (.iaload, 1) := by decide +kernel
theorem dL_law_159 : decode cL_law 159 = .ok (.aload_n 0, 1) := by decide +kernel
theorem dL_law_160 : decode cL_law 160 = .ok (.iload_n 3, 1) := by decide +kernel
theorem dL_law_161 : decode cL_law 161 = .ok (.iconst 3, 1) := by decide +kernel
theorem dL_law_162 : decode cL_law 162 = .ok (.iadd, 1) := by decide +kernel
theorem dL_law_163 : decode cL_law 163 = .ok (.iaload, 1) := by decide +kernel
theorem dL_law_164 : decode cL_law 164 = .ok (.aload_n 0, 1) := by decide +kernel
theorem dL_law_165 : decode cL_law 165 = .ok (.iload_n 3, 1) := by decide +kernel
theorem dL_law_166 : decode cL_law 166 = .ok (.iconst 4, 1) := by decide +kernel
theorem dL_law_167 : decode cL_law 167 = .ok (.iadd, 1) := by decide +kernel
theorem dL_law_168 : decode cL_law 168 = .ok (.iaload, 1) := by decide +kernel
theorem dL_law_169 : decode cL_law 169 = .ok (.aload_n 0, 1) := by decide +kernel
theorem dL_law_170 : decode cL_law 170 = .ok (.iload_n 3, 1) := by decide +kernel
theorem dL_law_171 : decode cL_law 171 = .ok (.iconst 5, 1) := by decide +kernel
theorem dL_law_172 : decode cL_law 172 = .ok (.iadd, 1) := by decide +kernel
theorem dL_law_173 : decode cL_law 173 = .ok (.iaload, 1) := by decide +kernel
theorem dL_law_174 : decode cL_law 174 = .ok (.invokevirtual 13, 3) := by decide +kernel
theorem dL_law_177 : decode cL_law 177 = .ok (.aload_n 2, 1) := by decide +kernel
theorem dL_law_178 : decode cL_law 178 = .ok (.aload_n 0, 1) := by decide +kernel
theorem dL_law_179 : decode cL_law 179 = .ok (.iload_n 3, 1) := by decide +kernel
theorem dL_law_180 : decode cL_law 180 = .ok (.iconst 1, 1) := by decide +kernel
theorem dL_law_181 : decode cL_law 181 = .ok (.iadd, 1) := by decide +kernel
theorem dL_law_182 : decode cL_law 182 = .ok (.iaload, 1) := by decide +kernel
theorem dL_law_183 : decode cL_law 183 = .ok (.aload_n 0, 1) := by decide +kernel
theorem dL_law_184 : decode cL_law 184 = .ok (.iload_n 3, 1) := by decide +kernel
theorem dL_law_185 : decode cL_law 185 = .ok (.iconst 2, 1) := by decide +kernel
theorem dL_law_186 : decode cL_law 186 = .ok (.iadd, 1) := by decide +kernel
theorem dL_law_187 : decode cL_law 187 = .ok (.iaload, 1) := by decide +kernel
theorem dL_law_188 : decode cL_law 188 = .ok (.aload_n 0, 1) := by decide +kernel
theorem dL_law_189 : decode cL_law 189 = .ok (.iload_n 3, 1) := by decide +kernel
theorem dL_law_190 : decode cL_law 190 = .ok (.iconst 3, 1) := by decide +kernel
theorem dL_law_191 : decode cL_law 191 = .ok (.iadd, 1) := by decide +kernel
theorem dL_law_192 : decode cL_law 192 = .ok (.iaload, 1) := by decide +kernel
theorem dL_law_193 : decode cL_law 193 = .ok (.aload_n 0, 1) := by decide +kernel
theorem dL_law_194 : decode cL_law 194 = .ok (.iload_n 3, 1) := by decide +kernel
theorem dL_law_195 : decode cL_law 195 = .ok (.iconst 4, 1) := by decide +kernel
theorem dL_law_196 : decode cL_law 196 = .ok (.iadd, 1) := by decide +kernel
theorem dL_law_197 : decode cL_law 197 = .ok (.iaload, 1) := by decide +kernel
theorem dL_law_198 : decode cL_law 198 = .ok (.aload_n 0, 1) := by decide +kernel
theorem dL_law_199 : decode cL_law 199 = .ok (.iload_n 3, 1) := by decide +kernel
theorem dL_law_200 : decode cL_law 200 = .ok (.iconst 5, 1) := by decide +kernel
theorem dL_law_201 : decode cL_law 201 = .ok (.iadd, 1) := by decide +kernel
theorem dL_law_202 : decode cL_law 202 = .ok (.iaload, 1) := by decide +kernel
theorem dL_law_203 : decode cL_law 203 = .ok (.invokevirtual 17, 3) := by decide +kernel
theorem dL_law_206 : decode cL_law 206 = .ok (.if_icmp .eq 815, 3) := by decide +kernel
theorem dL_law_209 : decode cL_law 209 = .ok (.iconst 0, 1) := by decide +kernel
theorem dL_law_210 : decode cL_law 210 = .ok (.ireturn, 1) := by decide +kernel
theorem dL_law_211 : decode cL_law 211 = .ok (.aload_n 1, 1) := by decide +kernel
theorem dL_law_212 : decode cL_law 212 = .ok (.aload_n 0, 1) := by decide +kernel
theorem dL_law_213 : decode cL_law 213 = .ok (.iload_n 3, 1) := by decide +kernel
theorem dL_law_214 : decode cL_law 214 = .ok (.iconst 1, 1) := by decide +kernel
theorem dL_law_215 : decode cL_law 215 = .ok (.iadd, 1) := by decide +kernel
theorem dL_law_216 : decode cL_law 216 = .ok (.iaload, 1) := by decide +kernel
