theorem dX6_toDoubt_1 : decode cX6_toDoubt 1 = .ok (.iload_n 1, 1) := by decide +kernel
theorem dX6_toDoubt_2 : decode cX6_toDoubt 2 = .ok (.invokevirtual 85, 3) := by decide +kernel
theorem dX6_toDoubt_5 : decode cX6_toDoubt 5 = .ok (.ifCond .eq 14, 3) := by decide +kernel
theorem dX6_toDoubt_8 : decode cX6_toDoubt 8 = .ok (.aload_n 0, 1) := by decide +kernel
theorem dX6_toDoubt_9 : decode cX6_toDoubt 9 = .ok (.iload_n 1, 1) := by decide +kernel
theorem dX6_toDoubt_10 : decode cX6_toDoubt 10 = .ok (.invokevirtual 92, 3) := by decide +kernel
theorem dX6_toDoubt_13 : decode cX6_toDoubt 13 = .ok (.invokevirtual 188, 3) := by decide +kernel
theorem dX6_toDoubt_16 : decode cX6_toDoubt 16 = .ok (.goto 4, 3) := by decide +kernel
theorem dX6_toDoubt_19 : decode cX6_toDoubt 19 = .ok (.iconst (-1), 1) := by decide +kernel
theorem dX6_toDoubt_20 : decode cX6_toDoubt 20 = .ok (.ireturn, 1) := by decide +kernel
theorem dX6_away_0 : decode cX6_away 0 = .ok (.aload_n 0, 1) := by decide +kernel
theorem dX6_away_1 : decode cX6_away 1 = .ok (.iload_n 1, 1) := by decide +kernel
theorem dX6_away_2 : decode cX6_away 2 = .ok (.invokevirtual 85, 3) := by decide +kernel
theorem dX6_away_5 : decode cX6_away 5 = .ok (.ifCond .eq 14, 3) := by decide +kernel
theorem dX6_away_8 : decode cX6_away 8 = .ok (.aload_n 0, 1) := by decide +kernel
theorem dX6_away_9 : decode cX6_away 9 = .ok (.iload_n 1, 1) := by decide +kernel
theorem dX6_away_10 : decode cX6_away 10 = .ok (.invokevirtual 92, 3) := by decide +kernel
theorem dX6_away_13 : decode cX6_away 13 = .ok (.invokevirtual 191, 3) := by decide +kernel
theorem dX6_away_16 : decode cX6_away 16 = .ok (.goto 4, 3) := by decide +kernel
theorem dX6_away_19 : decode cX6_away 19 = .ok (.iconst (-1), 1) := by decide +kernel
theorem dX6_away_20 : decode cX6_away 20 = .ok (.ireturn, 1) := by decide +kernel
theorem dX6_met_0 : decode cX6_met 0 = .ok (.aload_n 0, 1) := by decide +kernel
theorem dX6_met_1 : decode cX6_met 1 = .ok (.iconst 0, 1) := by decide +kernel
theorem dX6_met_2 : decode cX6_met 2 = .ok (.iload_n 1, 1) := by decide +kernel
theorem dX6_met_3 : decode cX6_met 3 = .ok (.invokevirtual 167, 3) := by decide +kernel
theorem dX6_met_6 : decode cX6_met 6 = .ok (.ifCond .eq 12, 3) := by decide +kernel
theorem dX6_met_9 : decode cX6_met 9 = .ok (.aload_n 0, 1) := by decide +kernel
theorem dX6_met_10 : decode cX6_met 10 = .ok (.iconst 1, 1) := by decide +kernel
theorem dX6_met_11 : decode cX6_met 11 = .ok (.iload_n 1, 1) := by decide +kernel
theorem dX6_met_12 : decode cX6_met 12 = .ok (.invokevirtual 167, 3) := by decide +kernel
theorem dX6_met_15 : decode cX6_met 15 = .ok (.ifCond .ne 5, 3) := by decide +kernel
theorem dX6_met_18 : decode cX6_met 18 = .ok (.iconst (-1), 1) := by decide +kernel
theorem dX6_met_19 : decode cX6_met 19 = .ok (.ireturn, 1) := by decide +kernel
theorem dX6_met_20 : decode cX6_met 20 = .ok (.aload_n 0, 1) := by decide +kernel
theorem dX6_met_21 : decode cX6_met 21 = .ok (.getfield 41, 3) := by decide +kernel
theorem dX6_met_24 : decode cX6_met 24 = .ok (.iload_n 1, 1) := by decide +kernel
theorem dX6_met_25 : decode cX6_met 25 = .ok (.invokevirtual 171, 3) := by decide +kernel
theorem dX6_met_28 : decode cX6_met 28 = .ok (.istore_n 3, 1) := by decide +kernel
theorem dX6_met_29 : decode cX6_met 29 = .ok (.aload_n 0, 1) := by decide +kernel
theorem dX6_met_30 : decode cX6_met 30 = .ok (.getfield 45, 3) := by decide +kernel
theorem dX6_met_33 : decode cX6_met 33 = .ok (.iload_n 1, 1) := by decide +kernel
theorem dX6_met_34 : decode cX6_met 34 = .ok (.invokevirtual 171, 3) := by decide +kernel
theorem dX6_met_37 : decode cX6_met 37 = .ok (.istore 4, 2) := by decide +kernel
theorem dX6_met_39 : decode cX6_met 39 = .ok (.iload_n 2, 1) := by decide +kernel
theorem dX6_met_40 : decode cX6_met 40 = .ok (.ifCond .eq 22, 3) := by decide +kernel
theorem dX6_met_43 : decode cX6_met 43 = .ok (.iload_n 3, 1) := by decide +kernel
theorem dX6_met_44 : decode cX6_met 44 = .ok (.iload 4, 2) := by decide +kernel
theorem dX6_met_46 : decode cX6_met 46 = .ok (.if_icmp .ne 14, 3) := by decide +kernel
theorem dX6_met_49 : decode cX6_met 49 = .ok (.iload_n 3, 1) := by decide +kernel
theorem dX6_met_50 : decode cX6_met 50 = .ok (.invokestatic 174, 3) := by decide +kernel
theorem dX6_met_53 : decode cX6_met 53 = .ok (.ifCond .eq 7, 3) := by decide +kernel
theorem dX6_met_56 : decode cX6_met 56 = .ok (.iload_n 3, 1) := by decide +kernel
theorem dX6_met_57 : decode cX6_met 57 = .ok (.goto 4, 3) := by decide +kernel
theorem dX6_met_60 : decode cX6_met 60 = .ok (.iconst 0, 1) := by decide +kernel
theorem dX6_met_61 : decode cX6_met 61 = .ok (.ireturn, 1) := by decide +kernel
theorem dX6_met_62 : decode cX6_met 62 = .ok (.iload_n 3, 1) := by decide +kernel
theorem dX6_met_63 : decode cX6_met 63 = .ok (.iload 4, 2) := by decide +kernel
theorem dX6_met_65 : decode cX6_met 65 = .ok (.iand, 1) := by decide +kernel
theorem dX6_met_66 : decode cX6_met 66 = .ok (.sipush (-257), 3) := by decide +kernel
theorem dX6_met_69 : decode cX6_met 69 = .ok (.iand, 1) := by decide +kernel
theorem dX6_met_70 : decode cX6_met 70 = .ok (.ireturn, 1) := by decide +kernel
theorem dX6_leg_0 : decode cX6_leg 0 = .ok (.aload_n 0, 1) := by decide +kernel
theorem dX6_leg_1 : decode cX6_leg 1 = .ok (.getfield 16, 3) := by decide +kernel
theorem dX6_leg_4 : decode cX6_leg 4 = .ok (.iload_n 1, 1) := by decide +kernel
theorem dX6_leg_5 : decode cX6_leg 5 = .ok (.invokevirtual 122, 3) := by decide +kernel
theorem dX6_leg_8 : decode cX6_leg 8 = .ok (.ifCond .eq 10, 3) := by decide +kernel
theorem dX6_leg_11 : decode cX6_leg 11 = .ok (.iload_n 2, 1) := by decide +kernel
theorem dX6_leg_12 : decode cX6_leg 12 = .ok (.invokestatic 111, 3) := by decide +kernel
theorem dX6_leg_15 : decode cX6_leg 15 = .ok (.ifCond .ne 5, 3) := by decide +kernel
theorem dX6_leg_18 : decode cX6_leg 18 = .ok (.iconst (-1), 1) := by decide +kernel
theorem dX6_leg_19 : decode cX6_leg 19 = .ok (.ireturn, 1) := by decide +kernel
theorem dX6_leg_20 : decode cX6_leg 20 = .ok (.aload_n 0, 1) := by decide +kernel
theorem dX6_leg_21 : decode cX6_leg 21 = .ok (.getfield 53, 3) := by decide +kernel
theorem dX6_leg_24 : decode cX6_leg 24 = .ok (.iload_n 1, 1) := by decide +kernel
theorem dX6_leg_25 : decode cX6_leg 25 = .ok (.iload_n 2, 1) := by decide +kernel
theorem dX6_leg_26 : decode cX6_leg 26 = .ok (.invokevirtual 194, 3) := by decide +kernel
theorem dX6_leg_29 : decode cX6_leg 29 = .ok (.ireturn, 1) := by decide +kernel
theorem dX6_forget_0 : decode cX6_forget 0 = .ok (.aload_n 0, 1) := by decide +kernel
theorem dX6_forget_1 : decode cX6_forget 1 = .ok (.getfield 53, 3) := by decide +kernel
theorem dX6_forget_4 : decode cX6_forget 4 = .ok (.getfield 79, 3) := by decide +kernel
theorem dX6_forget_7 : decode cX6_forget 7 = .ok (.istore_n 1, 1) := by decide +kernel
theorem dX6_forget_8 : decode cX6_forget 8 = .ok (.aload_n 0, 1) := by decide +kernel
theorem dX6_forget_9 : decode cX6_forget 9 = .ok (.getfield 53, 3) := by decide +kernel
theorem dX6_forget_12 : decode cX6_forget 12 = .ok (.iconst 0, 1) := by decide +kernel
theorem dX6_forget_13 : decode cX6_forget 13 = .ok (.putfield 79, 3) := by decide +kernel
theorem dX6_forget_16 : decode cX6_forget 16 = .ok (.iload_n 1, 1) := by decide +kernel
theorem dX6_forget_17 : decode cX6_forget 17 = .ok (.ireturn, 1) := by decide +kernel
theorem dX6_barred_0 : decode cX6_barred 0 = .ok (.aload_n 0, 1) := by decide +kernel
theorem dX6_barred_1 : decode cX6_barred 1 = .ok (.iload_n 1, 1) := by decide +kernel
theorem dX6_barred_2 : decode cX6_barred 2 = .ok (.invokevirtual 85, 3) := by decide +kernel
theorem dX6_barred_5 : decode cX6_barred 5 = .ok (.ifCond .eq 21, 3) := by decide +kernel
theorem dX6_barred_8 : decode cX6_barred 8 = .ok (.aload_n 0, 1) := by decide +kernel
theorem dX6_barred_9 : decode cX6_barred 9 = .ok (.getfield 53, 3) := by decide +kernel
theorem dX6_barred_12 : decode cX6_barred 12 = .ok (.aload_n 0, 1) := by decide +kernel
theorem dX6_barred_13 : decode cX6_barred 13 = .ok (.iload_n 1, 1) := by decide +kernel
theorem dX6_barred_14 : decode cX6_barred 14 = .ok (.invokevirtual 92, 3) := by decide +kernel
theorem dX6_barred_17 : decode cX6_barred 17 = .ok (.getfield 72, 3) := by decide +kernel
theorem dX6_barred_20 : decode cX6_barred 20 = .ok (.invokevirtual 197, 3) := by decide +kernel
theorem dX6_barred_23 : decode cX6_barred 23 = .ok (.goto 4, 3) := by decide +kernel
theorem dX6_barred_26 : decode cX6_barred 26 = .ok (.iconst (-1), 1) := by decide +kernel
theorem dX6_barred_27 : decode cX6_barred 27 = .ok (.ireturn, 1) := by decide +kernel
theorem dX6_count_0 : decode cX6_count 0 = .ok (.iload_n 1, 1) := by decide +kernel
theorem dX6_count_1 : decode cX6_count 1 = .ok (.tableswitch 102 0 6 #[43, 51, 59, 67, 78, 89, 97], 43) := by decide +kernel
theorem dX6_count_44 : decode cX6_count 44 = .ok (.aload_n 0, 1) := by decide +kernel
theorem dX6_count_45 : decode cX6_count 45 = .ok (.getfield 16, 3) := by decide +kernel
theorem dX6_count_48 : decode cX6_count 48 = .ok (.getfield 201, 3) := by decide +kernel
theorem dX6_count_51 : decode cX6_count 51 = .ok (.ireturn, 1) := by decide +kernel
theorem dX6_count_52 : decode cX6_count 52 = .ok (.aload_n 0, 1) := by decide +kernel
theorem dX6_count_53 : decode cX6_count 53 = .ok (.getfield 16, 3) := by decide +kernel
theorem dX6_count_56 : decode cX6_count 56 = .ok (.getfield 82, 3) := by decide +kernel
theorem dX6_count_59 : decode cX6_count 59 = .ok (.ireturn, 1) := by decide +kernel
theorem dX6_count_60 : decode cX6_count 60 = .ok (.aload_n 0, 1) := by decide +kernel
theorem dX6_count_61 : decode cX6_count 61 = .ok (.getfield 16, 3) := by decide +kernel
theorem dX6_count_64 : decode cX6_count 64 = .ok (.getfield 204, 3) := by decide +kernel
theorem dX6_count_67 : decode cX6_count 67 = .ok (.ireturn, 1) := by decide +kernel
theorem dX6_count_68 : decode cX6_count 68 = .ok (.aload_n 0, 1) := by decide +kernel
theorem dX6_count_69 : decode cX6_count 69 = .ok (.getfield 41, 3) := by decide +kernel
theorem dX6_count_72 : decode cX6_count 72 = .ok (.getfield 72, 3) := by decide +kernel
theorem dX6_count_75 : decode cX6_count 75 = .ok (.getfield 207, 3) := by decide +kernel
theorem dX6_count_78 : decode cX6_count 78 = .ok (.ireturn, 1) := by decide +kernel
theorem dX6_count_79 : decode cX6_count 79 = .ok (.aload_n 0, 1) := by decide +kernel
theorem dX6_count_80 : decode cX6_count 80 = .ok (.getfield 45, 3) := by decide +kernel
theorem dX6_count_83 : decode cX6_count 83 = .ok (.getfield 72, 3) := by decide +kernel
theorem dX6_count_86 : decode cX6_count 86 = .ok (.getfield 207, 3) := by decide +kernel
theorem dX6_count_89 : decode cX6_count 89 = .ok (.ireturn, 1) := by decide +kernel
theorem dX6_count_90 : decode cX6_count 90 = .ok (.aload_n 0, 1) := by decide +kernel
theorem dX6_count_91 : decode cX6_count 91 = .ok (.getfield 53, 3) := by decide +kernel
theorem dX6_count_94 : decode cX6_count 94 = .ok (.getfield 79, 3) := by decide +kernel
theorem dX6_count_97 : decode cX6_count 97 = .ok (.ireturn, 1) := by decide +kernel
theorem dX6_count_98 : decode cX6_count 98 = .ok (.aload_n 0, 1) := by decide +kernel
theorem dX6_count_99 : decode cX6_count 99 = .ok (.getfield 57, 3) := by decide +kernel
theorem dX6_count_102 : decode cX6_count 102 = .ok (.ireturn, 1) := by decide +kernel
theorem dX6_count_103 : decode cX6_count 103 = .ok (.iconst (-1), 1) := by decide +kernel
theorem dX6_count_104 : decode cX6_count 104 = .ok (.ireturn, 1) := by decide +kernel
theorem dX6_isMan_0 : decode cX6_isMan 0 = .ok (.aload_n 0, 1) := by decide +kernel
theorem dX6_isMan_1 : decode cX6_isMan 1 = .ok (.getfield 16, 3) := by decide +kernel
theorem dX6_isMan_4 : decode cX6_isMan 4 = .ok (.getfield 82, 3) := by decide +kernel
theorem dX6_isMan_7 : decode cX6_isMan 7 = .ok (.ifCond .le 16, 3) := by decide +kernel
theorem dX6_isMan_10 : decode cX6_isMan 10 = .ok (.iload_n 1, 1) := by decide +kernel
theorem dX6_isMan_11 : decode cX6_isMan 11 = .ok (.ifCond .eq 8, 3) := by decide +kernel
theorem dX6_isMan_14 : decode cX6_isMan 14 = .ok (.iload_n 1, 1) := by decide +kernel
theorem dX6_isMan_15 : decode cX6_isMan 15 = .ok (.iconst 1, 1) := by decide +kernel
theorem dX6_isMan_16 : decode cX6_isMan 16 = .ok (.if_icmp .ne 7, 3) := by decide +kernel
theorem dX6_isMan_19 : decode cX6_isMan 19 = .ok (.iconst 1, 1) := by decide +kernel
theorem dX6_isMan_20 : decode cX6_isMan 20 = .ok (.goto 4, 3) := by decide +kernel
theorem dX6_isMan_23 : decode cX6_isMan 23 = .ok (.iconst 0, 1) := by decide +kernel
theorem dX6_isMan_24 : decode cX6_isMan 24 = .ok (.ireturn, 1) := by decide +kernel
theorem dX6_searchOf_0 : decode cX6_searchOf 0 = .ok (.iload_n 1, 1) := by decide +kernel
theorem dX6_searchOf_1 : decode cX6_searchOf 1 = .ok (.ifCond .ne 10, 3) := by decide +kernel
theorem dX6_searchOf_4 : decode cX6_searchOf 4 = .ok (.aload_n 0, 1) := by decide +kernel
theorem dX6_searchOf_5 : decode cX6_searchOf 5 = .ok (.getfield 41, 3) := by decide +kernel
theorem dX6_searchOf_8 : decode cX6_searchOf 8 = .ok (.goto 7, 3) := by decide +kernel
theorem dX6_searchOf_11 : decode cX6_searchOf 11 = .ok (.aload_n 0, 1) := by decide +kernel
theorem dX6_searchOf_12 : decode cX6_searchOf 12 = .ok (.getfield 45, 3) := by decide +kernel
theorem dX6_searchOf_15 : decode cX6_searchOf 15 = .ok (.areturn, 1) := by decide +kernel
theorem dX6_isTimeOf_0 : decode cX6_isTimeOf 0 = .ok (.aload_n 0, 1) := by decide +kernel
theorem dX6_isTimeOf_1 : decode cX6_isTimeOf 1 = .ok (.iload_n 1, 1) := by decide +kernel
theorem dX6_isTimeOf_2 : decode cX6_isTimeOf 2 = .ok (.invokevirtual 85, 3) := by decide +kernel
theorem dX6_isTimeOf_5 : decode cX6_isTimeOf 5 = .ok (.ifCond .eq 26, 3) := by decide +kernel
theorem dX6_isTimeOf_8 : decode cX6_isTimeOf 8 = .ok (.iload_n 2, 1) := by decide +kernel
theorem dX6_isTimeOf_9 : decode cX6_isTimeOf 9 = .ok (.ifCond .lt 22, 3) := by decide +kernel
theorem dX6_isTimeOf_12 : decode cX6_isTimeOf 12 = .ok (.iload_n 2, 1) := by decide +kernel
theorem dX6_isTimeOf_13 : decode cX6_isTimeOf 13 = .ok (.aload_n 0, 1) := by decide +kernel
theorem dX6_isTimeOf_14 : decode cX6_isTimeOf 14 = .ok (.iload_n 1, 1) := by decide +kernel
theorem dX6_isTimeOf_15 : decode cX6_isTimeOf 15 = .ok (.invokevirtual 92, 3) := by decide +kernel
theorem dX6_isTimeOf_18 : decode cX6_isTimeOf 18 = .ok (.getfield 72, 3) := by decide +kernel
theorem dX6_isTimeOf_21 : decode cX6_isTimeOf 21 = .ok (.getfield 208, 3) := by decide +kernel
theorem dX6_isTimeOf_24 : decode cX6_isTimeOf 24 = .ok (.if_icmp .gt 7, 3) := by decide +kernel
theorem dX6_isTimeOf_27 : decode cX6_isTimeOf 27 = .ok (.iconst 1, 1) := by decide +kernel
theorem dX6_isTimeOf_28 : decode cX6_isTimeOf 28 = .ok (.goto 4, 3) := by decide +kernel
theorem dX6_isTimeOf_31 : decode cX6_isTimeOf 31 = .ok (.iconst 0, 1) := by decide +kernel
theorem dX6_isTimeOf_32 : decode cX6_isTimeOf 32 = .ok (.ireturn, 1) := by decide +kernel
theorem dX6_isHour_0 : decode cX6_isHour 0 = .ok (.iload_n 0, 1) := by decide +kernel
theorem dX6_isHour_1 : decode cX6_isHour 1 = .ok (.ifCond .lt 13, 3) := by decide +kernel
theorem dX6_isHour_4 : decode cX6_isHour 4 = .ok (.iload_n 0, 1) := by decide +kernel
theorem dX6_isHour_5 : decode cX6_isHour 5 = .ok (.bipush 96, 2) := by decide +kernel
theorem dX6_isHour_7 : decode cX6_isHour 7 = .ok (.if_icmp .gt 7, 3) := by decide +kernel
theorem dX6_isHour_10 : decode cX6_isHour 10 = .ok (.iconst 1, 1) := by decide +kernel
theorem dX6_isHour_11 : decode cX6_isHour 11 = .ok (.goto 4, 3) := by decide +kernel
theorem dX6_isHour_14 : decode cX6_isHour 14 = .ok (.iconst 0, 1) := by decide +kernel
theorem dX6_isHour_15 : decode cX6_isHour 15 = .ok (.ireturn, 1) := by decide +kernel
theorem dX6_isOneTown_0 : decode cX6_isOneTown 0 = .ok (.iload_n 0, 1) := by decide +kernel
theorem dX6_isOneTown_1 : decode cX6_isOneTown 1 = .ok (.invokestatic 211, 3) := by decide +kernel
theorem dX6_isOneTown_4 : decode cX6_isOneTown 4 = .ok (.iconst 1, 1) := by decide +kernel
theorem dX6_isOneTown_5 : decode cX6_isOneTown 5 = .ok (.if_icmp .ne 14, 3) := by decide +kernel
theorem dX6_isOneTown_8 : decode cX6_isOneTown 8 = .ok (.iload_n 0, 1) := by decide +kernel
theorem dX6_isOneTown_9 : decode cX6_isOneTown 9 = .ok (.sipush 256, 3) := by decide +kernel
theorem dX6_isOneTown_12 : decode cX6_isOneTown 12 = .ok (.if_icmp .eq 7, 3) := by decide +kernel
theorem dX6_isOneTown_15 : decode cX6_isOneTown 15 = .ok (.iconst 1, 1) := by decide +kernel
theorem dX6_isOneTown_16 : decode cX6_isOneTown 16 = .ok (.goto 4, 3) := by decide +kernel
theorem dX6_isOneTown_19 : decode cX6_isOneTown 19 = .ok (.iconst 0, 1) := by decide +kernel
theorem dX6_isOneTown_20 : decode cX6_isOneTown 20 = .ok (.ireturn, 1) := by decide +kernel
theorem dX7_init_0 : decode cX7_init 0 = .ok (.aload_n 0, 1) := by decide +kernel
theorem dX7_init_1 : decode cX7_init 1 = .ok (.invokespecial 3, 3) := by decide +kernel
theorem dX7_init_4 : decode cX7_init 4 = .ok (.aload_n 0, 1) := by decide +kernel
theorem dX7_init_5 : decode cX7_init 5 = .ok (.sipush 500, 3) := by decide +kernel
theorem dX7_init_8 : decode cX7_init 8 = .ok (.newarray .byte, 2) := by decide +kernel
theorem dX7_init_10 : decode cX7_init 10 = .ok (.putfield 9, 3) := by decide +kernel
theorem dX7_init_13 : decode cX7_init 13 = .ok (.aload_n 0, 1) := by decide +kernel
theorem dX7_init_14 : decode cX7_init 14 = .ok (.iconst 4, 1) := by decide +kernel
theorem dX7_init_15 : decode cX7_init 15 = .ok (.newarray .long, 2) := by decide +kernel
theorem dX7_init_17 : decode cX7_init 17 = .ok (.putfield 13, 3) := by decide +kernel
theorem dX7_init_20 : decode cX7_init 20 = .ok (.aload_n 0, 1) := by decide +kernel
theorem dX7_init_21 : decode cX7_init 21 = .ok (.iconst 4, 1) := by decide +kernel
theorem dX7_init_22 : decode cX7_init 22 = .ok (.newarray .int, 2) := by decide +kernel
theorem dX7_init_24 : decode cX7_init 24 = .ok (.putfield 17, 3) := by decide +kernel
theorem dX7_init_27 : decode cX7_init 27 = .ok (.aload_n 0, 1) := by decide +kernel
theorem dX7_init_28 : decode cX7_init 28 = .ok (.bipush 8, 2) := by decide +kernel
theorem dX7_init_30 : decode cX7_init 30 = .ok (.newarray .long, 2) := by decide +kernel
theorem dX7_init_32 : decode cX7_init 32 = .ok (.putfield 21, 3) := by decide +kernel
theorem dX7_init_35 : decode cX7_init 35 = .ok (.aload_n 0, 1) := by decide +kernel
theorem dX7_init_36 : decode cX7_init 36 = .ok (.bipush 8, 2) := by decide +kernel
theorem dX7_init_38 : decode cX7_init 38 = .ok (.newarray .int, 2) := by decide +kernel
theorem dX7_init_40 : decode cX7_init 40 = .ok (.putfield 24, 3) := by decide +kernel
theorem dX7_init_43 : decode cX7_init 43 = .ok (.aload_n 0, 1) := by decide +kernel
theorem dX7_init_44 : decode cX7_init 44 = .ok (.bipush 8, 2) := by decide +kernel
theorem dX7_init_46 : decode cX7_init 46 = .ok (.newarray .int, 2) := by decide +kernel
theorem dX7_init_48 : decode cX7_init 48 = .ok (.putfield 27, 3) := by decide +kernel
theorem dX7_init_51 : decode cX7_init 51 = .ok (.aload_n 0, 1) := by decide +kernel
theorem dX7_init_52 : decode cX7_init 52 = .ok (.bipush 96, 2) := by decide +kernel
theorem dX7_init_54 : decode cX7_init 54 = .ok (.newarray .int, 2) := by decide +kernel
theorem dX7_init_56 : decode cX7_init 56 = .ok (.putfield 30, 3) := by decide +kernel
theorem dX7_init_59 : decode cX7_init 59 = .ok (.aload_n 0, 1) := by decide +kernel
theorem dX7_init_60 : decode cX7_init 60 = .ok (.iconst 4, 1) := by decide +kernel
theorem dX7_init_61 : decode cX7_init 61 = .ok (.newarray .int, 2) := by decide +kernel
theorem dX7_init_63 : decode cX7_init 63 = .ok (.putfield 33, 3) := by decide +kernel
theorem dX7_init_66 : decode cX7_init 66 = .ok (.aload_n 0, 1) := by decide +kernel
theorem dX7_init_67 : decode cX7_init 67 = .ok (.bipush 8, 2) := by decide +kernel
theorem dX7_init_69 : decode cX7_init 69 = .ok (.newarray .int, 2) := by decide +kernel
theorem dX7_init_71 : decode cX7_init 71 = .ok (.putfield 36, 3) := by decide +kernel
theorem dX7_init_74 : decode cX7_init 74 = .ok (.aload_n 0, 1) := by decide +kernel
theorem dX7_init_75 : decode cX7_init 75 = .ok (.bipush 8, 2) := by decide +kernel
theorem dX7_init_77 : decode cX7_init 77 = .ok (.newarray .int, 2) := by decide +kernel
theorem dX7_init_79 : decode cX7_init 79 = .ok (.putfield 39, 3) := by decide +kernel
theorem dX7_init_82 : decode cX7_init 82 = .ok (.aload_n 0, 1) := by decide +kernel
theorem dX7_init_83 : decode cX7_init 83 = .ok (.bipush 96, 2) := by decide +kernel
theorem dX7_init_85 : decode cX7_init 85 = .ok (.newarray .int, 2) := by decide +kernel
theorem dX7_init_87 : decode cX7_init 87 = .ok (.putfield 42, 3) := by decide +kernel
theorem dX7_init_90 : decode cX7_init 90 = .ok (.aload_n 0, 1) := by decide +kernel
theorem dX7_init_91 : decode cX7_init 91 = .ok (.iconst 2, 1) := by decide +kernel
theorem dX7_init_92 : decode cX7_init 92 = .ok (.newarray .int, 2) := by decide +kernel
theorem dX7_init_94 : decode cX7_init 94 = .ok (.putfield 45, 3) := by decide +kernel
theorem dX7_init_97 : decode cX7_init 97 = .ok (.aload_n 0, 1) := by decide +kernel
theorem dX7_init_98 : decode cX7_init 98 = .ok (.iconst 2, 1) := by decide +kernel
theorem dX7_init_99 : decode cX7_init 99 = .ok (.newarray .int, 2) := by decide +kernel
theorem dX7_init_101 : decode cX7_init 101 = .ok (.putfield 48, 3) := by decide +kernel
theorem dX7_init_104 : decode cX7_init 104 = .ok (.aload_n 0, 1) := by decide +kernel
theorem dX7_init_105 : decode cX7_init 105 = .ok (.iconst 2, 1) := by decide +kernel
theorem dX7_init_106 : decode cX7_init 106 = .ok (.newarray .int, 2) := by decide +kernel
theorem dX7_init_108 : decode cX7_init 108 = .ok (.putfield 51, 3) := by decide +kernel
theorem dX7_init_111 : decode cX7_init 111 = .ok (.aload_n 0, 1) := by decide +kernel
theorem dX7_init_112 : decode cX7_init 112 = .ok (.iconst 2, 1) := by decide +kernel
theorem dX7_init_113 : decode cX7_init 113 = .ok (.newarray .int, 2) := by decide +kernel
theorem dX7_init_115 : decode cX7_init 115 = .ok (.putfield 54, 3) := by decide +kernel
theorem dX7_init_118 : decode cX7_init 118 = .ok (.aload_n 0, 1) := by decide +kernel
theorem dX7_init_119 : decode cX7_init 119 = .ok (.bipush 16, 2) := by decide +kernel
theorem dX7_init_121 : decode cX7_init 121 = .ok (.newarray .int, 2) := by decide +kernel
theorem dX7_init_123 : decode cX7_init 123 = .ok (.putfield 57, 3) := by decide +kernel
theorem dX7_init_126 : decode cX7_init 126 = .ok (.aload_n 0, 1) := by decide +kernel
theorem dX7_init_127 : decode cX7_init 127 = .ok (.bipush 16, 2) := by decide +kernel
theorem dX7_init_129 : decode cX7_init 129 = .ok (.newarray .int, 2) := by decide +kernel
theorem dX7_init_131 : decode cX7_init 131 = .ok (.putfield 60, 3) := by decide +kernel
theorem dX7_init_134 : decode cX7_init 134 = .ok (.aload_n 0, 1) := by decide +kernel
theorem dX7_init_135 : decode cX7_init 135 = .ok (.bipush 16, 2) := by decide +kernel
theorem dX7_init_137 : decode cX7_init 137 = .ok (.newarray .int, 2) := by decide +kernel
theorem dX7_init_139 : decode cX7_init 139 = .ok (.putfield 63, 3) := by decide +kernel
theorem dX7_init_142 : decode cX7_init 142 = .ok (.aload_n 0, 1) := by decide +kernel
theorem dX7_init_143 : decode cX7_init 143 = .ok (.bipush 16, 2) := by decide +kernel
theorem dX7_init_145 : decode cX7_init 145 = .ok (.newarray .int, 2) := by decide +kernel
theorem dX7_init_147 : decode cX7_init 147 = .ok (.putfield 66, 3) := by decide +kernel
theorem dX7_init_150 : decode cX7_init 150 = .ok (.aload_n 0, 1) := by decide +kernel
theorem dX7_init_151 : decode cX7_init 151 = .ok (.bipush 16, 2) := by decide +kernel
theorem dX7_init_153 : decode cX7_init 153 = .ok (.newarray .int, 2) := by decide +kernel
theorem dX7_init_155 : decode cX7_init 155 = .ok (.putfield 69, 3) := by decide +kernel
theorem dX7_init_158 : decode cX7_init 158 = .ok (.aload_n 0, 1) := by decide +kernel
theorem dX7_init_159 : decode cX7_init 159 = .ok (.bipush 16, 2) := by decide +kernel
theorem dX7_init_161 : decode cX7_init 161 = .ok (.newarray .boolean, 2) := by decide +kernel
theorem dX7_init_163 : decode cX7_init 163 = .ok (.putfield 72, 3) := by decide +kernel
theorem dX7_init_166 : decode cX7_init 166 = .ok (.aload_n 0, 1) := by decide +kernel
theorem dX7_init_167 : decode cX7_init 167 = .ok (.bipush 20, 2) := by decide +kernel
theorem dX7_init_169 : decode cX7_init 169 = .ok (.newarray .int, 2) := by decide +kernel
theorem dX7_init_171 : decode cX7_init 171 = .ok (.putfield 76, 3) := by decide +kernel
theorem dX7_init_174 : decode cX7_init 174 = .ok (.aload_n 0, 1) := by decide +kernel
theorem dX7_init_175 : decode cX7_init 175 = .ok (.bipush 20, 2) := by decide +kernel
theorem dX7_init_177 : decode cX7_init 177 = .ok (.newarray .int, 2) := by decide +kernel
theorem dX7_init_179 : decode cX7_init 179 = .ok (.putfield 79, 3) := by decide +kernel
theorem dX7_init_182 : decode cX7_init 182 = .ok (.aload_n 0, 1) := by decide +kernel
theorem dX7_init_183 : decode cX7_init 183 = .ok (.bipush 6, 2) := by decide +kernel
theorem dX7_init_185 : decode cX7_init 185 = .ok (.newarray .int, 2) := by decide +kernel
theorem dX7_init_187 : decode cX7_init 187 = .ok (.putfield 82, 3) := by decide +kernel
theorem dX7_init_190 : decode cX7_init 190 = .ok (.aload_n 0, 1) := by decide +kernel
theorem dX7_init_191 : decode cX7_init 191 = .ok (.bipush 97, 2) := by decide +kernel
theorem dX7_init_193 : decode cX7_init 193 = .ok (.newarray .int, 2) := by decide +kernel
theorem dX7_init_195 : decode cX7_init 195 = .ok (.putfield 85, 3) := by decide +kernel
theorem dX7_init_198 : decode cX7_init 198 = .ok (.aload_n 0, 1) := by decide +kernel
theorem dX7_init_199 : decode cX7_init 199 = .ok (.iconst 2, 1) := by decide +kernel
theorem dX7_init_200 : decode cX7_init 200 = .ok (.newarray .int, 2) := by decide +kernel
theorem dX7_init_202 : decode cX7_init 202 = .ok (.putfield 88, 3) := by decide +kernel
theorem dX7_init_205 : decode cX7_init 205 = .ok (.aload_n 0, 1) := by decide +kernel
theorem dX7_init_206 : decode cX7_init 206 = .ok (.iconst 2, 1) := by decide +kernel
theorem dX7_init_207 : decode cX7_init 207 = .ok (.newarray .int, 2) := by decide +kernel
theorem dX7_init_209 : decode cX7_init 209 = .ok (.putfield 91, 3) := by decide +kernel
theorem dX7_init_212 : decode cX7_init 212 = .ok (.aload_n 0, 1) := by decide +kernel
theorem dX7_init_213 : decode cX7_init 213 = .ok (.iconst 2, 1) := by decide +kernel
theorem dX7_init_214 : decode cX7_init 214 = .ok (.newarray .int, 2) := by decide +kernel
theorem dX7_init_216 : decode cX7_init 216 = .ok (.putfield 94, 3) := by decide +kernel
theorem dX7_init_219 : decode cX7_init 219 = .ok (.aload_n 0, 1) := by decide +kernel
theorem dX7_init_220 : decode cX7_init 220 = .ok (.ldc 97, 2) := by decide +kernel
theorem dX7_init_222 : decode cX7_init 222 = .ok (.newarray .int, 2) := by decide +kernel
theorem dX7_init_224 : decode cX7_init 224 = .ok (.putfield 98, 3) := by decide +kernel
theorem dX7_init_227 : decode cX7_init 227 = .ok (.aload_n 0, 1) := by decide +kernel
theorem dX7_init_228 : decode cX7_init 228 = .ok (.ldc 97, 2) := by decide +kernel
theorem dX7_init_230 : decode cX7_init 230 = .ok (.newarray .int, 2) := by decide +kernel
theorem dX7_init_232 : decode cX7_init 232 = .ok (.putfield 101, 3) := by decide +kernel
theorem dX7_init_235 : decode cX7_init 235 = .ok (.aload_n 0, 1) := by decide +kernel
theorem dX7_init_236 : decode cX7_init 236 = .ok (.ldc 97, 2) := by decide +kernel
theorem dX7_init_238 : decode cX7_init 238 = .ok (.newarray .boolean, 2) := by decide +kernel
theorem dX7_init_240 : decode cX7_init 240 = .ok (.putfield 104, 3) := by decide +kernel
theorem dX7_init_243 : decode cX7_init 243 = .ok (.aload_n 0, 1) := by decide +kernel
theorem dX7_init_244 : decode cX7_init 244 = .ok (.bipush 97, 2) := by decide +kernel
theorem dX7_init_246 : decode cX7_init 246 = .ok (.newarray .int, 2) := by decide +kernel
theorem dX7_init_248 : decode cX7_init 248 = .ok (.putfield 107, 3) := by decide +kernel
theorem dX7_init_251 : decode cX7_init 251 = .ok (.aload_n 0, 1) := by decide +kernel
theorem dX7_init_252 : decode cX7_init 252 = .ok (.bipush 97, 2) := by decide +kernel
theorem dX7_init_254 : decode cX7_init 254 = .ok (.newarray .boolean, 2) := by decide +kernel
theorem dX7_init_256 : decode cX7_init 256 = .ok (.putfield 110, 3) := by decide +kernel
theorem dX7_init_259 : decode cX7_init 259 = .ok (.return_, 1) := by decide +kernel
theorem dX7_in_0 : decode cX7_in 0 = .ok (.iload_n 0, 1) := by decide +kernel
theorem dX7_in_1 : decode cX7_in 1 = .ok (.iload_n 1, 1) := by decide +kernel
theorem dX7_in_2 : decode cX7_in 2 = .ok (.if_icmp .lt 12, 3) := by decide +kernel
theorem dX7_in_5 : decode cX7_in 5 = .ok (.iload_n 0, 1) := by decide +kernel
theorem dX7_in_6 : decode cX7_in 6 = .ok (.iload_n 2, 1) := by decide +kernel
theorem dX7_in_7 : decode cX7_in 7 = .ok (.if_icmp .gt 7, 3) := by decide +kernel
theorem dX7_in_10 : decode cX7_in 10 = .ok (.iconst 1, 1) := by decide +kernel
theorem dX7_in_11 : decode cX7_in 11 = .ok (.goto 4, 3) := by decide +kernel
theorem dX7_in_14 : decode cX7_in 14 = .ok (.iconst 0, 1) := by decide +kernel
theorem dX7_in_15 : decode cX7_in 15 = .ok (.ireturn, 1) := by decide +kernel
theorem dX7_feed_0 : decode cX7_feed 0 = .ok (.aload_n 0, 1) := by decide +kernel
theorem dX7_feed_1 : decode cX7_feed 1 = .ok (.getfield 113, 3) := by decide +kernel
theorem dX7_feed_4 : decode cX7_feed 4 = .ok (.bipush 20, 2) := by decide +kernel
theorem dX7_feed_6 : decode cX7_feed 6 = .ok (.iadd, 1) := by decide +kernel
theorem dX7_feed_7 : decode cX7_feed 7 = .ok (.sipush 500, 3) := by decide +kernel
theorem dX7_feed_10 : decode cX7_feed 10 = .ok (.if_icmp .le 5, 3) := by decide +kernel
theorem dX7_feed_13 : decode cX7_feed 13 = .ok (.iconst (-1), 1) := by decide +kernel
theorem dX7_feed_14 : decode cX7_feed 14 = .ok (.ireturn, 1) := by decide +kernel
theorem dX7_feed_15 : decode cX7_feed 15 = .ok (.iconst 0, 1) := by decide +kernel
theorem dX7_feed_16 : decode cX7_feed 16 = .ok (.istore 6, 2) := by decide +kernel
theorem dX7_feed_18 : decode cX7_feed 18 = .ok (.iload 6, 2) := by decide +kernel
theorem dX7_feed_20 : decode cX7_feed 20 = .ok (.bipush 20, 2) := by decide +kernel
theorem dX7_feed_22 : decode cX7_feed 22 = .ok (.if_icmp .ge 90, 3) := by decide +kernel
theorem dX7_feed_25 : decode cX7_feed 25 = .ok (.iload 6, 2) := by decide +kernel
theorem dX7_feed_27 : decode cX7_feed 27 = .ok (.iconst 4, 1) := by decide +kernel
theorem dX7_feed_28 : decode cX7_feed 28 = .ok (.if_icmp .ge 7, 3) := by decide +kernel
theorem dX7_feed_31 : decode cX7_feed 31 = .ok (.iload_n 1, 1) := by decide +kernel
theorem dX7_feed_32 : decode cX7_feed 32 = .ok (.goto 39, 3) := by decide +kernel
theorem dX7_feed_35 : decode cX7_feed 35 = .ok (.iload 6, 2) := by decide +kernel
theorem dX7_feed_37 : decode cX7_feed 37 = .ok (.bipush 8, 2) := by decide +kernel
theorem dX7_feed_39 : decode cX7_feed 39 = .ok (.if_icmp .ge 7, 3) := by decide +kernel
theorem dX7_feed_42 : decode cX7_feed 42 = .ok (.iload_n 2, 1) := by decide +kernel
theorem dX7_feed_43 : decode cX7_feed 43 = .ok (.goto 28, 3) := by decide +kernel
theorem dX7_feed_46 : decode cX7_feed 46 = .ok (.iload 6, 2) := by decide +kernel
theorem dX7_feed_48 : decode cX7_feed 48 = .ok (.bipush 12, 2) := by decide +kernel
theorem dX7_feed_50 : decode cX7_feed 50 = .ok (.if_icmp .ge 7, 3) := by decide +kernel
theorem dX7_feed_53 : decode cX7_feed 53 = .ok (.iload_n 3, 1) := by decide +kernel
theorem dX7_feed_54 : decode cX7_feed 54 = .ok (.goto 17, 3) := by decide +kernel
theorem dX7_feed_57 : decode cX7_feed 57 = .ok (.iload 6, 2) := by decide +kernel
theorem dX7_feed_59 : decode cX7_feed 59 = .ok (.bipush 16, 2) := by decide +kernel
theorem dX7_feed_61 : decode cX7_feed 61 = .ok (.if_icmp .ge 8, 3) := by decide +kernel
theorem dX7_feed_64 : decode cX7_feed 64 = .ok (.iload 4, 2) := by decide +kernel
theorem dX7_feed_66 : decode cX7_feed 66 = .ok (.goto 5, 3) := by decide +kernel
theorem dX7_feed_69 : decode cX7_feed 69 = .ok (.iload 5, 2) := by decide +kernel
theorem dX7_feed_71 : decode cX7_feed 71 = .ok (.istore 7, 2) := by decide +kernel
theorem dX7_feed_73 : decode cX7_feed 73 = .ok (.aload_n 0, 1) := by decide +kernel
theorem dX7_feed_74 : decode cX7_feed 74 = .ok (.getfield 9, 3) := by decide +kernel
theorem dX7_feed_77 : decode cX7_feed 77 = .ok (.aload_n 0, 1) := by decide +kernel
theorem dX7_feed_78 : decode cX7_feed 78 = .ok (.getfield 113, 3) := by decide +kernel
theorem dX7_feed_81 : decode cX7_feed 81 = .ok (.iload 7, 2) := by decide +kernel
theorem dX7_feed_83 : decode cX7_feed 83 = .ok (.bipush 24, 2) := by decide +kernel
theorem dX7_feed_85 : decode cX7_feed 85 = .ok (.bipush 8, 2) := by decide +kernel
theorem dX7_feed_87 : decode cX7_feed 87 = .ok (.iload 6, 2) := by decide +kernel
theorem dX7_feed_89 : decode cX7_feed 89 = .ok (.iconst 4, 1) := by decide +kernel
theorem dX7_feed_90 : decode cX7_feed 90 = .ok (.irem, 1) := by decide +kernel
theorem dX7_feed_91 : decode cX7_feed 91 = .ok (.imul, 1) := by decide +kernel
theorem dX7_feed_92 : decode cX7_feed 92 = .ok (.isub, 1) := by decide +kernel
theorem dX7_feed_93 : decode cX7_feed 93 = .ok (.ishr, 1) := by decide +kernel
theorem dX7_feed_94 : decode cX7_feed 94 = .ok (.i2b, 1) := by decide +kernel
theorem dX7_feed_95 : decode cX7_feed 95 = .ok (.bastore, 1) := by decide +kernel
theorem dX7_feed_96 : decode cX7_feed 96 = .ok (.aload_n 0, 1) := by decide +kernel
theorem dX7_feed_97 : decode cX7_feed 97 = .ok (.dup, 1) := by decide +kernel
theorem dX7_feed_98 : decode cX7_feed 98 = .ok (.getfield 113, 3) := by decide +kernel
theorem dX7_feed_101 : decode cX7_feed 101 = .ok (.iconst 1, 1) := by decide +kernel
theorem dX7_feed_102 : decode cX7_feed 102 = .ok (.iadd, 1) := by decide +kernel
theorem dX7_feed_103 : decode cX7_feed 103 = .ok (.putfield 113, 3) := by decide +kernel
theorem dX7_feed_106 : decode cX7_feed 106 = .ok (.iinc 6 1, 3) := by decide +kernel
theorem dX7_feed_109 : decode cX7_feed 109 = .ok (.goto (-91), 3) := by decide +kernel
theorem dX7_feed_112 : decode cX7_feed 112 = .ok (.aload_n 0, 1) := by decide +kernel
theorem dX7_feed_113 : decode cX7_feed 113 = .ok (.getfield 113, 3) := by decide +kernel
theorem dX7_feed_116 : decode cX7_feed 116 = .ok (.ireturn, 1) := by decide +kernel
theorem dX7_end_0 : decode cX7_end 0 = .ok (.iload_n 1, 1) := by decide +kernel
theorem dX7_end_1 : decode cX7_end 1 = .ok (.iconst 0, 1) := by decide +kernel
theorem dX7_end_2 : decode cX7_end 2 = .ok (.aload_n 0, 1) := by decide +kernel
theorem dX7_end_3 : decode cX7_end 3 = .ok (.getfield 113, 3) := by decide +kernel
theorem dX7_end_6 : decode cX7_end 6 = .ok (.invokestatic 117, 3) := by decide +kernel
theorem dX7_end_9 : decode cX7_end 9 = .ok (.ifCond .ne 5, 3) := by decide +kernel
theorem dX7_end_12 : decode cX7_end 12 = .ok (.iconst 0, 1) := by decide +kernel
theorem dX7_end_13 : decode cX7_end 13 = .ok (.ireturn, 1) := by decide +kernel
theorem dX7_end_14 : decode cX7_end 14 = .ok (.aload_n 0, 1) := by decide +kernel
theorem dX7_end_15 : decode cX7_end 15 = .ok (.iload_n 1, 1) := by decide +kernel
theorem dX7_end_16 : decode cX7_end 16 = .ok (.putfield 113, 3) := by decide +kernel
theorem dX7_end_19 : decode cX7_end 19 = .ok (.iconst 1, 1) := by decide +kernel
theorem dX7_end_20 : decode cX7_end 20 = .ok (.ireturn, 1) := by decide +kernel
theorem dX7_isLetter_0 : decode cX7_isLetter 0 = .ok (.iload_n 0, 1) := by decide +kernel
theorem dX7_isLetter_1 : decode cX7_isLetter 1 = .ok (.bipush 97, 2) := by decide +kernel
theorem dX7_isLetter_3 : decode cX7_isLetter 3 = .ok (.if_icmp .lt 13, 3) := by decide +kernel
theorem dX7_isLetter_6 : decode cX7_isLetter 6 = .ok (.iload_n 0, 1) := by decide +kernel
theorem dX7_isLetter_7 : decode cX7_isLetter 7 = .ok (.bipush 122, 2) := by decide +kernel
theorem dX7_isLetter_9 : decode cX7_isLetter 9 = .ok (.if_icmp .gt 7, 3) := by decide +kernel
theorem dX7_isLetter_12 : decode cX7_isLetter 12 = .ok (.iconst 1, 1) := by decide +kernel
theorem dX7_isLetter_13 : decode cX7_isLetter 13 = .ok (.goto 4, 3) := by decide +kernel
theorem dX7_isLetter_16 : decode cX7_isLetter 16 = .ok (.iconst 0, 1) := by decide +kernel
theorem dX7_isLetter_17 : decode cX7_isLetter 17 = .ok (.ireturn, 1) := by decide +kernel
theorem dX7_isDigit_0 : decode cX7_isDigit 0 = .ok (.iload_n 0, 1) := by decide +kernel
theorem dX7_isDigit_1 : decode cX7_isDigit 1 = .ok (.bipush 48, 2) := by decide +kernel
theorem dX7_isDigit_3 : decode cX7_isDigit 3 = .ok (.if_icmp .lt 13, 3) := by decide +kernel
theorem dX7_isDigit_6 : decode cX7_isDigit 6 = .ok (.iload_n 0, 1) := by decide +kernel
theorem dX7_isDigit_7 : decode cX7_isDigit 7 = .ok (.bipush 57, 2) := by decide +kernel
theorem dX7_isDigit_9 : decode cX7_isDigit 9 = .ok (.if_icmp .gt 7, 3) := by decide +kernel
theorem dX7_isDigit_12 : decode cX7_isDigit 12 = .ok (.iconst 1, 1) := by decide +kernel
theorem dX7_isDigit_13 : decode cX7_isDigit 13 = .ok (.goto 4, 3) := by decide +kernel
theorem dX7_isDigit_16 : decode cX7_isDigit 16 = .ok (.iconst 0, 1) := by decide +kernel
theorem dX7_isDigit_17 : decode cX7_isDigit 17 = .ok (.ireturn, 1) := by decide +kernel
theorem dX7_next_0 : decode cX7_next 0 = .ok (.aload_n 0, 1) := by decide +kernel
theorem dX7_next_1 : decode cX7_next 1 = .ok (.getfield 121, 3) := by decide +kernel
theorem dX7_next_4 : decode cX7_next 4 = .ok (.aload_n 0, 1) := by decide +kernel
theorem dX7_next_5 : decode cX7_next 5 = .ok (.getfield 113, 3) := by decide +kernel
theorem dX7_next_8 : decode cX7_next 8 = .ok (.if_icmp .ge 44, 3) := by decide +kernel
theorem dX7_next_11 : decode cX7_next 11 = .ok (.aload_n 0, 1) := by decide +kernel
theorem dX7_next_12 : decode cX7_next 12 = .ok (.getfield 9, 3) := by decide +kernel
theorem dX7_next_15 : decode cX7_next 15 = .ok (.aload_n 0, 1) := by decide +kernel
theorem dX7_next_16 : decode cX7_next 16 = .ok (.getfield 121, 3) := by decide +kernel
theorem dX7_next_19 : decode cX7_next 19 = .ok (.baload, 1) := by decide +kernel
theorem dX7_next_20 : decode cX7_next 20 = .ok (.bipush 32, 2) := by decide +kernel
theorem dX7_next_22 : decode cX7_next 22 = .ok (.if_icmp .eq 17, 3) := by decide +kernel
theorem dX7_next_25 : decode cX7_next 25 = .ok (.aload_n 0, 1) := by decide +kernel
theorem dX7_next_26 : decode cX7_next 26 = .ok (.getfield 9, 3) := by decide +kernel
theorem dX7_next_29 : decode cX7_next 29 = .ok (.aload_n 0, 1) := by decide +kernel
theorem dX7_next_30 : decode cX7_next 30 = .ok (.getfield 121, 3) := by decide +kernel
theorem dX7_next_33 : decode cX7_next 33 = .ok (.baload, 1) := by decide +kernel
theorem dX7_next_34 : decode cX7_next 34 = .ok (.bipush 10, 2) := by decide +kernel
theorem dX7_next_36 : decode cX7_next 36 = .ok (.if_icmp .ne 16, 3) := by decide +kernel
theorem dX7_next_39 : decode cX7_next 39 = .ok (.aload_n 0, 1) := by decide +kernel
theorem dX7_next_40 : decode cX7_next 40 = .ok (.dup, 1) := by decide +kernel
theorem dX7_next_41 : decode cX7_next 41 = .ok (.getfield 121, 3) := by decide +kernel
theorem dX7_next_44 : decode cX7_next 44 = .ok (.iconst 1, 1) := by decide +kernel
theorem dX7_next_45 : decode cX7_next 45 = .ok (.iadd, 1) := by decide +kernel
theorem dX7_next_46 : decode cX7_next 46 = .ok (.putfield 121, 3) := by decide +kernel
theorem dX7_next_49 : decode cX7_next 49 = .ok (.goto (-49), 3) := by decide +kernel
theorem dX7_next_52 : decode cX7_next 52 = .ok (.aload_n 0, 1) := by decide +kernel
theorem dX7_next_53 : decode cX7_next 53 = .ok (.aload_n 0, 1) := by decide +kernel
theorem dX7_next_54 : decode cX7_next 54 = .ok (.getfield 121, 3) := by decide +kernel
theorem dX7_next_57 : decode cX7_next 57 = .ok (.putfield 124, 3) := by decide +kernel
theorem dX7_next_60 : decode cX7_next 60 = .ok (.aload_n 0, 1) := by decide +kernel
theorem dX7_next_61 : decode cX7_next 61 = .ok (.lconst 0, 1) := by decide +kernel
theorem dX7_next_62 : decode cX7_next 62 = .ok (.putfield 127, 3) := by decide +kernel
theorem dX7_next_65 : decode cX7_next 65 = .ok (.aload_n 0, 1) := by decide +kernel
theorem dX7_next_66 : decode cX7_next 66 = .ok (.iconst 0, 1) := by decide +kernel
theorem dX7_next_67 : decode cX7_next 67 = .ok (.putfield 131, 3) := by decide +kernel
theorem dX7_next_70 : decode cX7_next 70 = .ok (.aload_n 0, 1) := by decide +kernel
theorem dX7_next_71 : decode cX7_next 71 = .ok (.getfield 121, 3) := by decide +kernel
theorem dX7_next_74 : decode cX7_next 74 = .ok (.aload_n 0, 1) := by decide +kernel
theorem dX7_next_75 : decode cX7_next 75 = .ok (.getfield 113, 3) := by decide +kernel
theorem dX7_next_78 : decode cX7_next 78 = .ok (.if_icmp .ne 4, 3) := by decide +kernel
theorem dX7_next_81 : decode cX7_next 81 = .ok (.return_, 1) := by decide +kernel
theorem dX7_next_82 : decode cX7_next 82 = .ok (.aload_n 0, 1) := by decide +kernel
theorem dX7_next_83 : decode cX7_next 83 = .ok (.getfield 9, 3) := by decide +kernel
theorem dX7_next_86 : decode cX7_next 86 = .ok (.aload_n 0, 1) := by decide +kernel
theorem dX7_next_87 : decode cX7_next 87 = .ok (.getfield 121, 3) := by decide +kernel
theorem dX7_next_90 : decode cX7_next 90 = .ok (.baload, 1) := by decide +kernel
theorem dX7_next_91 : decode cX7_next 91 = .ok (.istore_n 1, 1) := by decide +kernel
theorem dX7_next_92 : decode cX7_next 92 = .ok (.iload_n 1, 1) := by decide +kernel
theorem dX7_next_93 : decode cX7_next 93 = .ok (.invokestatic 134, 3) := by decide +kernel
theorem dX7_next_96 : decode cX7_next 96 = .ok (.ifCond .eq 105, 3) := by decide +kernel
theorem dX7_next_99 : decode cX7_next 99 = .ok (.aload_n 0, 1) := by decide +kernel
theorem dX7_next_100 : decode cX7_next 100 = .ok (.getfield 121, 3) := by decide +kernel
theorem dX7_next_103 : decode cX7_next 103 = .ok (.aload_n 0, 1) := by decide +kernel
theorem dX7_next_104 : decode cX7_next 104 = .ok (.getfield 113, 3) := by decide +kernel
theorem dX7_next_107 : decode cX7_next 107 = .ok (.if_icmp .ge 67, 3) := by decide +kernel
theorem dX7_next_110 : decode cX7_next 110 = .ok (.aload_n 0, 1) := by decide +kernel
theorem dX7_next_111 : decode cX7_next 111 = .ok (.getfield 9, 3) := by decide +kernel
theorem dX7_next_114 : decode cX7_next 114 = .ok (.aload_n 0, 1) := by decide +kernel
theorem dX7_next_115 : decode cX7_next 115 = .ok (.getfield 121, 3) := by decide +kernel
theorem dX7_next_118 : decode cX7_next 118 = .ok (.baload, 1) := by decide +kernel
theorem dX7_next_119 : decode cX7_next 119 = .ok (.invokestatic 134, 3) := by decide +kernel
theorem dX7_next_122 : decode cX7_next 122 = .ok (.ifCond .eq 52, 3) := by decide +kernel
theorem dX7_next_125 : decode cX7_next 125 = .ok (.aload_n 0, 1) := by decide +kernel
theorem dX7_next_126 : decode cX7_next 126 = .ok (.getfield 121, 3) := by decide +kernel
theorem dX7_next_129 : decode cX7_next 129 = .ok (.aload_n 0, 1) := by decide +kernel
theorem dX7_next_130 : decode cX7_next 130 = .ok (.getfield 124, 3) := by decide +kernel
theorem dX7_next_133 : decode cX7_next 133 = .ok (.isub, 1) := by decide +kernel
theorem dX7_next_134 : decode cX7_next 134 = .ok (.bipush 8, 2) := by decide +kernel
theorem dX7_next_136 : decode cX7_next 136 = .ok (.if_icmp .ge 25, 3) := by decide +kernel
theorem dX7_next_139 : decode cX7_next 139 = .ok (.aload_n 0, 1) := by decide +kernel
theorem dX7_next_140 : decode cX7_next 140 = .ok (.aload_n 0, 1) := by decide +kernel
theorem dX7_next_141 : decode cX7_next 141 = .ok (.getfield 127, 3) := by decide +kernel
theorem dX7_next_144 : decode cX7_next 144 = .ok (.bipush 8, 2) := by decide +kernel
theorem dX7_next_146 : decode cX7_next 146 = .ok (.lshl, 1) := by decide +kernel
theorem dX7_next_147 : decode cX7_next 147 = .ok (.aload_n 0, 1) := by decide +kernel
theorem dX7_next_148 : decode cX7_next 148 = .ok (.getfield 9, 3) := by decide +kernel
theorem dX7_next_151 : decode cX7_next 151 = .ok (.aload_n 0, 1) := by decide +kernel
theorem dX7_next_152 : decode cX7_next 152 = .ok (.getfield 121, 3) := by decide +kernel
theorem dX7_next_155 : decode cX7_next 155 = .ok (.baload, 1) := by decide +kernel
theorem dX7_next_156 : decode cX7_next 156 = .ok (.i2l, 1) := by decide +kernel
theorem dX7_next_157 : decode cX7_next 157 = .ok (.lor, 1) := by decide +kernel
theorem dX7_next_158 : decode cX7_next 158 = .ok (.putfield 127, 3) := by decide +kernel
theorem dX7_next_161 : decode cX7_next 161 = .ok (.aload_n 0, 1) := by decide +kernel
theorem dX7_next_162 : decode cX7_next 162 = .ok (.dup, 1) := by decide +kernel
theorem dX7_next_163 : decode cX7_next 163 = .ok (.getfield 121, 3) := by decide +kernel
theorem dX7_next_166 : decode cX7_next 166 = .ok (.iconst 1, 1) := by decide +kernel
theorem dX7_next_167 : decode cX7_next 167 = .ok (.iadd, 1) := by decide +kernel
theorem dX7_next_168 : decode cX7_next 168 = .ok (.putfield 121, 3) := by decide +kernel
theorem dX7_next_171 : decode cX7_next 171 = .ok (.goto (-72), 3) := by decide +kernel
theorem dX7_next_174 : decode cX7_next 174 = .ok (.aload_n 0, 1) := by decide +kernel
theorem dX7_next_175 : decode cX7_next 175 = .ok (.getfield 121, 3) := by decide +kernel
theorem dX7_next_178 : decode cX7_next 178 = .ok (.aload_n 0, 1) := by decide +kernel
theorem dX7_next_179 : decode cX7_next 179 = .ok (.getfield 124, 3) := by decide +kernel
theorem dX7_next_182 : decode cX7_next 182 = .ok (.isub, 1) := by decide +kernel
theorem dX7_next_183 : decode cX7_next 183 = .ok (.bipush 8, 2) := by decide +kernel
theorem dX7_next_185 : decode cX7_next 185 = .ok (.if_icmp .le 8, 3) := by decide +kernel
theorem dX7_next_188 : decode cX7_next 188 = .ok (.aload_n 0, 1) := by decide +kernel
theorem dX7_next_189 : decode cX7_next 189 = .ok (.lconst 0, 1) := by decide +kernel
theorem dX7_next_190 : decode cX7_next 190 = .ok (.putfield 127, 3) := by decide +kernel
theorem dX7_next_193 : decode cX7_next 193 = .ok (.aload_n 0, 1) := by decide +kernel
theorem dX7_next_194 : decode cX7_next 194 = .ok (.iconst 1, 1) := by decide +kernel
theorem dX7_next_195 : decode cX7_next 195 = .ok (.putfield 131, 3) := by decide +kernel
theorem dX7_next_198 : decode cX7_next 198 = .ok (.goto 127, 3) := by decide +kernel
theorem dX7_next_201 : decode cX7_next 201 = .ok (.iload_n 1, 1) := by decide +kernel
theorem dX7_next_202 : decode cX7_next 202 = .ok (.invokestatic 138, 3) := by decide +kernel
theorem dX7_next_205 : decode cX7_next 205 = .ok (.ifCond .eq 95, 3) := by decide +kernel
theorem dX7_next_208 : decode cX7_next 208 = .ok (.aload_n 0, 1) := by decide +kernel
theorem dX7_next_209 : decode cX7_next 209 = .ok (.getfield 121, 3) := by decide +kernel
theorem dX7_next_212 : decode cX7_next 212 = .ok (.aload_n 0, 1) := by decide +kernel
theorem dX7_next_213 : decode cX7_next 213 = .ok (.getfield 113, 3) := by decide +kernel
theorem dX7_next_216 : decode cX7_next 216 = .ok (.if_icmp .ge 76, 3) := by decide +kernel
theorem dX7_next_219 : decode cX7_next 219 = .ok (.aload_n 0, 1) := by decide +kernel
theorem dX7_next_220 : decode cX7_next 220 = .ok (.getfield 9, 3) := by decide +kernel
theorem dX7_next_223 : decode cX7_next 223 = .ok (.aload_n 0, 1) := by decide +kernel
theorem dX7_next_224 : decode cX7_next 224 = .ok (.getfield 121, 3) := by decide +kernel
theorem dX7_next_227 : decode cX7_next 227 = .ok (.baload, 1) := by decide +kernel
theorem dX7_next_228 : decode cX7_next 228 = .ok (.invokestatic 138, 3) := by decide +kernel
theorem dX7_next_231 : decode cX7_next 231 = .ok (.ifCond .eq 61, 3) := by decide +kernel
theorem dX7_next_234 : decode cX7_next 234 = .ok (.aload_n 0, 1) := by decide +kernel
theorem dX7_next_235 : decode cX7_next 235 = .ok (.aload_n 0, 1) := by decide +kernel
theorem dX7_next_236 : decode cX7_next 236 = .ok (.getfield 127, 3) := by decide +kernel
theorem dX7_next_239 : decode cX7_next 239 = .ok (.ldc2_w 141, 3) := by decide +kernel
theorem dX7_next_242 : decode cX7_next 242 = .ok (.lcmp, 1) := by decide +kernel
theorem dX7_next_243 : decode cX7_next 243 = .ok (.ifCond .le 10, 3) := by decide +kernel
theorem dX7_next_246 : decode cX7_next 246 = .ok (.aload_n 0, 1) := by decide +kernel
theorem dX7_next_247 : decode cX7_next 247 = .ok (.getfield 127, 3) := by decide +kernel
theorem dX7_next_250 : decode cX7_next 250 = .ok (.goto 26, 3) := by decide +kernel
theorem dX7_next_253 : decode cX7_next 253 = .ok (.ldc2_w 143, 3) := by decide +kernel
theorem dX7_next_256 : decode cX7_next 256 = .ok (.aload_n 0, 1) := by decide +kernel
theorem dX7_next_257 : decode cX7_next 257 = .ok (.getfield 127, 3) := by decide +kernel
theorem dX7_next_260 : decode cX7_next 260 = .ok (.lmul, 1) := by decide +kernel
theorem dX7_next_261 : decode cX7_next 261 = .ok (.aload_n 0, 1) := by decide +kernel
theorem dX7_next_262 : decode cX7_next 262 = .ok (.getfield 9, 3) := by decide +kernel
theorem dX7_next_265 : decode cX7_next 265 = .ok (.aload_n 0, 1) := by decide +kernel
theorem dX7_next_266 : decode cX7_next 266 = .ok (.getfield 121, 3) := by decide +kernel
theorem dX7_next_269 : decode cX7_next 269 = .ok (.baload, 1) := by decide +kernel
theorem dX7_next_270 : decode cX7_next 270 = .ok (.i2l, 1) := by decide +kernel
theorem dX7_next_271 : decode cX7_next 271 = .ok (.ladd, 1) := by decide +kernel
theorem dX7_next_272 : decode cX7_next 272 = .ok (.ldc2_w 145, 3) := by decide +kernel
theorem dX7_next_275 : decode cX7_next 275 = .ok (.lsub, 1) := by decide +kernel
theorem dX7_next_276 : decode cX7_next 276 = .ok (.putfield 127, 3) := by decide +kernel
theorem dX7_next_279 : decode cX7_next 279 = .ok (.aload_n 0, 1) := by decide +kernel
theorem dX7_next_280 : decode cX7_next 280 = .ok (.dup, 1) := by decide +kernel
theorem dX7_next_281 : decode cX7_next 281 = .ok (.getfield 121, 3) := by decide +kernel
theorem dX7_next_284 : decode cX7_next 284 = .ok (.iconst 1, 1) := by decide +kernel
theorem dX7_next_285 : decode cX7_next 285 = .ok (.iadd, 1) := by decide +kernel
theorem dX7_next_286 : decode cX7_next 286 = .ok (.putfield 121, 3) := by decide +kernel
theorem dX7_next_289 : decode cX7_next 289 = .ok (.goto (-81), 3) := by decide +kernel
theorem dX7_next_292 : decode cX7_next 292 = .ok (.aload_n 0, 1) := by decide +kernel
theorem dX7_next_293 : decode cX7_next 293 = .ok (.iconst 2, 1) := by decide +kernel
theorem dX7_next_294 : decode cX7_next 294 = .ok (.putfield 131, 3) := by decide +kernel
theorem dX7_next_297 : decode cX7_next 297 = .ok (.goto 28, 3) := by decide +kernel
theorem dX7_next_300 : decode cX7_next 300 = .ok (.aload_n 0, 1) := by decide +kernel
theorem dX7_next_301 : decode cX7_next 301 = .ok (.iload_n 1, 1) := by decide +kernel
theorem dX7_next_302 : decode cX7_next 302 = .ok (.bipush 59, 2) := by decide +kernel
theorem dX7_next_304 : decode cX7_next 304 = .ok (.if_icmp .ne 7, 3) := by decide +kernel
theorem dX7_next_307 : decode cX7_next 307 = .ok (.iconst 3, 1) := by decide +kernel
theorem dX7_next_308 : decode cX7_next 308 = .ok (.goto 4, 3) := by decide +kernel
theorem dX7_next_311 : decode cX7_next 311 = .ok (.iconst 4, 1) := by decide +kernel
theorem dX7_next_312 : decode cX7_next 312 = .ok (.putfield 131, 3) := by decide +kernel
theorem dX7_next_315 : decode cX7_next 315 = .ok (.aload_n 0, 1) := by decide +kernel
theorem dX7_next_316 : decode cX7_next 316 = .ok (.dup, 1) := by decide +kernel
theorem dX7_next_317 : decode cX7_next 317 = .ok (.getfield 121, 3) := by decide +kernel
theorem dX7_next_320 : decode cX7_next 320 = .ok (.iconst 1, 1) := by decide +kernel
theorem dX7_next_321 : decode cX7_next 321 = .ok (.iadd, 1) := by decide +kernel
theorem dX7_next_322 : decode cX7_next 322 = .ok (.putfield 121, 3) := by decide +kernel
theorem dX7_next_325 : decode cX7_next 325 = .ok (.return_, 1) := by decide +kernel
theorem dX7_packed_0 : decode cX7_packed 0 = .ok (.lconst 0, 1) := by decide +kernel
theorem dX7_packed_1 : decode cX7_packed 1 = .ok (.lstore_n 1, 1) := by decide +kernel
theorem dX7_packed_2 : decode cX7_packed 2 = .ok (.iconst 0, 1) := by decide +kernel
theorem dX7_packed_3 : decode cX7_packed 3 = .ok (.istore_n 3, 1) := by decide +kernel
theorem dX7_packed_4 : decode cX7_packed 4 = .ok (.iload_n 3, 1) := by decide +kernel
theorem dX7_packed_5 : decode cX7_packed 5 = .ok (.aload_n 0, 1) := by decide +kernel
theorem dX7_packed_6 : decode cX7_packed 6 = .ok (.invokevirtual 147, 3) := by decide +kernel
theorem dX7_packed_9 : decode cX7_packed 9 = .ok (.if_icmp .ge 21, 3) := by decide +kernel
theorem dX7_packed_12 : decode cX7_packed 12 = .ok (.lload_n 1, 1) := by decide +kernel
theorem dX7_packed_13 : decode cX7_packed 13 = .ok (.bipush 8, 2) := by decide +kernel
theorem dX7_packed_15 : decode cX7_packed 15 = .ok (.lshl, 1) := by decide +kernel
theorem dX7_packed_16 : decode cX7_packed 16 = .ok (.aload_n 0, 1) := by decide +kernel
theorem dX7_packed_17 : decode cX7_packed 17 = .ok (.iload_n 3, 1) := by decide +kernel
theorem dX7_packed_18 : decode cX7_packed 18 = .ok (.invokevirtual 153, 3) := by decide +kernel
theorem dX7_packed_21 : decode cX7_packed 21 = .ok (.i2l, 1) := by decide +kernel
theorem dX7_packed_22 : decode cX7_packed 22 = .ok (.lor, 1) := by decide +kernel
theorem dX7_packed_23 : decode cX7_packed 23 = .ok (.lstore_n 1, 1) := by decide +kernel
theorem dX7_packed_24 : decode cX7_packed 24 = .ok (.iinc 3 1, 3) := by decide +kernel
theorem dX7_packed_27 : decode cX7_packed 27 = .ok (.goto (-23), 3) := by decide +kernel
theorem dX7_packed_30 : decode cX7_packed 30 = .ok (.lload_n 1, 1) := by decide +kernel
theorem dX7_packed_31 : decode cX7_packed 31 = .ok (.lreturn, 1) := by decide +kernel
theorem dX7_isWord_0 : decode cX7_isWord 0 = .ok (.aload_n 0, 1) := by decide +kernel
theorem dX7_isWord_1 : decode cX7_isWord 1 = .ok (.getfield 131, 3) := by decide +kernel
theorem dX7_isWord_4 : decode cX7_isWord 4 = .ok (.iconst 1, 1) := by decide +kernel
theorem dX7_isWord_5 : decode cX7_isWord 5 = .ok (.if_icmp .ne 19, 3) := by decide +kernel
theorem dX7_isWord_8 : decode cX7_isWord 8 = .ok (.aload_n 0, 1) := by decide +kernel
theorem dX7_isWord_9 : decode cX7_isWord 9 = .ok (.getfield 127, 3) := by decide +kernel
theorem dX7_isWord_12 : decode cX7_isWord 12 = .ok (.aload_n 1, 1) := by decide +kernel
theorem dX7_isWord_13 : decode cX7_isWord 13 = .ok (.invokestatic 157, 3) := by decide +kernel
theorem dX7_isWord_16 : decode cX7_isWord 16 = .ok (.lcmp, 1) := by decide +kernel
theorem dX7_isWord_17 : decode cX7_isWord 17 = .ok (.ifCond .ne 7, 3) := by decide +kernel
theorem dX7_isWord_20 : decode cX7_isWord 20 = .ok (.iconst 1, 1) := by decide +kernel
theorem dX7_isWord_21 : decode cX7_isWord 21 = .ok (.goto 4, 3) := by decide +kernel
theorem dX7_isWord_24 : decode cX7_isWord 24 = .ok (.iconst 0, 1) := by decide +kernel
theorem dX7_isWord_25 : decode cX7_isWord 25 = .ok (.ireturn, 1) := by decide +kernel
theorem dX7_isName_0 : decode cX7_isName 0 = .ok (.aload_n 0, 1) := by decide +kernel
theorem dX7_isName_1 : decode cX7_isName 1 = .ok (.getfield 131, 3) := by decide +kernel
theorem dX7_isName_4 : decode cX7_isName 4 = .ok (.iconst 1, 1) := by decide +kernel
theorem dX7_isName_5 : decode cX7_isName 5 = .ok (.if_icmp .ne 75, 3) := by decide +kernel
theorem dX7_isName_8 : decode cX7_isName 8 = .ok (.aload_n 0, 1) := by decide +kernel
theorem dX7_isName_9 : decode cX7_isName 9 = .ok (.getfield 127, 3) := by decide +kernel
theorem dX7_isName_12 : decode cX7_isName 12 = .ok (.lconst 0, 1) := by decide +kernel
theorem dX7_isName_13 : decode cX7_isName 13 = .ok (.lcmp, 1) := by decide +kernel
theorem dX7_isName_14 : decode cX7_isName 14 = .ok (.ifCond .eq 66, 3) := by decide +kernel
theorem dX7_isName_17 : decode cX7_isName 17 = .ok (.aload_n 0, 1) := by decide +kernel
theorem dX7_isName_18 : decode cX7_isName 18 = .ok (.ldc 161, 2) := by decide +kernel
theorem dX7_isName_20 : decode cX7_isName 20 = .ok (.invokevirtual 163, 3) := by decide +kernel
theorem dX7_isName_23 : decode cX7_isName 23 = .ok (.ifCond .ne 57, 3) := by decide +kernel
theorem dX7_isName_26 : decode cX7_isName 26 = .ok (.aload_n 0, 1) := by decide +kernel
theorem dX7_isName_27 : decode cX7_isName 27 = .ok (.ldc 167, 2) := by decide +kernel
theorem dX7_isName_29 : decode cX7_isName 29 = .ok (.invokevirtual 163, 3) := by decide +kernel
theorem dX7_isName_32 : decode cX7_isName 32 = .ok (.ifCond .ne 48, 3) := by decide +kernel
theorem dX7_isName_35 : decode cX7_isName 35 = .ok (.aload_n 0, 1) := by decide +kernel
theorem dX7_isName_36 : decode cX7_isName 36 = .ok (.ldc 169, 2) := by decide +kernel
theorem dX7_isName_38 : decode cX7_isName 38 = .ok (.invokevirtual 163, 3) := by decide +kernel
theorem dX7_isName_41 : decode cX7_isName 41 = .ok (.ifCond .ne 39, 3) := by decide +kernel
theorem dX7_isName_44 : decode cX7_isName 44 = .ok (.aload_n 0, 1) := by decide +kernel
theorem dX7_isName_45 : decode cX7_isName 45 = .ok (.ldc 170, 2) := by decide +kernel
theorem dX7_isName_47 : decode cX7_isName 47 = .ok (.invokevirtual 163, 3) := by decide +kernel
theorem dX7_isName_50 : decode cX7_isName 50 = .ok (.ifCond .ne 30, 3) := by decide +kernel
theorem dX7_isName_53 : decode cX7_isName 53 = .ok (.aload_n 0, 1) := by decide +kernel
theorem dX7_isName_54 : decode cX7_isName 54 = .ok (.ldc 172, 2) := by decide +kernel
theorem dX7_isName_56 : decode cX7_isName 56 = .ok (.invokevirtual 163, 3) := by decide +kernel
theorem dX7_isName_59 : decode cX7_isName 59 = .ok (.ifCond .ne 21, 3) := by decide +kernel
theorem dX7_isName_62 : decode cX7_isName 62 = .ok (.aload_n 0, 1) := by decide +kernel
theorem dX7_isName_63 : decode cX7_isName 63 = .ok (.ldc 174, 2) := by decide +kernel
theorem dX7_isName_65 : decode cX7_isName 65 = .ok (.invokevirtual 163, 3) := by decide +kernel
theorem dX7_isName_68 : decode cX7_isName 68 = .ok (.ifCond .ne 12, 3) := by decide +kernel
theorem dX7_isName_71 : decode cX7_isName 71 = .ok (.aload_n 0, 1) := by decide +kernel
theorem dX7_isName_72 : decode cX7_isName 72 = .ok (.ldc 176, 2) := by decide +kernel
theorem dX7_isName_74 : decode cX7_isName 74 = .ok (.invokevirtual 163, 3) := by decide +kernel
theorem dX7_isName_77 : decode cX7_isName 77 = .ok (.ifCond .eq 5, 3) := by decide +kernel
theorem dX7_isName_80 : decode cX7_isName 80 = .ok (.iconst 0, 1) := by decide +kernel
theorem dX7_isName_81 : decode cX7_isName 81 = .ok (.ireturn, 1) := by decide +kernel
theorem dX7_isName_82 : decode cX7_isName 82 = .ok (.aload_n 0, 1) := by decide +kernel
theorem dX7_isName_83 : decode cX7_isName 83 = .ok (.ldc 178, 2) := by decide +kernel
theorem dX7_isName_85 : decode cX7_isName 85 = .ok (.invokevirtual 163, 3) := by decide +kernel
theorem dX7_isName_88 : decode cX7_isName 88 = .ok (.ifCond .ne 61, 3) := by decide +kernel
theorem dX7_isName_91 : decode cX7_isName 91 = .ok (.aload_n 0, 1) := by decide +kernel
theorem dX7_isName_92 : decode cX7_isName 92 = .ok (.ldc 180, 2) := by decide +kernel
theorem dX7_isName_94 : decode cX7_isName 94 = .ok (.invokevirtual 163, 3) := by decide +kernel
theorem dX7_isName_97 : decode cX7_isName 97 = .ok (.ifCond .ne 52, 3) := by decide +kernel
theorem dX7_isName_100 : decode cX7_isName 100 = .ok (.aload_n 0, 1) := by decide +kernel
theorem dX7_isName_101 : decode cX7_isName 101 = .ok (.ldc 182, 2) := by decide +kernel
theorem dX7_isName_103 : decode cX7_isName 103 = .ok (.invokevirtual 163, 3) := by decide +kernel
theorem dX7_isName_106 : decode cX7_isName 106 = .ok (.ifCond .ne 43, 3) := by decide +kernel
theorem dX7_isName_109 : decode cX7_isName 109 = .ok (.aload_n 0, 1) := by decide +kernel
theorem dX7_isName_110 : decode cX7_isName 110 = .ok (.ldc 184, 2) := by decide +kernel
theorem dX7_isName_112 : decode cX7_isName 112 = .ok (.invokevirtual 163, 3) := by decide +kernel
theorem dX7_isName_115 : decode cX7_isName 115 = .ok (.ifCond .ne 34, 3) := by decide +kernel
theorem dX7_isName_118 : decode cX7_isName 118 = .ok (.aload_n 0, 1) := by decide +kernel
theorem dX7_isName_119 : decode cX7_isName 119 = .ok (.ldc 186, 2) := by decide +kernel
theorem dX7_isName_121 : decode cX7_isName 121 = .ok (.invokevirtual 163, 3) := by decide +kernel
theorem dX7_isName_124 : decode cX7_isName 124 = .ok (.ifCond .ne 25, 3) := by decide +kernel
theorem dX7_isName_127 : decode cX7_isName 127 = .ok (.aload_n 0, 1) := by decide +kernel
theorem dX7_isName_128 : decode cX7_isName 128 = .ok (.ldc 187, 2) := by decide +kernel
theorem dX7_isName_130 : decode cX7_isName 130 = .ok (.invokevirtual 163, 3) := by decide +kernel
theorem dX7_isName_133 : decode cX7_isName 133 = .ok (.ifCond .ne 16, 3) := by decide +kernel
theorem dX7_isName_136 : decode cX7_isName 136 = .ok (.aload_n 0, 1) := by decide +kernel
theorem dX7_isName_137 : decode cX7_isName 137 = .ok (.ldc 189, 2) := by decide +kernel
theorem dX7_isName_139 : decode cX7_isName 139 = .ok (.invokevirtual 163, 3) := by decide +kernel
theorem dX7_isName_142 : decode cX7_isName 142 = .ok (.ifCond .ne 7, 3) := by decide +kernel
theorem dX7_isName_145 : decode cX7_isName 145 = .ok (.iconst 1, 1) := by decide +kernel
theorem dX7_isName_146 : decode cX7_isName 146 = .ok (.goto 4, 3) := by decide +kernel
theorem dX7_isName_149 : decode cX7_isName 149 = .ok (.iconst 0, 1) := by decide +kernel
theorem dX7_isName_150 : decode cX7_isName 150 = .ok (.ireturn, 1) := by decide +kernel
theorem dX7_word_0 : decode cX7_word 0 = .ok (.aload_n 0, 1) := by decide +kernel
theorem dX7_word_1 : decode cX7_word 1 = .ok (.aload_n 1, 1) := by decide +kernel
theorem dX7_word_2 : decode cX7_word 2 = .ok (.invokevirtual 163, 3) := by decide +kernel
theorem dX7_word_5 : decode cX7_word 5 = .ok (.ifCond .ne 5, 3) := by decide +kernel
theorem dX7_word_8 : decode cX7_word 8 = .ok (.iconst 0, 1) := by decide +kernel
theorem dX7_word_9 : decode cX7_word 9 = .ok (.ireturn, 1) := by decide +kernel
theorem dX7_word_10 : decode cX7_word 10 = .ok (.aload_n 0, 1) := by decide +kernel
theorem dX7_word_11 : decode cX7_word 11 = .ok (.invokevirtual 191, 3) := by decide +kernel
theorem dX7_word_14 : decode cX7_word 14 = .ok (.iconst 1, 1) := by decide +kernel
theorem dX7_word_15 : decode cX7_word 15 = .ok (.ireturn, 1) := by decide +kernel
theorem dX7_closes_0 : decode cX7_closes 0 = .ok (.aload_n 0, 1) := by decide +kernel
theorem dX7_closes_1 : decode cX7_closes 1 = .ok (.getfield 131, 3) := by decide +kernel
theorem dX7_closes_4 : decode cX7_closes 4 = .ok (.iconst 3, 1) := by decide +kernel
theorem dX7_closes_5 : decode cX7_closes 5 = .ok (.if_icmp .eq 5, 3) := by decide +kernel
theorem dX7_closes_8 : decode cX7_closes 8 = .ok (.iconst 0, 1) := by decide +kernel
theorem dX7_closes_9 : decode cX7_closes 9 = .ok (.ireturn, 1) := by decide +kernel
theorem dX7_closes_10 : decode cX7_closes 10 = .ok (.aload_n 0, 1) := by decide +kernel
theorem dX7_closes_11 : decode cX7_closes 11 = .ok (.invokevirtual 191, 3) := by decide +kernel
theorem dX7_closes_14 : decode cX7_closes 14 = .ok (.iconst 1, 1) := by decide +kernel
theorem dX7_closes_15 : decode cX7_closes 15 = .ok (.ireturn, 1) := by decide +kernel
theorem dX7_number_0 : decode cX7_number 0 = .ok (.aload_n 0, 1) := by decide +kernel
theorem dX7_number_1 : decode cX7_number 1 = .ok (.getfield 131, 3) := by decide +kernel
theorem dX7_number_4 : decode cX7_number 4 = .ok (.iconst 2, 1) := by decide +kernel
theorem dX7_number_5 : decode cX7_number 5 = .ok (.if_icmp .ne 23, 3) := by decide +kernel
theorem dX7_number_8 : decode cX7_number 8 = .ok (.aload_n 0, 1) := by decide +kernel
theorem dX7_number_9 : decode cX7_number 9 = .ok (.getfield 127, 3) := by decide +kernel
theorem dX7_number_12 : decode cX7_number 12 = .ok (.iload_n 1, 1) := by decide +kernel
theorem dX7_number_13 : decode cX7_number 13 = .ok (.i2l, 1) := by decide +kernel
theorem dX7_number_14 : decode cX7_number 14 = .ok (.lcmp, 1) := by decide +kernel
theorem dX7_number_15 : decode cX7_number 15 = .ok (.ifCond .lt 13, 3) := by decide +kernel
theorem dX7_number_18 : decode cX7_number 18 = .ok (.aload_n 0, 1) := by decide +kernel
theorem dX7_number_19 : decode cX7_number 19 = .ok (.getfield 127, 3) := by decide +kernel
theorem dX7_number_22 : decode cX7_number 22 = .ok (.iload_n 2, 1) := by decide +kernel
theorem dX7_number_23 : decode cX7_number 23 = .ok (.i2l, 1) := by decide +kernel
theorem dX7_number_24 : decode cX7_number 24 = .ok (.lcmp, 1) := by decide +kernel
theorem dX7_number_25 : decode cX7_number 25 = .ok (.ifCond .le 5, 3) := by decide +kernel
theorem dX7_number_28 : decode cX7_number 28 = .ok (.iconst 0, 1) := by decide +kernel
theorem dX7_number_29 : decode cX7_number 29 = .ok (.ireturn, 1) := by decide +kernel
theorem dX7_number_30 : decode cX7_number 30 = .ok (.aload_n 0, 1) := by decide +kernel
theorem dX7_number_31 : decode cX7_number 31 = .ok (.aload_n 0, 1) := by decide +kernel
theorem dX7_number_32 : decode cX7_number 32 = .ok (.getfield 127, 3) := by decide +kernel
theorem dX7_number_35 : decode cX7_number 35 = .ok (.l2i, 1) := by decide +kernel
theorem dX7_number_36 : decode cX7_number 36 = .ok (.putfield 194, 3) := by decide +kernel
theorem dX7_number_39 : decode cX7_number 39 = .ok (.aload_n 0, 1) := by decide +kernel
theorem dX7_number_40 : decode cX7_number 40 = .ok (.invokevirtual 191, 3) := by decide +kernel
theorem dX7_number_43 : decode cX7_number 43 = .ok (.iconst 1, 1) := by decide +kernel
theorem dX7_number_44 : decode cX7_number 44 = .ok (.ireturn, 1) := by decide +kernel
theorem dX7_landHere_0 : decode cX7_landHere 0 = .ok (.iconst 0, 1) := by decide +kernel
theorem dX7_landHere_1 : decode cX7_landHere 1 = .ok (.istore_n 1, 1) := by decide +kernel
theorem dX7_landHere_2 : decode cX7_landHere 2 = .ok (.iload_n 1, 1) := by decide +kernel
theorem dX7_landHere_3 : decode cX7_landHere 3 = .ok (.aload_n 0, 1) := by decide +kernel
theorem dX7_landHere_4 : decode cX7_landHere 4 = .ok (.getfield 197, 3) := by decide +kernel
theorem dX7_landHere_7 : decode cX7_landHere 7 = .ok (.if_icmp .ge 32, 3) := by decide +kernel
theorem dX7_landHere_10 : decode cX7_landHere 10 = .ok (.aload_n 0, 1) := by decide +kernel
theorem dX7_landHere_11 : decode cX7_landHere 11 = .ok (.invokevirtual 200, 3) := by decide +kernel
theorem dX7_landHere_14 : decode cX7_landHere 14 = .ok (.ifCond .eq 25, 3) := by decide +kernel
theorem dX7_landHere_17 : decode cX7_landHere 17 = .ok (.aload_n 0, 1) := by decide +kernel
theorem dX7_landHere_18 : decode cX7_landHere 18 = .ok (.getfield 13, 3) := by decide +kernel
theorem dX7_landHere_21 : decode cX7_landHere 21 = .ok (.iload_n 1, 1) := by decide +kernel
theorem dX7_landHere_22 : decode cX7_landHere 22 = .ok (.laload, 1) := by decide +kernel
theorem dX7_landHere_23 : decode cX7_landHere 23 = .ok (.aload_n 0, 1) := by decide +kernel
theorem dX7_landHere_24 : decode cX7_landHere 24 = .ok (.getfield 127, 3) := by decide +kernel
theorem dX7_landHere_27 : decode cX7_landHere 27 = .ok (.lcmp, 1) := by decide +kernel
theorem dX7_landHere_28 : decode cX7_landHere 28 = .ok (.ifCond .ne 5, 3) := by decide +kernel
theorem dX7_landHere_31 : decode cX7_landHere 31 = .ok (.iload_n 1, 1) := by decide +kernel
theorem dX7_landHere_32 : decode cX7_landHere 32 = .ok (.ireturn, 1) := by decide +kernel
theorem dX7_landHere_33 : decode cX7_landHere 33 = .ok (.iinc 1 1, 3) := by decide +kernel
theorem dX7_landHere_36 : decode cX7_landHere 36 = .ok (.goto (-34), 3) := by decide +kernel
theorem dX7_landHere_39 : decode cX7_landHere 39 = .ok (.iconst (-1), 1) := by decide +kernel
theorem dX7_landHere_40 : decode cX7_landHere 40 = .ok (.ireturn, 1) := by decide +kernel
theorem dX7_townHere_0 : decode cX7_townHere 0 = .ok (.iconst 0, 1) := by decide +kernel
theorem dX7_townHere_1 : decode cX7_townHere 1 = .ok (.istore_n 1, 1) := by decide +kernel
theorem dX7_townHere_2 : decode cX7_townHere 2 = .ok (.iload_n 1, 1) := by decide +kernel
theorem dX7_townHere_3 : decode cX7_townHere 3 = .ok (.aload_n 0, 1) := by decide +kernel
theorem dX7_townHere_4 : decode cX7_townHere 4 = .ok (.getfield 204, 3) := by decide +kernel
theorem dX7_townHere_7 : decode cX7_townHere 7 = .ok (.if_icmp .ge 32, 3) := by decide +kernel
theorem dX7_townHere_10 : decode cX7_townHere 10 = .ok (.aload_n 0, 1) := by decide +kernel
theorem dX7_townHere_11 : decode cX7_townHere 11 = .ok (.invokevirtual 200, 3) := by decide +kernel
theorem dX7_townHere_14 : decode cX7_townHere 14 = .ok (.ifCond .eq 25, 3) := by decide +kernel
theorem dX7_townHere_17 : decode cX7_townHere 17 = .ok (.aload_n 0, 1) := by decide +kernel
theorem dX7_townHere_18 : decode cX7_townHere 18 = .ok (.getfield 21, 3) := by decide +kernel
theorem dX7_townHere_21 : decode cX7_townHere 21 = .ok (.iload_n 1, 1) := by decide +kernel
theorem dX7_townHere_22 : decode cX7_townHere 22 = .ok (.laload, 1) := by decide +kernel
theorem dX7_townHere_23 : decode cX7_townHere 23 = .ok (.aload_n 0, 1) := by decide +kernel
theorem dX7_townHere_24 : decode cX7_townHere 24 = .ok (.getfield 127, 3) := by decide +kernel
theorem dX7_townHere_27 : decode cX7_townHere 27 = .ok (.lcmp, 1) := by decide +kernel
theorem dX7_townHere_28 : decode cX7_townHere 28 = .ok (.ifCond .ne 5, 3) := by decide +kernel
theorem dX7_townHere_31 : decode cX7_townHere 31 = .ok (.iload_n 1, 1) := by decide +kernel
theorem dX7_townHere_32 : decode cX7_townHere 32 = .ok (.ireturn, 1) := by decide +kernel
theorem dX7_townHere_33 : decode cX7_townHere 33 = .ok (.iinc 1 1, 3) := by decide +kernel
theorem dX7_townHere_36 : decode cX7_townHere 36 = .ok (.goto (-34), 3) := by decide +kernel
theorem dX7_townHere_39 : decode cX7_townHere 39 = .ok (.iconst (-1), 1) := by decide +kernel
theorem dX7_townHere_40 : decode cX7_townHere 40 = .ok (.ireturn, 1) := by decide +kernel
theorem dX7_isNew_0 : decode cX7_isNew 0 = .ok (.aload_n 0, 1) := by decide +kernel
theorem dX7_isNew_1 : decode cX7_isNew 1 = .ok (.invokevirtual 200, 3) := by decide +kernel
theorem dX7_isNew_4 : decode cX7_isNew 4 = .ok (.ifCond .eq 23, 3) := by decide +kernel
theorem dX7_isNew_7 : decode cX7_isNew 7 = .ok (.aload_n 0, 1) := by decide +kernel
theorem dX7_isNew_8 : decode cX7_isNew 8 = .ok (.invokevirtual 207, 3) := by decide +kernel
theorem dX7_isNew_11 : decode cX7_isNew 11 = .ok (.iconst (-1), 1) := by decide +kernel
theorem dX7_isNew_12 : decode cX7_isNew 12 = .ok (.if_icmp .ne 15, 3) := by decide +kernel
theorem dX7_isNew_15 : decode cX7_isNew 15 = .ok (.aload_n 0, 1) := by decide +kernel
theorem dX7_isNew_16 : decode cX7_isNew 16 = .ok (.invokevirtual 210, 3) := by decide +kernel
theorem dX7_isNew_19 : decode cX7_isNew 19 = .ok (.iconst (-1), 1) := by decide +kernel
theorem dX7_isNew_20 : decode cX7_isNew 20 = .ok (.if_icmp .ne 7, 3) := by decide +kernel
theorem dX7_isNew_23 : decode cX7_isNew 23 = .ok (.iconst 1, 1) := by decide +kernel
theorem dX7_isNew_24 : decode cX7_isNew 24 = .ok (.goto 4, 3) := by decide +kernel
theorem dX7_isNew_27 : decode cX7_isNew 27 = .ok (.iconst 0, 1) := by decide +kernel
theorem dX7_isNew_28 : decode cX7_isNew 28 = .ok (.ireturn, 1) := by decide +kernel
theorem dX7_landLine_0 : decode cX7_landLine 0 = .ok (.aload_n 0, 1) := by decide +kernel
theorem dX7_landLine_1 : decode cX7_landLine 1 = .ok (.getfield 197, 3) := by decide +kernel
theorem dX7_landLine_4 : decode cX7_landLine 4 = .ok (.iconst 4, 1) := by decide +kernel
theorem dX7_landLine_5 : decode cX7_landLine 5 = .ok (.if_icmp .ne 5, 3) := by decide +kernel
theorem dX7_landLine_8 : decode cX7_landLine 8 = .ok (.iconst 0, 1) := by decide +kernel
theorem dX7_landLine_9 : decode cX7_landLine 9 = .ok (.ireturn, 1) := by decide +kernel
theorem dX7_landLine_10 : decode cX7_landLine 10 = .ok (.aload_n 0, 1) := by decide +kernel
theorem dX7_landLine_11 : decode cX7_landLine 11 = .ok (.invokevirtual 191, 3) := by decide +kernel
theorem dX7_landLine_14 : decode cX7_landLine 14 = .ok (.aload_n 0, 1) := by decide +kernel
theorem dX7_landLine_15 : decode cX7_landLine 15 = .ok (.invokevirtual 213, 3) := by decide +kernel
theorem dX7_landLine_18 : decode cX7_landLine 18 = .ok (.ifCond .ne 5, 3) := by decide +kernel
theorem dX7_landLine_21 : decode cX7_landLine 21 = .ok (.iconst 0, 1) := by decide +kernel
theorem dX7_landLine_22 : decode cX7_landLine 22 = .ok (.ireturn, 1) := by decide +kernel
theorem dX7_landLine_23 : decode cX7_landLine 23 = .ok (.aload_n 0, 1) := by decide +kernel
theorem dX7_landLine_24 : decode cX7_landLine 24 = .ok (.getfield 13, 3) := by decide +kernel
theorem dX7_landLine_27 : decode cX7_landLine 27 = .ok (.aload_n 0, 1) := by decide +kernel
theorem dX7_landLine_28 : decode cX7_landLine 28 = .ok (.getfield 197, 3) := by decide +kernel
theorem dX7_landLine_31 : decode cX7_landLine 31 = .ok (.aload_n 0, 1) := by decide +kernel
theorem dX7_landLine_32 : decode cX7_landLine 32 = .ok (.getfield 127, 3) := by decide +kernel
theorem dX7_landLine_35 : decode cX7_landLine 35 = .ok (.lastore, 1) := by decide +kernel
theorem dX7_landLine_36 : decode cX7_landLine 36 = .ok (.aload_n 0, 1) := by decide +kernel
theorem dX7_landLine_37 : decode cX7_landLine 37 = .ok (.invokevirtual 191, 3) := by decide +kernel
theorem dX7_landLine_40 : decode cX7_landLine 40 = .ok (.aload_n 0, 1) := by decide +kernel
theorem dX7_landLine_41 : decode cX7_landLine 41 = .ok (.ldc 169, 2) := by decide +kernel
theorem dX7_landLine_43 : decode cX7_landLine 43 = .ok (.invokevirtual 163, 3) := by decide +kernel
theorem dX7_landLine_46 : decode cX7_landLine 46 = .ok (.ifCond .eq 7, 3) := by decide +kernel
theorem dX7_landLine_49 : decode cX7_landLine 49 = .ok (.iconst 1, 1) := by decide +kernel
theorem dX7_landLine_50 : decode cX7_landLine 50 = .ok (.goto 43, 3) := by decide +kernel
theorem dX7_landLine_53 : decode cX7_landLine 53 = .ok (.aload_n 0, 1) := by decide +kernel
theorem dX7_landLine_54 : decode cX7_landLine 54 = .ok (.ldc 170, 2) := by decide +kernel
theorem dX7_landLine_56 : decode cX7_landLine 56 = .ok (.invokevirtual 163, 3) := by decide +kernel
theorem dX7_landLine_59 : decode cX7_landLine 59 = .ok (.ifCond .eq 7, 3) := by decide +kernel
theorem dX7_landLine_62 : decode cX7_landLine 62 = .ok (.iconst 2, 1) := by decide +kernel
theorem dX7_landLine_63 : decode cX7_landLine 63 = .ok (.goto 30, 3) := by decide +kernel
theorem dX7_landLine_66 : decode cX7_landLine 66 = .ok (.aload_n 0, 1) := by decide +kernel
theorem dX7_landLine_67 : decode cX7_landLine 67 = .ok (.ldc 172, 2) := by decide +kernel
theorem dX7_landLine_69 : decode cX7_landLine 69 = .ok (.invokevirtual 163, 3) := by decide +kernel
theorem dX7_landLine_72 : decode cX7_landLine 72 = .ok (.ifCond .eq 7, 3) := by decide +kernel
theorem dX7_landLine_75 : decode cX7_landLine 75 = .ok (.iconst 3, 1) := by decide +kernel
theorem dX7_landLine_76 : decode cX7_landLine 76 = .ok (.goto 17, 3) := by decide +kernel
theorem dX7_landLine_79 : decode cX7_landLine 79 = .ok (.aload_n 0, 1) := by decide +kernel
theorem dX7_landLine_80 : decode cX7_landLine 80 = .ok (.ldc 174, 2) := by decide +kernel
theorem dX7_landLine_82 : decode cX7_landLine 82 = .ok (.invokevirtual 163, 3) := by decide +kernel
theorem dX7_landLine_85 : decode cX7_landLine 85 = .ok (.ifCond .eq 7, 3) := by decide +kernel
theorem dX7_landLine_88 : decode cX7_landLine 88 = .ok (.iconst 0, 1) := by decide +kernel
theorem dX7_landLine_89 : decode cX7_landLine 89 = .ok (.goto 4, 3) := by decide +kernel
theorem dX7_landLine_92 : decode cX7_landLine 92 = .ok (.iconst (-1), 1) := by decide +kernel
theorem dX7_landLine_93 : decode cX7_landLine 93 = .ok (.istore_n 1, 1) := by decide +kernel
theorem dX7_landLine_94 : decode cX7_landLine 94 = .ok (.iload_n 1, 1) := by decide +kernel
theorem dX7_landLine_95 : decode cX7_landLine 95 = .ok (.iconst (-1), 1) := by decide +kernel
theorem dX7_landLine_96 : decode cX7_landLine 96 = .ok (.if_icmp .ne 5, 3) := by decide +kernel
theorem dX7_landLine_99 : decode cX7_landLine 99 = .ok (.iconst 0, 1) := by decide +kernel
theorem dX7_landLine_100 : decode cX7_landLine 100 = .ok (.ireturn, 1) := by decide +kernel
theorem dX7_landLine_101 : decode cX7_landLine 101 = .ok (.aload_n 0, 1) := by decide +kernel
theorem dX7_landLine_102 : decode cX7_landLine 102 = .ok (.getfield 17, 3) := by decide +kernel
theorem dX7_landLine_105 : decode cX7_landLine 105 = .ok (.aload_n 0, 1) := by decide +kernel
theorem dX7_landLine_106 : decode cX7_landLine 106 = .ok (.getfield 197, 3) := by decide +kernel
theorem dX7_landLine_109 : decode cX7_landLine 109 = .ok (.iload_n 1, 1) := by decide +kernel
theorem dX7_landLine_110 : decode cX7_landLine 110 = .ok (.iastore, 1) := by decide +kernel
theorem dX7_landLine_111 : decode cX7_landLine 111 = .ok (.aload_n 0, 1) := by decide +kernel
theorem dX7_landLine_112 : decode cX7_landLine 112 = .ok (.dup, 1) := by decide +kernel
theorem dX7_landLine_113 : decode cX7_landLine 113 = .ok (.getfield 197, 3) := by decide +kernel
theorem dX7_landLine_116 : decode cX7_landLine 116 = .ok (.iconst 1, 1) := by decide +kernel
theorem dX7_landLine_117 : decode cX7_landLine 117 = .ok (.iadd, 1) := by decide +kernel
theorem dX7_landLine_118 : decode cX7_landLine 118 = .ok (.putfield 197, 3) := by decide +kernel
theorem dX7_landLine_121 : decode cX7_landLine 121 = .ok (.aload_n 0, 1) := by decide +kernel
theorem dX7_landLine_122 : decode cX7_landLine 122 = .ok (.invokevirtual 191, 3) := by decide +kernel
theorem dX7_landLine_125 : decode cX7_landLine 125 = .ok (.aload_n 0, 1) := by decide +kernel
theorem dX7_landLine_126 : decode cX7_landLine 126 = .ok (.invokevirtual 216, 3) := by decide +kernel
theorem dX7_landLine_129 : decode cX7_landLine 129 = .ok (.ireturn, 1) := by decide +kernel
theorem dX7_townLine_0 : decode cX7_townLine 0 = .ok (.aload_n 0, 1) := by decide +kernel
theorem dX7_townLine_1 : decode cX7_townLine 1 = .ok (.getfield 204, 3) := by decide +kernel
theorem dX7_townLine_4 : decode cX7_townLine 4 = .ok (.bipush 8, 2) := by decide +kernel
theorem dX7_townLine_6 : decode cX7_townLine 6 = .ok (.if_icmp .ne 5, 3) := by decide +kernel
theorem dX7_townLine_9 : decode cX7_townLine 9 = .ok (.iconst 0, 1) := by decide +kernel
theorem dX7_townLine_10 : decode cX7_townLine 10 = .ok (.ireturn, 1) := by decide +kernel
theorem dX7_townLine_11 : decode cX7_townLine 11 = .ok (.aload_n 0, 1) := by decide +kernel
theorem dX7_townLine_12 : decode cX7_townLine 12 = .ok (.invokevirtual 191, 3) := by decide +kernel
theorem dX7_townLine_15 : decode cX7_townLine 15 = .ok (.aload_n 0, 1) := by decide +kernel
theorem dX7_townLine_16 : decode cX7_townLine 16 = .ok (.invokevirtual 213, 3) := by decide +kernel
theorem dX7_townLine_19 : decode cX7_townLine 19 = .ok (.ifCond .ne 5, 3) := by decide +kernel
theorem dX7_townLine_22 : decode cX7_townLine 22 = .ok (.iconst 0, 1) := by decide +kernel
theorem dX7_townLine_23 : decode cX7_townLine 23 = .ok (.ireturn, 1) := by decide +kernel
theorem dX7_townLine_24 : decode cX7_townLine 24 = .ok (.aload_n 0, 1) := by decide +kernel
theorem dX7_townLine_25 : decode cX7_townLine 25 = .ok (.getfield 127, 3) := by decide +kernel
theorem dX7_townLine_28 : decode cX7_townLine 28 = .ok (.lstore_n 1, 1) := by decide +kernel
theorem dX7_townLine_29 : decode cX7_townLine 29 = .ok (.aload_n 0, 1) := by decide +kernel
theorem dX7_townLine_30 : decode cX7_townLine 30 = .ok (.invokevirtual 191, 3) := by decide +kernel
theorem dX7_townLine_33 : decode cX7_townLine 33 = .ok (.aload_n 0, 1) := by decide +kernel
theorem dX7_townLine_34 : decode cX7_townLine 34 = .ok (.ldc 176, 2) := by decide +kernel
theorem dX7_townLine_36 : decode cX7_townLine 36 = .ok (.invokevirtual 219, 3) := by decide +kernel
theorem dX7_townLine_39 : decode cX7_townLine 39 = .ok (.ifCond .ne 5, 3) := by decide +kernel
theorem dX7_townLine_42 : decode cX7_townLine 42 = .ok (.iconst 0, 1) := by decide +kernel
theorem dX7_townLine_43 : decode cX7_townLine 43 = .ok (.ireturn, 1) := by decide +kernel
theorem dX7_townLine_44 : decode cX7_townLine 44 = .ok (.aload_n 0, 1) := by decide +kernel
theorem dX7_townLine_45 : decode cX7_townLine 45 = .ok (.getfield 24, 3) := by decide +kernel
theorem dX7_townLine_48 : decode cX7_townLine 48 = .ok (.aload_n 0, 1) := by decide +kernel
theorem dX7_townLine_49 : decode cX7_townLine 49 = .ok (.getfield 204, 3) := by decide +kernel
theorem dX7_townLine_52 : decode cX7_townLine 52 = .ok (.aload_n 0, 1) := by decide +kernel
theorem dX7_townLine_53 : decode cX7_townLine 53 = .ok (.invokevirtual 207, 3) := by decide +kernel
theorem dX7_townLine_56 : decode cX7_townLine 56 = .ok (.iastore, 1) := by decide +kernel
theorem dX7_townLine_57 : decode cX7_townLine 57 = .ok (.aload_n 0, 1) := by decide +kernel
theorem dX7_townLine_58 : decode cX7_townLine 58 = .ok (.getfield 24, 3) := by decide +kernel
theorem dX7_townLine_61 : decode cX7_townLine 61 = .ok (.aload_n 0, 1) := by decide +kernel
theorem dX7_townLine_62 : decode cX7_townLine 62 = .ok (.getfield 204, 3) := by decide +kernel
theorem dX7_townLine_65 : decode cX7_townLine 65 = .ok (.iaload, 1) := by decide +kernel
theorem dX7_townLine_66 : decode cX7_townLine 66 = .ok (.iconst (-1), 1) := by decide +kernel
theorem dX7_townLine_67 : decode cX7_townLine 67 = .ok (.if_icmp .ne 5, 3) := by decide +kernel
theorem dX7_townLine_70 : decode cX7_townLine 70 = .ok (.iconst 0, 1) := by decide +kernel
theorem dX7_townLine_71 : decode cX7_townLine 71 = .ok (.ireturn, 1) := by decide +kernel
theorem dX7_townLine_72 : decode cX7_townLine 72 = .ok (.aload_n 0, 1) := by decide +kernel
theorem dX7_townLine_73 : decode cX7_townLine 73 = .ok (.invokevirtual 191, 3) := by decide +kernel
theorem dX7_townLine_76 : decode cX7_townLine 76 = .ok (.aload_n 0, 1) := by decide +kernel
theorem dX7_townLine_77 : decode cX7_townLine 77 = .ok (.getfield 27, 3) := by decide +kernel
theorem dX7_townLine_80 : decode cX7_townLine 80 = .ok (.aload_n 0, 1) := by decide +kernel
theorem dX7_townLine_81 : decode cX7_townLine 81 = .ok (.getfield 204, 3) := by decide +kernel
theorem dX7_townLine_84 : decode cX7_townLine 84 = .ok (.iconst 0, 1) := by decide +kernel
theorem dX7_townLine_85 : decode cX7_townLine 85 = .ok (.iastore, 1) := by decide +kernel
theorem dX7_townLine_86 : decode cX7_townLine 86 = .ok (.aload_n 0, 1) := by decide +kernel
theorem dX7_townLine_87 : decode cX7_townLine 87 = .ok (.ldc 178, 2) := by decide +kernel
theorem dX7_townLine_89 : decode cX7_townLine 89 = .ok (.invokevirtual 163, 3) := by decide +kernel
theorem dX7_townLine_92 : decode cX7_townLine 92 = .ok (.ifCond .ne 12, 3) := by decide +kernel
theorem dX7_townLine_95 : decode cX7_townLine 95 = .ok (.aload_n 0, 1) := by decide +kernel
theorem dX7_townLine_96 : decode cX7_townLine 96 = .ok (.ldc 180, 2) := by decide +kernel
theorem dX7_townLine_98 : decode cX7_townLine 98 = .ok (.invokevirtual 163, 3) := by decide +kernel
theorem dX7_townLine_101 : decode cX7_townLine 101 = .ok (.ifCond .eq 51, 3) := by decide +kernel
theorem dX7_townLine_104 : decode cX7_townLine 104 = .ok (.aload_n 0, 1) := by decide +kernel
theorem dX7_townLine_105 : decode cX7_townLine 105 = .ok (.ldc 178, 2) := by decide +kernel
theorem dX7_townLine_107 : decode cX7_townLine 107 = .ok (.invokevirtual 163, 3) := by decide +kernel
theorem dX7_townLine_110 : decode cX7_townLine 110 = .ok (.istore_n 3, 1) := by decide +kernel
theorem dX7_townLine_111 : decode cX7_townLine 111 = .ok (.aload_n 0, 1) := by decide +kernel
theorem dX7_townLine_112 : decode cX7_townLine 112 = .ok (.invokevirtual 191, 3) := by decide +kernel
theorem dX7_townLine_115 : decode cX7_townLine 115 = .ok (.aload_n 0, 1) := by decide +kernel
theorem dX7_townLine_116 : decode cX7_townLine 116 = .ok (.iconst 0, 1) := by decide +kernel
theorem dX7_townLine_117 : decode cX7_townLine 117 = .ok (.bipush 12, 2) := by decide +kernel
theorem dX7_townLine_119 : decode cX7_townLine 119 = .ok (.invokevirtual 222, 3) := by decide +kernel
theorem dX7_townLine_122 : decode cX7_townLine 122 = .ok (.ifCond .ne 5, 3) := by decide +kernel
theorem dX7_townLine_125 : decode cX7_townLine 125 = .ok (.iconst 0, 1) := by decide +kernel
theorem dX7_townLine_126 : decode cX7_townLine 126 = .ok (.ireturn, 1) := by decide +kernel
theorem dX7_townLine_127 : decode cX7_townLine 127 = .ok (.aload_n 0, 1) := by decide +kernel
theorem dX7_townLine_128 : decode cX7_townLine 128 = .ok (.getfield 27, 3) := by decide +kernel
theorem dX7_townLine_131 : decode cX7_townLine 131 = .ok (.aload_n 0, 1) := by decide +kernel
theorem dX7_townLine_132 : decode cX7_townLine 132 = .ok (.getfield 204, 3) := by decide +kernel
theorem dX7_townLine_135 : decode cX7_townLine 135 = .ok (.iload_n 3, 1) := by decide +kernel
theorem dX7_townLine_136 : decode cX7_townLine 136 = .ok (.ifCond .eq 10, 3) := by decide +kernel
theorem dX7_townLine_139 : decode cX7_townLine 139 = .ok (.aload_n 0, 1) := by decide +kernel
theorem dX7_townLine_140 : decode cX7_townLine 140 = .ok (.getfield 194, 3) := by decide +kernel
theorem dX7_townLine_143 : decode cX7_townLine 143 = .ok (.goto 8, 3) := by decide +kernel
theorem dX7_townLine_146 : decode cX7_townLine 146 = .ok (.aload_n 0, 1) := by decide +kernel
theorem dX7_townLine_147 : decode cX7_townLine 147 = .ok (.getfield 194, 3) := by decide +kernel
theorem dX7_townLine_150 : decode cX7_townLine 150 = .ok (.ineg, 1) := by decide +kernel
theorem dX7_townLine_151 : decode cX7_townLine 151 = .ok (.iastore, 1) := by decide +kernel
theorem dX7_townLine_152 : decode cX7_townLine 152 = .ok (.aload_n 0, 1) := by decide +kernel
theorem dX7_townLine_153 : decode cX7_townLine 153 = .ok (.getfield 21, 3) := by decide +kernel
theorem dX7_townLine_156 : decode cX7_townLine 156 = .ok (.aload_n 0, 1) := by decide +kernel
theorem dX7_townLine_157 : decode cX7_townLine 157 = .ok (.getfield 204, 3) := by decide +kernel
theorem dX7_townLine_160 : decode cX7_townLine 160 = .ok (.lload_n 1, 1) := by decide +kernel
theorem dX7_townLine_161 : decode cX7_townLine 161 = .ok (.lastore, 1) := by decide +kernel
theorem dX7_townLine_162 : decode cX7_townLine 162 = .ok (.aload_n 0, 1) := by decide +kernel
theorem dX7_townLine_163 : decode cX7_townLine 163 = .ok (.dup, 1) := by decide +kernel
theorem dX7_townLine_164 : decode cX7_townLine 164 = .ok (.getfield 204, 3) := by decide +kernel
theorem dX7_townLine_167 : decode cX7_townLine 167 = .ok (.iconst 1, 1) := by decide +kernel
theorem dX7_townLine_168 : decode cX7_townLine 168 = .ok (.iadd, 1) := by decide +kernel
theorem dX7_townLine_169 : decode cX7_townLine 169 = .ok (.putfield 204, 3) := by decide +kernel
theorem dX7_townLine_172 : decode cX7_townLine 172 = .ok (.aload_n 0, 1) := by decide +kernel
theorem dX7_townLine_173 : decode cX7_townLine 173 = .ok (.invokevirtual 216, 3) := by decide +kernel
theorem dX7_townLine_176 : decode cX7_townLine 176 = .ok (.ireturn, 1) := by decide +kernel
theorem dX7_linkLine_0 : decode cX7_linkLine 0 = .ok (.aload_n 0, 1) := by decide +kernel
theorem dX7_linkLine_1 : decode cX7_linkLine 1 = .ok (.getfield 225, 3) := by decide +kernel
theorem dX7_linkLine_4 : decode cX7_linkLine 4 = .ok (.bipush 16, 2) := by decide +kernel
theorem dX7_linkLine_6 : decode cX7_linkLine 6 = .ok (.if_icmp .ne 5, 3) := by decide +kernel
theorem dX7_linkLine_9 : decode cX7_linkLine 9 = .ok (.iconst 0, 1) := by decide +kernel
theorem dX7_linkLine_10 : decode cX7_linkLine 10 = .ok (.ireturn, 1) := by decide +kernel
theorem dX7_linkLine_11 : decode cX7_linkLine 11 = .ok (.bipush 6, 2) := by decide +kernel
theorem dX7_linkLine_13 : decode cX7_linkLine 13 = .ok (.aload_n 0, 1) := by decide +kernel
theorem dX7_linkLine_14 : decode cX7_linkLine 14 = .ok (.getfield 225, 3) := by decide +kernel
theorem dX7_linkLine_17 : decode cX7_linkLine 17 = .ok (.imul, 1) := by decide +kernel
theorem dX7_linkLine_18 : decode cX7_linkLine 18 = .ok (.istore_n 2, 1) := by decide +kernel
theorem dX7_linkLine_19 : decode cX7_linkLine 19 = .ok (.aload_n 0, 1) := by decide +kernel
theorem dX7_linkLine_20 : decode cX7_linkLine 20 = .ok (.invokevirtual 191, 3) := by decide +kernel
theorem dX7_linkLine_23 : decode cX7_linkLine 23 = .ok (.aload_n 0, 1) := by decide +kernel
theorem dX7_linkLine_24 : decode cX7_linkLine 24 = .ok (.getfield 30, 3) := by decide +kernel
theorem dX7_linkLine_27 : decode cX7_linkLine 27 = .ok (.iload_n 2, 1) := by decide +kernel
theorem dX7_linkLine_28 : decode cX7_linkLine 28 = .ok (.aload_n 0, 1) := by decide +kernel
theorem dX7_linkLine_29 : decode cX7_linkLine 29 = .ok (.invokevirtual 210, 3) := by decide +kernel
theorem dX7_linkLine_32 : decode cX7_linkLine 32 = .ok (.iastore, 1) := by decide +kernel
theorem dX7_linkLine_33 : decode cX7_linkLine 33 = .ok (.aload_n 0, 1) := by decide +kernel
