theorem dX3_howOfWord_43 : decode cX3_howOfWord 43 = .ok (.goto 4, 3) := by decide +kernel
theorem dX3_howOfWord_46 : decode cX3_howOfWord 46 = .ok (.iconst (-1), 1) := by decide +kernel
theorem dX3_howOfWord_47 : decode cX3_howOfWord 47 = .ok (.ireturn, 1) := by decide +kernel
theorem dX3_isNewName_0 : decode cX3_isNewName 0 = .ok (.aload_n 0, 1) := by decide +kernel
theorem dX3_isNewName_1 : decode cX3_isNewName 1 = .ok (.getfield 47, 3) := by decide +kernel
theorem dX3_isNewName_4 : decode cX3_isNewName 4 = .ok (.iconst 1, 1) := by decide +kernel
theorem dX3_isNewName_5 : decode cX3_isNewName 5 = .ok (.if_icmp .ne 42, 3) := by decide +kernel
theorem dX3_isNewName_8 : decode cX3_isNewName 8 = .ok (.aload_n 0, 1) := by decide +kernel
theorem dX3_isNewName_9 : decode cX3_isNewName 9 = .ok (.getfield 38, 3) := by decide +kernel
theorem dX3_isNewName_12 : decode cX3_isNewName 12 = .ok (.aload_n 0, 1) := by decide +kernel
theorem dX3_isNewName_13 : decode cX3_isNewName 13 = .ok (.getfield 54, 3) := by decide +kernel
theorem dX3_isNewName_16 : decode cX3_isNewName 16 = .ok (.isub, 1) := by decide +kernel
theorem dX3_isNewName_17 : decode cX3_isNewName 17 = .ok (.bipush 8, 2) := by decide +kernel
theorem dX3_isNewName_19 : decode cX3_isNewName 19 = .ok (.if_icmp .gt 28, 3) := by decide +kernel
theorem dX3_isNewName_22 : decode cX3_isNewName 22 = .ok (.aload_n 0, 1) := by decide +kernel
theorem dX3_isNewName_23 : decode cX3_isNewName 23 = .ok (.invokevirtual 147, 3) := by decide +kernel
theorem dX3_isNewName_26 : decode cX3_isNewName 26 = .ok (.ifCond .ne 21, 3) := by decide +kernel
theorem dX3_isNewName_29 : decode cX3_isNewName 29 = .ok (.aload_n 0, 1) := by decide +kernel
theorem dX3_isNewName_30 : decode cX3_isNewName 30 = .ok (.invokevirtual 105, 3) := by decide +kernel
theorem dX3_isNewName_33 : decode cX3_isNewName 33 = .ok (.ifCond .ge 14, 3) := by decide +kernel
theorem dX3_isNewName_36 : decode cX3_isNewName 36 = .ok (.aload_n 0, 1) := by decide +kernel
theorem dX3_isNewName_37 : decode cX3_isNewName 37 = .ok (.invokevirtual 126, 3) := by decide +kernel
theorem dX3_isNewName_40 : decode cX3_isNewName 40 = .ok (.ifCond .ge 7, 3) := by decide +kernel
theorem dX3_isNewName_43 : decode cX3_isNewName 43 = .ok (.iconst 1, 1) := by decide +kernel
theorem dX3_isNewName_44 : decode cX3_isNewName 44 = .ok (.goto 4, 3) := by decide +kernel
theorem dX3_isNewName_47 : decode cX3_isNewName 47 = .ok (.iconst 0, 1) := by decide +kernel
theorem dX3_isNewName_48 : decode cX3_isNewName 48 = .ok (.ireturn, 1) := by decide +kernel
theorem dX3_isKept_0 : decode cX3_isKept 0 = .ok (.aload_n 0, 1) := by decide +kernel
theorem dX3_isKept_1 : decode cX3_isKept 1 = .ok (.ldc 60, 2) := by decide +kernel
theorem dX3_isKept_3 : decode cX3_isKept 3 = .ok (.invokevirtual 62, 3) := by decide +kernel
theorem dX3_isKept_6 : decode cX3_isKept 6 = .ok (.ifCond .ne 120, 3) := by decide +kernel
theorem dX3_isKept_9 : decode cX3_isKept 9 = .ok (.aload_n 0, 1) := by decide +kernel
theorem dX3_isKept_10 : decode cX3_isKept 10 = .ok (.ldc 139, 2) := by decide +kernel
theorem dX3_isKept_12 : decode cX3_isKept 12 = .ok (.invokevirtual 62, 3) := by decide +kernel
theorem dX3_isKept_15 : decode cX3_isKept 15 = .ok (.ifCond .ne 111, 3) := by decide +kernel
theorem dX3_isKept_18 : decode cX3_isKept 18 = .ok (.aload_n 0, 1) := by decide +kernel
theorem dX3_isKept_19 : decode cX3_isKept 19 = .ok (.ldc 141, 2) := by decide +kernel
theorem dX3_isKept_21 : decode cX3_isKept 21 = .ok (.invokevirtual 62, 3) := by decide +kernel
theorem dX3_isKept_24 : decode cX3_isKept 24 = .ok (.ifCond .ne 102, 3) := by decide +kernel
theorem dX3_isKept_27 : decode cX3_isKept 27 = .ok (.aload_n 0, 1) := by decide +kernel
theorem dX3_isKept_28 : decode cX3_isKept 28 = .ok (.ldc 143, 2) := by decide +kernel
theorem dX3_isKept_30 : decode cX3_isKept 30 = .ok (.invokevirtual 62, 3) := by decide +kernel
theorem dX3_isKept_33 : decode cX3_isKept 33 = .ok (.ifCond .ne 93, 3) := by decide +kernel
theorem dX3_isKept_36 : decode cX3_isKept 36 = .ok (.aload_n 0, 1) := by decide +kernel
theorem dX3_isKept_37 : decode cX3_isKept 37 = .ok (.ldc 145, 2) := by decide +kernel
theorem dX3_isKept_39 : decode cX3_isKept 39 = .ok (.invokevirtual 62, 3) := by decide +kernel
theorem dX3_isKept_42 : decode cX3_isKept 42 = .ok (.ifCond .ne 84, 3) := by decide +kernel
theorem dX3_isKept_45 : decode cX3_isKept 45 = .ok (.aload_n 0, 1) := by decide +kernel
theorem dX3_isKept_46 : decode cX3_isKept 46 = .ok (.ldc 69, 2) := by decide +kernel
theorem dX3_isKept_48 : decode cX3_isKept 48 = .ok (.invokevirtual 62, 3) := by decide +kernel
theorem dX3_isKept_51 : decode cX3_isKept 51 = .ok (.ifCond .ne 75, 3) := by decide +kernel
theorem dX3_isKept_54 : decode cX3_isKept 54 = .ok (.aload_n 0, 1) := by decide +kernel
theorem dX3_isKept_55 : decode cX3_isKept 55 = .ok (.ldc 100, 2) := by decide +kernel
theorem dX3_isKept_57 : decode cX3_isKept 57 = .ok (.invokevirtual 62, 3) := by decide +kernel
theorem dX3_isKept_60 : decode cX3_isKept 60 = .ok (.ifCond .ne 66, 3) := by decide +kernel
theorem dX3_isKept_63 : decode cX3_isKept 63 = .ok (.aload_n 0, 1) := by decide +kernel
theorem dX3_isKept_64 : decode cX3_isKept 64 = .ok (.ldc 108, 2) := by decide +kernel
theorem dX3_isKept_66 : decode cX3_isKept 66 = .ok (.invokevirtual 62, 3) := by decide +kernel
theorem dX3_isKept_69 : decode cX3_isKept 69 = .ok (.ifCond .ne 57, 3) := by decide +kernel
theorem dX3_isKept_72 : decode cX3_isKept 72 = .ok (.aload_n 0, 1) := by decide +kernel
theorem dX3_isKept_73 : decode cX3_isKept 73 = .ok (.ldc 110, 2) := by decide +kernel
theorem dX3_isKept_75 : decode cX3_isKept 75 = .ok (.invokevirtual 62, 3) := by decide +kernel
theorem dX3_isKept_78 : decode cX3_isKept 78 = .ok (.ifCond .ne 48, 3) := by decide +kernel
theorem dX3_isKept_81 : decode cX3_isKept 81 = .ok (.aload_n 0, 1) := by decide +kernel
theorem dX3_isKept_82 : decode cX3_isKept 82 = .ok (.ldc 74, 2) := by decide +kernel
theorem dX3_isKept_84 : decode cX3_isKept 84 = .ok (.invokevirtual 62, 3) := by decide +kernel
theorem dX3_isKept_87 : decode cX3_isKept 87 = .ok (.ifCond .ne 39, 3) := by decide +kernel
theorem dX3_isKept_90 : decode cX3_isKept 90 = .ok (.aload_n 0, 1) := by decide +kernel
theorem dX3_isKept_91 : decode cX3_isKept 91 = .ok (.ldc 80, 2) := by decide +kernel
theorem dX3_isKept_93 : decode cX3_isKept 93 = .ok (.invokevirtual 62, 3) := by decide +kernel
theorem dX3_isKept_96 : decode cX3_isKept 96 = .ok (.ifCond .ne 30, 3) := by decide +kernel
theorem dX3_isKept_99 : decode cX3_isKept 99 = .ok (.aload_n 0, 1) := by decide +kernel
theorem dX3_isKept_100 : decode cX3_isKept 100 = .ok (.ldc 129, 2) := by decide +kernel
theorem dX3_isKept_102 : decode cX3_isKept 102 = .ok (.invokevirtual 62, 3) := by decide +kernel
theorem dX3_isKept_105 : decode cX3_isKept 105 = .ok (.ifCond .ne 21, 3) := by decide +kernel
theorem dX3_isKept_108 : decode cX3_isKept 108 = .ok (.aload_n 0, 1) := by decide +kernel
theorem dX3_isKept_109 : decode cX3_isKept 109 = .ok (.ldc 131, 2) := by decide +kernel
theorem dX3_isKept_111 : decode cX3_isKept 111 = .ok (.invokevirtual 62, 3) := by decide +kernel
theorem dX3_isKept_114 : decode cX3_isKept 114 = .ok (.ifCond .ne 12, 3) := by decide +kernel
theorem dX3_isKept_117 : decode cX3_isKept 117 = .ok (.aload_n 0, 1) := by decide +kernel
theorem dX3_isKept_118 : decode cX3_isKept 118 = .ok (.ldc 133, 2) := by decide +kernel
theorem dX3_isKept_120 : decode cX3_isKept 120 = .ok (.invokevirtual 62, 3) := by decide +kernel
theorem dX3_isKept_123 : decode cX3_isKept 123 = .ok (.ifCond .eq 7, 3) := by decide +kernel
theorem dX3_isKept_126 : decode cX3_isKept 126 = .ok (.iconst 1, 1) := by decide +kernel
theorem dX3_isKept_127 : decode cX3_isKept 127 = .ok (.goto 4, 3) := by decide +kernel
theorem dX3_isKept_130 : decode cX3_isKept 130 = .ok (.iconst 0, 1) := by decide +kernel
theorem dX3_isKept_131 : decode cX3_isKept 131 = .ok (.ireturn, 1) := by decide +kernel
theorem dX3_landOfWord_0 : decode cX3_landOfWord 0 = .ok (.aload_n 0, 1) := by decide +kernel
theorem dX3_landOfWord_1 : decode cX3_landOfWord 1 = .ok (.aload_n 0, 1) := by decide +kernel
theorem dX3_landOfWord_2 : decode cX3_landOfWord 2 = .ok (.getfield 11, 3) := by decide +kernel
theorem dX3_landOfWord_5 : decode cX3_landOfWord 5 = .ok (.aload_n 0, 1) := by decide +kernel
theorem dX3_landOfWord_6 : decode cX3_landOfWord 6 = .ok (.getfield 24, 3) := by decide +kernel
theorem dX3_landOfWord_9 : decode cX3_landOfWord 9 = .ok (.getfield 82, 3) := by decide +kernel
theorem dX3_landOfWord_12 : decode cX3_landOfWord 12 = .ok (.invokevirtual 150, 3) := by decide +kernel
theorem dX3_landOfWord_15 : decode cX3_landOfWord 15 = .ok (.ireturn, 1) := by decide +kernel
theorem dX3_townOfWord_0 : decode cX3_townOfWord 0 = .ok (.aload_n 0, 1) := by decide +kernel
theorem dX3_townOfWord_1 : decode cX3_townOfWord 1 = .ok (.aload_n 0, 1) := by decide +kernel
theorem dX3_townOfWord_2 : decode cX3_townOfWord 2 = .ok (.getfield 17, 3) := by decide +kernel
theorem dX3_townOfWord_5 : decode cX3_townOfWord 5 = .ok (.aload_n 0, 1) := by decide +kernel
theorem dX3_townOfWord_6 : decode cX3_townOfWord 6 = .ok (.getfield 24, 3) := by decide +kernel
theorem dX3_townOfWord_9 : decode cX3_townOfWord 9 = .ok (.getfield 57, 3) := by decide +kernel
theorem dX3_townOfWord_12 : decode cX3_townOfWord 12 = .ok (.invokevirtual 150, 3) := by decide +kernel
theorem dX3_townOfWord_15 : decode cX3_townOfWord 15 = .ok (.ireturn, 1) := by decide +kernel
theorem dX3_placeOfName_0 : decode cX3_placeOfName 0 = .ok (.iconst 0, 1) := by decide +kernel
theorem dX3_placeOfName_1 : decode cX3_placeOfName 1 = .ok (.istore_n 3, 1) := by decide +kernel
theorem dX3_placeOfName_2 : decode cX3_placeOfName 2 = .ok (.iload_n 3, 1) := by decide +kernel
theorem dX3_placeOfName_3 : decode cX3_placeOfName 3 = .ok (.iload_n 2, 1) := by decide +kernel
theorem dX3_placeOfName_4 : decode cX3_placeOfName 4 = .ok (.if_icmp .ge 50, 3) := by decide +kernel
theorem dX3_placeOfName_7 : decode cX3_placeOfName 7 = .ok (.iload_n 3, 1) := by decide +kernel
theorem dX3_placeOfName_8 : decode cX3_placeOfName 8 = .ok (.aload_n 1, 1) := by decide +kernel
theorem dX3_placeOfName_9 : decode cX3_placeOfName 9 = .ok (.arraylength, 1) := by decide +kernel
theorem dX3_placeOfName_10 : decode cX3_placeOfName 10 = .ok (.if_icmp .ge 44, 3) := by decide +kernel
theorem dX3_placeOfName_13 : decode cX3_placeOfName 13 = .ok (.aload_n 0, 1) := by decide +kernel
theorem dX3_placeOfName_14 : decode cX3_placeOfName 14 = .ok (.getfield 47, 3) := by decide +kernel
theorem dX3_placeOfName_17 : decode cX3_placeOfName 17 = .ok (.iconst 1, 1) := by decide +kernel
theorem dX3_placeOfName_18 : decode cX3_placeOfName 18 = .ok (.if_icmp .ne 30, 3) := by decide +kernel
theorem dX3_placeOfName_21 : decode cX3_placeOfName 21 = .ok (.aload_n 0, 1) := by decide +kernel
theorem dX3_placeOfName_22 : decode cX3_placeOfName 22 = .ok (.getfield 38, 3) := by decide +kernel
theorem dX3_placeOfName_25 : decode cX3_placeOfName 25 = .ok (.aload_n 0, 1) := by decide +kernel
theorem dX3_placeOfName_26 : decode cX3_placeOfName 26 = .ok (.getfield 54, 3) := by decide +kernel
theorem dX3_placeOfName_29 : decode cX3_placeOfName 29 = .ok (.isub, 1) := by decide +kernel
theorem dX3_placeOfName_30 : decode cX3_placeOfName 30 = .ok (.bipush 8, 2) := by decide +kernel
theorem dX3_placeOfName_32 : decode cX3_placeOfName 32 = .ok (.if_icmp .gt 16, 3) := by decide +kernel
theorem dX3_placeOfName_35 : decode cX3_placeOfName 35 = .ok (.aload_n 1, 1) := by decide +kernel
theorem dX3_placeOfName_36 : decode cX3_placeOfName 36 = .ok (.iload_n 3, 1) := by decide +kernel
theorem dX3_placeOfName_37 : decode cX3_placeOfName 37 = .ok (.laload, 1) := by decide +kernel
theorem dX3_placeOfName_38 : decode cX3_placeOfName 38 = .ok (.aload_n 0, 1) := by decide +kernel
theorem dX3_placeOfName_39 : decode cX3_placeOfName 39 = .ok (.getfield 88, 3) := by decide +kernel
theorem dX3_placeOfName_42 : decode cX3_placeOfName 42 = .ok (.lcmp, 1) := by decide +kernel
theorem dX3_placeOfName_43 : decode cX3_placeOfName 43 = .ok (.ifCond .ne 5, 3) := by decide +kernel
theorem dX3_placeOfName_46 : decode cX3_placeOfName 46 = .ok (.iload_n 3, 1) := by decide +kernel
theorem dX3_placeOfName_47 : decode cX3_placeOfName 47 = .ok (.ireturn, 1) := by decide +kernel
theorem dX3_placeOfName_48 : decode cX3_placeOfName 48 = .ok (.iinc 3 1, 3) := by decide +kernel
theorem dX3_placeOfName_51 : decode cX3_placeOfName 51 = .ok (.goto (-49), 3) := by decide +kernel
theorem dX3_placeOfName_54 : decode cX3_placeOfName 54 = .ok (.iconst (-1), 1) := by decide +kernel
theorem dX3_placeOfName_55 : decode cX3_placeOfName 55 = .ok (.ireturn, 1) := by decide +kernel
theorem dX3_isWord_0 : decode cX3_isWord 0 = .ok (.aload_n 0, 1) := by decide +kernel
theorem dX3_isWord_1 : decode cX3_isWord 1 = .ok (.getfield 47, 3) := by decide +kernel
theorem dX3_isWord_4 : decode cX3_isWord 4 = .ok (.iconst 1, 1) := by decide +kernel
theorem dX3_isWord_5 : decode cX3_isWord 5 = .ok (.if_icmp .ne 19, 3) := by decide +kernel
theorem dX3_isWord_8 : decode cX3_isWord 8 = .ok (.aload_n 0, 1) := by decide +kernel
theorem dX3_isWord_9 : decode cX3_isWord 9 = .ok (.getfield 38, 3) := by decide +kernel
theorem dX3_isWord_12 : decode cX3_isWord 12 = .ok (.aload_n 0, 1) := by decide +kernel
theorem dX3_isWord_13 : decode cX3_isWord 13 = .ok (.getfield 54, 3) := by decide +kernel
theorem dX3_isWord_16 : decode cX3_isWord 16 = .ok (.isub, 1) := by decide +kernel
theorem dX3_isWord_17 : decode cX3_isWord 17 = .ok (.aload_n 1, 1) := by decide +kernel
theorem dX3_isWord_18 : decode cX3_isWord 18 = .ok (.invokevirtual 154, 3) := by decide +kernel
theorem dX3_isWord_21 : decode cX3_isWord 21 = .ok (.if_icmp .eq 5, 3) := by decide +kernel
theorem dX3_isWord_24 : decode cX3_isWord 24 = .ok (.iconst 0, 1) := by decide +kernel
theorem dX3_isWord_25 : decode cX3_isWord 25 = .ok (.ireturn, 1) := by decide +kernel
theorem dX3_isWord_26 : decode cX3_isWord 26 = .ok (.iconst 0, 1) := by decide +kernel
theorem dX3_isWord_27 : decode cX3_isWord 27 = .ok (.istore_n 2, 1) := by decide +kernel
theorem dX3_isWord_28 : decode cX3_isWord 28 = .ok (.iload_n 2, 1) := by decide +kernel
theorem dX3_isWord_29 : decode cX3_isWord 29 = .ok (.aload_n 1, 1) := by decide +kernel
theorem dX3_isWord_30 : decode cX3_isWord 30 = .ok (.invokevirtual 154, 3) := by decide +kernel
theorem dX3_isWord_33 : decode cX3_isWord 33 = .ok (.if_icmp .ge 30, 3) := by decide +kernel
theorem dX3_isWord_36 : decode cX3_isWord 36 = .ok (.aload_n 0, 1) := by decide +kernel
theorem dX3_isWord_37 : decode cX3_isWord 37 = .ok (.getfield 20, 3) := by decide +kernel
theorem dX3_isWord_40 : decode cX3_isWord 40 = .ok (.aload_n 0, 1) := by decide +kernel
theorem dX3_isWord_41 : decode cX3_isWord 41 = .ok (.getfield 54, 3) := by decide +kernel
theorem dX3_isWord_44 : decode cX3_isWord 44 = .ok (.iload_n 2, 1) := by decide +kernel
theorem dX3_isWord_45 : decode cX3_isWord 45 = .ok (.iadd, 1) := by decide +kernel
theorem dX3_isWord_46 : decode cX3_isWord 46 = .ok (.baload, 1) := by decide +kernel
theorem dX3_isWord_47 : decode cX3_isWord 47 = .ok (.aload_n 1, 1) := by decide +kernel
theorem dX3_isWord_48 : decode cX3_isWord 48 = .ok (.iload_n 2, 1) := by decide +kernel
theorem dX3_isWord_49 : decode cX3_isWord 49 = .ok (.invokevirtual 158, 3) := by decide +kernel
theorem dX3_isWord_52 : decode cX3_isWord 52 = .ok (.if_icmp .eq 5, 3) := by decide +kernel
theorem dX3_isWord_55 : decode cX3_isWord 55 = .ok (.iconst 0, 1) := by decide +kernel
theorem dX3_isWord_56 : decode cX3_isWord 56 = .ok (.ireturn, 1) := by decide +kernel
theorem dX3_isWord_57 : decode cX3_isWord 57 = .ok (.iinc 2 1, 3) := by decide +kernel
theorem dX3_isWord_60 : decode cX3_isWord 60 = .ok (.goto (-32), 3) := by decide +kernel
theorem dX3_isWord_63 : decode cX3_isWord 63 = .ok (.iconst 1, 1) := by decide +kernel
theorem dX3_isWord_64 : decode cX3_isWord 64 = .ok (.ireturn, 1) := by decide +kernel
theorem dX3_next_0 : decode cX3_next 0 = .ok (.aload_n 0, 1) := by decide +kernel
theorem dX3_next_1 : decode cX3_next 1 = .ok (.aload_n 0, 1) := by decide +kernel
theorem dX3_next_2 : decode cX3_next 2 = .ok (.getfield 38, 3) := by decide +kernel
theorem dX3_next_5 : decode cX3_next 5 = .ok (.putfield 54, 3) := by decide +kernel
theorem dX3_next_8 : decode cX3_next 8 = .ok (.aload_n 0, 1) := by decide +kernel
theorem dX3_next_9 : decode cX3_next 9 = .ok (.getfield 54, 3) := by decide +kernel
theorem dX3_next_12 : decode cX3_next 12 = .ok (.aload_n 0, 1) := by decide +kernel
theorem dX3_next_13 : decode cX3_next 13 = .ok (.getfield 34, 3) := by decide +kernel
theorem dX3_next_16 : decode cX3_next 16 = .ok (.if_icmp .ge 44, 3) := by decide +kernel
theorem dX3_next_19 : decode cX3_next 19 = .ok (.aload_n 0, 1) := by decide +kernel
theorem dX3_next_20 : decode cX3_next 20 = .ok (.getfield 20, 3) := by decide +kernel
theorem dX3_next_23 : decode cX3_next 23 = .ok (.aload_n 0, 1) := by decide +kernel
theorem dX3_next_24 : decode cX3_next 24 = .ok (.getfield 54, 3) := by decide +kernel
theorem dX3_next_27 : decode cX3_next 27 = .ok (.baload, 1) := by decide +kernel
theorem dX3_next_28 : decode cX3_next 28 = .ok (.bipush 32, 2) := by decide +kernel
theorem dX3_next_30 : decode cX3_next 30 = .ok (.if_icmp .eq 17, 3) := by decide +kernel
theorem dX3_next_33 : decode cX3_next 33 = .ok (.aload_n 0, 1) := by decide +kernel
theorem dX3_next_34 : decode cX3_next 34 = .ok (.getfield 20, 3) := by decide +kernel
theorem dX3_next_37 : decode cX3_next 37 = .ok (.aload_n 0, 1) := by decide +kernel
theorem dX3_next_38 : decode cX3_next 38 = .ok (.getfield 54, 3) := by decide +kernel
theorem dX3_next_41 : decode cX3_next 41 = .ok (.baload, 1) := by decide +kernel
theorem dX3_next_42 : decode cX3_next 42 = .ok (.bipush 10, 2) := by decide +kernel
theorem dX3_next_44 : decode cX3_next 44 = .ok (.if_icmp .ne 16, 3) := by decide +kernel
theorem dX3_next_47 : decode cX3_next 47 = .ok (.aload_n 0, 1) := by decide +kernel
theorem dX3_next_48 : decode cX3_next 48 = .ok (.dup, 1) := by decide +kernel
theorem dX3_next_49 : decode cX3_next 49 = .ok (.getfield 54, 3) := by decide +kernel
theorem dX3_next_52 : decode cX3_next 52 = .ok (.iconst 1, 1) := by decide +kernel
theorem dX3_next_53 : decode cX3_next 53 = .ok (.iadd, 1) := by decide +kernel
theorem dX3_next_54 : decode cX3_next 54 = .ok (.putfield 54, 3) := by decide +kernel
theorem dX3_next_57 : decode cX3_next 57 = .ok (.goto (-49), 3) := by decide +kernel
theorem dX3_next_60 : decode cX3_next 60 = .ok (.aload_n 0, 1) := by decide +kernel
theorem dX3_next_61 : decode cX3_next 61 = .ok (.aload_n 0, 1) := by decide +kernel
theorem dX3_next_62 : decode cX3_next 62 = .ok (.getfield 54, 3) := by decide +kernel
theorem dX3_next_65 : decode cX3_next 65 = .ok (.putfield 38, 3) := by decide +kernel
theorem dX3_next_68 : decode cX3_next 68 = .ok (.aload_n 0, 1) := by decide +kernel
theorem dX3_next_69 : decode cX3_next 69 = .ok (.getfield 54, 3) := by decide +kernel
theorem dX3_next_72 : decode cX3_next 72 = .ok (.aload_n 0, 1) := by decide +kernel
theorem dX3_next_73 : decode cX3_next 73 = .ok (.getfield 34, 3) := by decide +kernel
theorem dX3_next_76 : decode cX3_next 76 = .ok (.if_icmp .lt 11, 3) := by decide +kernel
theorem dX3_next_79 : decode cX3_next 79 = .ok (.aload_n 0, 1) := by decide +kernel
theorem dX3_next_80 : decode cX3_next 80 = .ok (.iconst 0, 1) := by decide +kernel
theorem dX3_next_81 : decode cX3_next 81 = .ok (.putfield 47, 3) := by decide +kernel
theorem dX3_next_84 : decode cX3_next 84 = .ok (.goto 72, 3) := by decide +kernel
theorem dX3_next_87 : decode cX3_next 87 = .ok (.aload_n 0, 1) := by decide +kernel
theorem dX3_next_88 : decode cX3_next 88 = .ok (.aload_n 0, 1) := by decide +kernel
theorem dX3_next_89 : decode cX3_next 89 = .ok (.getfield 54, 3) := by decide +kernel
theorem dX3_next_92 : decode cX3_next 92 = .ok (.invokevirtual 162, 3) := by decide +kernel
theorem dX3_next_95 : decode cX3_next 95 = .ok (.ifCond .eq 10, 3) := by decide +kernel
theorem dX3_next_98 : decode cX3_next 98 = .ok (.aload_n 0, 1) := by decide +kernel
theorem dX3_next_99 : decode cX3_next 99 = .ok (.invokevirtual 166, 3) := by decide +kernel
theorem dX3_next_102 : decode cX3_next 102 = .ok (.goto 54, 3) := by decide +kernel
theorem dX3_next_105 : decode cX3_next 105 = .ok (.aload_n 0, 1) := by decide +kernel
theorem dX3_next_106 : decode cX3_next 106 = .ok (.aload_n 0, 1) := by decide +kernel
theorem dX3_next_107 : decode cX3_next 107 = .ok (.getfield 54, 3) := by decide +kernel
theorem dX3_next_110 : decode cX3_next 110 = .ok (.invokevirtual 169, 3) := by decide +kernel
theorem dX3_next_113 : decode cX3_next 113 = .ok (.ifCond .eq 10, 3) := by decide +kernel
theorem dX3_next_116 : decode cX3_next 116 = .ok (.aload_n 0, 1) := by decide +kernel
theorem dX3_next_117 : decode cX3_next 117 = .ok (.invokevirtual 172, 3) := by decide +kernel
theorem dX3_next_120 : decode cX3_next 120 = .ok (.goto 36, 3) := by decide +kernel
theorem dX3_next_123 : decode cX3_next 123 = .ok (.aload_n 0, 1) := by decide +kernel
theorem dX3_next_124 : decode cX3_next 124 = .ok (.aload_n 0, 1) := by decide +kernel
theorem dX3_next_125 : decode cX3_next 125 = .ok (.getfield 20, 3) := by decide +kernel
theorem dX3_next_128 : decode cX3_next 128 = .ok (.aload_n 0, 1) := by decide +kernel
theorem dX3_next_129 : decode cX3_next 129 = .ok (.getfield 54, 3) := by decide +kernel
theorem dX3_next_132 : decode cX3_next 132 = .ok (.baload, 1) := by decide +kernel
theorem dX3_next_133 : decode cX3_next 133 = .ok (.bipush 59, 2) := by decide +kernel
theorem dX3_next_135 : decode cX3_next 135 = .ok (.if_icmp .ne 7, 3) := by decide +kernel
theorem dX3_next_138 : decode cX3_next 138 = .ok (.iconst 3, 1) := by decide +kernel
theorem dX3_next_139 : decode cX3_next 139 = .ok (.goto 4, 3) := by decide +kernel
theorem dX3_next_142 : decode cX3_next 142 = .ok (.iconst 4, 1) := by decide +kernel
theorem dX3_next_143 : decode cX3_next 143 = .ok (.putfield 47, 3) := by decide +kernel
theorem dX3_next_146 : decode cX3_next 146 = .ok (.aload_n 0, 1) := by decide +kernel
theorem dX3_next_147 : decode cX3_next 147 = .ok (.dup, 1) := by decide +kernel
theorem dX3_next_148 : decode cX3_next 148 = .ok (.getfield 38, 3) := by decide +kernel
theorem dX3_next_151 : decode cX3_next 151 = .ok (.iconst 1, 1) := by decide +kernel
theorem dX3_next_152 : decode cX3_next 152 = .ok (.iadd, 1) := by decide +kernel
theorem dX3_next_153 : decode cX3_next 153 = .ok (.putfield 38, 3) := by decide +kernel
theorem dX3_next_156 : decode cX3_next 156 = .ok (.return_, 1) := by decide +kernel
theorem dX3_takeWord_0 : decode cX3_takeWord 0 = .ok (.aload_n 0, 1) := by decide +kernel
theorem dX3_takeWord_1 : decode cX3_takeWord 1 = .ok (.iconst 1, 1) := by decide +kernel
theorem dX3_takeWord_2 : decode cX3_takeWord 2 = .ok (.putfield 47, 3) := by decide +kernel
theorem dX3_takeWord_5 : decode cX3_takeWord 5 = .ok (.aload_n 0, 1) := by decide +kernel
theorem dX3_takeWord_6 : decode cX3_takeWord 6 = .ok (.lconst 0, 1) := by decide +kernel
theorem dX3_takeWord_7 : decode cX3_takeWord 7 = .ok (.putfield 88, 3) := by decide +kernel
theorem dX3_takeWord_10 : decode cX3_takeWord 10 = .ok (.aload_n 0, 1) := by decide +kernel
theorem dX3_takeWord_11 : decode cX3_takeWord 11 = .ok (.getfield 38, 3) := by decide +kernel
theorem dX3_takeWord_14 : decode cX3_takeWord 14 = .ok (.aload_n 0, 1) := by decide +kernel
theorem dX3_takeWord_15 : decode cX3_takeWord 15 = .ok (.getfield 34, 3) := by decide +kernel
theorem dX3_takeWord_18 : decode cX3_takeWord 18 = .ok (.if_icmp .ge 55, 3) := by decide +kernel
theorem dX3_takeWord_21 : decode cX3_takeWord 21 = .ok (.aload_n 0, 1) := by decide +kernel
theorem dX3_takeWord_22 : decode cX3_takeWord 22 = .ok (.aload_n 0, 1) := by decide +kernel
theorem dX3_takeWord_23 : decode cX3_takeWord 23 = .ok (.getfield 38, 3) := by decide +kernel
theorem dX3_takeWord_26 : decode cX3_takeWord 26 = .ok (.invokevirtual 162, 3) := by decide +kernel
theorem dX3_takeWord_29 : decode cX3_takeWord 29 = .ok (.ifCond .eq 44, 3) := by decide +kernel
theorem dX3_takeWord_32 : decode cX3_takeWord 32 = .ok (.aload_n 0, 1) := by decide +kernel
theorem dX3_takeWord_33 : decode cX3_takeWord 33 = .ok (.aload_n 0, 1) := by decide +kernel
theorem dX3_takeWord_34 : decode cX3_takeWord 34 = .ok (.getfield 88, 3) := by decide +kernel
theorem dX3_takeWord_37 : decode cX3_takeWord 37 = .ok (.ldc2_w 175, 3) := by decide +kernel
theorem dX3_takeWord_40 : decode cX3_takeWord 40 = .ok (.lmul, 1) := by decide +kernel
theorem dX3_takeWord_41 : decode cX3_takeWord 41 = .ok (.aload_n 0, 1) := by decide +kernel
theorem dX3_takeWord_42 : decode cX3_takeWord 42 = .ok (.getfield 20, 3) := by decide +kernel
theorem dX3_takeWord_45 : decode cX3_takeWord 45 = .ok (.aload_n 0, 1) := by decide +kernel
theorem dX3_takeWord_46 : decode cX3_takeWord 46 = .ok (.getfield 38, 3) := by decide +kernel
theorem dX3_takeWord_49 : decode cX3_takeWord 49 = .ok (.baload, 1) := by decide +kernel
theorem dX3_takeWord_50 : decode cX3_takeWord 50 = .ok (.bipush 97, 2) := by decide +kernel
theorem dX3_takeWord_52 : decode cX3_takeWord 52 = .ok (.isub, 1) := by decide +kernel
theorem dX3_takeWord_53 : decode cX3_takeWord 53 = .ok (.iconst 1, 1) := by decide +kernel
theorem dX3_takeWord_54 : decode cX3_takeWord 54 = .ok (.iadd, 1) := by decide +kernel
theorem dX3_takeWord_55 : decode cX3_takeWord 55 = .ok (.i2l, 1) := by decide +kernel
theorem dX3_takeWord_56 : decode cX3_takeWord 56 = .ok (.ladd, 1) := by decide +kernel
theorem dX3_takeWord_57 : decode cX3_takeWord 57 = .ok (.putfield 88, 3) := by decide +kernel
theorem dX3_takeWord_60 : decode cX3_takeWord 60 = .ok (.aload_n 0, 1) := by decide +kernel
theorem dX3_takeWord_61 : decode cX3_takeWord 61 = .ok (.dup, 1) := by decide +kernel
theorem dX3_takeWord_62 : decode cX3_takeWord 62 = .ok (.getfield 38, 3) := by decide +kernel
theorem dX3_takeWord_65 : decode cX3_takeWord 65 = .ok (.iconst 1, 1) := by decide +kernel
theorem dX3_takeWord_66 : decode cX3_takeWord 66 = .ok (.iadd, 1) := by decide +kernel
theorem dX3_takeWord_67 : decode cX3_takeWord 67 = .ok (.putfield 38, 3) := by decide +kernel
theorem dX3_takeWord_70 : decode cX3_takeWord 70 = .ok (.goto (-60), 3) := by decide +kernel
theorem dX3_takeWord_73 : decode cX3_takeWord 73 = .ok (.return_, 1) := by decide +kernel
theorem dX3_takeNumber_0 : decode cX3_takeNumber 0 = .ok (.aload_n 0, 1) := by decide +kernel
theorem dX3_takeNumber_1 : decode cX3_takeNumber 1 = .ok (.iconst 2, 1) := by decide +kernel
theorem dX3_takeNumber_2 : decode cX3_takeNumber 2 = .ok (.putfield 47, 3) := by decide +kernel
theorem dX3_takeNumber_5 : decode cX3_takeNumber 5 = .ok (.aload_n 0, 1) := by decide +kernel
theorem dX3_takeNumber_6 : decode cX3_takeNumber 6 = .ok (.iconst 0, 1) := by decide +kernel
theorem dX3_takeNumber_7 : decode cX3_takeNumber 7 = .ok (.putfield 116, 3) := by decide +kernel
theorem dX3_takeNumber_10 : decode cX3_takeNumber 10 = .ok (.aload_n 0, 1) := by decide +kernel
theorem dX3_takeNumber_11 : decode cX3_takeNumber 11 = .ok (.getfield 38, 3) := by decide +kernel
theorem dX3_takeNumber_14 : decode cX3_takeNumber 14 = .ok (.aload_n 0, 1) := by decide +kernel
theorem dX3_takeNumber_15 : decode cX3_takeNumber 15 = .ok (.getfield 34, 3) := by decide +kernel
theorem dX3_takeNumber_18 : decode cX3_takeNumber 18 = .ok (.if_icmp .ge 57, 3) := by decide +kernel
theorem dX3_takeNumber_21 : decode cX3_takeNumber 21 = .ok (.aload_n 0, 1) := by decide +kernel
theorem dX3_takeNumber_22 : decode cX3_takeNumber 22 = .ok (.aload_n 0, 1) := by decide +kernel
theorem dX3_takeNumber_23 : decode cX3_takeNumber 23 = .ok (.getfield 38, 3) := by decide +kernel
theorem dX3_takeNumber_26 : decode cX3_takeNumber 26 = .ok (.invokevirtual 169, 3) := by decide +kernel
theorem dX3_takeNumber_29 : decode cX3_takeNumber 29 = .ok (.ifCond .eq 46, 3) := by decide +kernel
theorem dX3_takeNumber_32 : decode cX3_takeNumber 32 = .ok (.aload_n 0, 1) := by decide +kernel
theorem dX3_takeNumber_33 : decode cX3_takeNumber 33 = .ok (.sipush 1000, 3) := by decide +kernel
theorem dX3_takeNumber_36 : decode cX3_takeNumber 36 = .ok (.aload_n 0, 1) := by decide +kernel
theorem dX3_takeNumber_37 : decode cX3_takeNumber 37 = .ok (.getfield 116, 3) := by decide +kernel
theorem dX3_takeNumber_40 : decode cX3_takeNumber 40 = .ok (.bipush 10, 2) := by decide +kernel
theorem dX3_takeNumber_42 : decode cX3_takeNumber 42 = .ok (.imul, 1) := by decide +kernel
theorem dX3_takeNumber_43 : decode cX3_takeNumber 43 = .ok (.aload_n 0, 1) := by decide +kernel
theorem dX3_takeNumber_44 : decode cX3_takeNumber 44 = .ok (.getfield 20, 3) := by decide +kernel
theorem dX3_takeNumber_47 : decode cX3_takeNumber 47 = .ok (.aload_n 0, 1) := by decide +kernel
theorem dX3_takeNumber_48 : decode cX3_takeNumber 48 = .ok (.getfield 38, 3) := by decide +kernel
theorem dX3_takeNumber_51 : decode cX3_takeNumber 51 = .ok (.baload, 1) := by decide +kernel
theorem dX3_takeNumber_52 : decode cX3_takeNumber 52 = .ok (.bipush 48, 2) := by decide +kernel
theorem dX3_takeNumber_54 : decode cX3_takeNumber 54 = .ok (.isub, 1) := by decide +kernel
theorem dX3_takeNumber_55 : decode cX3_takeNumber 55 = .ok (.iadd, 1) := by decide +kernel
theorem dX3_takeNumber_56 : decode cX3_takeNumber 56 = .ok (.invokestatic 28, 3) := by decide +kernel
theorem dX3_takeNumber_59 : decode cX3_takeNumber 59 = .ok (.putfield 116, 3) := by decide +kernel
theorem dX3_takeNumber_62 : decode cX3_takeNumber 62 = .ok (.aload_n 0, 1) := by decide +kernel
theorem dX3_takeNumber_63 : decode cX3_takeNumber 63 = .ok (.dup, 1) := by decide +kernel
theorem dX3_takeNumber_64 : decode cX3_takeNumber 64 = .ok (.getfield 38, 3) := by decide +kernel
theorem dX3_takeNumber_67 : decode cX3_takeNumber 67 = .ok (.iconst 1, 1) := by decide +kernel
theorem dX3_takeNumber_68 : decode cX3_takeNumber 68 = .ok (.iadd, 1) := by decide +kernel
theorem dX3_takeNumber_69 : decode cX3_takeNumber 69 = .ok (.putfield 38, 3) := by decide +kernel
theorem dX3_takeNumber_72 : decode cX3_takeNumber 72 = .ok (.goto (-62), 3) := by decide +kernel
theorem dX3_takeNumber_75 : decode cX3_takeNumber 75 = .ok (.return_, 1) := by decide +kernel
theorem dX3_isLetter_0 : decode cX3_isLetter 0 = .ok (.aload_n 0, 1) := by decide +kernel
theorem dX3_isLetter_1 : decode cX3_isLetter 1 = .ok (.getfield 20, 3) := by decide +kernel
theorem dX3_isLetter_4 : decode cX3_isLetter 4 = .ok (.iload_n 1, 1) := by decide +kernel
theorem dX3_isLetter_5 : decode cX3_isLetter 5 = .ok (.baload, 1) := by decide +kernel
theorem dX3_isLetter_6 : decode cX3_isLetter 6 = .ok (.bipush 97, 2) := by decide +kernel
theorem dX3_isLetter_8 : decode cX3_isLetter 8 = .ok (.if_icmp .lt 18, 3) := by decide +kernel
theorem dX3_isLetter_11 : decode cX3_isLetter 11 = .ok (.aload_n 0, 1) := by decide +kernel
theorem dX3_isLetter_12 : decode cX3_isLetter 12 = .ok (.getfield 20, 3) := by decide +kernel
theorem dX3_isLetter_15 : decode cX3_isLetter 15 = .ok (.iload_n 1, 1) := by decide +kernel
theorem dX3_isLetter_16 : decode cX3_isLetter 16 = .ok (.baload, 1) := by decide +kernel
theorem dX3_isLetter_17 : decode cX3_isLetter 17 = .ok (.bipush 122, 2) := by decide +kernel
theorem dX3_isLetter_19 : decode cX3_isLetter 19 = .ok (.if_icmp .gt 7, 3) := by decide +kernel
theorem dX3_isLetter_22 : decode cX3_isLetter 22 = .ok (.iconst 1, 1) := by decide +kernel
theorem dX3_isLetter_23 : decode cX3_isLetter 23 = .ok (.goto 4, 3) := by decide +kernel
theorem dX3_isLetter_26 : decode cX3_isLetter 26 = .ok (.iconst 0, 1) := by decide +kernel
theorem dX3_isLetter_27 : decode cX3_isLetter 27 = .ok (.ireturn, 1) := by decide +kernel
theorem dX3_isDigit_0 : decode cX3_isDigit 0 = .ok (.aload_n 0, 1) := by decide +kernel
theorem dX3_isDigit_1 : decode cX3_isDigit 1 = .ok (.getfield 20, 3) := by decide +kernel
theorem dX3_isDigit_4 : decode cX3_isDigit 4 = .ok (.iload_n 1, 1) := by decide +kernel
theorem dX3_isDigit_5 : decode cX3_isDigit 5 = .ok (.baload, 1) := by decide +kernel
theorem dX3_isDigit_6 : decode cX3_isDigit 6 = .ok (.bipush 48, 2) := by decide +kernel
theorem dX3_isDigit_8 : decode cX3_isDigit 8 = .ok (.if_icmp .lt 18, 3) := by decide +kernel
theorem dX3_isDigit_11 : decode cX3_isDigit 11 = .ok (.aload_n 0, 1) := by decide +kernel
theorem dX3_isDigit_12 : decode cX3_isDigit 12 = .ok (.getfield 20, 3) := by decide +kernel
theorem dX3_isDigit_15 : decode cX3_isDigit 15 = .ok (.iload_n 1, 1) := by decide +kernel
theorem dX3_isDigit_16 : decode cX3_isDigit 16 = .ok (.baload, 1) := by decide +kernel
theorem dX3_isDigit_17 : decode cX3_isDigit 17 = .ok (.bipush 57, 2) := by decide +kernel
theorem dX3_isDigit_19 : decode cX3_isDigit 19 = .ok (.if_icmp .gt 7, 3) := by decide +kernel
theorem dX3_isDigit_22 : decode cX3_isDigit 22 = .ok (.iconst 1, 1) := by decide +kernel
theorem dX3_isDigit_23 : decode cX3_isDigit 23 = .ok (.goto 4, 3) := by decide +kernel
theorem dX3_isDigit_26 : decode cX3_isDigit 26 = .ok (.iconst 0, 1) := by decide +kernel
theorem dX3_isDigit_27 : decode cX3_isDigit 27 = .ok (.ireturn, 1) := by decide +kernel
theorem dX4_init_0 : decode cX4_init 0 = .ok (.aload_n 0, 1) := by decide +kernel
theorem dX4_init_1 : decode cX4_init 1 = .ok (.invokespecial 5, 3) := by decide +kernel
theorem dX4_init_4 : decode cX4_init 4 = .ok (.aload_n 0, 1) := by decide +kernel
theorem dX4_init_5 : decode cX4_init 5 = .ok (.new 11, 3) := by decide +kernel
theorem dX4_init_8 : decode cX4_init 8 = .ok (.dup, 1) := by decide +kernel
theorem dX4_init_9 : decode cX4_init 9 = .ok (.invokespecial 13, 3) := by decide +kernel
theorem dX4_init_12 : decode cX4_init 12 = .ok (.putfield 14, 3) := by decide +kernel
theorem dX4_init_15 : decode cX4_init 15 = .ok (.aload_n 0, 1) := by decide +kernel
theorem dX4_init_16 : decode cX4_init 16 = .ok (.sipush 256, 3) := by decide +kernel
theorem dX4_init_19 : decode cX4_init 19 = .ok (.newarray .int, 2) := by decide +kernel
theorem dX4_init_21 : decode cX4_init 21 = .ok (.putfield 18, 3) := by decide +kernel
theorem dX4_init_24 : decode cX4_init 24 = .ok (.aload_n 0, 1) := by decide +kernel
theorem dX4_init_25 : decode cX4_init 25 = .ok (.bipush 97, 2) := by decide +kernel
theorem dX4_init_27 : decode cX4_init 27 = .ok (.newarray .int, 2) := by decide +kernel
theorem dX4_init_29 : decode cX4_init 29 = .ok (.putfield 22, 3) := by decide +kernel
theorem dX4_init_32 : decode cX4_init 32 = .ok (.aload_n 0, 1) := by decide +kernel
theorem dX4_init_33 : decode cX4_init 33 = .ok (.bipush 6, 2) := by decide +kernel
theorem dX4_init_35 : decode cX4_init 35 = .ok (.newarray .int, 2) := by decide +kernel
theorem dX4_init_37 : decode cX4_init 37 = .ok (.putfield 27, 3) := by decide +kernel
theorem dX4_init_40 : decode cX4_init 40 = .ok (.aload_n 0, 1) := by decide +kernel
theorem dX4_init_41 : decode cX4_init 41 = .ok (.iconst 2, 1) := by decide +kernel
theorem dX4_init_42 : decode cX4_init 42 = .ok (.newarray .int, 2) := by decide +kernel
theorem dX4_init_44 : decode cX4_init 44 = .ok (.putfield 30, 3) := by decide +kernel
theorem dX4_init_47 : decode cX4_init 47 = .ok (.aload_n 0, 1) := by decide +kernel
theorem dX4_init_48 : decode cX4_init 48 = .ok (.aload_n 1, 1) := by decide +kernel
theorem dX4_init_49 : decode cX4_init 49 = .ok (.putfield 33, 3) := by decide +kernel
theorem dX4_init_52 : decode cX4_init 52 = .ok (.aload_n 0, 1) := by decide +kernel
theorem dX4_init_53 : decode cX4_init 53 = .ok (.aload_n 2, 1) := by decide +kernel
theorem dX4_init_54 : decode cX4_init 54 = .ok (.putfield 37, 3) := by decide +kernel
theorem dX4_init_57 : decode cX4_init 57 = .ok (.aload_n 0, 1) := by decide +kernel
theorem dX4_init_58 : decode cX4_init 58 = .ok (.aload_n 3, 1) := by decide +kernel
theorem dX4_init_59 : decode cX4_init 59 = .ok (.putfield 41, 3) := by decide +kernel
theorem dX4_init_62 : decode cX4_init 62 = .ok (.return_, 1) := by decide +kernel
theorem dX4_howManyWays_0 : decode cX4_howManyWays 0 = .ok (.aload_n 0, 1) := by decide +kernel
theorem dX4_howManyWays_1 : decode cX4_howManyWays 1 = .ok (.invokevirtual 44, 3) := by decide +kernel
theorem dX4_howManyWays_4 : decode cX4_howManyWays 4 = .ok (.aload_n 0, 1) := by decide +kernel
theorem dX4_howManyWays_5 : decode cX4_howManyWays 5 = .ok (.getfield 14, 3) := by decide +kernel
theorem dX4_howManyWays_8 : decode cX4_howManyWays 8 = .ok (.getfield 47, 3) := by decide +kernel
theorem dX4_howManyWays_11 : decode cX4_howManyWays 11 = .ok (.ireturn, 1) := by decide +kernel
theorem dX4_whereAt_0 : decode cX4_whereAt 0 = .ok (.aload_n 0, 1) := by decide +kernel
theorem dX4_whereAt_1 : decode cX4_whereAt 1 = .ok (.invokevirtual 44, 3) := by decide +kernel
theorem dX4_whereAt_4 : decode cX4_whereAt 4 = .ok (.iload_n 1, 1) := by decide +kernel
theorem dX4_whereAt_5 : decode cX4_whereAt 5 = .ok (.ifCond .lt 21, 3) := by decide +kernel
theorem dX4_whereAt_8 : decode cX4_whereAt 8 = .ok (.iload_n 1, 1) := by decide +kernel
theorem dX4_whereAt_9 : decode cX4_whereAt 9 = .ok (.bipush 96, 2) := by decide +kernel
theorem dX4_whereAt_11 : decode cX4_whereAt 11 = .ok (.if_icmp .gt 15, 3) := by decide +kernel
theorem dX4_whereAt_14 : decode cX4_whereAt 14 = .ok (.aload_n 0, 1) := by decide +kernel
theorem dX4_whereAt_15 : decode cX4_whereAt 15 = .ok (.getfield 14, 3) := by decide +kernel
theorem dX4_whereAt_18 : decode cX4_whereAt 18 = .ok (.getfield 51, 3) := by decide +kernel
theorem dX4_whereAt_21 : decode cX4_whereAt 21 = .ok (.iload_n 1, 1) := by decide +kernel
theorem dX4_whereAt_22 : decode cX4_whereAt 22 = .ok (.iaload, 1) := by decide +kernel
theorem dX4_whereAt_23 : decode cX4_whereAt 23 = .ok (.goto 4, 3) := by decide +kernel
theorem dX4_whereAt_26 : decode cX4_whereAt 26 = .ok (.iconst (-1), 1) := by decide +kernel
theorem dX4_whereAt_27 : decode cX4_whereAt 27 = .ok (.ireturn, 1) := by decide +kernel
theorem dX4_extremeOf_0 : decode cX4_extremeOf 0 = .ok (.iload_n 1, 1) := by decide +kernel
theorem dX4_extremeOf_1 : decode cX4_extremeOf 1 = .ok (.ifCond .lt 8, 3) := by decide +kernel
theorem dX4_extremeOf_4 : decode cX4_extremeOf 4 = .ok (.iload_n 1, 1) := by decide +kernel
theorem dX4_extremeOf_5 : decode cX4_extremeOf 5 = .ok (.iconst 3, 1) := by decide +kernel
theorem dX4_extremeOf_6 : decode cX4_extremeOf 6 = .ok (.if_icmp .le 5, 3) := by decide +kernel
theorem dX4_extremeOf_9 : decode cX4_extremeOf 9 = .ok (.iconst (-1), 1) := by decide +kernel
theorem dX4_extremeOf_10 : decode cX4_extremeOf 10 = .ok (.ireturn, 1) := by decide +kernel
theorem dX4_extremeOf_11 : decode cX4_extremeOf 11 = .ok (.aload_n 0, 1) := by decide +kernel
theorem dX4_extremeOf_12 : decode cX4_extremeOf 12 = .ok (.iload_n 1, 1) := by decide +kernel
theorem dX4_extremeOf_13 : decode cX4_extremeOf 13 = .ok (.invokevirtual 54, 3) := by decide +kernel
theorem dX4_extremeOf_16 : decode cX4_extremeOf 16 = .ok (.ifCond .eq 26, 3) := by decide +kernel
theorem dX4_extremeOf_19 : decode cX4_extremeOf 19 = .ok (.aload_n 0, 1) := by decide +kernel
theorem dX4_extremeOf_20 : decode cX4_extremeOf 20 = .ok (.iconst 0, 1) := by decide +kernel
theorem dX4_extremeOf_21 : decode cX4_extremeOf 21 = .ok (.invokevirtual 58, 3) := by decide +kernel
theorem dX4_extremeOf_24 : decode cX4_extremeOf 24 = .ok (.aload_n 0, 1) := by decide +kernel
theorem dX4_extremeOf_25 : decode cX4_extremeOf 25 = .ok (.iload_n 1, 1) := by decide +kernel
theorem dX4_extremeOf_26 : decode cX4_extremeOf 26 = .ok (.invokevirtual 62, 3) := by decide +kernel
theorem dX4_extremeOf_29 : decode cX4_extremeOf 29 = .ok (.aload_n 0, 1) := by decide +kernel
theorem dX4_extremeOf_30 : decode cX4_extremeOf 30 = .ok (.getfield 14, 3) := by decide +kernel
theorem dX4_extremeOf_33 : decode cX4_extremeOf 33 = .ok (.getfield 65, 3) := by decide +kernel
theorem dX4_extremeOf_36 : decode cX4_extremeOf 36 = .ok (.iload_n 1, 1) := by decide +kernel
theorem dX4_extremeOf_37 : decode cX4_extremeOf 37 = .ok (.aload_n 0, 1) := by decide +kernel
theorem dX4_extremeOf_38 : decode cX4_extremeOf 38 = .ok (.invokevirtual 68, 3) := by decide +kernel
theorem dX4_extremeOf_41 : decode cX4_extremeOf 41 = .ok (.iastore, 1) := by decide +kernel
theorem dX4_extremeOf_42 : decode cX4_extremeOf 42 = .ok (.aload_n 0, 1) := by decide +kernel
theorem dX4_extremeOf_43 : decode cX4_extremeOf 43 = .ok (.getfield 14, 3) := by decide +kernel
theorem dX4_extremeOf_46 : decode cX4_extremeOf 46 = .ok (.getfield 65, 3) := by decide +kernel
theorem dX4_extremeOf_49 : decode cX4_extremeOf 49 = .ok (.iload_n 1, 1) := by decide +kernel
theorem dX4_extremeOf_50 : decode cX4_extremeOf 50 = .ok (.iaload, 1) := by decide +kernel
theorem dX4_extremeOf_51 : decode cX4_extremeOf 51 = .ok (.ireturn, 1) := by decide +kernel
theorem dX4_taleAt_0 : decode cX4_taleAt 0 = .ok (.aload_n 0, 1) := by decide +kernel
theorem dX4_taleAt_1 : decode cX4_taleAt 1 = .ok (.bipush 6, 2) := by decide +kernel
theorem dX4_taleAt_3 : decode cX4_taleAt 3 = .ok (.invokevirtual 54, 3) := by decide +kernel
theorem dX4_taleAt_6 : decode cX4_taleAt 6 = .ok (.ifCond .eq 17, 3) := by decide +kernel
theorem dX4_taleAt_9 : decode cX4_taleAt 9 = .ok (.aload_n 0, 1) := by decide +kernel
theorem dX4_taleAt_10 : decode cX4_taleAt 10 = .ok (.iconst 0, 1) := by decide +kernel
theorem dX4_taleAt_11 : decode cX4_taleAt 11 = .ok (.invokevirtual 58, 3) := by decide +kernel
theorem dX4_taleAt_14 : decode cX4_taleAt 14 = .ok (.aload_n 0, 1) := by decide +kernel
theorem dX4_taleAt_15 : decode cX4_taleAt 15 = .ok (.iconst 0, 1) := by decide +kernel
theorem dX4_taleAt_16 : decode cX4_taleAt 16 = .ok (.invokevirtual 62, 3) := by decide +kernel
theorem dX4_taleAt_19 : decode cX4_taleAt 19 = .ok (.aload_n 0, 1) := by decide +kernel
theorem dX4_taleAt_20 : decode cX4_taleAt 20 = .ok (.invokevirtual 72, 3) := by decide +kernel
theorem dX4_taleAt_23 : decode cX4_taleAt 23 = .ok (.iload_n 1, 1) := by decide +kernel
theorem dX4_taleAt_24 : decode cX4_taleAt 24 = .ok (.iconst (-1), 1) := by decide +kernel
theorem dX4_taleAt_25 : decode cX4_taleAt 25 = .ok (.if_icmp .ne 11, 3) := by decide +kernel
theorem dX4_taleAt_28 : decode cX4_taleAt 28 = .ok (.aload_n 0, 1) := by decide +kernel
theorem dX4_taleAt_29 : decode cX4_taleAt 29 = .ok (.getfield 14, 3) := by decide +kernel
theorem dX4_taleAt_32 : decode cX4_taleAt 32 = .ok (.getfield 75, 3) := by decide +kernel
theorem dX4_taleAt_35 : decode cX4_taleAt 35 = .ok (.ireturn, 1) := by decide +kernel
theorem dX4_taleAt_36 : decode cX4_taleAt 36 = .ok (.iload_n 1, 1) := by decide +kernel
theorem dX4_taleAt_37 : decode cX4_taleAt 37 = .ok (.ifCond .lt 26, 3) := by decide +kernel
theorem dX4_taleAt_40 : decode cX4_taleAt 40 = .ok (.iload_n 1, 1) := by decide +kernel
theorem dX4_taleAt_41 : decode cX4_taleAt 41 = .ok (.aload_n 0, 1) := by decide +kernel
theorem dX4_taleAt_42 : decode cX4_taleAt 42 = .ok (.getfield 14, 3) := by decide +kernel
theorem dX4_taleAt_45 : decode cX4_taleAt 45 = .ok (.getfield 75, 3) := by decide +kernel
theorem dX4_taleAt_48 : decode cX4_taleAt 48 = .ok (.if_icmp .ge 15, 3) := by decide +kernel
theorem dX4_taleAt_51 : decode cX4_taleAt 51 = .ok (.aload_n 0, 1) := by decide +kernel
theorem dX4_taleAt_52 : decode cX4_taleAt 52 = .ok (.getfield 14, 3) := by decide +kernel
theorem dX4_taleAt_55 : decode cX4_taleAt 55 = .ok (.getfield 78, 3) := by decide +kernel
theorem dX4_taleAt_58 : decode cX4_taleAt 58 = .ok (.iload_n 1, 1) := by decide +kernel
theorem dX4_taleAt_59 : decode cX4_taleAt 59 = .ok (.iaload, 1) := by decide +kernel
theorem dX4_taleAt_60 : decode cX4_taleAt 60 = .ok (.goto 4, 3) := by decide +kernel
theorem dX4_taleAt_63 : decode cX4_taleAt 63 = .ok (.iconst (-1), 1) := by decide +kernel
theorem dX4_taleAt_64 : decode cX4_taleAt 64 = .ok (.ireturn, 1) := by decide +kernel
theorem dX4_fewestToDoubt_0 : decode cX4_fewestToDoubt 0 = .ok (.aload_n 0, 1) := by decide +kernel
theorem dX4_fewestToDoubt_1 : decode cX4_fewestToDoubt 1 = .ok (.iconst 5, 1) := by decide +kernel
theorem dX4_fewestToDoubt_2 : decode cX4_fewestToDoubt 2 = .ok (.invokevirtual 54, 3) := by decide +kernel
theorem dX4_fewestToDoubt_5 : decode cX4_fewestToDoubt 5 = .ok (.ifCond .eq 38, 3) := by decide +kernel
theorem dX4_fewestToDoubt_8 : decode cX4_fewestToDoubt 8 = .ok (.aload_n 0, 1) := by decide +kernel
theorem dX4_fewestToDoubt_9 : decode cX4_fewestToDoubt 9 = .ok (.iconst 0, 1) := by decide +kernel
theorem dX4_fewestToDoubt_10 : decode cX4_fewestToDoubt 10 = .ok (.invokevirtual 58, 3) := by decide +kernel
theorem dX4_fewestToDoubt_13 : decode cX4_fewestToDoubt 13 = .ok (.aload_n 0, 1) := by decide +kernel
theorem dX4_fewestToDoubt_14 : decode cX4_fewestToDoubt 14 = .ok (.iconst 5, 1) := by decide +kernel
theorem dX4_fewestToDoubt_15 : decode cX4_fewestToDoubt 15 = .ok (.invokevirtual 62, 3) := by decide +kernel
theorem dX4_fewestToDoubt_18 : decode cX4_fewestToDoubt 18 = .ok (.aload_n 0, 1) := by decide +kernel
theorem dX4_fewestToDoubt_19 : decode cX4_fewestToDoubt 19 = .ok (.invokevirtual 68, 3) := by decide +kernel
theorem dX4_fewestToDoubt_22 : decode cX4_fewestToDoubt 22 = .ok (.istore_n 1, 1) := by decide +kernel
theorem dX4_fewestToDoubt_23 : decode cX4_fewestToDoubt 23 = .ok (.aload_n 0, 1) := by decide +kernel
theorem dX4_fewestToDoubt_24 : decode cX4_fewestToDoubt 24 = .ok (.getfield 14, 3) := by decide +kernel
theorem dX4_fewestToDoubt_27 : decode cX4_fewestToDoubt 27 = .ok (.iload_n 1, 1) := by decide +kernel
theorem dX4_fewestToDoubt_28 : decode cX4_fewestToDoubt 28 = .ok (.ifCond .ge 7, 3) := by decide +kernel
theorem dX4_fewestToDoubt_31 : decode cX4_fewestToDoubt 31 = .ok (.iconst (-1), 1) := by decide +kernel
theorem dX4_fewestToDoubt_32 : decode cX4_fewestToDoubt 32 = .ok (.goto 8, 3) := by decide +kernel
theorem dX4_fewestToDoubt_35 : decode cX4_fewestToDoubt 35 = .ok (.iload_n 1, 1) := by decide +kernel
theorem dX4_fewestToDoubt_36 : decode cX4_fewestToDoubt 36 = .ok (.sipush 256, 3) := by decide +kernel
theorem dX4_fewestToDoubt_39 : decode cX4_fewestToDoubt 39 = .ok (.irem, 1) := by decide +kernel
theorem dX4_fewestToDoubt_40 : decode cX4_fewestToDoubt 40 = .ok (.putfield 81, 3) := by decide +kernel
theorem dX4_fewestToDoubt_43 : decode cX4_fewestToDoubt 43 = .ok (.aload_n 0, 1) := by decide +kernel
theorem dX4_fewestToDoubt_44 : decode cX4_fewestToDoubt 44 = .ok (.getfield 14, 3) := by decide +kernel
theorem dX4_fewestToDoubt_47 : decode cX4_fewestToDoubt 47 = .ok (.getfield 81, 3) := by decide +kernel
theorem dX4_fewestToDoubt_50 : decode cX4_fewestToDoubt 50 = .ok (.ireturn, 1) := by decide +kernel
theorem dX4_freestWithout_0 : decode cX4_freestWithout 0 = .ok (.aload_n 0, 1) := by decide +kernel
theorem dX4_freestWithout_1 : decode cX4_freestWithout 1 = .ok (.invokevirtual 44, 3) := by decide +kernel
theorem dX4_freestWithout_4 : decode cX4_freestWithout 4 = .ok (.aload_n 0, 1) := by decide +kernel
theorem dX4_freestWithout_5 : decode cX4_freestWithout 5 = .ok (.bipush 7, 2) := by decide +kernel
theorem dX4_freestWithout_7 : decode cX4_freestWithout 7 = .ok (.invokevirtual 54, 3) := by decide +kernel
theorem dX4_freestWithout_10 : decode cX4_freestWithout 10 = .ok (.ifCond .eq 83, 3) := by decide +kernel
theorem dX4_freestWithout_13 : decode cX4_freestWithout 13 = .ok (.aload_n 0, 1) := by decide +kernel
theorem dX4_freestWithout_14 : decode cX4_freestWithout 14 = .ok (.getfield 14, 3) := by decide +kernel
theorem dX4_freestWithout_17 : decode cX4_freestWithout 17 = .ok (.getfield 47, 3) := by decide +kernel
theorem dX4_freestWithout_20 : decode cX4_freestWithout 20 = .ok (.istore_n 1, 1) := by decide +kernel
theorem dX4_freestWithout_21 : decode cX4_freestWithout 21 = .ok (.aload_n 0, 1) := by decide +kernel
theorem dX4_freestWithout_22 : decode cX4_freestWithout 22 = .ok (.getfield 14, 3) := by decide +kernel
theorem dX4_freestWithout_25 : decode cX4_freestWithout 25 = .ok (.iconst (-1), 1) := by decide +kernel
theorem dX4_freestWithout_26 : decode cX4_freestWithout 26 = .ok (.putfield 84, 3) := by decide +kernel
theorem dX4_freestWithout_29 : decode cX4_freestWithout 29 = .ok (.iconst 0, 1) := by decide +kernel
theorem dX4_freestWithout_30 : decode cX4_freestWithout 30 = .ok (.istore_n 2, 1) := by decide +kernel
theorem dX4_freestWithout_31 : decode cX4_freestWithout 31 = .ok (.iload_n 2, 1) := by decide +kernel
theorem dX4_freestWithout_32 : decode cX4_freestWithout 32 = .ok (.aload_n 0, 1) := by decide +kernel
theorem dX4_freestWithout_33 : decode cX4_freestWithout 33 = .ok (.getfield 37, 3) := by decide +kernel
theorem dX4_freestWithout_36 : decode cX4_freestWithout 36 = .ok (.getfield 87, 3) := by decide +kernel
theorem dX4_freestWithout_39 : decode cX4_freestWithout 39 = .ok (.if_icmp .ge 54, 3) := by decide +kernel
theorem dX4_freestWithout_42 : decode cX4_freestWithout 42 = .ok (.aload_n 0, 1) := by decide +kernel
theorem dX4_freestWithout_43 : decode cX4_freestWithout 43 = .ok (.getfield 37, 3) := by decide +kernel
theorem dX4_freestWithout_46 : decode cX4_freestWithout 46 = .ok (.getfield 90, 3) := by decide +kernel
theorem dX4_freestWithout_49 : decode cX4_freestWithout 49 = .ok (.iload_n 2, 1) := by decide +kernel
theorem dX4_freestWithout_50 : decode cX4_freestWithout 50 = .ok (.baload, 1) := by decide +kernel
theorem dX4_freestWithout_51 : decode cX4_freestWithout 51 = .ok (.ifCond .ne 36, 3) := by decide +kernel
theorem dX4_freestWithout_54 : decode cX4_freestWithout 54 = .ok (.aload_n 0, 1) := by decide +kernel
theorem dX4_freestWithout_55 : decode cX4_freestWithout 55 = .ok (.iconst 1, 1) := by decide +kernel
theorem dX4_freestWithout_56 : decode cX4_freestWithout 56 = .ok (.iload_n 2, 1) := by decide +kernel
theorem dX4_freestWithout_57 : decode cX4_freestWithout 57 = .ok (.ishl, 1) := by decide +kernel
theorem dX4_freestWithout_58 : decode cX4_freestWithout 58 = .ok (.invokevirtual 58, 3) := by decide +kernel
theorem dX4_freestWithout_61 : decode cX4_freestWithout 61 = .ok (.aload_n 0, 1) := by decide +kernel
theorem dX4_freestWithout_62 : decode cX4_freestWithout 62 = .ok (.iconst 4, 1) := by decide +kernel
theorem dX4_freestWithout_63 : decode cX4_freestWithout 63 = .ok (.invokevirtual 62, 3) := by decide +kernel
theorem dX4_freestWithout_66 : decode cX4_freestWithout 66 = .ok (.aload_n 0, 1) := by decide +kernel
theorem dX4_freestWithout_67 : decode cX4_freestWithout 67 = .ok (.invokevirtual 68, 3) := by decide +kernel
theorem dX4_freestWithout_70 : decode cX4_freestWithout 70 = .ok (.iload_n 1, 1) := by decide +kernel
theorem dX4_freestWithout_71 : decode cX4_freestWithout 71 = .ok (.if_icmp .le 16, 3) := by decide +kernel
theorem dX4_freestWithout_74 : decode cX4_freestWithout 74 = .ok (.aload_n 0, 1) := by decide +kernel
theorem dX4_freestWithout_75 : decode cX4_freestWithout 75 = .ok (.invokevirtual 68, 3) := by decide +kernel
theorem dX4_freestWithout_78 : decode cX4_freestWithout 78 = .ok (.istore_n 1, 1) := by decide +kernel
theorem dX4_freestWithout_79 : decode cX4_freestWithout 79 = .ok (.aload_n 0, 1) := by decide +kernel
theorem dX4_freestWithout_80 : decode cX4_freestWithout 80 = .ok (.getfield 14, 3) := by decide +kernel
theorem dX4_freestWithout_83 : decode cX4_freestWithout 83 = .ok (.iload_n 2, 1) := by decide +kernel
theorem dX4_freestWithout_84 : decode cX4_freestWithout 84 = .ok (.putfield 84, 3) := by decide +kernel
theorem dX4_freestWithout_87 : decode cX4_freestWithout 87 = .ok (.iinc 2 1, 3) := by decide +kernel
theorem dX4_freestWithout_90 : decode cX4_freestWithout 90 = .ok (.goto (-59), 3) := by decide +kernel
theorem dX4_freestWithout_93 : decode cX4_freestWithout 93 = .ok (.aload_n 0, 1) := by decide +kernel
theorem dX4_freestWithout_94 : decode cX4_freestWithout 94 = .ok (.getfield 14, 3) := by decide +kernel
theorem dX4_freestWithout_97 : decode cX4_freestWithout 97 = .ok (.getfield 84, 3) := by decide +kernel
theorem dX4_freestWithout_100 : decode cX4_freestWithout 100 = .ok (.ireturn, 1) := by decide +kernel
theorem dX4_mustLearn_0 : decode cX4_mustLearn 0 = .ok (.aload_n 0, 1) := by decide +kernel
theorem dX4_mustLearn_1 : decode cX4_mustLearn 1 = .ok (.getfield 37, 3) := by decide +kernel
theorem dX4_mustLearn_4 : decode cX4_mustLearn 4 = .ok (.getfield 94, 3) := by decide +kernel
theorem dX4_mustLearn_7 : decode cX4_mustLearn 7 = .ok (.ifCond .eq 19, 3) := by decide +kernel
theorem dX4_mustLearn_10 : decode cX4_mustLearn 10 = .ok (.aload_n 0, 1) := by decide +kernel
theorem dX4_mustLearn_11 : decode cX4_mustLearn 11 = .ok (.getfield 37, 3) := by decide +kernel
theorem dX4_mustLearn_14 : decode cX4_mustLearn 14 = .ok (.iconst 0, 1) := by decide +kernel
theorem dX4_mustLearn_15 : decode cX4_mustLearn 15 = .ok (.putfield 94, 3) := by decide +kernel
theorem dX4_mustLearn_18 : decode cX4_mustLearn 18 = .ok (.aload_n 0, 1) := by decide +kernel
theorem dX4_mustLearn_19 : decode cX4_mustLearn 19 = .ok (.getfield 14, 3) := by decide +kernel
theorem dX4_mustLearn_22 : decode cX4_mustLearn 22 = .ok (.iconst 0, 1) := by decide +kernel
theorem dX4_mustLearn_23 : decode cX4_mustLearn 23 = .ok (.putfield 98, 3) := by decide +kernel
theorem dX4_mustLearn_26 : decode cX4_mustLearn 26 = .ok (.aload_n 0, 1) := by decide +kernel
theorem dX4_mustLearn_27 : decode cX4_mustLearn 27 = .ok (.getfield 14, 3) := by decide +kernel
theorem dX4_mustLearn_30 : decode cX4_mustLearn 30 = .ok (.getfield 98, 3) := by decide +kernel
theorem dX4_mustLearn_33 : decode cX4_mustLearn 33 = .ok (.iload_n 1, 1) := by decide +kernel
theorem dX4_mustLearn_34 : decode cX4_mustLearn 34 = .ok (.ishr, 1) := by decide +kernel
theorem dX4_mustLearn_35 : decode cX4_mustLearn 35 = .ok (.iconst 1, 1) := by decide +kernel
theorem dX4_mustLearn_36 : decode cX4_mustLearn 36 = .ok (.iand, 1) := by decide +kernel
theorem dX4_mustLearn_37 : decode cX4_mustLearn 37 = .ok (.ifCond .ne 7, 3) := by decide +kernel
theorem dX4_mustLearn_40 : decode cX4_mustLearn 40 = .ok (.iconst 1, 1) := by decide +kernel
theorem dX4_mustLearn_41 : decode cX4_mustLearn 41 = .ok (.goto 4, 3) := by decide +kernel
theorem dX4_mustLearn_44 : decode cX4_mustLearn 44 = .ok (.iconst 0, 1) := by decide +kernel
theorem dX4_mustLearn_45 : decode cX4_mustLearn 45 = .ok (.istore_n 2, 1) := by decide +kernel
theorem dX4_mustLearn_46 : decode cX4_mustLearn 46 = .ok (.aload_n 0, 1) := by decide +kernel
theorem dX4_mustLearn_47 : decode cX4_mustLearn 47 = .ok (.getfield 14, 3) := by decide +kernel
theorem dX4_mustLearn_50 : decode cX4_mustLearn 50 = .ok (.dup, 1) := by decide +kernel
theorem dX4_mustLearn_51 : decode cX4_mustLearn 51 = .ok (.getfield 98, 3) := by decide +kernel
theorem dX4_mustLearn_54 : decode cX4_mustLearn 54 = .ok (.iconst 1, 1) := by decide +kernel
theorem dX4_mustLearn_55 : decode cX4_mustLearn 55 = .ok (.iload_n 1, 1) := by decide +kernel
theorem dX4_mustLearn_56 : decode cX4_mustLearn 56 = .ok (.ishl, 1) := by decide +kernel
theorem dX4_mustLearn_57 : decode cX4_mustLearn 57 = .ok (.ior, 1) := by decide +kernel
theorem dX4_mustLearn_58 : decode cX4_mustLearn 58 = .ok (.putfield 98, 3) := by decide +kernel
theorem dX4_mustLearn_61 : decode cX4_mustLearn 61 = .ok (.iload_n 2, 1) := by decide +kernel
theorem dX4_mustLearn_62 : decode cX4_mustLearn 62 = .ok (.ireturn, 1) := by decide +kernel
theorem dX4_learnWhere_0 : decode cX4_learnWhere 0 = .ok (.aload_n 0, 1) := by decide +kernel
theorem dX4_learnWhere_1 : decode cX4_learnWhere 1 = .ok (.iconst 4, 1) := by decide +kernel
theorem dX4_learnWhere_2 : decode cX4_learnWhere 2 = .ok (.invokevirtual 54, 3) := by decide +kernel
theorem dX4_learnWhere_5 : decode cX4_learnWhere 5 = .ok (.ifCond .ne 4, 3) := by decide +kernel
theorem dX4_learnWhere_8 : decode cX4_learnWhere 8 = .ok (.return_, 1) := by decide +kernel
theorem dX4_learnWhere_9 : decode cX4_learnWhere 9 = .ok (.aload_n 0, 1) := by decide +kernel
theorem dX4_learnWhere_10 : decode cX4_learnWhere 10 = .ok (.iconst 0, 1) := by decide +kernel
theorem dX4_learnWhere_11 : decode cX4_learnWhere 11 = .ok (.invokevirtual 58, 3) := by decide +kernel
theorem dX4_learnWhere_14 : decode cX4_learnWhere 14 = .ok (.aload_n 0, 1) := by decide +kernel
theorem dX4_learnWhere_15 : decode cX4_learnWhere 15 = .ok (.iconst 4, 1) := by decide +kernel
theorem dX4_learnWhere_16 : decode cX4_learnWhere 16 = .ok (.invokevirtual 62, 3) := by decide +kernel
theorem dX4_learnWhere_19 : decode cX4_learnWhere 19 = .ok (.aload_n 0, 1) := by decide +kernel
theorem dX4_learnWhere_20 : decode cX4_learnWhere 20 = .ok (.getfield 14, 3) := by decide +kernel
theorem dX4_learnWhere_23 : decode cX4_learnWhere 23 = .ok (.iconst 0, 1) := by decide +kernel
theorem dX4_learnWhere_24 : decode cX4_learnWhere 24 = .ok (.aload_n 0, 1) := by decide +kernel
theorem dX4_learnWhere_25 : decode cX4_learnWhere 25 = .ok (.invokevirtual 68, 3) := by decide +kernel
theorem dX4_learnWhere_28 : decode cX4_learnWhere 28 = .ok (.invokestatic 101, 3) := by decide +kernel
theorem dX4_learnWhere_31 : decode cX4_learnWhere 31 = .ok (.putfield 47, 3) := by decide +kernel
theorem dX4_learnWhere_34 : decode cX4_learnWhere 34 = .ok (.iconst 0, 1) := by decide +kernel
theorem dX4_learnWhere_35 : decode cX4_learnWhere 35 = .ok (.istore_n 1, 1) := by decide +kernel
theorem dX4_learnWhere_36 : decode cX4_learnWhere 36 = .ok (.iload_n 1, 1) := by decide +kernel
theorem dX4_learnWhere_37 : decode cX4_learnWhere 37 = .ok (.bipush 96, 2) := by decide +kernel
theorem dX4_learnWhere_39 : decode cX4_learnWhere 39 = .ok (.if_icmp .gt 19, 3) := by decide +kernel
theorem dX4_learnWhere_42 : decode cX4_learnWhere 42 = .ok (.aload_n 0, 1) := by decide +kernel
theorem dX4_learnWhere_43 : decode cX4_learnWhere 43 = .ok (.getfield 14, 3) := by decide +kernel
theorem dX4_learnWhere_46 : decode cX4_learnWhere 46 = .ok (.getfield 51, 3) := by decide +kernel
theorem dX4_learnWhere_49 : decode cX4_learnWhere 49 = .ok (.iload_n 1, 1) := by decide +kernel
theorem dX4_learnWhere_50 : decode cX4_learnWhere 50 = .ok (.iconst 0, 1) := by decide +kernel
theorem dX4_learnWhere_51 : decode cX4_learnWhere 51 = .ok (.iastore, 1) := by decide +kernel
theorem dX4_learnWhere_52 : decode cX4_learnWhere 52 = .ok (.iinc 1 1, 3) := by decide +kernel
theorem dX4_learnWhere_55 : decode cX4_learnWhere 55 = .ok (.goto (-19), 3) := by decide +kernel
theorem dX4_learnWhere_58 : decode cX4_learnWhere 58 = .ok (.aload_n 0, 1) := by decide +kernel
theorem dX4_learnWhere_59 : decode cX4_learnWhere 59 = .ok (.iconst 0, 1) := by decide +kernel
theorem dX4_learnWhere_60 : decode cX4_learnWhere 60 = .ok (.aload_n 0, 1) := by decide +kernel
theorem dX4_learnWhere_61 : decode cX4_learnWhere 61 = .ok (.invokevirtual 107, 3) := by decide +kernel
theorem dX4_learnWhere_64 : decode cX4_learnWhere 64 = .ok (.invokevirtual 110, 3) := by decide +kernel
theorem dX4_learnWhere_67 : decode cX4_learnWhere 67 = .ok (.pop, 1) := by decide +kernel
theorem dX4_learnWhere_68 : decode cX4_learnWhere 68 = .ok (.iconst 0, 1) := by decide +kernel
theorem dX4_learnWhere_69 : decode cX4_learnWhere 69 = .ok (.istore_n 1, 1) := by decide +kernel
theorem dX4_learnWhere_70 : decode cX4_learnWhere 70 = .ok (.iload_n 1, 1) := by decide +kernel
theorem dX4_learnWhere_71 : decode cX4_learnWhere 71 = .ok (.aload_n 0, 1) := by decide +kernel
theorem dX4_learnWhere_72 : decode cX4_learnWhere 72 = .ok (.getfield 37, 3) := by decide +kernel
theorem dX4_learnWhere_75 : decode cX4_learnWhere 75 = .ok (.getfield 114, 3) := by decide +kernel
theorem dX4_learnWhere_78 : decode cX4_learnWhere 78 = .ok (.if_icmp .gt 84, 3) := by decide +kernel
theorem dX4_learnWhere_81 : decode cX4_learnWhere 81 = .ok (.aload_n 0, 1) := by decide +kernel
theorem dX4_learnWhere_82 : decode cX4_learnWhere 82 = .ok (.iload_n 1, 1) := by decide +kernel
theorem dX4_learnWhere_83 : decode cX4_learnWhere 83 = .ok (.invokevirtual 117, 3) := by decide +kernel
theorem dX4_learnWhere_86 : decode cX4_learnWhere 86 = .ok (.istore_n 2, 1) := by decide +kernel
theorem dX4_learnWhere_87 : decode cX4_learnWhere 87 = .ok (.iconst 0, 1) := by decide +kernel
theorem dX4_learnWhere_88 : decode cX4_learnWhere 88 = .ok (.istore_n 3, 1) := by decide +kernel
theorem dX4_learnWhere_89 : decode cX4_learnWhere 89 = .ok (.iload_n 3, 1) := by decide +kernel
theorem dX4_learnWhere_90 : decode cX4_learnWhere 90 = .ok (.iload_n 2, 1) := by decide +kernel
theorem dX4_learnWhere_91 : decode cX4_learnWhere 91 = .ok (.if_icmp .gt 65, 3) := by decide +kernel
theorem dX4_learnWhere_94 : decode cX4_learnWhere 94 = .ok (.iconst 0, 1) := by decide +kernel
theorem dX4_learnWhere_95 : decode cX4_learnWhere 95 = .ok (.istore 4, 2) := by decide +kernel
theorem dX4_learnWhere_97 : decode cX4_learnWhere 97 = .ok (.iload 4, 2) := by decide +kernel
theorem dX4_learnWhere_99 : decode cX4_learnWhere 99 = .ok (.aload_n 0, 1) := by decide +kernel
theorem dX4_learnWhere_100 : decode cX4_learnWhere 100 = .ok (.getfield 121, 3) := by decide +kernel
theorem dX4_learnWhere_103 : decode cX4_learnWhere 103 = .ok (.if_icmp .ge 47, 3) := by decide +kernel
theorem dX4_learnWhere_106 : decode cX4_learnWhere 106 = .ok (.iload_n 3, 1) := by decide +kernel
theorem dX4_learnWhere_107 : decode cX4_learnWhere 107 = .ok (.sipush 256, 3) := by decide +kernel
theorem dX4_learnWhere_110 : decode cX4_learnWhere 110 = .ok (.imul, 1) := by decide +kernel
theorem dX4_learnWhere_111 : decode cX4_learnWhere 111 = .ok (.aload_n 0, 1) := by decide +kernel
theorem dX4_learnWhere_112 : decode cX4_learnWhere 112 = .ok (.getfield 18, 3) := by decide +kernel
theorem dX4_learnWhere_115 : decode cX4_learnWhere 115 = .ok (.iload 4, 2) := by decide +kernel
theorem dX4_learnWhere_117 : decode cX4_learnWhere 117 = .ok (.iaload, 1) := by decide +kernel
theorem dX4_learnWhere_118 : decode cX4_learnWhere 118 = .ok (.iadd, 1) := by decide +kernel
theorem dX4_learnWhere_119 : decode cX4_learnWhere 119 = .ok (.istore 5, 2) := by decide +kernel
theorem dX4_learnWhere_121 : decode cX4_learnWhere 121 = .ok (.aload_n 0, 1) := by decide +kernel
theorem dX4_learnWhere_122 : decode cX4_learnWhere 122 = .ok (.getfield 41, 3) := by decide +kernel
theorem dX4_learnWhere_125 : decode cX4_learnWhere 125 = .ok (.iload_n 1, 1) := by decide +kernel
theorem dX4_learnWhere_126 : decode cX4_learnWhere 126 = .ok (.iload 5, 2) := by decide +kernel
theorem dX4_learnWhere_128 : decode cX4_learnWhere 128 = .ok (.invokestatic 124, 3) := by decide +kernel
theorem dX4_learnWhere_131 : decode cX4_learnWhere 131 = .ok (.iaload, 1) := by decide +kernel
theorem dX4_learnWhere_132 : decode cX4_learnWhere 132 = .ok (.ldc 127, 2) := by decide +kernel
theorem dX4_learnWhere_134 : decode cX4_learnWhere 134 = .ok (.if_icmp .lt 10, 3) := by decide +kernel
theorem dX4_learnWhere_137 : decode cX4_learnWhere 137 = .ok (.aload_n 0, 1) := by decide +kernel
theorem dX4_learnWhere_138 : decode cX4_learnWhere 138 = .ok (.iload_n 1, 1) := by decide +kernel
theorem dX4_learnWhere_139 : decode cX4_learnWhere 139 = .ok (.iload 5, 2) := by decide +kernel
theorem dX4_learnWhere_141 : decode cX4_learnWhere 141 = .ok (.invokevirtual 128, 3) := by decide +kernel
theorem dX4_learnWhere_144 : decode cX4_learnWhere 144 = .ok (.iinc 4 1, 3) := by decide +kernel
theorem dX4_learnWhere_147 : decode cX4_learnWhere 147 = .ok (.goto (-50), 3) := by decide +kernel
theorem dX4_learnWhere_150 : decode cX4_learnWhere 150 = .ok (.iinc 3 1, 3) := by decide +kernel
theorem dX4_learnWhere_153 : decode cX4_learnWhere 153 = .ok (.goto (-64), 3) := by decide +kernel
theorem dX4_learnWhere_156 : decode cX4_learnWhere 156 = .ok (.iinc 1 1, 3) := by decide +kernel
theorem dX4_learnWhere_159 : decode cX4_learnWhere 159 = .ok (.goto (-89), 3) := by decide +kernel
theorem dX4_learnWhere_162 : decode cX4_learnWhere 162 = .ok (.return_, 1) := by decide +kernel
theorem dX4_goOnFrom_0 : decode cX4_goOnFrom 0 = .ok (.aload_n 0, 1) := by decide +kernel
theorem dX4_goOnFrom_1 : decode cX4_goOnFrom 1 = .ok (.getfield 14, 3) := by decide +kernel
theorem dX4_goOnFrom_4 : decode cX4_goOnFrom 4 = .ok (.getfield 51, 3) := by decide +kernel
theorem dX4_goOnFrom_7 : decode cX4_goOnFrom 7 = .ok (.iload_n 1, 1) := by decide +kernel
theorem dX4_goOnFrom_8 : decode cX4_goOnFrom 8 = .ok (.dup2, 1) := by decide +kernel
theorem dX4_goOnFrom_9 : decode cX4_goOnFrom 9 = .ok (.iaload, 1) := by decide +kernel
theorem dX4_goOnFrom_10 : decode cX4_goOnFrom 10 = .ok (.iconst 1, 1) := by decide +kernel
theorem dX4_goOnFrom_11 : decode cX4_goOnFrom 11 = .ok (.iload_n 2, 1) := by decide +kernel
theorem dX4_goOnFrom_12 : decode cX4_goOnFrom 12 = .ok (.invokestatic 132, 3) := by decide +kernel
theorem dX4_goOnFrom_15 : decode cX4_goOnFrom 15 = .ok (.ishl, 1) := by decide +kernel
theorem dX4_goOnFrom_16 : decode cX4_goOnFrom 16 = .ok (.ior, 1) := by decide +kernel
theorem dX4_goOnFrom_17 : decode cX4_goOnFrom 17 = .ok (.iastore, 1) := by decide +kernel
theorem dX4_goOnFrom_18 : decode cX4_goOnFrom 18 = .ok (.iload_n 1, 1) := by decide +kernel
theorem dX4_goOnFrom_19 : decode cX4_goOnFrom 19 = .ok (.aload_n 0, 1) := by decide +kernel
theorem dX4_goOnFrom_20 : decode cX4_goOnFrom 20 = .ok (.getfield 37, 3) := by decide +kernel
theorem dX4_goOnFrom_23 : decode cX4_goOnFrom 23 = .ok (.getfield 114, 3) := by decide +kernel
theorem dX4_goOnFrom_26 : decode cX4_goOnFrom 26 = .ok (.if_icmp .lt 4, 3) := by decide +kernel
theorem dX4_goOnFrom_29 : decode cX4_goOnFrom 29 = .ok (.return_, 1) := by decide +kernel
theorem dX4_goOnFrom_30 : decode cX4_goOnFrom 30 = .ok (.aload_n 0, 1) := by decide +kernel
theorem dX4_goOnFrom_31 : decode cX4_goOnFrom 31 = .ok (.iload_n 1, 1) := by decide +kernel
theorem dX4_goOnFrom_32 : decode cX4_goOnFrom 32 = .ok (.iconst 1, 1) := by decide +kernel
theorem dX4_goOnFrom_33 : decode cX4_goOnFrom 33 = .ok (.iadd, 1) := by decide +kernel
theorem dX4_goOnFrom_34 : decode cX4_goOnFrom 34 = .ok (.aload_n 0, 1) := by decide +kernel
theorem dX4_goOnFrom_35 : decode cX4_goOnFrom 35 = .ok (.iload_n 1, 1) := by decide +kernel
theorem dX4_goOnFrom_36 : decode cX4_goOnFrom 36 = .ok (.iload_n 2, 1) := by decide +kernel
theorem dX4_goOnFrom_37 : decode cX4_goOnFrom 37 = .ok (.invokevirtual 135, 3) := by decide +kernel
theorem dX4_goOnFrom_40 : decode cX4_goOnFrom 40 = .ok (.invokevirtual 110, 3) := by decide +kernel
theorem dX4_goOnFrom_43 : decode cX4_goOnFrom 43 = .ok (.pop, 1) := by decide +kernel
theorem dX4_goOnFrom_44 : decode cX4_goOnFrom 44 = .ok (.iconst 0, 1) := by decide +kernel
theorem dX4_goOnFrom_45 : decode cX4_goOnFrom 45 = .ok (.istore_n 3, 1) := by decide +kernel
theorem dX4_goOnFrom_46 : decode cX4_goOnFrom 46 = .ok (.iload_n 3, 1) := by decide +kernel
theorem dX4_goOnFrom_47 : decode cX4_goOnFrom 47 = .ok (.aload_n 0, 1) := by decide +kernel
theorem dX4_goOnFrom_48 : decode cX4_goOnFrom 48 = .ok (.getfield 33, 3) := by decide +kernel
theorem dX4_goOnFrom_51 : decode cX4_goOnFrom 51 = .ok (.getfield 138, 3) := by decide +kernel
theorem dX4_goOnFrom_54 : decode cX4_goOnFrom 54 = .ok (.if_icmp .ge 92, 3) := by decide +kernel
theorem dX4_goOnFrom_57 : decode cX4_goOnFrom 57 = .ok (.aload_n 0, 1) := by decide +kernel
theorem dX4_goOnFrom_58 : decode cX4_goOnFrom 58 = .ok (.iload_n 3, 1) := by decide +kernel
theorem dX4_goOnFrom_59 : decode cX4_goOnFrom 59 = .ok (.iload_n 1, 1) := by decide +kernel
theorem dX4_goOnFrom_60 : decode cX4_goOnFrom 60 = .ok (.iload_n 2, 1) := by decide +kernel
theorem dX4_goOnFrom_61 : decode cX4_goOnFrom 61 = .ok (.invokevirtual 143, 3) := by decide +kernel
theorem dX4_goOnFrom_64 : decode cX4_goOnFrom 64 = .ok (.ifCond .eq 76, 3) := by decide +kernel
theorem dX4_goOnFrom_67 : decode cX4_goOnFrom 67 = .ok (.aload_n 0, 1) := by decide +kernel
theorem dX4_goOnFrom_68 : decode cX4_goOnFrom 68 = .ok (.iload_n 3, 1) := by decide +kernel
theorem dX4_goOnFrom_69 : decode cX4_goOnFrom 69 = .ok (.iload_n 1, 1) := by decide +kernel
theorem dX4_goOnFrom_70 : decode cX4_goOnFrom 70 = .ok (.invokevirtual 147, 3) := by decide +kernel
theorem dX4_goOnFrom_73 : decode cX4_goOnFrom 73 = .ok (.ifCond .ne 67, 3) := by decide +kernel
theorem dX4_goOnFrom_76 : decode cX4_goOnFrom 76 = .ok (.iload_n 1, 1) := by decide +kernel
theorem dX4_goOnFrom_77 : decode cX4_goOnFrom 77 = .ok (.aload_n 0, 1) := by decide +kernel
theorem dX4_goOnFrom_78 : decode cX4_goOnFrom 78 = .ok (.getfield 33, 3) := by decide +kernel
theorem dX4_goOnFrom_81 : decode cX4_goOnFrom 81 = .ok (.getfield 150, 3) := by decide +kernel
theorem dX4_goOnFrom_84 : decode cX4_goOnFrom 84 = .ok (.iload_n 3, 1) := by decide +kernel
theorem dX4_goOnFrom_85 : decode cX4_goOnFrom 85 = .ok (.iaload, 1) := by decide +kernel
theorem dX4_goOnFrom_86 : decode cX4_goOnFrom 86 = .ok (.iadd, 1) := by decide +kernel
theorem dX4_goOnFrom_87 : decode cX4_goOnFrom 87 = .ok (.istore 4, 2) := by decide +kernel
theorem dX4_goOnFrom_89 : decode cX4_goOnFrom 89 = .ok (.aload_n 0, 1) := by decide +kernel
theorem dX4_goOnFrom_90 : decode cX4_goOnFrom 90 = .ok (.iload 4, 2) := by decide +kernel
theorem dX4_goOnFrom_92 : decode cX4_goOnFrom 92 = .ok (.aload_n 0, 1) := by decide +kernel
theorem dX4_goOnFrom_93 : decode cX4_goOnFrom 93 = .ok (.iload_n 3, 1) := by decide +kernel
theorem dX4_goOnFrom_94 : decode cX4_goOnFrom 94 = .ok (.iload_n 1, 1) := by decide +kernel
theorem dX4_goOnFrom_95 : decode cX4_goOnFrom 95 = .ok (.iload_n 2, 1) := by decide +kernel
theorem dX4_goOnFrom_96 : decode cX4_goOnFrom 96 = .ok (.iconst 0, 1) := by decide +kernel
theorem dX4_goOnFrom_97 : decode cX4_goOnFrom 97 = .ok (.invokevirtual 153, 3) := by decide +kernel
theorem dX4_goOnFrom_100 : decode cX4_goOnFrom 100 = .ok (.invokevirtual 110, 3) := by decide +kernel
theorem dX4_goOnFrom_103 : decode cX4_goOnFrom 103 = .ok (.ifCond .eq 37, 3) := by decide +kernel
theorem dX4_goOnFrom_106 : decode cX4_goOnFrom 106 = .ok (.iload_n 1, 1) := by decide +kernel
theorem dX4_goOnFrom_107 : decode cX4_goOnFrom 107 = .ok (.iconst 1, 1) := by decide +kernel
theorem dX4_goOnFrom_108 : decode cX4_goOnFrom 108 = .ok (.iadd, 1) := by decide +kernel
theorem dX4_goOnFrom_109 : decode cX4_goOnFrom 109 = .ok (.istore 5, 2) := by decide +kernel
theorem dX4_goOnFrom_111 : decode cX4_goOnFrom 111 = .ok (.iload 5, 2) := by decide +kernel
theorem dX4_goOnFrom_113 : decode cX4_goOnFrom 113 = .ok (.iload 4, 2) := by decide +kernel
theorem dX4_goOnFrom_115 : decode cX4_goOnFrom 115 = .ok (.if_icmp .ge 25, 3) := by decide +kernel
theorem dX4_goOnFrom_118 : decode cX4_goOnFrom 118 = .ok (.aload_n 0, 1) := by decide +kernel
theorem dX4_goOnFrom_119 : decode cX4_goOnFrom 119 = .ok (.getfield 14, 3) := by decide +kernel
theorem dX4_goOnFrom_122 : decode cX4_goOnFrom 122 = .ok (.getfield 51, 3) := by decide +kernel
theorem dX4_goOnFrom_125 : decode cX4_goOnFrom 125 = .ok (.iload 5, 2) := by decide +kernel
theorem dX4_goOnFrom_127 : decode cX4_goOnFrom 127 = .ok (.dup2, 1) := by decide +kernel
theorem dX4_goOnFrom_128 : decode cX4_goOnFrom 128 = .ok (.iaload, 1) := by decide +kernel
theorem dX4_goOnFrom_129 : decode cX4_goOnFrom 129 = .ok (.sipush 256, 3) := by decide +kernel
theorem dX4_goOnFrom_132 : decode cX4_goOnFrom 132 = .ok (.ior, 1) := by decide +kernel
theorem dX4_goOnFrom_133 : decode cX4_goOnFrom 133 = .ok (.iastore, 1) := by decide +kernel
theorem dX4_goOnFrom_134 : decode cX4_goOnFrom 134 = .ok (.iinc 5 1, 3) := by decide +kernel
theorem dX4_goOnFrom_137 : decode cX4_goOnFrom 137 = .ok (.goto (-26), 3) := by decide +kernel
theorem dX4_goOnFrom_140 : decode cX4_goOnFrom 140 = .ok (.iinc 3 1, 3) := by decide +kernel
theorem dX4_goOnFrom_143 : decode cX4_goOnFrom 143 = .ok (.goto (-97), 3) := by decide +kernel
theorem dX4_goOnFrom_146 : decode cX4_goOnFrom 146 = .ok (.return_, 1) := by decide +kernel
theorem dX4_reach_0 : decode cX4_reach 0 = .ok (.iload_n 2, 1) := by decide +kernel
theorem dX4_reach_1 : decode cX4_reach 1 = .ok (.ifCond .lt 16, 3) := by decide +kernel
theorem dX4_reach_4 : decode cX4_reach 4 = .ok (.aload_n 0, 1) := by decide +kernel
theorem dX4_reach_5 : decode cX4_reach 5 = .ok (.getfield 41, 3) := by decide +kernel
theorem dX4_reach_8 : decode cX4_reach 8 = .ok (.iload_n 1, 1) := by decide +kernel
theorem dX4_reach_9 : decode cX4_reach 9 = .ok (.iload_n 2, 1) := by decide +kernel
theorem dX4_reach_10 : decode cX4_reach 10 = .ok (.invokestatic 124, 3) := by decide +kernel
theorem dX4_reach_13 : decode cX4_reach 13 = .ok (.iaload, 1) := by decide +kernel
theorem dX4_reach_14 : decode cX4_reach 14 = .ok (.ifCond .ge 5, 3) := by decide +kernel
theorem dX4_reach_17 : decode cX4_reach 17 = .ok (.iconst 0, 1) := by decide +kernel
theorem dX4_reach_18 : decode cX4_reach 18 = .ok (.ireturn, 1) := by decide +kernel
theorem dX4_reach_19 : decode cX4_reach 19 = .ok (.aload_n 0, 1) := by decide +kernel
theorem dX4_reach_20 : decode cX4_reach 20 = .ok (.getfield 41, 3) := by decide +kernel
theorem dX4_reach_23 : decode cX4_reach 23 = .ok (.iload_n 1, 1) := by decide +kernel
theorem dX4_reach_24 : decode cX4_reach 24 = .ok (.iload_n 2, 1) := by decide +kernel
theorem dX4_reach_25 : decode cX4_reach 25 = .ok (.invokestatic 124, 3) := by decide +kernel
theorem dX4_reach_28 : decode cX4_reach 28 = .ok (.dup2, 1) := by decide +kernel
theorem dX4_reach_29 : decode cX4_reach 29 = .ok (.iaload, 1) := by decide +kernel
theorem dX4_reach_30 : decode cX4_reach 30 = .ok (.ldc 127, 2) := by decide +kernel
theorem dX4_reach_32 : decode cX4_reach 32 = .ok (.ior, 1) := by decide +kernel
theorem dX4_reach_33 : decode cX4_reach 33 = .ok (.iastore, 1) := by decide +kernel
theorem dX4_reach_34 : decode cX4_reach 34 = .ok (.iconst 1, 1) := by decide +kernel
theorem dX4_reach_35 : decode cX4_reach 35 = .ok (.ireturn, 1) := by decide +kernel
theorem dX4_followTale_0 : decode cX4_followTale 0 = .ok (.aload_n 0, 1) := by decide +kernel
theorem dX4_followTale_1 : decode cX4_followTale 1 = .ok (.invokevirtual 107, 3) := by decide +kernel
theorem dX4_followTale_4 : decode cX4_followTale 4 = .ok (.istore_n 1, 1) := by decide +kernel
theorem dX4_followTale_5 : decode cX4_followTale 5 = .ok (.iconst 0, 1) := by decide +kernel
theorem dX4_followTale_6 : decode cX4_followTale 6 = .ok (.istore_n 2, 1) := by decide +kernel
theorem dX4_followTale_7 : decode cX4_followTale 7 = .ok (.aload_n 0, 1) := by decide +kernel
theorem dX4_followTale_8 : decode cX4_followTale 8 = .ok (.getfield 14, 3) := by decide +kernel
theorem dX4_followTale_11 : decode cX4_followTale 11 = .ok (.aload_n 0, 1) := by decide +kernel
theorem dX4_followTale_12 : decode cX4_followTale 12 = .ok (.invokevirtual 68, 3) := by decide +kernel
theorem dX4_followTale_15 : decode cX4_followTale 15 = .ok (.ifCond .ge 7, 3) := by decide +kernel
theorem dX4_followTale_18 : decode cX4_followTale 18 = .ok (.iconst (-1), 1) := by decide +kernel
theorem dX4_followTale_19 : decode cX4_followTale 19 = .ok (.goto 4, 3) := by decide +kernel
theorem dX4_followTale_22 : decode cX4_followTale 22 = .ok (.iconst 0, 1) := by decide +kernel
theorem dX4_followTale_23 : decode cX4_followTale 23 = .ok (.putfield 75, 3) := by decide +kernel
theorem dX4_followTale_26 : decode cX4_followTale 26 = .ok (.iconst 0, 1) := by decide +kernel
theorem dX4_followTale_27 : decode cX4_followTale 27 = .ok (.istore_n 3, 1) := by decide +kernel
theorem dX4_followTale_28 : decode cX4_followTale 28 = .ok (.iload_n 3, 1) := by decide +kernel
theorem dX4_followTale_29 : decode cX4_followTale 29 = .ok (.bipush 96, 2) := by decide +kernel
theorem dX4_followTale_31 : decode cX4_followTale 31 = .ok (.if_icmp .ge 118, 3) := by decide +kernel
theorem dX4_followTale_34 : decode cX4_followTale 34 = .ok (.iload_n 2, 1) := by decide +kernel
theorem dX4_followTale_35 : decode cX4_followTale 35 = .ok (.aload_n 0, 1) := by decide +kernel
theorem dX4_followTale_36 : decode cX4_followTale 36 = .ok (.getfield 37, 3) := by decide +kernel
theorem dX4_followTale_39 : decode cX4_followTale 39 = .ok (.getfield 114, 3) := by decide +kernel
theorem dX4_followTale_42 : decode cX4_followTale 42 = .ok (.if_icmp .ge 107, 3) := by decide +kernel
theorem dX4_followTale_45 : decode cX4_followTale 45 = .ok (.aload_n 0, 1) := by decide +kernel
theorem dX4_followTale_46 : decode cX4_followTale 46 = .ok (.getfield 14, 3) := by decide +kernel
theorem dX4_followTale_49 : decode cX4_followTale 49 = .ok (.getfield 75, 3) := by decide +kernel
theorem dX4_followTale_52 : decode cX4_followTale 52 = .ok (.ifCond .lt 97, 3) := by decide +kernel
theorem dX4_followTale_55 : decode cX4_followTale 55 = .ok (.iload_n 1, 1) := by decide +kernel
theorem dX4_followTale_56 : decode cX4_followTale 56 = .ok (.ifCond .lt 93, 3) := by decide +kernel
theorem dX4_followTale_59 : decode cX4_followTale 59 = .ok (.aload_n 0, 1) := by decide +kernel
theorem dX4_followTale_60 : decode cX4_followTale 60 = .ok (.iload_n 2, 1) := by decide +kernel
theorem dX4_followTale_61 : decode cX4_followTale 61 = .ok (.iload_n 1, 1) := by decide +kernel
theorem dX4_followTale_62 : decode cX4_followTale 62 = .ok (.invokevirtual 157, 3) := by decide +kernel
theorem dX4_followTale_65 : decode cX4_followTale 65 = .ok (.istore 4, 2) := by decide +kernel
theorem dX4_followTale_67 : decode cX4_followTale 67 = .ok (.iload 4, 2) := by decide +kernel
theorem dX4_followTale_69 : decode cX4_followTale 69 = .ok (.ifCond .ge 16, 3) := by decide +kernel
theorem dX4_followTale_72 : decode cX4_followTale 72 = .ok (.aload_n 0, 1) := by decide +kernel
theorem dX4_followTale_73 : decode cX4_followTale 73 = .ok (.iload_n 2, 1) := by decide +kernel
theorem dX4_followTale_74 : decode cX4_followTale 74 = .ok (.iload_n 1, 1) := by decide +kernel
theorem dX4_followTale_75 : decode cX4_followTale 75 = .ok (.invokevirtual 135, 3) := by decide +kernel
theorem dX4_followTale_78 : decode cX4_followTale 78 = .ok (.istore_n 1, 1) := by decide +kernel
theorem dX4_followTale_79 : decode cX4_followTale 79 = .ok (.iinc 2 1, 3) := by decide +kernel
theorem dX4_followTale_82 : decode cX4_followTale 82 = .ok (.goto 61, 3) := by decide +kernel
theorem dX4_followTale_85 : decode cX4_followTale 85 = .ok (.aload_n 0, 1) := by decide +kernel
theorem dX4_followTale_86 : decode cX4_followTale 86 = .ok (.getfield 14, 3) := by decide +kernel
theorem dX4_followTale_89 : decode cX4_followTale 89 = .ok (.getfield 78, 3) := by decide +kernel
theorem dX4_followTale_92 : decode cX4_followTale 92 = .ok (.aload_n 0, 1) := by decide +kernel
theorem dX4_followTale_93 : decode cX4_followTale 93 = .ok (.getfield 14, 3) := by decide +kernel
theorem dX4_followTale_96 : decode cX4_followTale 96 = .ok (.getfield 75, 3) := by decide +kernel
theorem dX4_followTale_99 : decode cX4_followTale 99 = .ok (.iload 4, 2) := by decide +kernel
theorem dX4_followTale_101 : decode cX4_followTale 101 = .ok (.bipush 100, 2) := by decide +kernel
theorem dX4_followTale_103 : decode cX4_followTale 103 = .ok (.imul, 1) := by decide +kernel
theorem dX4_followTale_104 : decode cX4_followTale 104 = .ok (.iload_n 2, 1) := by decide +kernel
theorem dX4_followTale_105 : decode cX4_followTale 105 = .ok (.iadd, 1) := by decide +kernel
theorem dX4_followTale_106 : decode cX4_followTale 106 = .ok (.iastore, 1) := by decide +kernel
theorem dX4_followTale_107 : decode cX4_followTale 107 = .ok (.aload_n 0, 1) := by decide +kernel
theorem dX4_followTale_108 : decode cX4_followTale 108 = .ok (.getfield 14, 3) := by decide +kernel
theorem dX4_followTale_111 : decode cX4_followTale 111 = .ok (.dup, 1) := by decide +kernel
theorem dX4_followTale_112 : decode cX4_followTale 112 = .ok (.getfield 75, 3) := by decide +kernel
theorem dX4_followTale_115 : decode cX4_followTale 115 = .ok (.iconst 1, 1) := by decide +kernel
theorem dX4_followTale_116 : decode cX4_followTale 116 = .ok (.iadd, 1) := by decide +kernel
theorem dX4_followTale_117 : decode cX4_followTale 117 = .ok (.putfield 75, 3) := by decide +kernel
theorem dX4_followTale_120 : decode cX4_followTale 120 = .ok (.aload_n 0, 1) := by decide +kernel
theorem dX4_followTale_121 : decode cX4_followTale 121 = .ok (.iload 4, 2) := by decide +kernel
theorem dX4_followTale_123 : decode cX4_followTale 123 = .ok (.iload_n 2, 1) := by decide +kernel
theorem dX4_followTale_124 : decode cX4_followTale 124 = .ok (.iload_n 1, 1) := by decide +kernel
theorem dX4_followTale_125 : decode cX4_followTale 125 = .ok (.iconst 0, 1) := by decide +kernel
theorem dX4_followTale_126 : decode cX4_followTale 126 = .ok (.invokevirtual 153, 3) := by decide +kernel
theorem dX4_followTale_129 : decode cX4_followTale 129 = .ok (.istore_n 1, 1) := by decide +kernel
theorem dX4_followTale_130 : decode cX4_followTale 130 = .ok (.iload_n 2, 1) := by decide +kernel
theorem dX4_followTale_131 : decode cX4_followTale 131 = .ok (.aload_n 0, 1) := by decide +kernel
theorem dX4_followTale_132 : decode cX4_followTale 132 = .ok (.getfield 33, 3) := by decide +kernel
theorem dX4_followTale_135 : decode cX4_followTale 135 = .ok (.getfield 150, 3) := by decide +kernel
theorem dX4_followTale_138 : decode cX4_followTale 138 = .ok (.iload 4, 2) := by decide +kernel
theorem dX4_followTale_140 : decode cX4_followTale 140 = .ok (.iaload, 1) := by decide +kernel
theorem dX4_followTale_141 : decode cX4_followTale 141 = .ok (.iadd, 1) := by decide +kernel
theorem dX4_followTale_142 : decode cX4_followTale 142 = .ok (.istore_n 2, 1) := by decide +kernel
theorem dX4_followTale_143 : decode cX4_followTale 143 = .ok (.iinc 3 1, 3) := by decide +kernel
theorem dX4_followTale_146 : decode cX4_followTale 146 = .ok (.goto (-118), 3) := by decide +kernel
theorem dX4_followTale_149 : decode cX4_followTale 149 = .ok (.return_, 1) := by decide +kernel
theorem dX4_firstMove_0 : decode cX4_firstMove 0 = .ok (.aload_n 0, 1) := by decide +kernel
theorem dX4_firstMove_1 : decode cX4_firstMove 1 = .ok (.getfield 41, 3) := by decide +kernel
theorem dX4_firstMove_4 : decode cX4_firstMove 4 = .ok (.iload_n 1, 1) := by decide +kernel
theorem dX4_firstMove_5 : decode cX4_firstMove 5 = .ok (.iload_n 2, 1) := by decide +kernel
theorem dX4_firstMove_6 : decode cX4_firstMove 6 = .ok (.invokestatic 124, 3) := by decide +kernel
theorem dX4_firstMove_9 : decode cX4_firstMove 9 = .ok (.iaload, 1) := by decide +kernel
theorem dX4_firstMove_10 : decode cX4_firstMove 10 = .ok (.istore_n 3, 1) := by decide +kernel
theorem dX4_firstMove_11 : decode cX4_firstMove 11 = .ok (.aload_n 0, 1) := by decide +kernel
theorem dX4_firstMove_12 : decode cX4_firstMove 12 = .ok (.iload_n 1, 1) := by decide +kernel
theorem dX4_firstMove_13 : decode cX4_firstMove 13 = .ok (.iload_n 2, 1) := by decide +kernel
theorem dX4_firstMove_14 : decode cX4_firstMove 14 = .ok (.invokevirtual 135, 3) := by decide +kernel
theorem dX4_firstMove_17 : decode cX4_firstMove 17 = .ok (.istore 4, 2) := by decide +kernel
theorem dX4_firstMove_19 : decode cX4_firstMove 19 = .ok (.iload 4, 2) := by decide +kernel
theorem dX4_firstMove_21 : decode cX4_firstMove 21 = .ok (.ifCond .lt 22, 3) := by decide +kernel
theorem dX4_firstMove_24 : decode cX4_firstMove 24 = .ok (.aload_n 0, 1) := by decide +kernel
theorem dX4_firstMove_25 : decode cX4_firstMove 25 = .ok (.getfield 41, 3) := by decide +kernel
theorem dX4_firstMove_28 : decode cX4_firstMove 28 = .ok (.iload_n 1, 1) := by decide +kernel
theorem dX4_firstMove_29 : decode cX4_firstMove 29 = .ok (.iconst 1, 1) := by decide +kernel
theorem dX4_firstMove_30 : decode cX4_firstMove 30 = .ok (.iadd, 1) := by decide +kernel
theorem dX4_firstMove_31 : decode cX4_firstMove 31 = .ok (.iload 4, 2) := by decide +kernel
theorem dX4_firstMove_33 : decode cX4_firstMove 33 = .ok (.invokestatic 124, 3) := by decide +kernel
theorem dX4_firstMove_36 : decode cX4_firstMove 36 = .ok (.iaload, 1) := by decide +kernel
theorem dX4_firstMove_37 : decode cX4_firstMove 37 = .ok (.iload_n 3, 1) := by decide +kernel
theorem dX4_firstMove_38 : decode cX4_firstMove 38 = .ok (.if_icmp .ne 5, 3) := by decide +kernel
theorem dX4_firstMove_41 : decode cX4_firstMove 41 = .ok (.iconst (-1), 1) := by decide +kernel
theorem dX4_firstMove_42 : decode cX4_firstMove 42 = .ok (.ireturn, 1) := by decide +kernel
theorem dX4_firstMove_43 : decode cX4_firstMove 43 = .ok (.iconst 0, 1) := by decide +kernel
theorem dX4_firstMove_44 : decode cX4_firstMove 44 = .ok (.istore 5, 2) := by decide +kernel
theorem dX4_firstMove_46 : decode cX4_firstMove 46 = .ok (.iload 5, 2) := by decide +kernel
theorem dX4_firstMove_48 : decode cX4_firstMove 48 = .ok (.aload_n 0, 1) := by decide +kernel
theorem dX4_firstMove_49 : decode cX4_firstMove 49 = .ok (.getfield 33, 3) := by decide +kernel
theorem dX4_firstMove_52 : decode cX4_firstMove 52 = .ok (.getfield 138, 3) := by decide +kernel
theorem dX4_firstMove_55 : decode cX4_firstMove 55 = .ok (.if_icmp .ge 35, 3) := by decide +kernel
theorem dX4_firstMove_58 : decode cX4_firstMove 58 = .ok (.aload_n 0, 1) := by decide +kernel
theorem dX4_firstMove_59 : decode cX4_firstMove 59 = .ok (.iload 5, 2) := by decide +kernel
theorem dX4_firstMove_61 : decode cX4_firstMove 61 = .ok (.iload_n 1, 1) := by decide +kernel
theorem dX4_firstMove_62 : decode cX4_firstMove 62 = .ok (.iload_n 2, 1) := by decide +kernel
theorem dX4_firstMove_63 : decode cX4_firstMove 63 = .ok (.invokevirtual 143, 3) := by decide +kernel
theorem dX4_firstMove_66 : decode cX4_firstMove 66 = .ok (.ifCond .eq 18, 3) := by decide +kernel
theorem dX4_firstMove_69 : decode cX4_firstMove 69 = .ok (.aload_n 0, 1) := by decide +kernel
theorem dX4_firstMove_70 : decode cX4_firstMove 70 = .ok (.iload 5, 2) := by decide +kernel
theorem dX4_firstMove_72 : decode cX4_firstMove 72 = .ok (.iload_n 1, 1) := by decide +kernel
theorem dX4_firstMove_73 : decode cX4_firstMove 73 = .ok (.iload_n 2, 1) := by decide +kernel
theorem dX4_firstMove_74 : decode cX4_firstMove 74 = .ok (.invokevirtual 160, 3) := by decide +kernel
theorem dX4_firstMove_77 : decode cX4_firstMove 77 = .ok (.iload_n 3, 1) := by decide +kernel
theorem dX4_firstMove_78 : decode cX4_firstMove 78 = .ok (.if_icmp .ne 6, 3) := by decide +kernel
theorem dX4_firstMove_81 : decode cX4_firstMove 81 = .ok (.iload 5, 2) := by decide +kernel
theorem dX4_firstMove_83 : decode cX4_firstMove 83 = .ok (.ireturn, 1) := by decide +kernel
theorem dX4_firstMove_84 : decode cX4_firstMove 84 = .ok (.iinc 5 1, 3) := by decide +kernel
theorem dX4_firstMove_87 : decode cX4_firstMove 87 = .ok (.goto (-41), 3) := by decide +kernel
theorem dX4_firstMove_90 : decode cX4_firstMove 90 = .ok (.iconst (-1), 1) := by decide +kernel
theorem dX4_firstMove_91 : decode cX4_firstMove 91 = .ok (.ireturn, 1) := by decide +kernel
theorem dX4_prepare_0 : decode cX4_prepare 0 = .ok (.aload_n 0, 1) := by decide +kernel
theorem dX4_prepare_1 : decode cX4_prepare 1 = .ok (.iconst 0, 1) := by decide +kernel
theorem dX4_prepare_2 : decode cX4_prepare 2 = .ok (.putfield 164, 3) := by decide +kernel
theorem dX4_prepare_5 : decode cX4_prepare 5 = .ok (.aload_n 0, 1) := by decide +kernel
theorem dX4_prepare_6 : decode cX4_prepare 6 = .ok (.iconst 0, 1) := by decide +kernel
theorem dX4_prepare_7 : decode cX4_prepare 7 = .ok (.putfield 167, 3) := by decide +kernel
theorem dX4_prepare_10 : decode cX4_prepare 10 = .ok (.aload_n 0, 1) := by decide +kernel
theorem dX4_prepare_11 : decode cX4_prepare 11 = .ok (.iconst 0, 1) := by decide +kernel
theorem dX4_prepare_12 : decode cX4_prepare 12 = .ok (.putfield 170, 3) := by decide +kernel
theorem dX4_prepare_15 : decode cX4_prepare 15 = .ok (.iconst 0, 1) := by decide +kernel
theorem dX4_prepare_16 : decode cX4_prepare 16 = .ok (.istore_n 2, 1) := by decide +kernel
theorem dX4_prepare_17 : decode cX4_prepare 17 = .ok (.iload_n 2, 1) := by decide +kernel
theorem dX4_prepare_18 : decode cX4_prepare 18 = .ok (.aload_n 0, 1) := by decide +kernel
theorem dX4_prepare_19 : decode cX4_prepare 19 = .ok (.getfield 37, 3) := by decide +kernel
theorem dX4_prepare_22 : decode cX4_prepare 22 = .ok (.getfield 87, 3) := by decide +kernel
theorem dX4_prepare_25 : decode cX4_prepare 25 = .ok (.if_icmp .ge 159, 3) := by decide +kernel
theorem dX4_prepare_28 : decode cX4_prepare 28 = .ok (.iload_n 1, 1) := by decide +kernel
theorem dX4_prepare_29 : decode cX4_prepare 29 = .ok (.iload_n 2, 1) := by decide +kernel
theorem dX4_prepare_30 : decode cX4_prepare 30 = .ok (.ishr, 1) := by decide +kernel
theorem dX4_prepare_31 : decode cX4_prepare 31 = .ok (.iconst 1, 1) := by decide +kernel
theorem dX4_prepare_32 : decode cX4_prepare 32 = .ok (.iand, 1) := by decide +kernel
theorem dX4_prepare_33 : decode cX4_prepare 33 = .ok (.ifCond .eq 7, 3) := by decide +kernel
theorem dX4_prepare_36 : decode cX4_prepare 36 = .ok (.iconst 1, 1) := by decide +kernel
theorem dX4_prepare_37 : decode cX4_prepare 37 = .ok (.goto 4, 3) := by decide +kernel
theorem dX4_prepare_40 : decode cX4_prepare 40 = .ok (.iconst 0, 1) := by decide +kernel
theorem dX4_prepare_41 : decode cX4_prepare 41 = .ok (.istore_n 3, 1) := by decide +kernel
theorem dX4_prepare_42 : decode cX4_prepare 42 = .ok (.iload_n 3, 1) := by decide +kernel
theorem dX4_prepare_43 : decode cX4_prepare 43 = .ok (.ifCond .ne 44, 3) := by decide +kernel
theorem dX4_prepare_46 : decode cX4_prepare 46 = .ok (.aload_n 0, 1) := by decide +kernel
theorem dX4_prepare_47 : decode cX4_prepare 47 = .ok (.getfield 37, 3) := by decide +kernel
theorem dX4_prepare_50 : decode cX4_prepare 50 = .ok (.iload_n 2, 1) := by decide +kernel
theorem dX4_prepare_51 : decode cX4_prepare 51 = .ok (.iconst 0, 1) := by decide +kernel
theorem dX4_prepare_52 : decode cX4_prepare 52 = .ok (.invokevirtual 173, 3) := by decide +kernel
theorem dX4_prepare_55 : decode cX4_prepare 55 = .ok (.ifCond .eq 32, 3) := by decide +kernel
theorem dX4_prepare_58 : decode cX4_prepare 58 = .ok (.aload_n 0, 1) := by decide +kernel
theorem dX4_prepare_59 : decode cX4_prepare 59 = .ok (.getfield 164, 3) := by decide +kernel
theorem dX4_prepare_62 : decode cX4_prepare 62 = .ok (.bipush 6, 2) := by decide +kernel
theorem dX4_prepare_64 : decode cX4_prepare 64 = .ok (.if_icmp .ge 23, 3) := by decide +kernel
theorem dX4_prepare_67 : decode cX4_prepare 67 = .ok (.aload_n 0, 1) := by decide +kernel
theorem dX4_prepare_68 : decode cX4_prepare 68 = .ok (.getfield 27, 3) := by decide +kernel
theorem dX4_prepare_71 : decode cX4_prepare 71 = .ok (.aload_n 0, 1) := by decide +kernel
theorem dX4_prepare_72 : decode cX4_prepare 72 = .ok (.getfield 164, 3) := by decide +kernel
theorem dX4_prepare_75 : decode cX4_prepare 75 = .ok (.iload_n 2, 1) := by decide +kernel
theorem dX4_prepare_76 : decode cX4_prepare 76 = .ok (.iastore, 1) := by decide +kernel
theorem dX4_prepare_77 : decode cX4_prepare 77 = .ok (.aload_n 0, 1) := by decide +kernel
theorem dX4_prepare_78 : decode cX4_prepare 78 = .ok (.dup, 1) := by decide +kernel
theorem dX4_prepare_79 : decode cX4_prepare 79 = .ok (.getfield 164, 3) := by decide +kernel
theorem dX4_prepare_82 : decode cX4_prepare 82 = .ok (.iconst 1, 1) := by decide +kernel
theorem dX4_prepare_83 : decode cX4_prepare 83 = .ok (.iadd, 1) := by decide +kernel
theorem dX4_prepare_84 : decode cX4_prepare 84 = .ok (.putfield 164, 3) := by decide +kernel
theorem dX4_prepare_87 : decode cX4_prepare 87 = .ok (.iload_n 3, 1) := by decide +kernel
theorem dX4_prepare_88 : decode cX4_prepare 88 = .ok (.ifCond .ne 43, 3) := by decide +kernel
theorem dX4_prepare_91 : decode cX4_prepare 91 = .ok (.aload_n 0, 1) := by decide +kernel
theorem dX4_prepare_92 : decode cX4_prepare 92 = .ok (.getfield 37, 3) := by decide +kernel
theorem dX4_prepare_95 : decode cX4_prepare 95 = .ok (.iload_n 2, 1) := by decide +kernel
theorem dX4_prepare_96 : decode cX4_prepare 96 = .ok (.iconst 2, 1) := by decide +kernel
theorem dX4_prepare_97 : decode cX4_prepare 97 = .ok (.invokevirtual 173, 3) := by decide +kernel
theorem dX4_prepare_100 : decode cX4_prepare 100 = .ok (.ifCond .eq 31, 3) := by decide +kernel
theorem dX4_prepare_103 : decode cX4_prepare 103 = .ok (.aload_n 0, 1) := by decide +kernel
theorem dX4_prepare_104 : decode cX4_prepare 104 = .ok (.getfield 167, 3) := by decide +kernel
theorem dX4_prepare_107 : decode cX4_prepare 107 = .ok (.iconst 2, 1) := by decide +kernel
theorem dX4_prepare_108 : decode cX4_prepare 108 = .ok (.if_icmp .ge 23, 3) := by decide +kernel
theorem dX4_prepare_111 : decode cX4_prepare 111 = .ok (.aload_n 0, 1) := by decide +kernel
theorem dX4_prepare_112 : decode cX4_prepare 112 = .ok (.getfield 30, 3) := by decide +kernel
theorem dX4_prepare_115 : decode cX4_prepare 115 = .ok (.aload_n 0, 1) := by decide +kernel
theorem dX4_prepare_116 : decode cX4_prepare 116 = .ok (.getfield 167, 3) := by decide +kernel
theorem dX4_prepare_119 : decode cX4_prepare 119 = .ok (.iload_n 2, 1) := by decide +kernel
theorem dX4_prepare_120 : decode cX4_prepare 120 = .ok (.iastore, 1) := by decide +kernel
theorem dX4_prepare_121 : decode cX4_prepare 121 = .ok (.aload_n 0, 1) := by decide +kernel
theorem dX4_prepare_122 : decode cX4_prepare 122 = .ok (.dup, 1) := by decide +kernel
theorem dX4_prepare_123 : decode cX4_prepare 123 = .ok (.getfield 167, 3) := by decide +kernel
theorem dX4_prepare_126 : decode cX4_prepare 126 = .ok (.iconst 1, 1) := by decide +kernel
theorem dX4_prepare_127 : decode cX4_prepare 127 = .ok (.iadd, 1) := by decide +kernel
theorem dX4_prepare_128 : decode cX4_prepare 128 = .ok (.putfield 167, 3) := by decide +kernel
theorem dX4_prepare_131 : decode cX4_prepare 131 = .ok (.iload_n 3, 1) := by decide +kernel
theorem dX4_prepare_132 : decode cX4_prepare 132 = .ok (.ifCond .ne 46, 3) := by decide +kernel
