/-- java/lang/Integer.bitCount -/
theorem S_J6_bitCount_0f7a4 {G : Cx} {μ : Mi} (x0 : Int) : Spec yd_J6_bitCount_0f7a4 G [iv x0] (Em μ) (some (iv (D_J6_bitCount_0f7a4 x0))) (Em μ) := by
  generalize h : D_J6_bitCount_0f7a4 x0 = r
  refine Spec.of (by decide) rfl (catL_ok rfl) (Nat.le_of_ble_eq_true rfl) rfl (fun b hF => ?_)
  unfold D_J6_bitCount_0f7a4 at h
  refine dild_1_0 1 dJ6_bitCount_0f7a4_0 rfl ?_
  refine dild_1_0 2 dJ6_bitCount_0f7a4_1 rfl ?_
  refine dt_iconst 3 dJ6_bitCount_0f7a4_2 rfl ?_
  refine dt_iushr 4 dJ6_bitCount_0f7a4_3 rfl ?_
  refine dt_ldcw (z := 1431655765) 7 rfl k_J6_265 (by decide) dJ6_bitCount_0f7a4_4 rfl ?_
  refine dt_iand 8 dJ6_bitCount_0f7a4_7 rfl ?_
  refine dt_isub 9 dJ6_bitCount_0f7a4_8 rfl ?_
  refine dist_1_0 10 dJ6_bitCount_0f7a4_9 rfl rfl rfl ?_
  refine dild_1_0 11 dJ6_bitCount_0f7a4_10 rfl ?_
  refine dt_ldcw (z := 858993459) 14 rfl k_J6_266 (by decide) dJ6_bitCount_0f7a4_11 rfl ?_
  refine dt_iand 15 dJ6_bitCount_0f7a4_14 rfl ?_
  refine dild_1_0 16 dJ6_bitCount_0f7a4_15 rfl ?_
  refine dt_iconst 17 dJ6_bitCount_0f7a4_16 rfl ?_
  refine dt_iushr 18 dJ6_bitCount_0f7a4_17 rfl ?_
  refine dt_ldcw (z := 858993459) 21 rfl k_J6_266 (by decide) dJ6_bitCount_0f7a4_18 rfl ?_
  refine dt_iand 22 dJ6_bitCount_0f7a4_21 rfl ?_
  refine dt_iadd 23 dJ6_bitCount_0f7a4_22 rfl ?_
  refine dist_1_0 24 dJ6_bitCount_0f7a4_23 rfl rfl rfl ?_
  refine dild_1_0 25 dJ6_bitCount_0f7a4_24 rfl ?_
  refine dild_1_0 26 dJ6_bitCount_0f7a4_25 rfl ?_
  refine dt_iconst 27 dJ6_bitCount_0f7a4_26 rfl ?_
  refine dt_iushr 28 dJ6_bitCount_0f7a4_27 rfl ?_
  refine dt_iadd 29 dJ6_bitCount_0f7a4_28 rfl ?_
  refine dt_ldcw (z := 252645135) 32 rfl k_J6_267 (by decide) dJ6_bitCount_0f7a4_29 rfl ?_
  refine dt_iand 33 dJ6_bitCount_0f7a4_32 rfl ?_
  refine dist_1_0 34 dJ6_bitCount_0f7a4_33 rfl rfl rfl ?_
  refine dild_1_0 35 dJ6_bitCount_0f7a4_34 rfl ?_
  refine dild_1_0 36 dJ6_bitCount_0f7a4_35 rfl ?_
  refine dt_bipush 38 dJ6_bitCount_0f7a4_36 bq_8 rfl ?_
  refine dt_iushr 39 dJ6_bitCount_0f7a4_38 rfl ?_
  refine dt_iadd 40 dJ6_bitCount_0f7a4_39 rfl ?_
  refine dist_1_0 41 dJ6_bitCount_0f7a4_40 rfl rfl rfl ?_
  refine dild_1_0 42 dJ6_bitCount_0f7a4_41 rfl ?_
  refine dild_1_0 43 dJ6_bitCount_0f7a4_42 rfl ?_
  refine dt_bipush 45 dJ6_bitCount_0f7a4_43 bq_16 rfl ?_
  refine dt_iushr 46 dJ6_bitCount_0f7a4_45 rfl ?_
  refine dt_iadd 47 dJ6_bitCount_0f7a4_46 rfl ?_
  refine dist_1_0 48 dJ6_bitCount_0f7a4_47 rfl rfl rfl ?_
  refine dild_1_0 49 dJ6_bitCount_0f7a4_48 rfl ?_
  refine dt_bipush 51 dJ6_bitCount_0f7a4_49 bq_63 rfl ?_
  refine dt_iand 52 dJ6_bitCount_0f7a4_51 rfl ?_
  exact dr_it hF rfl dJ6_bitCount_0f7a4_52 h
/-- java/lang/Integer.numberOfTrailingZeros -/
theorem A_J6_numberOfTrailingZeros_0f7a4_74 {G : Cx} {b : Ab} {μ : Mi} {r : Int} (hF : Fi yd_J6_numberOfTrailingZeros_0f7a4 G b (some (iv r)) (Em μ)) (x0 : Int) (x1 : Int) (h : B_J6_numberOfTrailingZeros_0f7a4_74 x0 x1 = r) : At yd_J6_numberOfTrailingZeros_0f7a4 G b 74 [some (iv x0), some (iv x1)] [] (Em μ) := by
  unfold B_J6_numberOfTrailingZeros_0f7a4_74 at h
  refine dild_2_1 75 dJ6_numberOfTrailingZeros_0f7a4_74 rfl ?_
  refine dild_2_0 76 dJ6_numberOfTrailingZeros_0f7a4_75 rfl ?_
  refine dt_iconst 77 dJ6_numberOfTrailingZeros_0f7a4_76 rfl ?_
  refine dt_iushr 78 dJ6_numberOfTrailingZeros_0f7a4_77 rfl ?_
  refine dt_iadd 79 dJ6_numberOfTrailingZeros_0f7a4_78 rfl ?_
  exact dr_it hF rfl dJ6_numberOfTrailingZeros_0f7a4_79 h
theorem A_J6_numberOfTrailingZeros_0f7a4_62 {G : Cx} {b : Ab} {μ : Mi} {r : Int} (hF : Fi yd_J6_numberOfTrailingZeros_0f7a4 G b (some (iv r)) (Em μ)) (x0 : Int) (x1 : Int) (h : B_J6_numberOfTrailingZeros_0f7a4_62 x0 x1 = r) : At yd_J6_numberOfTrailingZeros_0f7a4 G b 62 [some (iv x0), some (iv x1)] [] (Em μ) := by
  unfold B_J6_numberOfTrailingZeros_0f7a4_62 at h
  refine dild_2_0 63 dJ6_numberOfTrailingZeros_0f7a4_62 rfl ?_
  refine dt_iconst 64 dJ6_numberOfTrailingZeros_0f7a4_63 rfl ?_
  refine dt_icmp_le 67 74 dJ6_numberOfTrailingZeros_0f7a4_64 rfl (by decide) rfl wk_4 (fun c => ?_) (fun c => ?_)
  · replace h := ifp c h
    exact A_J6_numberOfTrailingZeros_0f7a4_74 hF _ _ h
  · replace h := ifn c h
    refine dinc_2_1 70 dJ6_numberOfTrailingZeros_0f7a4_67 rfl rfl rfl ?_
    refine dild_2_0 71 dJ6_numberOfTrailingZeros_0f7a4_70 rfl ?_
    refine dt_iconst 72 dJ6_numberOfTrailingZeros_0f7a4_71 rfl ?_
    refine dt_iushr 73 dJ6_numberOfTrailingZeros_0f7a4_72 rfl ?_
    refine dist_2_0 74 dJ6_numberOfTrailingZeros_0f7a4_73 rfl rfl rfl ?_
    exact A_J6_numberOfTrailingZeros_0f7a4_74 hF _ _ h
theorem A_J6_numberOfTrailingZeros_0f7a4_49 {G : Cx} {b : Ab} {μ : Mi} {r : Int} (hF : Fi yd_J6_numberOfTrailingZeros_0f7a4 G b (some (iv r)) (Em μ)) (x0 : Int) (x1 : Int) (h : B_J6_numberOfTrailingZeros_0f7a4_49 x0 x1 = r) : At yd_J6_numberOfTrailingZeros_0f7a4 G b 49 [some (iv x0), some (iv x1)] [] (Em μ) := by
  unfold B_J6_numberOfTrailingZeros_0f7a4_49 at h
  refine dild_2_0 50 dJ6_numberOfTrailingZeros_0f7a4_49 rfl ?_
  refine dt_bipush 52 dJ6_numberOfTrailingZeros_0f7a4_50 bq_16 rfl ?_
  refine dt_icmp_le 55 62 dJ6_numberOfTrailingZeros_0f7a4_52 rfl (by decide) rfl wk_16 (fun c => ?_) (fun c => ?_)
  · replace h := ifp c h
    exact A_J6_numberOfTrailingZeros_0f7a4_62 hF _ _ h
  · replace h := ifn c h
    refine dinc_2_1 58 dJ6_numberOfTrailingZeros_0f7a4_55 rfl rfl rfl ?_
    refine dild_2_0 59 dJ6_numberOfTrailingZeros_0f7a4_58 rfl ?_
    refine dt_iconst 60 dJ6_numberOfTrailingZeros_0f7a4_59 rfl ?_
    refine dt_iushr 61 dJ6_numberOfTrailingZeros_0f7a4_60 rfl ?_
    refine dist_2_0 62 dJ6_numberOfTrailingZeros_0f7a4_61 rfl rfl rfl ?_
    exact A_J6_numberOfTrailingZeros_0f7a4_62 hF _ _ h
theorem A_J6_numberOfTrailingZeros_0f7a4_34 {G : Cx} {b : Ab} {μ : Mi} {r : Int} (hF : Fi yd_J6_numberOfTrailingZeros_0f7a4 G b (some (iv r)) (Em μ)) (x0 : Int) (x1 : Int) (h : B_J6_numberOfTrailingZeros_0f7a4_34 x0 x1 = r) : At yd_J6_numberOfTrailingZeros_0f7a4 G b 34 [some (iv x0), some (iv x1)] [] (Em μ) := by
  unfold B_J6_numberOfTrailingZeros_0f7a4_34 at h
  refine dild_2_0 35 dJ6_numberOfTrailingZeros_0f7a4_34 rfl ?_
  refine dt_sipush 38 dJ6_numberOfTrailingZeros_0f7a4_35 sq_256 rfl ?_
  refine dt_icmp_le 41 49 dJ6_numberOfTrailingZeros_0f7a4_38 rfl (by decide) rfl wk_256 (fun c => ?_) (fun c => ?_)
  · replace h := ifp c h
    exact A_J6_numberOfTrailingZeros_0f7a4_49 hF _ _ h
  · replace h := ifn c h
    refine dinc_2_1 44 dJ6_numberOfTrailingZeros_0f7a4_41 rfl rfl rfl ?_
    refine dild_2_0 45 dJ6_numberOfTrailingZeros_0f7a4_44 rfl ?_
    refine dt_bipush 47 dJ6_numberOfTrailingZeros_0f7a4_45 bq_8 rfl ?_
    refine dt_iushr 48 dJ6_numberOfTrailingZeros_0f7a4_47 rfl ?_
    refine dist_2_0 49 dJ6_numberOfTrailingZeros_0f7a4_48 rfl rfl rfl ?_
    exact A_J6_numberOfTrailingZeros_0f7a4_49 hF _ _ h
theorem S_J6_numberOfTrailingZeros_0f7a4 {G : Cx} {μ : Mi} (x0 : Int) : Spec yd_J6_numberOfTrailingZeros_0f7a4 G [iv x0] (Em μ) (some (iv (D_J6_numberOfTrailingZeros_0f7a4 x0))) (Em μ) := by
  generalize h : D_J6_numberOfTrailingZeros_0f7a4 x0 = r
  refine Spec.of (by decide) rfl (catL_ok rfl) (Nat.le_of_ble_eq_true rfl) rfl (fun b hF => ?_)
  unfold D_J6_numberOfTrailingZeros_0f7a4 at h
  refine dild_2_0 1 dJ6_numberOfTrailingZeros_0f7a4_0 rfl ?_
  refine dt_iconst 2 dJ6_numberOfTrailingZeros_0f7a4_1 rfl ?_
  refine dt_ixor 3 dJ6_numberOfTrailingZeros_0f7a4_2 rfl ?_
  refine dild_2_0 4 dJ6_numberOfTrailingZeros_0f7a4_3 rfl ?_
  refine dt_iconst 5 dJ6_numberOfTrailingZeros_0f7a4_4 rfl ?_
  refine dt_isub 6 dJ6_numberOfTrailingZeros_0f7a4_5 rfl ?_
  refine dt_iand 7 dJ6_numberOfTrailingZeros_0f7a4_6 rfl ?_
  refine dist_2_0 8 dJ6_numberOfTrailingZeros_0f7a4_7 rfl rfl rfl ?_
  refine dild_2_0 9 dJ6_numberOfTrailingZeros_0f7a4_8 rfl ?_
  refine dt_if_gt 12 17 dJ6_numberOfTrailingZeros_0f7a4_9 rfl (by decide) rfl (fun c => ?_) (fun c => ?_)
  · replace h := ifp c h
    refine dt_iconst 18 dJ6_numberOfTrailingZeros_0f7a4_17 rfl ?_
    refine dist_2_1 19 dJ6_numberOfTrailingZeros_0f7a4_18 rfl rfl rfl ?_
    refine dild_2_0 20 dJ6_numberOfTrailingZeros_0f7a4_19 rfl ?_
    refine dt_ldcw (z := 65536) 23 rfl k_J6_264 (by decide) dJ6_numberOfTrailingZeros_0f7a4_20 rfl ?_
    refine dt_icmp_le 26 34 dJ6_numberOfTrailingZeros_0f7a4_23 rfl (by decide) rfl wk_65536 (fun c => ?_) (fun c => ?_)
    · replace h := ifp c h
      exact A_J6_numberOfTrailingZeros_0f7a4_34 hF _ _ h
    · replace h := ifn c h
      refine dinc_2_1 29 dJ6_numberOfTrailingZeros_0f7a4_26 rfl rfl rfl ?_
      refine dild_2_0 30 dJ6_numberOfTrailingZeros_0f7a4_29 rfl ?_
      refine dt_bipush 32 dJ6_numberOfTrailingZeros_0f7a4_30 bq_16 rfl ?_
      refine dt_iushr 33 dJ6_numberOfTrailingZeros_0f7a4_32 rfl ?_
      refine dist_2_0 34 dJ6_numberOfTrailingZeros_0f7a4_33 rfl rfl rfl ?_
      exact A_J6_numberOfTrailingZeros_0f7a4_34 hF _ _ h
  · replace h := ifn c h
    refine dild_2_0 13 dJ6_numberOfTrailingZeros_0f7a4_12 rfl ?_
    refine dt_bipush 15 dJ6_numberOfTrailingZeros_0f7a4_13 bq_32 rfl ?_
    refine dt_iand 16 dJ6_numberOfTrailingZeros_0f7a4_15 rfl ?_
    exact dr_it hF rfl dJ6_numberOfTrailingZeros_0f7a4_16 h
