/-- StampTales.append -/
theorem A_X6_append_3 {G : Cx} {b : Ab}  {mm : Mi} (hF : Fi yd_X6_append G b none (Em mm)) : ∀ (n : Nat) (x1 : Int) (x2 : Int) (μ : Mi), B_X6_append_3 n x1 x2 μ = some mm → At yd_X6_append G b 3 [some (rf G 6 false), some (iv x1), some (iv x2)] [] (Em μ) := by
  intro n
  induction n with
  | zero =>
    intro x1 x2 μ h
    exact nope h
  | succ n hk3 =>
    intro x1 x2 μ h
    replace h : F_X6_append_3 (B_X6_append_3 n) x1 x2 μ = some mm := h
    unfold F_X6_append_3 at h
    refine dild_3_2 4 dX6_append_3 rfl ?_
    refine dt_if_lt 7 46 dX6_append_4 rfl (by decide) rfl (fun c => ?_) (fun c => ?_)
    · replace h := ifp c h
      exact dr_v hF rfl dX6_append_46 h
    · replace h := ifn c h
      refine ald_3_0 8 rfl dX6_append_7 rfl ?_
      refine dgf_X6_57 11 rfl dX6_append_8 rfl rfl ?_
      refine dt_sipush 14 dX6_append_11 sq_500 rfl ?_
      refine dt_icmp_ge 17 46 dX6_append_14 rfl (by decide) rfl wk_500 (fun c => ?_) (fun c => ?_)
      · replace h := ifp c h
        exact dr_v hF rfl dX6_append_46 h
      · replace h := ifn c h
        refine ald_3_0 18 rfl dX6_append_17 rfl ?_
        refine dgf_X6_9 21 rfl dX6_append_18 rfl ?_
        refine ald_3_0 22 rfl dX6_append_21 rfl ?_
        refine dgf_X6_57 25 rfl dX6_append_22 rfl rfl ?_
        refine dild_3_1 26 dX6_append_25 rfl ?_
        refine dild_3_2 27 dX6_append_26 rfl ?_
        refine dt_ishr 28 dX6_append_27 rfl ?_
        refine dt_i2b 29 dX6_append_28 rfl ?_
        obtain ⟨hi, h⟩ := ift h
        refine dbast 30 rfl rfl rfl hi rfl dX6_append_29 rfl ?_
        refine ald_3_0 31 rfl dX6_append_30 rfl ?_
        refine st_dup 32 dX6_append_31 rfl rfl ?_
        refine dgf_X6_57 35 rfl dX6_append_32 rfl (rd_o (by decide)) ?_
        refine dt_iconst 36 dX6_append_35 rfl ?_
        refine dt_iadd 37 dX6_append_36 rfl ?_
        refine dpf_X6_57 40 rfl dX6_append_37 rfl ?_
        refine dinc_3_2 43 dX6_append_40 rfl rfl rfl ?_
        refine st_goto 3 dX6_append_43 (by decide) ?_
        exact hk3 _ _ _ h
theorem S_X6_append {G : Cx} {μ : Mi} {x1 : Int}  {mm : Mi} (h : D_X6_append x1 μ = some mm) : Spec yd_X6_append G [rf G 6 false, iv x1] (Em μ) (none) (Em mm) := by
  refine Spec.of (by decide) rfl (catL_ok rfl) (Nat.le_of_ble_eq_true rfl) rfl (fun b hF => ?_)
  unfold D_X6_append at h
  refine dt_bipush 2 dX6_append_0 bq_24 rfl ?_
  refine dist_3_2 3 dX6_append_2 rfl rfl rfl ?_
  exact A_X6_append_3 hF FU _ _ _ h
/-- StampTales.feed -/
theorem S_X6_feed {G : Cx} {μ : Mi} {x1 : Int} {x2 : Int} {x3 : Int} {x4 : Int} {x5 : Int} {r : Int} {mm : Mi} (h : D_X6_feed x1 x2 x3 x4 x5 μ = some (r, mm)) : Spec yd_X6_feed G [rf G 6 false, iv x1, iv x2, iv x3, iv x4, iv x5] (Em μ) (some (iv r)) (Em mm) := by
  refine Spec.of (by decide) rfl (catL_ok rfl) (Nat.le_of_ble_eq_true rfl) rfl (fun b hF => ?_)
  unfold D_X6_feed at h
  refine ald_6_0 1 rfl dX6_feed_0 rfl ?_
  refine dgf_X6_57 4 rfl dX6_feed_1 rfl rfl ?_
  refine dt_bipush 6 dX6_feed_4 bq_20 rfl ?_
  refine dt_iadd 7 dX6_feed_6 rfl ?_
  refine dt_sipush 10 dX6_feed_7 sq_500 rfl ?_
  refine dt_icmp_le 13 15 dX6_feed_10 rfl (by decide) rfl wk_500 (fun c => ?_) (fun c => ?_)
  · replace h := ifp c h
    refine ald_6_0 16 rfl dX6_feed_15 rfl ?_
    refine dild_6_1 17 dX6_feed_16 rfl ?_
    obtain ⟨m1, h1, h⟩ := bm_some h
    refine cvv_1 20 cw_X6_61 (S_X6_append h1) rfl ⟨by decide, by decide⟩ rfl rfl rfl rfl rfl (Nat.le_of_ble_eq_true rfl) dX6_feed_17 rfl ?_
    refine ald_6_0 21 rfl dX6_feed_20 rfl ?_
    refine dild_6_2 22 dX6_feed_21 rfl ?_
    obtain ⟨m2, h2, h⟩ := bm_some h
    refine cvv_1 25 cw_X6_61 (S_X6_append h2) rfl ⟨by decide, by decide⟩ rfl rfl rfl rfl rfl (Nat.le_of_ble_eq_true rfl) dX6_feed_22 rfl ?_
    refine ald_6_0 26 rfl dX6_feed_25 rfl ?_
    refine dild_6_3 27 dX6_feed_26 rfl ?_
    obtain ⟨m3, h3, h⟩ := bm_some h
    refine cvv_1 30 cw_X6_61 (S_X6_append h3) rfl ⟨by decide, by decide⟩ rfl rfl rfl rfl rfl (Nat.le_of_ble_eq_true rfl) dX6_feed_27 rfl ?_
    refine ald_6_0 31 rfl dX6_feed_30 rfl ?_
    refine dild_6_4 33 dX6_feed_31 rfl ?_
    obtain ⟨m4, h4, h⟩ := bm_some h
    refine cvv_1 36 cw_X6_61 (S_X6_append h4) rfl ⟨by decide, by decide⟩ rfl rfl rfl rfl rfl (Nat.le_of_ble_eq_true rfl) dX6_feed_33 rfl ?_
    refine ald_6_0 37 rfl dX6_feed_36 rfl ?_
    refine dild_6_5 39 dX6_feed_37 rfl ?_
    obtain ⟨m5, h5, h⟩ := bm_some h
    refine cvv_1 42 cw_X6_61 (S_X6_append h5) rfl ⟨by decide, by decide⟩ rfl rfl rfl rfl rfl (Nat.le_of_ble_eq_true rfl) dX6_feed_39 rfl ?_
    refine ald_6_0 43 rfl dX6_feed_42 rfl ?_
    refine dgf_X6_57 46 rfl dX6_feed_43 rfl rfl ?_
    exact dr_i hF rfl dX6_feed_46 h
  · replace h := ifn c h
    refine dt_iconst 14 dX6_feed_13 rfl ?_
    exact dr_i hF rfl dX6_feed_14 h
/-- StampTales.end -/
theorem S_X6_end {G : Cx} {μ : Mi} {x1 : Int} {r : Int} {mm : Mi} (h : D_X6_end x1 μ = some (r, mm)) : Spec yd_X6_end G [rf G 6 false, iv x1] (Em μ) (some (iv r)) (Em mm) := by
  refine Spec.of (by decide) rfl (catL_ok rfl) (Nat.le_of_ble_eq_true rfl) rfl (fun b hF => ?_)
  unfold D_X6_end at h
  refine dild_2_1 1 dX6_end_0 rfl ?_
  refine dt_if_lt 4 12 dX6_end_1 rfl (by decide) rfl (fun c => ?_) (fun c => ?_)
  · replace h := ifp c h
    refine dt_iconst 13 dX6_end_12 rfl ?_
    exact dr_z hF rfl isB_0 dX6_end_13 h
  · replace h := ifn c h
    refine dild_2_1 5 dX6_end_4 rfl ?_
    refine ald_2_0 6 rfl dX6_end_5 rfl ?_
    refine dgf_X6_57 9 rfl dX6_end_6 rfl rfl ?_
    refine dt_icmp_le 12 14 dX6_end_9 rfl (by decide) rfl rfl (fun c => ?_) (fun c => ?_)
    · replace h := ifp c h
      refine ald_2_0 15 rfl dX6_end_14 rfl ?_
      refine dild_2_1 16 dX6_end_15 rfl ?_
      refine dpf_X6_57 19 rfl dX6_end_16 rfl ?_
      refine dt_iconst 20 dX6_end_19 rfl ?_
      exact dr_z hF rfl isB_1 dX6_end_20 h
    · replace h := ifn c h
      refine dt_iconst 13 dX6_end_12 rfl ?_
      exact dr_z hF rfl isB_0 dX6_end_13 h
/-- StampTales.fault -/
theorem S_X6_fault {G : Cx} {μ : Mi} {r : Int} {mm : Mi} (h : D_X6_fault μ = some (r, mm)) : Spec yd_X6_fault G [rf G 6 false] (Em μ) (some (iv r)) (Em mm) := by
  refine Spec.of (by decide) rfl (catL_ok rfl) (Nat.le_of_ble_eq_true rfl) rfl (fun b hF => ?_)
  unfold D_X6_fault at h
  refine ald_1_0 1 rfl dX6_fault_0 rfl ?_
  refine dgf_X6_28 4 rfl dX6_fault_1 rfl ?_
  refine ald_1_0 5 rfl dX6_fault_4 rfl ?_
  refine dgf_X6_57 8 rfl dX6_fault_5 rfl rfl ?_
  obtain ⟨r1, m1, h1, h⟩ := bd_some h
  refine cvi_1 11 cw_X6_65 (S_X3_faultOf h1) rfl ⟨by decide, by decide⟩ rfl rfl rfl rfl rfl (Nat.le_of_ble_eq_true rfl) dX6_fault_8 rfl ?_
  exact dr_i hF rfl dX6_fault_11 h
/-- StampTales.map -/
theorem S_X6_map {G : Cx} {μ : Mi} {r : Int} {mm : Mi} (h : D_X6_map μ = some (r, mm)) : Spec yd_X6_map G [rf G 6 false] (Em μ) (some (iv r)) (Em mm) := by
  refine Spec.of (by decide) rfl (catL_ok rfl) (Nat.le_of_ble_eq_true rfl) rfl (fun b hF => ?_)
  unfold D_X6_map at h
  refine ald_1_0 1 rfl dX6_map_0 rfl ?_
  refine dgf_X6_28 4 rfl dX6_map_1 rfl ?_
  refine ald_1_0 5 rfl dX6_map_4 rfl ?_
  refine dgf_X6_57 8 rfl dX6_map_5 rfl rfl ?_
  obtain ⟨r1, m1, h1, h⟩ := bd_some h
  refine cvi_1 11 cw_X6_65 (S_X3_faultOf h1) rfl ⟨by decide, by decide⟩ rfl rfl rfl rfl rfl (Nat.le_of_ble_eq_true rfl) dX6_map_8 rfl ?_
  refine dt_iconst 12 dX6_map_11 rfl ?_
  refine dt_icmp_eq 15 17 dX6_map_12 rfl (by decide) rfl wk_m1 (fun c => ?_) (fun c => ?_)
  · replace h := ifp c h
    refine ald_1_0 18 rfl dX6_map_17 rfl ?_
    refine dgf_X6_16 21 rfl dX6_map_18 rfl ?_
    refine ald_1_0 22 rfl dX6_map_21 rfl ?_
    refine dgf_X6_20 25 rfl dX6_map_22 rfl ?_
    obtain ⟨m2, h2, h⟩ := bm_some h
    refine cvv_1 28 cw_X6_69 (S_X0_takeOver h2) rfl ⟨by decide, by decide⟩ rfl rfl rfl rfl rfl (Nat.le_of_ble_eq_true rfl) dX6_map_25 rfl ?_
    refine ald_1_0 29 rfl dX6_map_28 rfl ?_
    refine dt_iconst 30 dX6_map_29 rfl ?_
    refine dpf_X6_57 33 rfl dX6_map_30 rfl ?_
    refine ald_1_0 34 rfl dX6_map_33 rfl ?_
    refine dgf_X6_41 37 rfl dX6_map_34 rfl ?_
    refine dgf_X6_72 40 rfl dX6_map_37 rfl ?_
    obtain ⟨m3, h3, h⟩ := bm_some h
    refine cvv_0 43 cw_X6_76 (S_X2_startAnew h3) rfl ⟨by decide, by decide⟩ rfl rfl rfl rfl rfl (Nat.le_of_ble_eq_true rfl) dX6_map_40 rfl ?_
    refine ald_1_0 44 rfl dX6_map_43 rfl ?_
    refine dgf_X6_45 47 rfl dX6_map_44 rfl ?_
    refine dgf_X6_72 50 rfl dX6_map_47 rfl ?_
    obtain ⟨m4, h4, h⟩ := bm_some h
    refine cvv_0 53 cw_X6_76 (S_X2_startAnew h4) rfl ⟨by decide, by decide⟩ rfl rfl rfl rfl rfl (Nat.le_of_ble_eq_true rfl) dX6_map_50 rfl ?_
    refine ald_1_0 54 rfl dX6_map_53 rfl ?_
    refine dgf_X6_53 57 rfl dX6_map_54 rfl ?_
    refine dt_iconst 58 dX6_map_57 rfl ?_
    refine dpf_X6_79 61 rfl dX6_map_58 rfl ?_
    refine ald_1_0 62 rfl dX6_map_61 rfl ?_
    refine dgf_X6_16 65 rfl dX6_map_62 rfl ?_
    refine dgf_X6_82 68 rfl dX6_map_65 rfl (rd_o (by decide)) ?_
    exact dr_i hF rfl dX6_map_68 h
  · replace h := ifn c h
    refine dt_iconst 16 dX6_map_15 rfl ?_
    exact dr_i hF rfl dX6_map_16 h
/-- StampTales.isMan -/
theorem S_X6_isMan {G : Cx} {μ : Mi} (x1 : Int) : Spec yd_X6_isMan G [rf G 6 false, iv x1] (Em μ) (some (iv (D_X6_isMan x1 μ))) (Em μ) := by
  generalize h : D_X6_isMan x1 μ = r
  refine Spec.of (by decide) rfl (catL_ok rfl) (Nat.le_of_ble_eq_true rfl) rfl (fun b hF => ?_)
  unfold D_X6_isMan at h
  refine ald_2_0 1 rfl dX6_isMan_0 rfl ?_
  refine dgf_X6_16 4 rfl dX6_isMan_1 rfl ?_
  refine dgf_X6_82 7 rfl dX6_isMan_4 rfl rfl ?_
  refine dt_if_le 10 23 dX6_isMan_7 rfl (by decide) rfl (fun c => ?_) (fun c => ?_)
  · replace h := ifp c h
    refine dt_iconst 24 dX6_isMan_23 rfl ?_
    exact dr_zt hF rfl isB_0 dX6_isMan_24 h
  · replace h := ifn c h
    refine dild_2_1 11 dX6_isMan_10 rfl ?_
    refine dt_if_eq 14 19 dX6_isMan_11 rfl (by decide) rfl (fun c => ?_) (fun c => ?_)
    · replace h := ifp c h
      refine dt_iconst 20 dX6_isMan_19 rfl ?_
      refine st_goto 24 dX6_isMan_20 (by decide) ?_
      exact dr_zt hF rfl isB_1 dX6_isMan_24 h
    · replace h := ifn c h
      refine dild_2_1 15 dX6_isMan_14 rfl ?_
      refine dt_iconst 16 dX6_isMan_15 rfl ?_
      refine dt_icmp_ne 19 23 dX6_isMan_16 rfl (by decide) rfl wk_1 (fun c => ?_) (fun c => ?_)
      · replace h := ifp c h
        refine dt_iconst 24 dX6_isMan_23 rfl ?_
        exact dr_zt hF rfl isB_0 dX6_isMan_24 h
      · replace h := ifn c h
        refine dt_iconst 20 dX6_isMan_19 rfl ?_
        refine st_goto 24 dX6_isMan_20 (by decide) ?_
        exact dr_zt hF rfl isB_1 dX6_isMan_24 h
/-- StampTales.searchOf -/
theorem S_X6_searchOf {G : Cx} {μ : Mi} (x1 : Int) : Spec yd_X6_searchOf G [rf G 6 false, iv x1] (Em μ) (some (rf G 4 (D_X6_searchOf x1 μ))) (Em μ) := by
  generalize h : D_X6_searchOf x1 μ = r
  refine Spec.of (by decide) rfl (catL_ok rfl) (Nat.le_of_ble_eq_true rfl) rfl (fun b hF => ?_)
  unfold D_X6_searchOf at h
  refine dild_2_1 1 dX6_searchOf_0 rfl ?_
  refine dt_if_ne 4 11 dX6_searchOf_1 rfl (by decide) rfl (fun c => ?_) (fun c => ?_)
  · replace h := ifp c h
    refine ald_2_0 12 rfl dX6_searchOf_11 rfl ?_
    refine dgf_X6_45 15 rfl dX6_searchOf_12 rfl ?_
    exact dr_at hF rfl dX6_searchOf_15 h
  · replace h := ifn c h
    refine ald_2_0 5 rfl dX6_searchOf_4 rfl ?_
    refine dgf_X6_41 8 rfl dX6_searchOf_5 rfl ?_
    refine st_goto 15 dX6_searchOf_8 (by decide) ?_
    exact dr_at hF rfl dX6_searchOf_15 h
/-- StampTales.man -/
theorem S_X6_man {G : Cx} {μ : Mi} {x1 : Int} {x2 : Int} {x3 : Int} {x4 : Int} {r : Int} {mm : Mi} (h : D_X6_man x1 x2 x3 x4 μ = some (r, mm)) : Spec yd_X6_man G [rf G 6 false, iv x1, iv x2, iv x3, iv x4] (Em μ) (some (iv r)) (Em mm) := by
  refine Spec.of (by decide) rfl (catL_ok rfl) (Nat.le_of_ble_eq_true rfl) rfl (fun b hF => ?_)
  unfold D_X6_man at h
  refine ald_5_0 1 rfl dX6_man_0 rfl ?_
  refine dild_5_1 2 dX6_man_1 rfl ?_
  refine cvi_1 5 cw_X6_85 (S_X6_isMan x1) rfl ⟨by decide, by decide⟩ rfl rfl rfl rfl rfl (Nat.le_of_ble_eq_true rfl) dX6_man_2 rfl ?_
  refine dt_if_eq 8 41 dX6_man_5 rfl (by decide) rfl (fun c => ?_) (fun c => ?_)
  · replace h := ifp c h
    refine dt_iconst 42 dX6_man_41 rfl ?_
    exact dr_z hF rfl isB_0 dX6_man_42 h
  · replace h := ifn c h
    refine ald_5_0 9 rfl dX6_man_8 rfl ?_
    refine dgf_X6_16 12 rfl dX6_man_9 rfl ?_
    refine dild_5_2 13 dX6_man_12 rfl ?_
    refine cvi_1 16 cw_X6_89 (S_X0_hasTown false x2) rfl ⟨by decide, by decide⟩ rfl rfl rfl rfl rfl (Nat.le_of_ble_eq_true rfl) dX6_man_13 rfl ?_
    refine dt_if_eq 19 41 dX6_man_16 rfl (by decide) rfl (fun c => ?_) (fun c => ?_)
    · replace h := ifp c h
      refine dt_iconst 42 dX6_man_41 rfl ?_
      exact dr_z hF rfl isB_0 dX6_man_42 h
    · replace h := ifn c h
      refine dild_5_3 20 dX6_man_19 rfl ?_
      refine dt_if_lt 23 41 dX6_man_20 rfl (by decide) rfl (fun c => ?_) (fun c => ?_)
      · replace h := ifp c h
        refine dt_iconst 42 dX6_man_41 rfl ?_
        exact dr_z hF rfl isB_0 dX6_man_42 h
      · replace h := ifn c h
        refine dild_5_3 24 dX6_man_23 rfl ?_
        refine dt_iconst 25 dX6_man_24 rfl ?_
        refine dt_icmp_gt 28 41 dX6_man_25 rfl (by decide) rfl wk_4 (fun c => ?_) (fun c => ?_)
        · replace h := ifp c h
          refine dt_iconst 42 dX6_man_41 rfl ?_
          exact dr_z hF rfl isB_0 dX6_man_42 h
        · replace h := ifn c h
          refine dild_5_4 30 dX6_man_28 rfl ?_
          refine dt_iconst 31 dX6_man_30 rfl ?_
          refine dt_icmp_lt 34 41 dX6_man_31 rfl (by decide) rfl wk_1 (fun c => ?_) (fun c => ?_)
          · replace h := ifp c h
            refine dt_iconst 42 dX6_man_41 rfl ?_
            exact dr_z hF rfl isB_0 dX6_man_42 h
          · replace h := ifn c h
            refine dild_5_4 36 dX6_man_34 rfl ?_
            refine dt_bipush 38 dX6_man_36 bq_96 rfl ?_
            refine dt_icmp_le 41 43 dX6_man_38 rfl (by decide) rfl wk_96 (fun c => ?_) (fun c => ?_)
            · replace h := ifp c h
              refine ald_5_0 44 rfl dX6_man_43 rfl ?_
              refine dild_5_1 45 dX6_man_44 rfl ?_
              refine cvi_1 48 cw_X6_92 (S_X6_searchOf x1) rfl ⟨by decide, by decide⟩ rfl rfl rfl rfl rfl (Nat.le_of_ble_eq_true rfl) dX6_man_45 rfl ?_
              refine dgf_X6_72 51 rfl dX6_man_48 rfl ?_
              refine dild_5_2 52 dX6_man_51 rfl ?_
              refine dild_5_3 53 dX6_man_52 rfl ?_
              refine dild_5_4 55 dX6_man_53 rfl ?_
              obtain ⟨m4, h4, h⟩ := bm_some h
              refine cvv_3 58 cw_X6_96 (S_X2_settle h4) rfl ⟨by decide, by decide⟩ rfl rfl rfl rfl rfl (Nat.le_of_ble_eq_true rfl) dX6_man_55 rfl ?_
              refine dt_iconst 59 dX6_man_58 rfl ?_
              exact dr_z hF rfl isB_1 dX6_man_59 h
            · replace h := ifn c h
              refine dt_iconst 42 dX6_man_41 rfl ?_
              exact dr_z hF rfl isB_0 dX6_man_42 h
/-- StampTales.stamp -/
theorem S_X6_stamp {G : Cx} {μ : Mi} {x1 : Int} {x2 : Int} {x3 : Int} {x4 : Int} {x5 : Int} {r : Int} {mm : Mi} (h : D_X6_stamp x1 x2 x3 x4 x5 μ = some (r, mm)) : Spec yd_X6_stamp G [rf G 6 false, iv x1, iv x2, iv x3, iv x4, iv x5] (Em μ) (some (iv r)) (Em mm) := by
  refine Spec.of (by decide) rfl (catL_ok rfl) (Nat.le_of_ble_eq_true rfl) rfl (fun b hF => ?_)
  unfold D_X6_stamp at h
  refine ald_8_0 1 rfl dX6_stamp_0 rfl ?_
  refine dild_8_1 2 dX6_stamp_1 rfl ?_
  refine cvi_1 5 cw_X6_85 (S_X6_isMan x1) rfl ⟨by decide, by decide⟩ rfl rfl rfl rfl rfl (Nat.le_of_ble_eq_true rfl) dX6_stamp_2 rfl ?_
  refine dt_if_eq 8 38 dX6_stamp_5 rfl (by decide) rfl (fun c => ?_) (fun c => ?_)
  · replace h := ifp c h
    refine dt_iconst 39 dX6_stamp_38 rfl ?_
    exact dr_i hF rfl dX6_stamp_39 h
  · replace h := ifn c h
    refine ald_8_0 9 rfl dX6_stamp_8 rfl ?_
    refine dgf_X6_16 12 rfl dX6_stamp_9 rfl ?_
    refine dild_8_2 13 dX6_stamp_12 rfl ?_
    refine cvi_1 16 cw_X6_100 (S_X0_hasLand false x2) rfl ⟨by decide, by decide⟩ rfl rfl rfl rfl rfl (Nat.le_of_ble_eq_true rfl) dX6_stamp_13 rfl ?_
    refine dt_if_eq 19 38 dX6_stamp_16 rfl (by decide) rfl (fun c => ?_) (fun c => ?_)
    · replace h := ifp c h
      refine dt_iconst 39 dX6_stamp_38 rfl ?_
      exact dr_i hF rfl dX6_stamp_39 h
    · replace h := ifn c h
      refine dild_8_4 21 dX6_stamp_19 rfl ?_
      refine dt_iconst 22 dX6_stamp_21 rfl ?_
      refine dt_icmp_lt 25 38 dX6_stamp_22 rfl (by decide) rfl wk_m1 (fun c => ?_) (fun c => ?_)
      · replace h := ifp c h
        refine dt_iconst 39 dX6_stamp_38 rfl ?_
        exact dr_i hF rfl dX6_stamp_39 h
      · replace h := ifn c h
        refine dild_8_5 27 dX6_stamp_25 rfl ?_
        refine dild_8_4 29 dX6_stamp_27 rfl ?_
        refine dt_icmp_lt 32 38 dX6_stamp_29 rfl (by decide) rfl rfl (fun c => ?_) (fun c => ?_)
        · replace h := ifp c h
          refine dt_iconst 39 dX6_stamp_38 rfl ?_
          exact dr_i hF rfl dX6_stamp_39 h
        · replace h := ifn c h
          refine dild_8_5 34 dX6_stamp_32 rfl ?_
          refine dt_iconst 35 dX6_stamp_34 rfl ?_
          refine dt_icmp_le 38 40 dX6_stamp_35 rfl (by decide) rfl wk_5 (fun c => ?_) (fun c => ?_)
          · replace h := ifp c h
            refine ald_8_0 41 rfl dX6_stamp_40 rfl ?_
            refine dild_8_1 42 dX6_stamp_41 rfl ?_
            refine cvi_1 45 cw_X6_92 (S_X6_searchOf x1) rfl ⟨by decide, by decide⟩ rfl rfl rfl rfl rfl (Nat.le_of_ble_eq_true rfl) dX6_stamp_42 rfl ?_
            refine dgf_X6_72 48 rfl dX6_stamp_45 rfl ?_
            refine ast_8_6 50 rfl dX6_stamp_48 rfl rfl rfl ?_
            refine ald_8_6 52 rfl dX6_stamp_50 rfl ?_
            refine dt_iconst 53 dX6_stamp_52 rfl ?_
            refine dild_8_2 54 dX6_stamp_53 rfl ?_
            refine dild_8_4 56 dX6_stamp_54 rfl ?_
            refine dild_8_5 58 dX6_stamp_56 rfl ?_
            obtain ⟨r4, m4, h4, h⟩ := bd_some h
            refine cvi_4 61 cw_X6_103 (S_X2_add h4) rfl ⟨by decide, by decide⟩ rfl rfl rfl rfl rfl (Nat.le_of_ble_eq_true rfl) dX6_stamp_58 rfl ?_
            refine dist_8_7 63 dX6_stamp_61 rfl rfl rfl ?_
            refine dild_8_7 65 dX6_stamp_63 rfl ?_
            refine dt_if_lt 68 77 dX6_stamp_65 rfl (by decide) rfl (fun c => ?_) (fun c => ?_)
            · replace h := ifp c h
              refine dild_8_7 79 dX6_stamp_77 rfl ?_
              exact dr_i hF rfl dX6_stamp_79 h
            · replace h := ifn c h
              refine ald_8_6 70 rfl dX6_stamp_68 rfl ?_
              refine dgf_X6_107 73 rfl dX6_stamp_70 rfl ?_
              refine dild_8_7 75 dX6_stamp_73 rfl ?_
              refine dild_8_3 76 dX6_stamp_75 rfl ?_
              obtain ⟨hi, h⟩ := ift h
              obtain ⟨hb, h⟩ := ift h
              refine dzast 77 rfl rfl rfl hi rfl hb dX6_stamp_76 rfl ?_
              refine dild_8_7 79 dX6_stamp_77 rfl ?_
              exact dr_i hF rfl dX6_stamp_79 h
          · replace h := ifn c h
            refine dt_iconst 39 dX6_stamp_38 rfl ?_
            exact dr_i hF rfl dX6_stamp_39 h
/-- StampTales.isHour -/
theorem S_X6_isHour {G : Cx} {μ : Mi} (x0 : Int) : Spec yd_X6_isHour G [iv x0] (Em μ) (some (iv (D_X6_isHour x0))) (Em μ) := by
  generalize h : D_X6_isHour x0 = r
  refine Spec.of (by decide) rfl (catL_ok rfl) (Nat.le_of_ble_eq_true rfl) rfl (fun b hF => ?_)
  unfold D_X6_isHour at h
  refine dild_1_0 1 dX6_isHour_0 rfl ?_
  refine dt_if_lt 4 14 dX6_isHour_1 rfl (by decide) rfl (fun c => ?_) (fun c => ?_)
  · replace h := ifp c h
    refine dt_iconst 15 dX6_isHour_14 rfl ?_
    exact dr_zt hF rfl isB_0 dX6_isHour_15 h
  · replace h := ifn c h
    refine dild_1_0 5 dX6_isHour_4 rfl ?_
    refine dt_bipush 7 dX6_isHour_5 bq_96 rfl ?_
    refine dt_icmp_gt 10 14 dX6_isHour_7 rfl (by decide) rfl wk_96 (fun c => ?_) (fun c => ?_)
    · replace h := ifp c h
      refine dt_iconst 15 dX6_isHour_14 rfl ?_
      exact dr_zt hF rfl isB_0 dX6_isHour_15 h
    · replace h := ifn c h
      refine dt_iconst 11 dX6_isHour_10 rfl ?_
      refine st_goto 15 dX6_isHour_11 (by decide) ?_
      exact dr_zt hF rfl isB_1 dX6_isHour_15 h
/-- StampTales.paper -/
theorem S_X6_paper {G : Cx} {μ : Mi} {x1 : Int} {x2 : Int} {x3 : Int} {r : Int} {mm : Mi} (h : D_X6_paper x1 x2 x3 μ = some (r, mm)) : Spec yd_X6_paper G [rf G 6 false, iv x1, iv x2, iv x3] (Em μ) (some (iv r)) (Em mm) := by
  refine Spec.of (by decide) rfl (catL_ok rfl) (Nat.le_of_ble_eq_true rfl) rfl (fun b hF => ?_)
  unfold D_X6_paper at h
  refine ald_4_0 1 rfl dX6_paper_0 rfl ?_
  refine dild_4_1 2 dX6_paper_1 rfl ?_
  refine cvi_1 5 cw_X6_85 (S_X6_isMan x1) rfl ⟨by decide, by decide⟩ rfl rfl rfl rfl rfl (Nat.le_of_ble_eq_true rfl) dX6_paper_2 rfl ?_
  refine dt_if_eq 8 26 dX6_paper_5 rfl (by decide) rfl (fun c => ?_) (fun c => ?_)
  · replace h := ifp c h
    refine dt_iconst 27 dX6_paper_26 rfl ?_
    exact dr_i hF rfl dX6_paper_27 h
  · replace h := ifn c h
    refine ald_4_0 9 rfl dX6_paper_8 rfl ?_
    refine dgf_X6_16 12 rfl dX6_paper_9 rfl ?_
    refine dild_4_2 13 dX6_paper_12 rfl ?_
    refine cvi_1 16 cw_X6_89 (S_X0_hasTown false x2) rfl ⟨by decide, by decide⟩ rfl rfl rfl rfl rfl (Nat.le_of_ble_eq_true rfl) dX6_paper_13 rfl ?_
    refine dt_if_eq 19 26 dX6_paper_16 rfl (by decide) rfl (fun c => ?_) (fun c => ?_)
    · replace h := ifp c h
      refine dt_iconst 27 dX6_paper_26 rfl ?_
      exact dr_i hF rfl dX6_paper_27 h
    · replace h := ifn c h
      refine dild_4_3 20 dX6_paper_19 rfl ?_
      refine csi_1 23 cw_X6_111 (S_X6_isHour x3) rfl ⟨by decide, by decide⟩ (Nat.le_of_ble_eq_true rfl) dX6_paper_20 rfl ?_
      refine dt_if_ne 26 28 dX6_paper_23 rfl (by decide) rfl (fun c => ?_) (fun c => ?_)
      · replace h := ifp c h
        refine ald_4_0 29 rfl dX6_paper_28 rfl ?_
        refine dild_4_1 30 dX6_paper_29 rfl ?_
        refine cvi_1 33 cw_X6_92 (S_X6_searchOf x1) rfl ⟨by decide, by decide⟩ rfl rfl rfl rfl rfl (Nat.le_of_ble_eq_true rfl) dX6_paper_30 rfl ?_
        refine dgf_X6_72 36 rfl dX6_paper_33 rfl ?_
        refine dt_iconst 37 dX6_paper_36 rfl ?_
        refine dild_4_2 38 dX6_paper_37 rfl ?_
        refine dild_4_3 39 dX6_paper_38 rfl ?_
        refine dild_4_3 40 dX6_paper_39 rfl ?_
        obtain ⟨r5, m5, h5, h⟩ := bd_some h
        refine cvi_4 43 cw_X6_103 (S_X2_add h5) rfl ⟨by decide, by decide⟩ rfl rfl rfl rfl rfl (Nat.le_of_ble_eq_true rfl) dX6_paper_40 rfl ?_
        exact dr_i hF rfl dX6_paper_43 h
      · replace h := ifn c h
        refine dt_iconst 27 dX6_paper_26 rfl ?_
        exact dr_i hF rfl dX6_paper_27 h
/-- StampTales.look -/
theorem S_X6_look {G : Cx} {μ : Mi} {x1 : Int} {x2 : Int} {x3 : Int} {x4 : Int} {r : Int} {mm : Mi} (h : D_X6_look x1 x2 x3 x4 μ = some (r, mm)) : Spec yd_X6_look G [rf G 6 false, iv x1, iv x2, iv x3, iv x4] (Em μ) (some (iv r)) (Em mm) := by
  refine Spec.of (by decide) rfl (catL_ok rfl) (Nat.le_of_ble_eq_true rfl) rfl (fun b hF => ?_)
  unfold D_X6_look at h
  refine ald_5_0 1 rfl dX6_look_0 rfl ?_
  refine dild_5_1 2 dX6_look_1 rfl ?_
  refine cvi_1 5 cw_X6_85 (S_X6_isMan x1) rfl ⟨by decide, by decide⟩ rfl rfl rfl rfl rfl (Nat.le_of_ble_eq_true rfl) dX6_look_2 rfl ?_
  refine dt_if_eq 8 40 dX6_look_5 rfl (by decide) rfl (fun c => ?_) (fun c => ?_)
  · replace h := ifp c h
    refine dt_iconst 41 dX6_look_40 rfl ?_
    exact dr_i hF rfl dX6_look_41 h
  · replace h := ifn c h
    refine ald_5_0 9 rfl dX6_look_8 rfl ?_
    refine dgf_X6_16 12 rfl dX6_look_9 rfl ?_
    refine dild_5_2 13 dX6_look_12 rfl ?_
    refine cvi_1 16 cw_X6_89 (S_X0_hasTown false x2) rfl ⟨by decide, by decide⟩ rfl rfl rfl rfl rfl (Nat.le_of_ble_eq_true rfl) dX6_look_13 rfl ?_
    refine dt_if_eq 19 40 dX6_look_16 rfl (by decide) rfl (fun c => ?_) (fun c => ?_)
    · replace h := ifp c h
      refine dt_iconst 41 dX6_look_40 rfl ?_
      exact dr_i hF rfl dX6_look_41 h
    · replace h := ifn c h
      refine dild_5_3 20 dX6_look_19 rfl ?_
      refine csi_1 23 cw_X6_111 (S_X6_isHour x3) rfl ⟨by decide, by decide⟩ (Nat.le_of_ble_eq_true rfl) dX6_look_20 rfl ?_
      refine dt_if_eq 26 40 dX6_look_23 rfl (by decide) rfl (fun c => ?_) (fun c => ?_)
      · replace h := ifp c h
        refine dt_iconst 41 dX6_look_40 rfl ?_
        exact dr_i hF rfl dX6_look_41 h
      · replace h := ifn c h
        refine dild_5_4 28 dX6_look_26 rfl ?_
        refine csi_1 31 cw_X6_111 (S_X6_isHour x4) rfl ⟨by decide, by decide⟩ (Nat.le_of_ble_eq_true rfl) dX6_look_28 rfl ?_
        refine dt_if_eq 34 40 dX6_look_31 rfl (by decide) rfl (fun c => ?_) (fun c => ?_)
        · replace h := ifp c h
          refine dt_iconst 41 dX6_look_40 rfl ?_
          exact dr_i hF rfl dX6_look_41 h
        · replace h := ifn c h
          refine dild_5_4 36 dX6_look_34 rfl ?_
          refine dild_5_3 37 dX6_look_36 rfl ?_
          refine dt_icmp_ge 40 42 dX6_look_37 rfl (by decide) rfl rfl (fun c => ?_) (fun c => ?_)
          · replace h := ifp c h
            refine ald_5_0 43 rfl dX6_look_42 rfl ?_
            refine dild_5_1 44 dX6_look_43 rfl ?_
            refine cvi_1 47 cw_X6_92 (S_X6_searchOf x1) rfl ⟨by decide, by decide⟩ rfl rfl rfl rfl rfl (Nat.le_of_ble_eq_true rfl) dX6_look_44 rfl ?_
            refine dgf_X6_72 50 rfl dX6_look_47 rfl ?_
            refine dt_iconst 51 dX6_look_50 rfl ?_
            refine dild_5_2 52 dX6_look_51 rfl ?_
            refine dild_5_3 53 dX6_look_52 rfl ?_
            refine dild_5_4 55 dX6_look_53 rfl ?_
            obtain ⟨r6, m6, h6, h⟩ := bd_some h
            refine cvi_4 58 cw_X6_103 (S_X2_add h6) rfl ⟨by decide, by decide⟩ rfl rfl rfl rfl rfl (Nat.le_of_ble_eq_true rfl) dX6_look_55 rfl ?_
            exact dr_i hF rfl dX6_look_58 h
          · replace h := ifn c h
            refine dt_iconst 41 dX6_look_40 rfl ?_
            exact dr_i hF rfl dX6_look_41 h
/-- StampTales.doubt -/
theorem S_X6_doubt {G : Cx} {μ : Mi} {x1 : Int} {x2 : Int} {x3 : Int} {r : Int} {mm : Mi} (h : D_X6_doubt x1 x2 x3 μ = some (r, mm)) : Spec yd_X6_doubt G [rf G 6 false, iv x1, iv x2, iv x3] (Em μ) (some (iv r)) (Em mm) := by
  refine Spec.of (by decide) rfl (catL_ok rfl) (Nat.le_of_ble_eq_true rfl) rfl (fun b hF => ?_)
  unfold D_X6_doubt at h
  refine ald_4_0 1 rfl dX6_doubt_0 rfl ?_
  refine dild_4_1 2 dX6_doubt_1 rfl ?_
  refine cvi_1 5 cw_X6_85 (S_X6_isMan x1) rfl ⟨by decide, by decide⟩ rfl rfl rfl rfl rfl (Nat.le_of_ble_eq_true rfl) dX6_doubt_2 rfl ?_
  refine dt_if_eq 8 28 dX6_doubt_5 rfl (by decide) rfl (fun c => ?_) (fun c => ?_)
  · replace h := ifp c h
    refine dt_iconst 29 dX6_doubt_28 rfl ?_
    exact dr_z hF rfl isB_0 dX6_doubt_29 h
  · replace h := ifn c h
    refine ald_4_0 9 rfl dX6_doubt_8 rfl ?_
    refine dild_4_1 10 dX6_doubt_9 rfl ?_
    refine cvi_1 13 cw_X6_92 (S_X6_searchOf x1) rfl ⟨by decide, by decide⟩ rfl rfl rfl rfl rfl (Nat.le_of_ble_eq_true rfl) dX6_doubt_10 rfl ?_
    refine dgf_X6_72 16 rfl dX6_doubt_13 rfl ?_
    refine dild_4_2 17 dX6_doubt_16 rfl ?_
    refine dild_4_3 18 dX6_doubt_17 rfl ?_
    obtain ⟨r3, m3, h3, h⟩ := bd_some h
    refine cvi_2 21 cw_X6_114 (S_X2_setDoubted h3) rfl ⟨by decide, by decide⟩ rfl rfl rfl rfl rfl (Nat.le_of_ble_eq_true rfl) dX6_doubt_18 rfl ?_
    refine dt_if_eq 24 28 dX6_doubt_21 rfl (by decide) rfl (fun c => ?_) (fun c => ?_)
    · replace h := ifp c h
      refine dt_iconst 29 dX6_doubt_28 rfl ?_
      exact dr_z hF rfl isB_0 dX6_doubt_29 h
    · replace h := ifn c h
      refine dt_iconst 25 dX6_doubt_24 rfl ?_
      refine st_goto 29 dX6_doubt_25 (by decide) ?_
      exact dr_z hF rfl isB_1 dX6_doubt_29 h
/-- StampTales.undo -/
theorem S_X6_undo {G : Cx} {μ : Mi} {x1 : Int} {r : Int} {mm : Mi} (h : D_X6_undo x1 μ = some (r, mm)) : Spec yd_X6_undo G [rf G 6 false, iv x1] (Em μ) (some (iv r)) (Em mm) := by
  refine Spec.of (by decide) rfl (catL_ok rfl) (Nat.le_of_ble_eq_true rfl) rfl (fun b hF => ?_)
  unfold D_X6_undo at h
  refine ald_2_0 1 rfl dX6_undo_0 rfl ?_
  refine dild_2_1 2 dX6_undo_1 rfl ?_
  refine cvi_1 5 cw_X6_85 (S_X6_isMan x1) rfl ⟨by decide, by decide⟩ rfl rfl rfl rfl rfl (Nat.le_of_ble_eq_true rfl) dX6_undo_2 rfl ?_
  refine dt_if_eq 8 22 dX6_undo_5 rfl (by decide) rfl (fun c => ?_) (fun c => ?_)
  · replace h := ifp c h
    refine dt_iconst 23 dX6_undo_22 rfl ?_
    exact dr_i hF rfl dX6_undo_23 h
  · replace h := ifn c h
    refine ald_2_0 9 rfl dX6_undo_8 rfl ?_
    refine dild_2_1 10 dX6_undo_9 rfl ?_
    refine cvi_1 13 cw_X6_92 (S_X6_searchOf x1) rfl ⟨by decide, by decide⟩ rfl rfl rfl rfl rfl (Nat.le_of_ble_eq_true rfl) dX6_undo_10 rfl ?_
    refine dgf_X6_72 16 rfl dX6_undo_13 rfl ?_
    obtain ⟨r3, m3, h3, h⟩ := bd_some h
    refine cvi_0 19 cw_X6_118 (S_X2_dropLast h3) rfl ⟨by decide, by decide⟩ rfl rfl rfl rfl rfl (Nat.le_of_ble_eq_true rfl) dX6_undo_16 rfl ?_
    refine st_goto 23 dX6_undo_19 (by decide) ?_
    exact dr_i hF rfl dX6_undo_23 h
/-- StampTales.link -/
theorem S_X6_link {G : Cx} {μ : Mi} {x1 : Int} {x2 : Int} {r : Int} (h : D_X6_link x1 x2 μ = some r) : Spec yd_X6_link G [rf G 6 false, iv x1, iv x2] (Em μ) (some (iv r)) (Em μ) := by
  refine Spec.of (by decide) rfl (catL_ok rfl) (Nat.le_of_ble_eq_true rfl) rfl (fun b hF => ?_)
  unfold D_X6_link at h
  refine ald_3_0 1 rfl dX6_link_0 rfl ?_
  refine dgf_X6_16 4 rfl dX6_link_1 rfl ?_
  refine dild_3_1 5 dX6_link_4 rfl ?_
  refine cvi_1 8 cw_X6_122 (S_X0_hasLink false x1) rfl ⟨by decide, by decide⟩ rfl rfl rfl rfl rfl (Nat.le_of_ble_eq_true rfl) dX6_link_5 rfl ?_
  refine dt_if_ne 11 13 dX6_link_8 rfl (by decide) rfl (fun c => ?_) (fun c => ?_)
  · replace h := ifp c h
    refine dild_3_2 14 dX6_link_13 rfl ?_
    by_cases c0 : (w32 x2) = 0
    · replace h := ifp c0 h
      refine dt_tableIn 52 dX6_link_14 c0 wk_0 rfl (by decide) (by decide) rfl (by decide) ?_
      refine ald_3_0 53 rfl dX6_link_52 rfl ?_
      refine dgf_X6_16 56 rfl dX6_link_53 rfl ?_
      refine dgf_X6_125 59 rfl dX6_link_56 rfl ?_
      refine dild_3_1 60 dX6_link_59 rfl ?_
      obtain ⟨hi, h⟩ := ift h
      refine diald 61 rfl rfl rfl hi rfl rfl dX6_link_60 rfl ?_
      exact dr_ip hF rfl dX6_link_61 h
    replace h := ifn c0 h
    by_cases c1 : (w32 x2) = 1
    · replace h := ifp c1 h
      refine dt_tableIn 62 dX6_link_14 c1 wk_1 rfl (by decide) (by decide) rfl (by decide) ?_
      refine ald_3_0 63 rfl dX6_link_62 rfl ?_
      refine dgf_X6_16 66 rfl dX6_link_63 rfl ?_
      refine dgf_X6_129 69 rfl dX6_link_66 rfl ?_
      refine dild_3_1 70 dX6_link_69 rfl ?_
      obtain ⟨hi, h⟩ := ift h
      refine diald 71 rfl rfl rfl hi rfl rfl dX6_link_70 rfl ?_
      exact dr_ip hF rfl dX6_link_71 h
    replace h := ifn c1 h
    by_cases c2 : (w32 x2) = 2
    · replace h := ifp c2 h
      refine dt_tableIn 72 dX6_link_14 c2 wk_2 rfl (by decide) (by decide) rfl (by decide) ?_
      refine ald_3_0 73 rfl dX6_link_72 rfl ?_
      refine dgf_X6_16 76 rfl dX6_link_73 rfl ?_
      refine dgf_X6_132 79 rfl dX6_link_76 rfl ?_
      refine dild_3_1 80 dX6_link_79 rfl ?_
      obtain ⟨hi, h⟩ := ift h
      refine diald 81 rfl rfl rfl hi rfl rfl dX6_link_80 rfl ?_
      exact dr_ip hF rfl dX6_link_81 h
    replace h := ifn c2 h
    by_cases c3 : (w32 x2) = 3
    · replace h := ifp c3 h
      refine dt_tableIn 82 dX6_link_14 c3 wk_3 rfl (by decide) (by decide) rfl (by decide) ?_
      refine ald_3_0 83 rfl dX6_link_82 rfl ?_
      refine dgf_X6_16 86 rfl dX6_link_83 rfl ?_
      refine dgf_X6_135 89 rfl dX6_link_86 rfl ?_
      refine dild_3_1 90 dX6_link_89 rfl ?_
      obtain ⟨hi, h⟩ := ift h
      refine diald 91 rfl rfl rfl hi rfl rfl dX6_link_90 rfl ?_
      exact dr_ip hF rfl dX6_link_91 h
    replace h := ifn c3 h
    by_cases c4 : (w32 x2) = 4
    · replace h := ifp c4 h
      refine dt_tableIn 92 dX6_link_14 c4 wk_4 rfl (by decide) (by decide) rfl (by decide) ?_
      refine ald_3_0 93 rfl dX6_link_92 rfl ?_
      refine dgf_X6_16 96 rfl dX6_link_93 rfl ?_
      refine dgf_X6_138 99 rfl dX6_link_96 rfl ?_
      refine dild_3_1 100 dX6_link_99 rfl ?_
      obtain ⟨hi, h⟩ := ift h
      refine diald 101 rfl rfl rfl hi rfl rfl dX6_link_100 rfl ?_
      exact dr_ip hF rfl dX6_link_101 h
    replace h := ifn c4 h
    by_cases c5 : (w32 x2) = 5
    · replace h := ifp c5 h
      refine dt_tableIn 102 dX6_link_14 c5 wk_5 rfl (by decide) (by decide) rfl (by decide) ?_
      refine ald_3_0 103 rfl dX6_link_102 rfl ?_
      refine dgf_X6_16 106 rfl dX6_link_103 rfl ?_
      refine dgf_X6_141 109 rfl dX6_link_106 rfl ?_
      refine dild_3_1 110 dX6_link_109 rfl ?_
      obtain ⟨hi, h⟩ := ift h
      refine dzald 111 rfl rfl rfl hi rfl rfl dX6_link_110 rfl ?_
      refine dt_if_eq 114 118 dX6_link_111 rfl (by decide) rfl (fun c => ?_) (fun c => ?_)
      · replace h := ifp c h
        refine dt_iconst 119 dX6_link_118 rfl ?_
        exact dr_ip hF rfl dX6_link_119 h
      · replace h := ifn c h
        refine dt_iconst 115 dX6_link_114 rfl ?_
        refine st_goto 119 dX6_link_115 (by decide) ?_
        exact dr_ip hF rfl dX6_link_119 h
    replace h := ifn c5 h
    refine dt_tableOut 120 dX6_link_14 (by omega) (by decide) ?_
    refine dt_iconst 121 dX6_link_120 rfl ?_
    exact dr_ip hF rfl dX6_link_121 h
  · replace h := ifn c h
    refine dt_iconst 12 dX6_link_11 rfl ?_
    exact dr_ip hF rfl dX6_link_12 h
/-- StampTales.town -/
theorem S_X6_town {G : Cx} {μ : Mi} {x1 : Int} {x2 : Int} {r : Int} (h : D_X6_town x1 x2 μ = some r) : Spec yd_X6_town G [rf G 6 false, iv x1, iv x2] (Em μ) (some (iv r)) (Em μ) := by
  refine Spec.of (by decide) rfl (catL_ok rfl) (Nat.le_of_ble_eq_true rfl) rfl (fun b hF => ?_)
  unfold D_X6_town at h
  refine ald_3_0 1 rfl dX6_town_0 rfl ?_
  refine dgf_X6_16 4 rfl dX6_town_1 rfl ?_
  refine dild_3_1 5 dX6_town_4 rfl ?_
  refine cvi_1 8 cw_X6_89 (S_X0_hasTown false x1) rfl ⟨by decide, by decide⟩ rfl rfl rfl rfl rfl (Nat.le_of_ble_eq_true rfl) dX6_town_5 rfl ?_
  refine dt_if_ne 11 14 dX6_town_8 rfl (by decide) rfl (fun c => ?_) (fun c => ?_)
  · replace h := ifp c h
    refine dild_3_2 15 dX6_town_14 rfl ?_
    by_cases c0 : (w32 x2) = 0
    · replace h := ifp c0 h
      refine dt_lookIn 40 dX6_town_15 c0 wk_0 rfl (by decide) rfl (by decide) ?_
      refine ald_3_0 41 rfl dX6_town_40 rfl ?_
      refine dgf_X6_16 44 rfl dX6_town_41 rfl ?_
      refine dgf_X6_144 47 rfl dX6_town_44 rfl ?_
      refine dild_3_1 48 dX6_town_47 rfl ?_
      obtain ⟨hi, h⟩ := ift h
      refine diald 49 rfl rfl rfl hi rfl rfl dX6_town_48 rfl ?_
      exact dr_ip hF rfl dX6_town_49 h
    replace h := ifn c0 h
    by_cases c1 : (w32 x2) = 1
    · replace h := ifp c1 h
      refine dt_lookIn 50 dX6_town_15 c1 wk_1 rfl (by decide) rfl (by decide) ?_
      refine ald_3_0 51 rfl dX6_town_50 rfl ?_
      refine dgf_X6_16 54 rfl dX6_town_51 rfl ?_
      refine dgf_X6_147 57 rfl dX6_town_54 rfl ?_
      refine dild_3_1 58 dX6_town_57 rfl ?_
      obtain ⟨hi, h⟩ := ift h
      refine diald 59 rfl rfl rfl hi rfl rfl dX6_town_58 rfl ?_
      exact dr_ip hF rfl dX6_town_59 h
    replace h := ifn c1 h
    refine dt_lookOut 60 dX6_town_15 (by decide) (by simp [Op.lookupswitch.offset, Ne.symm c0, Ne.symm c1]) (by decide) ?_
    refine dt_bipush 62 dX6_town_60 bq_m99 rfl ?_
    exact dr_ip hF rfl dX6_town_62 h
  · replace h := ifn c h
    refine dt_bipush 13 dX6_town_11 bq_m99 rfl ?_
    exact dr_ip hF rfl dX6_town_13 h
/-- StampTales.trace -/
theorem S_X6_trace {G : Cx} {μ : Mi} {x1 : Int} {x2 : Int} {x3 : Int} {r : Int} (h : D_X6_trace x1 x2 x3 μ = some r) : Spec yd_X6_trace G [rf G 6 false, iv x1, iv x2, iv x3] (Em μ) (some (iv r)) (Em μ) := by
  refine Spec.of (by decide) rfl (catL_ok rfl) (Nat.le_of_ble_eq_true rfl) rfl (fun b hF => ?_)
  unfold D_X6_trace at h
  refine ald_5_0 1 rfl dX6_trace_0 rfl ?_
  refine dild_5_1 2 dX6_trace_1 rfl ?_
  refine cvi_1 5 cw_X6_85 (S_X6_isMan x1) rfl ⟨by decide, by decide⟩ rfl rfl rfl rfl rfl (Nat.le_of_ble_eq_true rfl) dX6_trace_2 rfl ?_
  refine dt_if_eq 8 23 dX6_trace_5 rfl (by decide) rfl (fun c => ?_) (fun c => ?_)
  · replace h := ifp c h
    refine dt_bipush 25 dX6_trace_23 bq_m99 rfl ?_
    exact dr_ip hF rfl dX6_trace_25 h
  · replace h := ifn c h
    refine ald_5_0 9 rfl dX6_trace_8 rfl ?_
    refine dild_5_1 10 dX6_trace_9 rfl ?_
    refine cvi_1 13 cw_X6_92 (S_X6_searchOf x1) rfl ⟨by decide, by decide⟩ rfl rfl rfl rfl rfl (Nat.le_of_ble_eq_true rfl) dX6_trace_10 rfl ?_
    refine dgf_X6_72 16 rfl dX6_trace_13 rfl ?_
    refine dild_5_2 17 dX6_trace_16 rfl ?_
    refine cvi_1 20 cw_X6_150 (S_X2_has (D_X6_searchOf x1 μ) x2) rfl ⟨by decide, by decide⟩ rfl rfl rfl rfl rfl (Nat.le_of_ble_eq_true rfl) dX6_trace_17 rfl ?_
    refine dt_if_ne 23 26 dX6_trace_20 rfl (by decide) rfl (fun c => ?_) (fun c => ?_)
    · replace h := ifp c h
      refine ald_5_0 27 rfl dX6_trace_26 rfl ?_
      refine dild_5_1 28 dX6_trace_27 rfl ?_
      refine cvi_1 31 cw_X6_92 (S_X6_searchOf x1) rfl ⟨by decide, by decide⟩ rfl rfl rfl rfl rfl (Nat.le_of_ble_eq_true rfl) dX6_trace_28 rfl ?_
      refine dgf_X6_72 34 rfl dX6_trace_31 rfl ?_
      refine ast_5_4 36 rfl dX6_trace_34 rfl rfl rfl ?_
      refine dild_5_3 37 dX6_trace_36 rfl ?_
      by_cases c0 : (w32 x3) = 0
      · replace h := ifp c0 h
        refine dt_tableIn 76 dX6_trace_37 c0 wk_0 rfl (by decide) (by decide) rfl (by decide) ?_
        refine ald_5_4 78 rfl dX6_trace_76 rfl ?_
        refine dgf_X6_153 81 rfl dX6_trace_78 rfl ?_
        refine dild_5_2 82 dX6_trace_81 rfl ?_
        obtain ⟨hi, h⟩ := ift h
        refine diald 83 rfl rfl rfl hi rfl rfl dX6_trace_82 rfl ?_
        exact dr_ip hF rfl dX6_trace_83 h
      replace h := ifn c0 h
      by_cases c1 : (w32 x3) = 1
      · replace h := ifp c1 h
        refine dt_tableIn 84 dX6_trace_37 c1 wk_1 rfl (by decide) (by decide) rfl (by decide) ?_
        refine ald_5_4 86 rfl dX6_trace_84 rfl ?_
        refine dgf_X6_156 89 rfl dX6_trace_86 rfl ?_
        refine dild_5_2 90 dX6_trace_89 rfl ?_
        obtain ⟨hi, h⟩ := ift h
        refine diald 91 rfl rfl rfl hi rfl rfl dX6_trace_90 rfl ?_
        exact dr_ip hF rfl dX6_trace_91 h
      replace h := ifn c1 h
      by_cases c2 : (w32 x3) = 2
      · replace h := ifp c2 h
        refine dt_tableIn 92 dX6_trace_37 c2 wk_2 rfl (by decide) (by decide) rfl (by decide) ?_
        refine ald_5_4 94 rfl dX6_trace_92 rfl ?_
        refine dgf_X6_159 97 rfl dX6_trace_94 rfl ?_
        refine dild_5_2 98 dX6_trace_97 rfl ?_
        obtain ⟨hi, h⟩ := ift h
        refine diald 99 rfl rfl rfl hi rfl rfl dX6_trace_98 rfl ?_
        exact dr_ip hF rfl dX6_trace_99 h
      replace h := ifn c2 h
      by_cases c3 : (w32 x3) = 3
      · replace h := ifp c3 h
        refine dt_tableIn 100 dX6_trace_37 c3 wk_3 rfl (by decide) (by decide) rfl (by decide) ?_
        refine ald_5_4 102 rfl dX6_trace_100 rfl ?_
        refine dgf_X6_160 105 rfl dX6_trace_102 rfl ?_
        refine dild_5_2 106 dX6_trace_105 rfl ?_
        obtain ⟨hi, h⟩ := ift h
        refine diald 107 rfl rfl rfl hi rfl rfl dX6_trace_106 rfl ?_
        exact dr_ip hF rfl dX6_trace_107 h
      replace h := ifn c3 h
      by_cases c4 : (w32 x3) = 4
      · replace h := ifp c4 h
        refine dt_tableIn 108 dX6_trace_37 c4 wk_4 rfl (by decide) (by decide) rfl (by decide) ?_
        refine ald_5_4 110 rfl dX6_trace_108 rfl ?_
        refine dgf_X6_107 113 rfl dX6_trace_110 rfl ?_
        refine dild_5_2 114 dX6_trace_113 rfl ?_
        obtain ⟨hi, h⟩ := ift h
        refine dzald 115 rfl rfl rfl hi rfl rfl dX6_trace_114 rfl ?_
        refine dt_if_eq 118 122 dX6_trace_115 rfl (by decide) rfl (fun c => ?_) (fun c => ?_)
        · replace h := ifp c h
          refine dt_iconst 123 dX6_trace_122 rfl ?_
          exact dr_ip hF rfl dX6_trace_123 h
        · replace h := ifn c h
          refine dt_iconst 119 dX6_trace_118 rfl ?_
          refine st_goto 123 dX6_trace_119 (by decide) ?_
          exact dr_ip hF rfl dX6_trace_123 h
      replace h := ifn c4 h
      by_cases c5 : (w32 x3) = 5
      · replace h := ifp c5 h
        refine dt_tableIn 124 dX6_trace_37 c5 wk_5 rfl (by decide) (by decide) rfl (by decide) ?_
        refine ald_5_4 126 rfl dX6_trace_124 rfl ?_
        refine dgf_X6_161 129 rfl dX6_trace_126 rfl ?_
        refine dild_5_2 130 dX6_trace_129 rfl ?_
        obtain ⟨hi, h⟩ := ift h
        refine dzald 131 rfl rfl rfl hi rfl rfl dX6_trace_130 rfl ?_
        refine dt_if_eq 134 138 dX6_trace_131 rfl (by decide) rfl (fun c => ?_) (fun c => ?_)
        · replace h := ifp c h
          refine dt_iconst 139 dX6_trace_138 rfl ?_
          exact dr_ip hF rfl dX6_trace_139 h
        · replace h := ifn c h
          refine dt_iconst 135 dX6_trace_134 rfl ?_
          refine st_goto 139 dX6_trace_135 (by decide) ?_
          exact dr_ip hF rfl dX6_trace_139 h
      replace h := ifn c5 h
      refine dt_tableOut 140 dX6_trace_37 (by omega) (by decide) ?_
      refine dt_bipush 142 dX6_trace_140 bq_m99 rfl ?_
      exact dr_ip hF rfl dX6_trace_142 h
    · replace h := ifn c h
      refine dt_bipush 25 dX6_trace_23 bq_m99 rfl ?_
      exact dr_ip hF rfl dX6_trace_25 h
/-- StampTales.ways -/
theorem S_X6_ways {G : Cx} {μ : Mi} {x1 : Int} {r : Int} {mm : Mi} (h : D_X6_ways x1 μ = some (r, mm)) : Spec yd_X6_ways G [rf G 6 false, iv x1] (Em μ) (some (iv r)) (Em mm) := by
  refine Spec.of (by decide) rfl (catL_ok rfl) (Nat.le_of_ble_eq_true rfl) rfl (fun b hF => ?_)
  unfold D_X6_ways at h
  refine ald_2_0 1 rfl dX6_ways_0 rfl ?_
  refine dild_2_1 2 dX6_ways_1 rfl ?_
  refine cvi_1 5 cw_X6_85 (S_X6_isMan x1) rfl ⟨by decide, by decide⟩ rfl rfl rfl rfl rfl (Nat.le_of_ble_eq_true rfl) dX6_ways_2 rfl ?_
  refine dt_if_eq 8 19 dX6_ways_5 rfl (by decide) rfl (fun c => ?_) (fun c => ?_)
  · replace h := ifp c h
    refine dt_iconst 20 dX6_ways_19 rfl ?_
    exact dr_i hF rfl dX6_ways_20 h
  · replace h := ifn c h
    refine ald_2_0 9 rfl dX6_ways_8 rfl ?_
    refine dild_2_1 10 dX6_ways_9 rfl ?_
    refine cvi_1 13 cw_X6_92 (S_X6_searchOf x1) rfl ⟨by decide, by decide⟩ rfl rfl rfl rfl rfl (Nat.le_of_ble_eq_true rfl) dX6_ways_10 rfl ?_
    obtain ⟨r3, m3, h3, h⟩ := bd_some h
    refine cvi_0 16 cw_X6_164 (S_X4_howManyWays h3) rfl ⟨by decide, by decide⟩ rfl rfl rfl rfl rfl (Nat.le_of_ble_eq_true rfl) dX6_ways_13 rfl ?_
    refine st_goto 20 dX6_ways_16 (by decide) ?_
    exact dr_i hF rfl dX6_ways_20 h
/-- StampTales.isTimeOf -/
theorem S_X6_isTimeOf {G : Cx} {μ : Mi} (x1 : Int) (x2 : Int) : Spec yd_X6_isTimeOf G [rf G 6 false, iv x1, iv x2] (Em μ) (some (iv (D_X6_isTimeOf x1 x2 μ))) (Em μ) := by
  generalize h : D_X6_isTimeOf x1 x2 μ = r
  refine Spec.of (by decide) rfl (catL_ok rfl) (Nat.le_of_ble_eq_true rfl) rfl (fun b hF => ?_)
  unfold D_X6_isTimeOf at h
  refine ald_3_0 1 rfl dX6_isTimeOf_0 rfl ?_
  refine dild_3_1 2 dX6_isTimeOf_1 rfl ?_
  refine cvi_1 5 cw_X6_85 (S_X6_isMan x1) rfl ⟨by decide, by decide⟩ rfl rfl rfl rfl rfl (Nat.le_of_ble_eq_true rfl) dX6_isTimeOf_2 rfl ?_
  refine dt_if_eq 8 31 dX6_isTimeOf_5 rfl (by decide) rfl (fun c => ?_) (fun c => ?_)
  · replace h := ifp c h
    refine dt_iconst 32 dX6_isTimeOf_31 rfl ?_
    exact dr_zt hF rfl isB_0 dX6_isTimeOf_32 h
  · replace h := ifn c h
    refine dild_3_2 9 dX6_isTimeOf_8 rfl ?_
    refine dt_if_lt 12 31 dX6_isTimeOf_9 rfl (by decide) rfl (fun c => ?_) (fun c => ?_)
    · replace h := ifp c h
      refine dt_iconst 32 dX6_isTimeOf_31 rfl ?_
      exact dr_zt hF rfl isB_0 dX6_isTimeOf_32 h
    · replace h := ifn c h
      refine dild_3_2 13 dX6_isTimeOf_12 rfl ?_
      refine ald_3_0 14 rfl dX6_isTimeOf_13 rfl ?_
      refine dild_3_1 15 dX6_isTimeOf_14 rfl ?_
      refine cvi_1 18 cw_X6_92 (S_X6_searchOf x1) rfl ⟨by decide, by decide⟩ rfl rfl rfl rfl rfl (Nat.le_of_ble_eq_true rfl) dX6_isTimeOf_15 rfl ?_
      refine dgf_X6_72 21 rfl dX6_isTimeOf_18 rfl ?_
      refine dgf_X6_208 24 rfl dX6_isTimeOf_21 rfl rfl ?_
      refine dt_icmp_gt 27 31 dX6_isTimeOf_24 rfl (by decide) rfl rfl (fun c => ?_) (fun c => ?_)
      · replace h := ifp c h
        refine dt_iconst 32 dX6_isTimeOf_31 rfl ?_
        exact dr_zt hF rfl isB_0 dX6_isTimeOf_32 h
      · replace h := ifn c h
        refine dt_iconst 28 dX6_isTimeOf_27 rfl ?_
        refine st_goto 32 dX6_isTimeOf_28 (by decide) ?_
        exact dr_zt hF rfl isB_1 dX6_isTimeOf_32 h
/-- StampTales.may -/
theorem S_X6_may {G : Cx} {μ : Mi} {x1 : Int} {x2 : Int} {r : Int} {mm : Mi} (h : D_X6_may x1 x2 μ = some (r, mm)) : Spec yd_X6_may G [rf G 6 false, iv x1, iv x2] (Em μ) (some (iv r)) (Em mm) := by
  refine Spec.of (by decide) rfl (catL_ok rfl) (Nat.le_of_ble_eq_true rfl) rfl (fun b hF => ?_)
  unfold D_X6_may at h
  refine ald_3_0 1 rfl dX6_may_0 rfl ?_
  refine dild_3_1 2 dX6_may_1 rfl ?_
  refine dild_3_2 3 dX6_may_2 rfl ?_
  refine cvi_2 6 cw_X6_167 (S_X6_isTimeOf x1 x2) rfl ⟨by decide, by decide⟩ rfl rfl rfl rfl rfl (Nat.le_of_ble_eq_true rfl) dX6_may_3 rfl ?_
  refine dt_if_eq 9 21 dX6_may_6 rfl (by decide) rfl (fun c => ?_) (fun c => ?_)
  · replace h := ifp c h
    refine dt_iconst 22 dX6_may_21 rfl ?_
    exact dr_i hF rfl dX6_may_22 h
  · replace h := ifn c h
    refine ald_3_0 10 rfl dX6_may_9 rfl ?_
    refine dild_3_1 11 dX6_may_10 rfl ?_
    refine cvi_1 14 cw_X6_92 (S_X6_searchOf x1) rfl ⟨by decide, by decide⟩ rfl rfl rfl rfl rfl (Nat.le_of_ble_eq_true rfl) dX6_may_11 rfl ?_
    refine dild_3_2 15 dX6_may_14 rfl ?_
    obtain ⟨r3, m3, h3, h⟩ := bd_some h
    refine cvi_1 18 cw_X6_171 (S_X4_whereAt h3) rfl ⟨by decide, by decide⟩ rfl rfl rfl rfl rfl (Nat.le_of_ble_eq_true rfl) dX6_may_15 rfl ?_
    refine st_goto 22 dX6_may_18 (by decide) ?_
    exact dr_i hF rfl dX6_may_22 h
/-- StampTales.isOneTown -/
theorem S_X6_isOneTown {G : Cx} {μ : Mi} (x0 : Int) : Spec yd_X6_isOneTown G [iv x0] (Em μ) (some (iv (D_X6_isOneTown x0))) (Em μ) := by
  generalize h : D_X6_isOneTown x0 = r
  refine Spec.of (by decide) rfl (catL_ok rfl) (Nat.le_of_ble_eq_true rfl) rfl (fun b hF => ?_)
  unfold D_X6_isOneTown at h
  refine dild_1_0 1 dX6_isOneTown_0 rfl ?_
  refine csi_1 4 cw_X6_211 (S_J6_bitCount_0f7a4 x0) rfl ⟨by decide, by decide⟩ (Nat.le_of_ble_eq_true rfl) dX6_isOneTown_1 rfl ?_
  refine dt_iconst 5 dX6_isOneTown_4 rfl ?_
  refine dt_icmp_ne 8 19 dX6_isOneTown_5 rfl (by decide) rfl wk_1 (fun c => ?_) (fun c => ?_)
  · replace h := ifp c h
    refine dt_iconst 20 dX6_isOneTown_19 rfl ?_
    exact dr_zt hF rfl isB_0 dX6_isOneTown_20 h
  · replace h := ifn c h
    refine dild_1_0 9 dX6_isOneTown_8 rfl ?_
    refine dt_sipush 12 dX6_isOneTown_9 sq_256 rfl ?_
    refine dt_icmp_eq 15 19 dX6_isOneTown_12 rfl (by decide) rfl wk_256 (fun c => ?_) (fun c => ?_)
    · replace h := ifp c h
      refine dt_iconst 20 dX6_isOneTown_19 rfl ?_
      exact dr_zt hF rfl isB_0 dX6_isOneTown_20 h
    · replace h := ifn c h
      refine dt_iconst 16 dX6_isOneTown_15 rfl ?_
      refine st_goto 20 dX6_isOneTown_16 (by decide) ?_
      exact dr_zt hF rfl isB_1 dX6_isOneTown_20 h
/-- StampTales.surely -/
theorem S_X6_surely {G : Cx} {μ : Mi} {x1 : Int} {x2 : Int} {r : Int} {mm : Mi} (h : D_X6_surely x1 x2 μ = some (r, mm)) : Spec yd_X6_surely G [rf G 6 false, iv x1, iv x2] (Em μ) (some (iv r)) (Em mm) := by
  refine Spec.of (by decide) rfl (catL_ok rfl) (Nat.le_of_ble_eq_true rfl) rfl (fun b hF => ?_)
  unfold D_X6_surely at h
  refine ald_4_0 1 rfl dX6_surely_0 rfl ?_
  refine dild_4_1 2 dX6_surely_1 rfl ?_
  refine dild_4_2 3 dX6_surely_2 rfl ?_
  refine cvi_2 6 cw_X6_167 (S_X6_isTimeOf x1 x2) rfl ⟨by decide, by decide⟩ rfl rfl rfl rfl rfl (Nat.le_of_ble_eq_true rfl) dX6_surely_3 rfl ?_
  refine dt_if_ne 9 11 dX6_surely_6 rfl (by decide) rfl (fun c => ?_) (fun c => ?_)
  · replace h := ifp c h
    refine ald_4_0 12 rfl dX6_surely_11 rfl ?_
    refine dild_4_1 13 dX6_surely_12 rfl ?_
    refine cvi_1 16 cw_X6_92 (S_X6_searchOf x1) rfl ⟨by decide, by decide⟩ rfl rfl rfl rfl rfl (Nat.le_of_ble_eq_true rfl) dX6_surely_13 rfl ?_
    refine dild_4_2 17 dX6_surely_16 rfl ?_
    obtain ⟨r3, m3, h3, h⟩ := bd_some h
    refine cvi_1 20 cw_X6_171 (S_X4_whereAt h3) rfl ⟨by decide, by decide⟩ rfl rfl rfl rfl rfl (Nat.le_of_ble_eq_true rfl) dX6_surely_17 rfl ?_
    refine dist_4_3 21 dX6_surely_20 rfl rfl rfl ?_
    refine dild_4_3 22 dX6_surely_21 rfl ?_
    refine csi_1 25 cw_X6_174 (S_X6_isOneTown r3) rfl ⟨by decide, by decide⟩ (Nat.le_of_ble_eq_true rfl) dX6_surely_22 rfl ?_
    refine dt_if_eq 28 35 dX6_surely_25 rfl (by decide) rfl (fun c => ?_) (fun c => ?_)
    · replace h := ifp c h
      refine dt_iconst 36 dX6_surely_35 rfl ?_
      exact dr_i hF rfl dX6_surely_36 h
    · replace h := ifn c h
      refine dild_4_3 29 dX6_surely_28 rfl ?_
      refine csi_1 32 cw_X6_177 (S_J6_numberOfTrailingZeros_0f7a4 r3) rfl ⟨by decide, by decide⟩ (Nat.le_of_ble_eq_true rfl) dX6_surely_29 rfl ?_
      refine st_goto 36 dX6_surely_32 (by decide) ?_
      exact dr_i hF rfl dX6_surely_36 h
  · replace h := ifn c h
    refine dt_iconst 10 dX6_surely_9 rfl ?_
    exact dr_i hF rfl dX6_surely_10 h
/-- StampTales.extreme -/
theorem S_X6_extreme {G : Cx} {μ : Mi} {x1 : Int} {x2 : Int} {r : Int} {mm : Mi} (h : D_X6_extreme x1 x2 μ = some (r, mm)) : Spec yd_X6_extreme G [rf G 6 false, iv x1, iv x2] (Em μ) (some (iv r)) (Em mm) := by
  refine Spec.of (by decide) rfl (catL_ok rfl) (Nat.le_of_ble_eq_true rfl) rfl (fun b hF => ?_)
  unfold D_X6_extreme at h
  refine ald_3_0 1 rfl dX6_extreme_0 rfl ?_
  refine dild_3_1 2 dX6_extreme_1 rfl ?_
  refine cvi_1 5 cw_X6_85 (S_X6_isMan x1) rfl ⟨by decide, by decide⟩ rfl rfl rfl rfl rfl (Nat.le_of_ble_eq_true rfl) dX6_extreme_2 rfl ?_
  refine dt_if_eq 8 17 dX6_extreme_5 rfl (by decide) rfl (fun c => ?_) (fun c => ?_)
  · replace h := ifp c h
    refine dt_iconst 18 dX6_extreme_17 rfl ?_
    exact dr_i hF rfl dX6_extreme_18 h
  · replace h := ifn c h
    refine dild_3_2 9 dX6_extreme_8 rfl ?_
    refine dt_if_lt 12 17 dX6_extreme_9 rfl (by decide) rfl (fun c => ?_) (fun c => ?_)
    · replace h := ifp c h
      refine dt_iconst 18 dX6_extreme_17 rfl ?_
      exact dr_i hF rfl dX6_extreme_18 h
    · replace h := ifn c h
      refine dild_3_2 13 dX6_extreme_12 rfl ?_
      refine dt_iconst 14 dX6_extreme_13 rfl ?_
      refine dt_icmp_le 17 19 dX6_extreme_14 rfl (by decide) rfl wk_3 (fun c => ?_) (fun c => ?_)
      · replace h := ifp c h
        refine ald_3_0 20 rfl dX6_extreme_19 rfl ?_
        refine dild_3_1 21 dX6_extreme_20 rfl ?_
        refine cvi_1 24 cw_X6_92 (S_X6_searchOf x1) rfl ⟨by decide, by decide⟩ rfl rfl rfl rfl rfl (Nat.le_of_ble_eq_true rfl) dX6_extreme_21 rfl ?_
        refine dild_3_2 25 dX6_extreme_24 rfl ?_
        obtain ⟨r3, m3, h3, h⟩ := bd_some h
        refine cvi_1 28 cw_X6_182 (S_X4_extremeOf h3) rfl ⟨by decide, by decide⟩ rfl rfl rfl rfl rfl (Nat.le_of_ble_eq_true rfl) dX6_extreme_25 rfl ?_
        exact dr_i hF rfl dX6_extreme_28 h
      · replace h := ifn c h
        refine dt_iconst 18 dX6_extreme_17 rfl ?_
        exact dr_i hF rfl dX6_extreme_18 h
/-- StampTales.tale -/
theorem S_X6_tale {G : Cx} {μ : Mi} {x1 : Int} {x2 : Int} {r : Int} {mm : Mi} (h : D_X6_tale x1 x2 μ = some (r, mm)) : Spec yd_X6_tale G [rf G 6 false, iv x1, iv x2] (Em μ) (some (iv r)) (Em mm) := by
  refine Spec.of (by decide) rfl (catL_ok rfl) (Nat.le_of_ble_eq_true rfl) rfl (fun b hF => ?_)
  unfold D_X6_tale at h
  refine ald_3_0 1 rfl dX6_tale_0 rfl ?_
  refine dild_3_1 2 dX6_tale_1 rfl ?_
  refine cvi_1 5 cw_X6_85 (S_X6_isMan x1) rfl ⟨by decide, by decide⟩ rfl rfl rfl rfl rfl (Nat.le_of_ble_eq_true rfl) dX6_tale_2 rfl ?_
  refine dt_if_eq 8 25 dX6_tale_5 rfl (by decide) rfl (fun c => ?_) (fun c => ?_)
  · replace h := ifp c h
    refine dt_iconst 26 dX6_tale_25 rfl ?_
    exact dr_i hF rfl dX6_tale_26 h
  · replace h := ifn c h
    refine dild_3_2 9 dX6_tale_8 rfl ?_
    refine dt_iconst 10 dX6_tale_9 rfl ?_
    refine dt_icmp_lt 13 25 dX6_tale_10 rfl (by decide) rfl wk_m1 (fun c => ?_) (fun c => ?_)
    · replace h := ifp c h
      refine dt_iconst 26 dX6_tale_25 rfl ?_
      exact dr_i hF rfl dX6_tale_26 h
    · replace h := ifn c h
      refine ald_3_0 14 rfl dX6_tale_13 rfl ?_
      refine dild_3_1 15 dX6_tale_14 rfl ?_
      refine cvi_1 18 cw_X6_92 (S_X6_searchOf x1) rfl ⟨by decide, by decide⟩ rfl rfl rfl rfl rfl (Nat.le_of_ble_eq_true rfl) dX6_tale_15 rfl ?_
      refine dild_3_2 19 dX6_tale_18 rfl ?_
      obtain ⟨r3, m3, h3, h⟩ := bd_some h
      refine cvi_1 22 cw_X6_185 (S_X4_taleAt h3) rfl ⟨by decide, by decide⟩ rfl rfl rfl rfl rfl (Nat.le_of_ble_eq_true rfl) dX6_tale_19 rfl ?_
      refine st_goto 26 dX6_tale_22 (by decide) ?_
      exact dr_i hF rfl dX6_tale_26 h
/-- StampTales.toDoubt -/
theorem S_X6_toDoubt {G : Cx} {μ : Mi} {x1 : Int} {r : Int} {mm : Mi} (h : D_X6_toDoubt x1 μ = some (r, mm)) : Spec yd_X6_toDoubt G [rf G 6 false, iv x1] (Em μ) (some (iv r)) (Em mm) := by
  refine Spec.of (by decide) rfl (catL_ok rfl) (Nat.le_of_ble_eq_true rfl) rfl (fun b hF => ?_)
  unfold D_X6_toDoubt at h
  refine ald_2_0 1 rfl dX6_toDoubt_0 rfl ?_
  refine dild_2_1 2 dX6_toDoubt_1 rfl ?_
  refine cvi_1 5 cw_X6_85 (S_X6_isMan x1) rfl ⟨by decide, by decide⟩ rfl rfl rfl rfl rfl (Nat.le_of_ble_eq_true rfl) dX6_toDoubt_2 rfl ?_
  refine dt_if_eq 8 19 dX6_toDoubt_5 rfl (by decide) rfl (fun c => ?_) (fun c => ?_)
  · replace h := ifp c h
    refine dt_iconst 20 dX6_toDoubt_19 rfl ?_
    exact dr_i hF rfl dX6_toDoubt_20 h
  · replace h := ifn c h
    refine ald_2_0 9 rfl dX6_toDoubt_8 rfl ?_
    refine dild_2_1 10 dX6_toDoubt_9 rfl ?_
    refine cvi_1 13 cw_X6_92 (S_X6_searchOf x1) rfl ⟨by decide, by decide⟩ rfl rfl rfl rfl rfl (Nat.le_of_ble_eq_true rfl) dX6_toDoubt_10 rfl ?_
    obtain ⟨r3, m3, h3, h⟩ := bd_some h
    refine cvi_0 16 cw_X6_188 (S_X4_fewestToDoubt h3) rfl ⟨by decide, by decide⟩ rfl rfl rfl rfl rfl (Nat.le_of_ble_eq_true rfl) dX6_toDoubt_13 rfl ?_
    refine st_goto 20 dX6_toDoubt_16 (by decide) ?_
    exact dr_i hF rfl dX6_toDoubt_20 h
/-- StampTales.away -/
theorem S_X6_away {G : Cx} {μ : Mi} {x1 : Int} {r : Int} {mm : Mi} (h : D_X6_away x1 μ = some (r, mm)) : Spec yd_X6_away G [rf G 6 false, iv x1] (Em μ) (some (iv r)) (Em mm) := by
  refine Spec.of (by decide) rfl (catL_ok rfl) (Nat.le_of_ble_eq_true rfl) rfl (fun b hF => ?_)
  unfold D_X6_away at h
  refine ald_2_0 1 rfl dX6_away_0 rfl ?_
  refine dild_2_1 2 dX6_away_1 rfl ?_
  refine cvi_1 5 cw_X6_85 (S_X6_isMan x1) rfl ⟨by decide, by decide⟩ rfl rfl rfl rfl rfl (Nat.le_of_ble_eq_true rfl) dX6_away_2 rfl ?_
  refine dt_if_eq 8 19 dX6_away_5 rfl (by decide) rfl (fun c => ?_) (fun c => ?_)
  · replace h := ifp c h
    refine dt_iconst 20 dX6_away_19 rfl ?_
    exact dr_i hF rfl dX6_away_20 h
  · replace h := ifn c h
    refine ald_2_0 9 rfl dX6_away_8 rfl ?_
    refine dild_2_1 10 dX6_away_9 rfl ?_
    refine cvi_1 13 cw_X6_92 (S_X6_searchOf x1) rfl ⟨by decide, by decide⟩ rfl rfl rfl rfl rfl (Nat.le_of_ble_eq_true rfl) dX6_away_10 rfl ?_
    obtain ⟨r3, m3, h3, h⟩ := bd_some h
    refine cvi_0 16 cw_X6_191 (S_X4_freestWithout h3) rfl ⟨by decide, by decide⟩ rfl rfl rfl rfl rfl (Nat.le_of_ble_eq_true rfl) dX6_away_13 rfl ?_
    refine st_goto 20 dX6_away_16 (by decide) ?_
    exact dr_i hF rfl dX6_away_20 h
/-- StampTales.met -/
theorem S_X6_met {G : Cx} {μ : Mi} {x1 : Int} {x2 : Int} {r : Int} {mm : Mi} (h : D_X6_met x1 x2 μ = some (r, mm)) : Spec yd_X6_met G [rf G 6 false, iv x1, iv x2] (Em μ) (some (iv r)) (Em mm) := by
  refine Spec.of (by decide) rfl (catL_ok rfl) (Nat.le_of_ble_eq_true rfl) rfl (fun b hF => ?_)
  unfold D_X6_met at h
  refine ald_5_0 1 rfl dX6_met_0 rfl ?_
  refine dt_iconst 2 dX6_met_1 rfl ?_
  refine dild_5_1 3 dX6_met_2 rfl ?_
  refine cvi_2 6 cw_X6_167 (S_X6_isTimeOf 0 x1) rfl ⟨by decide, by decide⟩ rfl rfl rfl rfl rfl (Nat.le_of_ble_eq_true rfl) dX6_met_3 rfl ?_
  refine dt_if_eq 9 18 dX6_met_6 rfl (by decide) rfl (fun c => ?_) (fun c => ?_)
  · replace h := ifp c h
    refine dt_iconst 19 dX6_met_18 rfl ?_
    exact dr_i hF rfl dX6_met_19 h
  · replace h := ifn c h
    refine ald_5_0 10 rfl dX6_met_9 rfl ?_
    refine dt_iconst 11 dX6_met_10 rfl ?_
    refine dild_5_1 12 dX6_met_11 rfl ?_
    refine cvi_2 15 cw_X6_167 (S_X6_isTimeOf 1 x1) rfl ⟨by decide, by decide⟩ rfl rfl rfl rfl rfl (Nat.le_of_ble_eq_true rfl) dX6_met_12 rfl ?_
    refine dt_if_ne 18 20 dX6_met_15 rfl (by decide) rfl (fun c => ?_) (fun c => ?_)
    · replace h := ifp c h
      refine ald_5_0 21 rfl dX6_met_20 rfl ?_
      refine dgf_X6_41 24 rfl dX6_met_21 rfl ?_
      refine dild_5_1 25 dX6_met_24 rfl ?_
      obtain ⟨r3, m3, h3, h⟩ := bd_some h
      refine cvi_1 28 cw_X6_171 (S_X4_whereAt h3) rfl ⟨by decide, by decide⟩ rfl rfl rfl rfl rfl (Nat.le_of_ble_eq_true rfl) dX6_met_25 rfl ?_
      refine dist_5_3 29 dX6_met_28 rfl rfl rfl ?_
      refine ald_5_0 30 rfl dX6_met_29 rfl ?_
      refine dgf_X6_45 33 rfl dX6_met_30 rfl ?_
      refine dild_5_1 34 dX6_met_33 rfl ?_
      obtain ⟨r4, m4, h4, h⟩ := bd_some h
      refine cvi_1 37 cw_X6_171 (S_X4_whereAt h4) rfl ⟨by decide, by decide⟩ rfl rfl rfl rfl rfl (Nat.le_of_ble_eq_true rfl) dX6_met_34 rfl ?_
      refine dist_5_4 39 dX6_met_37 rfl rfl rfl ?_
      refine dild_5_2 40 dX6_met_39 rfl ?_
      refine dt_if_eq 43 62 dX6_met_40 rfl (by decide) rfl (fun c => ?_) (fun c => ?_)
      · replace h := ifp c h
        refine dild_5_3 63 dX6_met_62 rfl ?_
        refine dild_5_4 65 dX6_met_63 rfl ?_
        refine dt_iand 66 dX6_met_65 rfl ?_
        refine dt_sipush 69 dX6_met_66 sq_m257 rfl ?_
        refine dt_iand 70 dX6_met_69 rfl ?_
        exact dr_i hF rfl dX6_met_70 h
      · replace h := ifn c h
        refine dild_5_3 44 dX6_met_43 rfl ?_
        refine dild_5_4 46 dX6_met_44 rfl ?_
        refine dt_icmp_ne 49 60 dX6_met_46 rfl (by decide) rfl rfl (fun c => ?_) (fun c => ?_)
        · replace h := ifp c h
          refine dt_iconst 61 dX6_met_60 rfl ?_
          exact dr_i hF rfl dX6_met_61 h
        · replace h := ifn c h
          refine dild_5_3 50 dX6_met_49 rfl ?_
          refine csi_1 53 cw_X6_174 (S_X6_isOneTown r3) rfl ⟨by decide, by decide⟩ (Nat.le_of_ble_eq_true rfl) dX6_met_50 rfl ?_
          refine dt_if_eq 56 60 dX6_met_53 rfl (by decide) rfl (fun c => ?_) (fun c => ?_)
          · replace h := ifp c h
            refine dt_iconst 61 dX6_met_60 rfl ?_
            exact dr_i hF rfl dX6_met_61 h
          · replace h := ifn c h
            refine dild_5_3 57 dX6_met_56 rfl ?_
            refine st_goto 61 dX6_met_57 (by decide) ?_
            exact dr_i hF rfl dX6_met_61 h
    · replace h := ifn c h
      refine dt_iconst 19 dX6_met_18 rfl ?_
      exact dr_i hF rfl dX6_met_19 h
/-- StampTales.leg -/
theorem S_X6_leg {G : Cx} {μ : Mi} {x1 : Int} {x2 : Int} {r : Int} {mm : Mi} (h : D_X6_leg x1 x2 μ = some (r, mm)) : Spec yd_X6_leg G [rf G 6 false, iv x1, iv x2] (Em μ) (some (iv r)) (Em mm) := by
  refine Spec.of (by decide) rfl (catL_ok rfl) (Nat.le_of_ble_eq_true rfl) rfl (fun b hF => ?_)
  unfold D_X6_leg at h
  refine ald_3_0 1 rfl dX6_leg_0 rfl ?_
  refine dgf_X6_16 4 rfl dX6_leg_1 rfl ?_
  refine dild_3_1 5 dX6_leg_4 rfl ?_
  refine cvi_1 8 cw_X6_122 (S_X0_hasLink false x1) rfl ⟨by decide, by decide⟩ rfl rfl rfl rfl rfl (Nat.le_of_ble_eq_true rfl) dX6_leg_5 rfl ?_
  refine dt_if_eq 11 18 dX6_leg_8 rfl (by decide) rfl (fun c => ?_) (fun c => ?_)
  · replace h := ifp c h
    refine dt_iconst 19 dX6_leg_18 rfl ?_
    exact dr_i hF rfl dX6_leg_19 h
  · replace h := ifn c h
    refine dild_3_2 12 dX6_leg_11 rfl ?_
    refine csi_1 15 cw_X6_111 (S_X6_isHour x2) rfl ⟨by decide, by decide⟩ (Nat.le_of_ble_eq_true rfl) dX6_leg_12 rfl ?_
    refine dt_if_ne 18 20 dX6_leg_15 rfl (by decide) rfl (fun c => ?_) (fun c => ?_)
    · replace h := ifp c h
      refine ald_3_0 21 rfl dX6_leg_20 rfl ?_
      refine dgf_X6_53 24 rfl dX6_leg_21 rfl ?_
      refine dild_3_1 25 dX6_leg_24 rfl ?_
      refine dild_3_2 26 dX6_leg_25 rfl ?_
      obtain ⟨r3, m3, h3, h⟩ := bd_some h
      refine cvi_2 29 cw_X6_194 (S_X5_add h3) rfl ⟨by decide, by decide⟩ rfl rfl rfl rfl rfl (Nat.le_of_ble_eq_true rfl) dX6_leg_26 rfl ?_
      exact dr_i hF rfl dX6_leg_29 h
    · replace h := ifn c h
      refine dt_iconst 19 dX6_leg_18 rfl ?_
      exact dr_i hF rfl dX6_leg_19 h
/-- StampTales.forget -/
theorem S_X6_forget {G : Cx} {μ : Mi} {r : Int} {mm : Mi} (h : D_X6_forget μ = some (r, mm)) : Spec yd_X6_forget G [rf G 6 false] (Em μ) (some (iv r)) (Em mm) := by
  refine Spec.of (by decide) rfl (catL_ok rfl) (Nat.le_of_ble_eq_true rfl) rfl (fun b hF => ?_)
  unfold D_X6_forget at h
  refine ald_2_0 1 rfl dX6_forget_0 rfl ?_
  refine dgf_X6_53 4 rfl dX6_forget_1 rfl ?_
  refine dgf_X6_79 7 rfl dX6_forget_4 rfl rfl ?_
  refine dist_2_1 8 dX6_forget_7 rfl rfl rfl ?_
  refine ald_2_0 9 rfl dX6_forget_8 rfl ?_
  refine dgf_X6_53 12 rfl dX6_forget_9 rfl ?_
  refine dt_iconst 13 dX6_forget_12 rfl ?_
  refine dpf_X6_79 16 rfl dX6_forget_13 rfl ?_
  refine dild_2_1 17 dX6_forget_16 rfl ?_
  exact dr_i hF rfl dX6_forget_17 h
/-- StampTales.barred -/
theorem S_X6_barred {G : Cx} {μ : Mi} {x1 : Int} {r : Int} {mm : Mi} (h : D_X6_barred x1 μ = some (r, mm)) : Spec yd_X6_barred G [rf G 6 false, iv x1] (Em μ) (some (iv r)) (Em mm) := by
  refine Spec.of (by decide) rfl (catL_ok rfl) (Nat.le_of_ble_eq_true rfl) rfl (fun b hF => ?_)
  unfold D_X6_barred at h
  refine ald_2_0 1 rfl dX6_barred_0 rfl ?_
  refine dild_2_1 2 dX6_barred_1 rfl ?_
  refine cvi_1 5 cw_X6_85 (S_X6_isMan x1) rfl ⟨by decide, by decide⟩ rfl rfl rfl rfl rfl (Nat.le_of_ble_eq_true rfl) dX6_barred_2 rfl ?_
  refine dt_if_eq 8 26 dX6_barred_5 rfl (by decide) rfl (fun c => ?_) (fun c => ?_)
  · replace h := ifp c h
    refine dt_iconst 27 dX6_barred_26 rfl ?_
    exact dr_i hF rfl dX6_barred_27 h
  · replace h := ifn c h
    refine ald_2_0 9 rfl dX6_barred_8 rfl ?_
    refine dgf_X6_53 12 rfl dX6_barred_9 rfl ?_
    refine ald_2_0 13 rfl dX6_barred_12 rfl ?_
    refine dild_2_1 14 dX6_barred_13 rfl ?_
    refine cvi_1 17 cw_X6_92 (S_X6_searchOf x1) rfl ⟨by decide, by decide⟩ rfl rfl rfl rfl rfl (Nat.le_of_ble_eq_true rfl) dX6_barred_14 rfl ?_
    refine dgf_X6_72 20 rfl dX6_barred_17 rfl ?_
    obtain ⟨r3, m3, h3, h⟩ := bd_some h
    refine cvi_1 23 cw_X6_197 (S_X5_barOf h3) rfl ⟨by decide, by decide⟩ rfl rfl rfl rfl rfl (Nat.le_of_ble_eq_true rfl) dX6_barred_20 rfl ?_
    refine st_goto 27 dX6_barred_23 (by decide) ?_
    exact dr_i hF rfl dX6_barred_27 h
/-- StampTales.count -/
theorem S_X6_count {G : Cx} {μ : Mi} (x1 : Int) : Spec yd_X6_count G [rf G 6 false, iv x1] (Em μ) (some (iv (D_X6_count x1 μ))) (Em μ) := by
  generalize h : D_X6_count x1 μ = r
  refine Spec.of (by decide) rfl (catL_ok rfl) (Nat.le_of_ble_eq_true rfl) rfl (fun b hF => ?_)
  unfold D_X6_count at h
  refine dild_2_1 1 dX6_count_0 rfl ?_
  by_cases c0 : (w32 x1) = 0
  · replace h := ifp c0 h
    refine dt_tableIn 44 dX6_count_1 c0 wk_0 rfl (by decide) (by decide) rfl (by decide) ?_
    refine ald_2_0 45 rfl dX6_count_44 rfl ?_
    refine dgf_X6_16 48 rfl dX6_count_45 rfl ?_
    refine dgf_X6_201 51 rfl dX6_count_48 rfl rfl ?_
    exact dr_it hF rfl dX6_count_51 h
  replace h := ifn c0 h
  by_cases c1 : (w32 x1) = 1
  · replace h := ifp c1 h
    refine dt_tableIn 52 dX6_count_1 c1 wk_1 rfl (by decide) (by decide) rfl (by decide) ?_
    refine ald_2_0 53 rfl dX6_count_52 rfl ?_
    refine dgf_X6_16 56 rfl dX6_count_53 rfl ?_
    refine dgf_X6_82 59 rfl dX6_count_56 rfl rfl ?_
    exact dr_it hF rfl dX6_count_59 h
  replace h := ifn c1 h
  by_cases c2 : (w32 x1) = 2
  · replace h := ifp c2 h
    refine dt_tableIn 60 dX6_count_1 c2 wk_2 rfl (by decide) (by decide) rfl (by decide) ?_
    refine ald_2_0 61 rfl dX6_count_60 rfl ?_
    refine dgf_X6_16 64 rfl dX6_count_61 rfl ?_
    refine dgf_X6_204 67 rfl dX6_count_64 rfl rfl ?_
    exact dr_it hF rfl dX6_count_67 h
  replace h := ifn c2 h
  by_cases c3 : (w32 x1) = 3
  · replace h := ifp c3 h
    refine dt_tableIn 68 dX6_count_1 c3 wk_3 rfl (by decide) (by decide) rfl (by decide) ?_
    refine ald_2_0 69 rfl dX6_count_68 rfl ?_
    refine dgf_X6_41 72 rfl dX6_count_69 rfl ?_
    refine dgf_X6_72 75 rfl dX6_count_72 rfl ?_
    refine dgf_X6_207 78 rfl dX6_count_75 rfl rfl ?_
    exact dr_it hF rfl dX6_count_78 h
  replace h := ifn c3 h
  by_cases c4 : (w32 x1) = 4
  · replace h := ifp c4 h
    refine dt_tableIn 79 dX6_count_1 c4 wk_4 rfl (by decide) (by decide) rfl (by decide) ?_
    refine ald_2_0 80 rfl dX6_count_79 rfl ?_
    refine dgf_X6_45 83 rfl dX6_count_80 rfl ?_
    refine dgf_X6_72 86 rfl dX6_count_83 rfl ?_
    refine dgf_X6_207 89 rfl dX6_count_86 rfl rfl ?_
    exact dr_it hF rfl dX6_count_89 h
  replace h := ifn c4 h
  by_cases c5 : (w32 x1) = 5
  · replace h := ifp c5 h
    refine dt_tableIn 90 dX6_count_1 c5 wk_5 rfl (by decide) (by decide) rfl (by decide) ?_
    refine ald_2_0 91 rfl dX6_count_90 rfl ?_
    refine dgf_X6_53 94 rfl dX6_count_91 rfl ?_
    refine dgf_X6_79 97 rfl dX6_count_94 rfl rfl ?_
    exact dr_it hF rfl dX6_count_97 h
  replace h := ifn c5 h
  by_cases c6 : (w32 x1) = 6
  · replace h := ifp c6 h
    refine dt_tableIn 98 dX6_count_1 c6 wk_6 rfl (by decide) (by decide) rfl (by decide) ?_
    refine ald_2_0 99 rfl dX6_count_98 rfl ?_
    refine dgf_X6_57 102 rfl dX6_count_99 rfl rfl ?_
    exact dr_it hF rfl dX6_count_102 h
  replace h := ifn c6 h
  refine dt_tableOut 103 dX6_count_1 (by omega) (by decide) ?_
  refine dt_iconst 104 dX6_count_103 rfl ?_
  exact dr_it hF rfl dX6_count_104 h
