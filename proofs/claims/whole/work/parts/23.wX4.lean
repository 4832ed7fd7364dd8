/-- StampTales$Search.mustLearn -/
theorem A_X4_mustLearn_45 {G : Cx} {b : Ab} {r : Int} {mm : Mi} (hF : Fi yd_X4_mustLearn G b (some (iv r)) (Em mm)) (x0 : Bool) (x1 : Int) (s0 : Int) (μ : Mi) (h : B_X4_mustLearn_45 x0 x1 s0 μ = some (r, mm)) : At yd_X4_mustLearn G b 45 [some (rf G 4 x0), some (iv x1), none] [iv s0] (Em μ) := by
  unfold B_X4_mustLearn_45 at h
  refine dist_3_2 46 dX4_mustLearn_45 rfl rfl rfl ?_
  refine ald_3_0 47 rfl dX4_mustLearn_46 rfl ?_
  refine dgf_X4_14 50 rfl dX4_mustLearn_47 rfl ?_
  refine st_dup 51 dX4_mustLearn_50 rfl rfl ?_
  refine dgf_X4_98 54 rfl dX4_mustLearn_51 rfl rfl ?_
  refine dt_iconst 55 dX4_mustLearn_54 rfl ?_
  refine dild_3_1 56 dX4_mustLearn_55 rfl ?_
  refine dt_ishl 57 dX4_mustLearn_56 rfl ?_
  refine dt_ior 58 dX4_mustLearn_57 rfl ?_
  refine dpf_X4_98 61 rfl dX4_mustLearn_58 rfl ?_
  refine dild_3_2 62 dX4_mustLearn_61 rfl ?_
  obtain ⟨hb, h⟩ := ift h
  exact dr_z hF rfl hb dX4_mustLearn_62 h
theorem A_X4_mustLearn_26 {G : Cx} {b : Ab} {r : Int} {mm : Mi} (hF : Fi yd_X4_mustLearn G b (some (iv r)) (Em mm)) (x0 : Bool) (x1 : Int) (μ : Mi) (h : B_X4_mustLearn_26 x0 x1 μ = some (r, mm)) : At yd_X4_mustLearn G b 26 [some (rf G 4 x0), some (iv x1), none] [] (Em μ) := by
  unfold B_X4_mustLearn_26 at h
  refine ald_3_0 27 rfl dX4_mustLearn_26 rfl ?_
  refine dgf_X4_14 30 rfl dX4_mustLearn_27 rfl ?_
  refine dgf_X4_98 33 rfl dX4_mustLearn_30 rfl rfl ?_
  refine dild_3_1 34 dX4_mustLearn_33 rfl ?_
  refine dt_ishr 35 dX4_mustLearn_34 rfl ?_
  refine dt_iconst 36 dX4_mustLearn_35 rfl ?_
  refine dt_iand 37 dX4_mustLearn_36 rfl ?_
  refine dt_if_ne 40 44 dX4_mustLearn_37 rfl (by decide) rfl (fun c => ?_) (fun c => ?_)
  · replace h := ifp c h
    refine dt_iconst 45 dX4_mustLearn_44 rfl ?_
    exact A_X4_mustLearn_45 hF _ _ _ _ h
  · replace h := ifn c h
    refine dt_iconst 41 dX4_mustLearn_40 rfl ?_
    refine st_goto 45 dX4_mustLearn_41 (by decide) ?_
    exact A_X4_mustLearn_45 hF _ _ _ _ h
theorem S_X4_mustLearn {G : Cx} {μ : Mi} {x0 : Bool} {x1 : Int} {r : Int} {mm : Mi} (h : D_X4_mustLearn x0 x1 μ = some (r, mm)) : Spec yd_X4_mustLearn G [rf G 4 x0, iv x1] (Em μ) (some (iv r)) (Em mm) := by
  refine Spec.of (by decide) rfl (catL_ok rfl) (Nat.le_of_ble_eq_true rfl) rfl (fun b hF => ?_)
  unfold D_X4_mustLearn at h
  refine ald_3_0 1 rfl dX4_mustLearn_0 rfl ?_
  refine dgf_X4_37 4 rfl dX4_mustLearn_1 rfl ?_
  refine dgf_X4_94 7 rfl dX4_mustLearn_4 rfl rfl ?_
  refine dt_if_eq 10 26 dX4_mustLearn_7 rfl (by decide) rfl (fun c => ?_) (fun c => ?_)
  · replace h := ifp c h
    exact A_X4_mustLearn_26 hF _ _ _ h
  · replace h := ifn c h
    refine ald_3_0 11 rfl dX4_mustLearn_10 rfl ?_
    refine dgf_X4_37 14 rfl dX4_mustLearn_11 rfl ?_
    refine dt_iconst 15 dX4_mustLearn_14 rfl ?_
    refine dpf_X4_94 18 isB_0 rfl dX4_mustLearn_15 rfl ?_
    refine ald_3_0 19 rfl dX4_mustLearn_18 rfl ?_
    refine dgf_X4_14 22 rfl dX4_mustLearn_19 rfl ?_
    refine dt_iconst 23 dX4_mustLearn_22 rfl ?_
    refine dpf_X4_98 26 rfl dX4_mustLearn_23 rfl ?_
    exact A_X4_mustLearn_26 hF _ _ _ h
/-- StampTales$Search.cellOf -/
theorem S_X4_cellOf {G : Cx} {μ : Mi} (x0 : Int) (x1 : Int) (x2 : Int) (x3 : Int) : Spec yd_X4_cellOf G [iv x0, iv x1, iv x2, iv x3] (Em μ) (some (iv (D_X4_cellOf x0 x1 x2 x3))) (Em μ) := by
  generalize h : D_X4_cellOf x0 x1 x2 x3 = r
  refine Spec.of (by decide) rfl (catL_ok rfl) (Nat.le_of_ble_eq_true rfl) rfl (fun b hF => ?_)
  unfold D_X4_cellOf at h
  refine dild_4_0 1 dX4_cellOf_0 rfl ?_
  refine dt_sipush 4 dX4_cellOf_1 sq_256 rfl ?_
  refine dt_imul 5 dX4_cellOf_4 rfl ?_
  refine dild_4_1 6 dX4_cellOf_5 rfl ?_
  refine dt_bipush 8 dX4_cellOf_6 bq_32 rfl ?_
  refine dt_imul 9 dX4_cellOf_8 rfl ?_
  refine dt_iadd 10 dX4_cellOf_9 rfl ?_
  refine dild_4_2 11 dX4_cellOf_10 rfl ?_
  refine dt_iconst 12 dX4_cellOf_11 rfl ?_
  refine dt_imul 13 dX4_cellOf_12 rfl ?_
  refine dt_iadd 14 dX4_cellOf_13 rfl ?_
  refine dild_4_3 15 dX4_cellOf_14 rfl ?_
  refine dt_iadd 16 dX4_cellOf_15 rfl ?_
  exact dr_it hF rfl dX4_cellOf_16 h
/-- StampTales$Search.listCells -/
theorem A_X4_listCells_81 {G : Cx} {b : Ab}  {mm : Mi} {k7 : (Bool → Int → Mi → Option Mi)} {k23 : (Bool → Int → Int → Mi → Option Mi)} (hF : Fi yd_X4_listCells G b none (Em mm)) (hk7 : ∀ (x0 : Bool) (x1 : Int) (m : Mi), k7 x0 x1 m = some mm → At yd_X4_listCells G b 7 [some (rf G 4 x0), some (iv x1), none, none] [] (Em m)) (hk23 : ∀ (x0 : Bool) (x1 : Int) (x2 : Int) (m : Mi), k23 x0 x1 x2 m = some mm → At yd_X4_listCells G b 23 [some (rf G 4 x0), some (iv x1), some (iv x2), none] [] (Em m)) (x0 : Bool) (x1 : Int) (x2 : Int) (μ : Mi) (h : B_X4_listCells_81 k7 k23 x0 x1 x2 μ = some mm) : At yd_X4_listCells G b 81 [some (rf G 4 x0), some (iv x1), some (iv x2), none] [] (Em μ) := by
  unfold B_X4_listCells_81 at h
  refine dinc_4_2 84 dX4_listCells_81 rfl rfl rfl ?_
  refine st_goto 23 dX4_listCells_84 (by decide) ?_
  exact hk23 _ _ _ _ h
theorem A_X4_listCells_29 {G : Cx} {b : Ab}  {mm : Mi} {k7 : (Bool → Int → Mi → Option Mi)} {k23 : (Bool → Int → Int → Mi → Option Mi)} (hF : Fi yd_X4_listCells G b none (Em mm)) (hk7 : ∀ (x0 : Bool) (x1 : Int) (m : Mi), k7 x0 x1 m = some mm → At yd_X4_listCells G b 7 [some (rf G 4 x0), some (iv x1), none, none] [] (Em m)) (hk23 : ∀ (x0 : Bool) (x1 : Int) (x2 : Int) (m : Mi), k23 x0 x1 x2 m = some mm → At yd_X4_listCells G b 23 [some (rf G 4 x0), some (iv x1), some (iv x2), none] [] (Em m)) : ∀ (n : Nat) (x0 : Bool) (x1 : Int) (x2 : Int) (x3 : Int) (μ : Mi), B_X4_listCells_29 k7 k23 n x0 x1 x2 x3 μ = some mm → At yd_X4_listCells G b 29 [some (rf G 4 x0), some (iv x1), some (iv x2), some (iv x3)] [] (Em μ) := by
  intro n
  induction n with
  | zero =>
    intro x0 x1 x2 x3 μ h
    exact nope h
  | succ n hk29 =>
    intro x0 x1 x2 x3 μ h
    replace h : F_X4_listCells_29 k7 k23 (B_X4_listCells_29 k7 k23 n) x0 x1 x2 x3 μ = some mm := h
    unfold F_X4_listCells_29 at h
    refine dild_4_3 30 dX4_listCells_29 rfl ?_
    refine dt_iconst 31 dX4_listCells_30 rfl ?_
    refine ald_4_0 32 rfl dX4_listCells_31 rfl ?_
    refine dgf_X4_167 35 rfl dX4_listCells_32 rfl rfl ?_
    refine dt_ishl 36 dX4_listCells_35 rfl ?_
    refine dt_icmp_ge 39 81 dX4_listCells_36 rfl (by decide) rfl rfl (fun c => ?_) (fun c => ?_)
    · replace h := ifp c h
      exact At.weak (ls_s (ls_s (ls_s (ls_n ls_0)))) (A_X4_listCells_81 hF hk7 hk23 _ _ _ _ h)
    · replace h := ifn c h
      refine ald_4_0 40 rfl dX4_listCells_39 rfl ?_
      refine dgf_X4_121 43 rfl dX4_listCells_40 rfl rfl ?_
      refine dt_sipush 46 dX4_listCells_43 sq_256 rfl ?_
      refine dt_icmp_ge 49 81 dX4_listCells_46 rfl (by decide) rfl wk_256 (fun c => ?_) (fun c => ?_)
      · replace h := ifp c h
        exact At.weak (ls_s (ls_s (ls_s (ls_n ls_0)))) (A_X4_listCells_81 hF hk7 hk23 _ _ _ _ h)
      · replace h := ifn c h
        refine ald_4_0 50 rfl dX4_listCells_49 rfl ?_
        refine dgf_X4_18 53 rfl dX4_listCells_50 rfl ?_
        refine ald_4_0 54 rfl dX4_listCells_53 rfl ?_
        refine dgf_X4_121 57 rfl dX4_listCells_54 rfl rfl ?_
        refine dt_iconst 58 dX4_listCells_57 rfl ?_
        refine dild_4_1 59 dX4_listCells_58 rfl ?_
        refine dild_4_2 60 dX4_listCells_59 rfl ?_
        refine dild_4_3 61 dX4_listCells_60 rfl ?_
        refine csi_4 64 cw_X4_191 (S_X4_cellOf 0 x1 x2 x3) rfl ⟨by decide, by decide⟩ (Nat.le_of_ble_eq_true rfl) dX4_listCells_61 rfl ?_
        obtain ⟨hi, h⟩ := ift h
        refine diast 65 rfl rfl rfl hi rfl dX4_listCells_64 rfl ?_
        refine ald_4_0 66 rfl dX4_listCells_65 rfl ?_
        refine st_dup 67 dX4_listCells_66 rfl rfl ?_
        refine dgf_X4_121 70 rfl dX4_listCells_67 rfl (rd_o (by decide)) ?_
        refine dt_iconst 71 dX4_listCells_70 rfl ?_
        refine dt_iadd 72 dX4_listCells_71 rfl ?_
        refine dpf_X4_121 75 rfl dX4_listCells_72 rfl ?_
        refine dinc_4_3 78 dX4_listCells_75 rfl rfl rfl ?_
        refine st_goto 29 dX4_listCells_78 (by decide) ?_
        exact hk29 _ _ _ _ _ h
theorem A_X4_listCells_23 {G : Cx} {b : Ab}  {mm : Mi} {k7 : (Bool → Int → Mi → Option Mi)} (hF : Fi yd_X4_listCells G b none (Em mm)) (hk7 : ∀ (x0 : Bool) (x1 : Int) (m : Mi), k7 x0 x1 m = some mm → At yd_X4_listCells G b 7 [some (rf G 4 x0), some (iv x1), none, none] [] (Em m)) : ∀ (n : Nat) (x0 : Bool) (x1 : Int) (x2 : Int) (μ : Mi), B_X4_listCells_23 k7 n x0 x1 x2 μ = some mm → At yd_X4_listCells G b 23 [some (rf G 4 x0), some (iv x1), some (iv x2), none] [] (Em μ) := by
  intro n
  induction n with
  | zero =>
    intro x0 x1 x2 μ h
    exact nope h
  | succ n hk23 =>
    intro x0 x1 x2 μ h
    replace h : F_X4_listCells_23 k7 (B_X4_listCells_23 k7 n) x0 x1 x2 μ = some mm := h
    unfold F_X4_listCells_23 at h
    refine dild_4_2 24 dX4_listCells_23 rfl ?_
    refine dt_if_lt 27 87 dX4_listCells_24 rfl (by decide) rfl (fun c => ?_) (fun c => ?_)
    · replace h := ifp c h
      refine dinc_4_1 90 dX4_listCells_87 rfl rfl rfl ?_
      refine st_goto 7 dX4_listCells_90 (by decide) ?_
      exact At.weak (ls_s (ls_s (ls_n (ls_n ls_0)))) (hk7 _ _ _ h)
    · replace h := ifn c h
      refine dt_iconst 28 dX4_listCells_27 rfl ?_
      refine dist_4_3 29 dX4_listCells_28 rfl rfl rfl ?_
      exact A_X4_listCells_29 hF hk7 hk23 FU _ _ _ _ _ h
theorem A_X4_listCells_7 {G : Cx} {b : Ab}  {mm : Mi} (hF : Fi yd_X4_listCells G b none (Em mm)) : ∀ (n : Nat) (x0 : Bool) (x1 : Int) (μ : Mi), B_X4_listCells_7 n x0 x1 μ = some mm → At yd_X4_listCells G b 7 [some (rf G 4 x0), some (iv x1), none, none] [] (Em μ) := by
  intro n
  induction n with
  | zero =>
    intro x0 x1 μ h
    exact nope h
  | succ n hk7 =>
    intro x0 x1 μ h
    replace h : F_X4_listCells_7 (B_X4_listCells_7 n) x0 x1 μ = some mm := h
    unfold F_X4_listCells_7 at h
    refine dild_4_1 8 dX4_listCells_7 rfl ?_
    refine ald_4_0 9 rfl dX4_listCells_8 rfl ?_
    refine dgf_X4_33 12 rfl dX4_listCells_9 rfl ?_
    refine dgf_X4_188 15 rfl dX4_listCells_12 rfl rfl ?_
    refine dt_icmp_ge 18 93 dX4_listCells_15 rfl (by decide) rfl rfl (fun c => ?_) (fun c => ?_)
    · replace h := ifp c h
      exact dr_v hF rfl dX4_listCells_93 h
    · replace h := ifn c h
      refine ald_4_0 19 rfl dX4_listCells_18 rfl ?_
      refine dgf_X4_164 22 rfl dX4_listCells_19 rfl rfl ?_
      refine dist_4_2 23 dX4_listCells_22 rfl rfl rfl ?_
      exact A_X4_listCells_23 hF hk7 FU _ _ _ _ h
theorem S_X4_listCells {G : Cx} {μ : Mi} {x0 : Bool}  {mm : Mi} (h : D_X4_listCells x0 μ = some mm) : Spec yd_X4_listCells G [rf G 4 x0] (Em μ) (none) (Em mm) := by
  refine Spec.of (by decide) rfl (catL_ok rfl) (Nat.le_of_ble_eq_true rfl) rfl (fun b hF => ?_)
  unfold D_X4_listCells at h
  refine ald_4_0 1 rfl dX4_listCells_0 rfl ?_
  refine dt_iconst 2 dX4_listCells_1 rfl ?_
  refine dpf_X4_121 5 rfl dX4_listCells_2 rfl ?_
  refine dt_iconst 6 dX4_listCells_5 rfl ?_
  refine dist_4_1 7 dX4_listCells_6 rfl rfl rfl ?_
  exact A_X4_listCells_7 hF FU _ _ _ h
/-- StampTales$Search.linksLeaving -/
theorem A_X4_linksLeaving_54 {G : Cx} {b : Ab} {μ : Mi} {r : Int} {k4 : (Bool → Int → Int → Int → Mi → Option Int)} (hF : Fi yd_X4_linksLeaving G b (some (iv r)) (Em μ)) (hk4 : ∀ (x0 : Bool) (x1 : Int) (x2 : Int) (x3 : Int), k4 x0 x1 x2 x3 μ = some r → At yd_X4_linksLeaving G b 4 [some (rf G 4 x0), some (iv x1), some (iv x2), some (iv x3)] [] (Em μ)) (x0 : Bool) (x1 : Int) (x2 : Int) (x3 : Int) (h : B_X4_linksLeaving_54 k4 x0 x1 x2 x3 μ = some r) : At yd_X4_linksLeaving G b 54 [some (rf G 4 x0), some (iv x1), some (iv x2), some (iv x3)] [] (Em μ) := by
  unfold B_X4_linksLeaving_54 at h
  refine dinc_4_3 57 dX4_linksLeaving_54 rfl rfl rfl ?_
  refine st_goto 4 dX4_linksLeaving_57 (by decide) ?_
  exact hk4 _ _ _ _ h
theorem A_X4_linksLeaving_4 {G : Cx} {b : Ab} {μ : Mi} {r : Int} (hF : Fi yd_X4_linksLeaving G b (some (iv r)) (Em μ)) : ∀ (n : Nat) (x0 : Bool) (x1 : Int) (x2 : Int) (x3 : Int), B_X4_linksLeaving_4 n x0 x1 x2 x3 μ = some r → At yd_X4_linksLeaving G b 4 [some (rf G 4 x0), some (iv x1), some (iv x2), some (iv x3)] [] (Em μ) := by
  intro n
  induction n with
  | zero =>
    intro x0 x1 x2 x3 h
    exact nope h
  | succ n hk4 =>
    intro x0 x1 x2 x3 h
    replace h : F_X4_linksLeaving_4 (B_X4_linksLeaving_4 n) x0 x1 x2 x3 μ = some r := h
    unfold F_X4_linksLeaving_4 at h
    refine dild_4_3 5 dX4_linksLeaving_4 rfl ?_
    refine ald_4_0 6 rfl dX4_linksLeaving_5 rfl ?_
    refine dgf_X4_33 9 rfl dX4_linksLeaving_6 rfl ?_
    refine dgf_X4_138 12 rfl dX4_linksLeaving_9 rfl rfl ?_
    refine dt_icmp_ge 15 60 dX4_linksLeaving_12 rfl (by decide) rfl rfl (fun c => ?_) (fun c => ?_)
    · replace h := ifp c h
      refine dild_4_2 61 dX4_linksLeaving_60 rfl ?_
      exact dr_ip hF rfl dX4_linksLeaving_61 h
    · replace h := ifn c h
      refine ald_4_0 16 rfl dX4_linksLeaving_15 rfl ?_
      refine dgf_X4_33 19 rfl dX4_linksLeaving_16 rfl ?_
      refine dild_4_3 20 dX4_linksLeaving_19 rfl ?_
      refine dild_4_1 21 dX4_linksLeaving_20 rfl ?_
      obtain ⟨r1, h1, h⟩ := bp_some h
      refine cvi_2 24 cw_X4_185 (S_X0_leavesAt h1) rfl ⟨by decide, by decide⟩ rfl rfl rfl rfl rfl (Nat.le_of_ble_eq_true rfl) dX4_linksLeaving_21 rfl ?_
      refine dt_if_eq 27 54 dX4_linksLeaving_24 rfl (by decide) rfl (fun c => ?_) (fun c => ?_)
      · replace h := ifp c h
        exact A_X4_linksLeaving_54 hF hk4 _ _ _ _ h
      · replace h := ifn c h
        refine dild_4_1 28 dX4_linksLeaving_27 rfl ?_
        refine ald_4_0 29 rfl dX4_linksLeaving_28 rfl ?_
        refine dgf_X4_33 32 rfl dX4_linksLeaving_29 rfl ?_
        refine dgf_X4_150 35 rfl dX4_linksLeaving_32 rfl ?_
        refine dild_4_3 36 dX4_linksLeaving_35 rfl ?_
        obtain ⟨hi, h⟩ := ift h
        refine diald 37 rfl rfl rfl hi rfl rfl dX4_linksLeaving_36 rfl ?_
        refine dt_iadd 38 dX4_linksLeaving_37 rfl ?_
        refine ald_4_0 39 rfl dX4_linksLeaving_38 rfl ?_
        refine dgf_X4_37 42 rfl dX4_linksLeaving_39 rfl ?_
        refine dgf_X4_114 45 rfl dX4_linksLeaving_42 rfl rfl ?_
        refine dt_icmp_gt 48 54 dX4_linksLeaving_45 rfl (by decide) rfl rfl (fun c => ?_) (fun c => ?_)
        · replace h := ifp c h
          exact A_X4_linksLeaving_54 hF hk4 _ _ _ _ h
        · replace h := ifn c h
          refine dild_4_2 49 dX4_linksLeaving_48 rfl ?_
          refine dt_iconst 50 dX4_linksLeaving_49 rfl ?_
          refine dild_4_3 51 dX4_linksLeaving_50 rfl ?_
          refine dt_ishl 52 dX4_linksLeaving_51 rfl ?_
          refine dt_ior 53 dX4_linksLeaving_52 rfl ?_
          refine dist_4_2 54 dX4_linksLeaving_53 rfl rfl rfl ?_
          exact A_X4_linksLeaving_54 hF hk4 _ _ _ _ h
theorem S_X4_linksLeaving {G : Cx} {μ : Mi} {x0 : Bool} {x1 : Int} {r : Int} (h : D_X4_linksLeaving x0 x1 μ = some r) : Spec yd_X4_linksLeaving G [rf G 4 x0, iv x1] (Em μ) (some (iv r)) (Em μ) := by
  refine Spec.of (by decide) rfl (catL_ok rfl) (Nat.le_of_ble_eq_true rfl) rfl (fun b hF => ?_)
  unfold D_X4_linksLeaving at h
  refine dt_iconst 1 dX4_linksLeaving_0 rfl ?_
  refine dist_4_2 2 dX4_linksLeaving_1 rfl rfl rfl ?_
  refine dt_iconst 3 dX4_linksLeaving_2 rfl ?_
  refine dist_4_3 4 dX4_linksLeaving_3 rfl rfl rfl ?_
  exact A_X4_linksLeaving_4 hF FU _ _ _ _ h
/-- StampTales$Search.prepare -/
theorem A_X4_prepare_186 {G : Cx} {b : Ab}  {mm : Mi} (hF : Fi yd_X4_prepare G b none (Em mm)) : ∀ (n : Nat) (x0 : Bool) (x2 : Int) (μ : Mi), B_X4_prepare_186 n x0 x2 μ = some mm → At yd_X4_prepare G b 186 [some (rf G 4 x0), none, some (iv x2), none] [] (Em μ) := by
  intro n
  induction n with
  | zero =>
    intro x0 x2 μ h
    exact nope h
  | succ n hk186 =>
    intro x0 x2 μ h
    replace h : F_X4_prepare_186 (B_X4_prepare_186 n) x0 x2 μ = some mm := h
    unfold F_X4_prepare_186 at h
    refine dild_4_2 187 dX4_prepare_186 rfl ?_
    refine dt_bipush 189 dX4_prepare_187 bq_96 rfl ?_
    refine dt_icmp_gt 192 209 dX4_prepare_189 rfl (by decide) rfl wk_96 (fun c => ?_) (fun c => ?_)
    · replace h := ifp c h
      refine ald_4_0 210 rfl dX4_prepare_209 rfl ?_
      obtain ⟨m1, h1, h⟩ := bm_some h
      refine cvv_0 213 cw_X4_182 (S_X4_listCells h1) rfl ⟨by decide, by decide⟩ rfl rfl rfl rfl rfl (Nat.le_of_ble_eq_true rfl) dX4_prepare_210 rfl ?_
      exact dr_v hF rfl dX4_prepare_213 h
    · replace h := ifn c h
      refine ald_4_0 193 rfl dX4_prepare_192 rfl ?_
      refine dgf_X4_22 196 rfl dX4_prepare_193 rfl ?_
      refine dild_4_2 197 dX4_prepare_196 rfl ?_
      refine ald_4_0 198 rfl dX4_prepare_197 rfl ?_
      refine dild_4_2 199 dX4_prepare_198 rfl ?_
      obtain ⟨r1, h1, h⟩ := bp_some h
      refine cvi_1 202 cw_X4_179 (S_X4_linksLeaving h1) rfl ⟨by decide, by decide⟩ rfl rfl rfl rfl rfl (Nat.le_of_ble_eq_true rfl) dX4_prepare_199 rfl ?_
      obtain ⟨hi, h⟩ := ift h
      refine diast 203 rfl rfl rfl hi rfl dX4_prepare_202 rfl ?_
      refine dinc_4_2 206 dX4_prepare_203 rfl rfl rfl ?_
      refine st_goto 186 dX4_prepare_206 (by decide) ?_
      exact hk186 _ _ _ h
theorem A_X4_prepare_178 {G : Cx} {b : Ab}  {mm : Mi} {k17 : (Bool → Int → Int → Mi → Option Mi)} (hF : Fi yd_X4_prepare G b none (Em mm)) (hk17 : ∀ (x0 : Bool) (x1 : Int) (x2 : Int) (m : Mi), k17 x0 x1 x2 m = some mm → At yd_X4_prepare G b 17 [some (rf G 4 x0), some (iv x1), some (iv x2), none] [] (Em m)) (x0 : Bool) (x1 : Int) (x2 : Int) (μ : Mi) (h : B_X4_prepare_178 k17 x0 x1 x2 μ = some mm) : At yd_X4_prepare G b 178 [some (rf G 4 x0), some (iv x1), some (iv x2), none] [] (Em μ) := by
  unfold B_X4_prepare_178 at h
  refine dinc_4_2 181 dX4_prepare_178 rfl rfl rfl ?_
  refine st_goto 17 dX4_prepare_181 (by decide) ?_
  exact hk17 _ _ _ _ h
theorem A_X4_prepare_131 {G : Cx} {b : Ab}  {mm : Mi} {k17 : (Bool → Int → Int → Mi → Option Mi)} (hF : Fi yd_X4_prepare G b none (Em mm)) (hk17 : ∀ (x0 : Bool) (x1 : Int) (x2 : Int) (m : Mi), k17 x0 x1 x2 m = some mm → At yd_X4_prepare G b 17 [some (rf G 4 x0), some (iv x1), some (iv x2), none] [] (Em m)) (x0 : Bool) (x1 : Int) (x2 : Int) (x3 : Int) (μ : Mi) (h : B_X4_prepare_131 k17 x0 x1 x2 x3 μ = some mm) : At yd_X4_prepare G b 131 [some (rf G 4 x0), some (iv x1), some (iv x2), some (iv x3)] [] (Em μ) := by
  unfold B_X4_prepare_131 at h
  refine dild_4_3 132 dX4_prepare_131 rfl ?_
  refine dt_if_ne 135 178 dX4_prepare_132 rfl (by decide) rfl (fun c => ?_) (fun c => ?_)
  · replace h := ifp c h
    exact At.weak (ls_s (ls_s (ls_s (ls_n ls_0)))) (A_X4_prepare_178 hF hk17 _ _ _ _ h)
  · replace h := ifn c h
    refine ald_4_0 136 rfl dX4_prepare_135 rfl ?_
    refine dgf_X4_37 139 rfl dX4_prepare_136 rfl ?_
    refine dild_4_2 140 dX4_prepare_139 rfl ?_
    refine dt_iconst 141 dX4_prepare_140 rfl ?_
    obtain ⟨r1, h1, h⟩ := bp_some h
    refine cvi_2 144 cw_X4_173 (S_X2_counts h1) rfl ⟨by decide, by decide⟩ rfl rfl rfl rfl rfl (Nat.le_of_ble_eq_true rfl) dX4_prepare_141 rfl ?_
    refine dt_if_eq 147 178 dX4_prepare_144 rfl (by decide) rfl (fun c => ?_) (fun c => ?_)
    · replace h := ifp c h
      exact At.weak (ls_s (ls_s (ls_s (ls_n ls_0)))) (A_X4_prepare_178 hF hk17 _ _ _ _ h)
    · replace h := ifn c h
      refine ald_4_0 148 rfl dX4_prepare_147 rfl ?_
      refine dgf_X4_37 151 rfl dX4_prepare_148 rfl ?_
      refine dgf_X4_176 154 rfl dX4_prepare_151 rfl ?_
      refine dild_4_2 155 dX4_prepare_154 rfl ?_
      obtain ⟨hi, h⟩ := ift h
      refine diald 156 rfl rfl rfl hi rfl rfl dX4_prepare_155 rfl ?_
      refine ald_4_0 157 rfl dX4_prepare_156 rfl ?_
      refine dgf_X4_37 160 rfl dX4_prepare_157 rfl ?_
      refine dgf_X4_114 163 rfl dX4_prepare_160 rfl rfl ?_
      refine dt_icmp_gt 166 178 dX4_prepare_163 rfl (by decide) rfl rfl (fun c => ?_) (fun c => ?_)
      · replace h := ifp c h
        exact At.weak (ls_s (ls_s (ls_s (ls_n ls_0)))) (A_X4_prepare_178 hF hk17 _ _ _ _ h)
      · replace h := ifn c h
        refine ald_4_0 167 rfl dX4_prepare_166 rfl ?_
        refine st_dup 168 dX4_prepare_167 rfl rfl ?_
        refine dgf_X4_170 171 rfl dX4_prepare_168 rfl rfl ?_
        refine dt_iconst 172 dX4_prepare_171 rfl ?_
        refine dild_4_2 173 dX4_prepare_172 rfl ?_
        refine dt_ishl 174 dX4_prepare_173 rfl ?_
        refine dt_ior 175 dX4_prepare_174 rfl ?_
        refine dpf_X4_170 178 rfl dX4_prepare_175 rfl ?_
        exact At.weak (ls_s (ls_s (ls_s (ls_n ls_0)))) (A_X4_prepare_178 hF hk17 _ _ _ _ h)
theorem A_X4_prepare_87 {G : Cx} {b : Ab}  {mm : Mi} {k17 : (Bool → Int → Int → Mi → Option Mi)} (hF : Fi yd_X4_prepare G b none (Em mm)) (hk17 : ∀ (x0 : Bool) (x1 : Int) (x2 : Int) (m : Mi), k17 x0 x1 x2 m = some mm → At yd_X4_prepare G b 17 [some (rf G 4 x0), some (iv x1), some (iv x2), none] [] (Em m)) (x0 : Bool) (x1 : Int) (x2 : Int) (x3 : Int) (μ : Mi) (h : B_X4_prepare_87 k17 x0 x1 x2 x3 μ = some mm) : At yd_X4_prepare G b 87 [some (rf G 4 x0), some (iv x1), some (iv x2), some (iv x3)] [] (Em μ) := by
  unfold B_X4_prepare_87 at h
  refine dild_4_3 88 dX4_prepare_87 rfl ?_
  refine dt_if_ne 91 131 dX4_prepare_88 rfl (by decide) rfl (fun c => ?_) (fun c => ?_)
  · replace h := ifp c h
    exact A_X4_prepare_131 hF hk17 _ _ _ _ _ h
  · replace h := ifn c h
    refine ald_4_0 92 rfl dX4_prepare_91 rfl ?_
    refine dgf_X4_37 95 rfl dX4_prepare_92 rfl ?_
    refine dild_4_2 96 dX4_prepare_95 rfl ?_
    refine dt_iconst 97 dX4_prepare_96 rfl ?_
    obtain ⟨r1, h1, h⟩ := bp_some h
    refine cvi_2 100 cw_X4_173 (S_X2_counts h1) rfl ⟨by decide, by decide⟩ rfl rfl rfl rfl rfl (Nat.le_of_ble_eq_true rfl) dX4_prepare_97 rfl ?_
    refine dt_if_eq 103 131 dX4_prepare_100 rfl (by decide) rfl (fun c => ?_) (fun c => ?_)
    · replace h := ifp c h
      exact A_X4_prepare_131 hF hk17 _ _ _ _ _ h
    · replace h := ifn c h
      refine ald_4_0 104 rfl dX4_prepare_103 rfl ?_
      refine dgf_X4_167 107 rfl dX4_prepare_104 rfl rfl ?_
      refine dt_iconst 108 dX4_prepare_107 rfl ?_
      refine dt_icmp_ge 111 131 dX4_prepare_108 rfl (by decide) rfl wk_2 (fun c => ?_) (fun c => ?_)
      · replace h := ifp c h
        exact A_X4_prepare_131 hF hk17 _ _ _ _ _ h
      · replace h := ifn c h
        refine ald_4_0 112 rfl dX4_prepare_111 rfl ?_
        refine dgf_X4_30 115 rfl dX4_prepare_112 rfl ?_
        refine ald_4_0 116 rfl dX4_prepare_115 rfl ?_
        refine dgf_X4_167 119 rfl dX4_prepare_116 rfl rfl ?_
        refine dild_4_2 120 dX4_prepare_119 rfl ?_
        obtain ⟨hi, h⟩ := ift h
        refine diast 121 rfl rfl rfl hi rfl dX4_prepare_120 rfl ?_
        refine ald_4_0 122 rfl dX4_prepare_121 rfl ?_
        refine st_dup 123 dX4_prepare_122 rfl rfl ?_
        refine dgf_X4_167 126 rfl dX4_prepare_123 rfl (rd_o (by decide)) ?_
        refine dt_iconst 127 dX4_prepare_126 rfl ?_
        refine dt_iadd 128 dX4_prepare_127 rfl ?_
        refine dpf_X4_167 131 rfl dX4_prepare_128 rfl ?_
        exact A_X4_prepare_131 hF hk17 _ _ _ _ _ h
theorem A_X4_prepare_41 {G : Cx} {b : Ab}  {mm : Mi} {k17 : (Bool → Int → Int → Mi → Option Mi)} (hF : Fi yd_X4_prepare G b none (Em mm)) (hk17 : ∀ (x0 : Bool) (x1 : Int) (x2 : Int) (m : Mi), k17 x0 x1 x2 m = some mm → At yd_X4_prepare G b 17 [some (rf G 4 x0), some (iv x1), some (iv x2), none] [] (Em m)) (x0 : Bool) (x1 : Int) (x2 : Int) (s0 : Int) (μ : Mi) (h : B_X4_prepare_41 k17 x0 x1 x2 s0 μ = some mm) : At yd_X4_prepare G b 41 [some (rf G 4 x0), some (iv x1), some (iv x2), none] [iv s0] (Em μ) := by
  unfold B_X4_prepare_41 at h
  refine dist_4_3 42 dX4_prepare_41 rfl rfl rfl ?_
  refine dild_4_3 43 dX4_prepare_42 rfl ?_
  refine dt_if_ne 46 87 dX4_prepare_43 rfl (by decide) rfl (fun c => ?_) (fun c => ?_)
  · replace h := ifp c h
    exact A_X4_prepare_87 hF hk17 _ _ _ _ _ h
  · replace h := ifn c h
    refine ald_4_0 47 rfl dX4_prepare_46 rfl ?_
    refine dgf_X4_37 50 rfl dX4_prepare_47 rfl ?_
    refine dild_4_2 51 dX4_prepare_50 rfl ?_
    refine dt_iconst 52 dX4_prepare_51 rfl ?_
    obtain ⟨r1, h1, h⟩ := bp_some h
    refine cvi_2 55 cw_X4_173 (S_X2_counts h1) rfl ⟨by decide, by decide⟩ rfl rfl rfl rfl rfl (Nat.le_of_ble_eq_true rfl) dX4_prepare_52 rfl ?_
    refine dt_if_eq 58 87 dX4_prepare_55 rfl (by decide) rfl (fun c => ?_) (fun c => ?_)
    · replace h := ifp c h
      exact A_X4_prepare_87 hF hk17 _ _ _ _ _ h
    · replace h := ifn c h
      refine ald_4_0 59 rfl dX4_prepare_58 rfl ?_
      refine dgf_X4_164 62 rfl dX4_prepare_59 rfl rfl ?_
      refine dt_bipush 64 dX4_prepare_62 bq_6 rfl ?_
      refine dt_icmp_ge 67 87 dX4_prepare_64 rfl (by decide) rfl wk_6 (fun c => ?_) (fun c => ?_)
      · replace h := ifp c h
        exact A_X4_prepare_87 hF hk17 _ _ _ _ _ h
      · replace h := ifn c h
        refine ald_4_0 68 rfl dX4_prepare_67 rfl ?_
        refine dgf_X4_27 71 rfl dX4_prepare_68 rfl ?_
        refine ald_4_0 72 rfl dX4_prepare_71 rfl ?_
        refine dgf_X4_164 75 rfl dX4_prepare_72 rfl rfl ?_
        refine dild_4_2 76 dX4_prepare_75 rfl ?_
        obtain ⟨hi, h⟩ := ift h
        refine diast 77 rfl rfl rfl hi rfl dX4_prepare_76 rfl ?_
        refine ald_4_0 78 rfl dX4_prepare_77 rfl ?_
        refine st_dup 79 dX4_prepare_78 rfl rfl ?_
        refine dgf_X4_164 82 rfl dX4_prepare_79 rfl (rd_o (by decide)) ?_
        refine dt_iconst 83 dX4_prepare_82 rfl ?_
        refine dt_iadd 84 dX4_prepare_83 rfl ?_
        refine dpf_X4_164 87 rfl dX4_prepare_84 rfl ?_
        exact A_X4_prepare_87 hF hk17 _ _ _ _ _ h
theorem A_X4_prepare_17 {G : Cx} {b : Ab}  {mm : Mi} (hF : Fi yd_X4_prepare G b none (Em mm)) : ∀ (n : Nat) (x0 : Bool) (x1 : Int) (x2 : Int) (μ : Mi), B_X4_prepare_17 n x0 x1 x2 μ = some mm → At yd_X4_prepare G b 17 [some (rf G 4 x0), some (iv x1), some (iv x2), none] [] (Em μ) := by
  intro n
  induction n with
  | zero =>
    intro x0 x1 x2 μ h
    exact nope h
  | succ n hk17 =>
    intro x0 x1 x2 μ h
    replace h : F_X4_prepare_17 (B_X4_prepare_17 n) x0 x1 x2 μ = some mm := h
    unfold F_X4_prepare_17 at h
    refine dild_4_2 18 dX4_prepare_17 rfl ?_
    refine ald_4_0 19 rfl dX4_prepare_18 rfl ?_
    refine dgf_X4_37 22 rfl dX4_prepare_19 rfl ?_
    refine dgf_X4_87 25 rfl dX4_prepare_22 rfl rfl ?_
    refine dt_icmp_ge 28 184 dX4_prepare_25 rfl (by decide) rfl rfl (fun c => ?_) (fun c => ?_)
    · replace h := ifp c h
      refine dt_iconst 185 dX4_prepare_184 rfl ?_
      refine dist_4_2 186 dX4_prepare_185 rfl rfl rfl ?_
      exact At.weak (ls_s (ls_n (ls_s (ls_n ls_0)))) (A_X4_prepare_186 hF FU _ _ _ h)
    · replace h := ifn c h
      refine dild_4_1 29 dX4_prepare_28 rfl ?_
      refine dild_4_2 30 dX4_prepare_29 rfl ?_
      refine dt_ishr 31 dX4_prepare_30 rfl ?_
      refine dt_iconst 32 dX4_prepare_31 rfl ?_
      refine dt_iand 33 dX4_prepare_32 rfl ?_
      refine dt_if_eq 36 40 dX4_prepare_33 rfl (by decide) rfl (fun c => ?_) (fun c => ?_)
      · replace h := ifp c h
        refine dt_iconst 41 dX4_prepare_40 rfl ?_
        exact A_X4_prepare_41 hF hk17 _ _ _ _ _ h
      · replace h := ifn c h
        refine dt_iconst 37 dX4_prepare_36 rfl ?_
        refine st_goto 41 dX4_prepare_37 (by decide) ?_
        exact A_X4_prepare_41 hF hk17 _ _ _ _ _ h
theorem S_X4_prepare {G : Cx} {μ : Mi} {x0 : Bool} {x1 : Int}  {mm : Mi} (h : D_X4_prepare x0 x1 μ = some mm) : Spec yd_X4_prepare G [rf G 4 x0, iv x1] (Em μ) (none) (Em mm) := by
  refine Spec.of (by decide) rfl (catL_ok rfl) (Nat.le_of_ble_eq_true rfl) rfl (fun b hF => ?_)
  unfold D_X4_prepare at h
  refine ald_4_0 1 rfl dX4_prepare_0 rfl ?_
  refine dt_iconst 2 dX4_prepare_1 rfl ?_
  refine dpf_X4_164 5 rfl dX4_prepare_2 rfl ?_
  refine ald_4_0 6 rfl dX4_prepare_5 rfl ?_
  refine dt_iconst 7 dX4_prepare_6 rfl ?_
  refine dpf_X4_167 10 rfl dX4_prepare_7 rfl ?_
  refine ald_4_0 11 rfl dX4_prepare_10 rfl ?_
  refine dt_iconst 12 dX4_prepare_11 rfl ?_
  refine dpf_X4_170 15 rfl dX4_prepare_12 rfl ?_
  refine dt_iconst 16 dX4_prepare_15 rfl ?_
  refine dist_4_2 17 dX4_prepare_16 rfl rfl rfl ?_
  exact A_X4_prepare_17 hF FU _ _ _ _ h
/-- StampTales$Search.mostSlept -/
theorem S_X4_mostSlept {G : Cx} {μ : Mi} (x0 : Bool) (x1 : Int) : Spec yd_X4_mostSlept G [rf G 4 x0, iv x1] (Em μ) (some (iv (D_X4_mostSlept x0 x1 μ))) (Em μ) := by
  generalize h : D_X4_mostSlept x0 x1 μ = r
  refine Spec.of (by decide) rfl (catL_ok rfl) (Nat.le_of_ble_eq_true rfl) rfl (fun b hF => ?_)
  unfold D_X4_mostSlept at h
  refine dild_3_1 1 dX4_mostSlept_0 rfl ?_
  refine dt_bipush 3 dX4_mostSlept_1 bq_24 rfl ?_
  refine dt_irem 4 dX4_mostSlept_3 (by rw [wk_24]; decide) rfl ?_
  refine dist_3_2 5 dX4_mostSlept_4 rfl rfl rfl ?_
  refine dild_3_2 6 dX4_mostSlept_5 rfl ?_
  refine dt_bipush 8 dX4_mostSlept_6 bq_8 rfl ?_
  refine dt_icmp_ge 11 25 dX4_mostSlept_8 rfl (by decide) rfl wk_8 (fun c => ?_) (fun c => ?_)
  · replace h := ifp c h
    refine dt_iconst 26 dX4_mostSlept_25 rfl ?_
    exact dr_it hF rfl dX4_mostSlept_26 h
  · replace h := ifn c h
    refine ald_3_0 12 rfl dX4_mostSlept_11 rfl ?_
    refine dgf_X4_37 15 rfl dX4_mostSlept_12 rfl ?_
    refine dgf_X4_240 18 rfl dX4_mostSlept_15 rfl rfl ?_
    refine dild_3_2 19 dX4_mostSlept_18 rfl ?_
    refine dmmin 22 rfl cw_X4_231 ⟨by decide, by decide⟩ (Nat.le_of_ble_eq_true rfl) dX4_mostSlept_19 rfl ?_
    refine st_goto 26 dX4_mostSlept_22 (by decide) ?_
    exact dr_it hF rfl dX4_mostSlept_26 h
/-- StampTales$Search.index -/
theorem S_X4_index {G : Cx} {μ : Mi} (x0 : Int) (x1 : Int) : Spec yd_X4_index G [iv x0, iv x1] (Em μ) (some (iv (D_X4_index x0 x1))) (Em μ) := by
  generalize h : D_X4_index x0 x1 = r
  refine Spec.of (by decide) rfl (catL_ok rfl) (Nat.le_of_ble_eq_true rfl) rfl (fun b hF => ?_)
  unfold D_X4_index at h
  refine dild_4_0 1 dX4_index_0 rfl ?_
  refine dt_bipush 3 dX4_index_1 bq_24 rfl ?_
  refine dt_irem 4 dX4_index_3 (by rw [wk_24]; decide) rfl ?_
  refine dist_4_2 5 dX4_index_4 rfl rfl rfl ?_
  refine dild_4_0 6 dX4_index_5 rfl ?_
  refine dt_bipush 8 dX4_index_6 bq_24 rfl ?_
  refine dt_idiv 9 dX4_index_8 (by rw [wk_24]; decide) rfl ?_
  refine dt_bipush 11 dX4_index_9 bq_52 rfl ?_
  refine dt_imul 12 dX4_index_11 rfl ?_
  refine dild_4_2 13 dX4_index_12 rfl ?_
  refine dt_iadd 14 dX4_index_13 rfl ?_
  refine dist_4_3 15 dX4_index_14 rfl rfl rfl ?_
  refine dild_4_3 16 dX4_index_15 rfl ?_
  refine dt_iconst 17 dX4_index_16 rfl ?_
  refine dt_iconst 18 dX4_index_17 rfl ?_
  refine dild_4_2 19 dX4_index_18 rfl ?_
  refine dt_bipush 21 dX4_index_19 bq_8 rfl ?_
  refine dmmin 24 rfl cw_X4_231 ⟨by decide, by decide⟩ (Nat.le_of_ble_eq_true rfl) dX4_index_21 rfl ?_
  refine dt_iconst 25 dX4_index_24 rfl ?_
  refine dt_isub 26 dX4_index_25 rfl ?_
  refine dmmax 29 rfl cw_X4_101 ⟨by decide, by decide⟩ (Nat.le_of_ble_eq_true rfl) dX4_index_26 rfl ?_
  refine dt_imul 30 dX4_index_29 rfl ?_
  refine dt_iadd 31 dX4_index_30 rfl ?_
  refine dist_4_3 32 dX4_index_31 rfl rfl rfl ?_
  refine dild_4_3 33 dX4_index_32 rfl ?_
  refine dt_sipush 36 dX4_index_33 sq_256 rfl ?_
  refine dt_imul 37 dX4_index_36 rfl ?_
  refine dild_4_1 38 dX4_index_37 rfl ?_
  refine dt_iadd 39 dX4_index_38 rfl ?_
  exact dr_it hF rfl dX4_index_39 h
/-- StampTales$Search.townOf -/
theorem S_X4_townOf {G : Cx} {μ : Mi} (x0 : Int) : Spec yd_X4_townOf G [iv x0] (Em μ) (some (iv (D_X4_townOf x0))) (Em μ) := by
  generalize h : D_X4_townOf x0 = r
  refine Spec.of (by decide) rfl (catL_ok rfl) (Nat.le_of_ble_eq_true rfl) rfl (fun b hF => ?_)
  unfold D_X4_townOf at h
  refine dild_1_0 1 dX4_townOf_0 rfl ?_
  refine dt_bipush 3 dX4_townOf_1 bq_32 rfl ?_
  refine dt_idiv 4 dX4_townOf_3 (by rw [wk_32]; decide) rfl ?_
  refine dt_bipush 6 dX4_townOf_4 bq_8 rfl ?_
  refine dt_irem 7 dX4_townOf_6 (by rw [wk_8]; decide) rfl ?_
  exact dr_it hF rfl dX4_townOf_7 h
/-- StampTales$Search.seenAt -/
theorem A_X4_seenAt_72 {G : Cx} {b : Ab} {μ : Mi} {r : Int} {k5 : (Bool → Int → Int → Int → Int → Mi → Option Int)} (hF : Fi yd_X4_seenAt G b (some (iv r)) (Em μ)) (hk5 : ∀ (x0 : Bool) (x1 : Int) (x2 : Int) (x3 : Int) (x4 : Int), k5 x0 x1 x2 x3 x4 μ = some r → At yd_X4_seenAt G b 5 [some (rf G 4 x0), some (iv x1), some (iv x2), some (iv x3), some (iv x4), none] [] (Em μ)) (x0 : Bool) (x1 : Int) (x2 : Int) (x3 : Int) (x4 : Int) (h : B_X4_seenAt_72 k5 x0 x1 x2 x3 x4 μ = some r) : At yd_X4_seenAt G b 72 [some (rf G 4 x0), some (iv x1), some (iv x2), some (iv x3), some (iv x4), none] [] (Em μ) := by
  unfold B_X4_seenAt_72 at h
  refine dinc_6_4 75 dX4_seenAt_72 rfl rfl rfl ?_
  refine st_goto 5 dX4_seenAt_75 (by decide) ?_
  exact hk5 _ _ _ _ _ h
theorem A_X4_seenAt_5 {G : Cx} {b : Ab} {μ : Mi} {r : Int} (hF : Fi yd_X4_seenAt G b (some (iv r)) (Em μ)) : ∀ (n : Nat) (x0 : Bool) (x1 : Int) (x2 : Int) (x3 : Int) (x4 : Int), B_X4_seenAt_5 n x0 x1 x2 x3 x4 μ = some r → At yd_X4_seenAt G b 5 [some (rf G 4 x0), some (iv x1), some (iv x2), some (iv x3), some (iv x4), none] [] (Em μ) := by
  intro n
  induction n with
  | zero =>
    intro x0 x1 x2 x3 x4 h
    exact nope h
  | succ n hk5 =>
    intro x0 x1 x2 x3 x4 h
    replace h : F_X4_seenAt_5 (B_X4_seenAt_5 n) x0 x1 x2 x3 x4 μ = some r := h
    unfold F_X4_seenAt_5 at h
    refine dild_6_4 7 dX4_seenAt_5 rfl ?_
    refine ald_6_0 8 rfl dX4_seenAt_7 rfl ?_
    refine dgf_X4_167 11 rfl dX4_seenAt_8 rfl rfl ?_
    refine dt_icmp_ge 14 78 dX4_seenAt_11 rfl (by decide) rfl rfl (fun c => ?_) (fun c => ?_)
    · replace h := ifp c h
      refine dild_6_3 79 dX4_seenAt_78 rfl ?_
      exact dr_ip hF rfl dX4_seenAt_79 h
    · replace h := ifn c h
      refine ald_6_0 15 rfl dX4_seenAt_14 rfl ?_
      refine dgf_X4_30 18 rfl dX4_seenAt_15 rfl ?_
      refine dild_6_4 20 dX4_seenAt_18 rfl ?_
      obtain ⟨hi, h⟩ := ift h
      refine diald 21 rfl rfl rfl hi rfl rfl dX4_seenAt_20 rfl ?_
      refine dist_6_5 23 dX4_seenAt_21 rfl rfl rfl ?_
      refine ald_6_0 24 rfl dX4_seenAt_23 rfl ?_
      refine dgf_X4_37 27 rfl dX4_seenAt_24 rfl ?_
      refine dgf_X4_259 30 rfl dX4_seenAt_27 rfl ?_
      refine dild_6_5 32 dX4_seenAt_30 rfl ?_
      obtain ⟨hi, h⟩ := ift h
      refine diald 33 rfl rfl rfl hi rfl rfl dX4_seenAt_32 rfl ?_
      refine dild_6_2 34 dX4_seenAt_33 rfl ?_
      refine dt_icmp_ne 37 72 dX4_seenAt_34 rfl (by decide) rfl rfl (fun c => ?_) (fun c => ?_)
      · replace h := ifp c h
        exact At.weak (ls_s (ls_s (ls_s (ls_s (ls_s (ls_n ls_0)))))) (A_X4_seenAt_72 hF hk5 _ _ _ _ _ h)
      · replace h := ifn c h
        refine dild_6_1 38 dX4_seenAt_37 rfl ?_
        refine ald_6_0 39 rfl dX4_seenAt_38 rfl ?_
        refine dgf_X4_37 42 rfl dX4_seenAt_39 rfl ?_
        refine dgf_X4_176 45 rfl dX4_seenAt_42 rfl ?_
        refine dild_6_5 47 dX4_seenAt_45 rfl ?_
        obtain ⟨hi, h⟩ := ift h
        refine diald 48 rfl rfl rfl hi rfl rfl dX4_seenAt_47 rfl ?_
        refine dt_icmp_lt 51 72 dX4_seenAt_48 rfl (by decide) rfl rfl (fun c => ?_) (fun c => ?_)
        · replace h := ifp c h
          exact At.weak (ls_s (ls_s (ls_s (ls_s (ls_s (ls_n ls_0)))))) (A_X4_seenAt_72 hF hk5 _ _ _ _ _ h)
        · replace h := ifn c h
          refine dild_6_1 52 dX4_seenAt_51 rfl ?_
          refine ald_6_0 53 rfl dX4_seenAt_52 rfl ?_
          refine dgf_X4_37 56 rfl dX4_seenAt_53 rfl ?_
          refine dgf_X4_262 59 rfl dX4_seenAt_56 rfl ?_
          refine dild_6_5 61 dX4_seenAt_59 rfl ?_
          obtain ⟨hi, h⟩ := ift h
          refine diald 62 rfl rfl rfl hi rfl rfl dX4_seenAt_61 rfl ?_
          refine dt_icmp_gt 65 72 dX4_seenAt_62 rfl (by decide) rfl rfl (fun c => ?_) (fun c => ?_)
          · replace h := ifp c h
            exact At.weak (ls_s (ls_s (ls_s (ls_s (ls_s (ls_n ls_0)))))) (A_X4_seenAt_72 hF hk5 _ _ _ _ _ h)
          · replace h := ifn c h
            refine dild_6_3 66 dX4_seenAt_65 rfl ?_
            refine dt_iconst 67 dX4_seenAt_66 rfl ?_
            refine dild_6_4 69 dX4_seenAt_67 rfl ?_
            refine dt_ishl 70 dX4_seenAt_69 rfl ?_
            refine dt_ior 71 dX4_seenAt_70 rfl ?_
            refine dist_6_3 72 dX4_seenAt_71 rfl rfl rfl ?_
            exact At.weak (ls_s (ls_s (ls_s (ls_s (ls_s (ls_n ls_0)))))) (A_X4_seenAt_72 hF hk5 _ _ _ _ _ h)
theorem S_X4_seenAt {G : Cx} {μ : Mi} {x0 : Bool} {x1 : Int} {x2 : Int} {r : Int} (h : D_X4_seenAt x0 x1 x2 μ = some r) : Spec yd_X4_seenAt G [rf G 4 x0, iv x1, iv x2] (Em μ) (some (iv r)) (Em μ) := by
  refine Spec.of (by decide) rfl (catL_ok rfl) (Nat.le_of_ble_eq_true rfl) rfl (fun b hF => ?_)
  unfold D_X4_seenAt at h
  refine dt_iconst 1 dX4_seenAt_0 rfl ?_
  refine dist_6_3 2 dX4_seenAt_1 rfl rfl rfl ?_
  refine dt_iconst 3 dX4_seenAt_2 rfl ?_
  refine dist_6_4 5 dX4_seenAt_3 rfl rfl rfl ?_
  exact A_X4_seenAt_5 hF FU _ _ _ _ _ h
/-- StampTales$Search.afterStay -/
theorem A_X4_afterStay_57 {G : Cx} {b : Ab} {μ : Mi} {r : Int} (hF : Fi yd_X4_afterStay G b (some (iv r)) (Em μ)) (x0 : Bool) (x1 : Int) (x2 : Int) (x3 : Int) (h : B_X4_afterStay_57 x0 x1 x2 x3 μ = some r) : At yd_X4_afterStay G b 57 [some (rf G 4 x0), some (iv x1), some (iv x2), some (iv x3), none] [] (Em μ) := by
  unfold B_X4_afterStay_57 at h
  refine dild_5_3 58 dX4_afterStay_57 rfl ?_
  refine dt_if_ge 61 65 dX4_afterStay_58 rfl (by decide) rfl (fun c => ?_) (fun c => ?_)
  · replace h := ifp c h
    refine dild_5_3 66 dX4_afterStay_65 rfl ?_
    refine dt_sipush 69 dX4_afterStay_66 sq_256 rfl ?_
    refine dt_imul 70 dX4_afterStay_69 rfl ?_
    refine dild_5_2 71 dX4_afterStay_70 rfl ?_
    refine dt_sipush 74 dX4_afterStay_71 sq_256 rfl ?_
    refine dt_irem 75 dX4_afterStay_74 (by rw [wk_256]; decide) rfl ?_
    refine dt_iadd 76 dX4_afterStay_75 rfl ?_
    refine ald_5_0 77 rfl dX4_afterStay_76 rfl ?_
    refine dild_5_1 78 dX4_afterStay_77 rfl ?_
    refine dt_iconst 79 dX4_afterStay_78 rfl ?_
    refine dt_iadd 80 dX4_afterStay_79 rfl ?_
    refine dild_5_2 81 dX4_afterStay_80 rfl ?_
    refine csi_1 84 cw_X4_132 (S_X4_townOf x2) rfl ⟨by decide, by decide⟩ (Nat.le_of_ble_eq_true rfl) dX4_afterStay_81 rfl ?_
    obtain ⟨r2, h2, h⟩ := bp_some h
    refine cvi_2 87 cw_X4_243 (S_X4_seenAt h2) rfl ⟨by decide, by decide⟩ rfl rfl rfl rfl rfl (Nat.le_of_ble_eq_true rfl) dX4_afterStay_84 rfl ?_
    refine dt_ior 88 dX4_afterStay_87 rfl ?_
    exact dr_ip hF rfl dX4_afterStay_88 h
  · replace h := ifn c h
    refine dt_iconst 62 dX4_afterStay_61 rfl ?_
    refine st_goto 88 dX4_afterStay_62 (by decide) ?_
    exact dr_ip hF rfl dX4_afterStay_88 h
theorem A_X4_afterStay_56 {G : Cx} {b : Ab} {μ : Mi} {r : Int} (hF : Fi yd_X4_afterStay G b (some (iv r)) (Em μ)) (x0 : Bool) (x1 : Int) (x2 : Int) (s0 : Int) (h : B_X4_afterStay_56 x0 x1 x2 s0 μ = some r) : At yd_X4_afterStay G b 56 [some (rf G 4 x0), some (iv x1), some (iv x2), none, none] [iv s0] (Em μ) := by
  unfold B_X4_afterStay_56 at h
  refine dist_5_3 57 dX4_afterStay_56 rfl rfl rfl ?_
  exact A_X4_afterStay_57 hF _ _ _ _ h
theorem A_X4_afterStay_33 {G : Cx} {b : Ab} {μ : Mi} {r : Int} (hF : Fi yd_X4_afterStay G b (some (iv r)) (Em μ)) (x0 : Bool) (x1 : Int) (x2 : Int) (x3 : Int) (x4 : Int) (h : B_X4_afterStay_33 x0 x1 x2 x3 x4 μ = some r) : At yd_X4_afterStay G b 33 [some (rf G 4 x0), some (iv x1), some (iv x2), some (iv x3), some (iv x4)] [] (Em μ) := by
  unfold B_X4_afterStay_33 at h
  refine dild_5_4 35 dX4_afterStay_33 rfl ?_
  refine dt_bipush 37 dX4_afterStay_35 bq_7 rfl ?_
  refine dt_icmp_ne 40 57 dX4_afterStay_37 rfl (by decide) rfl wk_7 (fun c => ?_) (fun c => ?_)
  · replace h := ifp c h
    exact At.weak (ls_s (ls_s (ls_s (ls_s (ls_n ls_0))))) (A_X4_afterStay_57 hF _ _ _ _ h)
  · replace h := ifn c h
    refine dild_5_3 41 dX4_afterStay_40 rfl ?_
    refine ald_5_0 42 rfl dX4_afterStay_41 rfl ?_
    refine dgf_X4_37 45 rfl dX4_afterStay_42 rfl ?_
    refine dgf_X4_240 48 rfl dX4_afterStay_45 rfl rfl ?_
    refine dt_icmp_ge 51 55 dX4_afterStay_48 rfl (by decide) rfl rfl (fun c => ?_) (fun c => ?_)
    · replace h := ifp c h
      refine dt_iconst 56 dX4_afterStay_55 rfl ?_
      exact At.weak (ls_s (ls_s (ls_s (ls_n (ls_n ls_0))))) (A_X4_afterStay_56 hF _ _ _ _ h)
    · replace h := ifn c h
      refine dt_iconst 52 dX4_afterStay_51 rfl ?_
      refine st_goto 56 dX4_afterStay_52 (by decide) ?_
      exact At.weak (ls_s (ls_s (ls_s (ls_n (ls_n ls_0))))) (A_X4_afterStay_56 hF _ _ _ _ h)
theorem S_X4_afterStay {G : Cx} {μ : Mi} {x0 : Bool} {x1 : Int} {x2 : Int} {r : Int} (h : D_X4_afterStay x0 x1 x2 μ = some r) : Spec yd_X4_afterStay G [rf G 4 x0, iv x1, iv x2] (Em μ) (some (iv r)) (Em μ) := by
  refine Spec.of (by decide) rfl (catL_ok rfl) (Nat.le_of_ble_eq_true rfl) rfl (fun b hF => ?_)
  unfold D_X4_afterStay at h
  refine dild_5_2 1 dX4_afterStay_0 rfl ?_
  refine dt_sipush 4 dX4_afterStay_1 sq_256 rfl ?_
  refine dt_idiv 5 dX4_afterStay_4 (by rw [wk_256]; decide) rfl ?_
  refine dist_5_3 6 dX4_afterStay_5 rfl rfl rfl ?_
  refine dild_5_1 7 dX4_afterStay_6 rfl ?_
  refine dt_bipush 9 dX4_afterStay_7 bq_24 rfl ?_
  refine dt_irem 10 dX4_afterStay_9 (by rw [wk_24]; decide) rfl ?_
  refine dist_5_4 12 dX4_afterStay_10 rfl rfl rfl ?_
  refine dild_5_4 14 dX4_afterStay_12 rfl ?_
  refine dt_bipush 16 dX4_afterStay_14 bq_8 rfl ?_
  refine dt_icmp_ge 19 33 dX4_afterStay_16 rfl (by decide) rfl wk_8 (fun c => ?_) (fun c => ?_)
  · replace h := ifp c h
    exact A_X4_afterStay_33 hF _ _ _ _ _ h
  · replace h := ifn c h
    refine ald_5_0 20 rfl dX4_afterStay_19 rfl ?_
    refine dgf_X4_37 23 rfl dX4_afterStay_20 rfl ?_
    refine dgf_X4_240 26 rfl dX4_afterStay_23 rfl rfl ?_
    refine dild_5_3 27 dX4_afterStay_26 rfl ?_
    refine dt_iconst 28 dX4_afterStay_27 rfl ?_
    refine dt_iadd 29 dX4_afterStay_28 rfl ?_
    refine dmmin 32 rfl cw_X4_231 ⟨by decide, by decide⟩ (Nat.le_of_ble_eq_true rfl) dX4_afterStay_29 rfl ?_
    refine dist_5_3 33 dX4_afterStay_32 rfl rfl rfl ?_
    exact A_X4_afterStay_33 hF _ _ _ _ _ h
/-- StampTales$Search.valueByStay -/
theorem S_X4_valueByStay {G : Cx} {μ : Mi} {x0 : Bool} {x1 : Int} {x2 : Int} {r : Int} (h : D_X4_valueByStay x0 x1 x2 μ = some r) : Spec yd_X4_valueByStay G [rf G 4 x0, iv x1, iv x2] (Em μ) (some (iv r)) (Em μ) := by
  refine Spec.of (by decide) rfl (catL_ok rfl) (Nat.le_of_ble_eq_true rfl) rfl (fun b hF => ?_)
  unfold D_X4_valueByStay at h
  refine ald_4_0 1 rfl dX4_valueByStay_0 rfl ?_
  refine dild_4_1 2 dX4_valueByStay_1 rfl ?_
  refine dild_4_2 3 dX4_valueByStay_2 rfl ?_
  obtain ⟨r1, h1, h⟩ := bp_some h
  refine cvi_2 6 cw_X4_135 (S_X4_afterStay h1) rfl ⟨by decide, by decide⟩ rfl rfl rfl rfl rfl (Nat.le_of_ble_eq_true rfl) dX4_valueByStay_3 rfl ?_
  refine dist_4_3 7 dX4_valueByStay_6 rfl rfl rfl ?_
  refine dild_4_3 8 dX4_valueByStay_7 rfl ?_
  refine dt_if_ge 11 15 dX4_valueByStay_8 rfl (by decide) rfl (fun c => ?_) (fun c => ?_)
  · replace h := ifp c h
    refine ald_4_0 16 rfl dX4_valueByStay_15 rfl ?_
    refine dgf_X4_41 19 rfl dX4_valueByStay_16 rfl ?_
    refine dild_4_1 20 dX4_valueByStay_19 rfl ?_
    refine dt_iconst 21 dX4_valueByStay_20 rfl ?_
    refine dt_iadd 22 dX4_valueByStay_21 rfl ?_
    refine dild_4_3 23 dX4_valueByStay_22 rfl ?_
    refine csi_2 26 cw_X4_124 (S_X4_index (x1 + 1) r1) rfl ⟨by decide, by decide⟩ (Nat.le_of_ble_eq_true rfl) dX4_valueByStay_23 rfl ?_
    obtain ⟨hi, h⟩ := ift h
    refine diald 27 rfl rfl rfl hi rfl rfl dX4_valueByStay_26 rfl ?_
    exact dr_ip hF rfl dX4_valueByStay_27 h
  · replace h := ifn c h
    refine dt_iconst 12 dX4_valueByStay_11 rfl ?_
    refine st_goto 27 dX4_valueByStay_12 (by decide) ?_
    exact dr_ip hF rfl dX4_valueByStay_27 h
/-- StampTales$Search.stampsOf -/
theorem S_X4_stampsOf {G : Cx} {μ : Mi} (x0 : Int) : Spec yd_X4_stampsOf G [iv x0] (Em μ) (some (iv (D_X4_stampsOf x0))) (Em μ) := by
  generalize h : D_X4_stampsOf x0 = r
  refine Spec.of (by decide) rfl (catL_ok rfl) (Nat.le_of_ble_eq_true rfl) rfl (fun b hF => ?_)
  unfold D_X4_stampsOf at h
  refine dild_1_0 1 dX4_stampsOf_0 rfl ?_
  refine dt_bipush 3 dX4_stampsOf_1 bq_32 rfl ?_
  refine dt_irem 4 dX4_stampsOf_3 (by rw [wk_32]; decide) rfl ?_
  refine dt_iconst 5 dX4_stampsOf_4 rfl ?_
  refine dt_idiv 6 dX4_stampsOf_5 (by rw [wk_4]; decide) rfl ?_
  exact dr_it hF rfl dX4_stampsOf_6 h
/-- StampTales$Search.charge -/
theorem S_X4_charge {G : Cx} {μ : Mi} (x0 : Bool) (x1 : Int) (x2 : Int) : Spec yd_X4_charge G [rf G 4 x0, iv x1, iv x2] (Em μ) (some (iv (D_X4_charge x0 x1 x2 μ))) (Em μ) := by
  generalize h : D_X4_charge x0 x1 x2 μ = r
  refine Spec.of (by decide) rfl (catL_ok rfl) (Nat.le_of_ble_eq_true rfl) rfl (fun b hF => ?_)
  unfold D_X4_charge at h
  refine dild_3_1 1 dX4_charge_0 rfl ?_
  refine dt_if_lt 4 8 dX4_charge_1 rfl (by decide) rfl (fun c => ?_) (fun c => ?_)
  · replace h := ifp c h
    refine dild_3_1 9 dX4_charge_8 rfl ?_
    exact dr_it hF rfl dX4_charge_9 h
  · replace h := ifn c h
    refine dild_3_2 5 dX4_charge_4 rfl ?_
    refine dt_if_ne 8 10 dX4_charge_5 rfl (by decide) rfl (fun c => ?_) (fun c => ?_)
    · replace h := ifp c h
      refine ald_3_0 11 rfl dX4_charge_10 rfl ?_
      refine dgf_X4_194 14 rfl dX4_charge_11 rfl rfl ?_
      refine dt_iconst 15 dX4_charge_14 rfl ?_
      refine dt_icmp_ne 18 33 dX4_charge_15 rfl (by decide) rfl wk_5 (fun c => ?_) (fun c => ?_)
      · replace h := ifp c h
        refine dt_iconst 34 dX4_charge_33 rfl ?_
        exact dr_it hF rfl dX4_charge_34 h
      · replace h := ifn c h
        refine dild_3_1 19 dX4_charge_18 rfl ?_
        refine dild_3_2 20 dX4_charge_19 rfl ?_
        refine csi_1 23 cw_X4_234 (S_J6_bitCount_0f7a4 x2) rfl ⟨by decide, by decide⟩ (Nat.le_of_ble_eq_true rfl) dX4_charge_20 rfl ?_
        refine dt_sipush 26 dX4_charge_23 sq_256 rfl ?_
        refine dt_imul 27 dX4_charge_26 rfl ?_
        refine dt_iadd 28 dX4_charge_27 rfl ?_
        refine dild_3_2 29 dX4_charge_28 rfl ?_
        refine dt_iadd 30 dX4_charge_29 rfl ?_
        refine st_goto 34 dX4_charge_30 (by decide) ?_
        exact dr_it hF rfl dX4_charge_34 h
    · replace h := ifn c h
      refine dild_3_1 9 dX4_charge_8 rfl ?_
      exact dr_it hF rfl dX4_charge_9 h
/-- StampTales$Search.valueAtEnd -/
theorem A_X4_valueAtEnd_64 {G : Cx} {b : Ab} {μ : Mi} {r : Int} (hF : Fi yd_X4_valueAtEnd G b (some (iv r)) (Em μ)) (x2 : Int) (s0 : Int) (x0 : Bool) (h : B_X4_valueAtEnd_64 x2 s0 x0 μ = some r) : At yd_X4_valueAtEnd G b 64 [none, none, some (iv x2), none] [iv s0, rf G 4 x0] (Em μ) := by
  unfold B_X4_valueAtEnd_64 at h
  refine dild_4_2 65 dX4_valueAtEnd_64 rfl ?_
  refine cvi_2 68 cw_X4_212 (S_X4_charge x0 s0 x2) rfl ⟨by decide, by decide⟩ rfl rfl rfl rfl rfl (Nat.le_of_ble_eq_true rfl) dX4_valueAtEnd_65 rfl ?_
  exact dr_ip hF rfl dX4_valueAtEnd_68 h
theorem A_X4_valueAtEnd_44 {G : Cx} {b : Ab} {μ : Mi} {r : Int} {k17 : (Bool → Int → Int → Int → Mi → Option Int)} (hF : Fi yd_X4_valueAtEnd G b (some (iv r)) (Em μ)) (hk17 : ∀ (x0 : Bool) (x1 : Int) (x2 : Int) (x3 : Int), k17 x0 x1 x2 x3 μ = some r → At yd_X4_valueAtEnd G b 17 [some (rf G 4 x0), some (iv x1), some (iv x2), some (iv x3)] [] (Em μ)) (x0 : Bool) (x1 : Int) (x2 : Int) (x3 : Int) (h : B_X4_valueAtEnd_44 k17 x0 x1 x2 x3 μ = some r) : At yd_X4_valueAtEnd G b 44 [some (rf G 4 x0), some (iv x1), some (iv x2), some (iv x3)] [] (Em μ) := by
  unfold B_X4_valueAtEnd_44 at h
  refine dinc_4_3 47 dX4_valueAtEnd_44 rfl rfl rfl ?_
  refine st_goto 17 dX4_valueAtEnd_47 (by decide) ?_
  exact hk17 _ _ _ _ h
theorem A_X4_valueAtEnd_17 {G : Cx} {b : Ab} {μ : Mi} {r : Int} (hF : Fi yd_X4_valueAtEnd G b (some (iv r)) (Em μ)) : ∀ (n : Nat) (x0 : Bool) (x1 : Int) (x2 : Int) (x3 : Int), B_X4_valueAtEnd_17 n x0 x1 x2 x3 μ = some r → At yd_X4_valueAtEnd G b 17 [some (rf G 4 x0), some (iv x1), some (iv x2), some (iv x3)] [] (Em μ) := by
  intro n
  induction n with
  | zero =>
    intro x0 x1 x2 x3 h
    exact nope h
  | succ n hk17 =>
    intro x0 x1 x2 x3 h
    replace h : F_X4_valueAtEnd_17 (B_X4_valueAtEnd_17 n) x0 x1 x2 x3 μ = some r := h
    unfold F_X4_valueAtEnd_17 at h
    refine dild_4_3 18 dX4_valueAtEnd_17 rfl ?_
    refine ald_4_0 19 rfl dX4_valueAtEnd_18 rfl ?_
    refine dgf_X4_167 22 rfl dX4_valueAtEnd_19 rfl rfl ?_
    refine dt_icmp_ge 25 50 dX4_valueAtEnd_22 rfl (by decide) rfl rfl (fun c => ?_) (fun c => ?_)
    · replace h := ifp c h
      refine ald_4_0 51 rfl dX4_valueAtEnd_50 rfl ?_
      refine ald_4_0 52 rfl dX4_valueAtEnd_51 rfl ?_
      refine dgf_X4_194 55 rfl dX4_valueAtEnd_52 rfl rfl ?_
      refine dt_iconst 56 dX4_valueAtEnd_55 rfl ?_
      refine dt_icmp_ne 59 63 dX4_valueAtEnd_56 rfl (by decide) rfl wk_4 (fun c => ?_) (fun c => ?_)
      · replace h := ifp c h
        refine dt_iconst 64 dX4_valueAtEnd_63 rfl ?_
        exact At.weak (ls_n (ls_n (ls_s (ls_n ls_0)))) (A_X4_valueAtEnd_64 hF _ _ _ h)
      · replace h := ifn c h
        refine dt_iconst 60 dX4_valueAtEnd_59 rfl ?_
        refine st_goto 64 dX4_valueAtEnd_60 (by decide) ?_
        exact At.weak (ls_n (ls_n (ls_s (ls_n ls_0)))) (A_X4_valueAtEnd_64 hF _ _ _ h)
    · replace h := ifn c h
      refine dild_4_1 26 dX4_valueAtEnd_25 rfl ?_
      refine dild_4_3 27 dX4_valueAtEnd_26 rfl ?_
      refine dt_ishr 28 dX4_valueAtEnd_27 rfl ?_
      refine dt_iconst 29 dX4_valueAtEnd_28 rfl ?_
      refine dt_iand 30 dX4_valueAtEnd_29 rfl ?_
      refine dt_if_ne 33 44 dX4_valueAtEnd_30 rfl (by decide) rfl (fun c => ?_) (fun c => ?_)
      · replace h := ifp c h
        exact A_X4_valueAtEnd_44 hF hk17 _ _ _ _ h
      · replace h := ifn c h
        refine dild_4_2 34 dX4_valueAtEnd_33 rfl ?_
        refine dt_iconst 35 dX4_valueAtEnd_34 rfl ?_
        refine ald_4_0 36 rfl dX4_valueAtEnd_35 rfl ?_
        refine dgf_X4_30 39 rfl dX4_valueAtEnd_36 rfl ?_
        refine dild_4_3 40 dX4_valueAtEnd_39 rfl ?_
        obtain ⟨hi, h⟩ := ift h
        refine diald 41 rfl rfl rfl hi rfl rfl dX4_valueAtEnd_40 rfl ?_
        refine dt_ishl 42 dX4_valueAtEnd_41 rfl ?_
        refine dt_ior 43 dX4_valueAtEnd_42 rfl ?_
        refine dist_4_2 44 dX4_valueAtEnd_43 rfl rfl rfl ?_
        exact A_X4_valueAtEnd_44 hF hk17 _ _ _ _ h
theorem S_X4_valueAtEnd {G : Cx} {μ : Mi} {x0 : Bool} {x1 : Int} {r : Int} (h : D_X4_valueAtEnd x0 x1 μ = some r) : Spec yd_X4_valueAtEnd G [rf G 4 x0, iv x1] (Em μ) (some (iv r)) (Em μ) := by
  refine Spec.of (by decide) rfl (catL_ok rfl) (Nat.le_of_ble_eq_true rfl) rfl (fun b hF => ?_)
  unfold D_X4_valueAtEnd at h
  refine dild_4_1 1 dX4_valueAtEnd_0 rfl ?_
  refine csi_1 4 cw_X4_215 (S_X4_stampsOf x1) rfl ⟨by decide, by decide⟩ (Nat.le_of_ble_eq_true rfl) dX4_valueAtEnd_1 rfl ?_
  refine ald_4_0 5 rfl dX4_valueAtEnd_4 rfl ?_
  refine dgf_X4_164 8 rfl dX4_valueAtEnd_5 rfl rfl ?_
  refine dt_icmp_ge 11 13 dX4_valueAtEnd_8 rfl (by decide) rfl rfl (fun c => ?_) (fun c => ?_)
  · replace h := ifp c h
    refine dt_iconst 14 dX4_valueAtEnd_13 rfl ?_
    refine dist_4_2 15 dX4_valueAtEnd_14 rfl rfl rfl ?_
    refine dt_iconst 16 dX4_valueAtEnd_15 rfl ?_
    refine dist_4_3 17 dX4_valueAtEnd_16 rfl rfl rfl ?_
    exact A_X4_valueAtEnd_17 hF FU _ _ _ _ h
  · replace h := ifn c h
    refine dt_iconst 12 dX4_valueAtEnd_11 rfl ?_
    exact dr_ip hF rfl dX4_valueAtEnd_12 h
/-- StampTales$Search.canTake -/
theorem S_X4_canTake {G : Cx} {μ : Mi} {x0 : Bool} {x1 : Int} {x2 : Int} {x3 : Int} {r : Int} (h : D_X4_canTake x0 x1 x2 x3 μ = some r) : Spec yd_X4_canTake G [rf G 4 x0, iv x1, iv x2, iv x3] (Em μ) (some (iv r)) (Em μ) := by
  refine Spec.of (by decide) rfl (catL_ok rfl) (Nat.le_of_ble_eq_true rfl) rfl (fun b hF => ?_)
  unfold D_X4_canTake at h
  refine ald_4_0 1 rfl dX4_canTake_0 rfl ?_
  refine dgf_X4_22 4 rfl dX4_canTake_1 rfl ?_
  refine dild_4_2 5 dX4_canTake_4 rfl ?_
  obtain ⟨hi, h⟩ := ift h
  refine diald 6 rfl rfl rfl hi rfl rfl dX4_canTake_5 rfl ?_
  refine dild_4_1 7 dX4_canTake_6 rfl ?_
  refine dt_ishr 8 dX4_canTake_7 rfl ?_
  refine dt_iconst 9 dX4_canTake_8 rfl ?_
  refine dt_iand 10 dX4_canTake_9 rfl ?_
  refine dt_if_eq 13 33 dX4_canTake_10 rfl (by decide) rfl (fun c => ?_) (fun c => ?_)
  · replace h := ifp c h
    refine dt_iconst 34 dX4_canTake_33 rfl ?_
    exact dr_zp hF rfl isB_0 dX4_canTake_34 h
  · replace h := ifn c h
    refine ald_4_0 14 rfl dX4_canTake_13 rfl ?_
    refine dgf_X4_33 17 rfl dX4_canTake_14 rfl ?_
    refine dgf_X4_239 20 rfl dX4_canTake_17 rfl ?_
    refine dild_4_1 21 dX4_canTake_20 rfl ?_
    obtain ⟨hi, h⟩ := ift h
    refine diald 22 rfl rfl rfl hi rfl rfl dX4_canTake_21 rfl ?_
    refine dild_4_3 23 dX4_canTake_22 rfl ?_
    refine csi_1 26 cw_X4_132 (S_X4_townOf x3) rfl ⟨by decide, by decide⟩ (Nat.le_of_ble_eq_true rfl) dX4_canTake_23 rfl ?_
    refine dt_icmp_ne 29 33 dX4_canTake_26 rfl (by decide) rfl rfl (fun c => ?_) (fun c => ?_)
    · replace h := ifp c h
      refine dt_iconst 34 dX4_canTake_33 rfl ?_
      exact dr_zp hF rfl isB_0 dX4_canTake_34 h
    · replace h := ifn c h
      refine dt_iconst 30 dX4_canTake_29 rfl ?_
      refine st_goto 34 dX4_canTake_30 (by decide) ?_
      exact dr_zp hF rfl isB_1 dX4_canTake_34 h
/-- StampTales$Search.papersBetween -/
theorem A_X4_papersBetween_84 {G : Cx} {b : Ab} {μ : Mi} {r : Int} {k5 : (Bool → Int → Int → Int → Int → Mi → Option Int)} (hF : Fi yd_X4_papersBetween G b (some (iv r)) (Em μ)) (hk5 : ∀ (x0 : Bool) (x1 : Int) (x2 : Int) (x3 : Int) (x4 : Int), k5 x0 x1 x2 x3 x4 μ = some r → At yd_X4_papersBetween G b 5 [some (rf G 4 x0), some (iv x1), some (iv x2), some (iv x3), some (iv x4)] [] (Em μ)) (x0 : Bool) (x1 : Int) (x2 : Int) (x3 : Int) (x4 : Int) (h : B_X4_papersBetween_84 k5 x0 x1 x2 x3 x4 μ = some r) : At yd_X4_papersBetween G b 84 [some (rf G 4 x0), some (iv x1), some (iv x2), some (iv x3), some (iv x4)] [] (Em μ) := by
  unfold B_X4_papersBetween_84 at h
  refine dinc_5_4 87 dX4_papersBetween_84 rfl rfl rfl ?_
  refine st_goto 5 dX4_papersBetween_87 (by decide) ?_
  exact hk5 _ _ _ _ _ h
theorem A_X4_papersBetween_5 {G : Cx} {b : Ab} {μ : Mi} {r : Int} (hF : Fi yd_X4_papersBetween G b (some (iv r)) (Em μ)) : ∀ (n : Nat) (x0 : Bool) (x1 : Int) (x2 : Int) (x3 : Int) (x4 : Int), B_X4_papersBetween_5 n x0 x1 x2 x3 x4 μ = some r → At yd_X4_papersBetween G b 5 [some (rf G 4 x0), some (iv x1), some (iv x2), some (iv x3), some (iv x4)] [] (Em μ) := by
  intro n
  induction n with
  | zero =>
    intro x0 x1 x2 x3 x4 h
    exact nope h
  | succ n hk5 =>
    intro x0 x1 x2 x3 x4 h
    replace h : F_X4_papersBetween_5 (B_X4_papersBetween_5 n) x0 x1 x2 x3 x4 μ = some r := h
    unfold F_X4_papersBetween_5 at h
    refine dild_5_4 7 dX4_papersBetween_5 rfl ?_
    refine ald_5_0 8 rfl dX4_papersBetween_7 rfl ?_
    refine dgf_X4_37 11 rfl dX4_papersBetween_8 rfl ?_
    refine dgf_X4_87 14 rfl dX4_papersBetween_11 rfl rfl ?_
    refine dt_icmp_ge 17 90 dX4_papersBetween_14 rfl (by decide) rfl rfl (fun c => ?_) (fun c => ?_)
    · replace h := ifp c h
      refine dild_5_3 91 dX4_papersBetween_90 rfl ?_
      exact dr_ip hF rfl dX4_papersBetween_91 h
    · replace h := ifn c h
      refine ald_5_0 18 rfl dX4_papersBetween_17 rfl ?_
      refine dgf_X4_170 21 rfl dX4_papersBetween_18 rfl rfl ?_
      refine dild_5_4 23 dX4_papersBetween_21 rfl ?_
      refine dt_ishr 24 dX4_papersBetween_23 rfl ?_
      refine dt_if_eq 27 90 dX4_papersBetween_24 rfl (by decide) rfl (fun c => ?_) (fun c => ?_)
      · replace h := ifp c h
        refine dild_5_3 91 dX4_papersBetween_90 rfl ?_
        exact dr_ip hF rfl dX4_papersBetween_91 h
      · replace h := ifn c h
        refine ald_5_0 28 rfl dX4_papersBetween_27 rfl ?_
        refine dgf_X4_170 31 rfl dX4_papersBetween_28 rfl rfl ?_
        refine dild_5_4 33 dX4_papersBetween_31 rfl ?_
        refine dt_ishr 34 dX4_papersBetween_33 rfl ?_
        refine dt_iconst 35 dX4_papersBetween_34 rfl ?_
        refine dt_iand 36 dX4_papersBetween_35 rfl ?_
        refine dt_if_eq 39 84 dX4_papersBetween_36 rfl (by decide) rfl (fun c => ?_) (fun c => ?_)
        · replace h := ifp c h
          exact A_X4_papersBetween_84 hF hk5 _ _ _ _ _ h
        · replace h := ifn c h
          refine ald_5_0 40 rfl dX4_papersBetween_39 rfl ?_
          refine dgf_X4_37 43 rfl dX4_papersBetween_40 rfl ?_
          refine dgf_X4_176 46 rfl dX4_papersBetween_43 rfl ?_
          refine dild_5_4 48 dX4_papersBetween_46 rfl ?_
          obtain ⟨hi, h⟩ := ift h
          refine diald 49 rfl rfl rfl hi rfl rfl dX4_papersBetween_48 rfl ?_
          refine dild_5_2 50 dX4_papersBetween_49 rfl ?_
          refine dt_icmp_le 53 84 dX4_papersBetween_50 rfl (by decide) rfl rfl (fun c => ?_) (fun c => ?_)
          · replace h := ifp c h
            exact A_X4_papersBetween_84 hF hk5 _ _ _ _ _ h
          · replace h := ifn c h
            refine ald_5_0 54 rfl dX4_papersBetween_53 rfl ?_
            refine dgf_X4_37 57 rfl dX4_papersBetween_54 rfl ?_
            refine dgf_X4_176 60 rfl dX4_papersBetween_57 rfl ?_
            refine dild_5_4 62 dX4_papersBetween_60 rfl ?_
            obtain ⟨hi, h⟩ := ift h
            refine diald 63 rfl rfl rfl hi rfl rfl dX4_papersBetween_62 rfl ?_
            refine dild_5_2 64 dX4_papersBetween_63 rfl ?_
            refine ald_5_0 65 rfl dX4_papersBetween_64 rfl ?_
            refine dgf_X4_33 68 rfl dX4_papersBetween_65 rfl ?_
            refine dgf_X4_150 71 rfl dX4_papersBetween_68 rfl ?_
            refine dild_5_1 72 dX4_papersBetween_71 rfl ?_
            obtain ⟨hi, h⟩ := ift h
            refine diald 73 rfl rfl rfl hi rfl rfl dX4_papersBetween_72 rfl ?_
            refine dt_iadd 74 dX4_papersBetween_73 rfl ?_
            refine dt_icmp_ge 77 84 dX4_papersBetween_74 rfl (by decide) rfl rfl (fun c => ?_) (fun c => ?_)
            · replace h := ifp c h
              exact A_X4_papersBetween_84 hF hk5 _ _ _ _ _ h
            · replace h := ifn c h
              refine dild_5_3 78 dX4_papersBetween_77 rfl ?_
              refine dt_iconst 79 dX4_papersBetween_78 rfl ?_
              refine dild_5_4 81 dX4_papersBetween_79 rfl ?_
              refine dt_ishl 82 dX4_papersBetween_81 rfl ?_
              refine dt_ior 83 dX4_papersBetween_82 rfl ?_
              refine dist_5_3 84 dX4_papersBetween_83 rfl rfl rfl ?_
              exact A_X4_papersBetween_84 hF hk5 _ _ _ _ _ h
theorem S_X4_papersBetween {G : Cx} {μ : Mi} {x0 : Bool} {x1 : Int} {x2 : Int} {r : Int} (h : D_X4_papersBetween x0 x1 x2 μ = some r) : Spec yd_X4_papersBetween G [rf G 4 x0, iv x1, iv x2] (Em μ) (some (iv r)) (Em μ) := by
  refine Spec.of (by decide) rfl (catL_ok rfl) (Nat.le_of_ble_eq_true rfl) rfl (fun b hF => ?_)
  unfold D_X4_papersBetween at h
  refine dt_iconst 1 dX4_papersBetween_0 rfl ?_
  refine dist_5_3 2 dX4_papersBetween_1 rfl rfl rfl ?_
  refine dt_iconst 3 dX4_papersBetween_2 rfl ?_
  refine dist_5_4 5 dX4_papersBetween_3 rfl rfl rfl ?_
  exact A_X4_papersBetween_5 hF FU _ _ _ _ _ h
/-- StampTales$Search.weightOf -/
theorem A_X4_weightOf_15 {G : Cx} {b : Ab} {μ : Mi} {r : Int} (hF : Fi yd_X4_weightOf G b (some (iv r)) (Em μ)) (x0 : Bool) (x1 : Int) (h : B_X4_weightOf_15 x0 x1 μ = some r) : At yd_X4_weightOf G b 15 [some (rf G 4 x0), some (iv x1)] [] (Em μ) := by
  unfold B_X4_weightOf_15 at h
  refine ald_2_0 16 rfl dX4_weightOf_15 rfl ?_
  refine dgf_X4_33 19 rfl dX4_weightOf_16 rfl ?_
  refine dgf_X4_227 22 rfl dX4_weightOf_19 rfl ?_
  refine dild_2_1 23 dX4_weightOf_22 rfl ?_
  obtain ⟨hi, h⟩ := ift h
  refine diald 24 rfl rfl rfl hi rfl rfl dX4_weightOf_23 rfl ?_
  exact dr_ip hF rfl dX4_weightOf_24 h
theorem S_X4_weightOf {G : Cx} {μ : Mi} {x0 : Bool} {x1 : Int} {r : Int} (h : D_X4_weightOf x0 x1 μ = some r) : Spec yd_X4_weightOf G [rf G 4 x0, iv x1] (Em μ) (some (iv r)) (Em μ) := by
  refine Spec.of (by decide) rfl (catL_ok rfl) (Nat.le_of_ble_eq_true rfl) rfl (fun b hF => ?_)
  unfold D_X4_weightOf at h
  refine ald_2_0 1 rfl dX4_weightOf_0 rfl ?_
  refine dgf_X4_194 4 rfl dX4_weightOf_1 rfl rfl ?_
  refine dt_if_eq 7 15 dX4_weightOf_4 rfl (by decide) rfl (fun c => ?_) (fun c => ?_)
  · replace h := ifp c h
    exact A_X4_weightOf_15 hF _ _ h
  · replace h := ifn c h
    refine ald_2_0 8 rfl dX4_weightOf_7 rfl ?_
    refine dgf_X4_194 11 rfl dX4_weightOf_8 rfl rfl ?_
    refine dt_iconst 12 dX4_weightOf_11 rfl ?_
    refine dt_icmp_ne 15 25 dX4_weightOf_12 rfl (by decide) rfl wk_1 (fun c => ?_) (fun c => ?_)
    · replace h := ifp c h
      refine ald_2_0 26 rfl dX4_weightOf_25 rfl ?_
      refine dgf_X4_194 29 rfl dX4_weightOf_26 rfl rfl ?_
      refine dt_iconst 30 dX4_weightOf_29 rfl ?_
      refine dt_icmp_eq 33 41 dX4_weightOf_30 rfl (by decide) rfl wk_2 (fun c => ?_) (fun c => ?_)
      · replace h := ifp c h
        refine dt_iconst 42 dX4_weightOf_41 rfl ?_
        refine st_goto 46 dX4_weightOf_42 (by decide) ?_
        exact dr_ip hF rfl dX4_weightOf_46 h
      · replace h := ifn c h
        refine ald_2_0 34 rfl dX4_weightOf_33 rfl ?_
        refine dgf_X4_194 37 rfl dX4_weightOf_34 rfl rfl ?_
        refine dt_iconst 38 dX4_weightOf_37 rfl ?_
        refine dt_icmp_ne 41 45 dX4_weightOf_38 rfl (by decide) rfl wk_3 (fun c => ?_) (fun c => ?_)
        · replace h := ifp c h
          refine dt_iconst 46 dX4_weightOf_45 rfl ?_
          exact dr_ip hF rfl dX4_weightOf_46 h
        · replace h := ifn c h
          refine dt_iconst 42 dX4_weightOf_41 rfl ?_
          refine st_goto 46 dX4_weightOf_42 (by decide) ?_
          exact dr_ip hF rfl dX4_weightOf_46 h
    · replace h := ifn c h
      exact A_X4_weightOf_15 hF _ _ h
/-- StampTales$Search.sleptAfter -/
theorem A_X4_sleptAfter_90 {G : Cx} {b : Ab} {μ : Mi} {r : Int} (hF : Fi yd_X4_sleptAfter G b (some (iv r)) (Em μ)) (x6 : Int) (s0 : Int) (h : B_X4_sleptAfter_90 x6 s0 μ = r) : At yd_X4_sleptAfter G b 90 [none, none, none, none, none, none, some (iv x6), none] [iv s0] (Em μ) := by
  unfold B_X4_sleptAfter_90 at h
  refine dist_8_7 92 dX4_sleptAfter_90 rfl rfl rfl ?_
  refine dild_8_6 94 dX4_sleptAfter_92 rfl ?_
  refine dt_if_ne 97 102 dX4_sleptAfter_94 rfl (by decide) rfl (fun c => ?_) (fun c => ?_)
  · replace h := ifp c h
    refine dt_iconst 103 dX4_sleptAfter_102 rfl ?_
    refine st_goto 107 dX4_sleptAfter_103 (by decide) ?_
    exact dr_it hF rfl dX4_sleptAfter_107 h
  · replace h := ifn c h
    refine dild_8_7 99 dX4_sleptAfter_97 rfl ?_
    refine dt_if_eq 102 106 dX4_sleptAfter_99 rfl (by decide) rfl (fun c => ?_) (fun c => ?_)
    · replace h := ifp c h
      refine dt_iconst 107 dX4_sleptAfter_106 rfl ?_
      exact dr_it hF rfl dX4_sleptAfter_107 h
    · replace h := ifn c h
      refine dt_iconst 103 dX4_sleptAfter_102 rfl ?_
      refine st_goto 107 dX4_sleptAfter_103 (by decide) ?_
      exact dr_it hF rfl dX4_sleptAfter_107 h
theorem A_X4_sleptAfter_89 {G : Cx} {b : Ab} {μ : Mi} {r : Int} (hF : Fi yd_X4_sleptAfter G b (some (iv r)) (Em μ)) (x6 : Int) (h : B_X4_sleptAfter_89 x6 μ = r) : At yd_X4_sleptAfter G b 89 [none, none, none, none, none, none, some (iv x6), none] [] (Em μ) := by
  unfold B_X4_sleptAfter_89 at h
  refine dt_iconst 90 dX4_sleptAfter_89 rfl ?_
  exact A_X4_sleptAfter_90 hF _ _ h
theorem A_X4_sleptAfter_61 {G : Cx} {b : Ab} {μ : Mi} {r : Int} (hF : Fi yd_X4_sleptAfter G b (some (iv r)) (Em μ)) (x0 : Bool) (x2 : Int) (x4 : Int) (s0 : Int) (h : B_X4_sleptAfter_61 x0 x2 x4 s0 μ = r) : At yd_X4_sleptAfter G b 61 [some (rf G 4 x0), none, some (iv x2), none, some (iv x4), none, none, none] [iv s0] (Em μ) := by
  unfold B_X4_sleptAfter_61 at h
  refine dist_8_6 63 dX4_sleptAfter_61 rfl rfl rfl ?_
  refine ald_8_0 64 rfl dX4_sleptAfter_63 rfl ?_
  refine dgf_X4_37 67 rfl dX4_sleptAfter_64 rfl ?_
  refine dgf_X4_240 70 rfl dX4_sleptAfter_67 rfl rfl ?_
  refine dt_if_le 73 89 dX4_sleptAfter_70 rfl (by decide) rfl (fun c => ?_) (fun c => ?_)
  · replace h := ifp c h
    exact At.weak (ls_n (ls_n (ls_n (ls_n (ls_n (ls_n (ls_s (ls_n ls_0)))))))) (A_X4_sleptAfter_89 hF _ h)
  · replace h := ifn c h
    refine dild_8_2 74 dX4_sleptAfter_73 rfl ?_
    refine dild_8_4 76 dX4_sleptAfter_74 rfl ?_
    refine dt_bipush 78 dX4_sleptAfter_76 bq_24 rfl ?_
    refine dt_iadd 79 dX4_sleptAfter_78 rfl ?_
    refine dt_bipush 81 dX4_sleptAfter_79 bq_8 rfl ?_
    refine dt_iadd 82 dX4_sleptAfter_81 rfl ?_
    refine dt_icmp_lt 85 89 dX4_sleptAfter_82 rfl (by decide) rfl rfl (fun c => ?_) (fun c => ?_)
    · replace h := ifp c h
      exact At.weak (ls_n (ls_n (ls_n (ls_n (ls_n (ls_n (ls_s (ls_n ls_0)))))))) (A_X4_sleptAfter_89 hF _ h)
    · replace h := ifn c h
      refine dt_iconst 86 dX4_sleptAfter_85 rfl ?_
      refine st_goto 90 dX4_sleptAfter_86 (by decide) ?_
      exact At.weak (ls_n (ls_n (ls_n (ls_n (ls_n (ls_n (ls_s (ls_n ls_0)))))))) (A_X4_sleptAfter_90 hF _ _ h)
theorem A_X4_sleptAfter_60 {G : Cx} {b : Ab} {μ : Mi} {r : Int} (hF : Fi yd_X4_sleptAfter G b (some (iv r)) (Em μ)) (x0 : Bool) (x2 : Int) (x4 : Int) (h : B_X4_sleptAfter_60 x0 x2 x4 μ = r) : At yd_X4_sleptAfter G b 60 [some (rf G 4 x0), none, some (iv x2), none, some (iv x4), none, none, none] [] (Em μ) := by
  unfold B_X4_sleptAfter_60 at h
  refine dt_iconst 61 dX4_sleptAfter_60 rfl ?_
  exact A_X4_sleptAfter_61 hF _ _ _ _ h
theorem A_X4_sleptAfter_40 {G : Cx} {b : Ab} {μ : Mi} {r : Int} (hF : Fi yd_X4_sleptAfter G b (some (iv r)) (Em μ)) (x0 : Bool) (x2 : Int) (x3 : Int) (x4 : Int) (x5 : Int) (h : B_X4_sleptAfter_40 x0 x2 x3 x4 x5 μ = r) : At yd_X4_sleptAfter G b 40 [some (rf G 4 x0), none, some (iv x2), some (iv x3), some (iv x4), some (iv x5), none, none] [] (Em μ) := by
  unfold B_X4_sleptAfter_40 at h
  refine dild_8_5 42 dX4_sleptAfter_40 rfl ?_
  refine dt_if_eq 45 60 dX4_sleptAfter_42 rfl (by decide) rfl (fun c => ?_) (fun c => ?_)
  · replace h := ifp c h
    exact At.weak (ls_s (ls_n (ls_s (ls_n (ls_s (ls_n (ls_n (ls_n ls_0)))))))) (A_X4_sleptAfter_60 hF _ _ _ h)
  · replace h := ifn c h
    refine dild_8_3 46 dX4_sleptAfter_45 rfl ?_
    refine ald_8_0 47 rfl dX4_sleptAfter_46 rfl ?_
    refine dgf_X4_37 50 rfl dX4_sleptAfter_47 rfl ?_
    refine dgf_X4_240 53 rfl dX4_sleptAfter_50 rfl rfl ?_
    refine dt_icmp_ge 56 60 dX4_sleptAfter_53 rfl (by decide) rfl rfl (fun c => ?_) (fun c => ?_)
    · replace h := ifp c h
      exact At.weak (ls_s (ls_n (ls_s (ls_n (ls_s (ls_n (ls_n (ls_n ls_0)))))))) (A_X4_sleptAfter_60 hF _ _ _ h)
    · replace h := ifn c h
      refine dt_iconst 57 dX4_sleptAfter_56 rfl ?_
      refine st_goto 61 dX4_sleptAfter_57 (by decide) ?_
      exact At.weak (ls_s (ls_n (ls_s (ls_n (ls_s (ls_n (ls_n (ls_n ls_0)))))))) (A_X4_sleptAfter_61 hF _ _ _ _ h)
theorem A_X4_sleptAfter_22 {G : Cx} {b : Ab} {μ : Mi} {r : Int} (hF : Fi yd_X4_sleptAfter G b (some (iv r)) (Em μ)) (x0 : Bool) (x2 : Int) (x3 : Int) (x4 : Int) (s0 : Int) (h : B_X4_sleptAfter_22 x0 x2 x3 x4 s0 μ = r) : At yd_X4_sleptAfter G b 22 [some (rf G 4 x0), none, some (iv x2), some (iv x3), some (iv x4), none, none, none] [iv s0] (Em μ) := by
  unfold B_X4_sleptAfter_22 at h
  refine dist_8_5 24 dX4_sleptAfter_22 rfl rfl rfl ?_
  refine dild_8_5 26 dX4_sleptAfter_24 rfl ?_
  refine dt_if_eq 29 40 dX4_sleptAfter_26 rfl (by decide) rfl (fun c => ?_) (fun c => ?_)
  · replace h := ifp c h
    exact A_X4_sleptAfter_40 hF _ _ _ _ _ h
  · replace h := ifn c h
    refine dild_8_2 30 dX4_sleptAfter_29 rfl ?_
    refine dild_8_4 32 dX4_sleptAfter_30 rfl ?_
    refine dt_bipush 34 dX4_sleptAfter_32 bq_8 rfl ?_
    refine dt_iadd 35 dX4_sleptAfter_34 rfl ?_
    refine dt_icmp_ge 38 40 dX4_sleptAfter_35 rfl (by decide) rfl rfl (fun c => ?_) (fun c => ?_)
    · replace h := ifp c h
      exact A_X4_sleptAfter_40 hF _ _ _ _ _ h
    · replace h := ifn c h
      refine dild_8_3 39 dX4_sleptAfter_38 rfl ?_
      exact dr_it hF rfl dX4_sleptAfter_39 h
theorem S_X4_sleptAfter {G : Cx} {μ : Mi} (x0 : Bool) (x1 : Int) (x2 : Int) (x3 : Int) : Spec yd_X4_sleptAfter G [rf G 4 x0, iv x1, iv x2, iv x3] (Em μ) (some (iv (D_X4_sleptAfter x0 x1 x2 x3 μ))) (Em μ) := by
  generalize h : D_X4_sleptAfter x0 x1 x2 x3 μ = r
  refine Spec.of (by decide) rfl (catL_ok rfl) (Nat.le_of_ble_eq_true rfl) rfl (fun b hF => ?_)
  unfold D_X4_sleptAfter at h
  refine dild_8_1 1 dX4_sleptAfter_0 rfl ?_
  refine dild_8_1 2 dX4_sleptAfter_1 rfl ?_
  refine dt_bipush 4 dX4_sleptAfter_2 bq_24 rfl ?_
  refine dt_irem 5 dX4_sleptAfter_4 (by rw [wk_24]; decide) rfl ?_
  refine dt_isub 6 dX4_sleptAfter_5 rfl ?_
  refine dist_8_4 8 dX4_sleptAfter_6 rfl rfl rfl ?_
  refine dild_8_1 9 dX4_sleptAfter_8 rfl ?_
  refine dild_8_4 11 dX4_sleptAfter_9 rfl ?_
  refine dt_bipush 13 dX4_sleptAfter_11 bq_8 rfl ?_
  refine dt_iadd 14 dX4_sleptAfter_13 rfl ?_
  refine dt_icmp_ge 17 21 dX4_sleptAfter_14 rfl (by decide) rfl rfl (fun c => ?_) (fun c => ?_)
  · replace h := ifp c h
    refine dt_iconst 22 dX4_sleptAfter_21 rfl ?_
    exact At.weak (ls_s (ls_n (ls_s (ls_s (ls_s (ls_n (ls_n (ls_n ls_0)))))))) (A_X4_sleptAfter_22 hF _ _ _ _ _ h)
  · replace h := ifn c h
    refine dt_iconst 18 dX4_sleptAfter_17 rfl ?_
    refine st_goto 22 dX4_sleptAfter_18 (by decide) ?_
    exact At.weak (ls_s (ls_n (ls_s (ls_s (ls_s (ls_n (ls_n (ls_n ls_0)))))))) (A_X4_sleptAfter_22 hF _ _ _ _ _ h)
/-- StampTales$Search.afterLink -/
theorem A_X4_afterLink_206 {G : Cx} {b : Ab} {μ : Mi} {r : Int} (hF : Fi yd_X4_afterLink G b (some (iv r)) (Em μ)) (x0 : Bool) (x1 : Int) (x3 : Int) (x5 : Int) (x6 : Int) (x7 : Int) (h : B_X4_afterLink_206 x0 x1 x3 x5 x6 x7 μ = some r) : At yd_X4_afterLink G b 206 [some (rf G 4 x0), some (iv x1), none, some (iv x3), none, some (iv x5), some (iv x6), some (iv x7), none] [] (Em μ) := by
  unfold B_X4_afterLink_206 at h
  refine dild_9_6 208 dX4_afterLink_206 rfl ?_
  refine ald_9_0 209 rfl dX4_afterLink_208 rfl ?_
  refine dgf_X4_33 212 rfl dX4_afterLink_209 rfl ?_
  refine dgf_X4_256 215 rfl dX4_afterLink_212 rfl ?_
  refine dild_9_1 216 dX4_afterLink_215 rfl ?_
  obtain ⟨hi, h⟩ := ift h
  refine diald 217 rfl rfl rfl hi rfl rfl dX4_afterLink_216 rfl ?_
  refine dild_9_7 219 dX4_afterLink_217 rfl ?_
  refine dild_9_3 220 dX4_afterLink_219 rfl ?_
  refine dt_iconst 221 dX4_afterLink_220 rfl ?_
  refine dt_iand 222 dX4_afterLink_221 rfl ?_
  refine ald_9_0 223 rfl dX4_afterLink_222 rfl ?_
  refine dild_9_5 225 dX4_afterLink_223 rfl ?_
  refine ald_9_0 226 rfl dX4_afterLink_225 rfl ?_
  refine dgf_X4_33 229 rfl dX4_afterLink_226 rfl ?_
  refine dgf_X4_256 232 rfl dX4_afterLink_229 rfl ?_
  refine dild_9_1 233 dX4_afterLink_232 rfl ?_
  obtain ⟨hi, h⟩ := ift h
  refine diald 234 rfl rfl rfl hi rfl rfl dX4_afterLink_233 rfl ?_
  obtain ⟨r1, h1, h⟩ := bp_some h
  refine cvi_2 237 cw_X4_243 (S_X4_seenAt h1) rfl ⟨by decide, by decide⟩ rfl rfl rfl rfl rfl (Nat.le_of_ble_eq_true rfl) dX4_afterLink_234 rfl ?_
  refine dt_ior 238 dX4_afterLink_237 rfl ?_
  refine csi_4 241 cw_X4_191 (S_X4_cellOf x6 (rd μ 14 false (ix x1)) x7 (ior (iand x3 3) r1)) rfl ⟨by decide, by decide⟩ (Nat.le_of_ble_eq_true rfl) dX4_afterLink_238 rfl ?_
  exact dr_ip hF rfl dX4_afterLink_241 h
theorem A_X4_afterLink_159 {G : Cx} {b : Ab} {μ : Mi} {r : Int} (hF : Fi yd_X4_afterLink G b (some (iv r)) (Em μ)) (x0 : Bool) (x1 : Int) (x3 : Int) (x5 : Int) (x6 : Int) (x7 : Int) (s0 : Int) (h : B_X4_afterLink_159 x0 x1 x3 x5 x6 x7 s0 μ = some r) : At yd_X4_afterLink G b 159 [some (rf G 4 x0), some (iv x1), none, some (iv x3), none, some (iv x5), some (iv x6), some (iv x7), none] [iv s0] (Em μ) := by
  unfold B_X4_afterLink_159 at h
  refine dist_9_8 161 dX4_afterLink_159 rfl rfl rfl ?_
  refine ald_9_0 162 rfl dX4_afterLink_161 rfl ?_
  refine dgf_X4_37 165 rfl dX4_afterLink_162 rfl ?_
  refine dild_9_8 167 dX4_afterLink_165 rfl ?_
  refine ald_9_0 168 rfl dX4_afterLink_167 rfl ?_
  refine dgf_X4_33 171 rfl dX4_afterLink_168 rfl ?_
  refine dgf_X4_221 174 rfl dX4_afterLink_171 rfl ?_
  refine dild_9_1 175 dX4_afterLink_174 rfl ?_
  obtain ⟨hi, h⟩ := ift h
  refine diald 176 rfl rfl rfl hi rfl rfl dX4_afterLink_175 rfl ?_
  refine dt_iconst 177 dX4_afterLink_176 rfl ?_
  refine ald_9_0 178 rfl dX4_afterLink_177 rfl ?_
  refine dgf_X4_33 181 rfl dX4_afterLink_178 rfl ?_
  refine dild_9_5 183 dX4_afterLink_181 rfl ?_
  refine ald_9_0 184 rfl dX4_afterLink_183 rfl ?_
  refine dgf_X4_33 187 rfl dX4_afterLink_184 rfl ?_
  refine dgf_X4_256 190 rfl dX4_afterLink_187 rfl ?_
  refine dild_9_1 191 dX4_afterLink_190 rfl ?_
  obtain ⟨hi, h⟩ := ift h
  refine diald 192 rfl rfl rfl hi rfl rfl dX4_afterLink_191 rfl ?_
  obtain ⟨r1, h1, h⟩ := bp_some h
  refine cvi_2 195 cw_X4_249 (S_X0_dayAt h1) rfl ⟨by decide, by decide⟩ rfl rfl rfl rfl rfl (Nat.le_of_ble_eq_true rfl) dX4_afterLink_192 rfl ?_
  obtain ⟨r2, h2, h⟩ := bp_some h
  refine cvi_4 198 cw_X4_252 (S_X2_stampFits h2) rfl ⟨by decide, by decide⟩ rfl rfl rfl rfl rfl (Nat.le_of_ble_eq_true rfl) dX4_afterLink_195 rfl ?_
  refine dt_if_ne 201 203 dX4_afterLink_198 rfl (by decide) rfl (fun c => ?_) (fun c => ?_)
  · replace h := ifp c h
    refine dinc_9_7 206 dX4_afterLink_203 rfl rfl rfl ?_
    exact At.weak (ls_s (ls_s (ls_n (ls_s (ls_n (ls_s (ls_s (ls_s (ls_n ls_0))))))))) (A_X4_afterLink_206 hF _ _ _ _ _ _ h)
  · replace h := ifn c h
    refine dt_iconst 202 dX4_afterLink_201 rfl ?_
    exact dr_ip hF rfl dX4_afterLink_202 h
theorem A_X4_afterLink_119 {G : Cx} {b : Ab} {μ : Mi} {r : Int} (hF : Fi yd_X4_afterLink G b (some (iv r)) (Em μ)) (x0 : Bool) (x1 : Int) (x3 : Int) (x4 : Int) (x5 : Int) (x6 : Int) (x7 : Int) (h : B_X4_afterLink_119 x0 x1 x3 x4 x5 x6 x7 μ = some r) : At yd_X4_afterLink G b 119 [some (rf G 4 x0), some (iv x1), none, some (iv x3), some (iv x4), some (iv x5), some (iv x6), some (iv x7), none] [] (Em μ) := by
  unfold B_X4_afterLink_119 at h
  refine dild_9_7 121 dX4_afterLink_119 rfl ?_
  refine dild_9_4 123 dX4_afterLink_121 rfl ?_
  refine dt_iadd 124 dX4_afterLink_123 rfl ?_
  refine dist_9_7 126 dX4_afterLink_124 rfl rfl rfl ?_
  refine ald_9_0 127 rfl dX4_afterLink_126 rfl ?_
  refine dgf_X4_33 130 rfl dX4_afterLink_127 rfl ?_
  refine dgf_X4_221 133 rfl dX4_afterLink_130 rfl ?_
  refine dild_9_1 134 dX4_afterLink_133 rfl ?_
  obtain ⟨hi, h⟩ := ift h
  refine diald 135 rfl rfl rfl hi rfl rfl dX4_afterLink_134 rfl ?_
  refine dt_iconst 136 dX4_afterLink_135 rfl ?_
  refine dt_icmp_eq 139 206 dX4_afterLink_136 rfl (by decide) rfl wk_m1 (fun c => ?_) (fun c => ?_)
  · replace h := ifp c h
    exact At.weak (ls_s (ls_s (ls_n (ls_s (ls_n (ls_s (ls_s (ls_s (ls_n ls_0))))))))) (A_X4_afterLink_206 hF _ _ _ _ _ _ h)
  · replace h := ifn c h
    refine dild_9_7 141 dX4_afterLink_139 rfl ?_
    refine ald_9_0 142 rfl dX4_afterLink_141 rfl ?_
    refine dgf_X4_164 145 rfl dX4_afterLink_142 rfl rfl ?_
    refine dt_icmp_ge 148 158 dX4_afterLink_145 rfl (by decide) rfl rfl (fun c => ?_) (fun c => ?_)
    · replace h := ifp c h
      refine dt_iconst 159 dX4_afterLink_158 rfl ?_
      exact At.weak (ls_s (ls_s (ls_n (ls_s (ls_n (ls_s (ls_s (ls_s (ls_n ls_0))))))))) (A_X4_afterLink_159 hF _ _ _ _ _ _ _ h)
    · replace h := ifn c h
      refine ald_9_0 149 rfl dX4_afterLink_148 rfl ?_
      refine dgf_X4_27 152 rfl dX4_afterLink_149 rfl ?_
      refine dild_9_7 154 dX4_afterLink_152 rfl ?_
      obtain ⟨hi, h⟩ := ift h
      refine diald 155 rfl rfl rfl hi rfl rfl dX4_afterLink_154 rfl ?_
      refine st_goto 159 dX4_afterLink_155 (by decide) ?_
      exact At.weak (ls_s (ls_s (ls_n (ls_s (ls_n (ls_s (ls_s (ls_s (ls_n ls_0))))))))) (A_X4_afterLink_159 hF _ _ _ _ _ _ _ h)
theorem A_X4_afterLink_73 {G : Cx} {b : Ab} {μ : Mi} {r : Int} (hF : Fi yd_X4_afterLink G b (some (iv r)) (Em μ)) (x0 : Bool) (x1 : Int) (x2 : Int) (x3 : Int) (x4 : Int) (x5 : Int) (x6 : Int) (x7 : Int) (s0 : Int) (h : B_X4_afterLink_73 x0 x1 x2 x3 x4 x5 x6 x7 s0 μ = some r) : At yd_X4_afterLink G b 73 [some (rf G 4 x0), some (iv x1), some (iv x2), some (iv x3), some (iv x4), some (iv x5), some (iv x6), some (iv x7), none] [iv s0] (Em μ) := by
  unfold B_X4_afterLink_73 at h
  refine dist_9_8 75 dX4_afterLink_73 rfl rfl rfl ?_
  refine ald_9_0 76 rfl dX4_afterLink_75 rfl ?_
  refine dgf_X4_37 79 rfl dX4_afterLink_76 rfl ?_
  refine dild_9_8 81 dX4_afterLink_79 rfl ?_
  refine ald_9_0 82 rfl dX4_afterLink_81 rfl ?_
  refine dgf_X4_33 85 rfl dX4_afterLink_82 rfl ?_
  refine dgf_X4_218 88 rfl dX4_afterLink_85 rfl ?_
  refine dild_9_1 89 dX4_afterLink_88 rfl ?_
  obtain ⟨hi, h⟩ := ift h
  refine diald 90 rfl rfl rfl hi rfl rfl dX4_afterLink_89 rfl ?_
  refine dt_iconst 91 dX4_afterLink_90 rfl ?_
  refine ald_9_0 92 rfl dX4_afterLink_91 rfl ?_
  refine dgf_X4_33 95 rfl dX4_afterLink_92 rfl ?_
  refine dild_9_2 96 dX4_afterLink_95 rfl ?_
  refine ald_9_0 97 rfl dX4_afterLink_96 rfl ?_
  refine dgf_X4_33 100 rfl dX4_afterLink_97 rfl ?_
  refine dgf_X4_239 103 rfl dX4_afterLink_100 rfl ?_
  refine dild_9_1 104 dX4_afterLink_103 rfl ?_
  obtain ⟨hi, h⟩ := ift h
  refine diald 105 rfl rfl rfl hi rfl rfl dX4_afterLink_104 rfl ?_
  obtain ⟨r1, h1, h⟩ := bp_some h
  refine cvi_2 108 cw_X4_249 (S_X0_dayAt h1) rfl ⟨by decide, by decide⟩ rfl rfl rfl rfl rfl (Nat.le_of_ble_eq_true rfl) dX4_afterLink_105 rfl ?_
  obtain ⟨r2, h2, h⟩ := bp_some h
  refine cvi_4 111 cw_X4_252 (S_X2_stampFits h2) rfl ⟨by decide, by decide⟩ rfl rfl rfl rfl rfl (Nat.le_of_ble_eq_true rfl) dX4_afterLink_108 rfl ?_
  refine dt_if_ne 114 116 dX4_afterLink_111 rfl (by decide) rfl (fun c => ?_) (fun c => ?_)
  · replace h := ifp c h
    refine dinc_9_7 119 dX4_afterLink_116 rfl rfl rfl ?_
    exact At.weak (ls_s (ls_s (ls_n (ls_s (ls_s (ls_s (ls_s (ls_s (ls_n ls_0))))))))) (A_X4_afterLink_119 hF _ _ _ _ _ _ _ h)
  · replace h := ifn c h
    refine dt_iconst 115 dX4_afterLink_114 rfl ?_
    exact dr_ip hF rfl dX4_afterLink_115 h
theorem S_X4_afterLink {G : Cx} {μ : Mi} {x0 : Bool} {x1 : Int} {x2 : Int} {x3 : Int} {x4 : Int} {r : Int} (h : D_X4_afterLink x0 x1 x2 x3 x4 μ = some r) : Spec yd_X4_afterLink G [rf G 4 x0, iv x1, iv x2, iv x3, iv x4] (Em μ) (some (iv r)) (Em μ) := by
  refine Spec.of (by decide) rfl (catL_ok rfl) (Nat.le_of_ble_eq_true rfl) rfl (fun b hF => ?_)
  unfold D_X4_afterLink at h
  refine dild_9_2 1 dX4_afterLink_0 rfl ?_
  refine ald_9_0 2 rfl dX4_afterLink_1 rfl ?_
  refine dgf_X4_33 5 rfl dX4_afterLink_2 rfl ?_
  refine dgf_X4_150 8 rfl dX4_afterLink_5 rfl ?_
  refine dild_9_1 9 dX4_afterLink_8 rfl ?_
  obtain ⟨hi, h⟩ := ift h
  refine diald 10 rfl rfl rfl hi rfl rfl dX4_afterLink_9 rfl ?_
  refine dt_iadd 11 dX4_afterLink_10 rfl ?_
  refine dist_9_5 13 dX4_afterLink_11 rfl rfl rfl ?_
  refine ald_9_0 14 rfl dX4_afterLink_13 rfl ?_
  refine dild_9_2 15 dX4_afterLink_14 rfl ?_
  refine dild_9_5 17 dX4_afterLink_15 rfl ?_
  refine dild_9_3 18 dX4_afterLink_17 rfl ?_
  refine dt_sipush 21 dX4_afterLink_18 sq_256 rfl ?_
  refine dt_idiv 22 dX4_afterLink_21 (by rw [wk_256]; decide) rfl ?_
  refine cvi_3 25 cw_X4_246 (S_X4_sleptAfter x0 x2 (x2 + (rd μ 16 false (ix x1))) (idiv x3 256)) rfl ⟨by decide, by decide⟩ rfl rfl rfl rfl rfl (Nat.le_of_ble_eq_true rfl) dX4_afterLink_22 rfl ?_
  refine dist_9_6 27 dX4_afterLink_25 rfl rfl rfl ?_
  refine dild_9_6 29 dX4_afterLink_27 rfl ?_
  refine dt_if_ge 32 34 dX4_afterLink_29 rfl (by decide) rfl (fun c => ?_) (fun c => ?_)
  · replace h := ifp c h
    refine dild_9_3 35 dX4_afterLink_34 rfl ?_
    refine csi_1 38 cw_X4_215 (S_X4_stampsOf x3) rfl ⟨by decide, by decide⟩ (Nat.le_of_ble_eq_true rfl) dX4_afterLink_35 rfl ?_
    refine dist_9_7 40 dX4_afterLink_38 rfl rfl rfl ?_
    refine ald_9_0 41 rfl dX4_afterLink_40 rfl ?_
    refine dgf_X4_33 44 rfl dX4_afterLink_41 rfl ?_
    refine dgf_X4_218 47 rfl dX4_afterLink_44 rfl ?_
    refine dild_9_1 48 dX4_afterLink_47 rfl ?_
    obtain ⟨hi, h⟩ := ift h
    refine diald 49 rfl rfl rfl hi rfl rfl dX4_afterLink_48 rfl ?_
    refine dt_iconst 50 dX4_afterLink_49 rfl ?_
    refine dt_icmp_eq 53 119 dX4_afterLink_50 rfl (by decide) rfl wk_m1 (fun c => ?_) (fun c => ?_)
    · replace h := ifp c h
      exact At.weak (ls_s (ls_s (ls_n (ls_s (ls_s (ls_s (ls_s (ls_s (ls_n ls_0))))))))) (A_X4_afterLink_119 hF _ _ _ _ _ _ _ h)
    · replace h := ifn c h
      refine dild_9_7 55 dX4_afterLink_53 rfl ?_
      refine ald_9_0 56 rfl dX4_afterLink_55 rfl ?_
      refine dgf_X4_164 59 rfl dX4_afterLink_56 rfl rfl ?_
      refine dt_icmp_ge 62 72 dX4_afterLink_59 rfl (by decide) rfl rfl (fun c => ?_) (fun c => ?_)
      · replace h := ifp c h
        refine dt_iconst 73 dX4_afterLink_72 rfl ?_
        exact A_X4_afterLink_73 hF _ _ _ _ _ _ _ _ _ h
      · replace h := ifn c h
        refine ald_9_0 63 rfl dX4_afterLink_62 rfl ?_
        refine dgf_X4_27 66 rfl dX4_afterLink_63 rfl ?_
        refine dild_9_7 68 dX4_afterLink_66 rfl ?_
        obtain ⟨hi, h⟩ := ift h
        refine diald 69 rfl rfl rfl hi rfl rfl dX4_afterLink_68 rfl ?_
        refine st_goto 73 dX4_afterLink_69 (by decide) ?_
        exact A_X4_afterLink_73 hF _ _ _ _ _ _ _ _ _ h
  · replace h := ifn c h
    refine dt_iconst 33 dX4_afterLink_32 rfl ?_
    exact dr_ip hF rfl dX4_afterLink_33 h
/-- StampTales$Search.join -/
theorem A_X4_join_8 {G : Cx} {b : Ab} {μ : Mi} {r : Int} (hF : Fi yd_X4_join G b (some (iv r)) (Em μ)) (x1 : Int) (x2 : Int) (h : B_X4_join_8 x1 x2 μ = r) : At yd_X4_join G b 8 [none, some (iv x1), some (iv x2)] [] (Em μ) := by
  unfold B_X4_join_8 at h
  refine dild_3_1 9 dX4_join_8 rfl ?_
  refine dild_3_2 10 dX4_join_9 rfl ?_
  refine dmmax 13 rfl cw_X4_101 ⟨by decide, by decide⟩ (Nat.le_of_ble_eq_true rfl) dX4_join_10 rfl ?_
  exact dr_it hF rfl dX4_join_13 h
theorem A_X4_join_47 {G : Cx} {b : Ab} {μ : Mi} {r : Int} (hF : Fi yd_X4_join G b (some (iv r)) (Em μ)) (x1 : Int) (x2 : Int) (h : B_X4_join_47 x1 x2 μ = r) : At yd_X4_join G b 47 [none, some (iv x1), some (iv x2)] [] (Em μ) := by
  unfold B_X4_join_47 at h
  refine dild_3_1 48 dX4_join_47 rfl ?_
  refine dild_3_2 49 dX4_join_48 rfl ?_
  refine dmmax 52 rfl cw_X4_101 ⟨by decide, by decide⟩ (Nat.le_of_ble_eq_true rfl) dX4_join_49 rfl ?_
  refine st_goto 60 dX4_join_52 (by decide) ?_
  exact dr_it hF rfl dX4_join_60 h
theorem S_X4_join {G : Cx} {μ : Mi} (x0 : Bool) (x1 : Int) (x2 : Int) : Spec yd_X4_join G [rf G 4 x0, iv x1, iv x2] (Em μ) (some (iv (D_X4_join x0 x1 x2 μ))) (Em μ) := by
  generalize h : D_X4_join x0 x1 x2 μ = r
  refine Spec.of (by decide) rfl (catL_ok rfl) (Nat.le_of_ble_eq_true rfl) rfl (fun b hF => ?_)
  unfold D_X4_join at h
  refine dild_3_1 1 dX4_join_0 rfl ?_
  refine dt_if_lt 4 8 dX4_join_1 rfl (by decide) rfl (fun c => ?_) (fun c => ?_)
  · replace h := ifp c h
    exact At.weak (ls_n (ls_s (ls_s ls_0))) (A_X4_join_8 hF _ _ h)
  · replace h := ifn c h
    refine dild_3_2 5 dX4_join_4 rfl ?_
    refine dt_if_ge 8 14 dX4_join_5 rfl (by decide) rfl (fun c => ?_) (fun c => ?_)
    · replace h := ifp c h
      refine ald_3_0 15 rfl dX4_join_14 rfl ?_
      refine dgf_X4_194 18 rfl dX4_join_15 rfl rfl ?_
      refine dt_iconst 19 dX4_join_18 rfl ?_
      refine dt_icmp_ne 22 31 dX4_join_19 rfl (by decide) rfl wk_4 (fun c => ?_) (fun c => ?_)
      · replace h := ifp c h
        refine ald_3_0 32 rfl dX4_join_31 rfl ?_
        refine dgf_X4_194 35 rfl dX4_join_32 rfl rfl ?_
        refine dt_iconst 36 dX4_join_35 rfl ?_
        refine dt_icmp_eq 39 47 dX4_join_36 rfl (by decide) rfl wk_1 (fun c => ?_) (fun c => ?_)
        · replace h := ifp c h
          exact At.weak (ls_n (ls_s (ls_s ls_0))) (A_X4_join_47 hF _ _ h)
        · replace h := ifn c h
          refine ald_3_0 40 rfl dX4_join_39 rfl ?_
          refine dgf_X4_194 43 rfl dX4_join_40 rfl rfl ?_
          refine dt_iconst 44 dX4_join_43 rfl ?_
          refine dt_icmp_ne 47 55 dX4_join_44 rfl (by decide) rfl wk_3 (fun c => ?_) (fun c => ?_)
          · replace h := ifp c h
            refine dild_3_1 56 dX4_join_55 rfl ?_
            refine dild_3_2 57 dX4_join_56 rfl ?_
            refine dmmin 60 rfl cw_X4_231 ⟨by decide, by decide⟩ (Nat.le_of_ble_eq_true rfl) dX4_join_57 rfl ?_
            exact dr_it hF rfl dX4_join_60 h
          · replace h := ifn c h
            exact At.weak (ls_n (ls_s (ls_s ls_0))) (A_X4_join_47 hF _ _ h)
      · replace h := ifn c h
        refine dt_ldc (z := 1000000000) 24 rfl k_X4_230 (by decide) dX4_join_22 rfl ?_
        refine dild_3_1 25 dX4_join_24 rfl ?_
        refine dild_3_2 26 dX4_join_25 rfl ?_
        refine dt_iadd 27 dX4_join_26 rfl ?_
        refine dmmin 30 rfl cw_X4_231 ⟨by decide, by decide⟩ (Nat.le_of_ble_eq_true rfl) dX4_join_27 rfl ?_
        exact dr_it hF rfl dX4_join_30 h
    · replace h := ifn c h
      exact At.weak (ls_n (ls_s (ls_s ls_0))) (A_X4_join_8 hF _ _ h)
/-- StampTales$Search.valueByLink -/
theorem A_X4_valueByLink_156 {G : Cx} {b : Ab} {μ : Mi} {r : Int} {k72 : (Bool → Int → Int → Int → Int → Int → Int → Int → Int → Mi → Option Int)} (hF : Fi yd_X4_valueByLink G b (some (iv r)) (Em μ)) (hk72 : ∀ (x0 : Bool) (x1 : Int) (x2 : Int) (x3 : Int) (x4 : Int) (x5 : Int) (x6 : Int) (x7 : Int) (x8 : Int), k72 x0 x1 x2 x3 x4 x5 x6 x7 x8 μ = some r → At yd_X4_valueByLink G b 72 [some (rf G 4 x0), some (iv x1), some (iv x2), some (iv x3), some (iv x4), some (iv x5), some (iv x6), some (iv x7), some (iv x8), none] [] (Em μ)) (x0 : Bool) (x1 : Int) (x2 : Int) (x3 : Int) (x4 : Int) (x5 : Int) (x6 : Int) (x7 : Int) (x8 : Int) (h : B_X4_valueByLink_156 k72 x0 x1 x2 x3 x4 x5 x6 x7 x8 μ = some r) : At yd_X4_valueByLink G b 156 [some (rf G 4 x0), some (iv x1), some (iv x2), some (iv x3), some (iv x4), some (iv x5), some (iv x6), some (iv x7), some (iv x8), none] [] (Em μ) := by
  unfold B_X4_valueByLink_156 at h
  refine dinc_10_8 159 dX4_valueByLink_156 rfl rfl rfl ?_
  refine st_goto 72 dX4_valueByLink_159 (by decide) ?_
  exact hk72 _ _ _ _ _ _ _ _ _ h
theorem A_X4_valueByLink_133 {G : Cx} {b : Ab} {μ : Mi} {r : Int} {k72 : (Bool → Int → Int → Int → Int → Int → Int → Int → Int → Mi → Option Int)} (hF : Fi yd_X4_valueByLink G b (some (iv r)) (Em μ)) (hk72 : ∀ (x0 : Bool) (x1 : Int) (x2 : Int) (x3 : Int) (x4 : Int) (x5 : Int) (x6 : Int) (x7 : Int) (x8 : Int), k72 x0 x1 x2 x3 x4 x5 x6 x7 x8 μ = some r → At yd_X4_valueByLink G b 72 [some (rf G 4 x0), some (iv x1), some (iv x2), some (iv x3), some (iv x4), some (iv x5), some (iv x6), some (iv x7), some (iv x8), none] [] (Em μ)) (x0 : Bool) (x1 : Int) (x2 : Int) (x3 : Int) (x4 : Int) (x5 : Int) (x6 : Int) (x7 : Int) (x8 : Int) (h : B_X4_valueByLink_133 k72 x0 x1 x2 x3 x4 x5 x6 x7 x8 μ = some r) : At yd_X4_valueByLink G b 133 [some (rf G 4 x0), some (iv x1), some (iv x2), some (iv x3), some (iv x4), some (iv x5), some (iv x6), some (iv x7), some (iv x8), none] [] (Em μ) := by
  unfold B_X4_valueByLink_133 at h
  refine dild_10_8 135 dX4_valueByLink_133 rfl ?_
  refine ald_10_0 136 rfl dX4_valueByLink_135 rfl ?_
  refine dgf_X4_164 139 rfl dX4_valueByLink_136 rfl rfl ?_
  refine dt_icmp_ge 142 156 dX4_valueByLink_139 rfl (by decide) rfl rfl (fun c => ?_) (fun c => ?_)
  · replace h := ifp c h
    exact A_X4_valueByLink_156 hF hk72 _ _ _ _ _ _ _ _ _ h
  · replace h := ifn c h
    refine dild_10_4 144 dX4_valueByLink_142 rfl ?_
    refine dt_iconst 145 dX4_valueByLink_144 rfl ?_
    refine ald_10_0 146 rfl dX4_valueByLink_145 rfl ?_
    refine dgf_X4_27 149 rfl dX4_valueByLink_146 rfl ?_
    refine dild_10_8 151 dX4_valueByLink_149 rfl ?_
    obtain ⟨hi, h⟩ := ift h
    refine diald 152 rfl rfl rfl hi rfl rfl dX4_valueByLink_151 rfl ?_
    refine dt_ishl 153 dX4_valueByLink_152 rfl ?_
    refine dt_ior 154 dX4_valueByLink_153 rfl ?_
    refine dist_10_4 156 dX4_valueByLink_154 rfl rfl rfl ?_
    exact A_X4_valueByLink_156 hF hk72 _ _ _ _ _ _ _ _ _ h
theorem A_X4_valueByLink_72 {G : Cx} {b : Ab} {μ : Mi} {r : Int} (hF : Fi yd_X4_valueByLink G b (some (iv r)) (Em μ)) : ∀ (n : Nat) (x0 : Bool) (x1 : Int) (x2 : Int) (x3 : Int) (x4 : Int) (x5 : Int) (x6 : Int) (x7 : Int) (x8 : Int), B_X4_valueByLink_72 n x0 x1 x2 x3 x4 x5 x6 x7 x8 μ = some r → At yd_X4_valueByLink G b 72 [some (rf G 4 x0), some (iv x1), some (iv x2), some (iv x3), some (iv x4), some (iv x5), some (iv x6), some (iv x7), some (iv x8), none] [] (Em μ) := by
  intro n
  induction n with
  | zero =>
    intro x0 x1 x2 x3 x4 x5 x6 x7 x8 h
    exact nope h
  | succ n hk72 =>
    intro x0 x1 x2 x3 x4 x5 x6 x7 x8 h
    replace h : F_X4_valueByLink_72 (B_X4_valueByLink_72 n) x0 x1 x2 x3 x4 x5 x6 x7 x8 μ = some r := h
    unfold F_X4_valueByLink_72 at h
    refine dild_10_8 74 dX4_valueByLink_72 rfl ?_
    refine dild_10_6 76 dX4_valueByLink_74 rfl ?_
    refine dt_icmp_gt 79 162 dX4_valueByLink_76 rfl (by decide) rfl rfl (fun c => ?_) (fun c => ?_)
    · replace h := ifp c h
      refine dild_10_7 164 dX4_valueByLink_162 rfl ?_
      refine dt_if_ge 167 171 dX4_valueByLink_164 rfl (by decide) rfl (fun c => ?_) (fun c => ?_)
      · replace h := ifp c h
        refine dild_10_7 173 dX4_valueByLink_171 rfl ?_
        refine ald_10_0 174 rfl dX4_valueByLink_173 rfl ?_
        refine dild_10_1 175 dX4_valueByLink_174 rfl ?_
        obtain ⟨r1, h1, h⟩ := bp_some h
        refine cvi_1 178 cw_X4_224 (S_X4_weightOf h1) rfl ⟨by decide, by decide⟩ rfl rfl rfl rfl rfl (Nat.le_of_ble_eq_true rfl) dX4_valueByLink_175 rfl ?_
        refine dt_iadd 179 dX4_valueByLink_178 rfl ?_
        exact dr_ip hF rfl dX4_valueByLink_179 h
      · replace h := ifn c h
        refine dt_iconst 168 dX4_valueByLink_167 rfl ?_
        refine st_goto 179 dX4_valueByLink_168 (by decide) ?_
        exact dr_ip hF rfl dX4_valueByLink_179 h
    · replace h := ifn c h
      refine ald_10_0 80 rfl dX4_valueByLink_79 rfl ?_
      refine dild_10_1 81 dX4_valueByLink_80 rfl ?_
      refine dild_10_2 82 dX4_valueByLink_81 rfl ?_
      refine dild_10_3 83 dX4_valueByLink_82 rfl ?_
      refine dild_10_8 85 dX4_valueByLink_83 rfl ?_
      refine dild_10_5 87 dX4_valueByLink_85 rfl ?_
      refine dt_isub 88 dX4_valueByLink_87 rfl ?_
      obtain ⟨r1, h1, h⟩ := bp_some h
      refine cvi_4 91 cw_X4_153 (S_X4_afterLink h1) rfl ⟨by decide, by decide⟩ rfl rfl rfl rfl rfl (Nat.le_of_ble_eq_true rfl) dX4_valueByLink_88 rfl ?_
      refine dist_10_9 93 dX4_valueByLink_91 rfl rfl rfl ?_
      refine dild_10_9 95 dX4_valueByLink_93 rfl ?_
      refine dt_if_lt 98 133 dX4_valueByLink_95 rfl (by decide) rfl (fun c => ?_) (fun c => ?_)
      · replace h := ifp c h
        exact At.weak (ls_s (ls_s (ls_s (ls_s (ls_s (ls_s (ls_s (ls_s (ls_s (ls_n ls_0)))))))))) (A_X4_valueByLink_133 hF hk72 _ _ _ _ _ _ _ _ _ h)
      · replace h := ifn c h
        refine ald_10_0 99 rfl dX4_valueByLink_98 rfl ?_
        refine dild_10_7 101 dX4_valueByLink_99 rfl ?_
        refine ald_10_0 102 rfl dX4_valueByLink_101 rfl ?_
        refine ald_10_0 103 rfl dX4_valueByLink_102 rfl ?_
        refine dgf_X4_41 106 rfl dX4_valueByLink_103 rfl ?_
        refine dild_10_2 107 dX4_valueByLink_106 rfl ?_
        refine ald_10_0 108 rfl dX4_valueByLink_107 rfl ?_
        refine dgf_X4_33 111 rfl dX4_valueByLink_108 rfl ?_
        refine dgf_X4_150 114 rfl dX4_valueByLink_111 rfl ?_
        refine dild_10_1 115 dX4_valueByLink_114 rfl ?_
        obtain ⟨hi, h⟩ := ift h
        refine diald 116 rfl rfl rfl hi rfl rfl dX4_valueByLink_115 rfl ?_
        refine dt_iadd 117 dX4_valueByLink_116 rfl ?_
        refine dild_10_9 119 dX4_valueByLink_117 rfl ?_
        refine csi_2 122 cw_X4_124 (S_X4_index (x2 + (rd μ 16 false (ix x1))) r1) rfl ⟨by decide, by decide⟩ (Nat.le_of_ble_eq_true rfl) dX4_valueByLink_119 rfl ?_
        obtain ⟨hi, h⟩ := ift h
        refine diald 123 rfl rfl rfl hi rfl rfl dX4_valueByLink_122 rfl ?_
        refine dild_10_4 125 dX4_valueByLink_123 rfl ?_
        refine cvi_2 128 cw_X4_212 (S_X4_charge x0 (rd μ 32 false (ix (D_X4_index (x2 + (rd μ 16 false (ix x1))) r1))) x4) rfl ⟨by decide, by decide⟩ rfl rfl rfl rfl rfl (Nat.le_of_ble_eq_true rfl) dX4_valueByLink_125 rfl ?_
        refine cvi_2 131 cw_X4_206 (S_X4_join x0 x7 (D_X4_charge x0 (rd μ 32 false (ix (D_X4_index (x2 + (rd μ 16 false (ix x1))) r1))) x4 μ)) rfl ⟨by decide, by decide⟩ rfl rfl rfl rfl rfl (Nat.le_of_ble_eq_true rfl) dX4_valueByLink_128 rfl ?_
        refine dist_10_7 133 dX4_valueByLink_131 rfl rfl rfl ?_
        exact At.weak (ls_s (ls_s (ls_s (ls_s (ls_s (ls_s (ls_s (ls_s (ls_s (ls_n ls_0)))))))))) (A_X4_valueByLink_133 hF hk72 _ _ _ _ _ _ _ _ _ h)
theorem A_X4_valueByLink_63 {G : Cx} {b : Ab} {μ : Mi} {r : Int} (hF : Fi yd_X4_valueByLink G b (some (iv r)) (Em μ)) (x0 : Bool) (x1 : Int) (x2 : Int) (x3 : Int) (x4 : Int) (x5 : Int) (s0 : Int) (h : B_X4_valueByLink_63 x0 x1 x2 x3 x4 x5 s0 μ = some r) : At yd_X4_valueByLink G b 63 [some (rf G 4 x0), some (iv x1), some (iv x2), some (iv x3), some (iv x4), some (iv x5), none, none, none, none] [iv s0] (Em μ) := by
  unfold B_X4_valueByLink_63 at h
  refine dist_10_6 65 dX4_valueByLink_63 rfl rfl rfl ?_
  refine dt_iconst 66 dX4_valueByLink_65 rfl ?_
  refine dist_10_7 68 dX4_valueByLink_66 rfl rfl rfl ?_
  refine dild_10_5 70 dX4_valueByLink_68 rfl ?_
  refine dist_10_8 72 dX4_valueByLink_70 rfl rfl rfl ?_
  exact A_X4_valueByLink_72 hF FU _ _ _ _ _ _ _ _ _ h
theorem A_X4_valueByLink_61 {G : Cx} {b : Ab} {μ : Mi} {r : Int} (hF : Fi yd_X4_valueByLink G b (some (iv r)) (Em μ)) (x0 : Bool) (x1 : Int) (x2 : Int) (x3 : Int) (x4 : Int) (x5 : Int) (h : B_X4_valueByLink_61 x0 x1 x2 x3 x4 x5 μ = some r) : At yd_X4_valueByLink G b 61 [some (rf G 4 x0), some (iv x1), some (iv x2), some (iv x3), some (iv x4), some (iv x5), none, none, none, none] [] (Em μ) := by
  unfold B_X4_valueByLink_61 at h
  refine dild_10_5 63 dX4_valueByLink_61 rfl ?_
  exact A_X4_valueByLink_63 hF _ _ _ _ _ _ _ h
theorem A_X4_valueByLink_30 {G : Cx} {b : Ab} {μ : Mi} {r : Int} (hF : Fi yd_X4_valueByLink G b (some (iv r)) (Em μ)) (x0 : Bool) (x1 : Int) (x2 : Int) (x3 : Int) (x4 : Int) (s0 : Int) (s1 : Int) (h : B_X4_valueByLink_30 x0 x1 x2 x3 x4 s0 s1 μ = some r) : At yd_X4_valueByLink G b 30 [some (rf G 4 x0), some (iv x1), some (iv x2), some (iv x3), some (iv x4), none, none, none, none, none] [iv s0, iv s1] (Em μ) := by
  unfold B_X4_valueByLink_30 at h
  refine dt_iadd 31 dX4_valueByLink_30 rfl ?_
  refine dist_10_5 33 dX4_valueByLink_31 rfl rfl rfl ?_
  refine ald_10_0 34 rfl dX4_valueByLink_33 rfl ?_
  refine dgf_X4_194 37 rfl dX4_valueByLink_34 rfl rfl ?_
  refine dt_iconst 38 dX4_valueByLink_37 rfl ?_
  refine dt_icmp_ne 41 61 dX4_valueByLink_38 rfl (by decide) rfl wk_5 (fun c => ?_) (fun c => ?_)
  · replace h := ifp c h
    exact A_X4_valueByLink_61 hF _ _ _ _ _ _ h
  · replace h := ifn c h
    refine ald_10_0 42 rfl dX4_valueByLink_41 rfl ?_
    refine dgf_X4_33 45 rfl dX4_valueByLink_42 rfl ?_
    refine dgf_X4_221 48 rfl dX4_valueByLink_45 rfl ?_
    refine dild_10_1 49 dX4_valueByLink_48 rfl ?_
    obtain ⟨hi, h⟩ := ift h
    refine diald 50 rfl rfl rfl hi rfl rfl dX4_valueByLink_49 rfl ?_
    refine dt_iconst 51 dX4_valueByLink_50 rfl ?_
    refine dt_icmp_eq 54 61 dX4_valueByLink_51 rfl (by decide) rfl wk_m1 (fun c => ?_) (fun c => ?_)
    · replace h := ifp c h
      exact A_X4_valueByLink_61 hF _ _ _ _ _ _ h
    · replace h := ifn c h
      refine ald_10_0 55 rfl dX4_valueByLink_54 rfl ?_
      refine dgf_X4_164 58 rfl dX4_valueByLink_55 rfl rfl ?_
      refine st_goto 63 dX4_valueByLink_58 (by decide) ?_
      exact A_X4_valueByLink_63 hF _ _ _ _ _ _ _ h
theorem S_X4_valueByLink {G : Cx} {μ : Mi} {x0 : Bool} {x1 : Int} {x2 : Int} {x3 : Int} {r : Int} (h : D_X4_valueByLink x0 x1 x2 x3 μ = some r) : Spec yd_X4_valueByLink G [rf G 4 x0, iv x1, iv x2, iv x3] (Em μ) (some (iv r)) (Em μ) := by
  refine Spec.of (by decide) rfl (catL_ok rfl) (Nat.le_of_ble_eq_true rfl) rfl (fun b hF => ?_)
  unfold D_X4_valueByLink at h
  refine ald_10_0 1 rfl dX4_valueByLink_0 rfl ?_
  refine dild_10_1 2 dX4_valueByLink_1 rfl ?_
  refine dild_10_2 3 dX4_valueByLink_2 rfl ?_
  obtain ⟨r1, h1, h⟩ := bp_some h
  refine cvi_2 6 cw_X4_147 (S_X4_papersBetween h1) rfl ⟨by decide, by decide⟩ rfl rfl rfl rfl rfl (Nat.le_of_ble_eq_true rfl) dX4_valueByLink_3 rfl ?_
  refine dist_10_4 8 dX4_valueByLink_6 rfl rfl rfl ?_
  refine dild_10_3 9 dX4_valueByLink_8 rfl ?_
  refine csi_1 12 cw_X4_215 (S_X4_stampsOf x3) rfl ⟨by decide, by decide⟩ (Nat.le_of_ble_eq_true rfl) dX4_valueByLink_9 rfl ?_
  refine ald_10_0 13 rfl dX4_valueByLink_12 rfl ?_
  refine dgf_X4_33 16 rfl dX4_valueByLink_13 rfl ?_
  refine dgf_X4_218 19 rfl dX4_valueByLink_16 rfl ?_
  refine dild_10_1 20 dX4_valueByLink_19 rfl ?_
  obtain ⟨hi, h⟩ := ift h
  refine diald 21 rfl rfl rfl hi rfl rfl dX4_valueByLink_20 rfl ?_
  refine dt_iconst 22 dX4_valueByLink_21 rfl ?_
  refine dt_icmp_ne 25 29 dX4_valueByLink_22 rfl (by decide) rfl wk_m1 (fun c => ?_) (fun c => ?_)
  · replace h := ifp c h
    refine dt_iconst 30 dX4_valueByLink_29 rfl ?_
    exact A_X4_valueByLink_30 hF _ _ _ _ _ _ _ h
  · replace h := ifn c h
    refine dt_iconst 26 dX4_valueByLink_25 rfl ?_
    refine st_goto 30 dX4_valueByLink_26 (by decide) ?_
    exact A_X4_valueByLink_30 hF _ _ _ _ _ _ _ h
/-- StampTales$Search.papersMissed -/
theorem A_X4_papersMissed_74 {G : Cx} {b : Ab} {μ : Mi} {r : Int} {k5 : (Bool → Int → Int → Int → Int → Mi → Option Int)} (hF : Fi yd_X4_papersMissed G b (some (iv r)) (Em μ)) (hk5 : ∀ (x0 : Bool) (x1 : Int) (x2 : Int) (x3 : Int) (x4 : Int), k5 x0 x1 x2 x3 x4 μ = some r → At yd_X4_papersMissed G b 5 [some (rf G 4 x0), some (iv x1), some (iv x2), some (iv x3), some (iv x4)] [] (Em μ)) (x0 : Bool) (x1 : Int) (x2 : Int) (x3 : Int) (x4 : Int) (h : B_X4_papersMissed_74 k5 x0 x1 x2 x3 x4 μ = some r) : At yd_X4_papersMissed G b 74 [some (rf G 4 x0), some (iv x1), some (iv x2), some (iv x3), some (iv x4)] [] (Em μ) := by
  unfold B_X4_papersMissed_74 at h
  refine dinc_5_4 77 dX4_papersMissed_74 rfl rfl rfl ?_
  refine st_goto 5 dX4_papersMissed_77 (by decide) ?_
  exact hk5 _ _ _ _ _ h
theorem A_X4_papersMissed_5 {G : Cx} {b : Ab} {μ : Mi} {r : Int} (hF : Fi yd_X4_papersMissed G b (some (iv r)) (Em μ)) : ∀ (n : Nat) (x0 : Bool) (x1 : Int) (x2 : Int) (x3 : Int) (x4 : Int), B_X4_papersMissed_5 n x0 x1 x2 x3 x4 μ = some r → At yd_X4_papersMissed G b 5 [some (rf G 4 x0), some (iv x1), some (iv x2), some (iv x3), some (iv x4)] [] (Em μ) := by
  intro n
  induction n with
  | zero =>
    intro x0 x1 x2 x3 x4 h
    exact nope h
  | succ n hk5 =>
    intro x0 x1 x2 x3 x4 h
    replace h : F_X4_papersMissed_5 (B_X4_papersMissed_5 n) x0 x1 x2 x3 x4 μ = some r := h
    unfold F_X4_papersMissed_5 at h
    refine dild_5_4 7 dX4_papersMissed_5 rfl ?_
    refine ald_5_0 8 rfl dX4_papersMissed_7 rfl ?_
    refine dgf_X4_37 11 rfl dX4_papersMissed_8 rfl ?_
    refine dgf_X4_87 14 rfl dX4_papersMissed_11 rfl rfl ?_
    refine dt_icmp_ge 17 80 dX4_papersMissed_14 rfl (by decide) rfl rfl (fun c => ?_) (fun c => ?_)
    · replace h := ifp c h
      refine dild_5_3 81 dX4_papersMissed_80 rfl ?_
      exact dr_ip hF rfl dX4_papersMissed_81 h
    · replace h := ifn c h
      refine ald_5_0 18 rfl dX4_papersMissed_17 rfl ?_
      refine dgf_X4_170 21 rfl dX4_papersMissed_18 rfl rfl ?_
      refine dild_5_4 23 dX4_papersMissed_21 rfl ?_
      refine dt_ishr 24 dX4_papersMissed_23 rfl ?_
      refine dt_if_eq 27 80 dX4_papersMissed_24 rfl (by decide) rfl (fun c => ?_) (fun c => ?_)
      · replace h := ifp c h
        refine dild_5_3 81 dX4_papersMissed_80 rfl ?_
        exact dr_ip hF rfl dX4_papersMissed_81 h
      · replace h := ifn c h
        refine ald_5_0 28 rfl dX4_papersMissed_27 rfl ?_
        refine dgf_X4_170 31 rfl dX4_papersMissed_28 rfl rfl ?_
        refine dild_5_4 33 dX4_papersMissed_31 rfl ?_
        refine dt_ishr 34 dX4_papersMissed_33 rfl ?_
        refine dt_iconst 35 dX4_papersMissed_34 rfl ?_
        refine dt_iand 36 dX4_papersMissed_35 rfl ?_
        refine dt_if_eq 39 74 dX4_papersMissed_36 rfl (by decide) rfl (fun c => ?_) (fun c => ?_)
        · replace h := ifp c h
          exact A_X4_papersMissed_74 hF hk5 _ _ _ _ _ h
        · replace h := ifn c h
          refine ald_5_0 40 rfl dX4_papersMissed_39 rfl ?_
          refine dgf_X4_37 43 rfl dX4_papersMissed_40 rfl ?_
          refine dgf_X4_176 46 rfl dX4_papersMissed_43 rfl ?_
          refine dild_5_4 48 dX4_papersMissed_46 rfl ?_
          obtain ⟨hi, h⟩ := ift h
          refine diald 49 rfl rfl rfl hi rfl rfl dX4_papersMissed_48 rfl ?_
          refine dild_5_1 50 dX4_papersMissed_49 rfl ?_
          refine dt_icmp_ne 53 74 dX4_papersMissed_50 rfl (by decide) rfl rfl (fun c => ?_) (fun c => ?_)
          · replace h := ifp c h
            exact A_X4_papersMissed_74 hF hk5 _ _ _ _ _ h
          · replace h := ifn c h
            refine ald_5_0 54 rfl dX4_papersMissed_53 rfl ?_
            refine dgf_X4_37 57 rfl dX4_papersMissed_54 rfl ?_
            refine dgf_X4_259 60 rfl dX4_papersMissed_57 rfl ?_
            refine dild_5_4 62 dX4_papersMissed_60 rfl ?_
            obtain ⟨hi, h⟩ := ift h
            refine diald 63 rfl rfl rfl hi rfl rfl dX4_papersMissed_62 rfl ?_
            refine dild_5_2 64 dX4_papersMissed_63 rfl ?_
            refine dt_icmp_eq 67 74 dX4_papersMissed_64 rfl (by decide) rfl rfl (fun c => ?_) (fun c => ?_)
            · replace h := ifp c h
              exact A_X4_papersMissed_74 hF hk5 _ _ _ _ _ h
            · replace h := ifn c h
              refine dild_5_3 68 dX4_papersMissed_67 rfl ?_
              refine dt_iconst 69 dX4_papersMissed_68 rfl ?_
              refine dild_5_4 71 dX4_papersMissed_69 rfl ?_
              refine dt_ishl 72 dX4_papersMissed_71 rfl ?_
              refine dt_ior 73 dX4_papersMissed_72 rfl ?_
              refine dist_5_3 74 dX4_papersMissed_73 rfl rfl rfl ?_
              exact A_X4_papersMissed_74 hF hk5 _ _ _ _ _ h
theorem S_X4_papersMissed {G : Cx} {μ : Mi} {x0 : Bool} {x1 : Int} {x2 : Int} {r : Int} (h : D_X4_papersMissed x0 x1 x2 μ = some r) : Spec yd_X4_papersMissed G [rf G 4 x0, iv x1, iv x2] (Em μ) (some (iv r)) (Em μ) := by
  refine Spec.of (by decide) rfl (catL_ok rfl) (Nat.le_of_ble_eq_true rfl) rfl (fun b hF => ?_)
  unfold D_X4_papersMissed at h
  refine dt_iconst 1 dX4_papersMissed_0 rfl ?_
  refine dist_5_3 2 dX4_papersMissed_1 rfl rfl rfl ?_
  refine dt_iconst 3 dX4_papersMissed_2 rfl ?_
  refine dist_5_4 5 dX4_papersMissed_3 rfl rfl rfl ?_
  exact A_X4_papersMissed_5 hF FU _ _ _ _ _ h
/-- StampTales$Search.valueOf -/
theorem A_X4_valueOf_84 {G : Cx} {b : Ab} {μ : Mi} {r : Int} (hF : Fi yd_X4_valueOf G b (some (iv r)) (Em μ)) (x0 : Bool) (x1 : Int) (x2 : Int) (x3 : Int) (h : B_X4_valueOf_84 x0 x1 x2 x3 μ = some r) : At yd_X4_valueOf G b 84 [some (rf G 4 x0), some (iv x1), some (iv x2), some (iv x3), none, none] [] (Em μ) := by
  unfold B_X4_valueOf_84 at h
  refine ald_6_0 85 rfl dX4_valueOf_84 rfl ?_
  refine dild_6_3 86 dX4_valueOf_85 rfl ?_
  refine ald_6_0 87 rfl dX4_valueOf_86 rfl ?_
  refine dild_6_1 88 dX4_valueOf_87 rfl ?_
  refine dild_6_2 89 dX4_valueOf_88 rfl ?_
  refine csi_1 92 cw_X4_132 (S_X4_townOf x2) rfl ⟨by decide, by decide⟩ (Nat.le_of_ble_eq_true rfl) dX4_valueOf_89 rfl ?_
  obtain ⟨r2, h2, h⟩ := bp_some h
  refine cvi_2 95 cw_X4_209 (S_X4_papersMissed h2) rfl ⟨by decide, by decide⟩ rfl rfl rfl rfl rfl (Nat.le_of_ble_eq_true rfl) dX4_valueOf_92 rfl ?_
  refine cvi_2 98 cw_X4_212 (S_X4_charge x0 x3 r2) rfl ⟨by decide, by decide⟩ rfl rfl rfl rfl rfl (Nat.le_of_ble_eq_true rfl) dX4_valueOf_95 rfl ?_
  refine dist_6_3 99 dX4_valueOf_98 rfl rfl rfl ?_
  refine dild_6_2 100 dX4_valueOf_99 rfl ?_
  refine csi_1 103 cw_X4_215 (S_X4_stampsOf x2) rfl ⟨by decide, by decide⟩ (Nat.le_of_ble_eq_true rfl) dX4_valueOf_100 rfl ?_
  refine dist_6_4 105 dX4_valueOf_103 rfl rfl rfl ?_
  refine ald_6_0 106 rfl dX4_valueOf_105 rfl ?_
  refine dgf_X4_194 109 rfl dX4_valueOf_106 rfl rfl ?_
  refine dt_iconst 110 dX4_valueOf_109 rfl ?_
  refine dt_icmp_ne 113 157 dX4_valueOf_110 rfl (by decide) rfl wk_5 (fun c => ?_) (fun c => ?_)
  · replace h := ifp c h
    refine dild_6_3 158 dX4_valueOf_157 rfl ?_
    exact dr_ip hF rfl dX4_valueOf_158 h
  · replace h := ifn c h
    refine dild_6_4 115 dX4_valueOf_113 rfl ?_
    refine ald_6_0 116 rfl dX4_valueOf_115 rfl ?_
    refine dgf_X4_164 119 rfl dX4_valueOf_116 rfl rfl ?_
    refine dt_icmp_ge 122 157 dX4_valueOf_119 rfl (by decide) rfl rfl (fun c => ?_) (fun c => ?_)
    · replace h := ifp c h
      refine dild_6_3 158 dX4_valueOf_157 rfl ?_
      exact dr_ip hF rfl dX4_valueOf_158 h
    · replace h := ifn c h
      refine ald_6_0 123 rfl dX4_valueOf_122 rfl ?_
      refine dgf_X4_41 126 rfl dX4_valueOf_123 rfl ?_
      refine dild_6_1 127 dX4_valueOf_126 rfl ?_
      refine dild_6_2 128 dX4_valueOf_127 rfl ?_
      refine dt_iconst 129 dX4_valueOf_128 rfl ?_
      refine dt_iadd 130 dX4_valueOf_129 rfl ?_
      refine csi_2 133 cw_X4_124 (S_X4_index x1 (x2 + 4)) rfl ⟨by decide, by decide⟩ (Nat.le_of_ble_eq_true rfl) dX4_valueOf_130 rfl ?_
      obtain ⟨hi, h⟩ := ift h
      refine diald 134 rfl rfl rfl hi rfl rfl dX4_valueOf_133 rfl ?_
      refine dist_6_5 136 dX4_valueOf_134 rfl rfl rfl ?_
      refine ald_6_0 137 rfl dX4_valueOf_136 rfl ?_
      refine dild_6_3 138 dX4_valueOf_137 rfl ?_
      refine ald_6_0 139 rfl dX4_valueOf_138 rfl ?_
      refine dild_6_5 141 dX4_valueOf_139 rfl ?_
      refine dt_iconst 142 dX4_valueOf_141 rfl ?_
      refine ald_6_0 143 rfl dX4_valueOf_142 rfl ?_
      refine dgf_X4_27 146 rfl dX4_valueOf_143 rfl ?_
      refine dild_6_4 148 dX4_valueOf_146 rfl ?_
      obtain ⟨hi, h⟩ := ift h
      refine diald 149 rfl rfl rfl hi rfl rfl dX4_valueOf_148 rfl ?_
      refine dt_ishl 150 dX4_valueOf_149 rfl ?_
      refine cvi_2 153 cw_X4_212 (S_X4_charge x0 (rd μ 32 false (ix (D_X4_index x1 (x2 + 4)))) (ishl 1 (rd μ 35 x0 (ix (D_X4_stampsOf x2))))) rfl ⟨by decide, by decide⟩ rfl rfl rfl rfl rfl (Nat.le_of_ble_eq_true rfl) dX4_valueOf_150 rfl ?_
      refine cvi_2 156 cw_X4_206 (S_X4_join x0 (D_X4_charge x0 x3 r2 μ) (D_X4_charge x0 (rd μ 32 false (ix (D_X4_index x1 (x2 + 4)))) (ishl 1 (rd μ 35 x0 (ix (D_X4_stampsOf x2)))) μ)) rfl ⟨by decide, by decide⟩ rfl rfl rfl rfl rfl (Nat.le_of_ble_eq_true rfl) dX4_valueOf_153 rfl ?_
      refine dist_6_3 157 dX4_valueOf_156 rfl rfl rfl ?_
      refine dild_6_3 158 dX4_valueOf_157 rfl ?_
      exact dr_ip hF rfl dX4_valueOf_158 h
theorem A_X4_valueOf_78 {G : Cx} {b : Ab} {μ : Mi} {r : Int} {k29 : (Bool → Int → Int → Int → Int → Mi → Option Int)} (hF : Fi yd_X4_valueOf G b (some (iv r)) (Em μ)) (hk29 : ∀ (x0 : Bool) (x1 : Int) (x2 : Int) (x3 : Int) (x4 : Int), k29 x0 x1 x2 x3 x4 μ = some r → At yd_X4_valueOf G b 29 [some (rf G 4 x0), some (iv x1), some (iv x2), some (iv x3), some (iv x4), none] [] (Em μ)) (x0 : Bool) (x1 : Int) (x2 : Int) (x3 : Int) (x4 : Int) (h : B_X4_valueOf_78 k29 x0 x1 x2 x3 x4 μ = some r) : At yd_X4_valueOf G b 78 [some (rf G 4 x0), some (iv x1), some (iv x2), some (iv x3), some (iv x4), none] [] (Em μ) := by
  unfold B_X4_valueOf_78 at h
  refine dinc_6_4 81 dX4_valueOf_78 rfl rfl rfl ?_
  refine st_goto 29 dX4_valueOf_81 (by decide) ?_
  exact hk29 _ _ _ _ _ h
theorem A_X4_valueOf_29 {G : Cx} {b : Ab} {μ : Mi} {r : Int} (hF : Fi yd_X4_valueOf G b (some (iv r)) (Em μ)) : ∀ (n : Nat) (x0 : Bool) (x1 : Int) (x2 : Int) (x3 : Int) (x4 : Int), B_X4_valueOf_29 n x0 x1 x2 x3 x4 μ = some r → At yd_X4_valueOf G b 29 [some (rf G 4 x0), some (iv x1), some (iv x2), some (iv x3), some (iv x4), none] [] (Em μ) := by
  intro n
  induction n with
  | zero =>
    intro x0 x1 x2 x3 x4 h
    exact nope h
  | succ n hk29 =>
    intro x0 x1 x2 x3 x4 h
    replace h : F_X4_valueOf_29 (B_X4_valueOf_29 n) x0 x1 x2 x3 x4 μ = some r := h
    unfold F_X4_valueOf_29 at h
    refine dild_6_4 31 dX4_valueOf_29 rfl ?_
    refine ald_6_0 32 rfl dX4_valueOf_31 rfl ?_
    refine dgf_X4_33 35 rfl dX4_valueOf_32 rfl ?_
    refine dgf_X4_138 38 rfl dX4_valueOf_35 rfl rfl ?_
    refine dt_icmp_ge 41 84 dX4_valueOf_38 rfl (by decide) rfl rfl (fun c => ?_) (fun c => ?_)
    · replace h := ifp c h
      exact At.weak (ls_s (ls_s (ls_s (ls_s (ls_n (ls_n ls_0)))))) (A_X4_valueOf_84 hF _ _ _ _ h)
    · replace h := ifn c h
      refine ald_6_0 42 rfl dX4_valueOf_41 rfl ?_
      refine dgf_X4_22 45 rfl dX4_valueOf_42 rfl ?_
      refine dild_6_1 46 dX4_valueOf_45 rfl ?_
      obtain ⟨hi, h⟩ := ift h
      refine diald 47 rfl rfl rfl hi rfl rfl dX4_valueOf_46 rfl ?_
      refine dild_6_4 49 dX4_valueOf_47 rfl ?_
      refine dt_ishr 50 dX4_valueOf_49 rfl ?_
      refine dt_if_eq 53 84 dX4_valueOf_50 rfl (by decide) rfl (fun c => ?_) (fun c => ?_)
      · replace h := ifp c h
        exact At.weak (ls_s (ls_s (ls_s (ls_s (ls_n (ls_n ls_0)))))) (A_X4_valueOf_84 hF _ _ _ _ h)
      · replace h := ifn c h
        refine ald_6_0 54 rfl dX4_valueOf_53 rfl ?_
        refine dild_6_4 56 dX4_valueOf_54 rfl ?_
        refine dild_6_1 57 dX4_valueOf_56 rfl ?_
        refine dild_6_2 58 dX4_valueOf_57 rfl ?_
        obtain ⟨r1, h1, h⟩ := bp_some h
        refine cvi_3 61 cw_X4_143 (S_X4_canTake h1) rfl ⟨by decide, by decide⟩ rfl rfl rfl rfl rfl (Nat.le_of_ble_eq_true rfl) dX4_valueOf_58 rfl ?_
        refine dt_if_eq 64 78 dX4_valueOf_61 rfl (by decide) rfl (fun c => ?_) (fun c => ?_)
        · replace h := ifp c h
          exact A_X4_valueOf_78 hF hk29 _ _ _ _ _ h
        · replace h := ifn c h
          refine ald_6_0 65 rfl dX4_valueOf_64 rfl ?_
          refine dild_6_3 66 dX4_valueOf_65 rfl ?_
          refine ald_6_0 67 rfl dX4_valueOf_66 rfl ?_
          refine dild_6_4 69 dX4_valueOf_67 rfl ?_
          refine dild_6_1 70 dX4_valueOf_69 rfl ?_
          refine dild_6_2 71 dX4_valueOf_70 rfl ?_
          obtain ⟨r2, h2, h⟩ := bp_some h
          refine cvi_3 74 cw_X4_160 (S_X4_valueByLink h2) rfl ⟨by decide, by decide⟩ rfl rfl rfl rfl rfl (Nat.le_of_ble_eq_true rfl) dX4_valueOf_71 rfl ?_
          refine cvi_2 77 cw_X4_206 (S_X4_join x0 x3 r2) rfl ⟨by decide, by decide⟩ rfl rfl rfl rfl rfl (Nat.le_of_ble_eq_true rfl) dX4_valueOf_74 rfl ?_
          refine dist_6_3 78 dX4_valueOf_77 rfl rfl rfl ?_
          exact A_X4_valueOf_78 hF hk29 _ _ _ _ _ h
theorem A_X4_valueOf_25 {G : Cx} {b : Ab} {μ : Mi} {r : Int} (hF : Fi yd_X4_valueOf G b (some (iv r)) (Em μ)) (x0 : Bool) (x1 : Int) (x2 : Int) (s0 : Int) (h : B_X4_valueOf_25 x0 x1 x2 s0 μ = some r) : At yd_X4_valueOf G b 25 [some (rf G 4 x0), some (iv x1), some (iv x2), none, none, none] [iv s0] (Em μ) := by
  unfold B_X4_valueOf_25 at h
  refine dist_6_3 26 dX4_valueOf_25 rfl rfl rfl ?_
  refine dt_iconst 27 dX4_valueOf_26 rfl ?_
  refine dist_6_4 29 dX4_valueOf_27 rfl rfl rfl ?_
  exact A_X4_valueOf_29 hF FU _ _ _ _ _ h
theorem S_X4_valueOf {G : Cx} {μ : Mi} {x0 : Bool} {x1 : Int} {x2 : Int} {r : Int} (h : D_X4_valueOf x0 x1 x2 μ = some r) : Spec yd_X4_valueOf G [rf G 4 x0, iv x1, iv x2] (Em μ) (some (iv r)) (Em μ) := by
  refine Spec.of (by decide) rfl (catL_ok rfl) (Nat.le_of_ble_eq_true rfl) rfl (fun b hF => ?_)
  unfold D_X4_valueOf at h
  refine dild_6_1 1 dX4_valueOf_0 rfl ?_
  refine ald_6_0 2 rfl dX4_valueOf_1 rfl ?_
  refine dgf_X4_37 5 rfl dX4_valueOf_2 rfl ?_
  refine dgf_X4_114 8 rfl dX4_valueOf_5 rfl rfl ?_
  refine dt_icmp_ne 11 19 dX4_valueOf_8 rfl (by decide) rfl rfl (fun c => ?_) (fun c => ?_)
  · replace h := ifp c h
    refine ald_6_0 20 rfl dX4_valueOf_19 rfl ?_
    refine dild_6_1 21 dX4_valueOf_20 rfl ?_
    refine dild_6_2 22 dX4_valueOf_21 rfl ?_
    obtain ⟨r1, h1, h⟩ := bp_some h
    refine cvi_2 25 cw_X4_203 (S_X4_valueByStay h1) rfl ⟨by decide, by decide⟩ rfl rfl rfl rfl rfl (Nat.le_of_ble_eq_true rfl) dX4_valueOf_22 rfl ?_
    exact A_X4_valueOf_25 hF _ _ _ _ h
  · replace h := ifn c h
    refine ald_6_0 12 rfl dX4_valueOf_11 rfl ?_
    refine dild_6_2 13 dX4_valueOf_12 rfl ?_
    obtain ⟨r1, h1, h⟩ := bp_some h
    refine cvi_1 16 cw_X4_200 (S_X4_valueAtEnd h1) rfl ⟨by decide, by decide⟩ rfl rfl rfl rfl rfl (Nat.le_of_ble_eq_true rfl) dX4_valueOf_13 rfl ?_
    refine st_goto 25 dX4_valueOf_16 (by decide) ?_
    exact A_X4_valueOf_25 hF _ _ _ _ h
/-- StampTales$Search.fill -/
theorem A_X4_fill_35 {G : Cx} {b : Ab}  {mm : Mi} {k13 : (Bool → Int → Mi → Option Mi)} {k26 : (Bool → Int → Int → Int → Mi → Option Mi)} (hF : Fi yd_X4_fill G b none (Em mm)) (hk13 : ∀ (x0 : Bool) (x2 : Int) (m : Mi), k13 x0 x2 m = some mm → At yd_X4_fill G b 13 [some (rf G 4 x0), none, some (iv x2), none, none, none, none] [] (Em m)) (hk26 : ∀ (x0 : Bool) (x2 : Int) (x3 : Int) (x4 : Int) (m : Mi), k26 x0 x2 x3 x4 m = some mm → At yd_X4_fill G b 26 [some (rf G 4 x0), none, some (iv x2), some (iv x3), some (iv x4), none, none] [] (Em m)) : ∀ (n : Nat) (x0 : Bool) (x2 : Int) (x3 : Int) (x4 : Int) (x5 : Int) (μ : Mi), B_X4_fill_35 k13 k26 n x0 x2 x3 x4 x5 μ = some mm → At yd_X4_fill G b 35 [some (rf G 4 x0), none, some (iv x2), some (iv x3), some (iv x4), some (iv x5), none] [] (Em μ) := by
  intro n
  induction n with
  | zero =>
    intro x0 x2 x3 x4 x5 μ h
    exact nope h
  | succ n hk35 =>
    intro x0 x2 x3 x4 x5 μ h
    replace h : F_X4_fill_35 k13 k26 (B_X4_fill_35 k13 k26 n) x0 x2 x3 x4 x5 μ = some mm := h
    unfold F_X4_fill_35 at h
    refine dild_7_5 37 dX4_fill_35 rfl ?_
    refine ald_7_0 38 rfl dX4_fill_37 rfl ?_
    refine dgf_X4_121 41 rfl dX4_fill_38 rfl rfl ?_
    refine dt_icmp_ge 44 84 dX4_fill_41 rfl (by decide) rfl rfl (fun c => ?_) (fun c => ?_)
    · replace h := ifp c h
      refine dinc_7_4 87 dX4_fill_84 rfl rfl rfl ?_
      refine st_goto 26 dX4_fill_87 (by decide) ?_
      exact At.weak (ls_s (ls_n (ls_s (ls_s (ls_s (ls_n (ls_n ls_0))))))) (hk26 _ _ _ _ _ h)
    · replace h := ifn c h
      refine dild_7_4 46 dX4_fill_44 rfl ?_
      refine dt_sipush 49 dX4_fill_46 sq_256 rfl ?_
      refine dt_imul 50 dX4_fill_49 rfl ?_
      refine ald_7_0 51 rfl dX4_fill_50 rfl ?_
      refine dgf_X4_18 54 rfl dX4_fill_51 rfl ?_
      refine dild_7_5 56 dX4_fill_54 rfl ?_
      obtain ⟨hi, h⟩ := ift h
      refine diald 57 rfl rfl rfl hi rfl rfl dX4_fill_56 rfl ?_
      refine dt_iadd 58 dX4_fill_57 rfl ?_
      refine dist_7_6 60 dX4_fill_58 rfl rfl rfl ?_
      refine ald_7_0 61 rfl dX4_fill_60 rfl ?_
      refine dgf_X4_41 64 rfl dX4_fill_61 rfl ?_
      refine dild_7_2 65 dX4_fill_64 rfl ?_
      refine dild_7_6 67 dX4_fill_65 rfl ?_
      refine csi_2 70 cw_X4_124 (S_X4_index x2 ((x4 * 256) + (rd μ 33 x0 (ix x5)))) rfl ⟨by decide, by decide⟩ (Nat.le_of_ble_eq_true rfl) dX4_fill_67 rfl ?_
      refine ald_7_0 71 rfl dX4_fill_70 rfl ?_
      refine dild_7_2 72 dX4_fill_71 rfl ?_
      refine dild_7_6 74 dX4_fill_72 rfl ?_
      obtain ⟨r2, h2, h⟩ := bp_some h
      refine cvi_2 77 cw_X4_197 (S_X4_valueOf h2) rfl ⟨by decide, by decide⟩ rfl rfl rfl rfl rfl (Nat.le_of_ble_eq_true rfl) dX4_fill_74 rfl ?_
      obtain ⟨hi, h⟩ := ift h
      refine diast 78 rfl rfl rfl hi rfl dX4_fill_77 rfl ?_
      refine dinc_7_5 81 dX4_fill_78 rfl rfl rfl ?_
      refine st_goto 35 dX4_fill_81 (by decide) ?_
      exact At.weak (ls_s (ls_n (ls_s (ls_s (ls_s (ls_s (ls_n ls_0))))))) (hk35 _ _ _ _ _ _ h)
theorem A_X4_fill_26 {G : Cx} {b : Ab}  {mm : Mi} {k13 : (Bool → Int → Mi → Option Mi)} (hF : Fi yd_X4_fill G b none (Em mm)) (hk13 : ∀ (x0 : Bool) (x2 : Int) (m : Mi), k13 x0 x2 m = some mm → At yd_X4_fill G b 13 [some (rf G 4 x0), none, some (iv x2), none, none, none, none] [] (Em m)) : ∀ (n : Nat) (x0 : Bool) (x2 : Int) (x3 : Int) (x4 : Int) (μ : Mi), B_X4_fill_26 k13 n x0 x2 x3 x4 μ = some mm → At yd_X4_fill G b 26 [some (rf G 4 x0), none, some (iv x2), some (iv x3), some (iv x4), none, none] [] (Em μ) := by
  intro n
  induction n with
  | zero =>
    intro x0 x2 x3 x4 μ h
    exact nope h
  | succ n hk26 =>
    intro x0 x2 x3 x4 μ h
    replace h : F_X4_fill_26 k13 (B_X4_fill_26 k13 n) x0 x2 x3 x4 μ = some mm := h
    unfold F_X4_fill_26 at h
    refine dild_7_4 28 dX4_fill_26 rfl ?_
    refine dild_7_3 29 dX4_fill_28 rfl ?_
    refine dt_icmp_gt 32 90 dX4_fill_29 rfl (by decide) rfl rfl (fun c => ?_) (fun c => ?_)
    · replace h := ifp c h
      refine dinc_7_2 93 dX4_fill_90 rfl rfl rfl ?_
      refine st_goto 13 dX4_fill_93 (by decide) ?_
      exact At.weak (ls_s (ls_n (ls_s (ls_n (ls_n (ls_n (ls_n ls_0))))))) (hk13 _ _ _ h)
    · replace h := ifn c h
      refine dt_iconst 33 dX4_fill_32 rfl ?_
      refine dist_7_5 35 dX4_fill_33 rfl rfl rfl ?_
      exact A_X4_fill_35 hF hk13 hk26 FU _ _ _ _ _ _ h
theorem A_X4_fill_13 {G : Cx} {b : Ab}  {mm : Mi} (hF : Fi yd_X4_fill G b none (Em mm)) : ∀ (n : Nat) (x0 : Bool) (x2 : Int) (μ : Mi), B_X4_fill_13 n x0 x2 μ = some mm → At yd_X4_fill G b 13 [some (rf G 4 x0), none, some (iv x2), none, none, none, none] [] (Em μ) := by
  intro n
  induction n with
  | zero =>
    intro x0 x2 μ h
    exact nope h
  | succ n hk13 =>
    intro x0 x2 μ h
    replace h : F_X4_fill_13 (B_X4_fill_13 n) x0 x2 μ = some mm := h
    unfold F_X4_fill_13 at h
    refine dild_7_2 14 dX4_fill_13 rfl ?_
    refine dt_if_lt 17 96 dX4_fill_14 rfl (by decide) rfl (fun c => ?_) (fun c => ?_)
    · replace h := ifp c h
      exact dr_v hF rfl dX4_fill_96 h
    · replace h := ifn c h
      refine ald_7_0 18 rfl dX4_fill_17 rfl ?_
      refine dild_7_2 19 dX4_fill_18 rfl ?_
      refine cvi_1 22 cw_X4_117 (S_X4_mostSlept x0 x2) rfl ⟨by decide, by decide⟩ rfl rfl rfl rfl rfl (Nat.le_of_ble_eq_true rfl) dX4_fill_19 rfl ?_
      refine dist_7_3 23 dX4_fill_22 rfl rfl rfl ?_
      refine dt_iconst 24 dX4_fill_23 rfl ?_
      refine dist_7_4 26 dX4_fill_24 rfl rfl rfl ?_
      exact A_X4_fill_26 hF hk13 FU _ _ _ _ _ h
theorem S_X4_fill {G : Cx} {μ : Mi} {x0 : Bool} {x1 : Int}  {mm : Mi} (h : D_X4_fill x0 x1 μ = some mm) : Spec yd_X4_fill G [rf G 4 x0, iv x1] (Em μ) (none) (Em mm) := by
  refine Spec.of (by decide) rfl (catL_ok rfl) (Nat.le_of_ble_eq_true rfl) rfl (fun b hF => ?_)
  unfold D_X4_fill at h
  refine ald_7_0 1 rfl dX4_fill_0 rfl ?_
  refine dild_7_1 2 dX4_fill_1 rfl ?_
  refine dpf_X4_194 5 rfl dX4_fill_2 rfl ?_
  refine ald_7_0 6 rfl dX4_fill_5 rfl ?_
  refine dgf_X4_37 9 rfl dX4_fill_6 rfl ?_
  refine dgf_X4_114 12 rfl dX4_fill_9 rfl (rd_o (by decide)) ?_
  refine dist_7_2 13 dX4_fill_12 rfl rfl rfl ?_
  exact At.weak (ls_s (ls_n (ls_s (ls_n (ls_n (ls_n (ls_n ls_0))))))) (A_X4_fill_13 hF FU _ _ _ h)
/-- StampTales$Search.startCell -/
theorem S_X4_startCell {G : Cx} {μ : Mi} {x0 : Bool} {r : Int} (h : D_X4_startCell x0 μ = some r) : Spec yd_X4_startCell G [rf G 4 x0] (Em μ) (some (iv r)) (Em μ) := by
  refine Spec.of (by decide) rfl (catL_ok rfl) (Nat.le_of_ble_eq_true rfl) rfl (fun b hF => ?_)
  unfold D_X4_startCell at h
  refine dt_iconst 1 dX4_startCell_0 rfl ?_
  refine ald_1_0 2 rfl dX4_startCell_1 rfl ?_
  refine dgf_X4_37 5 rfl dX4_startCell_2 rfl ?_
  refine dgf_X4_263 8 rfl dX4_startCell_5 rfl rfl ?_
  refine dt_iconst 9 dX4_startCell_8 rfl ?_
  refine ald_1_0 10 rfl dX4_startCell_9 rfl ?_
  refine dt_iconst 11 dX4_startCell_10 rfl ?_
  refine ald_1_0 12 rfl dX4_startCell_11 rfl ?_
  refine dgf_X4_37 15 rfl dX4_startCell_12 rfl ?_
  refine dgf_X4_263 18 rfl dX4_startCell_15 rfl rfl ?_
  obtain ⟨r1, h1, h⟩ := bp_some h
  refine cvi_2 21 cw_X4_243 (S_X4_seenAt h1) rfl ⟨by decide, by decide⟩ rfl rfl rfl rfl rfl (Nat.le_of_ble_eq_true rfl) dX4_startCell_18 rfl ?_
  refine csi_4 24 cw_X4_191 (S_X4_cellOf 0 (rd μ 2 x0 0) 0 r1) rfl ⟨by decide, by decide⟩ (Nat.le_of_ble_eq_true rfl) dX4_startCell_21 rfl ?_
  exact dr_ip hF rfl dX4_startCell_24 h
/-- StampTales$Search.valueAtStart -/
theorem S_X4_valueAtStart {G : Cx} {μ : Mi} {x0 : Bool} {r : Int} (h : D_X4_valueAtStart x0 μ = some r) : Spec yd_X4_valueAtStart G [rf G 4 x0] (Em μ) (some (iv r)) (Em μ) := by
  refine Spec.of (by decide) rfl (catL_ok rfl) (Nat.le_of_ble_eq_true rfl) rfl (fun b hF => ?_)
  unfold D_X4_valueAtStart at h
  refine ald_1_0 1 rfl dX4_valueAtStart_0 rfl ?_
  refine dgf_X4_41 4 rfl dX4_valueAtStart_1 rfl ?_
  refine dt_iconst 5 dX4_valueAtStart_4 rfl ?_
  refine ald_1_0 6 rfl dX4_valueAtStart_5 rfl ?_
  obtain ⟨r1, h1, h⟩ := bp_some h
  refine cvi_0 9 cw_X4_107 (S_X4_startCell h1) rfl ⟨by decide, by decide⟩ rfl rfl rfl rfl rfl (Nat.le_of_ble_eq_true rfl) dX4_valueAtStart_6 rfl ?_
  refine csi_2 12 cw_X4_124 (S_X4_index 0 r1) rfl ⟨by decide, by decide⟩ (Nat.le_of_ble_eq_true rfl) dX4_valueAtStart_9 rfl ?_
  obtain ⟨hi, h⟩ := ift h
  refine diald 13 rfl rfl rfl hi rfl rfl dX4_valueAtStart_12 rfl ?_
  exact dr_ip hF rfl dX4_valueAtStart_13 h
/-- StampTales$Search.reach -/
theorem S_X4_reach {G : Cx} {μ : Mi} {x0 : Bool} {x1 : Int} {x2 : Int} {r : Int} {mm : Mi} (h : D_X4_reach x0 x1 x2 μ = some (r, mm)) : Spec yd_X4_reach G [rf G 4 x0, iv x1, iv x2] (Em μ) (some (iv r)) (Em mm) := by
  refine Spec.of (by decide) rfl (catL_ok rfl) (Nat.le_of_ble_eq_true rfl) rfl (fun b hF => ?_)
  unfold D_X4_reach at h
  refine dild_3_2 1 dX4_reach_0 rfl ?_
  refine dt_if_lt 4 17 dX4_reach_1 rfl (by decide) rfl (fun c => ?_) (fun c => ?_)
  · replace h := ifp c h
    refine dt_iconst 18 dX4_reach_17 rfl ?_
    exact dr_z hF rfl isB_0 dX4_reach_18 h
  · replace h := ifn c h
    refine ald_3_0 5 rfl dX4_reach_4 rfl ?_
    refine dgf_X4_41 8 rfl dX4_reach_5 rfl ?_
    refine dild_3_1 9 dX4_reach_8 rfl ?_
    refine dild_3_2 10 dX4_reach_9 rfl ?_
    refine csi_2 13 cw_X4_124 (S_X4_index x1 x2) rfl ⟨by decide, by decide⟩ (Nat.le_of_ble_eq_true rfl) dX4_reach_10 rfl ?_
    obtain ⟨hi, h⟩ := ift h
    refine diald 14 rfl rfl rfl hi rfl rfl dX4_reach_13 rfl ?_
    refine dt_if_ge 17 19 dX4_reach_14 rfl (by decide) rfl (fun c => ?_) (fun c => ?_)
    · replace h := ifp c h
      refine ald_3_0 20 rfl dX4_reach_19 rfl ?_
      refine dgf_X4_41 23 rfl dX4_reach_20 rfl ?_
      refine dild_3_1 24 dX4_reach_23 rfl ?_
      refine dild_3_2 25 dX4_reach_24 rfl ?_
      refine csi_2 28 cw_X4_124 (S_X4_index x1 x2) rfl ⟨by decide, by decide⟩ (Nat.le_of_ble_eq_true rfl) dX4_reach_25 rfl ?_
      refine st_dup2 29 dX4_reach_28 rfl rfl rfl ?_
      obtain ⟨hi, h⟩ := ift h
      refine diald 30 rfl rfl rfl hi rfl rfl dX4_reach_29 rfl ?_
      refine dt_ldc (z := 1073741824) 32 rfl k_X4_127 (by decide) dX4_reach_30 rfl ?_
      refine dt_ior 33 dX4_reach_32 rfl ?_
      obtain ⟨hi, h⟩ := ift h
      refine diast 34 rfl rfl rfl hi rfl dX4_reach_33 rfl ?_
      refine dt_iconst 35 dX4_reach_34 rfl ?_
      exact dr_z hF rfl isB_1 dX4_reach_35 h
    · replace h := ifn c h
      refine dt_iconst 18 dX4_reach_17 rfl ?_
      exact dr_z hF rfl isB_0 dX4_reach_18 h
/-- StampTales$Search.goOnFrom -/
theorem A_X4_goOnFrom_140 {G : Cx} {b : Ab}  {mm : Mi} {k46 : (Bool → Int → Int → Int → Mi → Option Mi)} (hF : Fi yd_X4_goOnFrom G b none (Em mm)) (hk46 : ∀ (x0 : Bool) (x1 : Int) (x2 : Int) (x3 : Int) (m : Mi), k46 x0 x1 x2 x3 m = some mm → At yd_X4_goOnFrom G b 46 [some (rf G 4 x0), some (iv x1), some (iv x2), some (iv x3), none, none] [] (Em m)) (x0 : Bool) (x1 : Int) (x2 : Int) (x3 : Int) (μ : Mi) (h : B_X4_goOnFrom_140 k46 x0 x1 x2 x3 μ = some mm) : At yd_X4_goOnFrom G b 140 [some (rf G 4 x0), some (iv x1), some (iv x2), some (iv x3), none, none] [] (Em μ) := by
  unfold B_X4_goOnFrom_140 at h
  refine dinc_6_3 143 dX4_goOnFrom_140 rfl rfl rfl ?_
  refine st_goto 46 dX4_goOnFrom_143 (by decide) ?_
  exact hk46 _ _ _ _ _ h
theorem A_X4_goOnFrom_111 {G : Cx} {b : Ab}  {mm : Mi} {k46 : (Bool → Int → Int → Int → Mi → Option Mi)} (hF : Fi yd_X4_goOnFrom G b none (Em mm)) (hk46 : ∀ (x0 : Bool) (x1 : Int) (x2 : Int) (x3 : Int) (m : Mi), k46 x0 x1 x2 x3 m = some mm → At yd_X4_goOnFrom G b 46 [some (rf G 4 x0), some (iv x1), some (iv x2), some (iv x3), none, none] [] (Em m)) : ∀ (n : Nat) (x0 : Bool) (x1 : Int) (x2 : Int) (x3 : Int) (x4 : Int) (x5 : Int) (μ : Mi), B_X4_goOnFrom_111 k46 n x0 x1 x2 x3 x4 x5 μ = some mm → At yd_X4_goOnFrom G b 111 [some (rf G 4 x0), some (iv x1), some (iv x2), some (iv x3), some (iv x4), some (iv x5)] [] (Em μ) := by
  intro n
  induction n with
  | zero =>
    intro x0 x1 x2 x3 x4 x5 μ h
    exact nope h
  | succ n hk111 =>
    intro x0 x1 x2 x3 x4 x5 μ h
    replace h : F_X4_goOnFrom_111 k46 (B_X4_goOnFrom_111 k46 n) x0 x1 x2 x3 x4 x5 μ = some mm := h
    unfold F_X4_goOnFrom_111 at h
    refine dild_6_5 113 dX4_goOnFrom_111 rfl ?_
    refine dild_6_4 115 dX4_goOnFrom_113 rfl ?_
    refine dt_icmp_ge 118 140 dX4_goOnFrom_115 rfl (by decide) rfl rfl (fun c => ?_) (fun c => ?_)
    · replace h := ifp c h
      exact At.weak (ls_s (ls_s (ls_s (ls_s (ls_n (ls_n ls_0)))))) (A_X4_goOnFrom_140 hF hk46 _ _ _ _ _ h)
    · replace h := ifn c h
      refine ald_6_0 119 rfl dX4_goOnFrom_118 rfl ?_
      refine dgf_X4_14 122 rfl dX4_goOnFrom_119 rfl ?_
      refine dgf_X4_51 125 rfl dX4_goOnFrom_122 rfl ?_
      refine dild_6_5 127 dX4_goOnFrom_125 rfl ?_
      refine st_dup2 128 dX4_goOnFrom_127 rfl rfl rfl ?_
      obtain ⟨hi, h⟩ := ift h
      refine diald 129 rfl rfl rfl hi rfl rfl dX4_goOnFrom_128 rfl ?_
      refine dt_sipush 132 dX4_goOnFrom_129 sq_256 rfl ?_
      refine dt_ior 133 dX4_goOnFrom_132 rfl ?_
      obtain ⟨hi, h⟩ := ift h
      refine diast 134 rfl rfl rfl hi rfl dX4_goOnFrom_133 rfl ?_
      refine dinc_6_5 137 dX4_goOnFrom_134 rfl rfl rfl ?_
      refine st_goto 111 dX4_goOnFrom_137 (by decide) ?_
      exact hk111 _ _ _ _ _ _ _ h
theorem A_X4_goOnFrom_46 {G : Cx} {b : Ab}  {mm : Mi} (hF : Fi yd_X4_goOnFrom G b none (Em mm)) : ∀ (n : Nat) (x0 : Bool) (x1 : Int) (x2 : Int) (x3 : Int) (μ : Mi), B_X4_goOnFrom_46 n x0 x1 x2 x3 μ = some mm → At yd_X4_goOnFrom G b 46 [some (rf G 4 x0), some (iv x1), some (iv x2), some (iv x3), none, none] [] (Em μ) := by
  intro n
  induction n with
  | zero =>
    intro x0 x1 x2 x3 μ h
    exact nope h
  | succ n hk46 =>
    intro x0 x1 x2 x3 μ h
    replace h : F_X4_goOnFrom_46 (B_X4_goOnFrom_46 n) x0 x1 x2 x3 μ = some mm := h
    unfold F_X4_goOnFrom_46 at h
    refine dild_6_3 47 dX4_goOnFrom_46 rfl ?_
    refine ald_6_0 48 rfl dX4_goOnFrom_47 rfl ?_
    refine dgf_X4_33 51 rfl dX4_goOnFrom_48 rfl ?_
    refine dgf_X4_138 54 rfl dX4_goOnFrom_51 rfl rfl ?_
    refine dt_icmp_ge 57 146 dX4_goOnFrom_54 rfl (by decide) rfl rfl (fun c => ?_) (fun c => ?_)
    · replace h := ifp c h
      exact dr_v hF rfl dX4_goOnFrom_146 h
    · replace h := ifn c h
      refine ald_6_0 58 rfl dX4_goOnFrom_57 rfl ?_
      refine dild_6_3 59 dX4_goOnFrom_58 rfl ?_
      refine dild_6_1 60 dX4_goOnFrom_59 rfl ?_
      refine dild_6_2 61 dX4_goOnFrom_60 rfl ?_
      obtain ⟨r1, h1, h⟩ := bp_some h
      refine cvi_3 64 cw_X4_143 (S_X4_canTake h1) rfl ⟨by decide, by decide⟩ rfl rfl rfl rfl rfl (Nat.le_of_ble_eq_true rfl) dX4_goOnFrom_61 rfl ?_
      refine dt_if_eq 67 140 dX4_goOnFrom_64 rfl (by decide) rfl (fun c => ?_) (fun c => ?_)
      · replace h := ifp c h
        exact A_X4_goOnFrom_140 hF hk46 _ _ _ _ _ h
      · replace h := ifn c h
        refine ald_6_0 68 rfl dX4_goOnFrom_67 rfl ?_
        refine dild_6_3 69 dX4_goOnFrom_68 rfl ?_
        refine dild_6_1 70 dX4_goOnFrom_69 rfl ?_
        obtain ⟨r2, h2, h⟩ := bp_some h
        refine cvi_2 73 cw_X4_147 (S_X4_papersBetween h2) rfl ⟨by decide, by decide⟩ rfl rfl rfl rfl rfl (Nat.le_of_ble_eq_true rfl) dX4_goOnFrom_70 rfl ?_
        refine dt_if_ne 76 140 dX4_goOnFrom_73 rfl (by decide) rfl (fun c => ?_) (fun c => ?_)
        · replace h := ifp c h
          exact A_X4_goOnFrom_140 hF hk46 _ _ _ _ _ h
        · replace h := ifn c h
          refine dild_6_1 77 dX4_goOnFrom_76 rfl ?_
          refine ald_6_0 78 rfl dX4_goOnFrom_77 rfl ?_
          refine dgf_X4_33 81 rfl dX4_goOnFrom_78 rfl ?_
          refine dgf_X4_150 84 rfl dX4_goOnFrom_81 rfl ?_
          refine dild_6_3 85 dX4_goOnFrom_84 rfl ?_
          obtain ⟨hi, h⟩ := ift h
          refine diald 86 rfl rfl rfl hi rfl rfl dX4_goOnFrom_85 rfl ?_
          refine dt_iadd 87 dX4_goOnFrom_86 rfl ?_
          refine dist_6_4 89 dX4_goOnFrom_87 rfl rfl rfl ?_
          refine ald_6_0 90 rfl dX4_goOnFrom_89 rfl ?_
          refine dild_6_4 92 dX4_goOnFrom_90 rfl ?_
          refine ald_6_0 93 rfl dX4_goOnFrom_92 rfl ?_
          refine dild_6_3 94 dX4_goOnFrom_93 rfl ?_
          refine dild_6_1 95 dX4_goOnFrom_94 rfl ?_
          refine dild_6_2 96 dX4_goOnFrom_95 rfl ?_
          refine dt_iconst 97 dX4_goOnFrom_96 rfl ?_
          obtain ⟨r3, h3, h⟩ := bp_some h
          refine cvi_4 100 cw_X4_153 (S_X4_afterLink h3) rfl ⟨by decide, by decide⟩ rfl rfl rfl rfl rfl (Nat.le_of_ble_eq_true rfl) dX4_goOnFrom_97 rfl ?_
          obtain ⟨r4, m4, h4, h⟩ := bd_some h
          refine cvi_2 103 cw_X4_110 (S_X4_reach h4) rfl ⟨by decide, by decide⟩ rfl rfl rfl rfl rfl (Nat.le_of_ble_eq_true rfl) dX4_goOnFrom_100 rfl ?_
          refine dt_if_eq 106 140 dX4_goOnFrom_103 rfl (by decide) rfl (fun c => ?_) (fun c => ?_)
          · replace h := ifp c h
            exact At.weak (ls_s (ls_s (ls_s (ls_s (ls_n (ls_n ls_0)))))) (A_X4_goOnFrom_140 hF hk46 _ _ _ _ _ h)
          · replace h := ifn c h
            refine dild_6_1 107 dX4_goOnFrom_106 rfl ?_
            refine dt_iconst 108 dX4_goOnFrom_107 rfl ?_
            refine dt_iadd 109 dX4_goOnFrom_108 rfl ?_
            refine dist_6_5 111 dX4_goOnFrom_109 rfl rfl rfl ?_
            exact A_X4_goOnFrom_111 hF hk46 FU _ _ _ _ _ _ _ h
theorem S_X4_goOnFrom {G : Cx} {μ : Mi} {x0 : Bool} {x1 : Int} {x2 : Int}  {mm : Mi} (h : D_X4_goOnFrom x0 x1 x2 μ = some mm) : Spec yd_X4_goOnFrom G [rf G 4 x0, iv x1, iv x2] (Em μ) (none) (Em mm) := by
  refine Spec.of (by decide) rfl (catL_ok rfl) (Nat.le_of_ble_eq_true rfl) rfl (fun b hF => ?_)
  unfold D_X4_goOnFrom at h
  refine ald_6_0 1 rfl dX4_goOnFrom_0 rfl ?_
  refine dgf_X4_14 4 rfl dX4_goOnFrom_1 rfl ?_
  refine dgf_X4_51 7 rfl dX4_goOnFrom_4 rfl ?_
  refine dild_6_1 8 dX4_goOnFrom_7 rfl ?_
  refine st_dup2 9 dX4_goOnFrom_8 rfl rfl rfl ?_
  obtain ⟨hi, h⟩ := ift h
  refine diald 10 rfl rfl rfl hi rfl rfl dX4_goOnFrom_9 rfl ?_
  refine dt_iconst 11 dX4_goOnFrom_10 rfl ?_
  refine dild_6_2 12 dX4_goOnFrom_11 rfl ?_
  refine csi_1 15 cw_X4_132 (S_X4_townOf x2) rfl ⟨by decide, by decide⟩ (Nat.le_of_ble_eq_true rfl) dX4_goOnFrom_12 rfl ?_
  refine dt_ishl 16 dX4_goOnFrom_15 rfl ?_
  refine dt_ior 17 dX4_goOnFrom_16 rfl ?_
  obtain ⟨hi, h⟩ := ift h
  refine diast 18 rfl rfl rfl hi rfl dX4_goOnFrom_17 rfl ?_
  refine dild_6_1 19 dX4_goOnFrom_18 rfl ?_
  refine ald_6_0 20 rfl dX4_goOnFrom_19 rfl ?_
  refine dgf_X4_37 23 rfl dX4_goOnFrom_20 rfl ?_
  refine dgf_X4_114 26 rfl dX4_goOnFrom_23 rfl (rd_o (by decide)) ?_
  refine dt_icmp_lt 29 30 dX4_goOnFrom_26 rfl (by decide) rfl rfl (fun c => ?_) (fun c => ?_)
  · replace h := ifp c h
    refine ald_6_0 31 rfl dX4_goOnFrom_30 rfl ?_
    refine dild_6_1 32 dX4_goOnFrom_31 rfl ?_
    refine dt_iconst 33 dX4_goOnFrom_32 rfl ?_
    refine dt_iadd 34 dX4_goOnFrom_33 rfl ?_
    refine ald_6_0 35 rfl dX4_goOnFrom_34 rfl ?_
    refine dild_6_1 36 dX4_goOnFrom_35 rfl ?_
    refine dild_6_2 37 dX4_goOnFrom_36 rfl ?_
    obtain ⟨r2, h2, h⟩ := bp_some h
    refine cvi_2 40 cw_X4_135 (S_X4_afterStay h2) rfl ⟨by decide, by decide⟩ rfl rfl rfl rfl rfl (Nat.le_of_ble_eq_true rfl) dX4_goOnFrom_37 rfl ?_
    obtain ⟨r3, m3, h3, h⟩ := bd_some h
    refine cvi_2 43 cw_X4_110 (S_X4_reach h3) rfl ⟨by decide, by decide⟩ rfl rfl rfl rfl rfl (Nat.le_of_ble_eq_true rfl) dX4_goOnFrom_40 rfl ?_
    refine st_pop 44 dX4_goOnFrom_43 rfl rfl ?_
    refine dt_iconst 45 dX4_goOnFrom_44 rfl ?_
    refine dist_6_3 46 dX4_goOnFrom_45 rfl rfl rfl ?_
    exact A_X4_goOnFrom_46 hF FU _ _ _ _ _ h
  · replace h := ifn c h
    exact dr_v hF rfl dX4_goOnFrom_29 h
/-- StampTales$Search.learnWhere -/
theorem A_X4_learnWhere_144 {G : Cx} {b : Ab}  {mm : Mi} {k70 : (Bool → Int → Mi → Option Mi)} {k89 : (Bool → Int → Int → Int → Mi → Option Mi)} {k97 : (Bool → Int → Int → Int → Int → Mi → Option Mi)} (hF : Fi yd_X4_learnWhere G b none (Em mm)) (hk70 : ∀ (x0 : Bool) (x1 : Int) (m : Mi), k70 x0 x1 m = some mm → At yd_X4_learnWhere G b 70 [some (rf G 4 x0), some (iv x1), none, none, none, none] [] (Em m)) (hk89 : ∀ (x0 : Bool) (x1 : Int) (x2 : Int) (x3 : Int) (m : Mi), k89 x0 x1 x2 x3 m = some mm → At yd_X4_learnWhere G b 89 [some (rf G 4 x0), some (iv x1), some (iv x2), some (iv x3), none, none] [] (Em m)) (hk97 : ∀ (x0 : Bool) (x1 : Int) (x2 : Int) (x3 : Int) (x4 : Int) (m : Mi), k97 x0 x1 x2 x3 x4 m = some mm → At yd_X4_learnWhere G b 97 [some (rf G 4 x0), some (iv x1), some (iv x2), some (iv x3), some (iv x4), none] [] (Em m)) (x0 : Bool) (x1 : Int) (x2 : Int) (x3 : Int) (x4 : Int) (μ : Mi) (h : B_X4_learnWhere_144 k70 k89 k97 x0 x1 x2 x3 x4 μ = some mm) : At yd_X4_learnWhere G b 144 [some (rf G 4 x0), some (iv x1), some (iv x2), some (iv x3), some (iv x4), none] [] (Em μ) := by
  unfold B_X4_learnWhere_144 at h
  refine dinc_6_4 147 dX4_learnWhere_144 rfl rfl rfl ?_
  refine st_goto 97 dX4_learnWhere_147 (by decide) ?_
  exact hk97 _ _ _ _ _ _ h
theorem A_X4_learnWhere_97 {G : Cx} {b : Ab}  {mm : Mi} {k70 : (Bool → Int → Mi → Option Mi)} {k89 : (Bool → Int → Int → Int → Mi → Option Mi)} (hF : Fi yd_X4_learnWhere G b none (Em mm)) (hk70 : ∀ (x0 : Bool) (x1 : Int) (m : Mi), k70 x0 x1 m = some mm → At yd_X4_learnWhere G b 70 [some (rf G 4 x0), some (iv x1), none, none, none, none] [] (Em m)) (hk89 : ∀ (x0 : Bool) (x1 : Int) (x2 : Int) (x3 : Int) (m : Mi), k89 x0 x1 x2 x3 m = some mm → At yd_X4_learnWhere G b 89 [some (rf G 4 x0), some (iv x1), some (iv x2), some (iv x3), none, none] [] (Em m)) : ∀ (n : Nat) (x0 : Bool) (x1 : Int) (x2 : Int) (x3 : Int) (x4 : Int) (μ : Mi), B_X4_learnWhere_97 k70 k89 n x0 x1 x2 x3 x4 μ = some mm → At yd_X4_learnWhere G b 97 [some (rf G 4 x0), some (iv x1), some (iv x2), some (iv x3), some (iv x4), none] [] (Em μ) := by
  intro n
  induction n with
  | zero =>
    intro x0 x1 x2 x3 x4 μ h
    exact nope h
  | succ n hk97 =>
    intro x0 x1 x2 x3 x4 μ h
    replace h : F_X4_learnWhere_97 k70 k89 (B_X4_learnWhere_97 k70 k89 n) x0 x1 x2 x3 x4 μ = some mm := h
    unfold F_X4_learnWhere_97 at h
    refine dild_6_4 99 dX4_learnWhere_97 rfl ?_
    refine ald_6_0 100 rfl dX4_learnWhere_99 rfl ?_
    refine dgf_X4_121 103 rfl dX4_learnWhere_100 rfl rfl ?_
    refine dt_icmp_ge 106 150 dX4_learnWhere_103 rfl (by decide) rfl rfl (fun c => ?_) (fun c => ?_)
    · replace h := ifp c h
      refine dinc_6_3 153 dX4_learnWhere_150 rfl rfl rfl ?_
      refine st_goto 89 dX4_learnWhere_153 (by decide) ?_
      exact At.weak (ls_s (ls_s (ls_s (ls_s (ls_n (ls_n ls_0)))))) (hk89 _ _ _ _ _ h)
    · replace h := ifn c h
      refine dild_6_3 107 dX4_learnWhere_106 rfl ?_
      refine dt_sipush 110 dX4_learnWhere_107 sq_256 rfl ?_
      refine dt_imul 111 dX4_learnWhere_110 rfl ?_
      refine ald_6_0 112 rfl dX4_learnWhere_111 rfl ?_
      refine dgf_X4_18 115 rfl dX4_learnWhere_112 rfl ?_
      refine dild_6_4 117 dX4_learnWhere_115 rfl ?_
      obtain ⟨hi, h⟩ := ift h
      refine diald 118 rfl rfl rfl hi rfl rfl dX4_learnWhere_117 rfl ?_
      refine dt_iadd 119 dX4_learnWhere_118 rfl ?_
      refine dist_6_5 121 dX4_learnWhere_119 rfl rfl rfl ?_
      refine ald_6_0 122 rfl dX4_learnWhere_121 rfl ?_
      refine dgf_X4_41 125 rfl dX4_learnWhere_122 rfl ?_
      refine dild_6_1 126 dX4_learnWhere_125 rfl ?_
      refine dild_6_5 128 dX4_learnWhere_126 rfl ?_
      refine csi_2 131 cw_X4_124 (S_X4_index x1 ((x3 * 256) + (rd μ 33 x0 (ix x4)))) rfl ⟨by decide, by decide⟩ (Nat.le_of_ble_eq_true rfl) dX4_learnWhere_128 rfl ?_
      obtain ⟨hi, h⟩ := ift h
      refine diald 132 rfl rfl rfl hi rfl rfl dX4_learnWhere_131 rfl ?_
      refine dt_ldc (z := 1073741824) 134 rfl k_X4_127 (by decide) dX4_learnWhere_132 rfl ?_
      refine dt_icmp_lt 137 144 dX4_learnWhere_134 rfl (by decide) rfl wk_1073741824 (fun c => ?_) (fun c => ?_)
      · replace h := ifp c h
        exact At.weak (ls_s (ls_s (ls_s (ls_s (ls_s (ls_n ls_0)))))) (A_X4_learnWhere_144 hF hk70 hk89 hk97 _ _ _ _ _ _ h)
      · replace h := ifn c h
        refine ald_6_0 138 rfl dX4_learnWhere_137 rfl ?_
        refine dild_6_1 139 dX4_learnWhere_138 rfl ?_
        refine dild_6_5 141 dX4_learnWhere_139 rfl ?_
        obtain ⟨m2, h2, h⟩ := bm_some h
        refine cvv_2 144 cw_X4_128 (S_X4_goOnFrom h2) rfl ⟨by decide, by decide⟩ rfl rfl rfl rfl rfl (Nat.le_of_ble_eq_true rfl) dX4_learnWhere_141 rfl ?_
        exact At.weak (ls_s (ls_s (ls_s (ls_s (ls_s (ls_n ls_0)))))) (A_X4_learnWhere_144 hF hk70 hk89 hk97 _ _ _ _ _ _ h)
theorem A_X4_learnWhere_89 {G : Cx} {b : Ab}  {mm : Mi} {k70 : (Bool → Int → Mi → Option Mi)} (hF : Fi yd_X4_learnWhere G b none (Em mm)) (hk70 : ∀ (x0 : Bool) (x1 : Int) (m : Mi), k70 x0 x1 m = some mm → At yd_X4_learnWhere G b 70 [some (rf G 4 x0), some (iv x1), none, none, none, none] [] (Em m)) : ∀ (n : Nat) (x0 : Bool) (x1 : Int) (x2 : Int) (x3 : Int) (μ : Mi), B_X4_learnWhere_89 k70 n x0 x1 x2 x3 μ = some mm → At yd_X4_learnWhere G b 89 [some (rf G 4 x0), some (iv x1), some (iv x2), some (iv x3), none, none] [] (Em μ) := by
  intro n
  induction n with
  | zero =>
    intro x0 x1 x2 x3 μ h
    exact nope h
  | succ n hk89 =>
    intro x0 x1 x2 x3 μ h
    replace h : F_X4_learnWhere_89 k70 (B_X4_learnWhere_89 k70 n) x0 x1 x2 x3 μ = some mm := h
    unfold F_X4_learnWhere_89 at h
    refine dild_6_3 90 dX4_learnWhere_89 rfl ?_
    refine dild_6_2 91 dX4_learnWhere_90 rfl ?_
    refine dt_icmp_gt 94 156 dX4_learnWhere_91 rfl (by decide) rfl rfl (fun c => ?_) (fun c => ?_)
    · replace h := ifp c h
      refine dinc_6_1 159 dX4_learnWhere_156 rfl rfl rfl ?_
      refine st_goto 70 dX4_learnWhere_159 (by decide) ?_
      exact At.weak (ls_s (ls_s (ls_n (ls_n (ls_n (ls_n ls_0)))))) (hk70 _ _ _ h)
    · replace h := ifn c h
      refine dt_iconst 95 dX4_learnWhere_94 rfl ?_
      refine dist_6_4 97 dX4_learnWhere_95 rfl rfl rfl ?_
      exact A_X4_learnWhere_97 hF hk70 hk89 FU _ _ _ _ _ _ h
theorem A_X4_learnWhere_70 {G : Cx} {b : Ab}  {mm : Mi} (hF : Fi yd_X4_learnWhere G b none (Em mm)) : ∀ (n : Nat) (x0 : Bool) (x1 : Int) (μ : Mi), B_X4_learnWhere_70 n x0 x1 μ = some mm → At yd_X4_learnWhere G b 70 [some (rf G 4 x0), some (iv x1), none, none, none, none] [] (Em μ) := by
  intro n
  induction n with
  | zero =>
    intro x0 x1 μ h
    exact nope h
  | succ n hk70 =>
    intro x0 x1 μ h
    replace h : F_X4_learnWhere_70 (B_X4_learnWhere_70 n) x0 x1 μ = some mm := h
    unfold F_X4_learnWhere_70 at h
    refine dild_6_1 71 dX4_learnWhere_70 rfl ?_
    refine ald_6_0 72 rfl dX4_learnWhere_71 rfl ?_
    refine dgf_X4_37 75 rfl dX4_learnWhere_72 rfl ?_
    refine dgf_X4_114 78 rfl dX4_learnWhere_75 rfl rfl ?_
    refine dt_icmp_gt 81 162 dX4_learnWhere_78 rfl (by decide) rfl rfl (fun c => ?_) (fun c => ?_)
    · replace h := ifp c h
      exact dr_v hF rfl dX4_learnWhere_162 h
    · replace h := ifn c h
      refine ald_6_0 82 rfl dX4_learnWhere_81 rfl ?_
      refine dild_6_1 83 dX4_learnWhere_82 rfl ?_
      refine cvi_1 86 cw_X4_117 (S_X4_mostSlept x0 x1) rfl ⟨by decide, by decide⟩ rfl rfl rfl rfl rfl (Nat.le_of_ble_eq_true rfl) dX4_learnWhere_83 rfl ?_
      refine dist_6_2 87 dX4_learnWhere_86 rfl rfl rfl ?_
      refine dt_iconst 88 dX4_learnWhere_87 rfl ?_
      refine dist_6_3 89 dX4_learnWhere_88 rfl rfl rfl ?_
      exact A_X4_learnWhere_89 hF hk70 FU _ _ _ _ _ h
theorem A_X4_learnWhere_36 {G : Cx} {b : Ab}  {mm : Mi} (hF : Fi yd_X4_learnWhere G b none (Em mm)) : ∀ (n : Nat) (x0 : Bool) (x1 : Int) (μ : Mi), B_X4_learnWhere_36 n x0 x1 μ = some mm → At yd_X4_learnWhere G b 36 [some (rf G 4 x0), some (iv x1), none, none, none, none] [] (Em μ) := by
  intro n
  induction n with
  | zero =>
    intro x0 x1 μ h
    exact nope h
  | succ n hk36 =>
    intro x0 x1 μ h
    replace h : F_X4_learnWhere_36 (B_X4_learnWhere_36 n) x0 x1 μ = some mm := h
    unfold F_X4_learnWhere_36 at h
    refine dild_6_1 37 dX4_learnWhere_36 rfl ?_
    refine dt_bipush 39 dX4_learnWhere_37 bq_96 rfl ?_
    refine dt_icmp_gt 42 58 dX4_learnWhere_39 rfl (by decide) rfl wk_96 (fun c => ?_) (fun c => ?_)
    · replace h := ifp c h
      refine ald_6_0 59 rfl dX4_learnWhere_58 rfl ?_
      refine dt_iconst 60 dX4_learnWhere_59 rfl ?_
      refine ald_6_0 61 rfl dX4_learnWhere_60 rfl ?_
      obtain ⟨r1, h1, h⟩ := bp_some h
      refine cvi_0 64 cw_X4_107 (S_X4_startCell h1) rfl ⟨by decide, by decide⟩ rfl rfl rfl rfl rfl (Nat.le_of_ble_eq_true rfl) dX4_learnWhere_61 rfl ?_
      obtain ⟨r2, m2, h2, h⟩ := bd_some h
      refine cvi_2 67 cw_X4_110 (S_X4_reach h2) rfl ⟨by decide, by decide⟩ rfl rfl rfl rfl rfl (Nat.le_of_ble_eq_true rfl) dX4_learnWhere_64 rfl ?_
      refine st_pop 68 dX4_learnWhere_67 rfl rfl ?_
      refine dt_iconst 69 dX4_learnWhere_68 rfl ?_
      refine dist_6_1 70 dX4_learnWhere_69 rfl rfl rfl ?_
      exact A_X4_learnWhere_70 hF FU _ _ _ h
    · replace h := ifn c h
      refine ald_6_0 43 rfl dX4_learnWhere_42 rfl ?_
      refine dgf_X4_14 46 rfl dX4_learnWhere_43 rfl ?_
      refine dgf_X4_51 49 rfl dX4_learnWhere_46 rfl ?_
      refine dild_6_1 50 dX4_learnWhere_49 rfl ?_
      refine dt_iconst 51 dX4_learnWhere_50 rfl ?_
      obtain ⟨hi, h⟩ := ift h
      refine diast 52 rfl rfl rfl hi rfl dX4_learnWhere_51 rfl ?_
      refine dinc_6_1 55 dX4_learnWhere_52 rfl rfl rfl ?_
      refine st_goto 36 dX4_learnWhere_55 (by decide) ?_
      exact hk36 _ _ _ h
theorem S_X4_learnWhere {G : Cx} {μ : Mi} {x0 : Bool}  {mm : Mi} (h : D_X4_learnWhere x0 μ = some mm) : Spec yd_X4_learnWhere G [rf G 4 x0] (Em μ) (none) (Em mm) := by
  refine Spec.of (by decide) rfl (catL_ok rfl) (Nat.le_of_ble_eq_true rfl) rfl (fun b hF => ?_)
  unfold D_X4_learnWhere at h
  refine ald_6_0 1 rfl dX4_learnWhere_0 rfl ?_
  refine dt_iconst 2 dX4_learnWhere_1 rfl ?_
  obtain ⟨r1, m1, h1, h⟩ := bd_some h
  refine cvi_1 5 cw_X4_54 (S_X4_mustLearn h1) rfl ⟨by decide, by decide⟩ rfl rfl rfl rfl rfl (Nat.le_of_ble_eq_true rfl) dX4_learnWhere_2 rfl ?_
  refine dt_if_ne 8 9 dX4_learnWhere_5 rfl (by decide) rfl (fun c => ?_) (fun c => ?_)
  · replace h := ifp c h
    refine ald_6_0 10 rfl dX4_learnWhere_9 rfl ?_
    refine dt_iconst 11 dX4_learnWhere_10 rfl ?_
    obtain ⟨m2, h2, h⟩ := bm_some h
    refine cvv_1 14 cw_X4_58 (S_X4_prepare h2) rfl ⟨by decide, by decide⟩ rfl rfl rfl rfl rfl (Nat.le_of_ble_eq_true rfl) dX4_learnWhere_11 rfl ?_
    refine ald_6_0 15 rfl dX4_learnWhere_14 rfl ?_
    refine dt_iconst 16 dX4_learnWhere_15 rfl ?_
    obtain ⟨m3, h3, h⟩ := bm_some h
    refine cvv_1 19 cw_X4_62 (S_X4_fill h3) rfl ⟨by decide, by decide⟩ rfl rfl rfl rfl rfl (Nat.le_of_ble_eq_true rfl) dX4_learnWhere_16 rfl ?_
    refine ald_6_0 20 rfl dX4_learnWhere_19 rfl ?_
    refine dgf_X4_14 23 rfl dX4_learnWhere_20 rfl ?_
    refine dt_iconst 24 dX4_learnWhere_23 rfl ?_
    refine ald_6_0 25 rfl dX4_learnWhere_24 rfl ?_
    obtain ⟨r4, h4, h⟩ := bp_some h
    refine cvi_0 28 cw_X4_68 (S_X4_valueAtStart h4) rfl ⟨by decide, by decide⟩ rfl rfl rfl rfl rfl (Nat.le_of_ble_eq_true rfl) dX4_learnWhere_25 rfl ?_
    refine dmmax 31 rfl cw_X4_101 ⟨by decide, by decide⟩ (Nat.le_of_ble_eq_true rfl) dX4_learnWhere_28 rfl ?_
    refine dpf_X4_47 34 rfl dX4_learnWhere_31 rfl ?_
    refine dt_iconst 35 dX4_learnWhere_34 rfl ?_
    refine dist_6_1 36 dX4_learnWhere_35 rfl rfl rfl ?_
    exact A_X4_learnWhere_36 hF FU _ _ _ h
  · replace h := ifn c h
    exact dr_v hF rfl dX4_learnWhere_8 h
/-- StampTales$Search.howManyWays -/
theorem S_X4_howManyWays {G : Cx} {μ : Mi} {x0 : Bool} {r : Int} {mm : Mi} (h : D_X4_howManyWays x0 μ = some (r, mm)) : Spec yd_X4_howManyWays G [rf G 4 x0] (Em μ) (some (iv r)) (Em mm) := by
  refine Spec.of (by decide) rfl (catL_ok rfl) (Nat.le_of_ble_eq_true rfl) rfl (fun b hF => ?_)
  unfold D_X4_howManyWays at h
  refine ald_1_0 1 rfl dX4_howManyWays_0 rfl ?_
  obtain ⟨m1, h1, h⟩ := bm_some h
  refine cvv_0 4 cw_X4_44 (S_X4_learnWhere h1) rfl ⟨by decide, by decide⟩ rfl rfl rfl rfl rfl (Nat.le_of_ble_eq_true rfl) dX4_howManyWays_1 rfl ?_
  refine ald_1_0 5 rfl dX4_howManyWays_4 rfl ?_
  refine dgf_X4_14 8 rfl dX4_howManyWays_5 rfl ?_
  refine dgf_X4_47 11 rfl dX4_howManyWays_8 rfl rfl ?_
  exact dr_i hF rfl dX4_howManyWays_11 h
/-- StampTales$Search.whereAt -/
theorem S_X4_whereAt {G : Cx} {μ : Mi} {x0 : Bool} {x1 : Int} {r : Int} {mm : Mi} (h : D_X4_whereAt x0 x1 μ = some (r, mm)) : Spec yd_X4_whereAt G [rf G 4 x0, iv x1] (Em μ) (some (iv r)) (Em mm) := by
  refine Spec.of (by decide) rfl (catL_ok rfl) (Nat.le_of_ble_eq_true rfl) rfl (fun b hF => ?_)
  unfold D_X4_whereAt at h
  refine ald_2_0 1 rfl dX4_whereAt_0 rfl ?_
  obtain ⟨m1, h1, h⟩ := bm_some h
  refine cvv_0 4 cw_X4_44 (S_X4_learnWhere h1) rfl ⟨by decide, by decide⟩ rfl rfl rfl rfl rfl (Nat.le_of_ble_eq_true rfl) dX4_whereAt_1 rfl ?_
  refine dild_2_1 5 dX4_whereAt_4 rfl ?_
  refine dt_if_lt 8 26 dX4_whereAt_5 rfl (by decide) rfl (fun c => ?_) (fun c => ?_)
  · replace h := ifp c h
    refine dt_iconst 27 dX4_whereAt_26 rfl ?_
    exact dr_i hF rfl dX4_whereAt_27 h
  · replace h := ifn c h
    refine dild_2_1 9 dX4_whereAt_8 rfl ?_
    refine dt_bipush 11 dX4_whereAt_9 bq_96 rfl ?_
    refine dt_icmp_gt 14 26 dX4_whereAt_11 rfl (by decide) rfl wk_96 (fun c => ?_) (fun c => ?_)
    · replace h := ifp c h
      refine dt_iconst 27 dX4_whereAt_26 rfl ?_
      exact dr_i hF rfl dX4_whereAt_27 h
    · replace h := ifn c h
      refine ald_2_0 15 rfl dX4_whereAt_14 rfl ?_
      refine dgf_X4_14 18 rfl dX4_whereAt_15 rfl ?_
      refine dgf_X4_51 21 rfl dX4_whereAt_18 rfl ?_
      refine dild_2_1 22 dX4_whereAt_21 rfl ?_
      obtain ⟨hi, h⟩ := ift h
      refine diald 23 rfl rfl rfl hi rfl rfl dX4_whereAt_22 rfl ?_
      refine st_goto 27 dX4_whereAt_23 (by decide) ?_
      exact dr_i hF rfl dX4_whereAt_27 h
/-- StampTales$Search.extremeOf -/
theorem A_X4_extremeOf_42 {G : Cx} {b : Ab} {r : Int} {mm : Mi} (hF : Fi yd_X4_extremeOf G b (some (iv r)) (Em mm)) (x0 : Bool) (x1 : Int) (μ : Mi) (h : B_X4_extremeOf_42 x0 x1 μ = some (r, mm)) : At yd_X4_extremeOf G b 42 [some (rf G 4 x0), some (iv x1)] [] (Em μ) := by
  unfold B_X4_extremeOf_42 at h
  refine ald_2_0 43 rfl dX4_extremeOf_42 rfl ?_
  refine dgf_X4_14 46 rfl dX4_extremeOf_43 rfl ?_
  refine dgf_X4_65 49 rfl dX4_extremeOf_46 rfl ?_
  refine dild_2_1 50 dX4_extremeOf_49 rfl ?_
  obtain ⟨hi, h⟩ := ift h
  refine diald 51 rfl rfl rfl hi rfl rfl dX4_extremeOf_50 rfl ?_
  exact dr_i hF rfl dX4_extremeOf_51 h
theorem S_X4_extremeOf {G : Cx} {μ : Mi} {x0 : Bool} {x1 : Int} {r : Int} {mm : Mi} (h : D_X4_extremeOf x0 x1 μ = some (r, mm)) : Spec yd_X4_extremeOf G [rf G 4 x0, iv x1] (Em μ) (some (iv r)) (Em mm) := by
  refine Spec.of (by decide) rfl (catL_ok rfl) (Nat.le_of_ble_eq_true rfl) rfl (fun b hF => ?_)
  unfold D_X4_extremeOf at h
  refine dild_2_1 1 dX4_extremeOf_0 rfl ?_
  refine dt_if_lt 4 9 dX4_extremeOf_1 rfl (by decide) rfl (fun c => ?_) (fun c => ?_)
  · replace h := ifp c h
    refine dt_iconst 10 dX4_extremeOf_9 rfl ?_
    exact dr_i hF rfl dX4_extremeOf_10 h
  · replace h := ifn c h
    refine dild_2_1 5 dX4_extremeOf_4 rfl ?_
    refine dt_iconst 6 dX4_extremeOf_5 rfl ?_
    refine dt_icmp_le 9 11 dX4_extremeOf_6 rfl (by decide) rfl wk_3 (fun c => ?_) (fun c => ?_)
    · replace h := ifp c h
      refine ald_2_0 12 rfl dX4_extremeOf_11 rfl ?_
      refine dild_2_1 13 dX4_extremeOf_12 rfl ?_
      obtain ⟨r1, m1, h1, h⟩ := bd_some h
      refine cvi_1 16 cw_X4_54 (S_X4_mustLearn h1) rfl ⟨by decide, by decide⟩ rfl rfl rfl rfl rfl (Nat.le_of_ble_eq_true rfl) dX4_extremeOf_13 rfl ?_
      refine dt_if_eq 19 42 dX4_extremeOf_16 rfl (by decide) rfl (fun c => ?_) (fun c => ?_)
      · replace h := ifp c h
        exact A_X4_extremeOf_42 hF _ _ _ h
      · replace h := ifn c h
        refine ald_2_0 20 rfl dX4_extremeOf_19 rfl ?_
        refine dt_iconst 21 dX4_extremeOf_20 rfl ?_
        obtain ⟨m2, h2, h⟩ := bm_some h
        refine cvv_1 24 cw_X4_58 (S_X4_prepare h2) rfl ⟨by decide, by decide⟩ rfl rfl rfl rfl rfl (Nat.le_of_ble_eq_true rfl) dX4_extremeOf_21 rfl ?_
        refine ald_2_0 25 rfl dX4_extremeOf_24 rfl ?_
        refine dild_2_1 26 dX4_extremeOf_25 rfl ?_
        obtain ⟨m3, h3, h⟩ := bm_some h
        refine cvv_1 29 cw_X4_62 (S_X4_fill h3) rfl ⟨by decide, by decide⟩ rfl rfl rfl rfl rfl (Nat.le_of_ble_eq_true rfl) dX4_extremeOf_26 rfl ?_
        refine ald_2_0 30 rfl dX4_extremeOf_29 rfl ?_
        refine dgf_X4_14 33 rfl dX4_extremeOf_30 rfl ?_
        refine dgf_X4_65 36 rfl dX4_extremeOf_33 rfl ?_
        refine dild_2_1 37 dX4_extremeOf_36 rfl ?_
        refine ald_2_0 38 rfl dX4_extremeOf_37 rfl ?_
        obtain ⟨r4, h4, h⟩ := bp_some h
        refine cvi_0 41 cw_X4_68 (S_X4_valueAtStart h4) rfl ⟨by decide, by decide⟩ rfl rfl rfl rfl rfl (Nat.le_of_ble_eq_true rfl) dX4_extremeOf_38 rfl ?_
        obtain ⟨hi, h⟩ := ift h
        refine diast 42 rfl rfl rfl hi rfl dX4_extremeOf_41 rfl ?_
        exact A_X4_extremeOf_42 hF _ _ _ h
    · replace h := ifn c h
      refine dt_iconst 10 dX4_extremeOf_9 rfl ?_
      exact dr_i hF rfl dX4_extremeOf_10 h
/-- StampTales$Search.firstMove -/
theorem A_X4_firstMove_84 {G : Cx} {b : Ab} {μ : Mi} {r : Int} {k46 : (Bool → Int → Int → Int → Int → Mi → Option Int)} (hF : Fi yd_X4_firstMove G b (some (iv r)) (Em μ)) (hk46 : ∀ (x0 : Bool) (x1 : Int) (x2 : Int) (x3 : Int) (x5 : Int), k46 x0 x1 x2 x3 x5 μ = some r → At yd_X4_firstMove G b 46 [some (rf G 4 x0), some (iv x1), some (iv x2), some (iv x3), none, some (iv x5)] [] (Em μ)) (x0 : Bool) (x1 : Int) (x2 : Int) (x3 : Int) (x5 : Int) (h : B_X4_firstMove_84 k46 x0 x1 x2 x3 x5 μ = some r) : At yd_X4_firstMove G b 84 [some (rf G 4 x0), some (iv x1), some (iv x2), some (iv x3), none, some (iv x5)] [] (Em μ) := by
  unfold B_X4_firstMove_84 at h
  refine dinc_6_5 87 dX4_firstMove_84 rfl rfl rfl ?_
  refine st_goto 46 dX4_firstMove_87 (by decide) ?_
  exact hk46 _ _ _ _ _ h
theorem A_X4_firstMove_46 {G : Cx} {b : Ab} {μ : Mi} {r : Int} (hF : Fi yd_X4_firstMove G b (some (iv r)) (Em μ)) : ∀ (n : Nat) (x0 : Bool) (x1 : Int) (x2 : Int) (x3 : Int) (x5 : Int), B_X4_firstMove_46 n x0 x1 x2 x3 x5 μ = some r → At yd_X4_firstMove G b 46 [some (rf G 4 x0), some (iv x1), some (iv x2), some (iv x3), none, some (iv x5)] [] (Em μ) := by
  intro n
  induction n with
  | zero =>
    intro x0 x1 x2 x3 x5 h
    exact nope h
  | succ n hk46 =>
    intro x0 x1 x2 x3 x5 h
    replace h : F_X4_firstMove_46 (B_X4_firstMove_46 n) x0 x1 x2 x3 x5 μ = some r := h
    unfold F_X4_firstMove_46 at h
    refine dild_6_5 48 dX4_firstMove_46 rfl ?_
    refine ald_6_0 49 rfl dX4_firstMove_48 rfl ?_
    refine dgf_X4_33 52 rfl dX4_firstMove_49 rfl ?_
    refine dgf_X4_138 55 rfl dX4_firstMove_52 rfl rfl ?_
    refine dt_icmp_ge 58 90 dX4_firstMove_55 rfl (by decide) rfl rfl (fun c => ?_) (fun c => ?_)
    · replace h := ifp c h
      refine dt_iconst 91 dX4_firstMove_90 rfl ?_
      exact dr_ip hF rfl dX4_firstMove_91 h
    · replace h := ifn c h
      refine ald_6_0 59 rfl dX4_firstMove_58 rfl ?_
      refine dild_6_5 61 dX4_firstMove_59 rfl ?_
      refine dild_6_1 62 dX4_firstMove_61 rfl ?_
      refine dild_6_2 63 dX4_firstMove_62 rfl ?_
      obtain ⟨r1, h1, h⟩ := bp_some h
      refine cvi_3 66 cw_X4_143 (S_X4_canTake h1) rfl ⟨by decide, by decide⟩ rfl rfl rfl rfl rfl (Nat.le_of_ble_eq_true rfl) dX4_firstMove_63 rfl ?_
      refine dt_if_eq 69 84 dX4_firstMove_66 rfl (by decide) rfl (fun c => ?_) (fun c => ?_)
      · replace h := ifp c h
        exact A_X4_firstMove_84 hF hk46 _ _ _ _ _ h
      · replace h := ifn c h
        refine ald_6_0 70 rfl dX4_firstMove_69 rfl ?_
        refine dild_6_5 72 dX4_firstMove_70 rfl ?_
        refine dild_6_1 73 dX4_firstMove_72 rfl ?_
        refine dild_6_2 74 dX4_firstMove_73 rfl ?_
        obtain ⟨r2, h2, h⟩ := bp_some h
        refine cvi_3 77 cw_X4_160 (S_X4_valueByLink h2) rfl ⟨by decide, by decide⟩ rfl rfl rfl rfl rfl (Nat.le_of_ble_eq_true rfl) dX4_firstMove_74 rfl ?_
        refine dild_6_3 78 dX4_firstMove_77 rfl ?_
        refine dt_icmp_ne 81 84 dX4_firstMove_78 rfl (by decide) rfl rfl (fun c => ?_) (fun c => ?_)
        · replace h := ifp c h
          exact A_X4_firstMove_84 hF hk46 _ _ _ _ _ h
        · replace h := ifn c h
          refine dild_6_5 83 dX4_firstMove_81 rfl ?_
          exact dr_ip hF rfl dX4_firstMove_83 h
theorem A_X4_firstMove_43 {G : Cx} {b : Ab} {μ : Mi} {r : Int} (hF : Fi yd_X4_firstMove G b (some (iv r)) (Em μ)) (x0 : Bool) (x1 : Int) (x2 : Int) (x3 : Int) (h : B_X4_firstMove_43 x0 x1 x2 x3 μ = some r) : At yd_X4_firstMove G b 43 [some (rf G 4 x0), some (iv x1), some (iv x2), some (iv x3), none, none] [] (Em μ) := by
  unfold B_X4_firstMove_43 at h
  refine dt_iconst 44 dX4_firstMove_43 rfl ?_
  refine dist_6_5 46 dX4_firstMove_44 rfl rfl rfl ?_
  exact A_X4_firstMove_46 hF FU _ _ _ _ _ h
theorem S_X4_firstMove {G : Cx} {μ : Mi} {x0 : Bool} {x1 : Int} {x2 : Int} {r : Int} (h : D_X4_firstMove x0 x1 x2 μ = some r) : Spec yd_X4_firstMove G [rf G 4 x0, iv x1, iv x2] (Em μ) (some (iv r)) (Em μ) := by
  refine Spec.of (by decide) rfl (catL_ok rfl) (Nat.le_of_ble_eq_true rfl) rfl (fun b hF => ?_)
  unfold D_X4_firstMove at h
  refine ald_6_0 1 rfl dX4_firstMove_0 rfl ?_
  refine dgf_X4_41 4 rfl dX4_firstMove_1 rfl ?_
  refine dild_6_1 5 dX4_firstMove_4 rfl ?_
  refine dild_6_2 6 dX4_firstMove_5 rfl ?_
  refine csi_2 9 cw_X4_124 (S_X4_index x1 x2) rfl ⟨by decide, by decide⟩ (Nat.le_of_ble_eq_true rfl) dX4_firstMove_6 rfl ?_
  obtain ⟨hi, h⟩ := ift h
  refine diald 10 rfl rfl rfl hi rfl rfl dX4_firstMove_9 rfl ?_
  refine dist_6_3 11 dX4_firstMove_10 rfl rfl rfl ?_
  refine ald_6_0 12 rfl dX4_firstMove_11 rfl ?_
  refine dild_6_1 13 dX4_firstMove_12 rfl ?_
  refine dild_6_2 14 dX4_firstMove_13 rfl ?_
  obtain ⟨r2, h2, h⟩ := bp_some h
  refine cvi_2 17 cw_X4_135 (S_X4_afterStay h2) rfl ⟨by decide, by decide⟩ rfl rfl rfl rfl rfl (Nat.le_of_ble_eq_true rfl) dX4_firstMove_14 rfl ?_
  refine dist_6_4 19 dX4_firstMove_17 rfl rfl rfl ?_
  refine dild_6_4 21 dX4_firstMove_19 rfl ?_
  refine dt_if_lt 24 43 dX4_firstMove_21 rfl (by decide) rfl (fun c => ?_) (fun c => ?_)
  · replace h := ifp c h
    exact At.weak (ls_s (ls_s (ls_s (ls_s (ls_n (ls_n ls_0)))))) (A_X4_firstMove_43 hF _ _ _ _ h)
  · replace h := ifn c h
    refine ald_6_0 25 rfl dX4_firstMove_24 rfl ?_
    refine dgf_X4_41 28 rfl dX4_firstMove_25 rfl ?_
    refine dild_6_1 29 dX4_firstMove_28 rfl ?_
    refine dt_iconst 30 dX4_firstMove_29 rfl ?_
    refine dt_iadd 31 dX4_firstMove_30 rfl ?_
    refine dild_6_4 33 dX4_firstMove_31 rfl ?_
    refine csi_2 36 cw_X4_124 (S_X4_index (x1 + 1) r2) rfl ⟨by decide, by decide⟩ (Nat.le_of_ble_eq_true rfl) dX4_firstMove_33 rfl ?_
    obtain ⟨hi, h⟩ := ift h
    refine diald 37 rfl rfl rfl hi rfl rfl dX4_firstMove_36 rfl ?_
    refine dild_6_3 38 dX4_firstMove_37 rfl ?_
    refine dt_icmp_ne 41 43 dX4_firstMove_38 rfl (by decide) rfl rfl (fun c => ?_) (fun c => ?_)
    · replace h := ifp c h
      exact At.weak (ls_s (ls_s (ls_s (ls_s (ls_n (ls_n ls_0)))))) (A_X4_firstMove_43 hF _ _ _ _ h)
    · replace h := ifn c h
      refine dt_iconst 42 dX4_firstMove_41 rfl ?_
      exact dr_ip hF rfl dX4_firstMove_42 h
/-- StampTales$Search.followTale -/
theorem A_X4_followTale_143 {G : Cx} {b : Ab}  {mm : Mi} {k28 : (Bool → Int → Int → Int → Mi → Option Mi)} (hF : Fi yd_X4_followTale G b none (Em mm)) (hk28 : ∀ (x0 : Bool) (x1 : Int) (x2 : Int) (x3 : Int) (m : Mi), k28 x0 x1 x2 x3 m = some mm → At yd_X4_followTale G b 28 [some (rf G 4 x0), some (iv x1), some (iv x2), some (iv x3), none] [] (Em m)) (x0 : Bool) (x1 : Int) (x2 : Int) (x3 : Int) (μ : Mi) (h : B_X4_followTale_143 k28 x0 x1 x2 x3 μ = some mm) : At yd_X4_followTale G b 143 [some (rf G 4 x0), some (iv x1), some (iv x2), some (iv x3), none] [] (Em μ) := by
  unfold B_X4_followTale_143 at h
  refine dinc_5_3 146 dX4_followTale_143 rfl rfl rfl ?_
  refine st_goto 28 dX4_followTale_146 (by decide) ?_
  exact hk28 _ _ _ _ _ h
theorem A_X4_followTale_28 {G : Cx} {b : Ab}  {mm : Mi} (hF : Fi yd_X4_followTale G b none (Em mm)) : ∀ (n : Nat) (x0 : Bool) (x1 : Int) (x2 : Int) (x3 : Int) (μ : Mi), B_X4_followTale_28 n x0 x1 x2 x3 μ = some mm → At yd_X4_followTale G b 28 [some (rf G 4 x0), some (iv x1), some (iv x2), some (iv x3), none] [] (Em μ) := by
  intro n
  induction n with
  | zero =>
    intro x0 x1 x2 x3 μ h
    exact nope h
  | succ n hk28 =>
    intro x0 x1 x2 x3 μ h
    replace h : F_X4_followTale_28 (B_X4_followTale_28 n) x0 x1 x2 x3 μ = some mm := h
    unfold F_X4_followTale_28 at h
    refine dild_5_3 29 dX4_followTale_28 rfl ?_
    refine dt_bipush 31 dX4_followTale_29 bq_96 rfl ?_
    refine dt_icmp_ge 34 149 dX4_followTale_31 rfl (by decide) rfl wk_96 (fun c => ?_) (fun c => ?_)
    · replace h := ifp c h
      exact dr_v hF rfl dX4_followTale_149 h
    · replace h := ifn c h
      refine dild_5_2 35 dX4_followTale_34 rfl ?_
      refine ald_5_0 36 rfl dX4_followTale_35 rfl ?_
      refine dgf_X4_37 39 rfl dX4_followTale_36 rfl ?_
      refine dgf_X4_114 42 rfl dX4_followTale_39 rfl rfl ?_
      refine dt_icmp_ge 45 149 dX4_followTale_42 rfl (by decide) rfl rfl (fun c => ?_) (fun c => ?_)
      · replace h := ifp c h
        exact dr_v hF rfl dX4_followTale_149 h
      · replace h := ifn c h
        refine ald_5_0 46 rfl dX4_followTale_45 rfl ?_
        refine dgf_X4_14 49 rfl dX4_followTale_46 rfl ?_
        refine dgf_X4_75 52 rfl dX4_followTale_49 rfl rfl ?_
        refine dt_if_lt 55 149 dX4_followTale_52 rfl (by decide) rfl (fun c => ?_) (fun c => ?_)
        · replace h := ifp c h
          exact dr_v hF rfl dX4_followTale_149 h
        · replace h := ifn c h
          refine dild_5_1 56 dX4_followTale_55 rfl ?_
          refine dt_if_lt 59 149 dX4_followTale_56 rfl (by decide) rfl (fun c => ?_) (fun c => ?_)
          · replace h := ifp c h
            exact dr_v hF rfl dX4_followTale_149 h
          · replace h := ifn c h
            refine ald_5_0 60 rfl dX4_followTale_59 rfl ?_
            refine dild_5_2 61 dX4_followTale_60 rfl ?_
            refine dild_5_1 62 dX4_followTale_61 rfl ?_
            obtain ⟨r1, h1, h⟩ := bp_some h
            refine cvi_2 65 cw_X4_157 (S_X4_firstMove h1) rfl ⟨by decide, by decide⟩ rfl rfl rfl rfl rfl (Nat.le_of_ble_eq_true rfl) dX4_followTale_62 rfl ?_
            refine dist_5_4 67 dX4_followTale_65 rfl rfl rfl ?_
            refine dild_5_4 69 dX4_followTale_67 rfl ?_
            refine dt_if_ge 72 85 dX4_followTale_69 rfl (by decide) rfl (fun c => ?_) (fun c => ?_)
            · replace h := ifp c h
              refine ald_5_0 86 rfl dX4_followTale_85 rfl ?_
              refine dgf_X4_14 89 rfl dX4_followTale_86 rfl ?_
              refine dgf_X4_78 92 rfl dX4_followTale_89 rfl ?_
              refine ald_5_0 93 rfl dX4_followTale_92 rfl ?_
              refine dgf_X4_14 96 rfl dX4_followTale_93 rfl ?_
              refine dgf_X4_75 99 rfl dX4_followTale_96 rfl rfl ?_
              refine dild_5_4 101 dX4_followTale_99 rfl ?_
              refine dt_bipush 103 dX4_followTale_101 bq_100 rfl ?_
              refine dt_imul 104 dX4_followTale_103 rfl ?_
              refine dild_5_2 105 dX4_followTale_104 rfl ?_
              refine dt_iadd 106 dX4_followTale_105 rfl ?_
              obtain ⟨hi, h⟩ := ift h
              refine diast 107 rfl rfl rfl hi rfl dX4_followTale_106 rfl ?_
              refine ald_5_0 108 rfl dX4_followTale_107 rfl ?_
              refine dgf_X4_14 111 rfl dX4_followTale_108 rfl ?_
              refine st_dup 112 dX4_followTale_111 rfl rfl ?_
              refine dgf_X4_75 115 rfl dX4_followTale_112 rfl (rd_o (by decide)) ?_
              refine dt_iconst 116 dX4_followTale_115 rfl ?_
              refine dt_iadd 117 dX4_followTale_116 rfl ?_
              refine dpf_X4_75 120 rfl dX4_followTale_117 rfl ?_
              refine ald_5_0 121 rfl dX4_followTale_120 rfl ?_
              refine dild_5_4 123 dX4_followTale_121 rfl ?_
              refine dild_5_2 124 dX4_followTale_123 rfl ?_
              refine dild_5_1 125 dX4_followTale_124 rfl ?_
              refine dt_iconst 126 dX4_followTale_125 rfl ?_
              obtain ⟨r2, h2, h⟩ := bp_some h
              refine cvi_4 129 cw_X4_153 (S_X4_afterLink h2) rfl ⟨by decide, by decide⟩ rfl rfl rfl rfl rfl (Nat.le_of_ble_eq_true rfl) dX4_followTale_126 rfl ?_
              refine dist_5_1 130 dX4_followTale_129 rfl rfl rfl ?_
              refine dild_5_2 131 dX4_followTale_130 rfl ?_
              refine ald_5_0 132 rfl dX4_followTale_131 rfl ?_
              refine dgf_X4_33 135 rfl dX4_followTale_132 rfl ?_
              refine dgf_X4_150 138 rfl dX4_followTale_135 rfl ?_
              refine dild_5_4 140 dX4_followTale_138 rfl ?_
              obtain ⟨hi, h⟩ := ift h
              refine diald 141 rfl rfl rfl hi rfl ((rd_o (by decide)).trans (rd_o (by decide))) dX4_followTale_140 rfl ?_
              refine dt_iadd 142 dX4_followTale_141 rfl ?_
              refine dist_5_2 143 dX4_followTale_142 rfl rfl rfl ?_
              exact At.weak (ls_s (ls_s (ls_s (ls_s (ls_n ls_0))))) (A_X4_followTale_143 hF hk28 _ _ _ _ _ h)
            · replace h := ifn c h
              refine ald_5_0 73 rfl dX4_followTale_72 rfl ?_
              refine dild_5_2 74 dX4_followTale_73 rfl ?_
              refine dild_5_1 75 dX4_followTale_74 rfl ?_
              obtain ⟨r2, h2, h⟩ := bp_some h
              refine cvi_2 78 cw_X4_135 (S_X4_afterStay h2) rfl ⟨by decide, by decide⟩ rfl rfl rfl rfl rfl (Nat.le_of_ble_eq_true rfl) dX4_followTale_75 rfl ?_
              refine dist_5_1 79 dX4_followTale_78 rfl rfl rfl ?_
              refine dinc_5_2 82 dX4_followTale_79 rfl rfl rfl ?_
              refine st_goto 143 dX4_followTale_82 (by decide) ?_
              exact At.weak (ls_s (ls_s (ls_s (ls_s (ls_n ls_0))))) (A_X4_followTale_143 hF hk28 _ _ _ _ _ h)
theorem A_X4_followTale_23 {G : Cx} {b : Ab}  {mm : Mi} (hF : Fi yd_X4_followTale G b none (Em mm)) (x0 : Bool) (x1 : Int) (x2 : Int) (s0 : Int) (μ : Mi) (h : B_X4_followTale_23 x0 x1 x2 s0 μ = some mm) : At yd_X4_followTale G b 23 [some (rf G 4 x0), some (iv x1), some (iv x2), none, none] [iv s0, rf G 1 x0] (Em μ) := by
  unfold B_X4_followTale_23 at h
  refine dpf_X4_75 26 rfl dX4_followTale_23 rfl ?_
  refine dt_iconst 27 dX4_followTale_26 rfl ?_
  refine dist_5_3 28 dX4_followTale_27 rfl rfl rfl ?_
  exact A_X4_followTale_28 hF FU _ _ _ _ _ h
theorem S_X4_followTale {G : Cx} {μ : Mi} {x0 : Bool}  {mm : Mi} (h : D_X4_followTale x0 μ = some mm) : Spec yd_X4_followTale G [rf G 4 x0] (Em μ) (none) (Em mm) := by
  refine Spec.of (by decide) rfl (catL_ok rfl) (Nat.le_of_ble_eq_true rfl) rfl (fun b hF => ?_)
  unfold D_X4_followTale at h
  refine ald_5_0 1 rfl dX4_followTale_0 rfl ?_
  obtain ⟨r1, h1, h⟩ := bp_some h
  refine cvi_0 4 cw_X4_107 (S_X4_startCell h1) rfl ⟨by decide, by decide⟩ rfl rfl rfl rfl rfl (Nat.le_of_ble_eq_true rfl) dX4_followTale_1 rfl ?_
  refine dist_5_1 5 dX4_followTale_4 rfl rfl rfl ?_
  refine dt_iconst 6 dX4_followTale_5 rfl ?_
  refine dist_5_2 7 dX4_followTale_6 rfl rfl rfl ?_
  refine ald_5_0 8 rfl dX4_followTale_7 rfl ?_
  refine dgf_X4_14 11 rfl dX4_followTale_8 rfl ?_
  refine ald_5_0 12 rfl dX4_followTale_11 rfl ?_
  obtain ⟨r2, h2, h⟩ := bp_some h
  refine cvi_0 15 cw_X4_68 (S_X4_valueAtStart h2) rfl ⟨by decide, by decide⟩ rfl rfl rfl rfl rfl (Nat.le_of_ble_eq_true rfl) dX4_followTale_12 rfl ?_
  refine dt_if_ge 18 22 dX4_followTale_15 rfl (by decide) rfl (fun c => ?_) (fun c => ?_)
  · replace h := ifp c h
    refine dt_iconst 23 dX4_followTale_22 rfl ?_
    exact A_X4_followTale_23 hF _ _ _ _ _ h
  · replace h := ifn c h
    refine dt_iconst 19 dX4_followTale_18 rfl ?_
    refine st_goto 23 dX4_followTale_19 (by decide) ?_
    exact A_X4_followTale_23 hF _ _ _ _ _ h
/-- StampTales$Search.taleAt -/
theorem A_X4_taleAt_23 {G : Cx} {b : Ab} {r : Int} {mm : Mi} (hF : Fi yd_X4_taleAt G b (some (iv r)) (Em mm)) (x0 : Bool) (x1 : Int) (μ : Mi) (h : B_X4_taleAt_23 x0 x1 μ = some (r, mm)) : At yd_X4_taleAt G b 23 [some (rf G 4 x0), some (iv x1)] [] (Em μ) := by
  unfold B_X4_taleAt_23 at h
  refine dild_2_1 24 dX4_taleAt_23 rfl ?_
  refine dt_iconst 25 dX4_taleAt_24 rfl ?_
  refine dt_icmp_ne 28 36 dX4_taleAt_25 rfl (by decide) rfl wk_m1 (fun c => ?_) (fun c => ?_)
  · replace h := ifp c h
    refine dild_2_1 37 dX4_taleAt_36 rfl ?_
    refine dt_if_lt 40 63 dX4_taleAt_37 rfl (by decide) rfl (fun c => ?_) (fun c => ?_)
    · replace h := ifp c h
      refine dt_iconst 64 dX4_taleAt_63 rfl ?_
      exact dr_i hF rfl dX4_taleAt_64 h
    · replace h := ifn c h
      refine dild_2_1 41 dX4_taleAt_40 rfl ?_
      refine ald_2_0 42 rfl dX4_taleAt_41 rfl ?_
      refine dgf_X4_14 45 rfl dX4_taleAt_42 rfl ?_
      refine dgf_X4_75 48 rfl dX4_taleAt_45 rfl rfl ?_
      refine dt_icmp_ge 51 63 dX4_taleAt_48 rfl (by decide) rfl rfl (fun c => ?_) (fun c => ?_)
      · replace h := ifp c h
        refine dt_iconst 64 dX4_taleAt_63 rfl ?_
        exact dr_i hF rfl dX4_taleAt_64 h
      · replace h := ifn c h
        refine ald_2_0 52 rfl dX4_taleAt_51 rfl ?_
        refine dgf_X4_14 55 rfl dX4_taleAt_52 rfl ?_
        refine dgf_X4_78 58 rfl dX4_taleAt_55 rfl ?_
        refine dild_2_1 59 dX4_taleAt_58 rfl ?_
        obtain ⟨hi, h⟩ := ift h
        refine diald 60 rfl rfl rfl hi rfl rfl dX4_taleAt_59 rfl ?_
        refine st_goto 64 dX4_taleAt_60 (by decide) ?_
        exact dr_i hF rfl dX4_taleAt_64 h
  · replace h := ifn c h
    refine ald_2_0 29 rfl dX4_taleAt_28 rfl ?_
    refine dgf_X4_14 32 rfl dX4_taleAt_29 rfl ?_
    refine dgf_X4_75 35 rfl dX4_taleAt_32 rfl rfl ?_
    exact dr_i hF rfl dX4_taleAt_35 h
theorem S_X4_taleAt {G : Cx} {μ : Mi} {x0 : Bool} {x1 : Int} {r : Int} {mm : Mi} (h : D_X4_taleAt x0 x1 μ = some (r, mm)) : Spec yd_X4_taleAt G [rf G 4 x0, iv x1] (Em μ) (some (iv r)) (Em mm) := by
  refine Spec.of (by decide) rfl (catL_ok rfl) (Nat.le_of_ble_eq_true rfl) rfl (fun b hF => ?_)
  unfold D_X4_taleAt at h
  refine ald_2_0 1 rfl dX4_taleAt_0 rfl ?_
  refine dt_bipush 3 dX4_taleAt_1 bq_6 rfl ?_
  obtain ⟨r1, m1, h1, h⟩ := bd_some h
  refine cvi_1 6 cw_X4_54 (S_X4_mustLearn h1) rfl ⟨by decide, by decide⟩ rfl rfl rfl rfl rfl (Nat.le_of_ble_eq_true rfl) dX4_taleAt_3 rfl ?_
  refine dt_if_eq 9 23 dX4_taleAt_6 rfl (by decide) rfl (fun c => ?_) (fun c => ?_)
  · replace h := ifp c h
    exact A_X4_taleAt_23 hF _ _ _ h
  · replace h := ifn c h
    refine ald_2_0 10 rfl dX4_taleAt_9 rfl ?_
    refine dt_iconst 11 dX4_taleAt_10 rfl ?_
    obtain ⟨m2, h2, h⟩ := bm_some h
    refine cvv_1 14 cw_X4_58 (S_X4_prepare h2) rfl ⟨by decide, by decide⟩ rfl rfl rfl rfl rfl (Nat.le_of_ble_eq_true rfl) dX4_taleAt_11 rfl ?_
    refine ald_2_0 15 rfl dX4_taleAt_14 rfl ?_
    refine dt_iconst 16 dX4_taleAt_15 rfl ?_
    obtain ⟨m3, h3, h⟩ := bm_some h
    refine cvv_1 19 cw_X4_62 (S_X4_fill h3) rfl ⟨by decide, by decide⟩ rfl rfl rfl rfl rfl (Nat.le_of_ble_eq_true rfl) dX4_taleAt_16 rfl ?_
    refine ald_2_0 20 rfl dX4_taleAt_19 rfl ?_
    obtain ⟨m4, h4, h⟩ := bm_some h
    refine cvv_0 23 cw_X4_72 (S_X4_followTale h4) rfl ⟨by decide, by decide⟩ rfl rfl rfl rfl rfl (Nat.le_of_ble_eq_true rfl) dX4_taleAt_20 rfl ?_
    exact A_X4_taleAt_23 hF _ _ _ h
/-- StampTales$Search.fewestToDoubt -/
theorem A_X4_fewestToDoubt_43 {G : Cx} {b : Ab} {r : Int} {mm : Mi} (hF : Fi yd_X4_fewestToDoubt G b (some (iv r)) (Em mm)) (x0 : Bool) (μ : Mi) (h : B_X4_fewestToDoubt_43 x0 μ = some (r, mm)) : At yd_X4_fewestToDoubt G b 43 [some (rf G 4 x0), none] [] (Em μ) := by
  unfold B_X4_fewestToDoubt_43 at h
  refine ald_2_0 44 rfl dX4_fewestToDoubt_43 rfl ?_
  refine dgf_X4_14 47 rfl dX4_fewestToDoubt_44 rfl ?_
  refine dgf_X4_81 50 rfl dX4_fewestToDoubt_47 rfl rfl ?_
  exact dr_i hF rfl dX4_fewestToDoubt_50 h
theorem A_X4_fewestToDoubt_40 {G : Cx} {b : Ab} {r : Int} {mm : Mi} (hF : Fi yd_X4_fewestToDoubt G b (some (iv r)) (Em mm)) (x0 : Bool) (s0 : Int) (μ : Mi) (h : B_X4_fewestToDoubt_40 x0 s0 μ = some (r, mm)) : At yd_X4_fewestToDoubt G b 40 [some (rf G 4 x0), none] [iv s0, rf G 1 x0] (Em μ) := by
  unfold B_X4_fewestToDoubt_40 at h
  refine dpf_X4_81 43 rfl dX4_fewestToDoubt_40 rfl ?_
  exact A_X4_fewestToDoubt_43 hF _ _ h
theorem S_X4_fewestToDoubt {G : Cx} {μ : Mi} {x0 : Bool} {r : Int} {mm : Mi} (h : D_X4_fewestToDoubt x0 μ = some (r, mm)) : Spec yd_X4_fewestToDoubt G [rf G 4 x0] (Em μ) (some (iv r)) (Em mm) := by
  refine Spec.of (by decide) rfl (catL_ok rfl) (Nat.le_of_ble_eq_true rfl) rfl (fun b hF => ?_)
  unfold D_X4_fewestToDoubt at h
  refine ald_2_0 1 rfl dX4_fewestToDoubt_0 rfl ?_
  refine dt_iconst 2 dX4_fewestToDoubt_1 rfl ?_
  obtain ⟨r1, m1, h1, h⟩ := bd_some h
  refine cvi_1 5 cw_X4_54 (S_X4_mustLearn h1) rfl ⟨by decide, by decide⟩ rfl rfl rfl rfl rfl (Nat.le_of_ble_eq_true rfl) dX4_fewestToDoubt_2 rfl ?_
  refine dt_if_eq 8 43 dX4_fewestToDoubt_5 rfl (by decide) rfl (fun c => ?_) (fun c => ?_)
  · replace h := ifp c h
    exact A_X4_fewestToDoubt_43 hF _ _ h
  · replace h := ifn c h
    refine ald_2_0 9 rfl dX4_fewestToDoubt_8 rfl ?_
    refine dt_iconst 10 dX4_fewestToDoubt_9 rfl ?_
    obtain ⟨m2, h2, h⟩ := bm_some h
    refine cvv_1 13 cw_X4_58 (S_X4_prepare h2) rfl ⟨by decide, by decide⟩ rfl rfl rfl rfl rfl (Nat.le_of_ble_eq_true rfl) dX4_fewestToDoubt_10 rfl ?_
    refine ald_2_0 14 rfl dX4_fewestToDoubt_13 rfl ?_
    refine dt_iconst 15 dX4_fewestToDoubt_14 rfl ?_
    obtain ⟨m3, h3, h⟩ := bm_some h
    refine cvv_1 18 cw_X4_62 (S_X4_fill h3) rfl ⟨by decide, by decide⟩ rfl rfl rfl rfl rfl (Nat.le_of_ble_eq_true rfl) dX4_fewestToDoubt_15 rfl ?_
    refine ald_2_0 19 rfl dX4_fewestToDoubt_18 rfl ?_
    obtain ⟨r4, h4, h⟩ := bp_some h
    refine cvi_0 22 cw_X4_68 (S_X4_valueAtStart h4) rfl ⟨by decide, by decide⟩ rfl rfl rfl rfl rfl (Nat.le_of_ble_eq_true rfl) dX4_fewestToDoubt_19 rfl ?_
    refine dist_2_1 23 dX4_fewestToDoubt_22 rfl rfl rfl ?_
    refine ald_2_0 24 rfl dX4_fewestToDoubt_23 rfl ?_
    refine dgf_X4_14 27 rfl dX4_fewestToDoubt_24 rfl ?_
    refine dild_2_1 28 dX4_fewestToDoubt_27 rfl ?_
    refine dt_if_ge 31 35 dX4_fewestToDoubt_28 rfl (by decide) rfl (fun c => ?_) (fun c => ?_)
    · replace h := ifp c h
      refine dild_2_1 36 dX4_fewestToDoubt_35 rfl ?_
      refine dt_sipush 39 dX4_fewestToDoubt_36 sq_256 rfl ?_
      refine dt_irem 40 dX4_fewestToDoubt_39 (by rw [wk_256]; decide) rfl ?_
      exact At.weak (ls_s (ls_n ls_0)) (A_X4_fewestToDoubt_40 hF _ _ _ h)
    · replace h := ifn c h
      refine dt_iconst 32 dX4_fewestToDoubt_31 rfl ?_
      refine st_goto 40 dX4_fewestToDoubt_32 (by decide) ?_
      exact At.weak (ls_s (ls_n ls_0)) (A_X4_fewestToDoubt_40 hF _ _ _ h)
/-- StampTales$Search.freestWithout -/
theorem A_X4_freestWithout_93 {G : Cx} {b : Ab} {r : Int} {mm : Mi} (hF : Fi yd_X4_freestWithout G b (some (iv r)) (Em mm)) (x0 : Bool) (μ : Mi) (h : B_X4_freestWithout_93 x0 μ = some (r, mm)) : At yd_X4_freestWithout G b 93 [some (rf G 4 x0), none, none] [] (Em μ) := by
  unfold B_X4_freestWithout_93 at h
  refine ald_3_0 94 rfl dX4_freestWithout_93 rfl ?_
  refine dgf_X4_14 97 rfl dX4_freestWithout_94 rfl ?_
  refine dgf_X4_84 100 rfl dX4_freestWithout_97 rfl rfl ?_
  exact dr_i hF rfl dX4_freestWithout_100 h
theorem A_X4_freestWithout_87 {G : Cx} {b : Ab} {r : Int} {mm : Mi} {k31 : (Bool → Int → Int → Mi → Option (Int × Mi))} (hF : Fi yd_X4_freestWithout G b (some (iv r)) (Em mm)) (hk31 : ∀ (x0 : Bool) (x1 : Int) (x2 : Int) (m : Mi), k31 x0 x1 x2 m = some (r, mm) → At yd_X4_freestWithout G b 31 [some (rf G 4 x0), some (iv x1), some (iv x2)] [] (Em m)) (x0 : Bool) (x1 : Int) (x2 : Int) (μ : Mi) (h : B_X4_freestWithout_87 k31 x0 x1 x2 μ = some (r, mm)) : At yd_X4_freestWithout G b 87 [some (rf G 4 x0), some (iv x1), some (iv x2)] [] (Em μ) := by
  unfold B_X4_freestWithout_87 at h
  refine dinc_3_2 90 dX4_freestWithout_87 rfl rfl rfl ?_
  refine st_goto 31 dX4_freestWithout_90 (by decide) ?_
  exact hk31 _ _ _ _ h
theorem A_X4_freestWithout_31 {G : Cx} {b : Ab} {r : Int} {mm : Mi} (hF : Fi yd_X4_freestWithout G b (some (iv r)) (Em mm)) : ∀ (n : Nat) (x0 : Bool) (x1 : Int) (x2 : Int) (μ : Mi), B_X4_freestWithout_31 n x0 x1 x2 μ = some (r, mm) → At yd_X4_freestWithout G b 31 [some (rf G 4 x0), some (iv x1), some (iv x2)] [] (Em μ) := by
  intro n
  induction n with
  | zero =>
    intro x0 x1 x2 μ h
    exact nope h
  | succ n hk31 =>
    intro x0 x1 x2 μ h
    replace h : F_X4_freestWithout_31 (B_X4_freestWithout_31 n) x0 x1 x2 μ = some (r, mm) := h
    unfold F_X4_freestWithout_31 at h
    refine dild_3_2 32 dX4_freestWithout_31 rfl ?_
    refine ald_3_0 33 rfl dX4_freestWithout_32 rfl ?_
    refine dgf_X4_37 36 rfl dX4_freestWithout_33 rfl ?_
    refine dgf_X4_87 39 rfl dX4_freestWithout_36 rfl rfl ?_
    refine dt_icmp_ge 42 93 dX4_freestWithout_39 rfl (by decide) rfl rfl (fun c => ?_) (fun c => ?_)
    · replace h := ifp c h
      exact At.weak (ls_s (ls_n (ls_n ls_0))) (A_X4_freestWithout_93 hF _ _ h)
    · replace h := ifn c h
      refine ald_3_0 43 rfl dX4_freestWithout_42 rfl ?_
      refine dgf_X4_37 46 rfl dX4_freestWithout_43 rfl ?_
      refine dgf_X4_90 49 rfl dX4_freestWithout_46 rfl ?_
      refine dild_3_2 50 dX4_freestWithout_49 rfl ?_
      obtain ⟨hi, h⟩ := ift h
      refine dzald 51 rfl rfl rfl hi rfl rfl dX4_freestWithout_50 rfl ?_
      refine dt_if_ne 54 87 dX4_freestWithout_51 rfl (by decide) rfl (fun c => ?_) (fun c => ?_)
      · replace h := ifp c h
        exact A_X4_freestWithout_87 hF hk31 _ _ _ _ h
      · replace h := ifn c h
        refine ald_3_0 55 rfl dX4_freestWithout_54 rfl ?_
        refine dt_iconst 56 dX4_freestWithout_55 rfl ?_
        refine dild_3_2 57 dX4_freestWithout_56 rfl ?_
        refine dt_ishl 58 dX4_freestWithout_57 rfl ?_
        obtain ⟨m1, h1, h⟩ := bm_some h
        refine cvv_1 61 cw_X4_58 (S_X4_prepare h1) rfl ⟨by decide, by decide⟩ rfl rfl rfl rfl rfl (Nat.le_of_ble_eq_true rfl) dX4_freestWithout_58 rfl ?_
        refine ald_3_0 62 rfl dX4_freestWithout_61 rfl ?_
        refine dt_iconst 63 dX4_freestWithout_62 rfl ?_
        obtain ⟨m2, h2, h⟩ := bm_some h
        refine cvv_1 66 cw_X4_62 (S_X4_fill h2) rfl ⟨by decide, by decide⟩ rfl rfl rfl rfl rfl (Nat.le_of_ble_eq_true rfl) dX4_freestWithout_63 rfl ?_
        refine ald_3_0 67 rfl dX4_freestWithout_66 rfl ?_
        obtain ⟨r3, h3, h⟩ := bp_some h
        refine cvi_0 70 cw_X4_68 (S_X4_valueAtStart h3) rfl ⟨by decide, by decide⟩ rfl rfl rfl rfl rfl (Nat.le_of_ble_eq_true rfl) dX4_freestWithout_67 rfl ?_
        refine dild_3_1 71 dX4_freestWithout_70 rfl ?_
        refine dt_icmp_le 74 87 dX4_freestWithout_71 rfl (by decide) rfl rfl (fun c => ?_) (fun c => ?_)
        · replace h := ifp c h
          exact A_X4_freestWithout_87 hF hk31 _ _ _ _ h
        · replace h := ifn c h
          refine ald_3_0 75 rfl dX4_freestWithout_74 rfl ?_
          obtain ⟨r4, h4, h⟩ := bp_some h
          refine cvi_0 78 cw_X4_68 (S_X4_valueAtStart h4) rfl ⟨by decide, by decide⟩ rfl rfl rfl rfl rfl (Nat.le_of_ble_eq_true rfl) dX4_freestWithout_75 rfl ?_
          refine dist_3_1 79 dX4_freestWithout_78 rfl rfl rfl ?_
          refine ald_3_0 80 rfl dX4_freestWithout_79 rfl ?_
          refine dgf_X4_14 83 rfl dX4_freestWithout_80 rfl ?_
          refine dild_3_2 84 dX4_freestWithout_83 rfl ?_
          refine dpf_X4_84 87 rfl dX4_freestWithout_84 rfl ?_
          exact A_X4_freestWithout_87 hF hk31 _ _ _ _ h
theorem S_X4_freestWithout {G : Cx} {μ : Mi} {x0 : Bool} {r : Int} {mm : Mi} (h : D_X4_freestWithout x0 μ = some (r, mm)) : Spec yd_X4_freestWithout G [rf G 4 x0] (Em μ) (some (iv r)) (Em mm) := by
  refine Spec.of (by decide) rfl (catL_ok rfl) (Nat.le_of_ble_eq_true rfl) rfl (fun b hF => ?_)
  unfold D_X4_freestWithout at h
  refine ald_3_0 1 rfl dX4_freestWithout_0 rfl ?_
  obtain ⟨m1, h1, h⟩ := bm_some h
  refine cvv_0 4 cw_X4_44 (S_X4_learnWhere h1) rfl ⟨by decide, by decide⟩ rfl rfl rfl rfl rfl (Nat.le_of_ble_eq_true rfl) dX4_freestWithout_1 rfl ?_
  refine ald_3_0 5 rfl dX4_freestWithout_4 rfl ?_
  refine dt_bipush 7 dX4_freestWithout_5 bq_7 rfl ?_
  obtain ⟨r2, m2, h2, h⟩ := bd_some h
  refine cvi_1 10 cw_X4_54 (S_X4_mustLearn h2) rfl ⟨by decide, by decide⟩ rfl rfl rfl rfl rfl (Nat.le_of_ble_eq_true rfl) dX4_freestWithout_7 rfl ?_
  refine dt_if_eq 13 93 dX4_freestWithout_10 rfl (by decide) rfl (fun c => ?_) (fun c => ?_)
  · replace h := ifp c h
    exact A_X4_freestWithout_93 hF _ _ h
  · replace h := ifn c h
    refine ald_3_0 14 rfl dX4_freestWithout_13 rfl ?_
    refine dgf_X4_14 17 rfl dX4_freestWithout_14 rfl ?_
    refine dgf_X4_47 20 rfl dX4_freestWithout_17 rfl rfl ?_
    refine dist_3_1 21 dX4_freestWithout_20 rfl rfl rfl ?_
    refine ald_3_0 22 rfl dX4_freestWithout_21 rfl ?_
    refine dgf_X4_14 25 rfl dX4_freestWithout_22 rfl ?_
    refine dt_iconst 26 dX4_freestWithout_25 rfl ?_
    refine dpf_X4_84 29 rfl dX4_freestWithout_26 rfl ?_
    refine dt_iconst 30 dX4_freestWithout_29 rfl ?_
    refine dist_3_2 31 dX4_freestWithout_30 rfl rfl rfl ?_
    exact A_X4_freestWithout_31 hF FU _ _ _ _ h
