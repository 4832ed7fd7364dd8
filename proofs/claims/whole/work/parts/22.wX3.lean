/-- StampTales$Reader.isLetter -/
theorem S_X3_isLetter {G : Cx} {μ : Mi} {x1 : Int} {r : Int} (h : D_X3_isLetter x1 μ = some r) : Spec yd_X3_isLetter G [rf G 3 false, iv x1] (Em μ) (some (iv r)) (Em μ) := by
  refine Spec.of (by decide) rfl (catL_ok rfl) (Nat.le_of_ble_eq_true rfl) rfl (fun b hF => ?_)
  unfold D_X3_isLetter at h
  refine ald_2_0 1 rfl dX3_isLetter_0 rfl ?_
  refine dgf_X3_20 4 rfl dX3_isLetter_1 rfl ?_
  refine dild_2_1 5 dX3_isLetter_4 rfl ?_
  obtain ⟨hi, h⟩ := ift h
  refine dbald 6 rfl rfl rfl hi rfl rfl dX3_isLetter_5 rfl ?_
  refine dt_bipush 8 dX3_isLetter_6 bq_97 rfl ?_
  refine dt_icmp_lt 11 26 dX3_isLetter_8 rfl (by decide) rfl wk_97 (fun c => ?_) (fun c => ?_)
  · replace h := ifp c h
    refine dt_iconst 27 dX3_isLetter_26 rfl ?_
    exact dr_zp hF rfl isB_0 dX3_isLetter_27 h
  · replace h := ifn c h
    refine ald_2_0 12 rfl dX3_isLetter_11 rfl ?_
    refine dgf_X3_20 15 rfl dX3_isLetter_12 rfl ?_
    refine dild_2_1 16 dX3_isLetter_15 rfl ?_
    obtain ⟨hi, h⟩ := ift h
    refine dbald 17 rfl rfl rfl hi rfl rfl dX3_isLetter_16 rfl ?_
    refine dt_bipush 19 dX3_isLetter_17 bq_122 rfl ?_
    refine dt_icmp_gt 22 26 dX3_isLetter_19 rfl (by decide) rfl wk_122 (fun c => ?_) (fun c => ?_)
    · replace h := ifp c h
      refine dt_iconst 27 dX3_isLetter_26 rfl ?_
      exact dr_zp hF rfl isB_0 dX3_isLetter_27 h
    · replace h := ifn c h
      refine dt_iconst 23 dX3_isLetter_22 rfl ?_
      refine st_goto 27 dX3_isLetter_23 (by decide) ?_
      exact dr_zp hF rfl isB_1 dX3_isLetter_27 h
/-- StampTales$Reader.isDigit -/
theorem S_X3_isDigit {G : Cx} {μ : Mi} {x1 : Int} {r : Int} (h : D_X3_isDigit x1 μ = some r) : Spec yd_X3_isDigit G [rf G 3 false, iv x1] (Em μ) (some (iv r)) (Em μ) := by
  refine Spec.of (by decide) rfl (catL_ok rfl) (Nat.le_of_ble_eq_true rfl) rfl (fun b hF => ?_)
  unfold D_X3_isDigit at h
  refine ald_2_0 1 rfl dX3_isDigit_0 rfl ?_
  refine dgf_X3_20 4 rfl dX3_isDigit_1 rfl ?_
  refine dild_2_1 5 dX3_isDigit_4 rfl ?_
  obtain ⟨hi, h⟩ := ift h
  refine dbald 6 rfl rfl rfl hi rfl rfl dX3_isDigit_5 rfl ?_
  refine dt_bipush 8 dX3_isDigit_6 bq_48 rfl ?_
  refine dt_icmp_lt 11 26 dX3_isDigit_8 rfl (by decide) rfl wk_48 (fun c => ?_) (fun c => ?_)
  · replace h := ifp c h
    refine dt_iconst 27 dX3_isDigit_26 rfl ?_
    exact dr_zp hF rfl isB_0 dX3_isDigit_27 h
  · replace h := ifn c h
    refine ald_2_0 12 rfl dX3_isDigit_11 rfl ?_
    refine dgf_X3_20 15 rfl dX3_isDigit_12 rfl ?_
    refine dild_2_1 16 dX3_isDigit_15 rfl ?_
    obtain ⟨hi, h⟩ := ift h
    refine dbald 17 rfl rfl rfl hi rfl rfl dX3_isDigit_16 rfl ?_
    refine dt_bipush 19 dX3_isDigit_17 bq_57 rfl ?_
    refine dt_icmp_gt 22 26 dX3_isDigit_19 rfl (by decide) rfl wk_57 (fun c => ?_) (fun c => ?_)
    · replace h := ifp c h
      refine dt_iconst 27 dX3_isDigit_26 rfl ?_
      exact dr_zp hF rfl isB_0 dX3_isDigit_27 h
    · replace h := ifn c h
      refine dt_iconst 23 dX3_isDigit_22 rfl ?_
      refine st_goto 27 dX3_isDigit_23 (by decide) ?_
      exact dr_zp hF rfl isB_1 dX3_isDigit_27 h
/-- StampTales$Reader.takeNumber -/
theorem A_X3_takeNumber_10 {G : Cx} {b : Ab}  {mm : Mi} (hF : Fi yd_X3_takeNumber G b none (Em mm)) : ∀ (n : Nat) (μ : Mi), B_X3_takeNumber_10 n μ = some mm → At yd_X3_takeNumber G b 10 [some (rf G 3 false)] [] (Em μ) := by
  intro n
  induction n with
  | zero =>
    intro μ h
    exact nope h
  | succ n hk10 =>
    intro μ h
    replace h : F_X3_takeNumber_10 (B_X3_takeNumber_10 n) μ = some mm := h
    unfold F_X3_takeNumber_10 at h
    refine ald_1_0 11 rfl dX3_takeNumber_10 rfl ?_
    refine dgf_X3_38 14 rfl dX3_takeNumber_11 rfl rfl ?_
    refine ald_1_0 15 rfl dX3_takeNumber_14 rfl ?_
    refine dgf_X3_34 18 rfl dX3_takeNumber_15 rfl rfl ?_
    refine dt_icmp_ge 21 75 dX3_takeNumber_18 rfl (by decide) rfl rfl (fun c => ?_) (fun c => ?_)
    · replace h := ifp c h
      exact dr_v hF rfl dX3_takeNumber_75 h
    · replace h := ifn c h
      refine ald_1_0 22 rfl dX3_takeNumber_21 rfl ?_
      refine ald_1_0 23 rfl dX3_takeNumber_22 rfl ?_
      refine dgf_X3_38 26 rfl dX3_takeNumber_23 rfl rfl ?_
      obtain ⟨r1, h1, h⟩ := bp_some h
      refine cvi_1 29 cw_X3_169 (S_X3_isDigit h1) rfl ⟨by decide, by decide⟩ rfl rfl rfl rfl rfl (Nat.le_of_ble_eq_true rfl) dX3_takeNumber_26 rfl ?_
      refine dt_if_eq 32 75 dX3_takeNumber_29 rfl (by decide) rfl (fun c => ?_) (fun c => ?_)
      · replace h := ifp c h
        exact dr_v hF rfl dX3_takeNumber_75 h
      · replace h := ifn c h
        refine ald_1_0 33 rfl dX3_takeNumber_32 rfl ?_
        refine dt_sipush 36 dX3_takeNumber_33 sq_1000 rfl ?_
        refine ald_1_0 37 rfl dX3_takeNumber_36 rfl ?_
        refine dgf_X3_116 40 rfl dX3_takeNumber_37 rfl rfl ?_
        refine dt_bipush 42 dX3_takeNumber_40 bq_10 rfl ?_
        refine dt_imul 43 dX3_takeNumber_42 rfl ?_
        refine ald_1_0 44 rfl dX3_takeNumber_43 rfl ?_
        refine dgf_X3_20 47 rfl dX3_takeNumber_44 rfl ?_
        refine ald_1_0 48 rfl dX3_takeNumber_47 rfl ?_
        refine dgf_X3_38 51 rfl dX3_takeNumber_48 rfl rfl ?_
        obtain ⟨hi, h⟩ := ift h
        refine dbald 52 rfl rfl rfl hi rfl rfl dX3_takeNumber_51 rfl ?_
        refine dt_bipush 54 dX3_takeNumber_52 bq_48 rfl ?_
        refine dt_isub 55 dX3_takeNumber_54 rfl ?_
        refine dt_iadd 56 dX3_takeNumber_55 rfl ?_
        refine dmmin 59 rfl cw_X3_28 ⟨by decide, by decide⟩ (Nat.le_of_ble_eq_true rfl) dX3_takeNumber_56 rfl ?_
        refine dpf_X3_116 62 rfl dX3_takeNumber_59 rfl ?_
        refine ald_1_0 63 rfl dX3_takeNumber_62 rfl ?_
        refine st_dup 64 dX3_takeNumber_63 rfl rfl ?_
        refine dgf_X3_38 67 rfl dX3_takeNumber_64 rfl (rd_oj (by decide)) ?_
        refine dt_iconst 68 dX3_takeNumber_67 rfl ?_
        refine dt_iadd 69 dX3_takeNumber_68 rfl ?_
        refine dpf_X3_38 72 rfl dX3_takeNumber_69 rfl ?_
        refine st_goto 10 dX3_takeNumber_72 (by decide) ?_
        exact hk10 _ h
theorem S_X3_takeNumber {G : Cx} {μ : Mi}  {mm : Mi} (h : D_X3_takeNumber μ = some mm) : Spec yd_X3_takeNumber G [rf G 3 false] (Em μ) (none) (Em mm) := by
  refine Spec.of (by decide) rfl (catL_ok rfl) (Nat.le_of_ble_eq_true rfl) rfl (fun b hF => ?_)
  unfold D_X3_takeNumber at h
  refine ald_1_0 1 rfl dX3_takeNumber_0 rfl ?_
  refine dt_iconst 2 dX3_takeNumber_1 rfl ?_
  refine dpf_X3_47 5 rfl dX3_takeNumber_2 rfl ?_
  refine ald_1_0 6 rfl dX3_takeNumber_5 rfl ?_
  refine dt_iconst 7 dX3_takeNumber_6 rfl ?_
  refine dpf_X3_116 10 rfl dX3_takeNumber_7 rfl ?_
  exact A_X3_takeNumber_10 hF FU _ h
/-- StampTales$Reader.takeWord -/
theorem A_X3_takeWord_10 {G : Cx} {b : Ab}  {mm : Mi} (hF : Fi yd_X3_takeWord G b none (Em mm)) : ∀ (n : Nat) (μ : Mi), B_X3_takeWord_10 n μ = some mm → At yd_X3_takeWord G b 10 [some (rf G 3 false)] [] (Em μ) := by
  intro n
  induction n with
  | zero =>
    intro μ h
    exact nope h
  | succ n hk10 =>
    intro μ h
    replace h : F_X3_takeWord_10 (B_X3_takeWord_10 n) μ = some mm := h
    unfold F_X3_takeWord_10 at h
    refine ald_1_0 11 rfl dX3_takeWord_10 rfl ?_
    refine dgf_X3_38 14 rfl dX3_takeWord_11 rfl rfl ?_
    refine ald_1_0 15 rfl dX3_takeWord_14 rfl ?_
    refine dgf_X3_34 18 rfl dX3_takeWord_15 rfl rfl ?_
    refine dt_icmp_ge 21 73 dX3_takeWord_18 rfl (by decide) rfl rfl (fun c => ?_) (fun c => ?_)
    · replace h := ifp c h
      exact dr_v hF rfl dX3_takeWord_73 h
    · replace h := ifn c h
      refine ald_1_0 22 rfl dX3_takeWord_21 rfl ?_
      refine ald_1_0 23 rfl dX3_takeWord_22 rfl ?_
      refine dgf_X3_38 26 rfl dX3_takeWord_23 rfl rfl ?_
      obtain ⟨r1, h1, h⟩ := bp_some h
      refine cvi_1 29 cw_X3_162 (S_X3_isLetter h1) rfl ⟨by decide, by decide⟩ rfl rfl rfl rfl rfl (Nat.le_of_ble_eq_true rfl) dX3_takeWord_26 rfl ?_
      refine dt_if_eq 32 73 dX3_takeWord_29 rfl (by decide) rfl (fun c => ?_) (fun c => ?_)
      · replace h := ifp c h
        exact dr_v hF rfl dX3_takeWord_73 h
      · replace h := ifn c h
        refine ald_1_0 33 rfl dX3_takeWord_32 rfl ?_
        refine ald_1_0 34 rfl dX3_takeWord_33 rfl ?_
        refine dgf_X3_88 37 rfl dX3_takeWord_34 rfl rfl ?_
        refine dt_ldc2 (z := 32) 40 rfl k_X3_175 (by decide) dX3_takeWord_37 rfl ?_
        refine dt_lmul 41 dX3_takeWord_40 rfl ?_
        refine ald_1_0 42 rfl dX3_takeWord_41 rfl ?_
        refine dgf_X3_20 45 rfl dX3_takeWord_42 rfl ?_
        refine ald_1_0 46 rfl dX3_takeWord_45 rfl ?_
        refine dgf_X3_38 49 rfl dX3_takeWord_46 rfl rfl ?_
        obtain ⟨hi, h⟩ := ift h
        refine dbald 50 rfl rfl rfl hi rfl rfl dX3_takeWord_49 rfl ?_
        refine dt_bipush 52 dX3_takeWord_50 bq_97 rfl ?_
        refine dt_isub 53 dX3_takeWord_52 rfl ?_
        refine dt_iconst 54 dX3_takeWord_53 rfl ?_
        refine dt_iadd 55 dX3_takeWord_54 rfl ?_
        refine dt_i2l 56 dX3_takeWord_55 rfl rfl ?_
        refine dt_ladd 57 dX3_takeWord_56 rfl ?_
        refine dpf_X3_88 60 rfl dX3_takeWord_57 rfl ?_
        refine ald_1_0 61 rfl dX3_takeWord_60 rfl ?_
        refine st_dup 62 dX3_takeWord_61 rfl rfl ?_
        refine dgf_X3_38 65 rfl dX3_takeWord_62 rfl (rd_wl _ _ _ _ _ _ _ _) ?_
        refine dt_iconst 66 dX3_takeWord_65 rfl ?_
        refine dt_iadd 67 dX3_takeWord_66 rfl ?_
        refine dpf_X3_38 70 rfl dX3_takeWord_67 rfl ?_
        refine st_goto 10 dX3_takeWord_70 (by decide) ?_
        exact hk10 _ h
theorem S_X3_takeWord {G : Cx} {μ : Mi}  {mm : Mi} (h : D_X3_takeWord μ = some mm) : Spec yd_X3_takeWord G [rf G 3 false] (Em μ) (none) (Em mm) := by
  refine Spec.of (by decide) rfl (catL_ok rfl) (Nat.le_of_ble_eq_true rfl) rfl (fun b hF => ?_)
  unfold D_X3_takeWord at h
  refine ald_1_0 1 rfl dX3_takeWord_0 rfl ?_
  refine dt_iconst 2 dX3_takeWord_1 rfl ?_
  refine dpf_X3_47 5 rfl dX3_takeWord_2 rfl ?_
  refine ald_1_0 6 rfl dX3_takeWord_5 rfl ?_
  refine dt_lconst 7 dX3_takeWord_6 rfl ?_
  refine dpf_X3_88 10 rfl dX3_takeWord_7 rfl ?_
  exact A_X3_takeWord_10 hF FU _ h
/-- StampTales$Reader.next -/
theorem A_X3_next_143 {G : Cx} {b : Ab}  {mm : Mi} (hF : Fi yd_X3_next G b none (Em mm)) (s0 : Int) (μ : Mi) (h : B_X3_next_143 s0 μ = some mm) : At yd_X3_next G b 143 [some (rf G 3 false)] [iv s0, rf G 3 false] (Em μ) := by
  unfold B_X3_next_143 at h
  refine dpf_X3_47 146 rfl dX3_next_143 rfl ?_
  refine ald_1_0 147 rfl dX3_next_146 rfl ?_
  refine st_dup 148 dX3_next_147 rfl rfl ?_
  refine dgf_X3_38 151 rfl dX3_next_148 rfl (rd_oj (by decide)) ?_
  refine dt_iconst 152 dX3_next_151 rfl ?_
  refine dt_iadd 153 dX3_next_152 rfl ?_
  refine dpf_X3_38 156 rfl dX3_next_153 rfl ?_
  exact dr_v hF rfl dX3_next_156 h
theorem A_X3_next_60 {G : Cx} {b : Ab}  {mm : Mi} (hF : Fi yd_X3_next G b none (Em mm)) (μ : Mi) (h : B_X3_next_60 μ = some mm) : At yd_X3_next G b 60 [some (rf G 3 false)] [] (Em μ) := by
  unfold B_X3_next_60 at h
  refine ald_1_0 61 rfl dX3_next_60 rfl ?_
  refine ald_1_0 62 rfl dX3_next_61 rfl ?_
  refine dgf_X3_54 65 rfl dX3_next_62 rfl rfl ?_
  refine dpf_X3_38 68 rfl dX3_next_65 rfl ?_
  refine ald_1_0 69 rfl dX3_next_68 rfl ?_
  refine dgf_X3_54 72 rfl dX3_next_69 rfl (rd_oj (by decide)) ?_
  refine ald_1_0 73 rfl dX3_next_72 rfl ?_
  refine dgf_X3_34 76 rfl dX3_next_73 rfl (rd_oj (by decide)) ?_
  refine dt_icmp_lt 79 87 dX3_next_76 rfl (by decide) rfl rfl (fun c => ?_) (fun c => ?_)
  · replace h := ifp c h
    refine ald_1_0 88 rfl dX3_next_87 rfl ?_
    refine ald_1_0 89 rfl dX3_next_88 rfl ?_
    refine dgf_X3_54 92 rfl dX3_next_89 rfl (rd_oj (by decide)) ?_
    obtain ⟨r1, h1, h⟩ := bp_some h
    refine cvi_1 95 cw_X3_162 (S_X3_isLetter h1) rfl ⟨by decide, by decide⟩ rfl rfl rfl rfl rfl (Nat.le_of_ble_eq_true rfl) dX3_next_92 rfl ?_
    refine dt_if_eq 98 105 dX3_next_95 rfl (by decide) rfl (fun c => ?_) (fun c => ?_)
    · replace h := ifp c h
      refine ald_1_0 106 rfl dX3_next_105 rfl ?_
      refine ald_1_0 107 rfl dX3_next_106 rfl ?_
      refine dgf_X3_54 110 rfl dX3_next_107 rfl (rd_oj (by decide)) ?_
      obtain ⟨r2, h2, h⟩ := bp_some h
      refine cvi_1 113 cw_X3_169 (S_X3_isDigit h2) rfl ⟨by decide, by decide⟩ rfl rfl rfl rfl rfl (Nat.le_of_ble_eq_true rfl) dX3_next_110 rfl ?_
      refine dt_if_eq 116 123 dX3_next_113 rfl (by decide) rfl (fun c => ?_) (fun c => ?_)
      · replace h := ifp c h
        refine ald_1_0 124 rfl dX3_next_123 rfl ?_
        refine ald_1_0 125 rfl dX3_next_124 rfl ?_
        refine dgf_X3_20 128 rfl dX3_next_125 rfl ?_
        refine ald_1_0 129 rfl dX3_next_128 rfl ?_
        refine dgf_X3_54 132 rfl dX3_next_129 rfl (rd_oj (by decide)) ?_
        obtain ⟨hi, h⟩ := ift h
        refine dbald 133 rfl rfl rfl hi rfl (rd_o (by decide)) dX3_next_132 rfl ?_
        refine dt_bipush 135 dX3_next_133 bq_59 rfl ?_
        refine dt_icmp_ne 138 142 dX3_next_135 rfl (by decide) rfl wk_59 (fun c => ?_) (fun c => ?_)
        · replace h := ifp c h
          refine dt_iconst 143 dX3_next_142 rfl ?_
          exact A_X3_next_143 hF _ _ h
        · replace h := ifn c h
          refine dt_iconst 139 dX3_next_138 rfl ?_
          refine st_goto 143 dX3_next_139 (by decide) ?_
          exact A_X3_next_143 hF _ _ h
      · replace h := ifn c h
        refine ald_1_0 117 rfl dX3_next_116 rfl ?_
        obtain ⟨m3, h3, h⟩ := bm_some h
        refine cvv_0 120 cw_X3_172 (S_X3_takeNumber h3) rfl ⟨by decide, by decide⟩ rfl rfl rfl rfl rfl (Nat.le_of_ble_eq_true rfl) dX3_next_117 rfl ?_
        refine st_goto 156 dX3_next_120 (by decide) ?_
        exact dr_v hF rfl dX3_next_156 h
    · replace h := ifn c h
      refine ald_1_0 99 rfl dX3_next_98 rfl ?_
      obtain ⟨m2, h2, h⟩ := bm_some h
      refine cvv_0 102 cw_X3_166 (S_X3_takeWord h2) rfl ⟨by decide, by decide⟩ rfl rfl rfl rfl rfl (Nat.le_of_ble_eq_true rfl) dX3_next_99 rfl ?_
      refine st_goto 156 dX3_next_102 (by decide) ?_
      exact dr_v hF rfl dX3_next_156 h
  · replace h := ifn c h
    refine ald_1_0 80 rfl dX3_next_79 rfl ?_
    refine dt_iconst 81 dX3_next_80 rfl ?_
    refine dpf_X3_47 84 rfl dX3_next_81 rfl ?_
    refine st_goto 156 dX3_next_84 (by decide) ?_
    exact dr_v hF rfl dX3_next_156 h
theorem A_X3_next_47 {G : Cx} {b : Ab}  {mm : Mi} {k8 : (Mi → Option Mi)} (hF : Fi yd_X3_next G b none (Em mm)) (hk8 : ∀ (m : Mi), k8 m = some mm → At yd_X3_next G b 8 [some (rf G 3 false)] [] (Em m)) (μ : Mi) (h : B_X3_next_47 k8 μ = some mm) : At yd_X3_next G b 47 [some (rf G 3 false)] [] (Em μ) := by
  unfold B_X3_next_47 at h
  refine ald_1_0 48 rfl dX3_next_47 rfl ?_
  refine st_dup 49 dX3_next_48 rfl rfl ?_
  refine dgf_X3_54 52 rfl dX3_next_49 rfl rfl ?_
  refine dt_iconst 53 dX3_next_52 rfl ?_
  refine dt_iadd 54 dX3_next_53 rfl ?_
  refine dpf_X3_54 57 rfl dX3_next_54 rfl ?_
  refine st_goto 8 dX3_next_57 (by decide) ?_
  exact hk8 _ h
theorem A_X3_next_8 {G : Cx} {b : Ab}  {mm : Mi} (hF : Fi yd_X3_next G b none (Em mm)) : ∀ (n : Nat) (μ : Mi), B_X3_next_8 n μ = some mm → At yd_X3_next G b 8 [some (rf G 3 false)] [] (Em μ) := by
  intro n
  induction n with
  | zero =>
    intro μ h
    exact nope h
  | succ n hk8 =>
    intro μ h
    replace h : F_X3_next_8 (B_X3_next_8 n) μ = some mm := h
    unfold F_X3_next_8 at h
    refine ald_1_0 9 rfl dX3_next_8 rfl ?_
    refine dgf_X3_54 12 rfl dX3_next_9 rfl rfl ?_
    refine ald_1_0 13 rfl dX3_next_12 rfl ?_
    refine dgf_X3_34 16 rfl dX3_next_13 rfl rfl ?_
    refine dt_icmp_ge 19 60 dX3_next_16 rfl (by decide) rfl rfl (fun c => ?_) (fun c => ?_)
    · replace h := ifp c h
      exact A_X3_next_60 hF _ h
    · replace h := ifn c h
      refine ald_1_0 20 rfl dX3_next_19 rfl ?_
      refine dgf_X3_20 23 rfl dX3_next_20 rfl ?_
      refine ald_1_0 24 rfl dX3_next_23 rfl ?_
      refine dgf_X3_54 27 rfl dX3_next_24 rfl rfl ?_
      obtain ⟨hi, h⟩ := ift h
      refine dbald 28 rfl rfl rfl hi rfl rfl dX3_next_27 rfl ?_
      refine dt_bipush 30 dX3_next_28 bq_32 rfl ?_
      refine dt_icmp_eq 33 47 dX3_next_30 rfl (by decide) rfl wk_32 (fun c => ?_) (fun c => ?_)
      · replace h := ifp c h
        exact A_X3_next_47 hF hk8 _ h
      · replace h := ifn c h
        refine ald_1_0 34 rfl dX3_next_33 rfl ?_
        refine dgf_X3_20 37 rfl dX3_next_34 rfl ?_
        refine ald_1_0 38 rfl dX3_next_37 rfl ?_
        refine dgf_X3_54 41 rfl dX3_next_38 rfl rfl ?_
        obtain ⟨hi, h⟩ := ift h
        refine dbald 42 rfl rfl rfl hi rfl rfl dX3_next_41 rfl ?_
        refine dt_bipush 44 dX3_next_42 bq_10 rfl ?_
        refine dt_icmp_ne 47 60 dX3_next_44 rfl (by decide) rfl wk_10 (fun c => ?_) (fun c => ?_)
        · replace h := ifp c h
          exact A_X3_next_60 hF _ h
        · replace h := ifn c h
          exact A_X3_next_47 hF hk8 _ h
theorem S_X3_next {G : Cx} {μ : Mi}  {mm : Mi} (h : D_X3_next μ = some mm) : Spec yd_X3_next G [rf G 3 false] (Em μ) (none) (Em mm) := by
  refine Spec.of (by decide) rfl (catL_ok rfl) (Nat.le_of_ble_eq_true rfl) rfl (fun b hF => ?_)
  unfold D_X3_next at h
  refine ald_1_0 1 rfl dX3_next_0 rfl ?_
  refine ald_1_0 2 rfl dX3_next_1 rfl ?_
  refine dgf_X3_38 5 rfl dX3_next_2 rfl rfl ?_
  refine dpf_X3_54 8 rfl dX3_next_5 rfl ?_
  exact A_X3_next_8 hF FU _ h
/-- StampTales$Reader.isWord -/
theorem A_X3_isWord_28 {G : Cx} {b : Ab} {μ : Mi} {r : Int} (hF : Fi yd_X3_isWord G b (some (iv r)) (Em μ)) : ∀ (n : Nat) (x1 : Nat) (x2 : Int) (hq1 : x1 < 14), B_X3_isWord_28 n x1 x2 μ = some r → At yd_X3_isWord G b 28 [some (rf G 3 false), some (sf G x1), some (iv x2)] [] (Em μ) := by
  intro n
  induction n with
  | zero =>
    intro x1 x2 hq1 h
    exact nope h
  | succ n hk28 =>
    intro x1 x2 hq1 h
    replace h : F_X3_isWord_28 (B_X3_isWord_28 n) x1 x2 μ = some r := h
    unfold F_X3_isWord_28 at h
    refine dild_3_2 29 dX3_isWord_28 rfl ?_
    refine ald_3_1 30 rfl dX3_isWord_29 rfl ?_
    refine cti_0 33 cw_X3_154 (S_strlen (by first | assumption | decide)) (by first | assumption | decide) rfl ⟨by decide, by decide⟩ rfl (Nat.le_of_ble_eq_true rfl) dX3_isWord_30 rfl ?_
    refine dt_icmp_ge 36 63 dX3_isWord_33 rfl (by decide) rfl rfl (fun c => ?_) (fun c => ?_)
    · replace h := ifp c h
      refine dt_iconst 64 dX3_isWord_63 rfl ?_
      exact dr_zp hF rfl isB_1 dX3_isWord_64 h
    · replace h := ifn c h
      refine ald_3_0 37 rfl dX3_isWord_36 rfl ?_
      refine dgf_X3_20 40 rfl dX3_isWord_37 rfl ?_
      refine ald_3_0 41 rfl dX3_isWord_40 rfl ?_
      refine dgf_X3_54 44 rfl dX3_isWord_41 rfl rfl ?_
      refine dild_3_2 45 dX3_isWord_44 rfl ?_
      refine dt_iadd 46 dX3_isWord_45 rfl ?_
      obtain ⟨hi, h⟩ := ift h
      refine dbald 47 rfl rfl rfl hi rfl rfl dX3_isWord_46 rfl ?_
      refine ald_3_1 48 rfl dX3_isWord_47 rfl ?_
      refine dild_3_2 49 dX3_isWord_48 rfl ?_
      obtain ⟨hs, h⟩ := ift h
      refine cti_1 52 cw_X3_158 (S_charAt (by first | assumption | decide) hs) (by first | assumption | decide) rfl ⟨by decide, by decide⟩ rfl (Nat.le_of_ble_eq_true rfl) dX3_isWord_49 rfl ?_
      refine dt_icmp_eq 55 57 dX3_isWord_52 rfl (by decide) rfl rfl (fun c => ?_) (fun c => ?_)
      · replace h := ifp c h
        refine dinc_3_2 60 dX3_isWord_57 rfl rfl rfl ?_
        refine st_goto 28 dX3_isWord_60 (by decide) ?_
        exact hk28 _ _ hq1 h
      · replace h := ifn c h
        refine dt_iconst 56 dX3_isWord_55 rfl ?_
        exact dr_zp hF rfl isB_0 dX3_isWord_56 h
theorem S_X3_isWord {G : Cx} {μ : Mi} {x1 : Nat} (hq1 : x1 < 14) {r : Int} (h : D_X3_isWord x1 μ = some r) : Spec yd_X3_isWord G [rf G 3 false, sf G x1] (Em μ) (some (iv r)) (Em μ) := by
  refine Spec.of (by decide) rfl (catL_ok rfl) (Nat.le_of_ble_eq_true rfl) rfl (fun b hF => ?_)
  unfold D_X3_isWord at h
  refine ald_3_0 1 rfl dX3_isWord_0 rfl ?_
  refine dgf_X3_47 4 rfl dX3_isWord_1 rfl rfl ?_
  refine dt_iconst 5 dX3_isWord_4 rfl ?_
  refine dt_icmp_ne 8 24 dX3_isWord_5 rfl (by decide) rfl wk_1 (fun c => ?_) (fun c => ?_)
  · replace h := ifp c h
    refine dt_iconst 25 dX3_isWord_24 rfl ?_
    exact dr_zp hF rfl isB_0 dX3_isWord_25 h
  · replace h := ifn c h
    refine ald_3_0 9 rfl dX3_isWord_8 rfl ?_
    refine dgf_X3_38 12 rfl dX3_isWord_9 rfl rfl ?_
    refine ald_3_0 13 rfl dX3_isWord_12 rfl ?_
    refine dgf_X3_54 16 rfl dX3_isWord_13 rfl rfl ?_
    refine dt_isub 17 dX3_isWord_16 rfl ?_
    refine ald_3_1 18 rfl dX3_isWord_17 rfl ?_
    refine cti_0 21 cw_X3_154 (S_strlen (by first | assumption | decide)) (by first | assumption | decide) rfl ⟨by decide, by decide⟩ rfl (Nat.le_of_ble_eq_true rfl) dX3_isWord_18 rfl ?_
    refine dt_icmp_eq 24 26 dX3_isWord_21 rfl (by decide) rfl rfl (fun c => ?_) (fun c => ?_)
    · replace h := ifp c h
      refine dt_iconst 27 dX3_isWord_26 rfl ?_
      refine dist_3_2 28 dX3_isWord_27 rfl rfl rfl ?_
      exact A_X3_isWord_28 hF FU _ _ hq1 h
    · replace h := ifn c h
      refine dt_iconst 25 dX3_isWord_24 rfl ?_
      exact dr_zp hF rfl isB_0 dX3_isWord_25 h
/-- StampTales$Reader.placeOfName -/
theorem A_X3_placeOfName_r31_48 {G : Cx} {b : Ab} {μ : Mi} {r : Int} {k2 : (Int → Int → Mi → Option Int)} (hF : Fi yd_X3_placeOfName G b (some (iv r)) (Em μ)) (hk2 : ∀ (x2 : Int) (x3 : Int), k2 x2 x3 μ = some r → At yd_X3_placeOfName G b 2 [some (rf G 3 false), some (rf G 31 false), some (iv x2), some (iv x3)] [] (Em μ)) (x2 : Int) (x3 : Int) (h : B_X3_placeOfName_r31_48 k2 x2 x3 μ = some r) : At yd_X3_placeOfName G b 48 [some (rf G 3 false), some (rf G 31 false), some (iv x2), some (iv x3)] [] (Em μ) := by
  unfold B_X3_placeOfName_r31_48 at h
  refine dinc_4_3 51 dX3_placeOfName_48 rfl rfl rfl ?_
  refine st_goto 2 dX3_placeOfName_51 (by decide) ?_
  exact hk2 _ _ h
theorem A_X3_placeOfName_r31_2 {G : Cx} {b : Ab} {μ : Mi} {r : Int} (hF : Fi yd_X3_placeOfName G b (some (iv r)) (Em μ)) : ∀ (n : Nat) (x2 : Int) (x3 : Int), B_X3_placeOfName_r31_2 n x2 x3 μ = some r → At yd_X3_placeOfName G b 2 [some (rf G 3 false), some (rf G 31 false), some (iv x2), some (iv x3)] [] (Em μ) := by
  intro n
  induction n with
  | zero =>
    intro x2 x3 h
    exact nope h
  | succ n hk2 =>
    intro x2 x3 h
    replace h : F_X3_placeOfName_r31_2 (B_X3_placeOfName_r31_2 n) x2 x3 μ = some r := h
    unfold F_X3_placeOfName_r31_2 at h
    refine dild_4_3 3 dX3_placeOfName_2 rfl ?_
    refine dild_4_2 4 dX3_placeOfName_3 rfl ?_
    refine dt_icmp_ge 7 54 dX3_placeOfName_4 rfl (by decide) rfl rfl (fun c => ?_) (fun c => ?_)
    · replace h := ifp c h
      refine dt_iconst 55 dX3_placeOfName_54 rfl ?_
      exact dr_ip hF rfl dX3_placeOfName_55 h
    · replace h := ifn c h
      refine dild_4_3 8 dX3_placeOfName_7 rfl ?_
      refine ald_4_1 9 rfl dX3_placeOfName_8 rfl ?_
      refine st_alen (v := Int32.ofInt 8) 10 (by decide) (by decide) rfl (by decide) dX3_placeOfName_9 rfl ?_
      refine dt_icmp_ge 13 54 dX3_placeOfName_10 rfl (by decide) rfl wk_8 (fun c => ?_) (fun c => ?_)
      · replace h := ifp c h
        refine dt_iconst 55 dX3_placeOfName_54 rfl ?_
        exact dr_ip hF rfl dX3_placeOfName_55 h
      · replace h := ifn c h
        refine ald_4_0 14 rfl dX3_placeOfName_13 rfl ?_
        refine dgf_X3_47 17 rfl dX3_placeOfName_14 rfl rfl ?_
        refine dt_iconst 18 dX3_placeOfName_17 rfl ?_
        refine dt_icmp_ne 21 48 dX3_placeOfName_18 rfl (by decide) rfl wk_1 (fun c => ?_) (fun c => ?_)
        · replace h := ifp c h
          exact A_X3_placeOfName_r31_48 hF hk2 _ _ h
        · replace h := ifn c h
          refine ald_4_0 22 rfl dX3_placeOfName_21 rfl ?_
          refine dgf_X3_38 25 rfl dX3_placeOfName_22 rfl rfl ?_
          refine ald_4_0 26 rfl dX3_placeOfName_25 rfl ?_
          refine dgf_X3_54 29 rfl dX3_placeOfName_26 rfl rfl ?_
          refine dt_isub 30 dX3_placeOfName_29 rfl ?_
          refine dt_bipush 32 dX3_placeOfName_30 bq_8 rfl ?_
          refine dt_icmp_gt 35 48 dX3_placeOfName_32 rfl (by decide) rfl wk_8 (fun c => ?_) (fun c => ?_)
          · replace h := ifp c h
            exact A_X3_placeOfName_r31_48 hF hk2 _ _ h
          · replace h := ifn c h
            refine ald_4_1 36 rfl dX3_placeOfName_35 rfl ?_
            refine dild_4_3 37 dX3_placeOfName_36 rfl ?_
            obtain ⟨hi, h⟩ := ift h
            refine dlald 38 rfl rfl rfl hi rfl rfl dX3_placeOfName_37 rfl ?_
            refine ald_4_0 39 rfl dX3_placeOfName_38 rfl ?_
            refine dgf_X3_88 42 rfl dX3_placeOfName_39 rfl rfl ?_
            refine dt_lcmp 43 dX3_placeOfName_42 rfl ?_
            refine dt_if_ne 46 48 dX3_placeOfName_43 rfl (by decide) rfl (fun c => ?_) (fun c => ?_)
            · replace h := ifp c h
              exact A_X3_placeOfName_r31_48 hF hk2 _ _ h
            · replace h := ifn c h
              refine dild_4_3 47 dX3_placeOfName_46 rfl ?_
              exact dr_ip hF rfl dX3_placeOfName_47 h
theorem S_X3_placeOfName_r31 {G : Cx} {μ : Mi} {x2 : Int} {r : Int} (h : D_X3_placeOfName_r31 x2 μ = some r) : Spec yd_X3_placeOfName G [rf G 3 false, rf G 31 false, iv x2] (Em μ) (some (iv r)) (Em μ) := by
  refine Spec.of (by decide) rfl (catL_ok rfl) (Nat.le_of_ble_eq_true rfl) rfl (fun b hF => ?_)
  unfold D_X3_placeOfName_r31 at h
  refine dt_iconst 1 dX3_placeOfName_0 rfl ?_
  refine dist_4_3 2 dX3_placeOfName_1 rfl rfl rfl ?_
  exact A_X3_placeOfName_r31_2 hF FU _ _ h
/-- StampTales$Reader.townOfWord -/
theorem S_X3_townOfWord {G : Cx} {μ : Mi} {r : Int} (h : D_X3_townOfWord μ = some r) : Spec yd_X3_townOfWord G [rf G 3 false] (Em μ) (some (iv r)) (Em μ) := by
  refine Spec.of (by decide) rfl (catL_ok rfl) (Nat.le_of_ble_eq_true rfl) rfl (fun b hF => ?_)
  unfold D_X3_townOfWord at h
  refine ald_1_0 1 rfl dX3_townOfWord_0 rfl ?_
  refine ald_1_0 2 rfl dX3_townOfWord_1 rfl ?_
  refine dgf_X3_17 5 rfl dX3_townOfWord_2 rfl ?_
  refine ald_1_0 6 rfl dX3_townOfWord_5 rfl ?_
  refine dgf_X3_24 9 rfl dX3_townOfWord_6 rfl ?_
  refine dgf_X3_57 12 rfl dX3_townOfWord_9 rfl rfl ?_
  obtain ⟨r1, h1, h⟩ := bp_some h
  refine cvi_2 15 cw_X3_150 (S_X3_placeOfName_r31 h1) rfl ⟨by decide, by decide⟩ rfl rfl rfl rfl rfl (Nat.le_of_ble_eq_true rfl) dX3_townOfWord_12 rfl ?_
  exact dr_ip hF rfl dX3_townOfWord_15 h
/-- StampTales$Reader.passWord -/
theorem S_X3_passWord {G : Cx} {μ : Mi} {x1 : Nat} (hq1 : x1 < 14) {r : Int} {mm : Mi} (h : D_X3_passWord x1 μ = some (r, mm)) : Spec yd_X3_passWord G [rf G 3 false, sf G x1] (Em μ) (some (iv r)) (Em mm) := by
  refine Spec.of (by decide) rfl (catL_ok rfl) (Nat.le_of_ble_eq_true rfl) rfl (fun b hF => ?_)
  unfold D_X3_passWord at h
  refine ald_2_0 1 rfl dX3_passWord_0 rfl ?_
  refine ald_2_1 2 rfl dX3_passWord_1 rfl ?_
  obtain ⟨r1, h1, h⟩ := bp_some h
  refine cvi_1 5 cw_X3_62 (S_X3_isWord (by first | assumption | decide) h1) rfl ⟨by decide, by decide⟩ rfl rfl rfl rfl rfl (Nat.le_of_ble_eq_true rfl) dX3_passWord_2 rfl ?_
  refine dt_if_ne 8 10 dX3_passWord_5 rfl (by decide) rfl (fun c => ?_) (fun c => ?_)
  · replace h := ifp c h
    refine ald_2_0 11 rfl dX3_passWord_10 rfl ?_
    obtain ⟨m2, h2, h⟩ := bm_some h
    refine cvv_0 14 cw_X3_44 (S_X3_next h2) rfl ⟨by decide, by decide⟩ rfl rfl rfl rfl rfl (Nat.le_of_ble_eq_true rfl) dX3_passWord_11 rfl ?_
    refine dt_iconst 15 dX3_passWord_14 rfl ?_
    exact dr_z hF rfl isB_1 dX3_passWord_15 h
  · replace h := ifn c h
    refine dt_iconst 9 dX3_passWord_8 rfl ?_
    exact dr_z hF rfl isB_0 dX3_passWord_9 h
/-- StampTales$Reader.isNumber -/
theorem S_X3_isNumber {G : Cx} {μ : Mi} (x1 : Int) (x2 : Int) : Spec yd_X3_isNumber G [rf G 3 false, iv x1, iv x2] (Em μ) (some (iv (D_X3_isNumber x1 x2 μ))) (Em μ) := by
  generalize h : D_X3_isNumber x1 x2 μ = r
  refine Spec.of (by decide) rfl (catL_ok rfl) (Nat.le_of_ble_eq_true rfl) rfl (fun b hF => ?_)
  unfold D_X3_isNumber at h
  refine ald_3_0 1 rfl dX3_isNumber_0 rfl ?_
  refine dgf_X3_47 4 rfl dX3_isNumber_1 rfl rfl ?_
  refine dt_iconst 5 dX3_isNumber_4 rfl ?_
  refine dt_icmp_ne 8 28 dX3_isNumber_5 rfl (by decide) rfl wk_2 (fun c => ?_) (fun c => ?_)
  · replace h := ifp c h
    refine dt_iconst 29 dX3_isNumber_28 rfl ?_
    exact dr_zt hF rfl isB_0 dX3_isNumber_29 h
  · replace h := ifn c h
    refine ald_3_0 9 rfl dX3_isNumber_8 rfl ?_
    refine dgf_X3_116 12 rfl dX3_isNumber_9 rfl rfl ?_
    refine dild_3_1 13 dX3_isNumber_12 rfl ?_
    refine dt_icmp_lt 16 28 dX3_isNumber_13 rfl (by decide) rfl rfl (fun c => ?_) (fun c => ?_)
    · replace h := ifp c h
      refine dt_iconst 29 dX3_isNumber_28 rfl ?_
      exact dr_zt hF rfl isB_0 dX3_isNumber_29 h
    · replace h := ifn c h
      refine ald_3_0 17 rfl dX3_isNumber_16 rfl ?_
      refine dgf_X3_116 20 rfl dX3_isNumber_17 rfl rfl ?_
      refine dild_3_2 21 dX3_isNumber_20 rfl ?_
      refine dt_icmp_gt 24 28 dX3_isNumber_21 rfl (by decide) rfl rfl (fun c => ?_) (fun c => ?_)
      · replace h := ifp c h
        refine dt_iconst 29 dX3_isNumber_28 rfl ?_
        exact dr_zt hF rfl isB_0 dX3_isNumber_29 h
      · replace h := ifn c h
        refine dt_iconst 25 dX3_isNumber_24 rfl ?_
        refine st_goto 29 dX3_isNumber_25 (by decide) ?_
        exact dr_zt hF rfl isB_1 dX3_isNumber_29 h
/-- StampTales$Reader.readLink -/
theorem A_X3_readLink_75 {G : Cx} {b : Ab} {r : Int} {mm : Mi} (hF : Fi yd_X3_readLink G b (some (iv r)) (Em mm)) (x1 : Int) (x2 : Int) (x3 : Int) (s0 : Int) (s1 : Int) (μ : Mi) (h : B_X3_readLink_75 x1 x2 x3 s0 s1 μ = some (r, mm)) : At yd_X3_readLink G b 75 [some (rf G 3 false), some (iv x1), some (iv x2), some (iv x3), none, none, none] [iv s0, iv s1, rf G 3 false] (Em μ) := by
  unfold B_X3_readLink_75 at h
  refine cvi_2 78 cw_X3_112 (S_X3_isNumber s1 s0) rfl ⟨by decide, by decide⟩ rfl rfl rfl rfl rfl (Nat.le_of_ble_eq_true rfl) dX3_readLink_75 rfl ?_
  refine dt_if_ne 81 83 dX3_readLink_78 rfl (by decide) rfl (fun c => ?_) (fun c => ?_)
  · replace h := ifp c h
    refine ald_7_0 84 rfl dX3_readLink_83 rfl ?_
    refine dgf_X3_116 87 rfl dX3_readLink_84 rfl rfl ?_
    refine dist_7_4 89 dX3_readLink_87 rfl rfl rfl ?_
    refine ald_7_0 90 rfl dX3_readLink_89 rfl ?_
    obtain ⟨m2, h2, h⟩ := bm_some h
    refine cvv_0 93 cw_X3_44 (S_X3_next h2) rfl ⟨by decide, by decide⟩ rfl rfl rfl rfl rfl (Nat.le_of_ble_eq_true rfl) dX3_readLink_90 rfl ?_
    refine ald_7_0 94 rfl dX3_readLink_93 rfl ?_
    refine st_ldcS 96 rfl sw_X3_131 dX3_readLink_94 rfl ?_
    obtain ⟨r3, m3, h3, h⟩ := bd_some h
    refine cvi_1 99 cw_X3_102 (S_X3_passWord (by first | assumption | decide) h3) rfl ⟨by decide, by decide⟩ rfl rfl rfl rfl rfl (Nat.le_of_ble_eq_true rfl) dX3_readLink_96 rfl ?_
    refine dt_if_eq 102 112 dX3_readLink_99 rfl (by decide) rfl (fun c => ?_) (fun c => ?_)
    · replace h := ifp c h
      refine dt_iconst 113 dX3_readLink_112 rfl ?_
      exact dr_z hF rfl isB_0 dX3_readLink_113 h
    · replace h := ifn c h
      refine ald_7_0 103 rfl dX3_readLink_102 rfl ?_
      refine dt_iconst 104 dX3_readLink_103 rfl ?_
      refine dt_bipush 106 dX3_readLink_104 bq_48 rfl ?_
      refine cvi_2 109 cw_X3_112 (S_X3_isNumber 1 48) rfl ⟨by decide, by decide⟩ rfl rfl rfl rfl rfl (Nat.le_of_ble_eq_true rfl) dX3_readLink_106 rfl ?_
      refine dt_if_ne 112 114 dX3_readLink_109 rfl (by decide) rfl (fun c => ?_) (fun c => ?_)
      · replace h := ifp c h
        refine ald_7_0 115 rfl dX3_readLink_114 rfl ?_
        refine dgf_X3_116 118 rfl dX3_readLink_115 rfl rfl ?_
        refine dist_7_5 120 dX3_readLink_118 rfl rfl rfl ?_
        refine ald_7_0 121 rfl dX3_readLink_120 rfl ?_
        obtain ⟨m5, h5, h⟩ := bm_some h
        refine cvv_0 124 cw_X3_44 (S_X3_next h5) rfl ⟨by decide, by decide⟩ rfl rfl rfl rfl rfl (Nat.le_of_ble_eq_true rfl) dX3_readLink_121 rfl ?_
        refine ald_7_0 125 rfl dX3_readLink_124 rfl ?_
        refine st_ldcS 127 rfl sw_X3_133 dX3_readLink_125 rfl ?_
        obtain ⟨r6, m6, h6, h⟩ := bd_some h
        refine cvi_1 130 cw_X3_102 (S_X3_passWord (by first | assumption | decide) h6) rfl ⟨by decide, by decide⟩ rfl rfl rfl rfl rfl (Nat.le_of_ble_eq_true rfl) dX3_readLink_127 rfl ?_
        refine dt_if_eq 133 143 dX3_readLink_130 rfl (by decide) rfl (fun c => ?_) (fun c => ?_)
        · replace h := ifp c h
          refine dt_iconst 144 dX3_readLink_143 rfl ?_
          exact dr_z hF rfl isB_0 dX3_readLink_144 h
        · replace h := ifn c h
          refine ald_7_0 134 rfl dX3_readLink_133 rfl ?_
          refine dt_iconst 135 dX3_readLink_134 rfl ?_
          refine dt_bipush 137 dX3_readLink_135 bq_99 rfl ?_
          refine cvi_2 140 cw_X3_112 (S_X3_isNumber 0 99) rfl ⟨by decide, by decide⟩ rfl rfl rfl rfl rfl (Nat.le_of_ble_eq_true rfl) dX3_readLink_137 rfl ?_
          refine dt_if_ne 143 145 dX3_readLink_140 rfl (by decide) rfl (fun c => ?_) (fun c => ?_)
          · replace h := ifp c h
            refine ald_7_0 146 rfl dX3_readLink_145 rfl ?_
            refine dgf_X3_116 149 rfl dX3_readLink_146 rfl rfl ?_
            refine dist_7_6 151 dX3_readLink_149 rfl rfl rfl ?_
            refine ald_7_0 152 rfl dX3_readLink_151 rfl ?_
            obtain ⟨m8, h8, h⟩ := bm_some h
            refine cvv_0 155 cw_X3_44 (S_X3_next h8) rfl ⟨by decide, by decide⟩ rfl rfl rfl rfl rfl (Nat.le_of_ble_eq_true rfl) dX3_readLink_152 rfl ?_
            refine ald_7_0 156 rfl dX3_readLink_155 rfl ?_
            refine dgf_X3_47 159 rfl dX3_readLink_156 rfl rfl ?_
            refine dt_iconst 160 dX3_readLink_159 rfl ?_
            refine dt_icmp_eq 163 165 dX3_readLink_160 rfl (by decide) rfl wk_3 (fun c => ?_) (fun c => ?_)
            · replace h := ifp c h
              refine ald_7_0 166 rfl dX3_readLink_165 rfl ?_
              obtain ⟨m9, h9, h⟩ := bm_some h
              refine cvv_0 169 cw_X3_44 (S_X3_next h9) rfl ⟨by decide, by decide⟩ rfl rfl rfl rfl rfl (Nat.le_of_ble_eq_true rfl) dX3_readLink_166 rfl ?_
              refine ald_7_0 170 rfl dX3_readLink_169 rfl ?_
              refine dgf_X3_24 173 rfl dX3_readLink_170 rfl ?_
              refine dild_7_2 174 dX3_readLink_173 rfl ?_
              refine dild_7_3 175 dX3_readLink_174 rfl ?_
              refine dild_7_1 176 dX3_readLink_175 rfl ?_
              refine dild_7_4 178 dX3_readLink_176 rfl ?_
              refine dild_7_5 180 dX3_readLink_178 rfl ?_
              refine dild_7_6 182 dX3_readLink_180 rfl ?_
              obtain ⟨m10, h10, h⟩ := bm_some h
              refine cvv_6 185 cw_X3_135 (S_X0_addLink h10) rfl ⟨by decide, by decide⟩ rfl rfl rfl rfl rfl (Nat.le_of_ble_eq_true rfl) dX3_readLink_182 rfl ?_
              refine dt_iconst 186 dX3_readLink_185 rfl ?_
              exact dr_z hF rfl isB_1 dX3_readLink_186 h
            · replace h := ifn c h
              refine dt_iconst 164 dX3_readLink_163 rfl ?_
              exact dr_z hF rfl isB_0 dX3_readLink_164 h
          · replace h := ifn c h
            refine dt_iconst 144 dX3_readLink_143 rfl ?_
            exact dr_z hF rfl isB_0 dX3_readLink_144 h
      · replace h := ifn c h
        refine dt_iconst 113 dX3_readLink_112 rfl ?_
        exact dr_z hF rfl isB_0 dX3_readLink_113 h
  · replace h := ifn c h
    refine dt_iconst 82 dX3_readLink_81 rfl ?_
    exact dr_z hF rfl isB_0 dX3_readLink_82 h
theorem S_X3_readLink {G : Cx} {μ : Mi} {x1 : Int} {r : Int} {mm : Mi} (h : D_X3_readLink x1 μ = some (r, mm)) : Spec yd_X3_readLink G [rf G 3 false, iv x1] (Em μ) (some (iv r)) (Em mm) := by
  refine Spec.of (by decide) rfl (catL_ok rfl) (Nat.le_of_ble_eq_true rfl) rfl (fun b hF => ?_)
  unfold D_X3_readLink at h
  refine ald_7_0 1 rfl dX3_readLink_0 rfl ?_
  refine dgf_X3_24 4 rfl dX3_readLink_1 rfl ?_
  refine dgf_X3_123 7 rfl dX3_readLink_4 rfl rfl ?_
  refine dt_bipush 9 dX3_readLink_7 bq_16 rfl ?_
  refine dt_icmp_lt 12 14 dX3_readLink_9 rfl (by decide) rfl wk_16 (fun c => ?_) (fun c => ?_)
  · replace h := ifp c h
    refine ald_7_0 15 rfl dX3_readLink_14 rfl ?_
    obtain ⟨m1, h1, h⟩ := bm_some h
    refine cvv_0 18 cw_X3_44 (S_X3_next h1) rfl ⟨by decide, by decide⟩ rfl rfl rfl rfl rfl (Nat.le_of_ble_eq_true rfl) dX3_readLink_15 rfl ?_
    refine ald_7_0 19 rfl dX3_readLink_18 rfl ?_
    obtain ⟨r2, h2, h⟩ := bp_some h
    refine cvi_0 22 cw_X3_126 (S_X3_townOfWord h2) rfl ⟨by decide, by decide⟩ rfl rfl rfl rfl rfl (Nat.le_of_ble_eq_true rfl) dX3_readLink_19 rfl ?_
    refine dist_7_2 23 dX3_readLink_22 rfl rfl rfl ?_
    refine dild_7_2 24 dX3_readLink_23 rfl ?_
    refine dt_if_ge 27 29 dX3_readLink_24 rfl (by decide) rfl (fun c => ?_) (fun c => ?_)
    · replace h := ifp c h
      refine ald_7_0 30 rfl dX3_readLink_29 rfl ?_
      obtain ⟨m3, h3, h⟩ := bm_some h
      refine cvv_0 33 cw_X3_44 (S_X3_next h3) rfl ⟨by decide, by decide⟩ rfl rfl rfl rfl rfl (Nat.le_of_ble_eq_true rfl) dX3_readLink_30 rfl ?_
      refine ald_7_0 34 rfl dX3_readLink_33 rfl ?_
      obtain ⟨r4, h4, h⟩ := bp_some h
      refine cvi_0 37 cw_X3_126 (S_X3_townOfWord h4) rfl ⟨by decide, by decide⟩ rfl rfl rfl rfl rfl (Nat.le_of_ble_eq_true rfl) dX3_readLink_34 rfl ?_
      refine dist_7_3 38 dX3_readLink_37 rfl rfl rfl ?_
      refine dild_7_3 39 dX3_readLink_38 rfl ?_
      refine dt_if_lt 42 47 dX3_readLink_39 rfl (by decide) rfl (fun c => ?_) (fun c => ?_)
      · replace h := ifp c h
        refine dt_iconst 48 dX3_readLink_47 rfl ?_
        exact dr_z hF rfl isB_0 dX3_readLink_48 h
      · replace h := ifn c h
        refine dild_7_3 43 dX3_readLink_42 rfl ?_
        refine dild_7_2 44 dX3_readLink_43 rfl ?_
        refine dt_icmp_ne 47 49 dX3_readLink_44 rfl (by decide) rfl rfl (fun c => ?_) (fun c => ?_)
        · replace h := ifp c h
          refine ald_7_0 50 rfl dX3_readLink_49 rfl ?_
          obtain ⟨m5, h5, h⟩ := bm_some h
          refine cvv_0 53 cw_X3_44 (S_X3_next h5) rfl ⟨by decide, by decide⟩ rfl rfl rfl rfl rfl (Nat.le_of_ble_eq_true rfl) dX3_readLink_50 rfl ?_
          refine ald_7_0 54 rfl dX3_readLink_53 rfl ?_
          refine st_ldcS 56 rfl sw_X3_129 dX3_readLink_54 rfl ?_
          obtain ⟨r6, m6, h6, h⟩ := bd_some h
          refine cvi_1 59 cw_X3_102 (S_X3_passWord (by first | assumption | decide) h6) rfl ⟨by decide, by decide⟩ rfl rfl rfl rfl rfl (Nat.le_of_ble_eq_true rfl) dX3_readLink_56 rfl ?_
          refine dt_if_eq 62 81 dX3_readLink_59 rfl (by decide) rfl (fun c => ?_) (fun c => ?_)
          · replace h := ifp c h
            refine dt_iconst 82 dX3_readLink_81 rfl ?_
            exact dr_z hF rfl isB_0 dX3_readLink_82 h
          · replace h := ifn c h
            refine ald_7_0 63 rfl dX3_readLink_62 rfl ?_
            refine dt_iconst 64 dX3_readLink_63 rfl ?_
            refine dild_7_1 65 dX3_readLink_64 rfl ?_
            refine dt_if_eq 68 73 dX3_readLink_65 rfl (by decide) rfl (fun c => ?_) (fun c => ?_)
            · replace h := ifp c h
              refine dt_bipush 75 dX3_readLink_73 bq_95 rfl ?_
              exact A_X3_readLink_75 hF _ _ _ _ _ _ h
            · replace h := ifn c h
              refine dt_bipush 70 dX3_readLink_68 bq_23 rfl ?_
              refine st_goto 75 dX3_readLink_70 (by decide) ?_
              exact A_X3_readLink_75 hF _ _ _ _ _ _ h
        · replace h := ifn c h
          refine dt_iconst 48 dX3_readLink_47 rfl ?_
          exact dr_z hF rfl isB_0 dX3_readLink_48 h
    · replace h := ifn c h
      refine dt_iconst 28 dX3_readLink_27 rfl ?_
      exact dr_z hF rfl isB_0 dX3_readLink_28 h
  · replace h := ifn c h
    refine dt_iconst 13 dX3_readLink_12 rfl ?_
    exact dr_z hF rfl isB_0 dX3_readLink_13 h
/-- StampTales$Reader.isKept -/
theorem S_X3_isKept {G : Cx} {μ : Mi} {r : Int} (h : D_X3_isKept μ = some r) : Spec yd_X3_isKept G [rf G 3 false] (Em μ) (some (iv r)) (Em μ) := by
  refine Spec.of (by decide) rfl (catL_ok rfl) (Nat.le_of_ble_eq_true rfl) rfl (fun b hF => ?_)
  unfold D_X3_isKept at h
  refine ald_1_0 1 rfl dX3_isKept_0 rfl ?_
  refine st_ldcS 3 rfl sw_X3_60 dX3_isKept_1 rfl ?_
  obtain ⟨r1, h1, h⟩ := bp_some h
  refine cvi_1 6 cw_X3_62 (S_X3_isWord (by first | assumption | decide) h1) rfl ⟨by decide, by decide⟩ rfl rfl rfl rfl rfl (Nat.le_of_ble_eq_true rfl) dX3_isKept_3 rfl ?_
  refine dt_if_ne 9 126 dX3_isKept_6 rfl (by decide) rfl (fun c => ?_) (fun c => ?_)
  · replace h := ifp c h
    refine dt_iconst 127 dX3_isKept_126 rfl ?_
    refine st_goto 131 dX3_isKept_127 (by decide) ?_
    exact dr_zp hF rfl isB_1 dX3_isKept_131 h
  · replace h := ifn c h
    refine ald_1_0 10 rfl dX3_isKept_9 rfl ?_
    refine st_ldcS 12 rfl sw_X3_139 dX3_isKept_10 rfl ?_
    obtain ⟨r2, h2, h⟩ := bp_some h
    refine cvi_1 15 cw_X3_62 (S_X3_isWord (by first | assumption | decide) h2) rfl ⟨by decide, by decide⟩ rfl rfl rfl rfl rfl (Nat.le_of_ble_eq_true rfl) dX3_isKept_12 rfl ?_
    refine dt_if_ne 18 126 dX3_isKept_15 rfl (by decide) rfl (fun c => ?_) (fun c => ?_)
    · replace h := ifp c h
      refine dt_iconst 127 dX3_isKept_126 rfl ?_
      refine st_goto 131 dX3_isKept_127 (by decide) ?_
      exact dr_zp hF rfl isB_1 dX3_isKept_131 h
    · replace h := ifn c h
      refine ald_1_0 19 rfl dX3_isKept_18 rfl ?_
      refine st_ldcS 21 rfl sw_X3_141 dX3_isKept_19 rfl ?_
      obtain ⟨r3, h3, h⟩ := bp_some h
      refine cvi_1 24 cw_X3_62 (S_X3_isWord (by first | assumption | decide) h3) rfl ⟨by decide, by decide⟩ rfl rfl rfl rfl rfl (Nat.le_of_ble_eq_true rfl) dX3_isKept_21 rfl ?_
      refine dt_if_ne 27 126 dX3_isKept_24 rfl (by decide) rfl (fun c => ?_) (fun c => ?_)
      · replace h := ifp c h
        refine dt_iconst 127 dX3_isKept_126 rfl ?_
        refine st_goto 131 dX3_isKept_127 (by decide) ?_
        exact dr_zp hF rfl isB_1 dX3_isKept_131 h
      · replace h := ifn c h
        refine ald_1_0 28 rfl dX3_isKept_27 rfl ?_
        refine st_ldcS 30 rfl sw_X3_143 dX3_isKept_28 rfl ?_
        obtain ⟨r4, h4, h⟩ := bp_some h
        refine cvi_1 33 cw_X3_62 (S_X3_isWord (by first | assumption | decide) h4) rfl ⟨by decide, by decide⟩ rfl rfl rfl rfl rfl (Nat.le_of_ble_eq_true rfl) dX3_isKept_30 rfl ?_
        refine dt_if_ne 36 126 dX3_isKept_33 rfl (by decide) rfl (fun c => ?_) (fun c => ?_)
        · replace h := ifp c h
          refine dt_iconst 127 dX3_isKept_126 rfl ?_
          refine st_goto 131 dX3_isKept_127 (by decide) ?_
          exact dr_zp hF rfl isB_1 dX3_isKept_131 h
        · replace h := ifn c h
          refine ald_1_0 37 rfl dX3_isKept_36 rfl ?_
          refine st_ldcS 39 rfl sw_X3_145 dX3_isKept_37 rfl ?_
          obtain ⟨r5, h5, h⟩ := bp_some h
          refine cvi_1 42 cw_X3_62 (S_X3_isWord (by first | assumption | decide) h5) rfl ⟨by decide, by decide⟩ rfl rfl rfl rfl rfl (Nat.le_of_ble_eq_true rfl) dX3_isKept_39 rfl ?_
          refine dt_if_ne 45 126 dX3_isKept_42 rfl (by decide) rfl (fun c => ?_) (fun c => ?_)
          · replace h := ifp c h
            refine dt_iconst 127 dX3_isKept_126 rfl ?_
            refine st_goto 131 dX3_isKept_127 (by decide) ?_
            exact dr_zp hF rfl isB_1 dX3_isKept_131 h
          · replace h := ifn c h
            refine ald_1_0 46 rfl dX3_isKept_45 rfl ?_
            refine st_ldcS 48 rfl sw_X3_69 dX3_isKept_46 rfl ?_
            obtain ⟨r6, h6, h⟩ := bp_some h
            refine cvi_1 51 cw_X3_62 (S_X3_isWord (by first | assumption | decide) h6) rfl ⟨by decide, by decide⟩ rfl rfl rfl rfl rfl (Nat.le_of_ble_eq_true rfl) dX3_isKept_48 rfl ?_
            refine dt_if_ne 54 126 dX3_isKept_51 rfl (by decide) rfl (fun c => ?_) (fun c => ?_)
            · replace h := ifp c h
              refine dt_iconst 127 dX3_isKept_126 rfl ?_
              refine st_goto 131 dX3_isKept_127 (by decide) ?_
              exact dr_zp hF rfl isB_1 dX3_isKept_131 h
            · replace h := ifn c h
              refine ald_1_0 55 rfl dX3_isKept_54 rfl ?_
              refine st_ldcS 57 rfl sw_X3_100 dX3_isKept_55 rfl ?_
              obtain ⟨r7, h7, h⟩ := bp_some h
              refine cvi_1 60 cw_X3_62 (S_X3_isWord (by first | assumption | decide) h7) rfl ⟨by decide, by decide⟩ rfl rfl rfl rfl rfl (Nat.le_of_ble_eq_true rfl) dX3_isKept_57 rfl ?_
              refine dt_if_ne 63 126 dX3_isKept_60 rfl (by decide) rfl (fun c => ?_) (fun c => ?_)
              · replace h := ifp c h
                refine dt_iconst 127 dX3_isKept_126 rfl ?_
                refine st_goto 131 dX3_isKept_127 (by decide) ?_
                exact dr_zp hF rfl isB_1 dX3_isKept_131 h
              · replace h := ifn c h
                refine ald_1_0 64 rfl dX3_isKept_63 rfl ?_
                refine st_ldcS 66 rfl sw_X3_108 dX3_isKept_64 rfl ?_
                obtain ⟨r8, h8, h⟩ := bp_some h
                refine cvi_1 69 cw_X3_62 (S_X3_isWord (by first | assumption | decide) h8) rfl ⟨by decide, by decide⟩ rfl rfl rfl rfl rfl (Nat.le_of_ble_eq_true rfl) dX3_isKept_66 rfl ?_
                refine dt_if_ne 72 126 dX3_isKept_69 rfl (by decide) rfl (fun c => ?_) (fun c => ?_)
                · replace h := ifp c h
                  refine dt_iconst 127 dX3_isKept_126 rfl ?_
                  refine st_goto 131 dX3_isKept_127 (by decide) ?_
                  exact dr_zp hF rfl isB_1 dX3_isKept_131 h
                · replace h := ifn c h
                  refine ald_1_0 73 rfl dX3_isKept_72 rfl ?_
                  refine st_ldcS 75 rfl sw_X3_110 dX3_isKept_73 rfl ?_
                  obtain ⟨r9, h9, h⟩ := bp_some h
                  refine cvi_1 78 cw_X3_62 (S_X3_isWord (by first | assumption | decide) h9) rfl ⟨by decide, by decide⟩ rfl rfl rfl rfl rfl (Nat.le_of_ble_eq_true rfl) dX3_isKept_75 rfl ?_
                  refine dt_if_ne 81 126 dX3_isKept_78 rfl (by decide) rfl (fun c => ?_) (fun c => ?_)
                  · replace h := ifp c h
                    refine dt_iconst 127 dX3_isKept_126 rfl ?_
                    refine st_goto 131 dX3_isKept_127 (by decide) ?_
                    exact dr_zp hF rfl isB_1 dX3_isKept_131 h
                  · replace h := ifn c h
                    refine ald_1_0 82 rfl dX3_isKept_81 rfl ?_
                    refine st_ldcS 84 rfl sw_X3_74 dX3_isKept_82 rfl ?_
                    obtain ⟨r10, h10, h⟩ := bp_some h
                    refine cvi_1 87 cw_X3_62 (S_X3_isWord (by first | assumption | decide) h10) rfl ⟨by decide, by decide⟩ rfl rfl rfl rfl rfl (Nat.le_of_ble_eq_true rfl) dX3_isKept_84 rfl ?_
                    refine dt_if_ne 90 126 dX3_isKept_87 rfl (by decide) rfl (fun c => ?_) (fun c => ?_)
                    · replace h := ifp c h
                      refine dt_iconst 127 dX3_isKept_126 rfl ?_
                      refine st_goto 131 dX3_isKept_127 (by decide) ?_
                      exact dr_zp hF rfl isB_1 dX3_isKept_131 h
                    · replace h := ifn c h
                      refine ald_1_0 91 rfl dX3_isKept_90 rfl ?_
                      refine st_ldcS 93 rfl sw_X3_80 dX3_isKept_91 rfl ?_
                      obtain ⟨r11, h11, h⟩ := bp_some h
                      refine cvi_1 96 cw_X3_62 (S_X3_isWord (by first | assumption | decide) h11) rfl ⟨by decide, by decide⟩ rfl rfl rfl rfl rfl (Nat.le_of_ble_eq_true rfl) dX3_isKept_93 rfl ?_
                      refine dt_if_ne 99 126 dX3_isKept_96 rfl (by decide) rfl (fun c => ?_) (fun c => ?_)
                      · replace h := ifp c h
                        refine dt_iconst 127 dX3_isKept_126 rfl ?_
                        refine st_goto 131 dX3_isKept_127 (by decide) ?_
                        exact dr_zp hF rfl isB_1 dX3_isKept_131 h
                      · replace h := ifn c h
                        refine ald_1_0 100 rfl dX3_isKept_99 rfl ?_
                        refine st_ldcS 102 rfl sw_X3_129 dX3_isKept_100 rfl ?_
                        obtain ⟨r12, h12, h⟩ := bp_some h
                        refine cvi_1 105 cw_X3_62 (S_X3_isWord (by first | assumption | decide) h12) rfl ⟨by decide, by decide⟩ rfl rfl rfl rfl rfl (Nat.le_of_ble_eq_true rfl) dX3_isKept_102 rfl ?_
                        refine dt_if_ne 108 126 dX3_isKept_105 rfl (by decide) rfl (fun c => ?_) (fun c => ?_)
                        · replace h := ifp c h
                          refine dt_iconst 127 dX3_isKept_126 rfl ?_
                          refine st_goto 131 dX3_isKept_127 (by decide) ?_
                          exact dr_zp hF rfl isB_1 dX3_isKept_131 h
                        · replace h := ifn c h
                          refine ald_1_0 109 rfl dX3_isKept_108 rfl ?_
                          refine st_ldcS 111 rfl sw_X3_131 dX3_isKept_109 rfl ?_
                          obtain ⟨r13, h13, h⟩ := bp_some h
                          refine cvi_1 114 cw_X3_62 (S_X3_isWord (by first | assumption | decide) h13) rfl ⟨by decide, by decide⟩ rfl rfl rfl rfl rfl (Nat.le_of_ble_eq_true rfl) dX3_isKept_111 rfl ?_
                          refine dt_if_ne 117 126 dX3_isKept_114 rfl (by decide) rfl (fun c => ?_) (fun c => ?_)
                          · replace h := ifp c h
                            refine dt_iconst 127 dX3_isKept_126 rfl ?_
                            refine st_goto 131 dX3_isKept_127 (by decide) ?_
                            exact dr_zp hF rfl isB_1 dX3_isKept_131 h
                          · replace h := ifn c h
                            refine ald_1_0 118 rfl dX3_isKept_117 rfl ?_
                            refine st_ldcS 120 rfl sw_X3_133 dX3_isKept_118 rfl ?_
                            obtain ⟨r14, h14, h⟩ := bp_some h
                            refine cvi_1 123 cw_X3_62 (S_X3_isWord (by first | assumption | decide) h14) rfl ⟨by decide, by decide⟩ rfl rfl rfl rfl rfl (Nat.le_of_ble_eq_true rfl) dX3_isKept_120 rfl ?_
                            refine dt_if_eq 126 130 dX3_isKept_123 rfl (by decide) rfl (fun c => ?_) (fun c => ?_)
                            · replace h := ifp c h
                              refine dt_iconst 131 dX3_isKept_130 rfl ?_
                              exact dr_zp hF rfl isB_0 dX3_isKept_131 h
                            · replace h := ifn c h
                              refine dt_iconst 127 dX3_isKept_126 rfl ?_
                              refine st_goto 131 dX3_isKept_127 (by decide) ?_
                              exact dr_zp hF rfl isB_1 dX3_isKept_131 h
/-- StampTales$Reader.placeOfName -/
theorem A_X3_placeOfName_r30_48 {G : Cx} {b : Ab} {μ : Mi} {r : Int} {k2 : (Int → Int → Mi → Option Int)} (hF : Fi yd_X3_placeOfName G b (some (iv r)) (Em μ)) (hk2 : ∀ (x2 : Int) (x3 : Int), k2 x2 x3 μ = some r → At yd_X3_placeOfName G b 2 [some (rf G 3 false), some (rf G 30 false), some (iv x2), some (iv x3)] [] (Em μ)) (x2 : Int) (x3 : Int) (h : B_X3_placeOfName_r30_48 k2 x2 x3 μ = some r) : At yd_X3_placeOfName G b 48 [some (rf G 3 false), some (rf G 30 false), some (iv x2), some (iv x3)] [] (Em μ) := by
  unfold B_X3_placeOfName_r30_48 at h
  refine dinc_4_3 51 dX3_placeOfName_48 rfl rfl rfl ?_
  refine st_goto 2 dX3_placeOfName_51 (by decide) ?_
  exact hk2 _ _ h
theorem A_X3_placeOfName_r30_2 {G : Cx} {b : Ab} {μ : Mi} {r : Int} (hF : Fi yd_X3_placeOfName G b (some (iv r)) (Em μ)) : ∀ (n : Nat) (x2 : Int) (x3 : Int), B_X3_placeOfName_r30_2 n x2 x3 μ = some r → At yd_X3_placeOfName G b 2 [some (rf G 3 false), some (rf G 30 false), some (iv x2), some (iv x3)] [] (Em μ) := by
  intro n
  induction n with
  | zero =>
    intro x2 x3 h
    exact nope h
  | succ n hk2 =>
    intro x2 x3 h
    replace h : F_X3_placeOfName_r30_2 (B_X3_placeOfName_r30_2 n) x2 x3 μ = some r := h
    unfold F_X3_placeOfName_r30_2 at h
    refine dild_4_3 3 dX3_placeOfName_2 rfl ?_
    refine dild_4_2 4 dX3_placeOfName_3 rfl ?_
    refine dt_icmp_ge 7 54 dX3_placeOfName_4 rfl (by decide) rfl rfl (fun c => ?_) (fun c => ?_)
    · replace h := ifp c h
      refine dt_iconst 55 dX3_placeOfName_54 rfl ?_
      exact dr_ip hF rfl dX3_placeOfName_55 h
    · replace h := ifn c h
      refine dild_4_3 8 dX3_placeOfName_7 rfl ?_
      refine ald_4_1 9 rfl dX3_placeOfName_8 rfl ?_
      refine st_alen (v := Int32.ofInt 4) 10 (by decide) (by decide) rfl (by decide) dX3_placeOfName_9 rfl ?_
      refine dt_icmp_ge 13 54 dX3_placeOfName_10 rfl (by decide) rfl wk_4 (fun c => ?_) (fun c => ?_)
      · replace h := ifp c h
        refine dt_iconst 55 dX3_placeOfName_54 rfl ?_
        exact dr_ip hF rfl dX3_placeOfName_55 h
      · replace h := ifn c h
        refine ald_4_0 14 rfl dX3_placeOfName_13 rfl ?_
        refine dgf_X3_47 17 rfl dX3_placeOfName_14 rfl rfl ?_
        refine dt_iconst 18 dX3_placeOfName_17 rfl ?_
        refine dt_icmp_ne 21 48 dX3_placeOfName_18 rfl (by decide) rfl wk_1 (fun c => ?_) (fun c => ?_)
        · replace h := ifp c h
          exact A_X3_placeOfName_r30_48 hF hk2 _ _ h
        · replace h := ifn c h
          refine ald_4_0 22 rfl dX3_placeOfName_21 rfl ?_
          refine dgf_X3_38 25 rfl dX3_placeOfName_22 rfl rfl ?_
          refine ald_4_0 26 rfl dX3_placeOfName_25 rfl ?_
          refine dgf_X3_54 29 rfl dX3_placeOfName_26 rfl rfl ?_
          refine dt_isub 30 dX3_placeOfName_29 rfl ?_
          refine dt_bipush 32 dX3_placeOfName_30 bq_8 rfl ?_
          refine dt_icmp_gt 35 48 dX3_placeOfName_32 rfl (by decide) rfl wk_8 (fun c => ?_) (fun c => ?_)
          · replace h := ifp c h
            exact A_X3_placeOfName_r30_48 hF hk2 _ _ h
          · replace h := ifn c h
            refine ald_4_1 36 rfl dX3_placeOfName_35 rfl ?_
            refine dild_4_3 37 dX3_placeOfName_36 rfl ?_
            obtain ⟨hi, h⟩ := ift h
            refine dlald 38 rfl rfl rfl hi rfl rfl dX3_placeOfName_37 rfl ?_
            refine ald_4_0 39 rfl dX3_placeOfName_38 rfl ?_
            refine dgf_X3_88 42 rfl dX3_placeOfName_39 rfl rfl ?_
            refine dt_lcmp 43 dX3_placeOfName_42 rfl ?_
            refine dt_if_ne 46 48 dX3_placeOfName_43 rfl (by decide) rfl (fun c => ?_) (fun c => ?_)
            · replace h := ifp c h
              exact A_X3_placeOfName_r30_48 hF hk2 _ _ h
            · replace h := ifn c h
              refine dild_4_3 47 dX3_placeOfName_46 rfl ?_
              exact dr_ip hF rfl dX3_placeOfName_47 h
theorem S_X3_placeOfName_r30 {G : Cx} {μ : Mi} {x2 : Int} {r : Int} (h : D_X3_placeOfName_r30 x2 μ = some r) : Spec yd_X3_placeOfName G [rf G 3 false, rf G 30 false, iv x2] (Em μ) (some (iv r)) (Em μ) := by
  refine Spec.of (by decide) rfl (catL_ok rfl) (Nat.le_of_ble_eq_true rfl) rfl (fun b hF => ?_)
  unfold D_X3_placeOfName_r30 at h
  refine dt_iconst 1 dX3_placeOfName_0 rfl ?_
  refine dist_4_3 2 dX3_placeOfName_1 rfl rfl rfl ?_
  exact A_X3_placeOfName_r30_2 hF FU _ _ h
/-- StampTales$Reader.landOfWord -/
theorem S_X3_landOfWord {G : Cx} {μ : Mi} {r : Int} (h : D_X3_landOfWord μ = some r) : Spec yd_X3_landOfWord G [rf G 3 false] (Em μ) (some (iv r)) (Em μ) := by
  refine Spec.of (by decide) rfl (catL_ok rfl) (Nat.le_of_ble_eq_true rfl) rfl (fun b hF => ?_)
  unfold D_X3_landOfWord at h
  refine ald_1_0 1 rfl dX3_landOfWord_0 rfl ?_
  refine ald_1_0 2 rfl dX3_landOfWord_1 rfl ?_
  refine dgf_X3_11 5 rfl dX3_landOfWord_2 rfl ?_
  refine ald_1_0 6 rfl dX3_landOfWord_5 rfl ?_
  refine dgf_X3_24 9 rfl dX3_landOfWord_6 rfl ?_
  refine dgf_X3_82 12 rfl dX3_landOfWord_9 rfl rfl ?_
  obtain ⟨r1, h1, h⟩ := bp_some h
  refine cvi_2 15 cw_X3_150 (S_X3_placeOfName_r30 h1) rfl ⟨by decide, by decide⟩ rfl rfl rfl rfl rfl (Nat.le_of_ble_eq_true rfl) dX3_landOfWord_12 rfl ?_
  exact dr_ip hF rfl dX3_landOfWord_15 h
/-- StampTales$Reader.isNewName -/
theorem S_X3_isNewName {G : Cx} {μ : Mi} {r : Int} (h : D_X3_isNewName μ = some r) : Spec yd_X3_isNewName G [rf G 3 false] (Em μ) (some (iv r)) (Em μ) := by
  refine Spec.of (by decide) rfl (catL_ok rfl) (Nat.le_of_ble_eq_true rfl) rfl (fun b hF => ?_)
  unfold D_X3_isNewName at h
  refine ald_1_0 1 rfl dX3_isNewName_0 rfl ?_
  refine dgf_X3_47 4 rfl dX3_isNewName_1 rfl rfl ?_
  refine dt_iconst 5 dX3_isNewName_4 rfl ?_
  refine dt_icmp_ne 8 47 dX3_isNewName_5 rfl (by decide) rfl wk_1 (fun c => ?_) (fun c => ?_)
  · replace h := ifp c h
    refine dt_iconst 48 dX3_isNewName_47 rfl ?_
    exact dr_zp hF rfl isB_0 dX3_isNewName_48 h
  · replace h := ifn c h
    refine ald_1_0 9 rfl dX3_isNewName_8 rfl ?_
    refine dgf_X3_38 12 rfl dX3_isNewName_9 rfl rfl ?_
    refine ald_1_0 13 rfl dX3_isNewName_12 rfl ?_
    refine dgf_X3_54 16 rfl dX3_isNewName_13 rfl rfl ?_
    refine dt_isub 17 dX3_isNewName_16 rfl ?_
    refine dt_bipush 19 dX3_isNewName_17 bq_8 rfl ?_
    refine dt_icmp_gt 22 47 dX3_isNewName_19 rfl (by decide) rfl wk_8 (fun c => ?_) (fun c => ?_)
    · replace h := ifp c h
      refine dt_iconst 48 dX3_isNewName_47 rfl ?_
      exact dr_zp hF rfl isB_0 dX3_isNewName_48 h
    · replace h := ifn c h
      refine ald_1_0 23 rfl dX3_isNewName_22 rfl ?_
      obtain ⟨r1, h1, h⟩ := bp_some h
      refine cvi_0 26 cw_X3_147 (S_X3_isKept h1) rfl ⟨by decide, by decide⟩ rfl rfl rfl rfl rfl (Nat.le_of_ble_eq_true rfl) dX3_isNewName_23 rfl ?_
      refine dt_if_ne 29 47 dX3_isNewName_26 rfl (by decide) rfl (fun c => ?_) (fun c => ?_)
      · replace h := ifp c h
        refine dt_iconst 48 dX3_isNewName_47 rfl ?_
        exact dr_zp hF rfl isB_0 dX3_isNewName_48 h
      · replace h := ifn c h
        refine ald_1_0 30 rfl dX3_isNewName_29 rfl ?_
        obtain ⟨r2, h2, h⟩ := bp_some h
        refine cvi_0 33 cw_X3_105 (S_X3_landOfWord h2) rfl ⟨by decide, by decide⟩ rfl rfl rfl rfl rfl (Nat.le_of_ble_eq_true rfl) dX3_isNewName_30 rfl ?_
        refine dt_if_ge 36 47 dX3_isNewName_33 rfl (by decide) rfl (fun c => ?_) (fun c => ?_)
        · replace h := ifp c h
          refine dt_iconst 48 dX3_isNewName_47 rfl ?_
          exact dr_zp hF rfl isB_0 dX3_isNewName_48 h
        · replace h := ifn c h
          refine ald_1_0 37 rfl dX3_isNewName_36 rfl ?_
          obtain ⟨r3, h3, h⟩ := bp_some h
          refine cvi_0 40 cw_X3_126 (S_X3_townOfWord h3) rfl ⟨by decide, by decide⟩ rfl rfl rfl rfl rfl (Nat.le_of_ble_eq_true rfl) dX3_isNewName_37 rfl ?_
          refine dt_if_ge 43 47 dX3_isNewName_40 rfl (by decide) rfl (fun c => ?_) (fun c => ?_)
          · replace h := ifp c h
            refine dt_iconst 48 dX3_isNewName_47 rfl ?_
            exact dr_zp hF rfl isB_0 dX3_isNewName_48 h
          · replace h := ifn c h
            refine dt_iconst 44 dX3_isNewName_43 rfl ?_
            refine st_goto 48 dX3_isNewName_44 (by decide) ?_
            exact dr_zp hF rfl isB_1 dX3_isNewName_48 h
/-- StampTales$Reader.readTown -/
theorem A_X3_readTown_128 {G : Cx} {b : Ab} {r : Int} {mm : Mi} (hF : Fi yd_X3_readTown G b (some (iv r)) (Em mm)) (x1 : Int) (x3 : Int) (x4 : Int) (μ : Mi) (h : B_X3_readTown_128 x1 x3 x4 μ = some (r, mm)) : At yd_X3_readTown G b 128 [some (rf G 3 false), some (jv x1), none, some (iv x3), some (iv x4), none] [] (Em μ) := by
  unfold B_X3_readTown_128 at h
  refine ald_6_0 129 rfl dX3_readTown_128 rfl ?_
  refine dgf_X3_47 132 rfl dX3_readTown_129 rfl rfl ?_
  refine dt_iconst 133 dX3_readTown_132 rfl ?_
  refine dt_icmp_eq 136 138 dX3_readTown_133 rfl (by decide) rfl wk_3 (fun c => ?_) (fun c => ?_)
  · replace h := ifp c h
    refine ald_6_0 139 rfl dX3_readTown_138 rfl ?_
    obtain ⟨m1, h1, h⟩ := bm_some h
    refine cvv_0 142 cw_X3_44 (S_X3_next h1) rfl ⟨by decide, by decide⟩ rfl rfl rfl rfl rfl (Nat.le_of_ble_eq_true rfl) dX3_readTown_139 rfl ?_
    refine ald_6_0 143 rfl dX3_readTown_142 rfl ?_
    refine dgf_X3_17 146 rfl dX3_readTown_143 rfl ?_
    refine ald_6_0 147 rfl dX3_readTown_146 rfl ?_
    refine dgf_X3_24 150 rfl dX3_readTown_147 rfl ?_
    refine dgf_X3_57 153 rfl dX3_readTown_150 rfl rfl ?_
    refine dlld_6_1 154 dX3_readTown_153 rfl ?_
    obtain ⟨hi, h⟩ := ift h
    refine dlast 155 rfl rfl rfl hi rfl dX3_readTown_154 rfl ?_
    refine ald_6_0 156 rfl dX3_readTown_155 rfl ?_
    refine dgf_X3_24 159 rfl dX3_readTown_156 rfl ?_
    refine dild_6_3 160 dX3_readTown_159 rfl ?_
    refine dild_6_4 162 dX3_readTown_160 rfl ?_
    obtain ⟨m2, h2, h⟩ := bm_some h
    refine cvv_2 165 cw_X3_119 (S_X0_addTown h2) rfl ⟨by decide, by decide⟩ rfl rfl rfl rfl rfl (Nat.le_of_ble_eq_true rfl) dX3_readTown_162 rfl ?_
    refine dt_iconst 166 dX3_readTown_165 rfl ?_
    exact dr_z hF rfl isB_1 dX3_readTown_166 h
  · replace h := ifn c h
    refine dt_iconst 137 dX3_readTown_136 rfl ?_
    exact dr_z hF rfl isB_0 dX3_readTown_137 h
theorem A_X3_readTown_92 {G : Cx} {b : Ab} {r : Int} {mm : Mi} (hF : Fi yd_X3_readTown G b (some (iv r)) (Em mm)) (x1 : Int) (x3 : Int) (x4 : Int) (s0 : Int) (μ : Mi) (h : B_X3_readTown_92 x1 x3 x4 s0 μ = some (r, mm)) : At yd_X3_readTown G b 92 [some (rf G 3 false), some (jv x1), none, some (iv x3), some (iv x4), none] [iv s0] (Em μ) := by
  unfold B_X3_readTown_92 at h
  refine dist_6_5 94 dX3_readTown_92 rfl rfl rfl ?_
  refine dild_6_5 96 dX3_readTown_94 rfl ?_
  refine dt_if_eq 99 128 dX3_readTown_96 rfl (by decide) rfl (fun c => ?_) (fun c => ?_)
  · replace h := ifp c h
    exact At.weak (ls_s (ls_s (ls_n (ls_s (ls_s (ls_n ls_0)))))) (A_X3_readTown_128 hF _ _ _ _ h)
  · replace h := ifn c h
    refine ald_6_0 100 rfl dX3_readTown_99 rfl ?_
    obtain ⟨m1, h1, h⟩ := bm_some h
    refine cvv_0 103 cw_X3_44 (S_X3_next h1) rfl ⟨by decide, by decide⟩ rfl rfl rfl rfl rfl (Nat.le_of_ble_eq_true rfl) dX3_readTown_100 rfl ?_
    refine ald_6_0 104 rfl dX3_readTown_103 rfl ?_
    refine dt_iconst 105 dX3_readTown_104 rfl ?_
    refine dt_bipush 107 dX3_readTown_105 bq_12 rfl ?_
    refine cvi_2 110 cw_X3_112 (S_X3_isNumber 0 12) rfl ⟨by decide, by decide⟩ rfl rfl rfl rfl rfl (Nat.le_of_ble_eq_true rfl) dX3_readTown_107 rfl ?_
    refine dt_if_ne 113 115 dX3_readTown_110 rfl (by decide) rfl (fun c => ?_) (fun c => ?_)
    · replace h := ifp c h
      refine dild_6_5 117 dX3_readTown_115 rfl ?_
      refine ald_6_0 118 rfl dX3_readTown_117 rfl ?_
      refine dgf_X3_116 121 rfl dX3_readTown_118 rfl rfl ?_
      refine dt_imul 122 dX3_readTown_121 rfl ?_
      refine dist_6_4 124 dX3_readTown_122 rfl rfl rfl ?_
      refine ald_6_0 125 rfl dX3_readTown_124 rfl ?_
      obtain ⟨m3, h3, h⟩ := bm_some h
      refine cvv_0 128 cw_X3_44 (S_X3_next h3) rfl ⟨by decide, by decide⟩ rfl rfl rfl rfl rfl (Nat.le_of_ble_eq_true rfl) dX3_readTown_125 rfl ?_
      exact At.weak (ls_s (ls_s (ls_n (ls_s (ls_s (ls_n ls_0)))))) (A_X3_readTown_128 hF _ _ _ _ h)
    · replace h := ifn c h
      refine dt_iconst 114 dX3_readTown_113 rfl ?_
      exact dr_z hF rfl isB_0 dX3_readTown_114 h
theorem S_X3_readTown {G : Cx} {μ : Mi} {r : Int} {mm : Mi} (h : D_X3_readTown μ = some (r, mm)) : Spec yd_X3_readTown G [rf G 3 false] (Em μ) (some (iv r)) (Em mm) := by
  refine Spec.of (by decide) rfl (catL_ok rfl) (Nat.le_of_ble_eq_true rfl) rfl (fun b hF => ?_)
  unfold D_X3_readTown at h
  refine ald_6_0 1 rfl dX3_readTown_0 rfl ?_
  refine dgf_X3_24 4 rfl dX3_readTown_1 rfl ?_
  refine dgf_X3_57 7 rfl dX3_readTown_4 rfl rfl ?_
  refine dt_bipush 9 dX3_readTown_7 bq_8 rfl ?_
  refine dt_icmp_lt 12 14 dX3_readTown_9 rfl (by decide) rfl wk_8 (fun c => ?_) (fun c => ?_)
  · replace h := ifp c h
    refine ald_6_0 15 rfl dX3_readTown_14 rfl ?_
    obtain ⟨m1, h1, h⟩ := bm_some h
    refine cvv_0 18 cw_X3_44 (S_X3_next h1) rfl ⟨by decide, by decide⟩ rfl rfl rfl rfl rfl (Nat.le_of_ble_eq_true rfl) dX3_readTown_15 rfl ?_
    refine ald_6_0 19 rfl dX3_readTown_18 rfl ?_
    obtain ⟨r2, h2, h⟩ := bp_some h
    refine cvi_0 22 cw_X3_85 (S_X3_isNewName h2) rfl ⟨by decide, by decide⟩ rfl rfl rfl rfl rfl (Nat.le_of_ble_eq_true rfl) dX3_readTown_19 rfl ?_
    refine dt_if_ne 25 27 dX3_readTown_22 rfl (by decide) rfl (fun c => ?_) (fun c => ?_)
    · replace h := ifp c h
      refine ald_6_0 28 rfl dX3_readTown_27 rfl ?_
      refine dgf_X3_88 31 rfl dX3_readTown_28 rfl rfl ?_
      refine dlst_6_1 32 dX3_readTown_31 rfl rfl rfl ?_
      refine ald_6_0 33 rfl dX3_readTown_32 rfl ?_
      obtain ⟨m3, h3, h⟩ := bm_some h
      refine cvv_0 36 cw_X3_44 (S_X3_next h3) rfl ⟨by decide, by decide⟩ rfl rfl rfl rfl rfl (Nat.le_of_ble_eq_true rfl) dX3_readTown_33 rfl ?_
      refine ald_6_0 37 rfl dX3_readTown_36 rfl ?_
      refine st_ldcS 39 rfl sw_X3_100 dX3_readTown_37 rfl ?_
      obtain ⟨r4, m4, h4, h⟩ := bd_some h
      refine cvi_1 42 cw_X3_102 (S_X3_passWord (by first | assumption | decide) h4) rfl ⟨by decide, by decide⟩ rfl rfl rfl rfl rfl (Nat.le_of_ble_eq_true rfl) dX3_readTown_39 rfl ?_
      refine dt_if_ne 45 47 dX3_readTown_42 rfl (by decide) rfl (fun c => ?_) (fun c => ?_)
      · replace h := ifp c h
        refine ald_6_0 48 rfl dX3_readTown_47 rfl ?_
        obtain ⟨r5, h5, h⟩ := bp_some h
        refine cvi_0 51 cw_X3_105 (S_X3_landOfWord h5) rfl ⟨by decide, by decide⟩ rfl rfl rfl rfl rfl (Nat.le_of_ble_eq_true rfl) dX3_readTown_48 rfl ?_
        refine dist_6_3 52 dX3_readTown_51 rfl rfl rfl ?_
        refine dild_6_3 53 dX3_readTown_52 rfl ?_
        refine dt_if_ge 56 58 dX3_readTown_53 rfl (by decide) rfl (fun c => ?_) (fun c => ?_)
        · replace h := ifp c h
          refine ald_6_0 59 rfl dX3_readTown_58 rfl ?_
          obtain ⟨m6, h6, h⟩ := bm_some h
          refine cvv_0 62 cw_X3_44 (S_X3_next h6) rfl ⟨by decide, by decide⟩ rfl rfl rfl rfl rfl (Nat.le_of_ble_eq_true rfl) dX3_readTown_59 rfl ?_
          refine dt_iconst 63 dX3_readTown_62 rfl ?_
          refine dist_6_4 65 dX3_readTown_63 rfl rfl rfl ?_
          refine ald_6_0 66 rfl dX3_readTown_65 rfl ?_
          refine st_ldcS 68 rfl sw_X3_108 dX3_readTown_66 rfl ?_
          obtain ⟨r7, h7, h⟩ := bp_some h
          refine cvi_1 71 cw_X3_62 (S_X3_isWord (by first | assumption | decide) h7) rfl ⟨by decide, by decide⟩ rfl rfl rfl rfl rfl (Nat.le_of_ble_eq_true rfl) dX3_readTown_68 rfl ?_
          refine dt_if_eq 74 78 dX3_readTown_71 rfl (by decide) rfl (fun c => ?_) (fun c => ?_)
          · replace h := ifp c h
            refine ald_6_0 79 rfl dX3_readTown_78 rfl ?_
            refine st_ldcS 81 rfl sw_X3_110 dX3_readTown_79 rfl ?_
            obtain ⟨r8, h8, h⟩ := bp_some h
            refine cvi_1 84 cw_X3_62 (S_X3_isWord (by first | assumption | decide) h8) rfl ⟨by decide, by decide⟩ rfl rfl rfl rfl rfl (Nat.le_of_ble_eq_true rfl) dX3_readTown_81 rfl ?_
            refine dt_if_eq 87 91 dX3_readTown_84 rfl (by decide) rfl (fun c => ?_) (fun c => ?_)
            · replace h := ifp c h
              refine dt_iconst 92 dX3_readTown_91 rfl ?_
              exact A_X3_readTown_92 hF _ _ _ _ _ h
            · replace h := ifn c h
              refine dt_iconst 88 dX3_readTown_87 rfl ?_
              refine st_goto 92 dX3_readTown_88 (by decide) ?_
              exact A_X3_readTown_92 hF _ _ _ _ _ h
          · replace h := ifn c h
            refine dt_iconst 75 dX3_readTown_74 rfl ?_
            refine st_goto 92 dX3_readTown_75 (by decide) ?_
            exact A_X3_readTown_92 hF _ _ _ _ _ h
        · replace h := ifn c h
          refine dt_iconst 57 dX3_readTown_56 rfl ?_
          exact dr_z hF rfl isB_0 dX3_readTown_57 h
      · replace h := ifn c h
        refine dt_iconst 46 dX3_readTown_45 rfl ?_
        exact dr_z hF rfl isB_0 dX3_readTown_46 h
    · replace h := ifn c h
      refine dt_iconst 26 dX3_readTown_25 rfl ?_
      exact dr_z hF rfl isB_0 dX3_readTown_26 h
  · replace h := ifn c h
    refine dt_iconst 13 dX3_readTown_12 rfl ?_
    exact dr_z hF rfl isB_0 dX3_readTown_13 h
/-- StampTales$Reader.howOfWord -/
theorem S_X3_howOfWord {G : Cx} {μ : Mi} {r : Int} (h : D_X3_howOfWord μ = some r) : Spec yd_X3_howOfWord G [rf G 3 false] (Em μ) (some (iv r)) (Em μ) := by
  refine Spec.of (by decide) rfl (catL_ok rfl) (Nat.le_of_ble_eq_true rfl) rfl (fun b hF => ?_)
  unfold D_X3_howOfWord at h
  refine ald_1_0 1 rfl dX3_howOfWord_0 rfl ?_
  refine st_ldcS 3 rfl sw_X3_139 dX3_howOfWord_1 rfl ?_
  obtain ⟨r1, h1, h⟩ := bp_some h
  refine cvi_1 6 cw_X3_62 (S_X3_isWord (by first | assumption | decide) h1) rfl ⟨by decide, by decide⟩ rfl rfl rfl rfl rfl (Nat.le_of_ble_eq_true rfl) dX3_howOfWord_3 rfl ?_
  refine dt_if_eq 9 11 dX3_howOfWord_6 rfl (by decide) rfl (fun c => ?_) (fun c => ?_)
  · replace h := ifp c h
    refine ald_1_0 12 rfl dX3_howOfWord_11 rfl ?_
    refine st_ldcS 14 rfl sw_X3_141 dX3_howOfWord_12 rfl ?_
    obtain ⟨r2, h2, h⟩ := bp_some h
    refine cvi_1 17 cw_X3_62 (S_X3_isWord (by first | assumption | decide) h2) rfl ⟨by decide, by decide⟩ rfl rfl rfl rfl rfl (Nat.le_of_ble_eq_true rfl) dX3_howOfWord_14 rfl ?_
    refine dt_if_eq 20 22 dX3_howOfWord_17 rfl (by decide) rfl (fun c => ?_) (fun c => ?_)
    · replace h := ifp c h
      refine ald_1_0 23 rfl dX3_howOfWord_22 rfl ?_
      refine st_ldcS 25 rfl sw_X3_143 dX3_howOfWord_23 rfl ?_
      obtain ⟨r3, h3, h⟩ := bp_some h
      refine cvi_1 28 cw_X3_62 (S_X3_isWord (by first | assumption | decide) h3) rfl ⟨by decide, by decide⟩ rfl rfl rfl rfl rfl (Nat.le_of_ble_eq_true rfl) dX3_howOfWord_25 rfl ?_
      refine dt_if_eq 31 33 dX3_howOfWord_28 rfl (by decide) rfl (fun c => ?_) (fun c => ?_)
      · replace h := ifp c h
        refine ald_1_0 34 rfl dX3_howOfWord_33 rfl ?_
        refine st_ldcS 36 rfl sw_X3_145 dX3_howOfWord_34 rfl ?_
        obtain ⟨r4, h4, h⟩ := bp_some h
        refine cvi_1 39 cw_X3_62 (S_X3_isWord (by first | assumption | decide) h4) rfl ⟨by decide, by decide⟩ rfl rfl rfl rfl rfl (Nat.le_of_ble_eq_true rfl) dX3_howOfWord_36 rfl ?_
        refine dt_if_eq 42 46 dX3_howOfWord_39 rfl (by decide) rfl (fun c => ?_) (fun c => ?_)
        · replace h := ifp c h
          refine dt_iconst 47 dX3_howOfWord_46 rfl ?_
          exact dr_ip hF rfl dX3_howOfWord_47 h
        · replace h := ifn c h
          refine dt_iconst 43 dX3_howOfWord_42 rfl ?_
          refine st_goto 47 dX3_howOfWord_43 (by decide) ?_
          exact dr_ip hF rfl dX3_howOfWord_47 h
      · replace h := ifn c h
        refine dt_iconst 32 dX3_howOfWord_31 rfl ?_
        exact dr_ip hF rfl dX3_howOfWord_32 h
    · replace h := ifn c h
      refine dt_iconst 21 dX3_howOfWord_20 rfl ?_
      exact dr_ip hF rfl dX3_howOfWord_21 h
  · replace h := ifn c h
    refine dt_iconst 10 dX3_howOfWord_9 rfl ?_
    exact dr_ip hF rfl dX3_howOfWord_10 h
/-- StampTales$Reader.readLand -/
theorem S_X3_readLand {G : Cx} {μ : Mi} {r : Int} {mm : Mi} (h : D_X3_readLand μ = some (r, mm)) : Spec yd_X3_readLand G [rf G 3 false] (Em μ) (some (iv r)) (Em mm) := by
  refine Spec.of (by decide) rfl (catL_ok rfl) (Nat.le_of_ble_eq_true rfl) rfl (fun b hF => ?_)
  unfold D_X3_readLand at h
  refine ald_4_0 1 rfl dX3_readLand_0 rfl ?_
  refine dgf_X3_24 4 rfl dX3_readLand_1 rfl ?_
  refine dgf_X3_82 7 rfl dX3_readLand_4 rfl rfl ?_
  refine dt_iconst 8 dX3_readLand_7 rfl ?_
  refine dt_icmp_lt 11 13 dX3_readLand_8 rfl (by decide) rfl wk_4 (fun c => ?_) (fun c => ?_)
  · replace h := ifp c h
    refine ald_4_0 14 rfl dX3_readLand_13 rfl ?_
    obtain ⟨m1, h1, h⟩ := bm_some h
    refine cvv_0 17 cw_X3_44 (S_X3_next h1) rfl ⟨by decide, by decide⟩ rfl rfl rfl rfl rfl (Nat.le_of_ble_eq_true rfl) dX3_readLand_14 rfl ?_
    refine ald_4_0 18 rfl dX3_readLand_17 rfl ?_
    obtain ⟨r2, h2, h⟩ := bp_some h
    refine cvi_0 21 cw_X3_85 (S_X3_isNewName h2) rfl ⟨by decide, by decide⟩ rfl rfl rfl rfl rfl (Nat.le_of_ble_eq_true rfl) dX3_readLand_18 rfl ?_
    refine dt_if_ne 24 26 dX3_readLand_21 rfl (by decide) rfl (fun c => ?_) (fun c => ?_)
    · replace h := ifp c h
      refine ald_4_0 27 rfl dX3_readLand_26 rfl ?_
      refine dgf_X3_88 30 rfl dX3_readLand_27 rfl rfl ?_
      refine dlst_4_1 31 dX3_readLand_30 rfl rfl rfl ?_
      refine ald_4_0 32 rfl dX3_readLand_31 rfl ?_
      obtain ⟨m3, h3, h⟩ := bm_some h
      refine cvv_0 35 cw_X3_44 (S_X3_next h3) rfl ⟨by decide, by decide⟩ rfl rfl rfl rfl rfl (Nat.le_of_ble_eq_true rfl) dX3_readLand_32 rfl ?_
      refine ald_4_0 36 rfl dX3_readLand_35 rfl ?_
      obtain ⟨r4, h4, h⟩ := bp_some h
      refine cvi_0 39 cw_X3_92 (S_X3_howOfWord h4) rfl ⟨by decide, by decide⟩ rfl rfl rfl rfl rfl (Nat.le_of_ble_eq_true rfl) dX3_readLand_36 rfl ?_
      refine dist_4_3 40 dX3_readLand_39 rfl rfl rfl ?_
      refine dild_4_3 41 dX3_readLand_40 rfl ?_
      refine dt_if_ge 44 46 dX3_readLand_41 rfl (by decide) rfl (fun c => ?_) (fun c => ?_)
      · replace h := ifp c h
        refine ald_4_0 47 rfl dX3_readLand_46 rfl ?_
        obtain ⟨m5, h5, h⟩ := bm_some h
        refine cvv_0 50 cw_X3_44 (S_X3_next h5) rfl ⟨by decide, by decide⟩ rfl rfl rfl rfl rfl (Nat.le_of_ble_eq_true rfl) dX3_readLand_47 rfl ?_
        refine ald_4_0 51 rfl dX3_readLand_50 rfl ?_
        refine dgf_X3_47 54 rfl dX3_readLand_51 rfl rfl ?_
        refine dt_iconst 55 dX3_readLand_54 rfl ?_
        refine dt_icmp_eq 58 60 dX3_readLand_55 rfl (by decide) rfl wk_3 (fun c => ?_) (fun c => ?_)
        · replace h := ifp c h
          refine ald_4_0 61 rfl dX3_readLand_60 rfl ?_
          obtain ⟨m6, h6, h⟩ := bm_some h
          refine cvv_0 64 cw_X3_44 (S_X3_next h6) rfl ⟨by decide, by decide⟩ rfl rfl rfl rfl rfl (Nat.le_of_ble_eq_true rfl) dX3_readLand_61 rfl ?_
          refine ald_4_0 65 rfl dX3_readLand_64 rfl ?_
          refine dgf_X3_11 68 rfl dX3_readLand_65 rfl ?_
          refine ald_4_0 69 rfl dX3_readLand_68 rfl ?_
          refine dgf_X3_24 72 rfl dX3_readLand_69 rfl ?_
          refine dgf_X3_82 75 rfl dX3_readLand_72 rfl rfl ?_
          refine dlld_4_1 76 dX3_readLand_75 rfl ?_
          obtain ⟨hi, h⟩ := ift h
          refine dlast 77 rfl rfl rfl hi rfl dX3_readLand_76 rfl ?_
          refine ald_4_0 78 rfl dX3_readLand_77 rfl ?_
          refine dgf_X3_24 81 rfl dX3_readLand_78 rfl ?_
          refine dild_4_3 82 dX3_readLand_81 rfl ?_
          obtain ⟨m7, h7, h⟩ := bm_some h
          refine cvv_1 85 cw_X3_96 (S_X0_addLand h7) rfl ⟨by decide, by decide⟩ rfl rfl rfl rfl rfl (Nat.le_of_ble_eq_true rfl) dX3_readLand_82 rfl ?_
          refine dt_iconst 86 dX3_readLand_85 rfl ?_
          exact dr_z hF rfl isB_1 dX3_readLand_86 h
        · replace h := ifn c h
          refine dt_iconst 59 dX3_readLand_58 rfl ?_
          exact dr_z hF rfl isB_0 dX3_readLand_59 h
      · replace h := ifn c h
        refine dt_iconst 45 dX3_readLand_44 rfl ?_
        exact dr_z hF rfl isB_0 dX3_readLand_45 h
    · replace h := ifn c h
      refine dt_iconst 25 dX3_readLand_24 rfl ?_
      exact dr_z hF rfl isB_0 dX3_readLand_25 h
  · replace h := ifn c h
    refine dt_iconst 12 dX3_readLand_11 rfl ?_
    exact dr_z hF rfl isB_0 dX3_readLand_12 h
/-- StampTales$Reader.readLine -/
theorem S_X3_readLine {G : Cx} {μ : Mi} {r : Int} {mm : Mi} (h : D_X3_readLine μ = some (r, mm)) : Spec yd_X3_readLine G [rf G 3 false] (Em μ) (some (iv r)) (Em mm) := by
  refine Spec.of (by decide) rfl (catL_ok rfl) (Nat.le_of_ble_eq_true rfl) rfl (fun b hF => ?_)
  unfold D_X3_readLine at h
  refine ald_1_0 1 rfl dX3_readLine_0 rfl ?_
  refine st_ldcS 3 rfl sw_X3_60 dX3_readLine_1 rfl ?_
  obtain ⟨r1, h1, h⟩ := bp_some h
  refine cvi_1 6 cw_X3_62 (S_X3_isWord (by first | assumption | decide) h1) rfl ⟨by decide, by decide⟩ rfl rfl rfl rfl rfl (Nat.le_of_ble_eq_true rfl) dX3_readLine_3 rfl ?_
  refine dt_if_eq 9 14 dX3_readLine_6 rfl (by decide) rfl (fun c => ?_) (fun c => ?_)
  · replace h := ifp c h
    refine ald_1_0 15 rfl dX3_readLine_14 rfl ?_
    refine st_ldcS 17 rfl sw_X3_69 dX3_readLine_15 rfl ?_
    obtain ⟨r2, h2, h⟩ := bp_some h
    refine cvi_1 20 cw_X3_62 (S_X3_isWord (by first | assumption | decide) h2) rfl ⟨by decide, by decide⟩ rfl rfl rfl rfl rfl (Nat.le_of_ble_eq_true rfl) dX3_readLine_17 rfl ?_
    refine dt_if_eq 23 28 dX3_readLine_20 rfl (by decide) rfl (fun c => ?_) (fun c => ?_)
    · replace h := ifp c h
      refine ald_1_0 29 rfl dX3_readLine_28 rfl ?_
      refine st_ldcS 31 rfl sw_X3_74 dX3_readLine_29 rfl ?_
      obtain ⟨r3, h3, h⟩ := bp_some h
      refine cvi_1 34 cw_X3_62 (S_X3_isWord (by first | assumption | decide) h3) rfl ⟨by decide, by decide⟩ rfl rfl rfl rfl rfl (Nat.le_of_ble_eq_true rfl) dX3_readLine_31 rfl ?_
      refine dt_if_eq 37 43 dX3_readLine_34 rfl (by decide) rfl (fun c => ?_) (fun c => ?_)
      · replace h := ifp c h
        refine ald_1_0 44 rfl dX3_readLine_43 rfl ?_
        refine st_ldcS 46 rfl sw_X3_80 dX3_readLine_44 rfl ?_
        obtain ⟨r4, h4, h⟩ := bp_some h
        refine cvi_1 49 cw_X3_62 (S_X3_isWord (by first | assumption | decide) h4) rfl ⟨by decide, by decide⟩ rfl rfl rfl rfl rfl (Nat.le_of_ble_eq_true rfl) dX3_readLine_46 rfl ?_
        refine dt_if_eq 52 64 dX3_readLine_49 rfl (by decide) rfl (fun c => ?_) (fun c => ?_)
        · replace h := ifp c h
          refine dt_iconst 65 dX3_readLine_64 rfl ?_
          exact dr_z hF rfl isB_0 dX3_readLine_65 h
        · replace h := ifn c h
          refine ald_1_0 53 rfl dX3_readLine_52 rfl ?_
          refine dt_iconst 54 dX3_readLine_53 rfl ?_
          obtain ⟨r5, m5, h5, h⟩ := bd_some h
          refine cvi_1 57 cw_X3_76 (S_X3_readLink h5) rfl ⟨by decide, by decide⟩ rfl rfl rfl rfl rfl (Nat.le_of_ble_eq_true rfl) dX3_readLine_54 rfl ?_
          refine dt_if_eq 60 64 dX3_readLine_57 rfl (by decide) rfl (fun c => ?_) (fun c => ?_)
          · replace h := ifp c h
            refine dt_iconst 65 dX3_readLine_64 rfl ?_
            exact dr_z hF rfl isB_0 dX3_readLine_65 h
          · replace h := ifn c h
            refine dt_iconst 61 dX3_readLine_60 rfl ?_
            refine st_goto 65 dX3_readLine_61 (by decide) ?_
            exact dr_z hF rfl isB_1 dX3_readLine_65 h
      · replace h := ifn c h
        refine ald_1_0 38 rfl dX3_readLine_37 rfl ?_
        refine dt_iconst 39 dX3_readLine_38 rfl ?_
        obtain ⟨r4, m4, h4, h⟩ := bd_some h
        refine cvi_1 42 cw_X3_76 (S_X3_readLink h4) rfl ⟨by decide, by decide⟩ rfl rfl rfl rfl rfl (Nat.le_of_ble_eq_true rfl) dX3_readLine_39 rfl ?_
        obtain ⟨hb, h⟩ := ift h
        exact dr_z hF rfl hb dX3_readLine_42 h
    · replace h := ifn c h
      refine ald_1_0 24 rfl dX3_readLine_23 rfl ?_
      obtain ⟨r3, m3, h3, h⟩ := bd_some h
      refine cvi_0 27 cw_X3_71 (S_X3_readTown h3) rfl ⟨by decide, by decide⟩ rfl rfl rfl rfl rfl (Nat.le_of_ble_eq_true rfl) dX3_readLine_24 rfl ?_
      obtain ⟨hb, h⟩ := ift h
      exact dr_z hF rfl hb dX3_readLine_27 h
  · replace h := ifn c h
    refine ald_1_0 10 rfl dX3_readLine_9 rfl ?_
    obtain ⟨r2, m2, h2, h⟩ := bd_some h
    refine cvi_0 13 cw_X3_66 (S_X3_readLand h2) rfl ⟨by decide, by decide⟩ rfl rfl rfl rfl rfl (Nat.le_of_ble_eq_true rfl) dX3_readLine_10 rfl ?_
    obtain ⟨hb, h⟩ := ift h
    exact dr_z hF rfl hb dX3_readLine_13 h
/-- StampTales$Reader.faultOf -/
theorem A_X3_faultOf_63 {G : Cx} {b : Ab} {r : Int} {mm : Mi} (hF : Fi yd_X3_faultOf G b (some (iv r)) (Em mm)) (μ : Mi) (h : B_X3_faultOf_63 μ = some (r, mm)) : At yd_X3_faultOf G b 63 [some (rf G 3 false), none, none] [] (Em μ) := by
  unfold B_X3_faultOf_63 at h
  refine ald_3_0 64 rfl dX3_faultOf_63 rfl ?_
  refine dgf_X3_24 67 rfl dX3_faultOf_64 rfl ?_
  refine dgf_X3_57 70 rfl dX3_faultOf_67 rfl rfl ?_
  refine dt_if_ne 73 80 dX3_faultOf_70 rfl (by decide) rfl (fun c => ?_) (fun c => ?_)
  · replace h := ifp c h
    refine dt_iconst 81 dX3_faultOf_80 rfl ?_
    exact dr_i hF rfl dX3_faultOf_81 h
  · replace h := ifn c h
    refine ald_3_0 74 rfl dX3_faultOf_73 rfl ?_
    refine dgf_X3_34 77 rfl dX3_faultOf_74 rfl rfl ?_
    refine st_goto 81 dX3_faultOf_77 (by decide) ?_
    exact dr_i hF rfl dX3_faultOf_81 h
theorem A_X3_faultOf_31 {G : Cx} {b : Ab} {r : Int} {mm : Mi} (hF : Fi yd_X3_faultOf G b (some (iv r)) (Em mm)) : ∀ (n : Nat) (x2 : Int) (μ : Mi), B_X3_faultOf_31 n x2 μ = some (r, mm) → At yd_X3_faultOf G b 31 [some (rf G 3 false), none, some (iv x2)] [] (Em μ) := by
  intro n
  induction n with
  | zero =>
    intro x2 μ h
    exact nope h
  | succ n hk31 =>
    intro x2 μ h
    replace h : F_X3_faultOf_31 (B_X3_faultOf_31 n) x2 μ = some (r, mm) := h
    unfold F_X3_faultOf_31 at h
    refine dild_3_2 32 dX3_faultOf_31 rfl ?_
    refine dt_sipush 35 dX3_faultOf_32 sq_500 rfl ?_
    refine dt_icmp_ge 38 63 dX3_faultOf_35 rfl (by decide) rfl wk_500 (fun c => ?_) (fun c => ?_)
    · replace h := ifp c h
      exact At.weak (ls_s (ls_n (ls_n ls_0))) (A_X3_faultOf_63 hF _ h)
    · replace h := ifn c h
      refine ald_3_0 39 rfl dX3_faultOf_38 rfl ?_
      refine dgf_X3_47 42 rfl dX3_faultOf_39 rfl rfl ?_
      refine dt_if_eq 45 63 dX3_faultOf_42 rfl (by decide) rfl (fun c => ?_) (fun c => ?_)
      · replace h := ifp c h
        exact At.weak (ls_s (ls_n (ls_n ls_0))) (A_X3_faultOf_63 hF _ h)
      · replace h := ifn c h
        refine ald_3_0 46 rfl dX3_faultOf_45 rfl ?_
        obtain ⟨r1, m1, h1, h⟩ := bd_some h
        refine cvi_0 49 cw_X3_50 (S_X3_readLine h1) rfl ⟨by decide, by decide⟩ rfl rfl rfl rfl rfl (Nat.le_of_ble_eq_true rfl) dX3_faultOf_46 rfl ?_
        refine dt_if_ne 52 57 dX3_faultOf_49 rfl (by decide) rfl (fun c => ?_) (fun c => ?_)
        · replace h := ifp c h
          refine dinc_3_2 60 dX3_faultOf_57 rfl rfl rfl ?_
          refine st_goto 31 dX3_faultOf_60 (by decide) ?_
          exact hk31 _ _ h
        · replace h := ifn c h
          refine ald_3_0 53 rfl dX3_faultOf_52 rfl ?_
          refine dgf_X3_54 56 rfl dX3_faultOf_53 rfl rfl ?_
          exact dr_i hF rfl dX3_faultOf_56 h
theorem S_X3_faultOf {G : Cx} {μ : Mi} {x1 : Int} {r : Int} {mm : Mi} (h : D_X3_faultOf x1 μ = some (r, mm)) : Spec yd_X3_faultOf G [rf G 3 false, iv x1] (Em μ) (some (iv r)) (Em mm) := by
  refine Spec.of (by decide) rfl (catL_ok rfl) (Nat.le_of_ble_eq_true rfl) rfl (fun b hF => ?_)
  unfold D_X3_faultOf at h
  refine ald_3_0 1 rfl dX3_faultOf_0 rfl ?_
  refine dild_3_1 2 dX3_faultOf_1 rfl ?_
  refine ald_3_0 3 rfl dX3_faultOf_2 rfl ?_
  refine dgf_X3_20 6 rfl dX3_faultOf_3 rfl ?_
  refine st_alen (v := Int32.ofInt 500) 7 (by decide) (by decide) rfl (by decide) dX3_faultOf_6 rfl ?_
  refine dmmin 10 rfl cw_X3_28 ⟨by decide, by decide⟩ (Nat.le_of_ble_eq_true rfl) dX3_faultOf_7 rfl ?_
  refine dpf_X3_34 13 rfl dX3_faultOf_10 rfl ?_
  refine ald_3_0 14 rfl dX3_faultOf_13 rfl ?_
  refine dt_iconst 15 dX3_faultOf_14 rfl ?_
  refine dpf_X3_38 18 rfl dX3_faultOf_15 rfl ?_
  refine ald_3_0 19 rfl dX3_faultOf_18 rfl ?_
  refine dgf_X3_24 22 rfl dX3_faultOf_19 rfl ?_
  obtain ⟨m2, h2, h⟩ := bm_some h
  refine cvv_0 25 cw_X3_41 (S_X0_clear h2) rfl ⟨by decide, by decide⟩ rfl rfl rfl rfl rfl (Nat.le_of_ble_eq_true rfl) dX3_faultOf_22 rfl ?_
  refine ald_3_0 26 rfl dX3_faultOf_25 rfl ?_
  obtain ⟨m3, h3, h⟩ := bm_some h
  refine cvv_0 29 cw_X3_44 (S_X3_next h3) rfl ⟨by decide, by decide⟩ rfl rfl rfl rfl rfl (Nat.le_of_ble_eq_true rfl) dX3_faultOf_26 rfl ?_
  refine dt_iconst 30 dX3_faultOf_29 rfl ?_
  refine dist_3_2 31 dX3_faultOf_30 rfl rfl rfl ?_
  exact At.weak (ls_s (ls_n (ls_s ls_0))) (A_X3_faultOf_31 hF FU _ _ h)
