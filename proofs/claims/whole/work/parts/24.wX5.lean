/-- StampTales$Story.add -/
theorem S_X5_add {G : Cx} {μ : Mi} {x1 : Int} {x2 : Int} {r : Int} {mm : Mi} (h : D_X5_add x1 x2 μ = some (r, mm)) : Spec yd_X5_add G [rf G 5 false, iv x1, iv x2] (Em μ) (some (iv r)) (Em mm) := by
  refine Spec.of (by decide) rfl (catL_ok rfl) (Nat.le_of_ble_eq_true rfl) rfl (fun b hF => ?_)
  unfold D_X5_add at h
  refine ald_3_0 1 rfl dX5_add_0 rfl ?_
  refine dgf_X5_29 4 rfl dX5_add_1 rfl rfl ?_
  refine dt_bipush 6 dX5_add_4 bq_20 rfl ?_
  refine dt_icmp_lt 9 11 dX5_add_6 rfl (by decide) rfl wk_20 (fun c => ?_) (fun c => ?_)
  · replace h := ifp c h
    refine ald_3_0 12 rfl dX5_add_11 rfl ?_
    refine dgf_X5_11 15 rfl dX5_add_12 rfl ?_
    refine ald_3_0 16 rfl dX5_add_15 rfl ?_
    refine dgf_X5_29 19 rfl dX5_add_16 rfl rfl ?_
    refine dild_3_1 20 dX5_add_19 rfl ?_
    obtain ⟨hi, h⟩ := ift h
    refine diast 21 rfl rfl rfl hi rfl dX5_add_20 rfl ?_
    refine ald_3_0 22 rfl dX5_add_21 rfl ?_
    refine dgf_X5_15 25 rfl dX5_add_22 rfl ?_
    refine ald_3_0 26 rfl dX5_add_25 rfl ?_
    refine dgf_X5_29 29 rfl dX5_add_26 rfl (rd_o (by decide)) ?_
    refine dild_3_2 30 dX5_add_29 rfl ?_
    obtain ⟨hi, h⟩ := ift h
    refine diast 31 rfl rfl rfl hi rfl dX5_add_30 rfl ?_
    refine ald_3_0 32 rfl dX5_add_31 rfl ?_
    refine st_dup 33 dX5_add_32 rfl rfl ?_
    refine dgf_X5_29 36 rfl dX5_add_33 rfl ((rd_o (by decide)).trans (rd_o (by decide))) ?_
    refine dt_iconst 37 dX5_add_36 rfl ?_
    refine dt_iadd 38 dX5_add_37 rfl ?_
    refine dpf_X5_29 41 rfl dX5_add_38 rfl ?_
    refine ald_3_0 42 rfl dX5_add_41 rfl ?_
    refine dgf_X5_29 45 rfl dX5_add_42 rfl (rd_s) ?_
    exact dr_i hF rfl dX5_add_45 h
  · replace h := ifn c h
    refine dt_iconst 10 dX5_add_9 rfl ?_
    exact dr_i hF rfl dX5_add_10 h
/-- StampTales$Story.stay -/
theorem A_X5_stay_3 {G : Cx} {b : Ab}  {mm : Mi} (hF : Fi yd_X5_stay G b none (Em mm)) : ∀ (n : Nat) (x2 : Int) (x3 : Int) (x4 : Int) (μ : Mi), B_X5_stay_3 n x2 x3 x4 μ = some mm → At yd_X5_stay G b 3 [some (rf G 5 false), none, some (iv x2), some (iv x3), some (iv x4)] [] (Em μ) := by
  intro n
  induction n with
  | zero =>
    intro x2 x3 x4 μ h
    exact nope h
  | succ n hk3 =>
    intro x2 x3 x4 μ h
    replace h : F_X5_stay_3 (B_X5_stay_3 n) x2 x3 x4 μ = some mm := h
    unfold F_X5_stay_3 at h
    refine dild_5_4 5 dX5_stay_3 rfl ?_
    refine dild_5_2 6 dX5_stay_5 rfl ?_
    refine dt_icmp_gt 9 31 dX5_stay_6 rfl (by decide) rfl rfl (fun c => ?_) (fun c => ?_)
    · replace h := ifp c h
      exact dr_v hF rfl dX5_stay_31 h
    · replace h := ifn c h
      refine ald_5_0 10 rfl dX5_stay_9 rfl ?_
      refine dgf_X5_18 13 rfl dX5_stay_10 rfl ?_
      refine dild_5_4 15 dX5_stay_13 rfl ?_
      refine dild_5_3 16 dX5_stay_15 rfl ?_
      obtain ⟨hi, h⟩ := ift h
      refine diast 17 rfl rfl rfl hi rfl dX5_stay_16 rfl ?_
      refine ald_5_0 18 rfl dX5_stay_17 rfl ?_
      refine dgf_X5_21 21 rfl dX5_stay_18 rfl ?_
      refine dild_5_4 23 dX5_stay_21 rfl ?_
      refine dt_iconst 24 dX5_stay_23 rfl ?_
      obtain ⟨hi, h⟩ := ift h
      refine dzast 25 rfl rfl rfl hi rfl isB_1 dX5_stay_24 rfl ?_
      refine dinc_5_4 28 dX5_stay_25 rfl rfl rfl ?_
      refine st_goto 3 dX5_stay_28 (by decide) ?_
      exact hk3 _ _ _ _ h
theorem S_X5_stay {G : Cx} {μ : Mi} {x1 : Int} {x2 : Int} {x3 : Int}  {mm : Mi} (h : D_X5_stay x1 x2 x3 μ = some mm) : Spec yd_X5_stay G [rf G 5 false, iv x1, iv x2, iv x3] (Em μ) (none) (Em mm) := by
  refine Spec.of (by decide) rfl (catL_ok rfl) (Nat.le_of_ble_eq_true rfl) rfl (fun b hF => ?_)
  unfold D_X5_stay at h
  refine dild_5_1 1 dX5_stay_0 rfl ?_
  refine dist_5_4 3 dX5_stay_1 rfl rfl rfl ?_
  exact At.weak (ls_s (ls_n (ls_s (ls_s (ls_s ls_0))))) (A_X5_stay_3 hF FU _ _ _ _ h)
/-- StampTales$Story.wrongLeg -/
theorem A_X5_wrongLeg_120 {G : Cx} {b : Ab} {r : Int} {mm : Mi} {k10 : (Bool → Int → Int → Int → Mi → Option (Int × Mi))} (hF : Fi yd_X5_wrongLeg G b (some (iv r)) (Em mm)) (hk10 : ∀ (x1 : Bool) (x2 : Int) (x3 : Int) (x4 : Int) (m : Mi), k10 x1 x2 x3 x4 m = some (r, mm) → At yd_X5_wrongLeg G b 10 [some (rf G 5 false), some (rf G 2 x1), some (iv x2), some (iv x3), some (iv x4), none, none, none, none] [] (Em m)) : ∀ (n : Nat) (x1 : Bool) (x4 : Int) (x5 : Int) (x7 : Int) (x8 : Int) (μ : Mi), B_X5_wrongLeg_120 k10 n x1 x4 x5 x7 x8 μ = some (r, mm) → At yd_X5_wrongLeg G b 120 [some (rf G 5 false), some (rf G 2 x1), none, none, some (iv x4), some (iv x5), none, some (iv x7), some (iv x8)] [] (Em μ) := by
  intro n
  induction n with
  | zero =>
    intro x1 x4 x5 x7 x8 μ h
    exact nope h
  | succ n hk120 =>
    intro x1 x4 x5 x7 x8 μ h
    replace h : F_X5_wrongLeg_120 k10 (B_X5_wrongLeg_120 k10 n) x1 x4 x5 x7 x8 μ = some (r, mm) := h
    unfold F_X5_wrongLeg_120 at h
    refine dild_9_8 122 dX5_wrongLeg_120 rfl ?_
    refine dild_9_7 124 dX5_wrongLeg_122 rfl ?_
    refine dt_icmp_ge 127 149 dX5_wrongLeg_124 rfl (by decide) rfl rfl (fun c => ?_) (fun c => ?_)
    · replace h := ifp c h
      refine ald_9_0 150 rfl dX5_wrongLeg_149 rfl ?_
      refine dgf_X5_25 153 rfl dX5_wrongLeg_150 rfl ?_
      refine dgf_X5_73 156 rfl dX5_wrongLeg_153 rfl ?_
      refine dild_9_5 158 dX5_wrongLeg_156 rfl ?_
      obtain ⟨hi, h⟩ := ift h
      refine diald 159 rfl rfl rfl hi rfl rfl dX5_wrongLeg_158 rfl ?_
      refine dist_9_2 160 dX5_wrongLeg_159 rfl rfl rfl ?_
      refine dild_9_7 162 dX5_wrongLeg_160 rfl ?_
      refine dist_9_3 163 dX5_wrongLeg_162 rfl rfl rfl ?_
      refine dinc_9_4 166 dX5_wrongLeg_163 rfl rfl rfl ?_
      refine st_goto 10 dX5_wrongLeg_166 (by decide) ?_
      exact At.weak (ls_s (ls_s (ls_s (ls_s (ls_s (ls_n (ls_n (ls_n (ls_n ls_0))))))))) (hk10 _ _ _ _ _ h)
    · replace h := ifn c h
      refine ald_9_0 128 rfl dX5_wrongLeg_127 rfl ?_
      refine dgf_X5_18 131 rfl dX5_wrongLeg_128 rfl ?_
      refine dild_9_8 133 dX5_wrongLeg_131 rfl ?_
      refine dt_iconst 134 dX5_wrongLeg_133 rfl ?_
      obtain ⟨hi, h⟩ := ift h
      refine diast 135 rfl rfl rfl hi rfl dX5_wrongLeg_134 rfl ?_
      refine ald_9_0 136 rfl dX5_wrongLeg_135 rfl ?_
      refine dgf_X5_21 139 rfl dX5_wrongLeg_136 rfl ?_
      refine dild_9_8 141 dX5_wrongLeg_139 rfl ?_
      refine dt_iconst 142 dX5_wrongLeg_141 rfl ?_
      obtain ⟨hi, h⟩ := ift h
      refine dzast 143 rfl rfl rfl hi rfl isB_0 dX5_wrongLeg_142 rfl ?_
      refine dinc_9_8 146 dX5_wrongLeg_143 rfl rfl rfl ?_
      refine st_goto 120 dX5_wrongLeg_146 (by decide) ?_
      exact hk120 _ _ _ _ _ _ h
theorem A_X5_wrongLeg_10 {G : Cx} {b : Ab} {r : Int} {mm : Mi} (hF : Fi yd_X5_wrongLeg G b (some (iv r)) (Em mm)) : ∀ (n : Nat) (x1 : Bool) (x2 : Int) (x3 : Int) (x4 : Int) (μ : Mi), B_X5_wrongLeg_10 n x1 x2 x3 x4 μ = some (r, mm) → At yd_X5_wrongLeg G b 10 [some (rf G 5 false), some (rf G 2 x1), some (iv x2), some (iv x3), some (iv x4), none, none, none, none] [] (Em μ) := by
  intro n
  induction n with
  | zero =>
    intro x1 x2 x3 x4 μ h
    exact nope h
  | succ n hk10 =>
    intro x1 x2 x3 x4 μ h
    replace h : F_X5_wrongLeg_10 (B_X5_wrongLeg_10 n) x1 x2 x3 x4 μ = some (r, mm) := h
    unfold F_X5_wrongLeg_10 at h
    refine dild_9_4 12 dX5_wrongLeg_10 rfl ?_
    refine ald_9_0 13 rfl dX5_wrongLeg_12 rfl ?_
    refine dgf_X5_29 16 rfl dX5_wrongLeg_13 rfl rfl ?_
    refine dt_icmp_ge 19 169 dX5_wrongLeg_16 rfl (by decide) rfl rfl (fun c => ?_) (fun c => ?_)
    · replace h := ifp c h
      refine ald_9_0 170 rfl dX5_wrongLeg_169 rfl ?_
      refine dild_9_3 171 dX5_wrongLeg_170 rfl ?_
      refine ald_9_1 172 rfl dX5_wrongLeg_171 rfl ?_
      refine dgf_X5_66 175 rfl dX5_wrongLeg_172 rfl rfl ?_
      refine dild_9_2 176 dX5_wrongLeg_175 rfl ?_
      obtain ⟨m1, h1, h⟩ := bm_some h
      refine cvv_3 179 cw_X5_69 (S_X5_stay h1) rfl ⟨by decide, by decide⟩ rfl rfl rfl rfl rfl (Nat.le_of_ble_eq_true rfl) dX5_wrongLeg_176 rfl ?_
      refine dt_iconst 180 dX5_wrongLeg_179 rfl ?_
      exact dr_i hF rfl dX5_wrongLeg_180 h
    · replace h := ifn c h
      refine ald_9_0 20 rfl dX5_wrongLeg_19 rfl ?_
      refine dgf_X5_11 23 rfl dX5_wrongLeg_20 rfl ?_
      refine dild_9_4 25 dX5_wrongLeg_23 rfl ?_
      obtain ⟨hi, h⟩ := ift h
      refine diald 26 rfl rfl rfl hi rfl rfl dX5_wrongLeg_25 rfl ?_
      refine dist_9_5 28 dX5_wrongLeg_26 rfl rfl rfl ?_
      refine ald_9_0 29 rfl dX5_wrongLeg_28 rfl ?_
      refine dgf_X5_15 32 rfl dX5_wrongLeg_29 rfl ?_
      refine dild_9_4 34 dX5_wrongLeg_32 rfl ?_
      obtain ⟨hi, h⟩ := ift h
      refine diald 35 rfl rfl rfl hi rfl rfl dX5_wrongLeg_34 rfl ?_
      refine dist_9_6 37 dX5_wrongLeg_35 rfl rfl rfl ?_
      refine dild_9_6 39 dX5_wrongLeg_37 rfl ?_
      refine ald_9_0 40 rfl dX5_wrongLeg_39 rfl ?_
      refine dgf_X5_25 43 rfl dX5_wrongLeg_40 rfl ?_
      refine dgf_X5_54 46 rfl dX5_wrongLeg_43 rfl ?_
      refine dild_9_5 48 dX5_wrongLeg_46 rfl ?_
      obtain ⟨hi, h⟩ := ift h
      refine diald 49 rfl rfl rfl hi rfl rfl dX5_wrongLeg_48 rfl ?_
      refine dt_iadd 50 dX5_wrongLeg_49 rfl ?_
      refine dist_9_7 52 dX5_wrongLeg_50 rfl rfl rfl ?_
      refine dild_9_6 54 dX5_wrongLeg_52 rfl ?_
      refine dild_9_3 55 dX5_wrongLeg_54 rfl ?_
      refine dt_icmp_lt 58 95 dX5_wrongLeg_55 rfl (by decide) rfl rfl (fun c => ?_) (fun c => ?_)
      · replace h := ifp c h
        refine dild_9_4 97 dX5_wrongLeg_95 rfl ?_
        exact dr_i hF rfl dX5_wrongLeg_97 h
      · replace h := ifn c h
        refine ald_9_0 59 rfl dX5_wrongLeg_58 rfl ?_
        refine dgf_X5_25 62 rfl dX5_wrongLeg_59 rfl ?_
        refine dgf_X5_59 65 rfl dX5_wrongLeg_62 rfl ?_
        refine dild_9_5 67 dX5_wrongLeg_65 rfl ?_
        obtain ⟨hi, h⟩ := ift h
        refine diald 68 rfl rfl rfl hi rfl rfl dX5_wrongLeg_67 rfl ?_
        refine dild_9_2 69 dX5_wrongLeg_68 rfl ?_
        refine dt_icmp_ne 72 95 dX5_wrongLeg_69 rfl (by decide) rfl rfl (fun c => ?_) (fun c => ?_)
        · replace h := ifp c h
          refine dild_9_4 97 dX5_wrongLeg_95 rfl ?_
          exact dr_i hF rfl dX5_wrongLeg_97 h
        · replace h := ifn c h
          refine ald_9_0 73 rfl dX5_wrongLeg_72 rfl ?_
          refine dgf_X5_25 76 rfl dX5_wrongLeg_73 rfl ?_
          refine dild_9_5 78 dX5_wrongLeg_76 rfl ?_
          refine dild_9_6 80 dX5_wrongLeg_78 rfl ?_
          obtain ⟨r1, h1, h⟩ := bp_some h
          refine cvi_2 83 cw_X5_62 (S_X0_leavesAt h1) rfl ⟨by decide, by decide⟩ rfl rfl rfl rfl rfl (Nat.le_of_ble_eq_true rfl) dX5_wrongLeg_80 rfl ?_
          refine dt_if_eq 86 95 dX5_wrongLeg_83 rfl (by decide) rfl (fun c => ?_) (fun c => ?_)
          · replace h := ifp c h
            refine dild_9_4 97 dX5_wrongLeg_95 rfl ?_
            exact dr_i hF rfl dX5_wrongLeg_97 h
          · replace h := ifn c h
            refine dild_9_7 88 dX5_wrongLeg_86 rfl ?_
            refine ald_9_1 89 rfl dX5_wrongLeg_88 rfl ?_
            refine dgf_X5_66 92 rfl dX5_wrongLeg_89 rfl rfl ?_
            refine dt_icmp_le 95 98 dX5_wrongLeg_92 rfl (by decide) rfl rfl (fun c => ?_) (fun c => ?_)
            · replace h := ifp c h
              refine ald_9_0 99 rfl dX5_wrongLeg_98 rfl ?_
              refine dild_9_3 100 dX5_wrongLeg_99 rfl ?_
              refine dild_9_6 102 dX5_wrongLeg_100 rfl ?_
              refine dild_9_2 103 dX5_wrongLeg_102 rfl ?_
              obtain ⟨m2, h2, h⟩ := bm_some h
              refine cvv_3 106 cw_X5_69 (S_X5_stay h2) rfl ⟨by decide, by decide⟩ rfl rfl rfl rfl rfl (Nat.le_of_ble_eq_true rfl) dX5_wrongLeg_103 rfl ?_
              refine ald_9_0 107 rfl dX5_wrongLeg_106 rfl ?_
              refine dgf_X5_21 110 rfl dX5_wrongLeg_107 rfl ?_
              refine dild_9_6 112 dX5_wrongLeg_110 rfl ?_
              refine dt_iconst 113 dX5_wrongLeg_112 rfl ?_
              obtain ⟨hi, h⟩ := ift h
              refine dzast 114 rfl rfl rfl hi rfl isB_0 dX5_wrongLeg_113 rfl ?_
              refine dild_9_6 116 dX5_wrongLeg_114 rfl ?_
              refine dt_iconst 117 dX5_wrongLeg_116 rfl ?_
              refine dt_iadd 118 dX5_wrongLeg_117 rfl ?_
              refine dist_9_8 120 dX5_wrongLeg_118 rfl rfl rfl ?_
              exact At.weak (ls_s (ls_s (ls_n (ls_n (ls_s (ls_s (ls_n (ls_s (ls_s ls_0))))))))) (A_X5_wrongLeg_120 hF hk10 FU _ _ _ _ _ _ h)
            · replace h := ifn c h
              refine dild_9_4 97 dX5_wrongLeg_95 rfl ?_
              exact dr_i hF rfl dX5_wrongLeg_97 h
theorem S_X5_wrongLeg {G : Cx} {μ : Mi} {x1 : Bool} {r : Int} {mm : Mi} (h : D_X5_wrongLeg x1 μ = some (r, mm)) : Spec yd_X5_wrongLeg G [rf G 5 false, rf G 2 x1] (Em μ) (some (iv r)) (Em mm) := by
  refine Spec.of (by decide) rfl (catL_ok rfl) (Nat.le_of_ble_eq_true rfl) rfl (fun b hF => ?_)
  unfold D_X5_wrongLeg at h
  refine ald_9_1 1 rfl dX5_wrongLeg_0 rfl ?_
  refine dgf_X5_49 4 rfl dX5_wrongLeg_1 rfl rfl ?_
  refine dist_9_2 5 dX5_wrongLeg_4 rfl rfl rfl ?_
  refine dt_iconst 6 dX5_wrongLeg_5 rfl ?_
  refine dist_9_3 7 dX5_wrongLeg_6 rfl rfl rfl ?_
  refine dt_iconst 8 dX5_wrongLeg_7 rfl ?_
  refine dist_9_4 10 dX5_wrongLeg_8 rfl rfl rfl ?_
  exact A_X5_wrongLeg_10 hF FU _ _ _ _ _ h
/-- StampTales$Story.sleeplessDay -/
theorem A_X5_sleeplessDay_46 {G : Cx} {b : Ab} {μ : Mi} {r : Int} {k2 : (Bool → Int → Mi → Option Int)} {k21 : (Bool → Int → Int → Int → Mi → Option Int)} (hF : Fi yd_X5_sleeplessDay G b (some (iv r)) (Em μ)) (hk2 : ∀ (x1 : Bool) (x2 : Int), k2 x1 x2 μ = some r → At yd_X5_sleeplessDay G b 2 [some (rf G 5 false), some (rf G 2 x1), some (iv x2), none, none] [] (Em μ)) (hk21 : ∀ (x1 : Bool) (x2 : Int) (x3 : Int) (x4 : Int), k21 x1 x2 x3 x4 μ = some r → At yd_X5_sleeplessDay G b 21 [some (rf G 5 false), some (rf G 2 x1), some (iv x2), some (iv x3), some (iv x4)] [] (Em μ)) (x1 : Bool) (x2 : Int) (x3 : Int) (x4 : Int) (h : B_X5_sleeplessDay_46 k2 k21 x1 x2 x3 x4 μ = some r) : At yd_X5_sleeplessDay G b 46 [some (rf G 5 false), some (rf G 2 x1), some (iv x2), some (iv x3), some (iv x4)] [] (Em μ) := by
  unfold B_X5_sleeplessDay_46 at h
  refine dinc_5_4 49 dX5_sleeplessDay_46 rfl rfl rfl ?_
  refine st_goto 21 dX5_sleeplessDay_49 (by decide) ?_
  exact hk21 _ _ _ _ h
theorem A_X5_sleeplessDay_21 {G : Cx} {b : Ab} {μ : Mi} {r : Int} {k2 : (Bool → Int → Mi → Option Int)} (hF : Fi yd_X5_sleeplessDay G b (some (iv r)) (Em μ)) (hk2 : ∀ (x1 : Bool) (x2 : Int), k2 x1 x2 μ = some r → At yd_X5_sleeplessDay G b 2 [some (rf G 5 false), some (rf G 2 x1), some (iv x2), none, none] [] (Em μ)) : ∀ (n : Nat) (x1 : Bool) (x2 : Int) (x3 : Int) (x4 : Int), B_X5_sleeplessDay_21 k2 n x1 x2 x3 x4 μ = some r → At yd_X5_sleeplessDay G b 21 [some (rf G 5 false), some (rf G 2 x1), some (iv x2), some (iv x3), some (iv x4)] [] (Em μ) := by
  intro n
  induction n with
  | zero =>
    intro x1 x2 x3 x4 h
    exact nope h
  | succ n hk21 =>
    intro x1 x2 x3 x4 h
    replace h : F_X5_sleeplessDay_21 k2 (B_X5_sleeplessDay_21 k2 n) x1 x2 x3 x4 μ = some r := h
    unfold F_X5_sleeplessDay_21 at h
    refine dild_5_4 23 dX5_sleeplessDay_21 rfl ?_
    refine dt_bipush 25 dX5_sleeplessDay_23 bq_8 rfl ?_
    refine dt_icmp_ge 28 52 dX5_sleeplessDay_25 rfl (by decide) rfl wk_8 (fun c => ?_) (fun c => ?_)
    · replace h := ifp c h
      refine dild_5_3 53 dX5_sleeplessDay_52 rfl ?_
      refine ald_5_1 54 rfl dX5_sleeplessDay_53 rfl ?_
      refine dgf_X5_76 57 rfl dX5_sleeplessDay_54 rfl rfl ?_
      refine dt_icmp_ge 60 62 dX5_sleeplessDay_57 rfl (by decide) rfl rfl (fun c => ?_) (fun c => ?_)
      · replace h := ifp c h
        refine dinc_5_2 65 dX5_sleeplessDay_62 rfl rfl rfl ?_
        refine st_goto 2 dX5_sleeplessDay_65 (by decide) ?_
        exact At.weak (ls_s (ls_s (ls_s (ls_n (ls_n ls_0))))) (hk2 _ _ h)
      · replace h := ifn c h
        refine dild_5_2 61 dX5_sleeplessDay_60 rfl ?_
        exact dr_ip hF rfl dX5_sleeplessDay_61 h
    · replace h := ifn c h
      refine ald_5_0 29 rfl dX5_sleeplessDay_28 rfl ?_
      refine dgf_X5_21 32 rfl dX5_sleeplessDay_29 rfl ?_
      refine dild_5_2 33 dX5_sleeplessDay_32 rfl ?_
      refine dt_bipush 35 dX5_sleeplessDay_33 bq_24 rfl ?_
      refine dt_imul 36 dX5_sleeplessDay_35 rfl ?_
      refine dild_5_4 38 dX5_sleeplessDay_36 rfl ?_
      refine dt_iadd 39 dX5_sleeplessDay_38 rfl ?_
      obtain ⟨hi, h⟩ := ift h
      refine dzald 40 rfl rfl rfl hi rfl rfl dX5_sleeplessDay_39 rfl ?_
      refine dt_if_eq 43 46 dX5_sleeplessDay_40 rfl (by decide) rfl (fun c => ?_) (fun c => ?_)
      · replace h := ifp c h
        exact A_X5_sleeplessDay_46 hF hk2 hk21 _ _ _ _ h
      · replace h := ifn c h
        refine dinc_5_3 46 dX5_sleeplessDay_43 rfl rfl rfl ?_
        exact A_X5_sleeplessDay_46 hF hk2 hk21 _ _ _ _ h
theorem A_X5_sleeplessDay_2 {G : Cx} {b : Ab} {μ : Mi} {r : Int} (hF : Fi yd_X5_sleeplessDay G b (some (iv r)) (Em μ)) : ∀ (n : Nat) (x1 : Bool) (x2 : Int), B_X5_sleeplessDay_2 n x1 x2 μ = some r → At yd_X5_sleeplessDay G b 2 [some (rf G 5 false), some (rf G 2 x1), some (iv x2), none, none] [] (Em μ) := by
  intro n
  induction n with
  | zero =>
    intro x1 x2 h
    exact nope h
  | succ n hk2 =>
    intro x1 x2 h
    replace h : F_X5_sleeplessDay_2 (B_X5_sleeplessDay_2 n) x1 x2 μ = some r := h
    unfold F_X5_sleeplessDay_2 at h
    refine dild_5_2 3 dX5_sleeplessDay_2 rfl ?_
    refine dt_bipush 5 dX5_sleeplessDay_3 bq_24 rfl ?_
    refine dt_imul 6 dX5_sleeplessDay_5 rfl ?_
    refine dt_bipush 8 dX5_sleeplessDay_6 bq_8 rfl ?_
    refine dt_iadd 9 dX5_sleeplessDay_8 rfl ?_
    refine ald_5_1 10 rfl dX5_sleeplessDay_9 rfl ?_
    refine dgf_X5_66 13 rfl dX5_sleeplessDay_10 rfl rfl ?_
    refine dt_icmp_gt 16 68 dX5_sleeplessDay_13 rfl (by decide) rfl rfl (fun c => ?_) (fun c => ?_)
    · replace h := ifp c h
      refine dt_iconst 69 dX5_sleeplessDay_68 rfl ?_
      exact dr_ip hF rfl dX5_sleeplessDay_69 h
    · replace h := ifn c h
      refine dt_iconst 17 dX5_sleeplessDay_16 rfl ?_
      refine dist_5_3 18 dX5_sleeplessDay_17 rfl rfl rfl ?_
      refine dt_iconst 19 dX5_sleeplessDay_18 rfl ?_
      refine dist_5_4 21 dX5_sleeplessDay_19 rfl rfl rfl ?_
      exact A_X5_sleeplessDay_21 hF hk2 FU _ _ _ _ h
theorem S_X5_sleeplessDay {G : Cx} {μ : Mi} {x1 : Bool} {r : Int} (h : D_X5_sleeplessDay x1 μ = some r) : Spec yd_X5_sleeplessDay G [rf G 5 false, rf G 2 x1] (Em μ) (some (iv r)) (Em μ) := by
  refine Spec.of (by decide) rfl (catL_ok rfl) (Nat.le_of_ble_eq_true rfl) rfl (fun b hF => ?_)
  unfold D_X5_sleeplessDay at h
  refine dt_iconst 1 dX5_sleeplessDay_0 rfl ?_
  refine dist_5_2 2 dX5_sleeplessDay_1 rfl rfl rfl ?_
  exact A_X5_sleeplessDay_2 hF FU _ _ h
/-- StampTales$Story.stampBehind -/
theorem A_X5_stampBehind_4 {G : Cx} {b : Ab} {μ : Mi} {r : Int} (hF : Fi yd_X5_stampBehind G b (some (iv r)) (Em μ)) : ∀ (n : Nat) (x0 : Bool) (x2 : Int), B_X5_stampBehind_4 n x0 x2 μ = some r → At yd_X5_stampBehind G b 4 [some (rf G 2 x0), none, some (iv x2)] [] (Em μ) := by
  intro n
  induction n with
  | zero =>
    intro x0 x2 h
    exact nope h
  | succ n hk4 =>
    intro x0 x2 h
    replace h : F_X5_stampBehind_4 (B_X5_stampBehind_4 n) x0 x2 μ = some r := h
    unfold F_X5_stampBehind_4 at h
    refine dild_3_2 5 dX5_stampBehind_4 rfl ?_
    refine ald_3_0 6 rfl dX5_stampBehind_5 rfl ?_
    refine dgf_X5_97 9 rfl dX5_stampBehind_6 rfl rfl ?_
    refine dt_icmp_ge 12 29 dX5_stampBehind_9 rfl (by decide) rfl rfl (fun c => ?_) (fun c => ?_)
    · replace h := ifp c h
      refine dt_iconst 30 dX5_stampBehind_29 rfl ?_
      exact dr_ip hF rfl dX5_stampBehind_30 h
    · replace h := ifn c h
      refine ald_3_0 13 rfl dX5_stampBehind_12 rfl ?_
      refine dild_3_2 14 dX5_stampBehind_13 rfl ?_
      refine dt_iconst 15 dX5_stampBehind_14 rfl ?_
      obtain ⟨r1, h1, h⟩ := bp_some h
      refine cvi_2 18 cw_X5_98 (S_X2_counts h1) rfl ⟨by decide, by decide⟩ rfl rfl rfl rfl rfl (Nat.le_of_ble_eq_true rfl) dX5_stampBehind_15 rfl ?_
      refine dt_if_eq 21 23 dX5_stampBehind_18 rfl (by decide) rfl (fun c => ?_) (fun c => ?_)
      · replace h := ifp c h
        refine dinc_3_2 26 dX5_stampBehind_23 rfl rfl rfl ?_
        refine st_goto 4 dX5_stampBehind_26 (by decide) ?_
        exact hk4 _ _ h
      · replace h := ifn c h
        refine dild_3_2 22 dX5_stampBehind_21 rfl ?_
        exact dr_ip hF rfl dX5_stampBehind_22 h
theorem S_X5_stampBehind {G : Cx} {μ : Mi} {x0 : Bool} {x1 : Int} {r : Int} (h : D_X5_stampBehind x0 x1 μ = some r) : Spec yd_X5_stampBehind G [rf G 2 x0, iv x1] (Em μ) (some (iv r)) (Em μ) := by
  refine Spec.of (by decide) rfl (catL_ok rfl) (Nat.le_of_ble_eq_true rfl) rfl (fun b hF => ?_)
  unfold D_X5_stampBehind at h
  refine dild_3_1 1 dX5_stampBehind_0 rfl ?_
  refine dt_iconst 2 dX5_stampBehind_1 rfl ?_
  refine dt_iadd 3 dX5_stampBehind_2 rfl ?_
  refine dist_3_2 4 dX5_stampBehind_3 rfl rfl rfl ?_
  exact At.weak (ls_s (ls_n (ls_s ls_0))) (A_X5_stampBehind_4 hF FU _ _ h)
/-- StampTales$Story.wrongStamp -/
theorem A_X5_wrongStamp_179 {G : Cx} {b : Ab} {μ : Mi} {r : Int} {k11 : (Bool → Int → Int → Int → Mi → Option Int)} (hF : Fi yd_X5_wrongStamp G b (some (iv r)) (Em μ)) (hk11 : ∀ (x1 : Bool) (x2 : Int) (x3 : Int) (x4 : Int), k11 x1 x2 x3 x4 μ = some r → At yd_X5_wrongStamp G b 11 [some (rf G 5 false), some (rf G 2 x1), some (iv x2), some (iv x3), some (iv x4), none, none, none] [] (Em μ)) (x1 : Bool) (x2 : Int) (x3 : Int) (x4 : Int) (h : B_X5_wrongStamp_179 k11 x1 x2 x3 x4 μ = some r) : At yd_X5_wrongStamp G b 179 [some (rf G 5 false), some (rf G 2 x1), some (iv x2), some (iv x3), some (iv x4), none, none, none] [] (Em μ) := by
  unfold B_X5_wrongStamp_179 at h
  refine dinc_8_4 182 dX5_wrongStamp_179 rfl rfl rfl ?_
  refine st_goto 11 dX5_wrongStamp_182 (by decide) ?_
  exact hk11 _ _ _ _ h
theorem A_X5_wrongStamp_116 {G : Cx} {b : Ab} {μ : Mi} {r : Int} {k11 : (Bool → Int → Int → Int → Mi → Option Int)} (hF : Fi yd_X5_wrongStamp G b (some (iv r)) (Em μ)) (hk11 : ∀ (x1 : Bool) (x2 : Int) (x3 : Int) (x4 : Int), k11 x1 x2 x3 x4 μ = some r → At yd_X5_wrongStamp G b 11 [some (rf G 5 false), some (rf G 2 x1), some (iv x2), some (iv x3), some (iv x4), none, none, none] [] (Em μ)) (x1 : Bool) (x2 : Int) (x3 : Int) (x4 : Int) (x5 : Int) (x7 : Int) (h : B_X5_wrongStamp_116 k11 x1 x2 x3 x4 x5 x7 μ = some r) : At yd_X5_wrongStamp G b 116 [some (rf G 5 false), some (rf G 2 x1), some (iv x2), some (iv x3), some (iv x4), some (iv x5), none, some (iv x7)] [] (Em μ) := by
  unfold B_X5_wrongStamp_116 at h
  refine ald_8_0 117 rfl dX5_wrongStamp_116 rfl ?_
  refine dgf_X5_25 120 rfl dX5_wrongStamp_117 rfl ?_
  refine dgf_X5_94 123 rfl dX5_wrongStamp_120 rfl ?_
  refine dild_8_5 125 dX5_wrongStamp_123 rfl ?_
  obtain ⟨hi, h⟩ := ift h
  refine diald 126 rfl rfl rfl hi rfl rfl dX5_wrongStamp_125 rfl ?_
  refine dt_iconst 127 dX5_wrongStamp_126 rfl ?_
  refine dt_icmp_eq 130 179 dX5_wrongStamp_127 rfl (by decide) rfl wk_m1 (fun c => ?_) (fun c => ?_)
  · replace h := ifp c h
    exact At.weak (ls_s (ls_s (ls_s (ls_s (ls_s (ls_n (ls_n (ls_n ls_0)))))))) (A_X5_wrongStamp_179 hF hk11 _ _ _ _ h)
  · replace h := ifn c h
    refine ald_8_1 131 rfl dX5_wrongStamp_130 rfl ?_
    refine dild_8_3 132 dX5_wrongStamp_131 rfl ?_
    refine ald_8_0 133 rfl dX5_wrongStamp_132 rfl ?_
    refine dgf_X5_25 136 rfl dX5_wrongStamp_133 rfl ?_
    refine dgf_X5_94 139 rfl dX5_wrongStamp_136 rfl ?_
    refine dild_8_5 141 dX5_wrongStamp_139 rfl ?_
    obtain ⟨hi, h⟩ := ift h
    refine diald 142 rfl rfl rfl hi rfl rfl dX5_wrongStamp_141 rfl ?_
    refine dt_iconst 143 dX5_wrongStamp_142 rfl ?_
    refine ald_8_0 144 rfl dX5_wrongStamp_143 rfl ?_
    refine dgf_X5_25 147 rfl dX5_wrongStamp_144 rfl ?_
    refine dild_8_7 149 dX5_wrongStamp_147 rfl ?_
    refine ald_8_0 150 rfl dX5_wrongStamp_149 rfl ?_
    refine dgf_X5_25 153 rfl dX5_wrongStamp_150 rfl ?_
    refine dgf_X5_73 156 rfl dX5_wrongStamp_153 rfl ?_
    refine dild_8_5 158 dX5_wrongStamp_156 rfl ?_
    obtain ⟨hi, h⟩ := ift h
    refine diald 159 rfl rfl rfl hi rfl rfl dX5_wrongStamp_158 rfl ?_
    obtain ⟨r1, h1, h⟩ := bp_some h
    refine cvi_2 162 cw_X5_86 (S_X0_dayAt h1) rfl ⟨by decide, by decide⟩ rfl rfl rfl rfl rfl (Nat.le_of_ble_eq_true rfl) dX5_wrongStamp_159 rfl ?_
    obtain ⟨r2, h2, h⟩ := bp_some h
    refine cvi_4 165 cw_X5_90 (S_X2_stampFits h2) rfl ⟨by decide, by decide⟩ rfl rfl rfl rfl rfl (Nat.le_of_ble_eq_true rfl) dX5_wrongStamp_162 rfl ?_
    refine dt_if_ne 168 170 dX5_wrongStamp_165 rfl (by decide) rfl (fun c => ?_) (fun c => ?_)
    · replace h := ifp c h
      refine dinc_8_2 173 dX5_wrongStamp_170 rfl rfl rfl ?_
      refine ald_8_1 174 rfl dX5_wrongStamp_173 rfl ?_
      refine dild_8_3 175 dX5_wrongStamp_174 rfl ?_
      obtain ⟨r3, h3, h⟩ := bp_some h
      refine csi_2 178 cw_X5_79 (S_X5_stampBehind h3) rfl ⟨by decide, by decide⟩ (Nat.le_of_ble_eq_true rfl) dX5_wrongStamp_175 rfl ?_
      refine dist_8_3 179 dX5_wrongStamp_178 rfl rfl rfl ?_
      exact At.weak (ls_s (ls_s (ls_s (ls_s (ls_s (ls_n (ls_n (ls_n ls_0)))))))) (A_X5_wrongStamp_179 hF hk11 _ _ _ _ h)
    · replace h := ifn c h
      refine dild_8_2 169 dX5_wrongStamp_168 rfl ?_
      exact dr_ip hF rfl dX5_wrongStamp_169 h
theorem A_X5_wrongStamp_11 {G : Cx} {b : Ab} {μ : Mi} {r : Int} (hF : Fi yd_X5_wrongStamp G b (some (iv r)) (Em μ)) : ∀ (n : Nat) (x1 : Bool) (x2 : Int) (x3 : Int) (x4 : Int), B_X5_wrongStamp_11 n x1 x2 x3 x4 μ = some r → At yd_X5_wrongStamp G b 11 [some (rf G 5 false), some (rf G 2 x1), some (iv x2), some (iv x3), some (iv x4), none, none, none] [] (Em μ) := by
  intro n
  induction n with
  | zero =>
    intro x1 x2 x3 x4 h
    exact nope h
  | succ n hk11 =>
    intro x1 x2 x3 x4 h
    replace h : F_X5_wrongStamp_11 (B_X5_wrongStamp_11 n) x1 x2 x3 x4 μ = some r := h
    unfold F_X5_wrongStamp_11 at h
    refine dild_8_4 13 dX5_wrongStamp_11 rfl ?_
    refine ald_8_0 14 rfl dX5_wrongStamp_13 rfl ?_
    refine dgf_X5_29 17 rfl dX5_wrongStamp_14 rfl rfl ?_
    refine dt_icmp_ge 20 185 dX5_wrongStamp_17 rfl (by decide) rfl rfl (fun c => ?_) (fun c => ?_)
    · replace h := ifp c h
      refine dild_8_3 186 dX5_wrongStamp_185 rfl ?_
      refine dt_iconst 187 dX5_wrongStamp_186 rfl ?_
      refine dt_icmp_ne 190 194 dX5_wrongStamp_187 rfl (by decide) rfl wk_m1 (fun c => ?_) (fun c => ?_)
      · replace h := ifp c h
        refine dild_8_2 195 dX5_wrongStamp_194 rfl ?_
        exact dr_ip hF rfl dX5_wrongStamp_195 h
      · replace h := ifn c h
        refine dt_iconst 191 dX5_wrongStamp_190 rfl ?_
        refine st_goto 195 dX5_wrongStamp_191 (by decide) ?_
        exact dr_ip hF rfl dX5_wrongStamp_195 h
    · replace h := ifn c h
      refine ald_8_0 21 rfl dX5_wrongStamp_20 rfl ?_
      refine dgf_X5_11 24 rfl dX5_wrongStamp_21 rfl ?_
      refine dild_8_4 26 dX5_wrongStamp_24 rfl ?_
      obtain ⟨hi, h⟩ := ift h
      refine diald 27 rfl rfl rfl hi rfl rfl dX5_wrongStamp_26 rfl ?_
      refine dist_8_5 29 dX5_wrongStamp_27 rfl rfl rfl ?_
      refine ald_8_0 30 rfl dX5_wrongStamp_29 rfl ?_
      refine dgf_X5_15 33 rfl dX5_wrongStamp_30 rfl ?_
      refine dild_8_4 35 dX5_wrongStamp_33 rfl ?_
      obtain ⟨hi, h⟩ := ift h
      refine diald 36 rfl rfl rfl hi rfl rfl dX5_wrongStamp_35 rfl ?_
      refine dist_8_6 38 dX5_wrongStamp_36 rfl rfl rfl ?_
      refine dild_8_6 40 dX5_wrongStamp_38 rfl ?_
      refine ald_8_0 41 rfl dX5_wrongStamp_40 rfl ?_
      refine dgf_X5_25 44 rfl dX5_wrongStamp_41 rfl ?_
      refine dgf_X5_54 47 rfl dX5_wrongStamp_44 rfl ?_
      refine dild_8_5 49 dX5_wrongStamp_47 rfl ?_
      obtain ⟨hi, h⟩ := ift h
      refine diald 50 rfl rfl rfl hi rfl rfl dX5_wrongStamp_49 rfl ?_
      refine dt_iadd 51 dX5_wrongStamp_50 rfl ?_
      refine dist_8_7 53 dX5_wrongStamp_51 rfl rfl rfl ?_
      refine ald_8_0 54 rfl dX5_wrongStamp_53 rfl ?_
      refine dgf_X5_25 57 rfl dX5_wrongStamp_54 rfl ?_
      refine dgf_X5_83 60 rfl dX5_wrongStamp_57 rfl ?_
      refine dild_8_5 62 dX5_wrongStamp_60 rfl ?_
      obtain ⟨hi, h⟩ := ift h
      refine diald 63 rfl rfl rfl hi rfl rfl dX5_wrongStamp_62 rfl ?_
      refine dt_iconst 64 dX5_wrongStamp_63 rfl ?_
      refine dt_icmp_eq 67 116 dX5_wrongStamp_64 rfl (by decide) rfl wk_m1 (fun c => ?_) (fun c => ?_)
      · replace h := ifp c h
        exact At.weak (ls_s (ls_s (ls_s (ls_s (ls_s (ls_s (ls_n (ls_s ls_0)))))))) (A_X5_wrongStamp_116 hF hk11 _ _ _ _ _ _ h)
      · replace h := ifn c h
        refine ald_8_1 68 rfl dX5_wrongStamp_67 rfl ?_
        refine dild_8_3 69 dX5_wrongStamp_68 rfl ?_
        refine ald_8_0 70 rfl dX5_wrongStamp_69 rfl ?_
        refine dgf_X5_25 73 rfl dX5_wrongStamp_70 rfl ?_
        refine dgf_X5_83 76 rfl dX5_wrongStamp_73 rfl ?_
        refine dild_8_5 78 dX5_wrongStamp_76 rfl ?_
        obtain ⟨hi, h⟩ := ift h
        refine diald 79 rfl rfl rfl hi rfl rfl dX5_wrongStamp_78 rfl ?_
        refine dt_iconst 80 dX5_wrongStamp_79 rfl ?_
        refine ald_8_0 81 rfl dX5_wrongStamp_80 rfl ?_
        refine dgf_X5_25 84 rfl dX5_wrongStamp_81 rfl ?_
        refine dild_8_6 86 dX5_wrongStamp_84 rfl ?_
        refine ald_8_0 87 rfl dX5_wrongStamp_86 rfl ?_
        refine dgf_X5_25 90 rfl dX5_wrongStamp_87 rfl ?_
        refine dgf_X5_59 93 rfl dX5_wrongStamp_90 rfl ?_
        refine dild_8_5 95 dX5_wrongStamp_93 rfl ?_
        obtain ⟨hi, h⟩ := ift h
        refine diald 96 rfl rfl rfl hi rfl rfl dX5_wrongStamp_95 rfl ?_
        obtain ⟨r1, h1, h⟩ := bp_some h
        refine cvi_2 99 cw_X5_86 (S_X0_dayAt h1) rfl ⟨by decide, by decide⟩ rfl rfl rfl rfl rfl (Nat.le_of_ble_eq_true rfl) dX5_wrongStamp_96 rfl ?_
        obtain ⟨r2, h2, h⟩ := bp_some h
        refine cvi_4 102 cw_X5_90 (S_X2_stampFits h2) rfl ⟨by decide, by decide⟩ rfl rfl rfl rfl rfl (Nat.le_of_ble_eq_true rfl) dX5_wrongStamp_99 rfl ?_
        refine dt_if_ne 105 107 dX5_wrongStamp_102 rfl (by decide) rfl (fun c => ?_) (fun c => ?_)
        · replace h := ifp c h
          refine dinc_8_2 110 dX5_wrongStamp_107 rfl rfl rfl ?_
          refine ald_8_1 111 rfl dX5_wrongStamp_110 rfl ?_
          refine dild_8_3 112 dX5_wrongStamp_111 rfl ?_
          obtain ⟨r3, h3, h⟩ := bp_some h
          refine csi_2 115 cw_X5_79 (S_X5_stampBehind h3) rfl ⟨by decide, by decide⟩ (Nat.le_of_ble_eq_true rfl) dX5_wrongStamp_112 rfl ?_
          refine dist_8_3 116 dX5_wrongStamp_115 rfl rfl rfl ?_
          exact At.weak (ls_s (ls_s (ls_s (ls_s (ls_s (ls_s (ls_n (ls_s ls_0)))))))) (A_X5_wrongStamp_116 hF hk11 _ _ _ _ _ _ h)
        · replace h := ifn c h
          refine dild_8_2 106 dX5_wrongStamp_105 rfl ?_
          exact dr_ip hF rfl dX5_wrongStamp_106 h
theorem S_X5_wrongStamp {G : Cx} {μ : Mi} {x1 : Bool} {r : Int} (h : D_X5_wrongStamp x1 μ = some r) : Spec yd_X5_wrongStamp G [rf G 5 false, rf G 2 x1] (Em μ) (some (iv r)) (Em μ) := by
  refine Spec.of (by decide) rfl (catL_ok rfl) (Nat.le_of_ble_eq_true rfl) rfl (fun b hF => ?_)
  unfold D_X5_wrongStamp at h
  refine dt_iconst 1 dX5_wrongStamp_0 rfl ?_
  refine dist_8_2 2 dX5_wrongStamp_1 rfl rfl rfl ?_
  refine ald_8_1 3 rfl dX5_wrongStamp_2 rfl ?_
  refine dt_iconst 4 dX5_wrongStamp_3 rfl ?_
  obtain ⟨r1, h1, h⟩ := bp_some h
  refine csi_2 7 cw_X5_79 (S_X5_stampBehind h1) rfl ⟨by decide, by decide⟩ (Nat.le_of_ble_eq_true rfl) dX5_wrongStamp_4 rfl ?_
  refine dist_8_3 8 dX5_wrongStamp_7 rfl rfl rfl ?_
  refine dt_iconst 9 dX5_wrongStamp_8 rfl ?_
  refine dist_8_4 11 dX5_wrongStamp_9 rfl rfl rfl ?_
  exact A_X5_wrongStamp_11 hF FU _ _ _ _ h
/-- StampTales$Story.missedPaper -/
theorem A_X5_missedPaper_54 {G : Cx} {b : Ab} {μ : Mi} {r : Int} {k2 : (Bool → Int → Mi → Option Int)} (hF : Fi yd_X5_missedPaper G b (some (iv r)) (Em μ)) (hk2 : ∀ (x1 : Bool) (x2 : Int), k2 x1 x2 μ = some r → At yd_X5_missedPaper G b 2 [some (rf G 5 false), some (rf G 2 x1), some (iv x2)] [] (Em μ)) (x1 : Bool) (x2 : Int) (h : B_X5_missedPaper_54 k2 x1 x2 μ = some r) : At yd_X5_missedPaper G b 54 [some (rf G 5 false), some (rf G 2 x1), some (iv x2)] [] (Em μ) := by
  unfold B_X5_missedPaper_54 at h
  refine dinc_3_2 57 dX5_missedPaper_54 rfl rfl rfl ?_
  refine st_goto 2 dX5_missedPaper_57 (by decide) ?_
  exact hk2 _ _ h
theorem A_X5_missedPaper_2 {G : Cx} {b : Ab} {μ : Mi} {r : Int} (hF : Fi yd_X5_missedPaper G b (some (iv r)) (Em μ)) : ∀ (n : Nat) (x1 : Bool) (x2 : Int), B_X5_missedPaper_2 n x1 x2 μ = some r → At yd_X5_missedPaper G b 2 [some (rf G 5 false), some (rf G 2 x1), some (iv x2)] [] (Em μ) := by
  intro n
  induction n with
  | zero =>
    intro x1 x2 h
    exact nope h
  | succ n hk2 =>
    intro x1 x2 h
    replace h : F_X5_missedPaper_2 (B_X5_missedPaper_2 n) x1 x2 μ = some r := h
    unfold F_X5_missedPaper_2 at h
    refine dild_3_2 3 dX5_missedPaper_2 rfl ?_
    refine ald_3_1 4 rfl dX5_missedPaper_3 rfl ?_
    refine dgf_X5_97 7 rfl dX5_missedPaper_4 rfl rfl ?_
    refine dt_icmp_ge 10 60 dX5_missedPaper_7 rfl (by decide) rfl rfl (fun c => ?_) (fun c => ?_)
    · replace h := ifp c h
      refine dt_iconst 61 dX5_missedPaper_60 rfl ?_
      exact dr_ip hF rfl dX5_missedPaper_61 h
    · replace h := ifn c h
      refine ald_3_1 11 rfl dX5_missedPaper_10 rfl ?_
      refine dild_3_2 12 dX5_missedPaper_11 rfl ?_
      refine dt_iconst 13 dX5_missedPaper_12 rfl ?_
      obtain ⟨r1, h1, h⟩ := bp_some h
      refine cvi_2 16 cw_X5_98 (S_X2_counts h1) rfl ⟨by decide, by decide⟩ rfl rfl rfl rfl rfl (Nat.le_of_ble_eq_true rfl) dX5_missedPaper_13 rfl ?_
      refine dt_if_eq 19 54 dX5_missedPaper_16 rfl (by decide) rfl (fun c => ?_) (fun c => ?_)
      · replace h := ifp c h
        exact A_X5_missedPaper_54 hF hk2 _ _ h
      · replace h := ifn c h
        refine ald_3_1 20 rfl dX5_missedPaper_19 rfl ?_
        refine dgf_X5_101 23 rfl dX5_missedPaper_20 rfl ?_
        refine dild_3_2 24 dX5_missedPaper_23 rfl ?_
        obtain ⟨hi, h⟩ := ift h
        refine diald 25 rfl rfl rfl hi rfl rfl dX5_missedPaper_24 rfl ?_
        refine ald_3_1 26 rfl dX5_missedPaper_25 rfl ?_
        refine dgf_X5_66 29 rfl dX5_missedPaper_26 rfl rfl ?_
        refine dt_icmp_gt 32 54 dX5_missedPaper_29 rfl (by decide) rfl rfl (fun c => ?_) (fun c => ?_)
        · replace h := ifp c h
          exact A_X5_missedPaper_54 hF hk2 _ _ h
        · replace h := ifn c h
          refine ald_3_0 33 rfl dX5_missedPaper_32 rfl ?_
          refine dgf_X5_18 36 rfl dX5_missedPaper_33 rfl ?_
          refine ald_3_1 37 rfl dX5_missedPaper_36 rfl ?_
          refine dgf_X5_101 40 rfl dX5_missedPaper_37 rfl ?_
          refine dild_3_2 41 dX5_missedPaper_40 rfl ?_
          obtain ⟨hi, h⟩ := ift h
          refine diald 42 rfl rfl rfl hi rfl rfl dX5_missedPaper_41 rfl ?_
          obtain ⟨hi, h⟩ := ift h
          refine diald 43 rfl rfl rfl hi rfl rfl dX5_missedPaper_42 rfl ?_
          refine ald_3_1 44 rfl dX5_missedPaper_43 rfl ?_
          refine dgf_X5_102 47 rfl dX5_missedPaper_44 rfl ?_
          refine dild_3_2 48 dX5_missedPaper_47 rfl ?_
          obtain ⟨hi, h⟩ := ift h
          refine diald 49 rfl rfl rfl hi rfl rfl dX5_missedPaper_48 rfl ?_
          refine dt_icmp_eq 52 54 dX5_missedPaper_49 rfl (by decide) rfl rfl (fun c => ?_) (fun c => ?_)
          · replace h := ifp c h
            exact A_X5_missedPaper_54 hF hk2 _ _ h
          · replace h := ifn c h
            refine dild_3_2 53 dX5_missedPaper_52 rfl ?_
            exact dr_ip hF rfl dX5_missedPaper_53 h
theorem S_X5_missedPaper {G : Cx} {μ : Mi} {x1 : Bool} {r : Int} (h : D_X5_missedPaper x1 μ = some r) : Spec yd_X5_missedPaper G [rf G 5 false, rf G 2 x1] (Em μ) (some (iv r)) (Em μ) := by
  refine Spec.of (by decide) rfl (catL_ok rfl) (Nat.le_of_ble_eq_true rfl) rfl (fun b hF => ?_)
  unfold D_X5_missedPaper at h
  refine dt_iconst 1 dX5_missedPaper_0 rfl ?_
  refine dist_3_2 2 dX5_missedPaper_1 rfl rfl rfl ?_
  exact A_X5_missedPaper_2 hF FU _ _ h
/-- StampTales$Story.isSeen -/
theorem A_X5_isSeen_22 {G : Cx} {b : Ab} {μ : Mi} {r : Int} (hF : Fi yd_X5_isSeen G b (some (iv r)) (Em μ)) : ∀ (n : Nat) (x1 : Bool) (x2 : Int) (x3 : Int) (x4 : Int), B_X5_isSeen_22 n x1 x2 x3 x4 μ = some r → At yd_X5_isSeen G b 22 [some (rf G 5 false), some (rf G 2 x1), some (iv x2), some (iv x3), some (iv x4)] [] (Em μ) := by
  intro n
  induction n with
  | zero =>
    intro x1 x2 x3 x4 h
    exact nope h
  | succ n hk22 =>
    intro x1 x2 x3 x4 h
    replace h : F_X5_isSeen_22 (B_X5_isSeen_22 n) x1 x2 x3 x4 μ = some r := h
    unfold F_X5_isSeen_22 at h
    refine dild_5_4 24 dX5_isSeen_22 rfl ?_
    refine dild_5_3 25 dX5_isSeen_24 rfl ?_
    refine dt_icmp_gt 28 52 dX5_isSeen_25 rfl (by decide) rfl rfl (fun c => ?_) (fun c => ?_)
    · replace h := ifp c h
      refine dt_iconst 53 dX5_isSeen_52 rfl ?_
      exact dr_zp hF rfl isB_0 dX5_isSeen_53 h
    · replace h := ifn c h
      refine ald_5_0 29 rfl dX5_isSeen_28 rfl ?_
      refine dgf_X5_18 32 rfl dX5_isSeen_29 rfl ?_
      refine dild_5_4 34 dX5_isSeen_32 rfl ?_
      obtain ⟨hi, h⟩ := ift h
      refine diald 35 rfl rfl rfl hi rfl rfl dX5_isSeen_34 rfl ?_
      refine ald_5_1 36 rfl dX5_isSeen_35 rfl ?_
      refine dgf_X5_102 39 rfl dX5_isSeen_36 rfl ?_
      refine dild_5_2 40 dX5_isSeen_39 rfl ?_
      obtain ⟨hi, h⟩ := ift h
      refine diald 41 rfl rfl rfl hi rfl rfl dX5_isSeen_40 rfl ?_
      refine dt_icmp_ne 44 46 dX5_isSeen_41 rfl (by decide) rfl rfl (fun c => ?_) (fun c => ?_)
      · replace h := ifp c h
        refine dinc_5_4 49 dX5_isSeen_46 rfl rfl rfl ?_
        refine st_goto 22 dX5_isSeen_49 (by decide) ?_
        exact hk22 _ _ _ _ h
      · replace h := ifn c h
        refine dt_iconst 45 dX5_isSeen_44 rfl ?_
        exact dr_zp hF rfl isB_1 dX5_isSeen_45 h
theorem S_X5_isSeen {G : Cx} {μ : Mi} {x1 : Bool} {x2 : Int} {r : Int} (h : D_X5_isSeen x1 x2 μ = some r) : Spec yd_X5_isSeen G [rf G 5 false, rf G 2 x1, iv x2] (Em μ) (some (iv r)) (Em μ) := by
  refine Spec.of (by decide) rfl (catL_ok rfl) (Nat.le_of_ble_eq_true rfl) rfl (fun b hF => ?_)
  unfold D_X5_isSeen at h
  refine ald_5_1 1 rfl dX5_isSeen_0 rfl ?_
  refine dgf_X5_109 4 rfl dX5_isSeen_1 rfl ?_
  refine dild_5_2 5 dX5_isSeen_4 rfl ?_
  obtain ⟨hi, h⟩ := ift h
  refine diald 6 rfl rfl rfl hi rfl rfl dX5_isSeen_5 rfl ?_
  refine ald_5_1 7 rfl dX5_isSeen_6 rfl ?_
  refine dgf_X5_66 10 rfl dX5_isSeen_7 rfl rfl ?_
  refine dmmin 13 rfl cw_X5_110 ⟨by decide, by decide⟩ (Nat.le_of_ble_eq_true rfl) dX5_isSeen_10 rfl ?_
  refine dist_5_3 14 dX5_isSeen_13 rfl rfl rfl ?_
  refine ald_5_1 15 rfl dX5_isSeen_14 rfl ?_
  refine dgf_X5_101 18 rfl dX5_isSeen_15 rfl ?_
  refine dild_5_2 19 dX5_isSeen_18 rfl ?_
  obtain ⟨hi, h⟩ := ift h
  refine diald 20 rfl rfl rfl hi rfl rfl dX5_isSeen_19 rfl ?_
  refine dist_5_4 22 dX5_isSeen_20 rfl rfl rfl ?_
  exact A_X5_isSeen_22 hF FU _ _ _ _ h
/-- StampTales$Story.missedLook -/
theorem A_X5_missedLook_30 {G : Cx} {b : Ab} {μ : Mi} {r : Int} {k2 : (Bool → Int → Mi → Option Int)} (hF : Fi yd_X5_missedLook G b (some (iv r)) (Em μ)) (hk2 : ∀ (x1 : Bool) (x2 : Int), k2 x1 x2 μ = some r → At yd_X5_missedLook G b 2 [some (rf G 5 false), some (rf G 2 x1), some (iv x2)] [] (Em μ)) (x1 : Bool) (x2 : Int) (h : B_X5_missedLook_30 k2 x1 x2 μ = some r) : At yd_X5_missedLook G b 30 [some (rf G 5 false), some (rf G 2 x1), some (iv x2)] [] (Em μ) := by
  unfold B_X5_missedLook_30 at h
  refine dinc_3_2 33 dX5_missedLook_30 rfl rfl rfl ?_
  refine st_goto 2 dX5_missedLook_33 (by decide) ?_
  exact hk2 _ _ h
theorem A_X5_missedLook_2 {G : Cx} {b : Ab} {μ : Mi} {r : Int} (hF : Fi yd_X5_missedLook G b (some (iv r)) (Em μ)) : ∀ (n : Nat) (x1 : Bool) (x2 : Int), B_X5_missedLook_2 n x1 x2 μ = some r → At yd_X5_missedLook G b 2 [some (rf G 5 false), some (rf G 2 x1), some (iv x2)] [] (Em μ) := by
  intro n
  induction n with
  | zero =>
    intro x1 x2 h
    exact nope h
  | succ n hk2 =>
    intro x1 x2 h
    replace h : F_X5_missedLook_2 (B_X5_missedLook_2 n) x1 x2 μ = some r := h
    unfold F_X5_missedLook_2 at h
    refine dild_3_2 3 dX5_missedLook_2 rfl ?_
    refine ald_3_1 4 rfl dX5_missedLook_3 rfl ?_
    refine dgf_X5_97 7 rfl dX5_missedLook_4 rfl rfl ?_
    refine dt_icmp_ge 10 36 dX5_missedLook_7 rfl (by decide) rfl rfl (fun c => ?_) (fun c => ?_)
    · replace h := ifp c h
      refine dt_iconst 37 dX5_missedLook_36 rfl ?_
      exact dr_ip hF rfl dX5_missedLook_37 h
    · replace h := ifn c h
      refine ald_3_1 11 rfl dX5_missedLook_10 rfl ?_
      refine dild_3_2 12 dX5_missedLook_11 rfl ?_
      refine dt_iconst 13 dX5_missedLook_12 rfl ?_
      obtain ⟨r1, h1, h⟩ := bp_some h
      refine cvi_2 16 cw_X5_98 (S_X2_counts h1) rfl ⟨by decide, by decide⟩ rfl rfl rfl rfl rfl (Nat.le_of_ble_eq_true rfl) dX5_missedLook_13 rfl ?_
      refine dt_if_eq 19 30 dX5_missedLook_16 rfl (by decide) rfl (fun c => ?_) (fun c => ?_)
      · replace h := ifp c h
        exact A_X5_missedLook_30 hF hk2 _ _ h
      · replace h := ifn c h
        refine ald_3_0 20 rfl dX5_missedLook_19 rfl ?_
        refine ald_3_1 21 rfl dX5_missedLook_20 rfl ?_
        refine dild_3_2 22 dX5_missedLook_21 rfl ?_
        obtain ⟨r2, h2, h⟩ := bp_some h
        refine cvi_2 25 cw_X5_105 (S_X5_isSeen h2) rfl ⟨by decide, by decide⟩ rfl rfl rfl rfl rfl (Nat.le_of_ble_eq_true rfl) dX5_missedLook_22 rfl ?_
        refine dt_if_ne 28 30 dX5_missedLook_25 rfl (by decide) rfl (fun c => ?_) (fun c => ?_)
        · replace h := ifp c h
          exact A_X5_missedLook_30 hF hk2 _ _ h
        · replace h := ifn c h
          refine dild_3_2 29 dX5_missedLook_28 rfl ?_
          exact dr_ip hF rfl dX5_missedLook_29 h
theorem S_X5_missedLook {G : Cx} {μ : Mi} {x1 : Bool} {r : Int} (h : D_X5_missedLook x1 μ = some r) : Spec yd_X5_missedLook G [rf G 5 false, rf G 2 x1] (Em μ) (some (iv r)) (Em μ) := by
  refine Spec.of (by decide) rfl (catL_ok rfl) (Nat.le_of_ble_eq_true rfl) rfl (fun b hF => ?_)
  unfold D_X5_missedLook at h
  refine dt_iconst 1 dX5_missedLook_0 rfl ?_
  refine dist_3_2 2 dX5_missedLook_1 rfl rfl rfl ?_
  exact A_X5_missedLook_2 hF FU _ _ h
/-- StampTales$Story.barOf -/
theorem S_X5_barOf {G : Cx} {μ : Mi} {x1 : Bool} {r : Int} {mm : Mi} (h : D_X5_barOf x1 μ = some (r, mm)) : Spec yd_X5_barOf G [rf G 5 false, rf G 2 x1] (Em μ) (some (iv r)) (Em mm) := by
  refine Spec.of (by decide) rfl (catL_ok rfl) (Nat.le_of_ble_eq_true rfl) rfl (fun b hF => ?_)
  unfold D_X5_barOf at h
  refine ald_3_0 1 rfl dX5_barOf_0 rfl ?_
  refine ald_3_1 2 rfl dX5_barOf_1 rfl ?_
  obtain ⟨r1, m1, h1, h⟩ := bd_some h
  refine cvi_1 5 cw_X5_33 (S_X5_wrongLeg h1) rfl ⟨by decide, by decide⟩ rfl rfl rfl rfl rfl (Nat.le_of_ble_eq_true rfl) dX5_barOf_2 rfl ?_
  refine dist_3_2 6 dX5_barOf_5 rfl rfl rfl ?_
  refine dild_3_2 7 dX5_barOf_6 rfl ?_
  refine dt_iconst 8 dX5_barOf_7 rfl ?_
  refine dt_icmp_eq 11 16 dX5_barOf_8 rfl (by decide) rfl wk_m1 (fun c => ?_) (fun c => ?_)
  · replace h := ifp c h
    refine ald_3_0 17 rfl dX5_barOf_16 rfl ?_
    refine ald_3_1 18 rfl dX5_barOf_17 rfl ?_
    obtain ⟨r2, h2, h⟩ := bp_some h
    refine cvi_1 21 cw_X5_37 (S_X5_sleeplessDay h2) rfl ⟨by decide, by decide⟩ rfl rfl rfl rfl rfl (Nat.le_of_ble_eq_true rfl) dX5_barOf_18 rfl ?_
    refine dist_3_2 22 dX5_barOf_21 rfl rfl rfl ?_
    refine dild_3_2 23 dX5_barOf_22 rfl ?_
    refine dt_iconst 24 dX5_barOf_23 rfl ?_
    refine dt_icmp_eq 27 33 dX5_barOf_24 rfl (by decide) rfl wk_m1 (fun c => ?_) (fun c => ?_)
    · replace h := ifp c h
      refine ald_3_0 34 rfl dX5_barOf_33 rfl ?_
      refine ald_3_1 35 rfl dX5_barOf_34 rfl ?_
      obtain ⟨r3, h3, h⟩ := bp_some h
      refine cvi_1 38 cw_X5_40 (S_X5_wrongStamp h3) rfl ⟨by decide, by decide⟩ rfl rfl rfl rfl rfl (Nat.le_of_ble_eq_true rfl) dX5_barOf_35 rfl ?_
      refine dist_3_2 39 dX5_barOf_38 rfl rfl rfl ?_
      refine dild_3_2 40 dX5_barOf_39 rfl ?_
      refine dt_iconst 41 dX5_barOf_40 rfl ?_
      refine dt_icmp_eq 44 50 dX5_barOf_41 rfl (by decide) rfl wk_m1 (fun c => ?_) (fun c => ?_)
      · replace h := ifp c h
        refine ald_3_0 51 rfl dX5_barOf_50 rfl ?_
        refine ald_3_1 52 rfl dX5_barOf_51 rfl ?_
        obtain ⟨r4, h4, h⟩ := bp_some h
        refine cvi_1 55 cw_X5_43 (S_X5_missedPaper h4) rfl ⟨by decide, by decide⟩ rfl rfl rfl rfl rfl (Nat.le_of_ble_eq_true rfl) dX5_barOf_52 rfl ?_
        refine dist_3_2 56 dX5_barOf_55 rfl rfl rfl ?_
        refine dild_3_2 57 dX5_barOf_56 rfl ?_
        refine dt_iconst 58 dX5_barOf_57 rfl ?_
        refine dt_icmp_eq 61 67 dX5_barOf_58 rfl (by decide) rfl wk_m1 (fun c => ?_) (fun c => ?_)
        · replace h := ifp c h
          refine ald_3_0 68 rfl dX5_barOf_67 rfl ?_
          refine ald_3_1 69 rfl dX5_barOf_68 rfl ?_
          obtain ⟨r5, h5, h⟩ := bp_some h
          refine cvi_1 72 cw_X5_46 (S_X5_missedLook h5) rfl ⟨by decide, by decide⟩ rfl rfl rfl rfl rfl (Nat.le_of_ble_eq_true rfl) dX5_barOf_69 rfl ?_
          refine dist_3_2 73 dX5_barOf_72 rfl rfl rfl ?_
          refine dild_3_2 74 dX5_barOf_73 rfl ?_
          refine dt_iconst 75 dX5_barOf_74 rfl ?_
          refine dt_icmp_ne 78 82 dX5_barOf_75 rfl (by decide) rfl wk_m1 (fun c => ?_) (fun c => ?_)
          · replace h := ifp c h
            refine dt_sipush 85 dX5_barOf_82 sq_500 rfl ?_
            refine dild_3_2 86 dX5_barOf_85 rfl ?_
            refine dt_iadd 87 dX5_barOf_86 rfl ?_
            exact dr_i hF rfl dX5_barOf_87 h
          · replace h := ifn c h
            refine dt_iconst 79 dX5_barOf_78 rfl ?_
            refine st_goto 87 dX5_barOf_79 (by decide) ?_
            exact dr_i hF rfl dX5_barOf_87 h
        · replace h := ifn c h
          refine dt_sipush 64 dX5_barOf_61 sq_400 rfl ?_
          refine dild_3_2 65 dX5_barOf_64 rfl ?_
          refine dt_iadd 66 dX5_barOf_65 rfl ?_
          exact dr_i hF rfl dX5_barOf_66 h
      · replace h := ifn c h
        refine dt_sipush 47 dX5_barOf_44 sq_300 rfl ?_
        refine dild_3_2 48 dX5_barOf_47 rfl ?_
        refine dt_iadd 49 dX5_barOf_48 rfl ?_
        exact dr_i hF rfl dX5_barOf_49 h
    · replace h := ifn c h
      refine dt_sipush 30 dX5_barOf_27 sq_200 rfl ?_
      refine dild_3_2 31 dX5_barOf_30 rfl ?_
      refine dt_iadd 32 dX5_barOf_31 rfl ?_
      exact dr_i hF rfl dX5_barOf_32 h
  · replace h := ifn c h
    refine dt_bipush 13 dX5_barOf_11 bq_100 rfl ?_
    refine dild_3_2 14 dX5_barOf_13 rfl ?_
    refine dt_iadd 15 dX5_barOf_14 rfl ?_
    exact dr_i hF rfl dX5_barOf_15 h
