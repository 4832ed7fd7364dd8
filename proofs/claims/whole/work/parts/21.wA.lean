/-- StampTales$Atlas.clear -/
theorem S_X0_clear {G : Cx} {μ : Mi} {x0 : Bool}  {mm : Mi} (h : D_X0_clear x0 μ = some mm) : Spec yd_X0_clear G [rf G 0 x0] (Em μ) (none) (Em mm) := by
  refine Spec.of (by decide) rfl (catL_ok rfl) (Nat.le_of_ble_eq_true rfl) rfl (fun b hF => ?_)
  unfold D_X0_clear at h
  refine ald_1_0 1 rfl dX0_clear_0 rfl ?_
  refine dt_iconst 2 dX0_clear_1 rfl ?_
  refine dpf_X0_46 5 rfl dX0_clear_2 rfl ?_
  refine ald_1_0 6 rfl dX0_clear_5 rfl ?_
  refine dt_iconst 7 dX0_clear_6 rfl ?_
  refine dpf_X0_50 10 rfl dX0_clear_7 rfl ?_
  refine ald_1_0 11 rfl dX0_clear_10 rfl ?_
  refine dt_iconst 12 dX0_clear_11 rfl ?_
  refine dpf_X0_53 15 rfl dX0_clear_12 rfl ?_
  exact dr_v hF rfl dX0_clear_15 h
/-- StampTales$Atlas.takeOver -/
theorem A_X0_takeOver_145 {G : Cx} {b : Ab}  {mm : Mi} (hF : Fi yd_X0_takeOver G b none (Em mm)) : ∀ (n : Nat) (x2 : Int) (μ : Mi), B_X0_takeOver_145 n x2 μ = some mm → At yd_X0_takeOver G b 145 [some (rf G 0 false), some (rf G 0 true), some (iv x2)] [] (Em μ) := by
  intro n
  induction n with
  | zero =>
    intro x2 μ h
    exact nope h
  | succ n hk145 =>
    intro x2 μ h
    replace h : F_X0_takeOver_145 (B_X0_takeOver_145 n) x2 μ = some mm := h
    unfold F_X0_takeOver_145 at h
    refine dild_3_2 146 dX0_takeOver_145 rfl ?_
    refine dt_bipush 148 dX0_takeOver_146 bq_16 rfl ?_
    refine dt_icmp_ge 151 169 dX0_takeOver_148 rfl (by decide) rfl wk_16 (fun c => ?_) (fun c => ?_)
    · replace h := ifp c h
      refine ald_3_1 170 rfl dX0_takeOver_169 rfl ?_
      refine dgf_X0_40 173 rfl dX0_takeOver_170 rfl ?_
      refine dt_iconst 174 dX0_takeOver_173 rfl ?_
      refine ald_3_0 175 rfl dX0_takeOver_174 rfl ?_
      refine dgf_X0_40 178 rfl dX0_takeOver_175 rfl ?_
      refine dt_iconst 179 dX0_takeOver_178 rfl ?_
      refine dt_bipush 181 dX0_takeOver_179 bq_16 rfl ?_
      refine dcpy (N := 16) 184 rfl cwc_X0_56 rfl (Or.inl rfl) rfl rfl rfl (by decide) (by decide) ⟨by decide, by decide⟩ (fun q => absurd q (by decide)) dX0_takeOver_181 rfl ?_
      refine ald_3_1 185 rfl dX0_takeOver_184 rfl ?_
      refine dgf_X0_43 188 rfl dX0_takeOver_185 rfl ?_
      refine dt_iconst 189 dX0_takeOver_188 rfl ?_
      refine ald_3_0 190 rfl dX0_takeOver_189 rfl ?_
      refine dgf_X0_43 193 rfl dX0_takeOver_190 rfl ?_
      refine dt_iconst 194 dX0_takeOver_193 rfl ?_
      refine dt_bipush 196 dX0_takeOver_194 bq_16 rfl ?_
      refine dcpy (N := 16) 199 rfl cwc_X0_56 rfl (Or.inl rfl) rfl rfl rfl (by decide) (by decide) ⟨by decide, by decide⟩ (fun q => absurd q (by decide)) dX0_takeOver_196 rfl ?_
      exact dr_v hF rfl dX0_takeOver_199 h
    · replace h := ifn c h
      refine ald_3_0 152 rfl dX0_takeOver_151 rfl ?_
      refine dgf_X0_36 155 rfl dX0_takeOver_152 rfl ?_
      refine dild_3_2 156 dX0_takeOver_155 rfl ?_
      refine ald_3_1 157 rfl dX0_takeOver_156 rfl ?_
      refine dgf_X0_36 160 rfl dX0_takeOver_157 rfl ?_
      refine dild_3_2 161 dX0_takeOver_160 rfl ?_
      obtain ⟨hi, h⟩ := ift h
      refine dzald 162 rfl rfl rfl hi rfl rfl dX0_takeOver_161 rfl ?_
      obtain ⟨hi, h⟩ := ift h
      obtain ⟨hb, h⟩ := ift h
      refine dzast 163 rfl rfl rfl hi rfl hb dX0_takeOver_162 rfl ?_
      refine dinc_3_2 166 dX0_takeOver_163 rfl rfl rfl ?_
      refine st_goto 145 dX0_takeOver_166 (by decide) ?_
      exact hk145 _ _ h
theorem S_X0_takeOver {G : Cx} {μ : Mi}  {mm : Mi} (h : D_X0_takeOver μ = some mm) : Spec yd_X0_takeOver G [rf G 0 false, rf G 0 true] (Em μ) (none) (Em mm) := by
  refine Spec.of (by decide) rfl (catL_ok rfl) (Nat.le_of_ble_eq_true rfl) rfl (fun b hF => ?_)
  unfold D_X0_takeOver at h
  refine ald_3_0 1 rfl dX0_takeOver_0 rfl ?_
  refine ald_3_1 2 rfl dX0_takeOver_1 rfl ?_
  refine dgf_X0_46 5 rfl dX0_takeOver_2 rfl rfl ?_
  refine dpf_X0_46 8 rfl dX0_takeOver_5 rfl ?_
  refine ald_3_0 9 rfl dX0_takeOver_8 rfl ?_
  refine ald_3_1 10 rfl dX0_takeOver_9 rfl ?_
  refine dgf_X0_50 13 rfl dX0_takeOver_10 rfl (rd_ob (by decide)) ?_
  refine dpf_X0_50 16 rfl dX0_takeOver_13 rfl ?_
  refine ald_3_0 17 rfl dX0_takeOver_16 rfl ?_
  refine ald_3_1 18 rfl dX0_takeOver_17 rfl ?_
  refine dgf_X0_53 21 rfl dX0_takeOver_18 rfl ((rd_ob (by decide)).trans (rd_ob (by decide))) ?_
  refine dpf_X0_53 24 rfl dX0_takeOver_21 rfl ?_
  refine ald_3_1 25 rfl dX0_takeOver_24 rfl ?_
  refine dgf_X0_11 28 rfl dX0_takeOver_25 rfl ?_
  refine dt_iconst 29 dX0_takeOver_28 rfl ?_
  refine ald_3_0 30 rfl dX0_takeOver_29 rfl ?_
  refine dgf_X0_11 33 rfl dX0_takeOver_30 rfl ?_
  refine dt_iconst 34 dX0_takeOver_33 rfl ?_
  refine dt_iconst 35 dX0_takeOver_34 rfl ?_
  refine dcpy (N := 4) 38 rfl cwc_X0_56 rfl (Or.inl rfl) rfl rfl rfl (by decide) (by decide) ⟨by decide, by decide⟩ (fun q => absurd q (by decide)) dX0_takeOver_35 rfl ?_
  refine ald_3_1 39 rfl dX0_takeOver_38 rfl ?_
  refine dgf_X0_15 42 rfl dX0_takeOver_39 rfl ?_
  refine dt_iconst 43 dX0_takeOver_42 rfl ?_
  refine ald_3_0 44 rfl dX0_takeOver_43 rfl ?_
  refine dgf_X0_15 47 rfl dX0_takeOver_44 rfl ?_
  refine dt_iconst 48 dX0_takeOver_47 rfl ?_
  refine dt_bipush 50 dX0_takeOver_48 bq_8 rfl ?_
  refine dcpy (N := 8) 53 rfl cwc_X0_56 rfl (Or.inl rfl) rfl rfl rfl (by decide) (by decide) ⟨by decide, by decide⟩ (fun q => absurd q (by decide)) dX0_takeOver_50 rfl ?_
  refine ald_3_1 54 rfl dX0_takeOver_53 rfl ?_
  refine dgf_X0_18 57 rfl dX0_takeOver_54 rfl ?_
  refine dt_iconst 58 dX0_takeOver_57 rfl ?_
  refine ald_3_0 59 rfl dX0_takeOver_58 rfl ?_
  refine dgf_X0_18 62 rfl dX0_takeOver_59 rfl ?_
  refine dt_iconst 63 dX0_takeOver_62 rfl ?_
  refine dt_bipush 65 dX0_takeOver_63 bq_8 rfl ?_
  refine dcpy (N := 8) 68 rfl cwc_X0_56 rfl (Or.inl rfl) rfl rfl rfl (by decide) (by decide) ⟨by decide, by decide⟩ (fun q => absurd q (by decide)) dX0_takeOver_65 rfl ?_
  refine ald_3_1 69 rfl dX0_takeOver_68 rfl ?_
  refine dgf_X0_21 72 rfl dX0_takeOver_69 rfl ?_
  refine dt_iconst 73 dX0_takeOver_72 rfl ?_
  refine ald_3_0 74 rfl dX0_takeOver_73 rfl ?_
  refine dgf_X0_21 77 rfl dX0_takeOver_74 rfl ?_
  refine dt_iconst 78 dX0_takeOver_77 rfl ?_
  refine dt_bipush 80 dX0_takeOver_78 bq_16 rfl ?_
  refine dcpy (N := 16) 83 rfl cwc_X0_56 rfl (Or.inl rfl) rfl rfl rfl (by decide) (by decide) ⟨by decide, by decide⟩ (fun q => absurd q (by decide)) dX0_takeOver_80 rfl ?_
  refine ald_3_1 84 rfl dX0_takeOver_83 rfl ?_
  refine dgf_X0_24 87 rfl dX0_takeOver_84 rfl ?_
  refine dt_iconst 88 dX0_takeOver_87 rfl ?_
  refine ald_3_0 89 rfl dX0_takeOver_88 rfl ?_
  refine dgf_X0_24 92 rfl dX0_takeOver_89 rfl ?_
  refine dt_iconst 93 dX0_takeOver_92 rfl ?_
  refine dt_bipush 95 dX0_takeOver_93 bq_16 rfl ?_
  refine dcpy (N := 16) 98 rfl cwc_X0_56 rfl (Or.inl rfl) rfl rfl rfl (by decide) (by decide) ⟨by decide, by decide⟩ (fun q => absurd q (by decide)) dX0_takeOver_95 rfl ?_
  refine ald_3_1 99 rfl dX0_takeOver_98 rfl ?_
  refine dgf_X0_27 102 rfl dX0_takeOver_99 rfl ?_
  refine dt_iconst 103 dX0_takeOver_102 rfl ?_
  refine ald_3_0 104 rfl dX0_takeOver_103 rfl ?_
  refine dgf_X0_27 107 rfl dX0_takeOver_104 rfl ?_
  refine dt_iconst 108 dX0_takeOver_107 rfl ?_
  refine dt_bipush 110 dX0_takeOver_108 bq_16 rfl ?_
  refine dcpy (N := 16) 113 rfl cwc_X0_56 rfl (Or.inl rfl) rfl rfl rfl (by decide) (by decide) ⟨by decide, by decide⟩ (fun q => absurd q (by decide)) dX0_takeOver_110 rfl ?_
  refine ald_3_1 114 rfl dX0_takeOver_113 rfl ?_
  refine dgf_X0_30 117 rfl dX0_takeOver_114 rfl ?_
  refine dt_iconst 118 dX0_takeOver_117 rfl ?_
  refine ald_3_0 119 rfl dX0_takeOver_118 rfl ?_
  refine dgf_X0_30 122 rfl dX0_takeOver_119 rfl ?_
  refine dt_iconst 123 dX0_takeOver_122 rfl ?_
  refine dt_bipush 125 dX0_takeOver_123 bq_16 rfl ?_
  refine dcpy (N := 16) 128 rfl cwc_X0_56 rfl (Or.inl rfl) rfl rfl rfl (by decide) (by decide) ⟨by decide, by decide⟩ (fun q => absurd q (by decide)) dX0_takeOver_125 rfl ?_
  refine ald_3_1 129 rfl dX0_takeOver_128 rfl ?_
  refine dgf_X0_33 132 rfl dX0_takeOver_129 rfl ?_
  refine dt_iconst 133 dX0_takeOver_132 rfl ?_
  refine ald_3_0 134 rfl dX0_takeOver_133 rfl ?_
  refine dgf_X0_33 137 rfl dX0_takeOver_134 rfl ?_
  refine dt_iconst 138 dX0_takeOver_137 rfl ?_
  refine dt_bipush 140 dX0_takeOver_138 bq_16 rfl ?_
  refine dcpy (N := 16) 143 rfl cwc_X0_56 rfl (Or.inl rfl) rfl rfl rfl (by decide) (by decide) ⟨by decide, by decide⟩ (fun q => absurd q (by decide)) dX0_takeOver_140 rfl ?_
  refine dt_iconst 144 dX0_takeOver_143 rfl ?_
  refine dist_3_2 145 dX0_takeOver_144 rfl rfl rfl ?_
  exact A_X0_takeOver_145 hF FU _ _ h
/-- StampTales$Atlas.addLand -/
theorem S_X0_addLand {G : Cx} {μ : Mi} {x0 : Bool} {x1 : Int}  {mm : Mi} (h : D_X0_addLand x0 x1 μ = some mm) : Spec yd_X0_addLand G [rf G 0 x0, iv x1] (Em μ) (none) (Em mm) := by
  refine Spec.of (by decide) rfl (catL_ok rfl) (Nat.le_of_ble_eq_true rfl) rfl (fun b hF => ?_)
  unfold D_X0_addLand at h
  refine ald_2_0 1 rfl dX0_addLand_0 rfl ?_
  refine dgf_X0_46 4 rfl dX0_addLand_1 rfl rfl ?_
  refine dt_iconst 5 dX0_addLand_4 rfl ?_
  refine dt_icmp_ge 8 28 dX0_addLand_5 rfl (by decide) rfl wk_4 (fun c => ?_) (fun c => ?_)
  · replace h := ifp c h
    exact dr_v hF rfl dX0_addLand_28 h
  · replace h := ifn c h
    refine ald_2_0 9 rfl dX0_addLand_8 rfl ?_
    refine dgf_X0_11 12 rfl dX0_addLand_9 rfl ?_
    refine ald_2_0 13 rfl dX0_addLand_12 rfl ?_
    refine dgf_X0_46 16 rfl dX0_addLand_13 rfl rfl ?_
    refine dild_2_1 17 dX0_addLand_16 rfl ?_
    obtain ⟨hi, h⟩ := ift h
    refine diast 18 rfl rfl rfl hi rfl dX0_addLand_17 rfl ?_
    refine ald_2_0 19 rfl dX0_addLand_18 rfl ?_
    refine st_dup 20 dX0_addLand_19 rfl rfl ?_
    refine dgf_X0_46 23 rfl dX0_addLand_20 rfl (rd_o (by decide)) ?_
    refine dt_iconst 24 dX0_addLand_23 rfl ?_
    refine dt_iadd 25 dX0_addLand_24 rfl ?_
    refine dpf_X0_46 28 rfl dX0_addLand_25 rfl ?_
    exact dr_v hF rfl dX0_addLand_28 h
/-- StampTales$Atlas.addTown -/
theorem S_X0_addTown {G : Cx} {μ : Mi} {x0 : Bool} {x1 : Int} {x2 : Int}  {mm : Mi} (h : D_X0_addTown x0 x1 x2 μ = some mm) : Spec yd_X0_addTown G [rf G 0 x0, iv x1, iv x2] (Em μ) (none) (Em mm) := by
  refine Spec.of (by decide) rfl (catL_ok rfl) (Nat.le_of_ble_eq_true rfl) rfl (fun b hF => ?_)
  unfold D_X0_addTown at h
  refine ald_3_0 1 rfl dX0_addTown_0 rfl ?_
  refine dgf_X0_50 4 rfl dX0_addTown_1 rfl rfl ?_
  refine dt_bipush 6 dX0_addTown_4 bq_8 rfl ?_
  refine dt_icmp_ge 9 39 dX0_addTown_6 rfl (by decide) rfl wk_8 (fun c => ?_) (fun c => ?_)
  · replace h := ifp c h
    exact dr_v hF rfl dX0_addTown_39 h
  · replace h := ifn c h
    refine ald_3_0 10 rfl dX0_addTown_9 rfl ?_
    refine dgf_X0_15 13 rfl dX0_addTown_10 rfl ?_
    refine ald_3_0 14 rfl dX0_addTown_13 rfl ?_
    refine dgf_X0_50 17 rfl dX0_addTown_14 rfl rfl ?_
    refine dild_3_1 18 dX0_addTown_17 rfl ?_
    obtain ⟨hi, h⟩ := ift h
    refine diast 19 rfl rfl rfl hi rfl dX0_addTown_18 rfl ?_
    refine ald_3_0 20 rfl dX0_addTown_19 rfl ?_
    refine dgf_X0_18 23 rfl dX0_addTown_20 rfl ?_
    refine ald_3_0 24 rfl dX0_addTown_23 rfl ?_
    refine dgf_X0_50 27 rfl dX0_addTown_24 rfl (rd_o (by decide)) ?_
    refine dild_3_2 28 dX0_addTown_27 rfl ?_
    obtain ⟨hi, h⟩ := ift h
    refine diast 29 rfl rfl rfl hi rfl dX0_addTown_28 rfl ?_
    refine ald_3_0 30 rfl dX0_addTown_29 rfl ?_
    refine st_dup 31 dX0_addTown_30 rfl rfl ?_
    refine dgf_X0_50 34 rfl dX0_addTown_31 rfl ((rd_o (by decide)).trans (rd_o (by decide))) ?_
    refine dt_iconst 35 dX0_addTown_34 rfl ?_
    refine dt_iadd 36 dX0_addTown_35 rfl ?_
    refine dpf_X0_50 39 rfl dX0_addTown_36 rfl ?_
    exact dr_v hF rfl dX0_addTown_39 h
/-- StampTales$Atlas.stampingLand -/
theorem S_X0_stampingLand {G : Cx} {μ : Mi} {x0 : Bool} {x1 : Int} {x2 : Int} {x3 : Int} {r : Int} (h : D_X0_stampingLand x0 x1 x2 x3 μ = some r) : Spec yd_X0_stampingLand G [rf G 0 x0, iv x1, iv x2, iv x3] (Em μ) (some (iv r)) (Em μ) := by
  refine Spec.of (by decide) rfl (catL_ok rfl) (Nat.le_of_ble_eq_true rfl) rfl (fun b hF => ?_)
  unfold D_X0_stampingLand at h
  refine ald_5_0 1 rfl dX0_stampingLand_0 rfl ?_
  refine dgf_X0_15 4 rfl dX0_stampingLand_1 rfl ?_
  refine dild_5_1 5 dX0_stampingLand_4 rfl ?_
  obtain ⟨hi, h⟩ := ift h
  refine diald 6 rfl rfl rfl hi rfl rfl dX0_stampingLand_5 rfl ?_
  refine dist_5_4 8 dX0_stampingLand_6 rfl rfl rfl ?_
  refine dild_5_4 10 dX0_stampingLand_8 rfl ?_
  refine ald_5_0 11 rfl dX0_stampingLand_10 rfl ?_
  refine dgf_X0_15 14 rfl dX0_stampingLand_11 rfl ?_
  refine dild_5_2 15 dX0_stampingLand_14 rfl ?_
  obtain ⟨hi, h⟩ := ift h
  refine diald 16 rfl rfl rfl hi rfl rfl dX0_stampingLand_15 rfl ?_
  refine dt_icmp_eq 19 36 dX0_stampingLand_16 rfl (by decide) rfl rfl (fun c => ?_) (fun c => ?_)
  · replace h := ifp c h
    refine dt_iconst 37 dX0_stampingLand_36 rfl ?_
    exact dr_ip hF rfl dX0_stampingLand_37 h
  · replace h := ifn c h
    refine ald_5_0 20 rfl dX0_stampingLand_19 rfl ?_
    refine dgf_X0_11 23 rfl dX0_stampingLand_20 rfl ?_
    refine dild_5_4 25 dX0_stampingLand_23 rfl ?_
    obtain ⟨hi, h⟩ := ift h
    refine diald 26 rfl rfl rfl hi rfl rfl dX0_stampingLand_25 rfl ?_
    refine dild_5_3 27 dX0_stampingLand_26 rfl ?_
    refine dt_iand 28 dX0_stampingLand_27 rfl ?_
    refine dt_if_eq 31 36 dX0_stampingLand_28 rfl (by decide) rfl (fun c => ?_) (fun c => ?_)
    · replace h := ifp c h
      refine dt_iconst 37 dX0_stampingLand_36 rfl ?_
      exact dr_ip hF rfl dX0_stampingLand_37 h
    · replace h := ifn c h
      refine dild_5_4 33 dX0_stampingLand_31 rfl ?_
      refine st_goto 37 dX0_stampingLand_33 (by decide) ?_
      exact dr_ip hF rfl dX0_stampingLand_37 h
/-- StampTales$Atlas.addLink -/
theorem S_X0_addLink {G : Cx} {μ : Mi} {x0 : Bool} {x1 : Int} {x2 : Int} {x3 : Int} {x4 : Int} {x5 : Int} {x6 : Int}  {mm : Mi} (h : D_X0_addLink x0 x1 x2 x3 x4 x5 x6 μ = some mm) : Spec yd_X0_addLink G [rf G 0 x0, iv x1, iv x2, iv x3, iv x4, iv x5, iv x6] (Em μ) (none) (Em mm) := by
  refine Spec.of (by decide) rfl (catL_ok rfl) (Nat.le_of_ble_eq_true rfl) rfl (fun b hF => ?_)
  unfold D_X0_addLink at h
  refine ald_7_0 1 rfl dX0_addLink_0 rfl ?_
  refine dgf_X0_53 4 rfl dX0_addLink_1 rfl rfl ?_
  refine dt_bipush 6 dX0_addLink_4 bq_16 rfl ?_
  refine dt_icmp_ge 9 114 dX0_addLink_6 rfl (by decide) rfl wk_16 (fun c => ?_) (fun c => ?_)
  · replace h := ifp c h
    exact dr_v hF rfl dX0_addLink_114 h
  · replace h := ifn c h
    refine ald_7_0 10 rfl dX0_addLink_9 rfl ?_
    refine dgf_X0_21 13 rfl dX0_addLink_10 rfl ?_
    refine ald_7_0 14 rfl dX0_addLink_13 rfl ?_
    refine dgf_X0_53 17 rfl dX0_addLink_14 rfl rfl ?_
    refine dild_7_1 18 dX0_addLink_17 rfl ?_
    obtain ⟨hi, h⟩ := ift h
    refine diast 19 rfl rfl rfl hi rfl dX0_addLink_18 rfl ?_
    refine ald_7_0 20 rfl dX0_addLink_19 rfl ?_
    refine dgf_X0_24 23 rfl dX0_addLink_20 rfl ?_
    refine ald_7_0 24 rfl dX0_addLink_23 rfl ?_
    refine dgf_X0_53 27 rfl dX0_addLink_24 rfl (rd_o (by decide)) ?_
    refine dild_7_2 28 dX0_addLink_27 rfl ?_
    obtain ⟨hi, h⟩ := ift h
    refine diast 29 rfl rfl rfl hi rfl dX0_addLink_28 rfl ?_
    refine ald_7_0 30 rfl dX0_addLink_29 rfl ?_
    refine dgf_X0_36 33 rfl dX0_addLink_30 rfl ?_
    refine ald_7_0 34 rfl dX0_addLink_33 rfl ?_
    refine dgf_X0_53 37 rfl dX0_addLink_34 rfl ((rd_o (by decide)).trans (rd_o (by decide))) ?_
    refine dild_7_3 38 dX0_addLink_37 rfl ?_
    obtain ⟨hi, h⟩ := ift h
    obtain ⟨hb, h⟩ := ift h
    refine dzast 39 rfl rfl rfl hi rfl hb dX0_addLink_38 rfl ?_
    refine ald_7_0 40 rfl dX0_addLink_39 rfl ?_
    refine dgf_X0_27 43 rfl dX0_addLink_40 rfl ?_
    refine ald_7_0 44 rfl dX0_addLink_43 rfl ?_
    refine dgf_X0_53 47 rfl dX0_addLink_44 rfl ((rd_o (by decide)).trans ((rd_o (by decide)).trans (rd_o (by decide)))) ?_
    refine dild_7_4 49 dX0_addLink_47 rfl ?_
    obtain ⟨hi, h⟩ := ift h
    refine diast 50 rfl rfl rfl hi rfl dX0_addLink_49 rfl ?_
    refine ald_7_0 51 rfl dX0_addLink_50 rfl ?_
    refine dgf_X0_30 54 rfl dX0_addLink_51 rfl ?_
    refine ald_7_0 55 rfl dX0_addLink_54 rfl ?_
    refine dgf_X0_53 58 rfl dX0_addLink_55 rfl ((rd_o (by decide)).trans ((rd_o (by decide)).trans ((rd_o (by decide)).trans (rd_o (by decide))))) ?_
    refine dild_7_5 60 dX0_addLink_58 rfl ?_
    obtain ⟨hi, h⟩ := ift h
    refine diast 61 rfl rfl rfl hi rfl dX0_addLink_60 rfl ?_
    refine ald_7_0 62 rfl dX0_addLink_61 rfl ?_
    refine dgf_X0_33 65 rfl dX0_addLink_62 rfl ?_
    refine ald_7_0 66 rfl dX0_addLink_65 rfl ?_
    refine dgf_X0_53 69 rfl dX0_addLink_66 rfl ((rd_o (by decide)).trans ((rd_o (by decide)).trans ((rd_o (by decide)).trans ((rd_o (by decide)).trans (rd_o (by decide)))))) ?_
    refine dild_7_6 71 dX0_addLink_69 rfl ?_
    obtain ⟨hi, h⟩ := ift h
    refine diast 72 rfl rfl rfl hi rfl dX0_addLink_71 rfl ?_
    refine ald_7_0 73 rfl dX0_addLink_72 rfl ?_
    refine dgf_X0_40 76 rfl dX0_addLink_73 rfl ?_
    refine ald_7_0 77 rfl dX0_addLink_76 rfl ?_
    refine dgf_X0_53 80 rfl dX0_addLink_77 rfl ((rd_o (by decide)).trans ((rd_o (by decide)).trans ((rd_o (by decide)).trans ((rd_o (by decide)).trans ((rd_o (by decide)).trans (rd_o (by decide))))))) ?_
    refine ald_7_0 81 rfl dX0_addLink_80 rfl ?_
    refine dild_7_1 82 dX0_addLink_81 rfl ?_
    refine dild_7_2 83 dX0_addLink_82 rfl ?_
    refine dt_iconst 84 dX0_addLink_83 rfl ?_
    obtain ⟨r1, h1, h⟩ := bp_some h
    refine cvi_3 87 cw_X0_62 (S_X0_stampingLand h1) rfl ⟨by decide, by decide⟩ rfl rfl rfl rfl rfl (Nat.le_of_ble_eq_true rfl) dX0_addLink_84 rfl ?_
    obtain ⟨hi, h⟩ := ift h
    refine diast 88 rfl rfl rfl hi rfl dX0_addLink_87 rfl ?_
    refine ald_7_0 89 rfl dX0_addLink_88 rfl ?_
    refine dgf_X0_43 92 rfl dX0_addLink_89 rfl ?_
    refine ald_7_0 93 rfl dX0_addLink_92 rfl ?_
    refine dgf_X0_53 96 rfl dX0_addLink_93 rfl ((rd_o (by decide)).trans ((rd_o (by decide)).trans ((rd_o (by decide)).trans ((rd_o (by decide)).trans ((rd_o (by decide)).trans ((rd_o (by decide)).trans (rd_o (by decide)))))))) ?_
    refine ald_7_0 97 rfl dX0_addLink_96 rfl ?_
    refine dild_7_2 98 dX0_addLink_97 rfl ?_
    refine dild_7_1 99 dX0_addLink_98 rfl ?_
    refine dt_iconst 100 dX0_addLink_99 rfl ?_
    obtain ⟨r2, h2, h⟩ := bp_some h
    refine cvi_3 103 cw_X0_62 (S_X0_stampingLand h2) rfl ⟨by decide, by decide⟩ rfl rfl rfl rfl rfl (Nat.le_of_ble_eq_true rfl) dX0_addLink_100 rfl ?_
    obtain ⟨hi, h⟩ := ift h
    refine diast 104 rfl rfl rfl hi rfl dX0_addLink_103 rfl ?_
    refine ald_7_0 105 rfl dX0_addLink_104 rfl ?_
    refine st_dup 106 dX0_addLink_105 rfl rfl ?_
    refine dgf_X0_53 109 rfl dX0_addLink_106 rfl ((rd_o (by decide)).trans ((rd_o (by decide)).trans ((rd_o (by decide)).trans ((rd_o (by decide)).trans ((rd_o (by decide)).trans ((rd_o (by decide)).trans ((rd_o (by decide)).trans (rd_o (by decide))))))))) ?_
    refine dt_iconst 110 dX0_addLink_109 rfl ?_
    refine dt_iadd 111 dX0_addLink_110 rfl ?_
    refine dpf_X0_53 114 rfl dX0_addLink_111 rfl ?_
    exact dr_v hF rfl dX0_addLink_114 h
/-- StampTales$Atlas.hasLand -/
theorem S_X0_hasLand {G : Cx} {μ : Mi} (x0 : Bool) (x1 : Int) : Spec yd_X0_hasLand G [rf G 0 x0, iv x1] (Em μ) (some (iv (D_X0_hasLand x0 x1 μ))) (Em μ) := by
  generalize h : D_X0_hasLand x0 x1 μ = r
  refine Spec.of (by decide) rfl (catL_ok rfl) (Nat.le_of_ble_eq_true rfl) rfl (fun b hF => ?_)
  unfold D_X0_hasLand at h
  refine dild_2_1 1 dX0_hasLand_0 rfl ?_
  refine dt_if_lt 4 16 dX0_hasLand_1 rfl (by decide) rfl (fun c => ?_) (fun c => ?_)
  · replace h := ifp c h
    refine dt_iconst 17 dX0_hasLand_16 rfl ?_
    exact dr_zt hF rfl isB_0 dX0_hasLand_17 h
  · replace h := ifn c h
    refine dild_2_1 5 dX0_hasLand_4 rfl ?_
    refine ald_2_0 6 rfl dX0_hasLand_5 rfl ?_
    refine dgf_X0_46 9 rfl dX0_hasLand_6 rfl rfl ?_
    refine dt_icmp_ge 12 16 dX0_hasLand_9 rfl (by decide) rfl rfl (fun c => ?_) (fun c => ?_)
    · replace h := ifp c h
      refine dt_iconst 17 dX0_hasLand_16 rfl ?_
      exact dr_zt hF rfl isB_0 dX0_hasLand_17 h
    · replace h := ifn c h
      refine dt_iconst 13 dX0_hasLand_12 rfl ?_
      refine st_goto 17 dX0_hasLand_13 (by decide) ?_
      exact dr_zt hF rfl isB_1 dX0_hasLand_17 h
/-- StampTales$Atlas.hasTown -/
theorem S_X0_hasTown {G : Cx} {μ : Mi} (x0 : Bool) (x1 : Int) : Spec yd_X0_hasTown G [rf G 0 x0, iv x1] (Em μ) (some (iv (D_X0_hasTown x0 x1 μ))) (Em μ) := by
  generalize h : D_X0_hasTown x0 x1 μ = r
  refine Spec.of (by decide) rfl (catL_ok rfl) (Nat.le_of_ble_eq_true rfl) rfl (fun b hF => ?_)
  unfold D_X0_hasTown at h
  refine dild_2_1 1 dX0_hasTown_0 rfl ?_
  refine dt_if_lt 4 16 dX0_hasTown_1 rfl (by decide) rfl (fun c => ?_) (fun c => ?_)
  · replace h := ifp c h
    refine dt_iconst 17 dX0_hasTown_16 rfl ?_
    exact dr_zt hF rfl isB_0 dX0_hasTown_17 h
  · replace h := ifn c h
    refine dild_2_1 5 dX0_hasTown_4 rfl ?_
    refine ald_2_0 6 rfl dX0_hasTown_5 rfl ?_
    refine dgf_X0_50 9 rfl dX0_hasTown_6 rfl rfl ?_
    refine dt_icmp_ge 12 16 dX0_hasTown_9 rfl (by decide) rfl rfl (fun c => ?_) (fun c => ?_)
    · replace h := ifp c h
      refine dt_iconst 17 dX0_hasTown_16 rfl ?_
      exact dr_zt hF rfl isB_0 dX0_hasTown_17 h
    · replace h := ifn c h
      refine dt_iconst 13 dX0_hasTown_12 rfl ?_
      refine st_goto 17 dX0_hasTown_13 (by decide) ?_
      exact dr_zt hF rfl isB_1 dX0_hasTown_17 h
/-- StampTales$Atlas.hasLink -/
theorem S_X0_hasLink {G : Cx} {μ : Mi} (x0 : Bool) (x1 : Int) : Spec yd_X0_hasLink G [rf G 0 x0, iv x1] (Em μ) (some (iv (D_X0_hasLink x0 x1 μ))) (Em μ) := by
  generalize h : D_X0_hasLink x0 x1 μ = r
  refine Spec.of (by decide) rfl (catL_ok rfl) (Nat.le_of_ble_eq_true rfl) rfl (fun b hF => ?_)
  unfold D_X0_hasLink at h
  refine dild_2_1 1 dX0_hasLink_0 rfl ?_
  refine dt_if_lt 4 16 dX0_hasLink_1 rfl (by decide) rfl (fun c => ?_) (fun c => ?_)
  · replace h := ifp c h
    refine dt_iconst 17 dX0_hasLink_16 rfl ?_
    exact dr_zt hF rfl isB_0 dX0_hasLink_17 h
  · replace h := ifn c h
    refine dild_2_1 5 dX0_hasLink_4 rfl ?_
    refine ald_2_0 6 rfl dX0_hasLink_5 rfl ?_
    refine dgf_X0_53 9 rfl dX0_hasLink_6 rfl rfl ?_
    refine dt_icmp_ge 12 16 dX0_hasLink_9 rfl (by decide) rfl rfl (fun c => ?_) (fun c => ?_)
    · replace h := ifp c h
      refine dt_iconst 17 dX0_hasLink_16 rfl ?_
      exact dr_zt hF rfl isB_0 dX0_hasLink_17 h
    · replace h := ifn c h
      refine dt_iconst 13 dX0_hasLink_12 rfl ?_
      refine st_goto 17 dX0_hasLink_13 (by decide) ?_
      exact dr_zt hF rfl isB_1 dX0_hasLink_17 h
/-- StampTales$Atlas.leavesAt -/
theorem A_X0_leavesAt_23 {G : Cx} {b : Ab} {μ : Mi} {r : Int} (hF : Fi yd_X0_leavesAt G b (some (iv r)) (Em μ)) (s0 : Int) (s1 : Int) (h : B_X0_leavesAt_23 s0 s1 μ = some r) : At yd_X0_leavesAt G b 23 [none, none, none] [iv s0, iv s1] (Em μ) := by
  unfold B_X0_leavesAt_23 at h
  refine dt_icmp_ne 26 30 dX0_leavesAt_23 rfl (by decide) rfl rfl (fun c => ?_) (fun c => ?_)
  · replace h := ifp c h
    refine dt_iconst 31 dX0_leavesAt_30 rfl ?_
    exact dr_zp hF rfl isB_0 dX0_leavesAt_31 h
  · replace h := ifn c h
    refine dt_iconst 27 dX0_leavesAt_26 rfl ?_
    refine st_goto 31 dX0_leavesAt_27 (by decide) ?_
    exact dr_zp hF rfl isB_1 dX0_leavesAt_31 h
theorem S_X0_leavesAt {G : Cx} {μ : Mi} {x0 : Bool} {x1 : Int} {x2 : Int} {r : Int} (h : D_X0_leavesAt x0 x1 x2 μ = some r) : Spec yd_X0_leavesAt G [rf G 0 x0, iv x1, iv x2] (Em μ) (some (iv r)) (Em μ) := by
  refine Spec.of (by decide) rfl (catL_ok rfl) (Nat.le_of_ble_eq_true rfl) rfl (fun b hF => ?_)
  unfold D_X0_leavesAt at h
  refine ald_3_0 1 rfl dX0_leavesAt_0 rfl ?_
  refine dgf_X0_27 4 rfl dX0_leavesAt_1 rfl ?_
  refine dild_3_1 5 dX0_leavesAt_4 rfl ?_
  obtain ⟨hi, h⟩ := ift h
  refine diald 6 rfl rfl rfl hi rfl rfl dX0_leavesAt_5 rfl ?_
  refine ald_3_0 7 rfl dX0_leavesAt_6 rfl ?_
  refine dgf_X0_36 10 rfl dX0_leavesAt_7 rfl ?_
  refine dild_3_1 11 dX0_leavesAt_10 rfl ?_
  obtain ⟨hi, h⟩ := ift h
  refine dzald 12 rfl rfl rfl hi rfl rfl dX0_leavesAt_11 rfl ?_
  refine dt_if_eq 15 22 dX0_leavesAt_12 rfl (by decide) rfl (fun c => ?_) (fun c => ?_)
  · replace h := ifp c h
    refine dild_3_2 23 dX0_leavesAt_22 rfl ?_
    exact At.weak (ls_n (ls_n (ls_n ls_0))) (A_X0_leavesAt_23 hF _ _ h)
  · replace h := ifn c h
    refine dild_3_2 16 dX0_leavesAt_15 rfl ?_
    refine dt_bipush 18 dX0_leavesAt_16 bq_24 rfl ?_
    refine dt_irem 19 dX0_leavesAt_18 (by rw [wk_24]; decide) rfl ?_
    refine st_goto 23 dX0_leavesAt_19 (by decide) ?_
    exact At.weak (ls_n (ls_n (ls_n ls_0))) (A_X0_leavesAt_23 hF _ _ h)
/-- StampTales$Atlas.dayAt -/
theorem S_X0_dayAt {G : Cx} {μ : Mi} {x0 : Bool} {x1 : Int} {x2 : Int} {r : Int} (h : D_X0_dayAt x0 x1 x2 μ = some r) : Spec yd_X0_dayAt G [rf G 0 x0, iv x1, iv x2] (Em μ) (some (iv r)) (Em μ) := by
  refine Spec.of (by decide) rfl (catL_ok rfl) (Nat.le_of_ble_eq_true rfl) rfl (fun b hF => ?_)
  unfold D_X0_dayAt at h
  refine dild_3_1 1 dX0_dayAt_0 rfl ?_
  refine ald_3_0 2 rfl dX0_dayAt_1 rfl ?_
  refine dgf_X0_18 5 rfl dX0_dayAt_2 rfl ?_
  refine dild_3_2 6 dX0_dayAt_5 rfl ?_
  obtain ⟨hi, h⟩ := ift h
  refine diald 7 rfl rfl rfl hi rfl rfl dX0_dayAt_6 rfl ?_
  refine dt_iadd 8 dX0_dayAt_7 rfl ?_
  refine dt_bipush 10 dX0_dayAt_8 bq_24 rfl ?_
  refine dt_iadd 11 dX0_dayAt_10 rfl ?_
  refine dt_bipush 13 dX0_dayAt_11 bq_24 rfl ?_
  refine dt_idiv 14 dX0_dayAt_13 (by rw [wk_24]; decide) rfl ?_
  refine dt_iconst 15 dX0_dayAt_14 rfl ?_
  refine dt_isub 16 dX0_dayAt_15 rfl ?_
  exact dr_ip hF rfl dX0_dayAt_16 h
/-- StampTales$Man.settle -/
theorem S_X2_settle {G : Cx} {μ : Mi} {x0 : Bool} {x1 : Int} {x2 : Int} {x3 : Int}  {mm : Mi} (h : D_X2_settle x0 x1 x2 x3 μ = some mm) : Spec yd_X2_settle G [rf G 2 x0, iv x1, iv x2, iv x3] (Em μ) (none) (Em mm) := by
  refine Spec.of (by decide) rfl (catL_ok rfl) (Nat.le_of_ble_eq_true rfl) rfl (fun b hF => ?_)
  unfold D_X2_settle at h
  refine ald_4_0 1 rfl dX2_settle_0 rfl ?_
  refine dild_4_1 2 dX2_settle_1 rfl ?_
  refine dpf_X2_46 5 rfl dX2_settle_2 rfl ?_
  refine ald_4_0 6 rfl dX2_settle_5 rfl ?_
  refine dild_4_2 7 dX2_settle_6 rfl ?_
  refine dpf_X2_49 10 rfl dX2_settle_7 rfl ?_
  refine ald_4_0 11 rfl dX2_settle_10 rfl ?_
  refine dild_4_3 12 dX2_settle_11 rfl ?_
  refine dpf_X2_9 15 rfl dX2_settle_12 rfl ?_
  refine ald_4_0 16 rfl dX2_settle_15 rfl ?_
  refine dt_iconst 17 dX2_settle_16 rfl ?_
  refine dpf_X2_15 20 isB_1 rfl dX2_settle_17 rfl ?_
  exact dr_v hF rfl dX2_settle_20 h
/-- StampTales$Man.startAnew -/
theorem S_X2_startAnew {G : Cx} {μ : Mi} {x0 : Bool}  {mm : Mi} (h : D_X2_startAnew x0 μ = some mm) : Spec yd_X2_startAnew G [rf G 2 x0] (Em μ) (none) (Em mm) := by
  refine Spec.of (by decide) rfl (catL_ok rfl) (Nat.le_of_ble_eq_true rfl) rfl (fun b hF => ?_)
  unfold D_X2_startAnew at h
  refine ald_1_0 1 rfl dX2_startAnew_0 rfl ?_
  refine dt_iconst 2 dX2_startAnew_1 rfl ?_
  refine dpf_X2_39 5 rfl dX2_startAnew_2 rfl ?_
  refine ald_1_0 6 rfl dX2_startAnew_5 rfl ?_
  refine dt_iconst 7 dX2_startAnew_6 rfl ?_
  refine dt_iconst 8 dX2_startAnew_7 rfl ?_
  refine dt_bipush 10 dX2_startAnew_8 bq_96 rfl ?_
  obtain ⟨m1, h1, h⟩ := bm_some h
  refine cvv_3 13 cw_X2_42 (S_X2_settle h1) rfl ⟨by decide, by decide⟩ rfl rfl rfl rfl rfl (Nat.le_of_ble_eq_true rfl) dX2_startAnew_10 rfl ?_
  exact dr_v hF rfl dX2_startAnew_13 h
/-- StampTales$Man.howMany -/
theorem A_X2_howMany_25 {G : Cx} {b : Ab} {μ : Mi} {r : Int} {k4 : (Bool → Int → Int → Int → Mi → Option Int)} (hF : Fi yd_X2_howMany G b (some (iv r)) (Em μ)) (hk4 : ∀ (x0 : Bool) (x1 : Int) (x2 : Int) (x3 : Int), k4 x0 x1 x2 x3 μ = some r → At yd_X2_howMany G b 4 [some (rf G 2 x0), some (iv x1), some (iv x2), some (iv x3)] [] (Em μ)) (x0 : Bool) (x1 : Int) (x2 : Int) (x3 : Int) (h : B_X2_howMany_25 k4 x0 x1 x2 x3 μ = some r) : At yd_X2_howMany G b 25 [some (rf G 2 x0), some (iv x1), some (iv x2), some (iv x3)] [] (Em μ) := by
  unfold B_X2_howMany_25 at h
  refine dinc_4_3 28 dX2_howMany_25 rfl rfl rfl ?_
  refine st_goto 4 dX2_howMany_28 (by decide) ?_
  exact hk4 _ _ _ _ h
theorem A_X2_howMany_4 {G : Cx} {b : Ab} {μ : Mi} {r : Int} (hF : Fi yd_X2_howMany G b (some (iv r)) (Em μ)) : ∀ (n : Nat) (x0 : Bool) (x1 : Int) (x2 : Int) (x3 : Int), B_X2_howMany_4 n x0 x1 x2 x3 μ = some r → At yd_X2_howMany G b 4 [some (rf G 2 x0), some (iv x1), some (iv x2), some (iv x3)] [] (Em μ) := by
  intro n
  induction n with
  | zero =>
    intro x0 x1 x2 x3 h
    exact nope h
  | succ n hk4 =>
    intro x0 x1 x2 x3 h
    replace h : F_X2_howMany_4 (B_X2_howMany_4 n) x0 x1 x2 x3 μ = some r := h
    unfold F_X2_howMany_4 at h
    refine dild_4_3 5 dX2_howMany_4 rfl ?_
    refine ald_4_0 6 rfl dX2_howMany_5 rfl ?_
    refine dgf_X2_39 9 rfl dX2_howMany_6 rfl rfl ?_
    refine dt_icmp_ge 12 31 dX2_howMany_9 rfl (by decide) rfl rfl (fun c => ?_) (fun c => ?_)
    · replace h := ifp c h
      refine dild_4_2 32 dX2_howMany_31 rfl ?_
      exact dr_ip hF rfl dX2_howMany_32 h
    · replace h := ifn c h
      refine ald_4_0 13 rfl dX2_howMany_12 rfl ?_
      refine dgf_X2_19 16 rfl dX2_howMany_13 rfl ?_
      refine dild_4_3 17 dX2_howMany_16 rfl ?_
      obtain ⟨hi, h⟩ := ift h
      refine diald 18 rfl rfl rfl hi rfl rfl dX2_howMany_17 rfl ?_
      refine dild_4_1 19 dX2_howMany_18 rfl ?_
      refine dt_icmp_ne 22 25 dX2_howMany_19 rfl (by decide) rfl rfl (fun c => ?_) (fun c => ?_)
      · replace h := ifp c h
        exact A_X2_howMany_25 hF hk4 _ _ _ _ h
      · replace h := ifn c h
        refine dinc_4_2 25 dX2_howMany_22 rfl rfl rfl ?_
        exact A_X2_howMany_25 hF hk4 _ _ _ _ h
theorem S_X2_howMany {G : Cx} {μ : Mi} {x0 : Bool} {x1 : Int} {r : Int} (h : D_X2_howMany x0 x1 μ = some r) : Spec yd_X2_howMany G [rf G 2 x0, iv x1] (Em μ) (some (iv r)) (Em μ) := by
  refine Spec.of (by decide) rfl (catL_ok rfl) (Nat.le_of_ble_eq_true rfl) rfl (fun b hF => ?_)
  unfold D_X2_howMany at h
  refine dt_iconst 1 dX2_howMany_0 rfl ?_
  refine dist_4_2 2 dX2_howMany_1 rfl rfl rfl ?_
  refine dt_iconst 3 dX2_howMany_2 rfl ?_
  refine dist_4_3 4 dX2_howMany_3 rfl rfl rfl ?_
  exact A_X2_howMany_4 hF FU _ _ _ _ h
/-- StampTales$Man.mostOf -/
theorem S_X2_mostOf {G : Cx} {μ : Mi} (x0 : Int) : Spec yd_X2_mostOf G [iv x0] (Em μ) (some (iv (D_X2_mostOf x0))) (Em μ) := by
  generalize h : D_X2_mostOf x0 = r
  refine Spec.of (by decide) rfl (catL_ok rfl) (Nat.le_of_ble_eq_true rfl) rfl (fun b hF => ?_)
  unfold D_X2_mostOf at h
  refine dild_1_0 1 dX2_mostOf_0 rfl ?_
  refine dt_if_ne 4 7 dX2_mostOf_1 rfl (by decide) rfl (fun c => ?_) (fun c => ?_)
  · replace h := ifp c h
    refine dild_1_0 8 dX2_mostOf_7 rfl ?_
    refine dt_iconst 9 dX2_mostOf_8 rfl ?_
    refine dt_icmp_ne 12 16 dX2_mostOf_9 rfl (by decide) rfl wk_2 (fun c => ?_) (fun c => ?_)
    · replace h := ifp c h
      refine dt_bipush 18 dX2_mostOf_16 bq_8 rfl ?_
      exact dr_it hF rfl dX2_mostOf_18 h
    · replace h := ifn c h
      refine dt_iconst 13 dX2_mostOf_12 rfl ?_
      refine st_goto 18 dX2_mostOf_13 (by decide) ?_
      exact dr_it hF rfl dX2_mostOf_18 h
  · replace h := ifn c h
    refine dt_bipush 6 dX2_mostOf_4 bq_6 rfl ?_
    exact dr_it hF rfl dX2_mostOf_6 h
/-- StampTales$Man.add -/
theorem S_X2_add {G : Cx} {μ : Mi} {x0 : Bool} {x1 : Int} {x2 : Int} {x3 : Int} {x4 : Int} {r : Int} {mm : Mi} (h : D_X2_add x0 x1 x2 x3 x4 μ = some (r, mm)) : Spec yd_X2_add G [rf G 2 x0, iv x1, iv x2, iv x3, iv x4] (Em μ) (some (iv r)) (Em mm) := by
  refine Spec.of (by decide) rfl (catL_ok rfl) (Nat.le_of_ble_eq_true rfl) rfl (fun b hF => ?_)
  unfold D_X2_add at h
  refine ald_5_0 1 rfl dX2_add_0 rfl ?_
  refine dgf_X2_39 4 rfl dX2_add_1 rfl rfl ?_
  refine dt_bipush 6 dX2_add_4 bq_8 rfl ?_
  refine dt_icmp_ge 9 21 dX2_add_6 rfl (by decide) rfl wk_8 (fun c => ?_) (fun c => ?_)
  · replace h := ifp c h
    refine dt_iconst 22 dX2_add_21 rfl ?_
    exact dr_i hF rfl dX2_add_22 h
  · replace h := ifn c h
    refine ald_5_0 10 rfl dX2_add_9 rfl ?_
    refine dild_5_1 11 dX2_add_10 rfl ?_
    obtain ⟨r1, h1, h⟩ := bp_some h
    refine cvi_1 14 cw_X2_52 (S_X2_howMany h1) rfl ⟨by decide, by decide⟩ rfl rfl rfl rfl rfl (Nat.le_of_ble_eq_true rfl) dX2_add_11 rfl ?_
    refine dild_5_1 15 dX2_add_14 rfl ?_
    refine csi_1 18 cw_X2_56 (S_X2_mostOf x1) rfl ⟨by decide, by decide⟩ (Nat.le_of_ble_eq_true rfl) dX2_add_15 rfl ?_
    refine dt_icmp_lt 21 23 dX2_add_18 rfl (by decide) rfl rfl (fun c => ?_) (fun c => ?_)
    · replace h := ifp c h
      refine ald_5_0 24 rfl dX2_add_23 rfl ?_
      refine dgf_X2_19 27 rfl dX2_add_24 rfl ?_
      refine ald_5_0 28 rfl dX2_add_27 rfl ?_
      refine dgf_X2_39 31 rfl dX2_add_28 rfl rfl ?_
      refine dild_5_1 32 dX2_add_31 rfl ?_
      obtain ⟨hi, h⟩ := ift h
      refine diast 33 rfl rfl rfl hi rfl dX2_add_32 rfl ?_
      refine ald_5_0 34 rfl dX2_add_33 rfl ?_
      refine dgf_X2_23 37 rfl dX2_add_34 rfl ?_
      refine ald_5_0 38 rfl dX2_add_37 rfl ?_
      refine dgf_X2_39 41 rfl dX2_add_38 rfl (rd_o (by decide)) ?_
      refine dild_5_2 42 dX2_add_41 rfl ?_
      obtain ⟨hi, h⟩ := ift h
      refine diast 43 rfl rfl rfl hi rfl dX2_add_42 rfl ?_
      refine ald_5_0 44 rfl dX2_add_43 rfl ?_
      refine dgf_X2_26 47 rfl dX2_add_44 rfl ?_
      refine ald_5_0 48 rfl dX2_add_47 rfl ?_
      refine dgf_X2_39 51 rfl dX2_add_48 rfl ((rd_o (by decide)).trans (rd_o (by decide))) ?_
      refine dild_5_3 52 dX2_add_51 rfl ?_
      obtain ⟨hi, h⟩ := ift h
      refine diast 53 rfl rfl rfl hi rfl dX2_add_52 rfl ?_
      refine ald_5_0 54 rfl dX2_add_53 rfl ?_
      refine dgf_X2_29 57 rfl dX2_add_54 rfl ?_
      refine ald_5_0 58 rfl dX2_add_57 rfl ?_
      refine dgf_X2_39 61 rfl dX2_add_58 rfl ((rd_o (by decide)).trans ((rd_o (by decide)).trans (rd_o (by decide)))) ?_
      refine dild_5_4 63 dX2_add_61 rfl ?_
      obtain ⟨hi, h⟩ := ift h
      refine diast 64 rfl rfl rfl hi rfl dX2_add_63 rfl ?_
      refine ald_5_0 65 rfl dX2_add_64 rfl ?_
      refine dgf_X2_32 68 rfl dX2_add_65 rfl ?_
      refine ald_5_0 69 rfl dX2_add_68 rfl ?_
      refine dgf_X2_39 72 rfl dX2_add_69 rfl ((rd_o (by decide)).trans ((rd_o (by decide)).trans ((rd_o (by decide)).trans (rd_o (by decide))))) ?_
      refine dt_iconst 73 dX2_add_72 rfl ?_
      obtain ⟨hi, h⟩ := ift h
      refine dzast 74 rfl rfl rfl hi rfl isB_0 dX2_add_73 rfl ?_
      refine ald_5_0 75 rfl dX2_add_74 rfl ?_
      refine dgf_X2_36 78 rfl dX2_add_75 rfl ?_
      refine ald_5_0 79 rfl dX2_add_78 rfl ?_
      refine dgf_X2_39 82 rfl dX2_add_79 rfl ((rd_o (by decide)).trans ((rd_o (by decide)).trans ((rd_o (by decide)).trans ((rd_o (by decide)).trans (rd_o (by decide)))))) ?_
      refine dt_iconst 83 dX2_add_82 rfl ?_
      obtain ⟨hi, h⟩ := ift h
      refine dzast 84 rfl rfl rfl hi rfl isB_0 dX2_add_83 rfl ?_
      refine ald_5_0 85 rfl dX2_add_84 rfl ?_
      refine st_dup 86 dX2_add_85 rfl rfl ?_
      refine dgf_X2_39 89 rfl dX2_add_86 rfl ((rd_o (by decide)).trans ((rd_o (by decide)).trans ((rd_o (by decide)).trans ((rd_o (by decide)).trans ((rd_o (by decide)).trans (rd_o (by decide))))))) ?_
      refine dt_iconst 90 dX2_add_89 rfl ?_
      refine dt_iadd 91 dX2_add_90 rfl ?_
      refine dpf_X2_39 94 rfl dX2_add_91 rfl ?_
      refine ald_5_0 95 rfl dX2_add_94 rfl ?_
      refine dt_iconst 96 dX2_add_95 rfl ?_
      refine dpf_X2_15 99 isB_1 rfl dX2_add_96 rfl ?_
      refine ald_5_0 100 rfl dX2_add_99 rfl ?_
      refine dgf_X2_39 103 rfl dX2_add_100 rfl ((rd_oj (by decide)).trans (rd_s)) ?_
      refine dt_iconst 104 dX2_add_103 rfl ?_
      refine dt_isub 105 dX2_add_104 rfl ?_
      exact dr_i hF rfl dX2_add_105 h
    · replace h := ifn c h
      refine dt_iconst 22 dX2_add_21 rfl ?_
      exact dr_i hF rfl dX2_add_22 h
/-- StampTales$Man.has -/
theorem S_X2_has {G : Cx} {μ : Mi} (x0 : Bool) (x1 : Int) : Spec yd_X2_has G [rf G 2 x0, iv x1] (Em μ) (some (iv (D_X2_has x0 x1 μ))) (Em μ) := by
  generalize h : D_X2_has x0 x1 μ = r
  refine Spec.of (by decide) rfl (catL_ok rfl) (Nat.le_of_ble_eq_true rfl) rfl (fun b hF => ?_)
  unfold D_X2_has at h
  refine dild_2_1 1 dX2_has_0 rfl ?_
  refine dt_if_lt 4 16 dX2_has_1 rfl (by decide) rfl (fun c => ?_) (fun c => ?_)
  · replace h := ifp c h
    refine dt_iconst 17 dX2_has_16 rfl ?_
    exact dr_zt hF rfl isB_0 dX2_has_17 h
  · replace h := ifn c h
    refine dild_2_1 5 dX2_has_4 rfl ?_
    refine ald_2_0 6 rfl dX2_has_5 rfl ?_
    refine dgf_X2_39 9 rfl dX2_has_6 rfl rfl ?_
    refine dt_icmp_ge 12 16 dX2_has_9 rfl (by decide) rfl rfl (fun c => ?_) (fun c => ?_)
    · replace h := ifp c h
      refine dt_iconst 17 dX2_has_16 rfl ?_
      exact dr_zt hF rfl isB_0 dX2_has_17 h
    · replace h := ifn c h
      refine dt_iconst 13 dX2_has_12 rfl ?_
      refine st_goto 17 dX2_has_13 (by decide) ?_
      exact dr_zt hF rfl isB_1 dX2_has_17 h
/-- StampTales$Man.setDoubted -/
theorem S_X2_setDoubted {G : Cx} {μ : Mi} {x0 : Bool} {x1 : Int} {x2 : Int} {r : Int} {mm : Mi} (h : D_X2_setDoubted x0 x1 x2 μ = some (r, mm)) : Spec yd_X2_setDoubted G [rf G 2 x0, iv x1, iv x2] (Em μ) (some (iv r)) (Em mm) := by
  refine Spec.of (by decide) rfl (catL_ok rfl) (Nat.le_of_ble_eq_true rfl) rfl (fun b hF => ?_)
  unfold D_X2_setDoubted at h
  refine ald_3_0 1 rfl dX2_setDoubted_0 rfl ?_
  refine dild_3_1 2 dX2_setDoubted_1 rfl ?_
  refine cvi_1 5 cw_X2_59 (S_X2_has x0 x1) rfl ⟨by decide, by decide⟩ rfl rfl rfl rfl rfl (Nat.le_of_ble_eq_true rfl) dX2_setDoubted_2 rfl ?_
  refine dt_if_eq 8 18 dX2_setDoubted_5 rfl (by decide) rfl (fun c => ?_) (fun c => ?_)
  · replace h := ifp c h
    refine dt_iconst 19 dX2_setDoubted_18 rfl ?_
    exact dr_z hF rfl isB_0 dX2_setDoubted_19 h
  · replace h := ifn c h
    refine ald_3_0 9 rfl dX2_setDoubted_8 rfl ?_
    refine dgf_X2_36 12 rfl dX2_setDoubted_9 rfl ?_
    refine dild_3_1 13 dX2_setDoubted_12 rfl ?_
    obtain ⟨hi, h⟩ := ift h
    refine dzald 14 rfl rfl rfl hi rfl rfl dX2_setDoubted_13 rfl ?_
    refine dild_3_2 15 dX2_setDoubted_14 rfl ?_
    refine dt_icmp_ne 18 20 dX2_setDoubted_15 rfl (by decide) rfl rfl (fun c => ?_) (fun c => ?_)
    · replace h := ifp c h
      refine ald_3_0 21 rfl dX2_setDoubted_20 rfl ?_
      refine dgf_X2_36 24 rfl dX2_setDoubted_21 rfl ?_
      refine dild_3_1 25 dX2_setDoubted_24 rfl ?_
      refine dild_3_2 26 dX2_setDoubted_25 rfl ?_
      obtain ⟨hi, h⟩ := ift h
      obtain ⟨hb, h⟩ := ift h
      refine dzast 27 rfl rfl rfl hi rfl hb dX2_setDoubted_26 rfl ?_
      refine ald_3_0 28 rfl dX2_setDoubted_27 rfl ?_
      refine dt_iconst 29 dX2_setDoubted_28 rfl ?_
      refine dpf_X2_15 32 isB_1 rfl dX2_setDoubted_29 rfl ?_
      refine dt_iconst 33 dX2_setDoubted_32 rfl ?_
      exact dr_z hF rfl isB_1 dX2_setDoubted_33 h
    · replace h := ifn c h
      refine dt_iconst 19 dX2_setDoubted_18 rfl ?_
      exact dr_z hF rfl isB_0 dX2_setDoubted_19 h
/-- StampTales$Man.dropLast -/
theorem S_X2_dropLast {G : Cx} {μ : Mi} {x0 : Bool} {r : Int} {mm : Mi} (h : D_X2_dropLast x0 μ = some (r, mm)) : Spec yd_X2_dropLast G [rf G 2 x0] (Em μ) (some (iv r)) (Em mm) := by
  refine Spec.of (by decide) rfl (catL_ok rfl) (Nat.le_of_ble_eq_true rfl) rfl (fun b hF => ?_)
  unfold D_X2_dropLast at h
  refine ald_1_0 1 rfl dX2_dropLast_0 rfl ?_
  refine dgf_X2_39 4 rfl dX2_dropLast_1 rfl rfl ?_
  refine dt_if_ne 7 9 dX2_dropLast_4 rfl (by decide) rfl (fun c => ?_) (fun c => ?_)
  · replace h := ifp c h
    refine ald_1_0 10 rfl dX2_dropLast_9 rfl ?_
    refine st_dup 11 dX2_dropLast_10 rfl rfl ?_
    refine dgf_X2_39 14 rfl dX2_dropLast_11 rfl rfl ?_
    refine dt_iconst 15 dX2_dropLast_14 rfl ?_
    refine dt_isub 16 dX2_dropLast_15 rfl ?_
    refine dpf_X2_39 19 rfl dX2_dropLast_16 rfl ?_
    refine ald_1_0 20 rfl dX2_dropLast_19 rfl ?_
    refine dt_iconst 21 dX2_dropLast_20 rfl ?_
    refine dpf_X2_15 24 isB_1 rfl dX2_dropLast_21 rfl ?_
    refine ald_1_0 25 rfl dX2_dropLast_24 rfl ?_
    refine dgf_X2_39 28 rfl dX2_dropLast_25 rfl ((rd_oj (by decide)).trans (rd_s)) ?_
    exact dr_i hF rfl dX2_dropLast_28 h
  · replace h := ifn c h
    refine dt_iconst 8 dX2_dropLast_7 rfl ?_
    exact dr_i hF rfl dX2_dropLast_8 h
/-- StampTales$Man.counts -/
theorem S_X2_counts {G : Cx} {μ : Mi} {x0 : Bool} {x1 : Int} {x2 : Int} {r : Int} (h : D_X2_counts x0 x1 x2 μ = some r) : Spec yd_X2_counts G [rf G 2 x0, iv x1, iv x2] (Em μ) (some (iv r)) (Em μ) := by
  refine Spec.of (by decide) rfl (catL_ok rfl) (Nat.le_of_ble_eq_true rfl) rfl (fun b hF => ?_)
  unfold D_X2_counts at h
  refine ald_3_0 1 rfl dX2_counts_0 rfl ?_
  refine dild_3_1 2 dX2_counts_1 rfl ?_
  refine cvi_1 5 cw_X2_59 (S_X2_has x0 x1) rfl ⟨by decide, by decide⟩ rfl rfl rfl rfl rfl (Nat.le_of_ble_eq_true rfl) dX2_counts_2 rfl ?_
  refine dt_if_eq 8 31 dX2_counts_5 rfl (by decide) rfl (fun c => ?_) (fun c => ?_)
  · replace h := ifp c h
    refine dt_iconst 32 dX2_counts_31 rfl ?_
    exact dr_zp hF rfl isB_0 dX2_counts_32 h
  · replace h := ifn c h
    refine ald_3_0 9 rfl dX2_counts_8 rfl ?_
    refine dgf_X2_19 12 rfl dX2_counts_9 rfl ?_
    refine dild_3_1 13 dX2_counts_12 rfl ?_
    obtain ⟨hi, h⟩ := ift h
    refine diald 14 rfl rfl rfl hi rfl rfl dX2_counts_13 rfl ?_
    refine dild_3_2 15 dX2_counts_14 rfl ?_
    refine dt_icmp_ne 18 31 dX2_counts_15 rfl (by decide) rfl rfl (fun c => ?_) (fun c => ?_)
    · replace h := ifp c h
      refine dt_iconst 32 dX2_counts_31 rfl ?_
      exact dr_zp hF rfl isB_0 dX2_counts_32 h
    · replace h := ifn c h
      refine ald_3_0 19 rfl dX2_counts_18 rfl ?_
      refine dgf_X2_36 22 rfl dX2_counts_19 rfl ?_
      refine dild_3_1 23 dX2_counts_22 rfl ?_
      obtain ⟨hi, h⟩ := ift h
      refine dzald 24 rfl rfl rfl hi rfl rfl dX2_counts_23 rfl ?_
      refine dt_if_ne 27 31 dX2_counts_24 rfl (by decide) rfl (fun c => ?_) (fun c => ?_)
      · replace h := ifp c h
        refine dt_iconst 32 dX2_counts_31 rfl ?_
        exact dr_zp hF rfl isB_0 dX2_counts_32 h
      · replace h := ifn c h
        refine dt_iconst 28 dX2_counts_27 rfl ?_
        refine st_goto 32 dX2_counts_28 (by decide) ?_
        exact dr_zp hF rfl isB_1 dX2_counts_32 h
/-- StampTales$Man.stampFits -/
theorem S_X2_stampFits {G : Cx} {μ : Mi} {x0 : Bool} {x1 : Int} {x2 : Int} {x3 : Int} {x4 : Int} {r : Int} (h : D_X2_stampFits x0 x1 x2 x3 x4 μ = some r) : Spec yd_X2_stampFits G [rf G 2 x0, iv x1, iv x2, iv x3, iv x4] (Em μ) (some (iv r)) (Em μ) := by
  refine Spec.of (by decide) rfl (catL_ok rfl) (Nat.le_of_ble_eq_true rfl) rfl (fun b hF => ?_)
  unfold D_X2_stampFits at h
  refine dild_5_1 1 dX2_stampFits_0 rfl ?_
  refine dt_if_lt 4 58 dX2_stampFits_1 rfl (by decide) rfl (fun c => ?_) (fun c => ?_)
  · replace h := ifp c h
    refine dt_iconst 59 dX2_stampFits_58 rfl ?_
    exact dr_zp hF rfl isB_0 dX2_stampFits_59 h
  · replace h := ifn c h
    refine dild_5_1 5 dX2_stampFits_4 rfl ?_
    refine ald_5_0 6 rfl dX2_stampFits_5 rfl ?_
    refine dgf_X2_39 9 rfl dX2_stampFits_6 rfl rfl ?_
    refine dt_icmp_ge 12 58 dX2_stampFits_9 rfl (by decide) rfl rfl (fun c => ?_) (fun c => ?_)
    · replace h := ifp c h
      refine dt_iconst 59 dX2_stampFits_58 rfl ?_
      exact dr_zp hF rfl isB_0 dX2_stampFits_59 h
    · replace h := ifn c h
      refine ald_5_0 13 rfl dX2_stampFits_12 rfl ?_
      refine dgf_X2_23 16 rfl dX2_stampFits_13 rfl ?_
      refine dild_5_1 17 dX2_stampFits_16 rfl ?_
      obtain ⟨hi, h⟩ := ift h
      refine diald 18 rfl rfl rfl hi rfl rfl dX2_stampFits_17 rfl ?_
      refine dild_5_2 19 dX2_stampFits_18 rfl ?_
      refine dt_icmp_ne 22 58 dX2_stampFits_19 rfl (by decide) rfl rfl (fun c => ?_) (fun c => ?_)
      · replace h := ifp c h
        refine dt_iconst 59 dX2_stampFits_58 rfl ?_
        exact dr_zp hF rfl isB_0 dX2_stampFits_59 h
      · replace h := ifn c h
        refine ald_5_0 23 rfl dX2_stampFits_22 rfl ?_
        refine dgf_X2_32 26 rfl dX2_stampFits_23 rfl ?_
        refine dild_5_1 27 dX2_stampFits_26 rfl ?_
        obtain ⟨hi, h⟩ := ift h
        refine dzald 28 rfl rfl rfl hi rfl rfl dX2_stampFits_27 rfl ?_
        refine dild_5_3 29 dX2_stampFits_28 rfl ?_
        refine dt_icmp_ne 32 58 dX2_stampFits_29 rfl (by decide) rfl rfl (fun c => ?_) (fun c => ?_)
        · replace h := ifp c h
          refine dt_iconst 59 dX2_stampFits_58 rfl ?_
          exact dr_zp hF rfl isB_0 dX2_stampFits_59 h
        · replace h := ifn c h
          refine dild_5_4 34 dX2_stampFits_32 rfl ?_
          refine ald_5_0 35 rfl dX2_stampFits_34 rfl ?_
          refine dgf_X2_26 38 rfl dX2_stampFits_35 rfl ?_
          refine dild_5_1 39 dX2_stampFits_38 rfl ?_
          obtain ⟨hi, h⟩ := ift h
          refine diald 40 rfl rfl rfl hi rfl rfl dX2_stampFits_39 rfl ?_
          refine dt_icmp_lt 43 58 dX2_stampFits_40 rfl (by decide) rfl rfl (fun c => ?_) (fun c => ?_)
          · replace h := ifp c h
            refine dt_iconst 59 dX2_stampFits_58 rfl ?_
            exact dr_zp hF rfl isB_0 dX2_stampFits_59 h
          · replace h := ifn c h
            refine dild_5_4 45 dX2_stampFits_43 rfl ?_
            refine ald_5_0 46 rfl dX2_stampFits_45 rfl ?_
            refine dgf_X2_29 49 rfl dX2_stampFits_46 rfl ?_
            refine dild_5_1 50 dX2_stampFits_49 rfl ?_
            obtain ⟨hi, h⟩ := ift h
            refine diald 51 rfl rfl rfl hi rfl rfl dX2_stampFits_50 rfl ?_
            refine dt_icmp_gt 54 58 dX2_stampFits_51 rfl (by decide) rfl rfl (fun c => ?_) (fun c => ?_)
            · replace h := ifp c h
              refine dt_iconst 59 dX2_stampFits_58 rfl ?_
              exact dr_zp hF rfl isB_0 dX2_stampFits_59 h
            · replace h := ifn c h
              refine dt_iconst 55 dX2_stampFits_54 rfl ?_
              refine st_goto 59 dX2_stampFits_55 (by decide) ?_
              exact dr_zp hF rfl isB_1 dX2_stampFits_59 h
