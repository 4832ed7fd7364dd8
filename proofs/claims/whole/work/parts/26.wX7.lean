/-- StampTalesModel.in -/
theorem S_X7_in {G : Cx} {μ : Mi} (x0 : Int) (x1 : Int) (x2 : Int) : Spec yd_X7_in G [iv x0, iv x1, iv x2] (Em μ) (some (iv (D_X7_in x0 x1 x2))) (Em μ) := by
  generalize h : D_X7_in x0 x1 x2 = r
  refine Spec.of (by decide) rfl (catL_ok rfl) (Nat.le_of_ble_eq_true rfl) rfl (fun b hF => ?_)
  unfold D_X7_in at h
  refine dild_3_0 1 dX7_in_0 rfl ?_
  refine dild_3_1 2 dX7_in_1 rfl ?_
  refine dt_icmp_lt 5 14 dX7_in_2 rfl (by decide) rfl rfl (fun c => ?_) (fun c => ?_)
  · replace h := ifp c h
    refine dt_iconst 15 dX7_in_14 rfl ?_
    exact dr_zt hF rfl isB_0 dX7_in_15 h
  · replace h := ifn c h
    refine dild_3_0 6 dX7_in_5 rfl ?_
    refine dild_3_2 7 dX7_in_6 rfl ?_
    refine dt_icmp_gt 10 14 dX7_in_7 rfl (by decide) rfl rfl (fun c => ?_) (fun c => ?_)
    · replace h := ifp c h
      refine dt_iconst 15 dX7_in_14 rfl ?_
      exact dr_zt hF rfl isB_0 dX7_in_15 h
    · replace h := ifn c h
      refine dt_iconst 11 dX7_in_10 rfl ?_
      refine st_goto 15 dX7_in_11 (by decide) ?_
      exact dr_zt hF rfl isB_1 dX7_in_15 h
/-- StampTalesModel.feed -/
theorem A_X7_feed_71 {G : Cx} {b : Ab} {r : Int} {mm : Mi} {k18 : (Int → Int → Int → Int → Int → Int → Mi → Option (Int × Mi))} (hF : Fi yd_X7_feed G b (some (iv r)) (Em mm)) (hk18 : ∀ (x1 : Int) (x2 : Int) (x3 : Int) (x4 : Int) (x5 : Int) (x6 : Int) (m : Mi), k18 x1 x2 x3 x4 x5 x6 m = some (r, mm) → At yd_X7_feed G b 18 [some (rf G 7 false), some (iv x1), some (iv x2), some (iv x3), some (iv x4), some (iv x5), some (iv x6), none] [] (Em m)) (x1 : Int) (x2 : Int) (x3 : Int) (x4 : Int) (x5 : Int) (x6 : Int) (s0 : Int) (μ : Mi) (h : B_X7_feed_71 k18 x1 x2 x3 x4 x5 x6 s0 μ = some (r, mm)) : At yd_X7_feed G b 71 [some (rf G 7 false), some (iv x1), some (iv x2), some (iv x3), some (iv x4), some (iv x5), some (iv x6), none] [iv s0] (Em μ) := by
  unfold B_X7_feed_71 at h
  refine dist_8_7 73 dX7_feed_71 rfl rfl rfl ?_
  refine ald_8_0 74 rfl dX7_feed_73 rfl ?_
  refine dgf_X7_9 77 rfl dX7_feed_74 rfl ?_
  refine ald_8_0 78 rfl dX7_feed_77 rfl ?_
  refine dgf_X7_113 81 rfl dX7_feed_78 rfl rfl ?_
  refine dild_8_7 83 dX7_feed_81 rfl ?_
  refine dt_bipush 85 dX7_feed_83 bq_24 rfl ?_
  refine dt_bipush 87 dX7_feed_85 bq_8 rfl ?_
  refine dild_8_6 89 dX7_feed_87 rfl ?_
  refine dt_iconst 90 dX7_feed_89 rfl ?_
  refine dt_irem 91 dX7_feed_90 (by rw [wk_4]; decide) rfl ?_
  refine dt_imul 92 dX7_feed_91 rfl ?_
  refine dt_isub 93 dX7_feed_92 rfl ?_
  refine dt_ishr 94 dX7_feed_93 rfl ?_
  refine dt_i2b 95 dX7_feed_94 rfl ?_
  obtain ⟨hi, h⟩ := ift h
  refine dbast 96 rfl rfl rfl hi rfl dX7_feed_95 rfl ?_
  refine ald_8_0 97 rfl dX7_feed_96 rfl ?_
  refine st_dup 98 dX7_feed_97 rfl rfl ?_
  refine dgf_X7_113 101 rfl dX7_feed_98 rfl (rd_o (by decide)) ?_
  refine dt_iconst 102 dX7_feed_101 rfl ?_
  refine dt_iadd 103 dX7_feed_102 rfl ?_
  refine dpf_X7_113 106 rfl dX7_feed_103 rfl ?_
  refine dinc_8_6 109 dX7_feed_106 rfl rfl rfl ?_
  refine st_goto 18 dX7_feed_109 (by decide) ?_
  exact At.weak (ls_s (ls_s (ls_s (ls_s (ls_s (ls_s (ls_s (ls_n ls_0)))))))) (hk18 _ _ _ _ _ _ _ h)
theorem A_X7_feed_18 {G : Cx} {b : Ab} {r : Int} {mm : Mi} (hF : Fi yd_X7_feed G b (some (iv r)) (Em mm)) : ∀ (n : Nat) (x1 : Int) (x2 : Int) (x3 : Int) (x4 : Int) (x5 : Int) (x6 : Int) (μ : Mi), B_X7_feed_18 n x1 x2 x3 x4 x5 x6 μ = some (r, mm) → At yd_X7_feed G b 18 [some (rf G 7 false), some (iv x1), some (iv x2), some (iv x3), some (iv x4), some (iv x5), some (iv x6), none] [] (Em μ) := by
  intro n
  induction n with
  | zero =>
    intro x1 x2 x3 x4 x5 x6 μ h
    exact nope h
  | succ n hk18 =>
    intro x1 x2 x3 x4 x5 x6 μ h
    replace h : F_X7_feed_18 (B_X7_feed_18 n) x1 x2 x3 x4 x5 x6 μ = some (r, mm) := h
    unfold F_X7_feed_18 at h
    refine dild_8_6 20 dX7_feed_18 rfl ?_
    refine dt_bipush 22 dX7_feed_20 bq_20 rfl ?_
    refine dt_icmp_ge 25 112 dX7_feed_22 rfl (by decide) rfl wk_20 (fun c => ?_) (fun c => ?_)
    · replace h := ifp c h
      refine ald_8_0 113 rfl dX7_feed_112 rfl ?_
      refine dgf_X7_113 116 rfl dX7_feed_113 rfl rfl ?_
      exact dr_i hF rfl dX7_feed_116 h
    · replace h := ifn c h
      refine dild_8_6 27 dX7_feed_25 rfl ?_
      refine dt_iconst 28 dX7_feed_27 rfl ?_
      refine dt_icmp_ge 31 35 dX7_feed_28 rfl (by decide) rfl wk_4 (fun c => ?_) (fun c => ?_)
      · replace h := ifp c h
        refine dild_8_6 37 dX7_feed_35 rfl ?_
        refine dt_bipush 39 dX7_feed_37 bq_8 rfl ?_
        refine dt_icmp_ge 42 46 dX7_feed_39 rfl (by decide) rfl wk_8 (fun c => ?_) (fun c => ?_)
        · replace h := ifp c h
          refine dild_8_6 48 dX7_feed_46 rfl ?_
          refine dt_bipush 50 dX7_feed_48 bq_12 rfl ?_
          refine dt_icmp_ge 53 57 dX7_feed_50 rfl (by decide) rfl wk_12 (fun c => ?_) (fun c => ?_)
          · replace h := ifp c h
            refine dild_8_6 59 dX7_feed_57 rfl ?_
            refine dt_bipush 61 dX7_feed_59 bq_16 rfl ?_
            refine dt_icmp_ge 64 69 dX7_feed_61 rfl (by decide) rfl wk_16 (fun c => ?_) (fun c => ?_)
            · replace h := ifp c h
              refine dild_8_5 71 dX7_feed_69 rfl ?_
              exact A_X7_feed_71 hF hk18 _ _ _ _ _ _ _ _ h
            · replace h := ifn c h
              refine dild_8_4 66 dX7_feed_64 rfl ?_
              refine st_goto 71 dX7_feed_66 (by decide) ?_
              exact A_X7_feed_71 hF hk18 _ _ _ _ _ _ _ _ h
          · replace h := ifn c h
            refine dild_8_3 54 dX7_feed_53 rfl ?_
            refine st_goto 71 dX7_feed_54 (by decide) ?_
            exact A_X7_feed_71 hF hk18 _ _ _ _ _ _ _ _ h
        · replace h := ifn c h
          refine dild_8_2 43 dX7_feed_42 rfl ?_
          refine st_goto 71 dX7_feed_43 (by decide) ?_
          exact A_X7_feed_71 hF hk18 _ _ _ _ _ _ _ _ h
      · replace h := ifn c h
        refine dild_8_1 32 dX7_feed_31 rfl ?_
        refine st_goto 71 dX7_feed_32 (by decide) ?_
        exact A_X7_feed_71 hF hk18 _ _ _ _ _ _ _ _ h
theorem S_X7_feed {G : Cx} {μ : Mi} {x1 : Int} {x2 : Int} {x3 : Int} {x4 : Int} {x5 : Int} {r : Int} {mm : Mi} (h : D_X7_feed x1 x2 x3 x4 x5 μ = some (r, mm)) : Spec yd_X7_feed G [rf G 7 false, iv x1, iv x2, iv x3, iv x4, iv x5] (Em μ) (some (iv r)) (Em mm) := by
  refine Spec.of (by decide) rfl (catL_ok rfl) (Nat.le_of_ble_eq_true rfl) rfl (fun b hF => ?_)
  unfold D_X7_feed at h
  refine ald_8_0 1 rfl dX7_feed_0 rfl ?_
  refine dgf_X7_113 4 rfl dX7_feed_1 rfl rfl ?_
  refine dt_bipush 6 dX7_feed_4 bq_20 rfl ?_
  refine dt_iadd 7 dX7_feed_6 rfl ?_
  refine dt_sipush 10 dX7_feed_7 sq_500 rfl ?_
  refine dt_icmp_le 13 15 dX7_feed_10 rfl (by decide) rfl wk_500 (fun c => ?_) (fun c => ?_)
  · replace h := ifp c h
    refine dt_iconst 16 dX7_feed_15 rfl ?_
    refine dist_8_6 18 dX7_feed_16 rfl rfl rfl ?_
    exact A_X7_feed_18 hF FU _ _ _ _ _ _ _ h
  · replace h := ifn c h
    refine dt_iconst 14 dX7_feed_13 rfl ?_
    exact dr_i hF rfl dX7_feed_14 h
/-- StampTalesModel.end -/
theorem S_X7_end {G : Cx} {μ : Mi} {x1 : Int} {r : Int} {mm : Mi} (h : D_X7_end x1 μ = some (r, mm)) : Spec yd_X7_end G [rf G 7 false, iv x1] (Em μ) (some (iv r)) (Em mm) := by
  refine Spec.of (by decide) rfl (catL_ok rfl) (Nat.le_of_ble_eq_true rfl) rfl (fun b hF => ?_)
  unfold D_X7_end at h
  refine dild_2_1 1 dX7_end_0 rfl ?_
  refine dt_iconst 2 dX7_end_1 rfl ?_
  refine ald_2_0 3 rfl dX7_end_2 rfl ?_
  refine dgf_X7_113 6 rfl dX7_end_3 rfl rfl ?_
  refine csi_3 9 cw_X7_117 (S_X7_in x1 0 (rd μ 7 false 1)) rfl ⟨by decide, by decide⟩ (Nat.le_of_ble_eq_true rfl) dX7_end_6 rfl ?_
  refine dt_if_ne 12 14 dX7_end_9 rfl (by decide) rfl (fun c => ?_) (fun c => ?_)
  · replace h := ifp c h
    refine ald_2_0 15 rfl dX7_end_14 rfl ?_
    refine dild_2_1 16 dX7_end_15 rfl ?_
    refine dpf_X7_113 19 rfl dX7_end_16 rfl ?_
    refine dt_iconst 20 dX7_end_19 rfl ?_
    exact dr_z hF rfl isB_1 dX7_end_20 h
  · replace h := ifn c h
    refine dt_iconst 13 dX7_end_12 rfl ?_
    exact dr_z hF rfl isB_0 dX7_end_13 h
/-- StampTalesModel.isLetter -/
theorem S_X7_isLetter {G : Cx} {μ : Mi} (x0 : Int) : Spec yd_X7_isLetter G [iv x0] (Em μ) (some (iv (D_X7_isLetter x0))) (Em μ) := by
  generalize h : D_X7_isLetter x0 = r
  refine Spec.of (by decide) rfl (catL_ok rfl) (Nat.le_of_ble_eq_true rfl) rfl (fun b hF => ?_)
  unfold D_X7_isLetter at h
  refine dild_1_0 1 dX7_isLetter_0 rfl ?_
  refine dt_bipush 3 dX7_isLetter_1 bq_97 rfl ?_
  refine dt_icmp_lt 6 16 dX7_isLetter_3 rfl (by decide) rfl wk_97 (fun c => ?_) (fun c => ?_)
  · replace h := ifp c h
    refine dt_iconst 17 dX7_isLetter_16 rfl ?_
    exact dr_zt hF rfl isB_0 dX7_isLetter_17 h
  · replace h := ifn c h
    refine dild_1_0 7 dX7_isLetter_6 rfl ?_
    refine dt_bipush 9 dX7_isLetter_7 bq_122 rfl ?_
    refine dt_icmp_gt 12 16 dX7_isLetter_9 rfl (by decide) rfl wk_122 (fun c => ?_) (fun c => ?_)
    · replace h := ifp c h
      refine dt_iconst 17 dX7_isLetter_16 rfl ?_
      exact dr_zt hF rfl isB_0 dX7_isLetter_17 h
    · replace h := ifn c h
      refine dt_iconst 13 dX7_isLetter_12 rfl ?_
      refine st_goto 17 dX7_isLetter_13 (by decide) ?_
      exact dr_zt hF rfl isB_1 dX7_isLetter_17 h
/-- StampTalesModel.isDigit -/
theorem S_X7_isDigit {G : Cx} {μ : Mi} (x0 : Int) : Spec yd_X7_isDigit G [iv x0] (Em μ) (some (iv (D_X7_isDigit x0))) (Em μ) := by
  generalize h : D_X7_isDigit x0 = r
  refine Spec.of (by decide) rfl (catL_ok rfl) (Nat.le_of_ble_eq_true rfl) rfl (fun b hF => ?_)
  unfold D_X7_isDigit at h
  refine dild_1_0 1 dX7_isDigit_0 rfl ?_
  refine dt_bipush 3 dX7_isDigit_1 bq_48 rfl ?_
  refine dt_icmp_lt 6 16 dX7_isDigit_3 rfl (by decide) rfl wk_48 (fun c => ?_) (fun c => ?_)
  · replace h := ifp c h
    refine dt_iconst 17 dX7_isDigit_16 rfl ?_
    exact dr_zt hF rfl isB_0 dX7_isDigit_17 h
  · replace h := ifn c h
    refine dild_1_0 7 dX7_isDigit_6 rfl ?_
    refine dt_bipush 9 dX7_isDigit_7 bq_57 rfl ?_
    refine dt_icmp_gt 12 16 dX7_isDigit_9 rfl (by decide) rfl wk_57 (fun c => ?_) (fun c => ?_)
    · replace h := ifp c h
      refine dt_iconst 17 dX7_isDigit_16 rfl ?_
      exact dr_zt hF rfl isB_0 dX7_isDigit_17 h
    · replace h := ifn c h
      refine dt_iconst 13 dX7_isDigit_12 rfl ?_
      refine st_goto 17 dX7_isDigit_13 (by decide) ?_
      exact dr_zt hF rfl isB_1 dX7_isDigit_17 h
/-- StampTalesModel.next -/
theorem A_X7_next_312 {G : Cx} {b : Ab}  {mm : Mi} (hF : Fi yd_X7_next G b none (Em mm)) (s0 : Int) (μ : Mi) (h : B_X7_next_312 s0 μ = some mm) : At yd_X7_next G b 312 [some (rf G 7 false), none] [iv s0, rf G 7 false] (Em μ) := by
  unfold B_X7_next_312 at h
  refine dpf_X7_131 315 rfl dX7_next_312 rfl ?_
  refine ald_2_0 316 rfl dX7_next_315 rfl ?_
  refine st_dup 317 dX7_next_316 rfl rfl ?_
  refine dgf_X7_121 320 rfl dX7_next_317 rfl (rd_oj (by decide)) ?_
  refine dt_iconst 321 dX7_next_320 rfl ?_
  refine dt_iadd 322 dX7_next_321 rfl ?_
  refine dpf_X7_121 325 rfl dX7_next_322 rfl ?_
  exact dr_v hF rfl dX7_next_325 h
theorem A_X7_next_292 {G : Cx} {b : Ab}  {mm : Mi} (hF : Fi yd_X7_next G b none (Em mm)) (μ : Mi) (h : B_X7_next_292 μ = some mm) : At yd_X7_next G b 292 [some (rf G 7 false), none] [] (Em μ) := by
  unfold B_X7_next_292 at h
  refine ald_2_0 293 rfl dX7_next_292 rfl ?_
  refine dt_iconst 294 dX7_next_293 rfl ?_
  refine dpf_X7_131 297 rfl dX7_next_294 rfl ?_
  refine st_goto 325 dX7_next_297 (by decide) ?_
  exact dr_v hF rfl dX7_next_325 h
theorem A_X7_next_276 {G : Cx} {b : Ab}  {mm : Mi} {k208 : (Mi → Option Mi)} (hF : Fi yd_X7_next G b none (Em mm)) (hk208 : ∀ (m : Mi), k208 m = some mm → At yd_X7_next G b 208 [some (rf G 7 false), none] [] (Em m)) (s0 : Int) (μ : Mi) (h : B_X7_next_276 k208 s0 μ = some mm) : At yd_X7_next G b 276 [some (rf G 7 false), none] [jv s0, rf G 7 false] (Em μ) := by
  unfold B_X7_next_276 at h
  refine dpf_X7_127 279 rfl dX7_next_276 rfl ?_
  refine ald_2_0 280 rfl dX7_next_279 rfl ?_
  refine st_dup 281 dX7_next_280 rfl rfl ?_
  refine dgf_X7_121 284 rfl dX7_next_281 rfl (rd_wl _ _ _ _ _ _ _ _) ?_
  refine dt_iconst 285 dX7_next_284 rfl ?_
  refine dt_iadd 286 dX7_next_285 rfl ?_
  refine dpf_X7_121 289 rfl dX7_next_286 rfl ?_
  refine st_goto 208 dX7_next_289 (by decide) ?_
  exact hk208 _ h
theorem A_X7_next_208 {G : Cx} {b : Ab}  {mm : Mi} (hF : Fi yd_X7_next G b none (Em mm)) : ∀ (n : Nat) (μ : Mi), B_X7_next_208 n μ = some mm → At yd_X7_next G b 208 [some (rf G 7 false), none] [] (Em μ) := by
  intro n
  induction n with
  | zero =>
    intro μ h
    exact nope h
  | succ n hk208 =>
    intro μ h
    replace h : F_X7_next_208 (B_X7_next_208 n) μ = some mm := h
    unfold F_X7_next_208 at h
    refine ald_2_0 209 rfl dX7_next_208 rfl ?_
    refine dgf_X7_121 212 rfl dX7_next_209 rfl rfl ?_
    refine ald_2_0 213 rfl dX7_next_212 rfl ?_
    refine dgf_X7_113 216 rfl dX7_next_213 rfl rfl ?_
    refine dt_icmp_ge 219 292 dX7_next_216 rfl (by decide) rfl rfl (fun c => ?_) (fun c => ?_)
    · replace h := ifp c h
      exact A_X7_next_292 hF _ h
    · replace h := ifn c h
      refine ald_2_0 220 rfl dX7_next_219 rfl ?_
      refine dgf_X7_9 223 rfl dX7_next_220 rfl ?_
      refine ald_2_0 224 rfl dX7_next_223 rfl ?_
      refine dgf_X7_121 227 rfl dX7_next_224 rfl rfl ?_
      obtain ⟨hi, h⟩ := ift h
      refine dbald 228 rfl rfl rfl hi rfl rfl dX7_next_227 rfl ?_
      refine csi_1 231 cw_X7_138 (S_X7_isDigit (rd μ 42 false (ix (rd μ 7 false 2)))) rfl ⟨by decide, by decide⟩ (Nat.le_of_ble_eq_true rfl) dX7_next_228 rfl ?_
      refine dt_if_eq 234 292 dX7_next_231 rfl (by decide) rfl (fun c => ?_) (fun c => ?_)
      · replace h := ifp c h
        exact A_X7_next_292 hF _ h
      · replace h := ifn c h
        refine ald_2_0 235 rfl dX7_next_234 rfl ?_
        refine ald_2_0 236 rfl dX7_next_235 rfl ?_
        refine dgf_X7_127 239 rfl dX7_next_236 rfl rfl ?_
        refine dt_ldc2 (z := 999) 242 rfl k_X7_141 (by decide) dX7_next_239 rfl ?_
        refine dt_lcmp 243 dX7_next_242 rfl ?_
        refine dt_if_le 246 253 dX7_next_243 rfl (by decide) rfl (fun c => ?_) (fun c => ?_)
        · replace h := ifp c h
          refine dt_ldc2 (z := 10) 256 rfl k_X7_143 (by decide) dX7_next_253 rfl ?_
          refine ald_2_0 257 rfl dX7_next_256 rfl ?_
          refine dgf_X7_127 260 rfl dX7_next_257 rfl rfl ?_
          refine dt_lmul 261 dX7_next_260 rfl ?_
          refine ald_2_0 262 rfl dX7_next_261 rfl ?_
          refine dgf_X7_9 265 rfl dX7_next_262 rfl ?_
          refine ald_2_0 266 rfl dX7_next_265 rfl ?_
          refine dgf_X7_121 269 rfl dX7_next_266 rfl rfl ?_
          obtain ⟨hi, h⟩ := ift h
          refine dbald 270 rfl rfl rfl hi rfl rfl dX7_next_269 rfl ?_
          refine dt_i2l 271 dX7_next_270 rfl rfl ?_
          refine dt_ladd 272 dX7_next_271 rfl ?_
          refine dt_ldc2 (z := 48) 275 rfl k_X7_145 (by decide) dX7_next_272 rfl ?_
          refine dt_lsub 276 dX7_next_275 rfl ?_
          exact A_X7_next_276 hF hk208 _ _ h
        · replace h := ifn c h
          refine ald_2_0 247 rfl dX7_next_246 rfl ?_
          refine dgf_X7_127 250 rfl dX7_next_247 rfl rfl ?_
          refine st_goto 276 dX7_next_250 (by decide) ?_
          exact A_X7_next_276 hF hk208 _ _ h
theorem A_X7_next_193 {G : Cx} {b : Ab}  {mm : Mi} (hF : Fi yd_X7_next G b none (Em mm)) (μ : Mi) (h : B_X7_next_193 μ = some mm) : At yd_X7_next G b 193 [some (rf G 7 false), none] [] (Em μ) := by
  unfold B_X7_next_193 at h
  refine ald_2_0 194 rfl dX7_next_193 rfl ?_
  refine dt_iconst 195 dX7_next_194 rfl ?_
  refine dpf_X7_131 198 rfl dX7_next_195 rfl ?_
  refine st_goto 325 dX7_next_198 (by decide) ?_
  exact dr_v hF rfl dX7_next_325 h
theorem A_X7_next_174 {G : Cx} {b : Ab}  {mm : Mi} (hF : Fi yd_X7_next G b none (Em mm)) (μ : Mi) (h : B_X7_next_174 μ = some mm) : At yd_X7_next G b 174 [some (rf G 7 false), none] [] (Em μ) := by
  unfold B_X7_next_174 at h
  refine ald_2_0 175 rfl dX7_next_174 rfl ?_
  refine dgf_X7_121 178 rfl dX7_next_175 rfl rfl ?_
  refine ald_2_0 179 rfl dX7_next_178 rfl ?_
  refine dgf_X7_124 182 rfl dX7_next_179 rfl rfl ?_
  refine dt_isub 183 dX7_next_182 rfl ?_
  refine dt_bipush 185 dX7_next_183 bq_8 rfl ?_
  refine dt_icmp_le 188 193 dX7_next_185 rfl (by decide) rfl wk_8 (fun c => ?_) (fun c => ?_)
  · replace h := ifp c h
    exact A_X7_next_193 hF _ h
  · replace h := ifn c h
    refine ald_2_0 189 rfl dX7_next_188 rfl ?_
    refine dt_lconst 190 dX7_next_189 rfl ?_
    refine dpf_X7_127 193 rfl dX7_next_190 rfl ?_
    exact A_X7_next_193 hF _ h
theorem A_X7_next_161 {G : Cx} {b : Ab}  {mm : Mi} {k99 : (Mi → Option Mi)} (hF : Fi yd_X7_next G b none (Em mm)) (hk99 : ∀ (m : Mi), k99 m = some mm → At yd_X7_next G b 99 [some (rf G 7 false), none] [] (Em m)) (μ : Mi) (h : B_X7_next_161 k99 μ = some mm) : At yd_X7_next G b 161 [some (rf G 7 false), none] [] (Em μ) := by
  unfold B_X7_next_161 at h
  refine ald_2_0 162 rfl dX7_next_161 rfl ?_
  refine st_dup 163 dX7_next_162 rfl rfl ?_
  refine dgf_X7_121 166 rfl dX7_next_163 rfl rfl ?_
  refine dt_iconst 167 dX7_next_166 rfl ?_
  refine dt_iadd 168 dX7_next_167 rfl ?_
  refine dpf_X7_121 171 rfl dX7_next_168 rfl ?_
  refine st_goto 99 dX7_next_171 (by decide) ?_
  exact hk99 _ h
theorem A_X7_next_99 {G : Cx} {b : Ab}  {mm : Mi} (hF : Fi yd_X7_next G b none (Em mm)) : ∀ (n : Nat) (μ : Mi), B_X7_next_99 n μ = some mm → At yd_X7_next G b 99 [some (rf G 7 false), none] [] (Em μ) := by
  intro n
  induction n with
  | zero =>
    intro μ h
    exact nope h
  | succ n hk99 =>
    intro μ h
    replace h : F_X7_next_99 (B_X7_next_99 n) μ = some mm := h
    unfold F_X7_next_99 at h
    refine ald_2_0 100 rfl dX7_next_99 rfl ?_
    refine dgf_X7_121 103 rfl dX7_next_100 rfl rfl ?_
    refine ald_2_0 104 rfl dX7_next_103 rfl ?_
    refine dgf_X7_113 107 rfl dX7_next_104 rfl rfl ?_
    refine dt_icmp_ge 110 174 dX7_next_107 rfl (by decide) rfl rfl (fun c => ?_) (fun c => ?_)
    · replace h := ifp c h
      exact A_X7_next_174 hF _ h
    · replace h := ifn c h
      refine ald_2_0 111 rfl dX7_next_110 rfl ?_
      refine dgf_X7_9 114 rfl dX7_next_111 rfl ?_
      refine ald_2_0 115 rfl dX7_next_114 rfl ?_
      refine dgf_X7_121 118 rfl dX7_next_115 rfl rfl ?_
      obtain ⟨hi, h⟩ := ift h
      refine dbald 119 rfl rfl rfl hi rfl rfl dX7_next_118 rfl ?_
      refine csi_1 122 cw_X7_134 (S_X7_isLetter (rd μ 42 false (ix (rd μ 7 false 2)))) rfl ⟨by decide, by decide⟩ (Nat.le_of_ble_eq_true rfl) dX7_next_119 rfl ?_
      refine dt_if_eq 125 174 dX7_next_122 rfl (by decide) rfl (fun c => ?_) (fun c => ?_)
      · replace h := ifp c h
        exact A_X7_next_174 hF _ h
      · replace h := ifn c h
        refine ald_2_0 126 rfl dX7_next_125 rfl ?_
        refine dgf_X7_121 129 rfl dX7_next_126 rfl rfl ?_
        refine ald_2_0 130 rfl dX7_next_129 rfl ?_
        refine dgf_X7_124 133 rfl dX7_next_130 rfl rfl ?_
        refine dt_isub 134 dX7_next_133 rfl ?_
        refine dt_bipush 136 dX7_next_134 bq_8 rfl ?_
        refine dt_icmp_ge 139 161 dX7_next_136 rfl (by decide) rfl wk_8 (fun c => ?_) (fun c => ?_)
        · replace h := ifp c h
          exact A_X7_next_161 hF hk99 _ h
        · replace h := ifn c h
          refine ald_2_0 140 rfl dX7_next_139 rfl ?_
          refine ald_2_0 141 rfl dX7_next_140 rfl ?_
          refine dgf_X7_127 144 rfl dX7_next_141 rfl rfl ?_
          refine dt_bipush 146 dX7_next_144 bq_8 rfl ?_
          refine dt_lshl 147 dX7_next_146 rfl ?_
          refine ald_2_0 148 rfl dX7_next_147 rfl ?_
          refine dgf_X7_9 151 rfl dX7_next_148 rfl ?_
          refine ald_2_0 152 rfl dX7_next_151 rfl ?_
          refine dgf_X7_121 155 rfl dX7_next_152 rfl rfl ?_
          obtain ⟨hi, h⟩ := ift h
          refine dbald 156 rfl rfl rfl hi rfl rfl dX7_next_155 rfl ?_
          refine dt_i2l 157 dX7_next_156 rfl rfl ?_
          refine dt_lor 158 dX7_next_157 rfl ?_
          refine dpf_X7_127 161 rfl dX7_next_158 rfl ?_
          exact A_X7_next_161 hF hk99 _ h
theorem A_X7_next_52 {G : Cx} {b : Ab}  {mm : Mi} (hF : Fi yd_X7_next G b none (Em mm)) (μ : Mi) (h : B_X7_next_52 μ = some mm) : At yd_X7_next G b 52 [some (rf G 7 false), none] [] (Em μ) := by
  unfold B_X7_next_52 at h
  refine ald_2_0 53 rfl dX7_next_52 rfl ?_
  refine ald_2_0 54 rfl dX7_next_53 rfl ?_
  refine dgf_X7_121 57 rfl dX7_next_54 rfl rfl ?_
  refine dpf_X7_124 60 rfl dX7_next_57 rfl ?_
  refine ald_2_0 61 rfl dX7_next_60 rfl ?_
  refine dt_lconst 62 dX7_next_61 rfl ?_
  refine dpf_X7_127 65 rfl dX7_next_62 rfl ?_
  refine ald_2_0 66 rfl dX7_next_65 rfl ?_
  refine dt_iconst 67 dX7_next_66 rfl ?_
  refine dpf_X7_131 70 rfl dX7_next_67 rfl ?_
  refine ald_2_0 71 rfl dX7_next_70 rfl ?_
  refine dgf_X7_121 74 rfl dX7_next_71 rfl ((rd_oj (by decide)).trans ((rd_wl _ _ _ _ _ _ _ _).trans (rd_oj (by decide)))) ?_
  refine ald_2_0 75 rfl dX7_next_74 rfl ?_
  refine dgf_X7_113 78 rfl dX7_next_75 rfl ((rd_oj (by decide)).trans ((rd_wl _ _ _ _ _ _ _ _).trans (rd_oj (by decide)))) ?_
  refine dt_icmp_ne 81 82 dX7_next_78 rfl (by decide) rfl rfl (fun c => ?_) (fun c => ?_)
  · replace h := ifp c h
    refine ald_2_0 83 rfl dX7_next_82 rfl ?_
    refine dgf_X7_9 86 rfl dX7_next_83 rfl ?_
    refine ald_2_0 87 rfl dX7_next_86 rfl ?_
    refine dgf_X7_121 90 rfl dX7_next_87 rfl ((rd_oj (by decide)).trans ((rd_wl _ _ _ _ _ _ _ _).trans (rd_oj (by decide)))) ?_
    obtain ⟨hi, h⟩ := ift h
    refine dbald 91 rfl rfl rfl hi rfl ((rd_o (by decide)).trans ((rd_wl _ _ _ _ _ _ _ _).trans (rd_o (by decide)))) dX7_next_90 rfl ?_
    refine dist_2_1 92 dX7_next_91 rfl rfl rfl ?_
    refine dild_2_1 93 dX7_next_92 rfl ?_
    refine csi_1 96 cw_X7_134 (S_X7_isLetter (rd μ 42 false (ix (rd μ 7 false 2)))) rfl ⟨by decide, by decide⟩ (Nat.le_of_ble_eq_true rfl) dX7_next_93 rfl ?_
    refine dt_if_eq 99 201 dX7_next_96 rfl (by decide) rfl (fun c => ?_) (fun c => ?_)
    · replace h := ifp c h
      refine dild_2_1 202 dX7_next_201 rfl ?_
      refine csi_1 205 cw_X7_138 (S_X7_isDigit (rd μ 42 false (ix (rd μ 7 false 2)))) rfl ⟨by decide, by decide⟩ (Nat.le_of_ble_eq_true rfl) dX7_next_202 rfl ?_
      refine dt_if_eq 208 300 dX7_next_205 rfl (by decide) rfl (fun c => ?_) (fun c => ?_)
      · replace h := ifp c h
        refine ald_2_0 301 rfl dX7_next_300 rfl ?_
        refine dild_2_1 302 dX7_next_301 rfl ?_
        refine dt_bipush 304 dX7_next_302 bq_59 rfl ?_
        refine dt_icmp_ne 307 311 dX7_next_304 rfl (by decide) rfl wk_59 (fun c => ?_) (fun c => ?_)
        · replace h := ifp c h
          refine dt_iconst 312 dX7_next_311 rfl ?_
          exact At.weak (ls_s (ls_n ls_0)) (A_X7_next_312 hF _ _ h)
        · replace h := ifn c h
          refine dt_iconst 308 dX7_next_307 rfl ?_
          refine st_goto 312 dX7_next_308 (by decide) ?_
          exact At.weak (ls_s (ls_n ls_0)) (A_X7_next_312 hF _ _ h)
      · replace h := ifn c h
        exact At.weak (ls_s (ls_n ls_0)) (A_X7_next_208 hF FU _ h)
    · replace h := ifn c h
      exact At.weak (ls_s (ls_n ls_0)) (A_X7_next_99 hF FU _ h)
  · replace h := ifn c h
    exact dr_v hF rfl dX7_next_81 h
theorem A_X7_next_39 {G : Cx} {b : Ab}  {mm : Mi} {k0 : (Mi → Option Mi)} (hF : Fi yd_X7_next G b none (Em mm)) (hk0 : ∀ (m : Mi), k0 m = some mm → At yd_X7_next G b 0 [some (rf G 7 false), none] [] (Em m)) (μ : Mi) (h : B_X7_next_39 k0 μ = some mm) : At yd_X7_next G b 39 [some (rf G 7 false), none] [] (Em μ) := by
  unfold B_X7_next_39 at h
  refine ald_2_0 40 rfl dX7_next_39 rfl ?_
  refine st_dup 41 dX7_next_40 rfl rfl ?_
  refine dgf_X7_121 44 rfl dX7_next_41 rfl rfl ?_
  refine dt_iconst 45 dX7_next_44 rfl ?_
  refine dt_iadd 46 dX7_next_45 rfl ?_
  refine dpf_X7_121 49 rfl dX7_next_46 rfl ?_
  refine st_goto 0 dX7_next_49 (by decide) ?_
  exact hk0 _ h
theorem A_X7_next_0 {G : Cx} {b : Ab}  {mm : Mi} (hF : Fi yd_X7_next G b none (Em mm)) : ∀ (n : Nat) (μ : Mi), B_X7_next_0 n μ = some mm → At yd_X7_next G b 0 [some (rf G 7 false), none] [] (Em μ) := by
  intro n
  induction n with
  | zero =>
    intro μ h
    exact nope h
  | succ n hk0 =>
    intro μ h
    replace h : F_X7_next_0 (B_X7_next_0 n) μ = some mm := h
    unfold F_X7_next_0 at h
    refine ald_2_0 1 rfl dX7_next_0 rfl ?_
    refine dgf_X7_121 4 rfl dX7_next_1 rfl rfl ?_
    refine ald_2_0 5 rfl dX7_next_4 rfl ?_
    refine dgf_X7_113 8 rfl dX7_next_5 rfl rfl ?_
    refine dt_icmp_ge 11 52 dX7_next_8 rfl (by decide) rfl rfl (fun c => ?_) (fun c => ?_)
    · replace h := ifp c h
      exact A_X7_next_52 hF _ h
    · replace h := ifn c h
      refine ald_2_0 12 rfl dX7_next_11 rfl ?_
      refine dgf_X7_9 15 rfl dX7_next_12 rfl ?_
      refine ald_2_0 16 rfl dX7_next_15 rfl ?_
      refine dgf_X7_121 19 rfl dX7_next_16 rfl rfl ?_
      obtain ⟨hi, h⟩ := ift h
      refine dbald 20 rfl rfl rfl hi rfl rfl dX7_next_19 rfl ?_
      refine dt_bipush 22 dX7_next_20 bq_32 rfl ?_
      refine dt_icmp_eq 25 39 dX7_next_22 rfl (by decide) rfl wk_32 (fun c => ?_) (fun c => ?_)
      · replace h := ifp c h
        exact A_X7_next_39 hF hk0 _ h
      · replace h := ifn c h
        refine ald_2_0 26 rfl dX7_next_25 rfl ?_
        refine dgf_X7_9 29 rfl dX7_next_26 rfl ?_
        refine ald_2_0 30 rfl dX7_next_29 rfl ?_
        refine dgf_X7_121 33 rfl dX7_next_30 rfl rfl ?_
        obtain ⟨hi, h⟩ := ift h
        refine dbald 34 rfl rfl rfl hi rfl rfl dX7_next_33 rfl ?_
        refine dt_bipush 36 dX7_next_34 bq_10 rfl ?_
        refine dt_icmp_ne 39 52 dX7_next_36 rfl (by decide) rfl wk_10 (fun c => ?_) (fun c => ?_)
        · replace h := ifp c h
          exact A_X7_next_52 hF _ h
        · replace h := ifn c h
          exact A_X7_next_39 hF hk0 _ h
theorem S_X7_next {G : Cx} {μ : Mi}  {mm : Mi} (h : D_X7_next μ = some mm) : Spec yd_X7_next G [rf G 7 false] (Em μ) (none) (Em mm) := by
  refine Spec.of (by decide) rfl (catL_ok rfl) (Nat.le_of_ble_eq_true rfl) rfl (fun b hF => ?_)
  exact A_X7_next_0 hF FU _ h
/-- StampTalesModel.packed -/
theorem A_X7_packed_4 {G : Cx} {b : Ab} {μ : Mi} {r : Int} (hF : Fi yd_X7_packed G b (some (jv r)) (Em μ)) : ∀ (n : Nat) (x0 : Nat) (x1 : Int) (x3 : Int) (hq0 : x0 < 14), B_X7_packed_4 n x0 x1 x3 = some r → At yd_X7_packed G b 4 [some (sf G x0), some (jv x1), none, some (iv x3)] [] (Em μ) := by
  intro n
  induction n with
  | zero =>
    intro x0 x1 x3 hq0 h
    exact nope h
  | succ n hk4 =>
    intro x0 x1 x3 hq0 h
    replace h : F_X7_packed_4 (B_X7_packed_4 n) x0 x1 x3 = some r := h
    unfold F_X7_packed_4 at h
    refine dild_4_3 5 dX7_packed_4 rfl ?_
    refine ald_4_0 6 rfl dX7_packed_5 rfl ?_
    refine cti_0 9 cw_X7_147 (S_strlen (by first | assumption | decide)) (by first | assumption | decide) rfl ⟨by decide, by decide⟩ rfl (Nat.le_of_ble_eq_true rfl) dX7_packed_6 rfl ?_
    refine dt_icmp_ge 12 30 dX7_packed_9 rfl (by decide) rfl rfl (fun c => ?_) (fun c => ?_)
    · replace h := ifp c h
      refine dlld_4_1 31 dX7_packed_30 rfl ?_
      exact dr_lp hF rfl dX7_packed_31 h
    · replace h := ifn c h
      refine dlld_4_1 13 dX7_packed_12 rfl ?_
      refine dt_bipush 15 dX7_packed_13 bq_8 rfl ?_
      refine dt_lshl 16 dX7_packed_15 rfl ?_
      refine ald_4_0 17 rfl dX7_packed_16 rfl ?_
      refine dild_4_3 18 dX7_packed_17 rfl ?_
      obtain ⟨hs, h⟩ := ift h
      refine cti_1 21 cw_X7_153 (S_charAt (by first | assumption | decide) hs) (by first | assumption | decide) rfl ⟨by decide, by decide⟩ rfl (Nat.le_of_ble_eq_true rfl) dX7_packed_18 rfl ?_
      refine dt_i2l 22 dX7_packed_21 rfl rfl ?_
      refine dt_lor 23 dX7_packed_22 rfl ?_
      refine dlst_4_1 24 dX7_packed_23 rfl rfl rfl ?_
      refine dinc_4_3 27 dX7_packed_24 rfl rfl rfl ?_
      refine st_goto 4 dX7_packed_27 (by decide) ?_
      exact hk4 _ _ _ hq0 h
theorem S_X7_packed {G : Cx} {μ : Mi} {x0 : Nat} (hq0 : x0 < 14) {r : Int} (h : D_X7_packed x0 = some r) : Spec yd_X7_packed G [sf G x0] (Em μ) (some (jv r)) (Em μ) := by
  refine Spec.of (by decide) rfl (catL_ok rfl) (Nat.le_of_ble_eq_true rfl) rfl (fun b hF => ?_)
  unfold D_X7_packed at h
  refine dt_lconst 1 dX7_packed_0 rfl ?_
  refine dlst_4_1 2 dX7_packed_1 rfl rfl rfl ?_
  refine dt_iconst 3 dX7_packed_2 rfl ?_
  refine dist_4_3 4 dX7_packed_3 rfl rfl rfl ?_
  exact A_X7_packed_4 hF FU _ _ _ hq0 h
/-- StampTalesModel.isWord -/
theorem S_X7_isWord {G : Cx} {μ : Mi} {x1 : Nat} (hq1 : x1 < 14) {r : Int} (h : D_X7_isWord x1 μ = some r) : Spec yd_X7_isWord G [rf G 7 false, sf G x1] (Em μ) (some (iv r)) (Em μ) := by
  refine Spec.of (by decide) rfl (catL_ok rfl) (Nat.le_of_ble_eq_true rfl) rfl (fun b hF => ?_)
  unfold D_X7_isWord at h
  refine ald_2_0 1 rfl dX7_isWord_0 rfl ?_
  refine dgf_X7_131 4 rfl dX7_isWord_1 rfl rfl ?_
  refine dt_iconst 5 dX7_isWord_4 rfl ?_
  refine dt_icmp_ne 8 24 dX7_isWord_5 rfl (by decide) rfl wk_1 (fun c => ?_) (fun c => ?_)
  · replace h := ifp c h
    refine dt_iconst 25 dX7_isWord_24 rfl ?_
    exact dr_zp hF rfl isB_0 dX7_isWord_25 h
  · replace h := ifn c h
    refine ald_2_0 9 rfl dX7_isWord_8 rfl ?_
    refine dgf_X7_127 12 rfl dX7_isWord_9 rfl rfl ?_
    refine ald_2_1 13 rfl dX7_isWord_12 rfl ?_
    obtain ⟨r1, h1, h⟩ := bp_some h
    refine csi_1 16 cw_X7_157 (S_X7_packed (by first | assumption | decide) h1) rfl ⟨by decide, by decide⟩ (Nat.le_of_ble_eq_true rfl) dX7_isWord_13 rfl ?_
    refine dt_lcmp 17 dX7_isWord_16 rfl ?_
    refine dt_if_ne 20 24 dX7_isWord_17 rfl (by decide) rfl (fun c => ?_) (fun c => ?_)
    · replace h := ifp c h
      refine dt_iconst 25 dX7_isWord_24 rfl ?_
      exact dr_zp hF rfl isB_0 dX7_isWord_25 h
    · replace h := ifn c h
      refine dt_iconst 21 dX7_isWord_20 rfl ?_
      refine st_goto 25 dX7_isWord_21 (by decide) ?_
      exact dr_zp hF rfl isB_1 dX7_isWord_25 h
/-- StampTalesModel.isName -/
theorem S_X7_isName {G : Cx} {μ : Mi} {r : Int} (h : D_X7_isName μ = some r) : Spec yd_X7_isName G [rf G 7 false] (Em μ) (some (iv r)) (Em μ) := by
  refine Spec.of (by decide) rfl (catL_ok rfl) (Nat.le_of_ble_eq_true rfl) rfl (fun b hF => ?_)
  unfold D_X7_isName at h
  refine ald_1_0 1 rfl dX7_isName_0 rfl ?_
  refine dgf_X7_131 4 rfl dX7_isName_1 rfl rfl ?_
  refine dt_iconst 5 dX7_isName_4 rfl ?_
  refine dt_icmp_ne 8 80 dX7_isName_5 rfl (by decide) rfl wk_1 (fun c => ?_) (fun c => ?_)
  · replace h := ifp c h
    refine dt_iconst 81 dX7_isName_80 rfl ?_
    exact dr_zp hF rfl isB_0 dX7_isName_81 h
  · replace h := ifn c h
    refine ald_1_0 9 rfl dX7_isName_8 rfl ?_
    refine dgf_X7_127 12 rfl dX7_isName_9 rfl rfl ?_
    refine dt_lconst 13 dX7_isName_12 rfl ?_
    refine dt_lcmp 14 dX7_isName_13 rfl ?_
    refine dt_if_eq 17 80 dX7_isName_14 rfl (by decide) rfl (fun c => ?_) (fun c => ?_)
    · replace h := ifp c h
      refine dt_iconst 81 dX7_isName_80 rfl ?_
      exact dr_zp hF rfl isB_0 dX7_isName_81 h
    · replace h := ifn c h
      refine ald_1_0 18 rfl dX7_isName_17 rfl ?_
      refine st_ldcS 20 rfl sw_X7_161 dX7_isName_18 rfl ?_
      obtain ⟨r1, h1, h⟩ := bp_some h
      refine cvi_1 23 cw_X7_163 (S_X7_isWord (by first | assumption | decide) h1) rfl ⟨by decide, by decide⟩ rfl rfl rfl rfl rfl (Nat.le_of_ble_eq_true rfl) dX7_isName_20 rfl ?_
      refine dt_if_ne 26 80 dX7_isName_23 rfl (by decide) rfl (fun c => ?_) (fun c => ?_)
      · replace h := ifp c h
        refine dt_iconst 81 dX7_isName_80 rfl ?_
        exact dr_zp hF rfl isB_0 dX7_isName_81 h
      · replace h := ifn c h
        refine ald_1_0 27 rfl dX7_isName_26 rfl ?_
        refine st_ldcS 29 rfl sw_X7_167 dX7_isName_27 rfl ?_
        obtain ⟨r2, h2, h⟩ := bp_some h
        refine cvi_1 32 cw_X7_163 (S_X7_isWord (by first | assumption | decide) h2) rfl ⟨by decide, by decide⟩ rfl rfl rfl rfl rfl (Nat.le_of_ble_eq_true rfl) dX7_isName_29 rfl ?_
        refine dt_if_ne 35 80 dX7_isName_32 rfl (by decide) rfl (fun c => ?_) (fun c => ?_)
        · replace h := ifp c h
          refine dt_iconst 81 dX7_isName_80 rfl ?_
          exact dr_zp hF rfl isB_0 dX7_isName_81 h
        · replace h := ifn c h
          refine ald_1_0 36 rfl dX7_isName_35 rfl ?_
          refine st_ldcS 38 rfl sw_X7_169 dX7_isName_36 rfl ?_
          obtain ⟨r3, h3, h⟩ := bp_some h
          refine cvi_1 41 cw_X7_163 (S_X7_isWord (by first | assumption | decide) h3) rfl ⟨by decide, by decide⟩ rfl rfl rfl rfl rfl (Nat.le_of_ble_eq_true rfl) dX7_isName_38 rfl ?_
          refine dt_if_ne 44 80 dX7_isName_41 rfl (by decide) rfl (fun c => ?_) (fun c => ?_)
          · replace h := ifp c h
            refine dt_iconst 81 dX7_isName_80 rfl ?_
            exact dr_zp hF rfl isB_0 dX7_isName_81 h
          · replace h := ifn c h
            refine ald_1_0 45 rfl dX7_isName_44 rfl ?_
            refine st_ldcS 47 rfl sw_X7_170 dX7_isName_45 rfl ?_
            obtain ⟨r4, h4, h⟩ := bp_some h
            refine cvi_1 50 cw_X7_163 (S_X7_isWord (by first | assumption | decide) h4) rfl ⟨by decide, by decide⟩ rfl rfl rfl rfl rfl (Nat.le_of_ble_eq_true rfl) dX7_isName_47 rfl ?_
            refine dt_if_ne 53 80 dX7_isName_50 rfl (by decide) rfl (fun c => ?_) (fun c => ?_)
            · replace h := ifp c h
              refine dt_iconst 81 dX7_isName_80 rfl ?_
              exact dr_zp hF rfl isB_0 dX7_isName_81 h
            · replace h := ifn c h
              refine ald_1_0 54 rfl dX7_isName_53 rfl ?_
              refine st_ldcS 56 rfl sw_X7_172 dX7_isName_54 rfl ?_
              obtain ⟨r5, h5, h⟩ := bp_some h
              refine cvi_1 59 cw_X7_163 (S_X7_isWord (by first | assumption | decide) h5) rfl ⟨by decide, by decide⟩ rfl rfl rfl rfl rfl (Nat.le_of_ble_eq_true rfl) dX7_isName_56 rfl ?_
              refine dt_if_ne 62 80 dX7_isName_59 rfl (by decide) rfl (fun c => ?_) (fun c => ?_)
              · replace h := ifp c h
                refine dt_iconst 81 dX7_isName_80 rfl ?_
                exact dr_zp hF rfl isB_0 dX7_isName_81 h
              · replace h := ifn c h
                refine ald_1_0 63 rfl dX7_isName_62 rfl ?_
                refine st_ldcS 65 rfl sw_X7_174 dX7_isName_63 rfl ?_
                obtain ⟨r6, h6, h⟩ := bp_some h
                refine cvi_1 68 cw_X7_163 (S_X7_isWord (by first | assumption | decide) h6) rfl ⟨by decide, by decide⟩ rfl rfl rfl rfl rfl (Nat.le_of_ble_eq_true rfl) dX7_isName_65 rfl ?_
                refine dt_if_ne 71 80 dX7_isName_68 rfl (by decide) rfl (fun c => ?_) (fun c => ?_)
                · replace h := ifp c h
                  refine dt_iconst 81 dX7_isName_80 rfl ?_
                  exact dr_zp hF rfl isB_0 dX7_isName_81 h
                · replace h := ifn c h
                  refine ald_1_0 72 rfl dX7_isName_71 rfl ?_
                  refine st_ldcS 74 rfl sw_X7_176 dX7_isName_72 rfl ?_
                  obtain ⟨r7, h7, h⟩ := bp_some h
                  refine cvi_1 77 cw_X7_163 (S_X7_isWord (by first | assumption | decide) h7) rfl ⟨by decide, by decide⟩ rfl rfl rfl rfl rfl (Nat.le_of_ble_eq_true rfl) dX7_isName_74 rfl ?_
                  refine dt_if_eq 80 82 dX7_isName_77 rfl (by decide) rfl (fun c => ?_) (fun c => ?_)
                  · replace h := ifp c h
                    refine ald_1_0 83 rfl dX7_isName_82 rfl ?_
                    refine st_ldcS 85 rfl sw_X7_178 dX7_isName_83 rfl ?_
                    obtain ⟨r8, h8, h⟩ := bp_some h
                    refine cvi_1 88 cw_X7_163 (S_X7_isWord (by first | assumption | decide) h8) rfl ⟨by decide, by decide⟩ rfl rfl rfl rfl rfl (Nat.le_of_ble_eq_true rfl) dX7_isName_85 rfl ?_
                    refine dt_if_ne 91 149 dX7_isName_88 rfl (by decide) rfl (fun c => ?_) (fun c => ?_)
                    · replace h := ifp c h
                      refine dt_iconst 150 dX7_isName_149 rfl ?_
                      exact dr_zp hF rfl isB_0 dX7_isName_150 h
                    · replace h := ifn c h
                      refine ald_1_0 92 rfl dX7_isName_91 rfl ?_
                      refine st_ldcS 94 rfl sw_X7_180 dX7_isName_92 rfl ?_
                      obtain ⟨r9, h9, h⟩ := bp_some h
                      refine cvi_1 97 cw_X7_163 (S_X7_isWord (by first | assumption | decide) h9) rfl ⟨by decide, by decide⟩ rfl rfl rfl rfl rfl (Nat.le_of_ble_eq_true rfl) dX7_isName_94 rfl ?_
                      refine dt_if_ne 100 149 dX7_isName_97 rfl (by decide) rfl (fun c => ?_) (fun c => ?_)
                      · replace h := ifp c h
                        refine dt_iconst 150 dX7_isName_149 rfl ?_
                        exact dr_zp hF rfl isB_0 dX7_isName_150 h
                      · replace h := ifn c h
                        refine ald_1_0 101 rfl dX7_isName_100 rfl ?_
                        refine st_ldcS 103 rfl sw_X7_182 dX7_isName_101 rfl ?_
                        obtain ⟨r10, h10, h⟩ := bp_some h
                        refine cvi_1 106 cw_X7_163 (S_X7_isWord (by first | assumption | decide) h10) rfl ⟨by decide, by decide⟩ rfl rfl rfl rfl rfl (Nat.le_of_ble_eq_true rfl) dX7_isName_103 rfl ?_
                        refine dt_if_ne 109 149 dX7_isName_106 rfl (by decide) rfl (fun c => ?_) (fun c => ?_)
                        · replace h := ifp c h
                          refine dt_iconst 150 dX7_isName_149 rfl ?_
                          exact dr_zp hF rfl isB_0 dX7_isName_150 h
                        · replace h := ifn c h
                          refine ald_1_0 110 rfl dX7_isName_109 rfl ?_
                          refine st_ldcS 112 rfl sw_X7_184 dX7_isName_110 rfl ?_
                          obtain ⟨r11, h11, h⟩ := bp_some h
                          refine cvi_1 115 cw_X7_163 (S_X7_isWord (by first | assumption | decide) h11) rfl ⟨by decide, by decide⟩ rfl rfl rfl rfl rfl (Nat.le_of_ble_eq_true rfl) dX7_isName_112 rfl ?_
                          refine dt_if_ne 118 149 dX7_isName_115 rfl (by decide) rfl (fun c => ?_) (fun c => ?_)
                          · replace h := ifp c h
                            refine dt_iconst 150 dX7_isName_149 rfl ?_
                            exact dr_zp hF rfl isB_0 dX7_isName_150 h
                          · replace h := ifn c h
                            refine ald_1_0 119 rfl dX7_isName_118 rfl ?_
                            refine st_ldcS 121 rfl sw_X7_186 dX7_isName_119 rfl ?_
                            obtain ⟨r12, h12, h⟩ := bp_some h
                            refine cvi_1 124 cw_X7_163 (S_X7_isWord (by first | assumption | decide) h12) rfl ⟨by decide, by decide⟩ rfl rfl rfl rfl rfl (Nat.le_of_ble_eq_true rfl) dX7_isName_121 rfl ?_
                            refine dt_if_ne 127 149 dX7_isName_124 rfl (by decide) rfl (fun c => ?_) (fun c => ?_)
                            · replace h := ifp c h
                              refine dt_iconst 150 dX7_isName_149 rfl ?_
                              exact dr_zp hF rfl isB_0 dX7_isName_150 h
                            · replace h := ifn c h
                              refine ald_1_0 128 rfl dX7_isName_127 rfl ?_
                              refine st_ldcS 130 rfl sw_X7_187 dX7_isName_128 rfl ?_
                              obtain ⟨r13, h13, h⟩ := bp_some h
                              refine cvi_1 133 cw_X7_163 (S_X7_isWord (by first | assumption | decide) h13) rfl ⟨by decide, by decide⟩ rfl rfl rfl rfl rfl (Nat.le_of_ble_eq_true rfl) dX7_isName_130 rfl ?_
                              refine dt_if_ne 136 149 dX7_isName_133 rfl (by decide) rfl (fun c => ?_) (fun c => ?_)
                              · replace h := ifp c h
                                refine dt_iconst 150 dX7_isName_149 rfl ?_
                                exact dr_zp hF rfl isB_0 dX7_isName_150 h
                              · replace h := ifn c h
                                refine ald_1_0 137 rfl dX7_isName_136 rfl ?_
                                refine st_ldcS 139 rfl sw_X7_189 dX7_isName_137 rfl ?_
                                obtain ⟨r14, h14, h⟩ := bp_some h
                                refine cvi_1 142 cw_X7_163 (S_X7_isWord (by first | assumption | decide) h14) rfl ⟨by decide, by decide⟩ rfl rfl rfl rfl rfl (Nat.le_of_ble_eq_true rfl) dX7_isName_139 rfl ?_
                                refine dt_if_ne 145 149 dX7_isName_142 rfl (by decide) rfl (fun c => ?_) (fun c => ?_)
                                · replace h := ifp c h
                                  refine dt_iconst 150 dX7_isName_149 rfl ?_
                                  exact dr_zp hF rfl isB_0 dX7_isName_150 h
                                · replace h := ifn c h
                                  refine dt_iconst 146 dX7_isName_145 rfl ?_
                                  refine st_goto 150 dX7_isName_146 (by decide) ?_
                                  exact dr_zp hF rfl isB_1 dX7_isName_150 h
                  · replace h := ifn c h
                    refine dt_iconst 81 dX7_isName_80 rfl ?_
                    exact dr_zp hF rfl isB_0 dX7_isName_81 h
/-- StampTalesModel.word -/
theorem S_X7_word {G : Cx} {μ : Mi} {x1 : Nat} (hq1 : x1 < 14) {r : Int} {mm : Mi} (h : D_X7_word x1 μ = some (r, mm)) : Spec yd_X7_word G [rf G 7 false, sf G x1] (Em μ) (some (iv r)) (Em mm) := by
  refine Spec.of (by decide) rfl (catL_ok rfl) (Nat.le_of_ble_eq_true rfl) rfl (fun b hF => ?_)
  unfold D_X7_word at h
  refine ald_2_0 1 rfl dX7_word_0 rfl ?_
  refine ald_2_1 2 rfl dX7_word_1 rfl ?_
  obtain ⟨r1, h1, h⟩ := bp_some h
  refine cvi_1 5 cw_X7_163 (S_X7_isWord (by first | assumption | decide) h1) rfl ⟨by decide, by decide⟩ rfl rfl rfl rfl rfl (Nat.le_of_ble_eq_true rfl) dX7_word_2 rfl ?_
  refine dt_if_ne 8 10 dX7_word_5 rfl (by decide) rfl (fun c => ?_) (fun c => ?_)
  · replace h := ifp c h
    refine ald_2_0 11 rfl dX7_word_10 rfl ?_
    obtain ⟨m2, h2, h⟩ := bm_some h
    refine cvv_0 14 cw_X7_191 (S_X7_next h2) rfl ⟨by decide, by decide⟩ rfl rfl rfl rfl rfl (Nat.le_of_ble_eq_true rfl) dX7_word_11 rfl ?_
    refine dt_iconst 15 dX7_word_14 rfl ?_
    exact dr_z hF rfl isB_1 dX7_word_15 h
  · replace h := ifn c h
    refine dt_iconst 9 dX7_word_8 rfl ?_
    exact dr_z hF rfl isB_0 dX7_word_9 h
/-- StampTalesModel.closes -/
theorem S_X7_closes {G : Cx} {μ : Mi} {r : Int} {mm : Mi} (h : D_X7_closes μ = some (r, mm)) : Spec yd_X7_closes G [rf G 7 false] (Em μ) (some (iv r)) (Em mm) := by
  refine Spec.of (by decide) rfl (catL_ok rfl) (Nat.le_of_ble_eq_true rfl) rfl (fun b hF => ?_)
  unfold D_X7_closes at h
  refine ald_1_0 1 rfl dX7_closes_0 rfl ?_
  refine dgf_X7_131 4 rfl dX7_closes_1 rfl rfl ?_
  refine dt_iconst 5 dX7_closes_4 rfl ?_
  refine dt_icmp_eq 8 10 dX7_closes_5 rfl (by decide) rfl wk_3 (fun c => ?_) (fun c => ?_)
  · replace h := ifp c h
    refine ald_1_0 11 rfl dX7_closes_10 rfl ?_
    obtain ⟨m1, h1, h⟩ := bm_some h
    refine cvv_0 14 cw_X7_191 (S_X7_next h1) rfl ⟨by decide, by decide⟩ rfl rfl rfl rfl rfl (Nat.le_of_ble_eq_true rfl) dX7_closes_11 rfl ?_
    refine dt_iconst 15 dX7_closes_14 rfl ?_
    exact dr_z hF rfl isB_1 dX7_closes_15 h
  · replace h := ifn c h
    refine dt_iconst 9 dX7_closes_8 rfl ?_
    exact dr_z hF rfl isB_0 dX7_closes_9 h
/-- StampTalesModel.number -/
theorem S_X7_number {G : Cx} {μ : Mi} {x1 : Int} {x2 : Int} {r : Int} {mm : Mi} (h : D_X7_number x1 x2 μ = some (r, mm)) : Spec yd_X7_number G [rf G 7 false, iv x1, iv x2] (Em μ) (some (iv r)) (Em mm) := by
  refine Spec.of (by decide) rfl (catL_ok rfl) (Nat.le_of_ble_eq_true rfl) rfl (fun b hF => ?_)
  unfold D_X7_number at h
  refine ald_3_0 1 rfl dX7_number_0 rfl ?_
  refine dgf_X7_131 4 rfl dX7_number_1 rfl rfl ?_
  refine dt_iconst 5 dX7_number_4 rfl ?_
  refine dt_icmp_ne 8 28 dX7_number_5 rfl (by decide) rfl wk_2 (fun c => ?_) (fun c => ?_)
  · replace h := ifp c h
    refine dt_iconst 29 dX7_number_28 rfl ?_
    exact dr_z hF rfl isB_0 dX7_number_29 h
  · replace h := ifn c h
    refine ald_3_0 9 rfl dX7_number_8 rfl ?_
    refine dgf_X7_127 12 rfl dX7_number_9 rfl rfl ?_
    refine dild_3_1 13 dX7_number_12 rfl ?_
    refine dt_i2l 14 dX7_number_13 rfl rfl ?_
    refine dt_lcmp 15 dX7_number_14 rfl ?_
    refine dt_if_lt 18 28 dX7_number_15 rfl (by decide) rfl (fun c => ?_) (fun c => ?_)
    · replace h := ifp c h
      refine dt_iconst 29 dX7_number_28 rfl ?_
      exact dr_z hF rfl isB_0 dX7_number_29 h
    · replace h := ifn c h
      refine ald_3_0 19 rfl dX7_number_18 rfl ?_
      refine dgf_X7_127 22 rfl dX7_number_19 rfl rfl ?_
      refine dild_3_2 23 dX7_number_22 rfl ?_
      refine dt_i2l 24 dX7_number_23 rfl rfl ?_
      refine dt_lcmp 25 dX7_number_24 rfl ?_
      refine dt_if_le 28 30 dX7_number_25 rfl (by decide) rfl (fun c => ?_) (fun c => ?_)
      · replace h := ifp c h
        refine ald_3_0 31 rfl dX7_number_30 rfl ?_
        refine ald_3_0 32 rfl dX7_number_31 rfl ?_
        refine dgf_X7_127 35 rfl dX7_number_32 rfl rfl ?_
        refine dt_l2i 36 dX7_number_35 rfl ?_
        refine dpf_X7_194 39 rfl dX7_number_36 rfl ?_
        refine ald_3_0 40 rfl dX7_number_39 rfl ?_
        obtain ⟨m1, h1, h⟩ := bm_some h
        refine cvv_0 43 cw_X7_191 (S_X7_next h1) rfl ⟨by decide, by decide⟩ rfl rfl rfl rfl rfl (Nat.le_of_ble_eq_true rfl) dX7_number_40 rfl ?_
        refine dt_iconst 44 dX7_number_43 rfl ?_
        exact dr_z hF rfl isB_1 dX7_number_44 h
      · replace h := ifn c h
        refine dt_iconst 29 dX7_number_28 rfl ?_
        exact dr_z hF rfl isB_0 dX7_number_29 h
/-- StampTalesModel.landHere -/
theorem A_X7_landHere_2 {G : Cx} {b : Ab} {μ : Mi} {r : Int} (hF : Fi yd_X7_landHere G b (some (iv r)) (Em μ)) : ∀ (n : Nat) (x1 : Int), B_X7_landHere_2 n x1 μ = some r → At yd_X7_landHere G b 2 [some (rf G 7 false), some (iv x1)] [] (Em μ) := by
  intro n
  induction n with
  | zero =>
    intro x1 h
    exact nope h
  | succ n hk2 =>
    intro x1 h
    replace h : F_X7_landHere_2 (B_X7_landHere_2 n) x1 μ = some r := h
    unfold F_X7_landHere_2 at h
    refine dild_2_1 3 dX7_landHere_2 rfl ?_
    refine ald_2_0 4 rfl dX7_landHere_3 rfl ?_
    refine dgf_X7_197 7 rfl dX7_landHere_4 rfl rfl ?_
    refine dt_icmp_ge 10 39 dX7_landHere_7 rfl (by decide) rfl rfl (fun c => ?_) (fun c => ?_)
    · replace h := ifp c h
      refine dt_iconst 40 dX7_landHere_39 rfl ?_
      exact dr_ip hF rfl dX7_landHere_40 h
    · replace h := ifn c h
      refine ald_2_0 11 rfl dX7_landHere_10 rfl ?_
      obtain ⟨r1, h1, h⟩ := bp_some h
      refine cvi_0 14 cw_X7_200 (S_X7_isName h1) rfl ⟨by decide, by decide⟩ rfl rfl rfl rfl rfl (Nat.le_of_ble_eq_true rfl) dX7_landHere_11 rfl ?_
      refine dt_if_eq 17 39 dX7_landHere_14 rfl (by decide) rfl (fun c => ?_) (fun c => ?_)
      · replace h := ifp c h
        refine dt_iconst 40 dX7_landHere_39 rfl ?_
        exact dr_ip hF rfl dX7_landHere_40 h
      · replace h := ifn c h
        refine ald_2_0 18 rfl dX7_landHere_17 rfl ?_
        refine dgf_X7_13 21 rfl dX7_landHere_18 rfl ?_
        refine dild_2_1 22 dX7_landHere_21 rfl ?_
        obtain ⟨hi, h⟩ := ift h
        refine dlald 23 rfl rfl rfl hi rfl rfl dX7_landHere_22 rfl ?_
        refine ald_2_0 24 rfl dX7_landHere_23 rfl ?_
        refine dgf_X7_127 27 rfl dX7_landHere_24 rfl rfl ?_
        refine dt_lcmp 28 dX7_landHere_27 rfl ?_
        refine dt_if_ne 31 33 dX7_landHere_28 rfl (by decide) rfl (fun c => ?_) (fun c => ?_)
        · replace h := ifp c h
          refine dinc_2_1 36 dX7_landHere_33 rfl rfl rfl ?_
          refine st_goto 2 dX7_landHere_36 (by decide) ?_
          exact hk2 _ h
        · replace h := ifn c h
          refine dild_2_1 32 dX7_landHere_31 rfl ?_
          exact dr_ip hF rfl dX7_landHere_32 h
theorem S_X7_landHere {G : Cx} {μ : Mi} {r : Int} (h : D_X7_landHere μ = some r) : Spec yd_X7_landHere G [rf G 7 false] (Em μ) (some (iv r)) (Em μ) := by
  refine Spec.of (by decide) rfl (catL_ok rfl) (Nat.le_of_ble_eq_true rfl) rfl (fun b hF => ?_)
  unfold D_X7_landHere at h
  refine dt_iconst 1 dX7_landHere_0 rfl ?_
  refine dist_2_1 2 dX7_landHere_1 rfl rfl rfl ?_
  exact A_X7_landHere_2 hF FU _ h
/-- StampTalesModel.townHere -/
theorem A_X7_townHere_2 {G : Cx} {b : Ab} {μ : Mi} {r : Int} (hF : Fi yd_X7_townHere G b (some (iv r)) (Em μ)) : ∀ (n : Nat) (x1 : Int), B_X7_townHere_2 n x1 μ = some r → At yd_X7_townHere G b 2 [some (rf G 7 false), some (iv x1)] [] (Em μ) := by
  intro n
  induction n with
  | zero =>
    intro x1 h
    exact nope h
  | succ n hk2 =>
    intro x1 h
    replace h : F_X7_townHere_2 (B_X7_townHere_2 n) x1 μ = some r := h
    unfold F_X7_townHere_2 at h
    refine dild_2_1 3 dX7_townHere_2 rfl ?_
    refine ald_2_0 4 rfl dX7_townHere_3 rfl ?_
    refine dgf_X7_204 7 rfl dX7_townHere_4 rfl rfl ?_
    refine dt_icmp_ge 10 39 dX7_townHere_7 rfl (by decide) rfl rfl (fun c => ?_) (fun c => ?_)
    · replace h := ifp c h
      refine dt_iconst 40 dX7_townHere_39 rfl ?_
      exact dr_ip hF rfl dX7_townHere_40 h
    · replace h := ifn c h
      refine ald_2_0 11 rfl dX7_townHere_10 rfl ?_
      obtain ⟨r1, h1, h⟩ := bp_some h
      refine cvi_0 14 cw_X7_200 (S_X7_isName h1) rfl ⟨by decide, by decide⟩ rfl rfl rfl rfl rfl (Nat.le_of_ble_eq_true rfl) dX7_townHere_11 rfl ?_
      refine dt_if_eq 17 39 dX7_townHere_14 rfl (by decide) rfl (fun c => ?_) (fun c => ?_)
      · replace h := ifp c h
        refine dt_iconst 40 dX7_townHere_39 rfl ?_
        exact dr_ip hF rfl dX7_townHere_40 h
      · replace h := ifn c h
        refine ald_2_0 18 rfl dX7_townHere_17 rfl ?_
        refine dgf_X7_21 21 rfl dX7_townHere_18 rfl ?_
        refine dild_2_1 22 dX7_townHere_21 rfl ?_
        obtain ⟨hi, h⟩ := ift h
        refine dlald 23 rfl rfl rfl hi rfl rfl dX7_townHere_22 rfl ?_
        refine ald_2_0 24 rfl dX7_townHere_23 rfl ?_
        refine dgf_X7_127 27 rfl dX7_townHere_24 rfl rfl ?_
        refine dt_lcmp 28 dX7_townHere_27 rfl ?_
        refine dt_if_ne 31 33 dX7_townHere_28 rfl (by decide) rfl (fun c => ?_) (fun c => ?_)
        · replace h := ifp c h
          refine dinc_2_1 36 dX7_townHere_33 rfl rfl rfl ?_
          refine st_goto 2 dX7_townHere_36 (by decide) ?_
          exact hk2 _ h
        · replace h := ifn c h
          refine dild_2_1 32 dX7_townHere_31 rfl ?_
          exact dr_ip hF rfl dX7_townHere_32 h
theorem S_X7_townHere {G : Cx} {μ : Mi} {r : Int} (h : D_X7_townHere μ = some r) : Spec yd_X7_townHere G [rf G 7 false] (Em μ) (some (iv r)) (Em μ) := by
  refine Spec.of (by decide) rfl (catL_ok rfl) (Nat.le_of_ble_eq_true rfl) rfl (fun b hF => ?_)
  unfold D_X7_townHere at h
  refine dt_iconst 1 dX7_townHere_0 rfl ?_
  refine dist_2_1 2 dX7_townHere_1 rfl rfl rfl ?_
  exact A_X7_townHere_2 hF FU _ h
/-- StampTalesModel.isNew -/
theorem S_X7_isNew {G : Cx} {μ : Mi} {r : Int} (h : D_X7_isNew μ = some r) : Spec yd_X7_isNew G [rf G 7 false] (Em μ) (some (iv r)) (Em μ) := by
  refine Spec.of (by decide) rfl (catL_ok rfl) (Nat.le_of_ble_eq_true rfl) rfl (fun b hF => ?_)
  unfold D_X7_isNew at h
  refine ald_1_0 1 rfl dX7_isNew_0 rfl ?_
  obtain ⟨r1, h1, h⟩ := bp_some h
  refine cvi_0 4 cw_X7_200 (S_X7_isName h1) rfl ⟨by decide, by decide⟩ rfl rfl rfl rfl rfl (Nat.le_of_ble_eq_true rfl) dX7_isNew_1 rfl ?_
  refine dt_if_eq 7 27 dX7_isNew_4 rfl (by decide) rfl (fun c => ?_) (fun c => ?_)
  · replace h := ifp c h
    refine dt_iconst 28 dX7_isNew_27 rfl ?_
    exact dr_zp hF rfl isB_0 dX7_isNew_28 h
  · replace h := ifn c h
    refine ald_1_0 8 rfl dX7_isNew_7 rfl ?_
    obtain ⟨r2, h2, h⟩ := bp_some h
    refine cvi_0 11 cw_X7_207 (S_X7_landHere h2) rfl ⟨by decide, by decide⟩ rfl rfl rfl rfl rfl (Nat.le_of_ble_eq_true rfl) dX7_isNew_8 rfl ?_
    refine dt_iconst 12 dX7_isNew_11 rfl ?_
    refine dt_icmp_ne 15 27 dX7_isNew_12 rfl (by decide) rfl wk_m1 (fun c => ?_) (fun c => ?_)
    · replace h := ifp c h
      refine dt_iconst 28 dX7_isNew_27 rfl ?_
      exact dr_zp hF rfl isB_0 dX7_isNew_28 h
    · replace h := ifn c h
      refine ald_1_0 16 rfl dX7_isNew_15 rfl ?_
      obtain ⟨r3, h3, h⟩ := bp_some h
      refine cvi_0 19 cw_X7_210 (S_X7_townHere h3) rfl ⟨by decide, by decide⟩ rfl rfl rfl rfl rfl (Nat.le_of_ble_eq_true rfl) dX7_isNew_16 rfl ?_
      refine dt_iconst 20 dX7_isNew_19 rfl ?_
      refine dt_icmp_ne 23 27 dX7_isNew_20 rfl (by decide) rfl wk_m1 (fun c => ?_) (fun c => ?_)
      · replace h := ifp c h
        refine dt_iconst 28 dX7_isNew_27 rfl ?_
        exact dr_zp hF rfl isB_0 dX7_isNew_28 h
      · replace h := ifn c h
        refine dt_iconst 24 dX7_isNew_23 rfl ?_
        refine st_goto 28 dX7_isNew_24 (by decide) ?_
        exact dr_zp hF rfl isB_1 dX7_isNew_28 h
/-- StampTalesModel.landLine -/
theorem A_X7_landLine_93 {G : Cx} {b : Ab} {r : Int} {mm : Mi} (hF : Fi yd_X7_landLine G b (some (iv r)) (Em mm)) (s0 : Int) (μ : Mi) (h : B_X7_landLine_93 s0 μ = some (r, mm)) : At yd_X7_landLine G b 93 [some (rf G 7 false), none] [iv s0] (Em μ) := by
  unfold B_X7_landLine_93 at h
  refine dist_2_1 94 dX7_landLine_93 rfl rfl rfl ?_
  refine dild_2_1 95 dX7_landLine_94 rfl ?_
  refine dt_iconst 96 dX7_landLine_95 rfl ?_
  refine dt_icmp_ne 99 101 dX7_landLine_96 rfl (by decide) rfl wk_m1 (fun c => ?_) (fun c => ?_)
  · replace h := ifp c h
    refine ald_2_0 102 rfl dX7_landLine_101 rfl ?_
    refine dgf_X7_17 105 rfl dX7_landLine_102 rfl ?_
    refine ald_2_0 106 rfl dX7_landLine_105 rfl ?_
    refine dgf_X7_197 109 rfl dX7_landLine_106 rfl rfl ?_
    refine dild_2_1 110 dX7_landLine_109 rfl ?_
    obtain ⟨hi, h⟩ := ift h
    refine diast 111 rfl rfl rfl hi rfl dX7_landLine_110 rfl ?_
    refine ald_2_0 112 rfl dX7_landLine_111 rfl ?_
    refine st_dup 113 dX7_landLine_112 rfl rfl ?_
    refine dgf_X7_197 116 rfl dX7_landLine_113 rfl (rd_o (by decide)) ?_
    refine dt_iconst 117 dX7_landLine_116 rfl ?_
    refine dt_iadd 118 dX7_landLine_117 rfl ?_
    refine dpf_X7_197 121 rfl dX7_landLine_118 rfl ?_
    refine ald_2_0 122 rfl dX7_landLine_121 rfl ?_
    obtain ⟨m1, h1, h⟩ := bm_some h
    refine cvv_0 125 cw_X7_191 (S_X7_next h1) rfl ⟨by decide, by decide⟩ rfl rfl rfl rfl rfl (Nat.le_of_ble_eq_true rfl) dX7_landLine_122 rfl ?_
    refine ald_2_0 126 rfl dX7_landLine_125 rfl ?_
    obtain ⟨r2, m2, h2, h⟩ := bd_some h
    refine cvi_0 129 cw_X7_216 (S_X7_closes h2) rfl ⟨by decide, by decide⟩ rfl rfl rfl rfl rfl (Nat.le_of_ble_eq_true rfl) dX7_landLine_126 rfl ?_
    obtain ⟨hb, h⟩ := ift h
    exact dr_z hF rfl hb dX7_landLine_129 h
  · replace h := ifn c h
    refine dt_iconst 100 dX7_landLine_99 rfl ?_
    exact dr_z hF rfl isB_0 dX7_landLine_100 h
theorem S_X7_landLine {G : Cx} {μ : Mi} {r : Int} {mm : Mi} (h : D_X7_landLine μ = some (r, mm)) : Spec yd_X7_landLine G [rf G 7 false] (Em μ) (some (iv r)) (Em mm) := by
  refine Spec.of (by decide) rfl (catL_ok rfl) (Nat.le_of_ble_eq_true rfl) rfl (fun b hF => ?_)
  unfold D_X7_landLine at h
  refine ald_2_0 1 rfl dX7_landLine_0 rfl ?_
  refine dgf_X7_197 4 rfl dX7_landLine_1 rfl rfl ?_
  refine dt_iconst 5 dX7_landLine_4 rfl ?_
  refine dt_icmp_ne 8 10 dX7_landLine_5 rfl (by decide) rfl wk_4 (fun c => ?_) (fun c => ?_)
  · replace h := ifp c h
    refine ald_2_0 11 rfl dX7_landLine_10 rfl ?_
    obtain ⟨m1, h1, h⟩ := bm_some h
    refine cvv_0 14 cw_X7_191 (S_X7_next h1) rfl ⟨by decide, by decide⟩ rfl rfl rfl rfl rfl (Nat.le_of_ble_eq_true rfl) dX7_landLine_11 rfl ?_
    refine ald_2_0 15 rfl dX7_landLine_14 rfl ?_
    obtain ⟨r2, h2, h⟩ := bp_some h
    refine cvi_0 18 cw_X7_213 (S_X7_isNew h2) rfl ⟨by decide, by decide⟩ rfl rfl rfl rfl rfl (Nat.le_of_ble_eq_true rfl) dX7_landLine_15 rfl ?_
    refine dt_if_ne 21 23 dX7_landLine_18 rfl (by decide) rfl (fun c => ?_) (fun c => ?_)
    · replace h := ifp c h
      refine ald_2_0 24 rfl dX7_landLine_23 rfl ?_
      refine dgf_X7_13 27 rfl dX7_landLine_24 rfl ?_
      refine ald_2_0 28 rfl dX7_landLine_27 rfl ?_
      refine dgf_X7_197 31 rfl dX7_landLine_28 rfl rfl ?_
      refine ald_2_0 32 rfl dX7_landLine_31 rfl ?_
      refine dgf_X7_127 35 rfl dX7_landLine_32 rfl rfl ?_
      obtain ⟨hi, h⟩ := ift h
      refine dlast 36 rfl rfl rfl hi rfl dX7_landLine_35 rfl ?_
      refine ald_2_0 37 rfl dX7_landLine_36 rfl ?_
      obtain ⟨m3, h3, h⟩ := bm_some h
      refine cvv_0 40 cw_X7_191 (S_X7_next h3) rfl ⟨by decide, by decide⟩ rfl rfl rfl rfl rfl (Nat.le_of_ble_eq_true rfl) dX7_landLine_37 rfl ?_
      refine ald_2_0 41 rfl dX7_landLine_40 rfl ?_
      refine st_ldcS 43 rfl sw_X7_169 dX7_landLine_41 rfl ?_
      obtain ⟨r4, h4, h⟩ := bp_some h
      refine cvi_1 46 cw_X7_163 (S_X7_isWord (by first | assumption | decide) h4) rfl ⟨by decide, by decide⟩ rfl rfl rfl rfl rfl (Nat.le_of_ble_eq_true rfl) dX7_landLine_43 rfl ?_
      refine dt_if_eq 49 53 dX7_landLine_46 rfl (by decide) rfl (fun c => ?_) (fun c => ?_)
      · replace h := ifp c h
        refine ald_2_0 54 rfl dX7_landLine_53 rfl ?_
        refine st_ldcS 56 rfl sw_X7_170 dX7_landLine_54 rfl ?_
        obtain ⟨r5, h5, h⟩ := bp_some h
        refine cvi_1 59 cw_X7_163 (S_X7_isWord (by first | assumption | decide) h5) rfl ⟨by decide, by decide⟩ rfl rfl rfl rfl rfl (Nat.le_of_ble_eq_true rfl) dX7_landLine_56 rfl ?_
        refine dt_if_eq 62 66 dX7_landLine_59 rfl (by decide) rfl (fun c => ?_) (fun c => ?_)
        · replace h := ifp c h
          refine ald_2_0 67 rfl dX7_landLine_66 rfl ?_
          refine st_ldcS 69 rfl sw_X7_172 dX7_landLine_67 rfl ?_
          obtain ⟨r6, h6, h⟩ := bp_some h
          refine cvi_1 72 cw_X7_163 (S_X7_isWord (by first | assumption | decide) h6) rfl ⟨by decide, by decide⟩ rfl rfl rfl rfl rfl (Nat.le_of_ble_eq_true rfl) dX7_landLine_69 rfl ?_
          refine dt_if_eq 75 79 dX7_landLine_72 rfl (by decide) rfl (fun c => ?_) (fun c => ?_)
          · replace h := ifp c h
            refine ald_2_0 80 rfl dX7_landLine_79 rfl ?_
            refine st_ldcS 82 rfl sw_X7_174 dX7_landLine_80 rfl ?_
            obtain ⟨r7, h7, h⟩ := bp_some h
            refine cvi_1 85 cw_X7_163 (S_X7_isWord (by first | assumption | decide) h7) rfl ⟨by decide, by decide⟩ rfl rfl rfl rfl rfl (Nat.le_of_ble_eq_true rfl) dX7_landLine_82 rfl ?_
            refine dt_if_eq 88 92 dX7_landLine_85 rfl (by decide) rfl (fun c => ?_) (fun c => ?_)
            · replace h := ifp c h
              refine dt_iconst 93 dX7_landLine_92 rfl ?_
              exact A_X7_landLine_93 hF _ _ h
            · replace h := ifn c h
              refine dt_iconst 89 dX7_landLine_88 rfl ?_
              refine st_goto 93 dX7_landLine_89 (by decide) ?_
              exact A_X7_landLine_93 hF _ _ h
          · replace h := ifn c h
            refine dt_iconst 76 dX7_landLine_75 rfl ?_
            refine st_goto 93 dX7_landLine_76 (by decide) ?_
            exact A_X7_landLine_93 hF _ _ h
        · replace h := ifn c h
          refine dt_iconst 63 dX7_landLine_62 rfl ?_
          refine st_goto 93 dX7_landLine_63 (by decide) ?_
          exact A_X7_landLine_93 hF _ _ h
      · replace h := ifn c h
        refine dt_iconst 50 dX7_landLine_49 rfl ?_
        refine st_goto 93 dX7_landLine_50 (by decide) ?_
        exact A_X7_landLine_93 hF _ _ h
    · replace h := ifn c h
      refine dt_iconst 22 dX7_landLine_21 rfl ?_
      exact dr_z hF rfl isB_0 dX7_landLine_22 h
  · replace h := ifn c h
    refine dt_iconst 9 dX7_landLine_8 rfl ?_
    exact dr_z hF rfl isB_0 dX7_landLine_9 h
/-- StampTalesModel.townLine -/
theorem A_X7_townLine_152 {G : Cx} {b : Ab} {r : Int} {mm : Mi} (hF : Fi yd_X7_townLine G b (some (iv r)) (Em mm)) (x1 : Int) (μ : Mi) (h : B_X7_townLine_152 x1 μ = some (r, mm)) : At yd_X7_townLine G b 152 [some (rf G 7 false), some (jv x1), none, none] [] (Em μ) := by
  unfold B_X7_townLine_152 at h
  refine ald_4_0 153 rfl dX7_townLine_152 rfl ?_
  refine dgf_X7_21 156 rfl dX7_townLine_153 rfl ?_
  refine ald_4_0 157 rfl dX7_townLine_156 rfl ?_
  refine dgf_X7_204 160 rfl dX7_townLine_157 rfl rfl ?_
  refine dlld_4_1 161 dX7_townLine_160 rfl ?_
  obtain ⟨hi, h⟩ := ift h
  refine dlast 162 rfl rfl rfl hi rfl dX7_townLine_161 rfl ?_
  refine ald_4_0 163 rfl dX7_townLine_162 rfl ?_
  refine st_dup 164 dX7_townLine_163 rfl rfl ?_
  refine dgf_X7_204 167 rfl dX7_townLine_164 rfl (rd_wl _ _ _ _ _ _ _ _) ?_
  refine dt_iconst 168 dX7_townLine_167 rfl ?_
  refine dt_iadd 169 dX7_townLine_168 rfl ?_
  refine dpf_X7_204 172 rfl dX7_townLine_169 rfl ?_
  refine ald_4_0 173 rfl dX7_townLine_172 rfl ?_
  obtain ⟨r1, m1, h1, h⟩ := bd_some h
  refine cvi_0 176 cw_X7_216 (S_X7_closes h1) rfl ⟨by decide, by decide⟩ rfl rfl rfl rfl rfl (Nat.le_of_ble_eq_true rfl) dX7_townLine_173 rfl ?_
  obtain ⟨hb, h⟩ := ift h
  exact dr_z hF rfl hb dX7_townLine_176 h
theorem A_X7_townLine_151 {G : Cx} {b : Ab} {r : Int} {mm : Mi} (hF : Fi yd_X7_townLine G b (some (iv r)) (Em mm)) (x1 : Int) (s0 : Int) (s1 : Int) (μ : Mi) (h : B_X7_townLine_151 x1 s0 s1 μ = some (r, mm)) : At yd_X7_townLine G b 151 [some (rf G 7 false), some (jv x1), none, none] [iv s0, iv s1, rf G 47 false] (Em μ) := by
  unfold B_X7_townLine_151 at h
  obtain ⟨hi, h⟩ := ift h
  refine diast 152 rfl rfl rfl hi rfl dX7_townLine_151 rfl ?_
  exact A_X7_townLine_152 hF _ _ h
theorem A_X7_townLine_104 {G : Cx} {b : Ab} {r : Int} {mm : Mi} (hF : Fi yd_X7_townLine G b (some (iv r)) (Em mm)) (x1 : Int) (μ : Mi) (h : B_X7_townLine_104 x1 μ = some (r, mm)) : At yd_X7_townLine G b 104 [some (rf G 7 false), some (jv x1), none, none] [] (Em μ) := by
  unfold B_X7_townLine_104 at h
  refine ald_4_0 105 rfl dX7_townLine_104 rfl ?_
  refine st_ldcS 107 rfl sw_X7_178 dX7_townLine_105 rfl ?_
  obtain ⟨r1, h1, h⟩ := bp_some h
  refine cvi_1 110 cw_X7_163 (S_X7_isWord (by first | assumption | decide) h1) rfl ⟨by decide, by decide⟩ rfl rfl rfl rfl rfl (Nat.le_of_ble_eq_true rfl) dX7_townLine_107 rfl ?_
  refine dist_4_3 111 dX7_townLine_110 rfl rfl rfl ?_
  refine ald_4_0 112 rfl dX7_townLine_111 rfl ?_
  obtain ⟨m2, h2, h⟩ := bm_some h
  refine cvv_0 115 cw_X7_191 (S_X7_next h2) rfl ⟨by decide, by decide⟩ rfl rfl rfl rfl rfl (Nat.le_of_ble_eq_true rfl) dX7_townLine_112 rfl ?_
  refine ald_4_0 116 rfl dX7_townLine_115 rfl ?_
  refine dt_iconst 117 dX7_townLine_116 rfl ?_
  refine dt_bipush 119 dX7_townLine_117 bq_12 rfl ?_
  obtain ⟨r3, m3, h3, h⟩ := bd_some h
  refine cvi_2 122 cw_X7_222 (S_X7_number h3) rfl ⟨by decide, by decide⟩ rfl rfl rfl rfl rfl (Nat.le_of_ble_eq_true rfl) dX7_townLine_119 rfl ?_
  refine dt_if_ne 125 127 dX7_townLine_122 rfl (by decide) rfl (fun c => ?_) (fun c => ?_)
  · replace h := ifp c h
    refine ald_4_0 128 rfl dX7_townLine_127 rfl ?_
    refine dgf_X7_27 131 rfl dX7_townLine_128 rfl ?_
    refine ald_4_0 132 rfl dX7_townLine_131 rfl ?_
    refine dgf_X7_204 135 rfl dX7_townLine_132 rfl rfl ?_
    refine dild_4_3 136 dX7_townLine_135 rfl ?_
    refine dt_if_eq 139 146 dX7_townLine_136 rfl (by decide) rfl (fun c => ?_) (fun c => ?_)
    · replace h := ifp c h
      refine ald_4_0 147 rfl dX7_townLine_146 rfl ?_
      refine dgf_X7_194 150 rfl dX7_townLine_147 rfl rfl ?_
      refine dt_ineg 151 dX7_townLine_150 rfl ?_
      exact At.weak (ls_s (ls_s (ls_n (ls_n ls_0)))) (A_X7_townLine_151 hF _ _ _ _ h)
    · replace h := ifn c h
      refine ald_4_0 140 rfl dX7_townLine_139 rfl ?_
      refine dgf_X7_194 143 rfl dX7_townLine_140 rfl rfl ?_
      refine st_goto 151 dX7_townLine_143 (by decide) ?_
      exact At.weak (ls_s (ls_s (ls_n (ls_n ls_0)))) (A_X7_townLine_151 hF _ _ _ _ h)
  · replace h := ifn c h
    refine dt_iconst 126 dX7_townLine_125 rfl ?_
    exact dr_z hF rfl isB_0 dX7_townLine_126 h
theorem S_X7_townLine {G : Cx} {μ : Mi} {r : Int} {mm : Mi} (h : D_X7_townLine μ = some (r, mm)) : Spec yd_X7_townLine G [rf G 7 false] (Em μ) (some (iv r)) (Em mm) := by
  refine Spec.of (by decide) rfl (catL_ok rfl) (Nat.le_of_ble_eq_true rfl) rfl (fun b hF => ?_)
  unfold D_X7_townLine at h
  refine ald_4_0 1 rfl dX7_townLine_0 rfl ?_
  refine dgf_X7_204 4 rfl dX7_townLine_1 rfl rfl ?_
  refine dt_bipush 6 dX7_townLine_4 bq_8 rfl ?_
  refine dt_icmp_ne 9 11 dX7_townLine_6 rfl (by decide) rfl wk_8 (fun c => ?_) (fun c => ?_)
  · replace h := ifp c h
    refine ald_4_0 12 rfl dX7_townLine_11 rfl ?_
    obtain ⟨m1, h1, h⟩ := bm_some h
    refine cvv_0 15 cw_X7_191 (S_X7_next h1) rfl ⟨by decide, by decide⟩ rfl rfl rfl rfl rfl (Nat.le_of_ble_eq_true rfl) dX7_townLine_12 rfl ?_
    refine ald_4_0 16 rfl dX7_townLine_15 rfl ?_
    obtain ⟨r2, h2, h⟩ := bp_some h
    refine cvi_0 19 cw_X7_213 (S_X7_isNew h2) rfl ⟨by decide, by decide⟩ rfl rfl rfl rfl rfl (Nat.le_of_ble_eq_true rfl) dX7_townLine_16 rfl ?_
    refine dt_if_ne 22 24 dX7_townLine_19 rfl (by decide) rfl (fun c => ?_) (fun c => ?_)
    · replace h := ifp c h
      refine ald_4_0 25 rfl dX7_townLine_24 rfl ?_
      refine dgf_X7_127 28 rfl dX7_townLine_25 rfl rfl ?_
      refine dlst_4_1 29 dX7_townLine_28 rfl rfl rfl ?_
      refine ald_4_0 30 rfl dX7_townLine_29 rfl ?_
      obtain ⟨m3, h3, h⟩ := bm_some h
      refine cvv_0 33 cw_X7_191 (S_X7_next h3) rfl ⟨by decide, by decide⟩ rfl rfl rfl rfl rfl (Nat.le_of_ble_eq_true rfl) dX7_townLine_30 rfl ?_
      refine ald_4_0 34 rfl dX7_townLine_33 rfl ?_
      refine st_ldcS 36 rfl sw_X7_176 dX7_townLine_34 rfl ?_
      obtain ⟨r4, m4, h4, h⟩ := bd_some h
      refine cvi_1 39 cw_X7_219 (S_X7_word (by first | assumption | decide) h4) rfl ⟨by decide, by decide⟩ rfl rfl rfl rfl rfl (Nat.le_of_ble_eq_true rfl) dX7_townLine_36 rfl ?_
      refine dt_if_ne 42 44 dX7_townLine_39 rfl (by decide) rfl (fun c => ?_) (fun c => ?_)
      · replace h := ifp c h
        refine ald_4_0 45 rfl dX7_townLine_44 rfl ?_
        refine dgf_X7_24 48 rfl dX7_townLine_45 rfl ?_
        refine ald_4_0 49 rfl dX7_townLine_48 rfl ?_
        refine dgf_X7_204 52 rfl dX7_townLine_49 rfl rfl ?_
        refine ald_4_0 53 rfl dX7_townLine_52 rfl ?_
        obtain ⟨r5, h5, h⟩ := bp_some h
        refine cvi_0 56 cw_X7_207 (S_X7_landHere h5) rfl ⟨by decide, by decide⟩ rfl rfl rfl rfl rfl (Nat.le_of_ble_eq_true rfl) dX7_townLine_53 rfl ?_
        obtain ⟨hi, h⟩ := ift h
        refine diast 57 rfl rfl rfl hi rfl dX7_townLine_56 rfl ?_
        refine ald_4_0 58 rfl dX7_townLine_57 rfl ?_
        refine dgf_X7_24 61 rfl dX7_townLine_58 rfl ?_
        refine ald_4_0 62 rfl dX7_townLine_61 rfl ?_
        refine dgf_X7_204 65 rfl dX7_townLine_62 rfl (rd_o (by decide)) ?_
        obtain ⟨hi, h⟩ := ift h
        refine diald 66 rfl rfl rfl hi rfl (rd_s) dX7_townLine_65 rfl ?_
        refine dt_iconst 67 dX7_townLine_66 rfl ?_
        refine dt_icmp_ne 70 72 dX7_townLine_67 rfl (by decide) rfl wk_m1 (fun c => ?_) (fun c => ?_)
        · replace h := ifp c h
          refine ald_4_0 73 rfl dX7_townLine_72 rfl ?_
          obtain ⟨m6, h6, h⟩ := bm_some h
          refine cvv_0 76 cw_X7_191 (S_X7_next h6) rfl ⟨by decide, by decide⟩ rfl rfl rfl rfl rfl (Nat.le_of_ble_eq_true rfl) dX7_townLine_73 rfl ?_
          refine ald_4_0 77 rfl dX7_townLine_76 rfl ?_
          refine dgf_X7_27 80 rfl dX7_townLine_77 rfl ?_
          refine ald_4_0 81 rfl dX7_townLine_80 rfl ?_
          refine dgf_X7_204 84 rfl dX7_townLine_81 rfl rfl ?_
          refine dt_iconst 85 dX7_townLine_84 rfl ?_
          obtain ⟨hi, h⟩ := ift h
          refine diast 86 rfl rfl rfl hi rfl dX7_townLine_85 rfl ?_
          refine ald_4_0 87 rfl dX7_townLine_86 rfl ?_
          refine st_ldcS 89 rfl sw_X7_178 dX7_townLine_87 rfl ?_
          obtain ⟨r7, h7, h⟩ := bp_some h
          refine cvi_1 92 cw_X7_163 (S_X7_isWord (by first | assumption | decide) h7) rfl ⟨by decide, by decide⟩ rfl rfl rfl rfl rfl (Nat.le_of_ble_eq_true rfl) dX7_townLine_89 rfl ?_
          refine dt_if_ne 95 104 dX7_townLine_92 rfl (by decide) rfl (fun c => ?_) (fun c => ?_)
          · replace h := ifp c h
            exact A_X7_townLine_104 hF _ _ h
          · replace h := ifn c h
            refine ald_4_0 96 rfl dX7_townLine_95 rfl ?_
            refine st_ldcS 98 rfl sw_X7_180 dX7_townLine_96 rfl ?_
            obtain ⟨r8, h8, h⟩ := bp_some h
            refine cvi_1 101 cw_X7_163 (S_X7_isWord (by first | assumption | decide) h8) rfl ⟨by decide, by decide⟩ rfl rfl rfl rfl rfl (Nat.le_of_ble_eq_true rfl) dX7_townLine_98 rfl ?_
            refine dt_if_eq 104 152 dX7_townLine_101 rfl (by decide) rfl (fun c => ?_) (fun c => ?_)
            · replace h := ifp c h
              exact A_X7_townLine_152 hF _ _ h
            · replace h := ifn c h
              exact A_X7_townLine_104 hF _ _ h
        · replace h := ifn c h
          refine dt_iconst 71 dX7_townLine_70 rfl ?_
          exact dr_z hF rfl isB_0 dX7_townLine_71 h
      · replace h := ifn c h
        refine dt_iconst 43 dX7_townLine_42 rfl ?_
        exact dr_z hF rfl isB_0 dX7_townLine_43 h
    · replace h := ifn c h
      refine dt_iconst 23 dX7_townLine_22 rfl ?_
      exact dr_z hF rfl isB_0 dX7_townLine_23 h
  · replace h := ifn c h
    refine dt_iconst 10 dX7_townLine_9 rfl ?_
    exact dr_z hF rfl isB_0 dX7_townLine_10 h
/-- StampTalesModel.linkLine -/
theorem A_X7_linkLine_220 {G : Cx} {b : Ab} {r : Int} {mm : Mi} (hF : Fi yd_X7_linkLine G b (some (iv r)) (Em mm)) (s0 : Int) (s1 : Int) (μ : Mi) (h : B_X7_linkLine_220 s0 s1 μ = some (r, mm)) : At yd_X7_linkLine G b 220 [some (rf G 7 false), none, none] [iv s0, iv s1, rf G 48 false] (Em μ) := by
  unfold B_X7_linkLine_220 at h
  obtain ⟨hi, h⟩ := ift h
  refine diast 221 rfl rfl rfl hi rfl dX7_linkLine_220 rfl ?_
  refine ald_3_0 222 rfl dX7_linkLine_221 rfl ?_
  refine st_dup 223 dX7_linkLine_222 rfl rfl ?_
  refine dgf_X7_225 226 rfl dX7_linkLine_223 rfl (rd_o (by decide)) ?_
  refine dt_iconst 227 dX7_linkLine_226 rfl ?_
  refine dt_iadd 228 dX7_linkLine_227 rfl ?_
  refine dpf_X7_225 231 rfl dX7_linkLine_228 rfl ?_
  refine ald_3_0 232 rfl dX7_linkLine_231 rfl ?_
  obtain ⟨r1, m1, h1, h⟩ := bd_some h
  refine cvi_0 235 cw_X7_216 (S_X7_closes h1) rfl ⟨by decide, by decide⟩ rfl rfl rfl rfl rfl (Nat.le_of_ble_eq_true rfl) dX7_linkLine_232 rfl ?_
  obtain ⟨hb, h⟩ := ift h
  exact dr_z hF rfl hb dX7_linkLine_235 h
theorem A_X7_linkLine_118 {G : Cx} {b : Ab} {r : Int} {mm : Mi} (hF : Fi yd_X7_linkLine G b (some (iv r)) (Em mm)) (x1 : Int) (x2 : Int) (s0 : Int) (s1 : Int) (μ : Mi) (h : B_X7_linkLine_118 x1 x2 s0 s1 μ = some (r, mm)) : At yd_X7_linkLine G b 118 [some (rf G 7 false), some (iv x1), some (iv x2)] [iv s0, iv s1, rf G 7 false] (Em μ) := by
  unfold B_X7_linkLine_118 at h
  obtain ⟨r1, m1, h1, h⟩ := bd_some h
  refine cvi_2 121 cw_X7_222 (S_X7_number h1) rfl ⟨by decide, by decide⟩ rfl rfl rfl rfl rfl (Nat.le_of_ble_eq_true rfl) dX7_linkLine_118 rfl ?_
  refine dt_if_ne 124 126 dX7_linkLine_121 rfl (by decide) rfl (fun c => ?_) (fun c => ?_)
  · replace h := ifp c h
    refine ald_3_0 127 rfl dX7_linkLine_126 rfl ?_
    refine dgf_X7_30 130 rfl dX7_linkLine_127 rfl ?_
    refine dild_3_2 131 dX7_linkLine_130 rfl ?_
    refine dt_iconst 132 dX7_linkLine_131 rfl ?_
    refine dt_iadd 133 dX7_linkLine_132 rfl ?_
    refine ald_3_0 134 rfl dX7_linkLine_133 rfl ?_
    refine dgf_X7_194 137 rfl dX7_linkLine_134 rfl rfl ?_
    obtain ⟨hi, h⟩ := ift h
    refine diast 138 rfl rfl rfl hi rfl dX7_linkLine_137 rfl ?_
    refine ald_3_0 139 rfl dX7_linkLine_138 rfl ?_
    refine st_ldcS 141 rfl sw_X7_187 dX7_linkLine_139 rfl ?_
    obtain ⟨r2, m2, h2, h⟩ := bd_some h
    refine cvi_1 144 cw_X7_219 (S_X7_word (by first | assumption | decide) h2) rfl ⟨by decide, by decide⟩ rfl rfl rfl rfl rfl (Nat.le_of_ble_eq_true rfl) dX7_linkLine_141 rfl ?_
    refine dt_if_eq 147 157 dX7_linkLine_144 rfl (by decide) rfl (fun c => ?_) (fun c => ?_)
    · replace h := ifp c h
      refine dt_iconst 158 dX7_linkLine_157 rfl ?_
      exact dr_z hF rfl isB_0 dX7_linkLine_158 h
    · replace h := ifn c h
      refine ald_3_0 148 rfl dX7_linkLine_147 rfl ?_
      refine dt_iconst 149 dX7_linkLine_148 rfl ?_
      refine dt_bipush 151 dX7_linkLine_149 bq_48 rfl ?_
      obtain ⟨r3, m3, h3, h⟩ := bd_some h
      refine cvi_2 154 cw_X7_222 (S_X7_number h3) rfl ⟨by decide, by decide⟩ rfl rfl rfl rfl rfl (Nat.le_of_ble_eq_true rfl) dX7_linkLine_151 rfl ?_
      refine dt_if_ne 157 159 dX7_linkLine_154 rfl (by decide) rfl (fun c => ?_) (fun c => ?_)
      · replace h := ifp c h
        refine ald_3_0 160 rfl dX7_linkLine_159 rfl ?_
        refine dgf_X7_30 163 rfl dX7_linkLine_160 rfl ?_
        refine dild_3_2 164 dX7_linkLine_163 rfl ?_
        refine dt_iconst 165 dX7_linkLine_164 rfl ?_
        refine dt_iadd 166 dX7_linkLine_165 rfl ?_
        refine ald_3_0 167 rfl dX7_linkLine_166 rfl ?_
        refine dgf_X7_194 170 rfl dX7_linkLine_167 rfl rfl ?_
        obtain ⟨hi, h⟩ := ift h
        refine diast 171 rfl rfl rfl hi rfl dX7_linkLine_170 rfl ?_
        refine ald_3_0 172 rfl dX7_linkLine_171 rfl ?_
        refine st_ldcS 174 rfl sw_X7_189 dX7_linkLine_172 rfl ?_
        obtain ⟨r4, m4, h4, h⟩ := bd_some h
        refine cvi_1 177 cw_X7_219 (S_X7_word (by first | assumption | decide) h4) rfl ⟨by decide, by decide⟩ rfl rfl rfl rfl rfl (Nat.le_of_ble_eq_true rfl) dX7_linkLine_174 rfl ?_
        refine dt_if_eq 180 190 dX7_linkLine_177 rfl (by decide) rfl (fun c => ?_) (fun c => ?_)
        · replace h := ifp c h
          refine dt_iconst 191 dX7_linkLine_190 rfl ?_
          exact dr_z hF rfl isB_0 dX7_linkLine_191 h
        · replace h := ifn c h
          refine ald_3_0 181 rfl dX7_linkLine_180 rfl ?_
          refine dt_iconst 182 dX7_linkLine_181 rfl ?_
          refine dt_bipush 184 dX7_linkLine_182 bq_99 rfl ?_
          obtain ⟨r5, m5, h5, h⟩ := bd_some h
          refine cvi_2 187 cw_X7_222 (S_X7_number h5) rfl ⟨by decide, by decide⟩ rfl rfl rfl rfl rfl (Nat.le_of_ble_eq_true rfl) dX7_linkLine_184 rfl ?_
          refine dt_if_ne 190 192 dX7_linkLine_187 rfl (by decide) rfl (fun c => ?_) (fun c => ?_)
          · replace h := ifp c h
            refine ald_3_0 193 rfl dX7_linkLine_192 rfl ?_
            refine dgf_X7_30 196 rfl dX7_linkLine_193 rfl ?_
            refine dild_3_2 197 dX7_linkLine_196 rfl ?_
            refine dt_iconst 198 dX7_linkLine_197 rfl ?_
            refine dt_iadd 199 dX7_linkLine_198 rfl ?_
            refine ald_3_0 200 rfl dX7_linkLine_199 rfl ?_
            refine dgf_X7_194 203 rfl dX7_linkLine_200 rfl rfl ?_
            obtain ⟨hi, h⟩ := ift h
            refine diast 204 rfl rfl rfl hi rfl dX7_linkLine_203 rfl ?_
            refine ald_3_0 205 rfl dX7_linkLine_204 rfl ?_
            refine dgf_X7_30 208 rfl dX7_linkLine_205 rfl ?_
            refine dild_3_2 209 dX7_linkLine_208 rfl ?_
            refine dt_iconst 210 dX7_linkLine_209 rfl ?_
            refine dt_iadd 211 dX7_linkLine_210 rfl ?_
            refine dild_3_1 212 dX7_linkLine_211 rfl ?_
            refine dt_if_eq 215 219 dX7_linkLine_212 rfl (by decide) rfl (fun c => ?_) (fun c => ?_)
            · replace h := ifp c h
              refine dt_iconst 220 dX7_linkLine_219 rfl ?_
              exact At.weak (ls_s (ls_n (ls_n ls_0))) (A_X7_linkLine_220 hF _ _ _ h)
            · replace h := ifn c h
              refine dt_iconst 216 dX7_linkLine_215 rfl ?_
              refine st_goto 220 dX7_linkLine_216 (by decide) ?_
              exact At.weak (ls_s (ls_n (ls_n ls_0))) (A_X7_linkLine_220 hF _ _ _ h)
          · replace h := ifn c h
            refine dt_iconst 191 dX7_linkLine_190 rfl ?_
            exact dr_z hF rfl isB_0 dX7_linkLine_191 h
      · replace h := ifn c h
        refine dt_iconst 158 dX7_linkLine_157 rfl ?_
        exact dr_z hF rfl isB_0 dX7_linkLine_158 h
  · replace h := ifn c h
    refine dt_iconst 125 dX7_linkLine_124 rfl ?_
    exact dr_z hF rfl isB_0 dX7_linkLine_125 h
theorem S_X7_linkLine {G : Cx} {μ : Mi} {x1 : Int} {r : Int} {mm : Mi} (h : D_X7_linkLine x1 μ = some (r, mm)) : Spec yd_X7_linkLine G [rf G 7 false, iv x1] (Em μ) (some (iv r)) (Em mm) := by
  refine Spec.of (by decide) rfl (catL_ok rfl) (Nat.le_of_ble_eq_true rfl) rfl (fun b hF => ?_)
  unfold D_X7_linkLine at h
  refine ald_3_0 1 rfl dX7_linkLine_0 rfl ?_
  refine dgf_X7_225 4 rfl dX7_linkLine_1 rfl rfl ?_
  refine dt_bipush 6 dX7_linkLine_4 bq_16 rfl ?_
  refine dt_icmp_ne 9 11 dX7_linkLine_6 rfl (by decide) rfl wk_16 (fun c => ?_) (fun c => ?_)
  · replace h := ifp c h
    refine dt_bipush 13 dX7_linkLine_11 bq_6 rfl ?_
    refine ald_3_0 14 rfl dX7_linkLine_13 rfl ?_
    refine dgf_X7_225 17 rfl dX7_linkLine_14 rfl rfl ?_
    refine dt_imul 18 dX7_linkLine_17 rfl ?_
    refine dist_3_2 19 dX7_linkLine_18 rfl rfl rfl ?_
    refine ald_3_0 20 rfl dX7_linkLine_19 rfl ?_
    obtain ⟨m1, h1, h⟩ := bm_some h
    refine cvv_0 23 cw_X7_191 (S_X7_next h1) rfl ⟨by decide, by decide⟩ rfl rfl rfl rfl rfl (Nat.le_of_ble_eq_true rfl) dX7_linkLine_20 rfl ?_
    refine ald_3_0 24 rfl dX7_linkLine_23 rfl ?_
    refine dgf_X7_30 27 rfl dX7_linkLine_24 rfl ?_
    refine dild_3_2 28 dX7_linkLine_27 rfl ?_
    refine ald_3_0 29 rfl dX7_linkLine_28 rfl ?_
    obtain ⟨r2, h2, h⟩ := bp_some h
    refine cvi_0 32 cw_X7_210 (S_X7_townHere h2) rfl ⟨by decide, by decide⟩ rfl rfl rfl rfl rfl (Nat.le_of_ble_eq_true rfl) dX7_linkLine_29 rfl ?_
    obtain ⟨hi, h⟩ := ift h
    refine diast 33 rfl rfl rfl hi rfl dX7_linkLine_32 rfl ?_
    refine ald_3_0 34 rfl dX7_linkLine_33 rfl ?_
    refine dgf_X7_30 37 rfl dX7_linkLine_34 rfl ?_
    refine dild_3_2 38 dX7_linkLine_37 rfl ?_
    obtain ⟨hi, h⟩ := ift h
    refine diald 39 rfl rfl rfl hi rfl (rd_s) dX7_linkLine_38 rfl ?_
    refine dt_iconst 40 dX7_linkLine_39 rfl ?_
    refine dt_icmp_ne 43 45 dX7_linkLine_40 rfl (by decide) rfl wk_m1 (fun c => ?_) (fun c => ?_)
    · replace h := ifp c h
      refine ald_3_0 46 rfl dX7_linkLine_45 rfl ?_
      obtain ⟨m3, h3, h⟩ := bm_some h
      refine cvv_0 49 cw_X7_191 (S_X7_next h3) rfl ⟨by decide, by decide⟩ rfl rfl rfl rfl rfl (Nat.le_of_ble_eq_true rfl) dX7_linkLine_46 rfl ?_
      refine ald_3_0 50 rfl dX7_linkLine_49 rfl ?_
      refine dgf_X7_30 53 rfl dX7_linkLine_50 rfl ?_
      refine dild_3_2 54 dX7_linkLine_53 rfl ?_
      refine dt_iconst 55 dX7_linkLine_54 rfl ?_
      refine dt_iadd 56 dX7_linkLine_55 rfl ?_
      refine ald_3_0 57 rfl dX7_linkLine_56 rfl ?_
      obtain ⟨r4, h4, h⟩ := bp_some h
      refine cvi_0 60 cw_X7_210 (S_X7_townHere h4) rfl ⟨by decide, by decide⟩ rfl rfl rfl rfl rfl (Nat.le_of_ble_eq_true rfl) dX7_linkLine_57 rfl ?_
      obtain ⟨hi, h⟩ := ift h
      refine diast 61 rfl rfl rfl hi rfl dX7_linkLine_60 rfl ?_
      refine ald_3_0 62 rfl dX7_linkLine_61 rfl ?_
      refine dgf_X7_30 65 rfl dX7_linkLine_62 rfl ?_
      refine dild_3_2 66 dX7_linkLine_65 rfl ?_
      refine dt_iconst 67 dX7_linkLine_66 rfl ?_
      refine dt_iadd 68 dX7_linkLine_67 rfl ?_
      obtain ⟨hi, h⟩ := ift h
      refine diald 69 rfl rfl rfl hi rfl (rd_s) dX7_linkLine_68 rfl ?_
      refine dt_iconst 70 dX7_linkLine_69 rfl ?_
      refine dt_icmp_eq 73 90 dX7_linkLine_70 rfl (by decide) rfl wk_m1 (fun c => ?_) (fun c => ?_)
      · replace h := ifp c h
        refine dt_iconst 91 dX7_linkLine_90 rfl ?_
        exact dr_z hF rfl isB_0 dX7_linkLine_91 h
      · replace h := ifn c h
        refine ald_3_0 74 rfl dX7_linkLine_73 rfl ?_
        refine dgf_X7_30 77 rfl dX7_linkLine_74 rfl ?_
        refine dild_3_2 78 dX7_linkLine_77 rfl ?_
        refine dt_iconst 79 dX7_linkLine_78 rfl ?_
        refine dt_iadd 80 dX7_linkLine_79 rfl ?_
        obtain ⟨hi, h⟩ := ift h
        refine diald 81 rfl rfl rfl hi rfl (rd_s) dX7_linkLine_80 rfl ?_
        refine ald_3_0 82 rfl dX7_linkLine_81 rfl ?_
        refine dgf_X7_30 85 rfl dX7_linkLine_82 rfl ?_
        refine dild_3_2 86 dX7_linkLine_85 rfl ?_
        obtain ⟨hi, h⟩ := ift h
        refine diald 87 rfl rfl rfl hi rfl rfl dX7_linkLine_86 rfl ?_
        refine dt_icmp_ne 90 92 dX7_linkLine_87 rfl (by decide) rfl rfl (fun c => ?_) (fun c => ?_)
        · replace h := ifp c h
          refine ald_3_0 93 rfl dX7_linkLine_92 rfl ?_
          obtain ⟨m5, h5, h⟩ := bm_some h
          refine cvv_0 96 cw_X7_191 (S_X7_next h5) rfl ⟨by decide, by decide⟩ rfl rfl rfl rfl rfl (Nat.le_of_ble_eq_true rfl) dX7_linkLine_93 rfl ?_
          refine ald_3_0 97 rfl dX7_linkLine_96 rfl ?_
          refine st_ldcS 99 rfl sw_X7_186 dX7_linkLine_97 rfl ?_
          obtain ⟨r6, m6, h6, h⟩ := bd_some h
          refine cvi_1 102 cw_X7_219 (S_X7_word (by first | assumption | decide) h6) rfl ⟨by decide, by decide⟩ rfl rfl rfl rfl rfl (Nat.le_of_ble_eq_true rfl) dX7_linkLine_99 rfl ?_
          refine dt_if_eq 105 124 dX7_linkLine_102 rfl (by decide) rfl (fun c => ?_) (fun c => ?_)
          · replace h := ifp c h
            refine dt_iconst 125 dX7_linkLine_124 rfl ?_
            exact dr_z hF rfl isB_0 dX7_linkLine_125 h
          · replace h := ifn c h
            refine ald_3_0 106 rfl dX7_linkLine_105 rfl ?_
            refine dt_iconst 107 dX7_linkLine_106 rfl ?_
            refine dild_3_1 108 dX7_linkLine_107 rfl ?_
            refine dt_if_eq 111 116 dX7_linkLine_108 rfl (by decide) rfl (fun c => ?_) (fun c => ?_)
            · replace h := ifp c h
              refine dt_bipush 118 dX7_linkLine_116 bq_95 rfl ?_
              exact A_X7_linkLine_118 hF _ _ _ _ _ h
            · replace h := ifn c h
              refine dt_bipush 113 dX7_linkLine_111 bq_23 rfl ?_
              refine st_goto 118 dX7_linkLine_113 (by decide) ?_
              exact A_X7_linkLine_118 hF _ _ _ _ _ h
        · replace h := ifn c h
          refine dt_iconst 91 dX7_linkLine_90 rfl ?_
          exact dr_z hF rfl isB_0 dX7_linkLine_91 h
    · replace h := ifn c h
      refine dt_iconst 44 dX7_linkLine_43 rfl ?_
      exact dr_z hF rfl isB_0 dX7_linkLine_44 h
  · replace h := ifn c h
    refine dt_iconst 10 dX7_linkLine_9 rfl ?_
    exact dr_z hF rfl isB_0 dX7_linkLine_10 h
/-- StampTalesModel.line -/
theorem A_X7_line_46 {G : Cx} {b : Ab} {r : Int} {mm : Mi} (hF : Fi yd_X7_line G b (some (iv r)) (Em mm)) (μ : Mi) (h : B_X7_line_46 μ = some (r, mm)) : At yd_X7_line G b 46 [some (rf G 7 false)] [] (Em μ) := by
  unfold B_X7_line_46 at h
  refine ald_1_0 47 rfl dX7_line_46 rfl ?_
  refine ald_1_0 48 rfl dX7_line_47 rfl ?_
  refine st_ldcS 50 rfl sw_X7_182 dX7_line_48 rfl ?_
  obtain ⟨r1, h1, h⟩ := bp_some h
  refine cvi_1 53 cw_X7_163 (S_X7_isWord (by first | assumption | decide) h1) rfl ⟨by decide, by decide⟩ rfl rfl rfl rfl rfl (Nat.le_of_ble_eq_true rfl) dX7_line_50 rfl ?_
  obtain ⟨r2, m2, h2, h⟩ := bd_some h
  refine cvi_1 56 cw_X7_234 (S_X7_linkLine h2) rfl ⟨by decide, by decide⟩ rfl rfl rfl rfl rfl (Nat.le_of_ble_eq_true rfl) dX7_line_53 rfl ?_
  refine dt_if_eq 59 63 dX7_line_56 rfl (by decide) rfl (fun c => ?_) (fun c => ?_)
  · replace h := ifp c h
    refine dt_iconst 64 dX7_line_63 rfl ?_
    exact dr_z hF rfl isB_0 dX7_line_64 h
  · replace h := ifn c h
    refine dt_iconst 60 dX7_line_59 rfl ?_
    refine st_goto 64 dX7_line_60 (by decide) ?_
    exact dr_z hF rfl isB_1 dX7_line_64 h
theorem S_X7_line {G : Cx} {μ : Mi} {r : Int} {mm : Mi} (h : D_X7_line μ = some (r, mm)) : Spec yd_X7_line G [rf G 7 false] (Em μ) (some (iv r)) (Em mm) := by
  refine Spec.of (by decide) rfl (catL_ok rfl) (Nat.le_of_ble_eq_true rfl) rfl (fun b hF => ?_)
  unfold D_X7_line at h
  refine ald_1_0 1 rfl dX7_line_0 rfl ?_
  refine st_ldcS 3 rfl sw_X7_161 dX7_line_1 rfl ?_
  obtain ⟨r1, h1, h⟩ := bp_some h
  refine cvi_1 6 cw_X7_163 (S_X7_isWord (by first | assumption | decide) h1) rfl ⟨by decide, by decide⟩ rfl rfl rfl rfl rfl (Nat.le_of_ble_eq_true rfl) dX7_line_3 rfl ?_
  refine dt_if_eq 9 14 dX7_line_6 rfl (by decide) rfl (fun c => ?_) (fun c => ?_)
  · replace h := ifp c h
    refine ald_1_0 15 rfl dX7_line_14 rfl ?_
    refine st_ldcS 17 rfl sw_X7_167 dX7_line_15 rfl ?_
    obtain ⟨r2, h2, h⟩ := bp_some h
    refine cvi_1 20 cw_X7_163 (S_X7_isWord (by first | assumption | decide) h2) rfl ⟨by decide, by decide⟩ rfl rfl rfl rfl rfl (Nat.le_of_ble_eq_true rfl) dX7_line_17 rfl ?_
    refine dt_if_eq 23 28 dX7_line_20 rfl (by decide) rfl (fun c => ?_) (fun c => ?_)
    · replace h := ifp c h
      refine ald_1_0 29 rfl dX7_line_28 rfl ?_
      refine st_ldcS 31 rfl sw_X7_182 dX7_line_29 rfl ?_
      obtain ⟨r3, h3, h⟩ := bp_some h
      refine cvi_1 34 cw_X7_163 (S_X7_isWord (by first | assumption | decide) h3) rfl ⟨by decide, by decide⟩ rfl rfl rfl rfl rfl (Nat.le_of_ble_eq_true rfl) dX7_line_31 rfl ?_
      refine dt_if_ne 37 46 dX7_line_34 rfl (by decide) rfl (fun c => ?_) (fun c => ?_)
      · replace h := ifp c h
        exact A_X7_line_46 hF _ h
      · replace h := ifn c h
        refine ald_1_0 38 rfl dX7_line_37 rfl ?_
        refine st_ldcS 40 rfl sw_X7_184 dX7_line_38 rfl ?_
        obtain ⟨r4, h4, h⟩ := bp_some h
        refine cvi_1 43 cw_X7_163 (S_X7_isWord (by first | assumption | decide) h4) rfl ⟨by decide, by decide⟩ rfl rfl rfl rfl rfl (Nat.le_of_ble_eq_true rfl) dX7_line_40 rfl ?_
        refine dt_if_eq 46 63 dX7_line_43 rfl (by decide) rfl (fun c => ?_) (fun c => ?_)
        · replace h := ifp c h
          refine dt_iconst 64 dX7_line_63 rfl ?_
          exact dr_z hF rfl isB_0 dX7_line_64 h
        · replace h := ifn c h
          exact A_X7_line_46 hF _ h
    · replace h := ifn c h
      refine ald_1_0 24 rfl dX7_line_23 rfl ?_
      obtain ⟨r3, m3, h3, h⟩ := bd_some h
      refine cvi_0 27 cw_X7_231 (S_X7_townLine h3) rfl ⟨by decide, by decide⟩ rfl rfl rfl rfl rfl (Nat.le_of_ble_eq_true rfl) dX7_line_24 rfl ?_
      obtain ⟨hb, h⟩ := ift h
      exact dr_z hF rfl hb dX7_line_27 h
  · replace h := ifn c h
    refine ald_1_0 10 rfl dX7_line_9 rfl ?_
    obtain ⟨r2, m2, h2, h⟩ := bd_some h
    refine cvi_0 13 cw_X7_228 (S_X7_landLine h2) rfl ⟨by decide, by decide⟩ rfl rfl rfl rfl rfl (Nat.le_of_ble_eq_true rfl) dX7_line_10 rfl ?_
    obtain ⟨hb, h⟩ := ift h
    exact dr_z hF rfl hb dX7_line_13 h
/-- StampTalesModel.fault -/
theorem A_X7_fault_24 {G : Cx} {b : Ab} {r : Int} {mm : Mi} (hF : Fi yd_X7_fault G b (some (iv r)) (Em mm)) : ∀ (n : Nat) (μ : Mi), B_X7_fault_24 n μ = some (r, mm) → At yd_X7_fault G b 24 [some (rf G 7 false)] [] (Em μ) := by
  intro n
  induction n with
  | zero =>
    intro μ h
    exact nope h
  | succ n hk24 =>
    intro μ h
    replace h : F_X7_fault_24 (B_X7_fault_24 n) μ = some (r, mm) := h
    unfold F_X7_fault_24 at h
    refine ald_1_0 25 rfl dX7_fault_24 rfl ?_
    refine dgf_X7_131 28 rfl dX7_fault_25 rfl rfl ?_
    refine dt_if_eq 31 43 dX7_fault_28 rfl (by decide) rfl (fun c => ?_) (fun c => ?_)
    · replace h := ifp c h
      refine ald_1_0 44 rfl dX7_fault_43 rfl ?_
      refine dgf_X7_204 47 rfl dX7_fault_44 rfl rfl ?_
      refine dt_if_ne 50 57 dX7_fault_47 rfl (by decide) rfl (fun c => ?_) (fun c => ?_)
      · replace h := ifp c h
        refine dt_iconst 58 dX7_fault_57 rfl ?_
        exact dr_i hF rfl dX7_fault_58 h
      · replace h := ifn c h
        refine ald_1_0 51 rfl dX7_fault_50 rfl ?_
        refine dgf_X7_124 54 rfl dX7_fault_51 rfl rfl ?_
        refine st_goto 58 dX7_fault_54 (by decide) ?_
        exact dr_i hF rfl dX7_fault_58 h
    · replace h := ifn c h
      refine ald_1_0 32 rfl dX7_fault_31 rfl ?_
      obtain ⟨r1, m1, h1, h⟩ := bd_some h
      refine cvi_0 35 cw_X7_238 (S_X7_line h1) rfl ⟨by decide, by decide⟩ rfl rfl rfl rfl rfl (Nat.le_of_ble_eq_true rfl) dX7_fault_32 rfl ?_
      refine dt_if_ne 38 24 dX7_fault_35 rfl (by decide) rfl (fun c => ?_) (fun c => ?_)
      · replace h := ifp c h
        exact hk24 _ h
      · replace h := ifn c h
        refine ald_1_0 39 rfl dX7_fault_38 rfl ?_
        refine dgf_X7_124 42 rfl dX7_fault_39 rfl rfl ?_
        exact dr_i hF rfl dX7_fault_42 h
theorem S_X7_fault {G : Cx} {μ : Mi} {r : Int} {mm : Mi} (h : D_X7_fault μ = some (r, mm)) : Spec yd_X7_fault G [rf G 7 false] (Em μ) (some (iv r)) (Em mm) := by
  refine Spec.of (by decide) rfl (catL_ok rfl) (Nat.le_of_ble_eq_true rfl) rfl (fun b hF => ?_)
  unfold D_X7_fault at h
  refine ald_1_0 1 rfl dX7_fault_0 rfl ?_
  refine dt_iconst 2 dX7_fault_1 rfl ?_
  refine dpf_X7_197 5 rfl dX7_fault_2 rfl ?_
  refine ald_1_0 6 rfl dX7_fault_5 rfl ?_
  refine dt_iconst 7 dX7_fault_6 rfl ?_
  refine dpf_X7_204 10 rfl dX7_fault_7 rfl ?_
  refine ald_1_0 11 rfl dX7_fault_10 rfl ?_
  refine dt_iconst 12 dX7_fault_11 rfl ?_
  refine dpf_X7_225 15 rfl dX7_fault_12 rfl ?_
  refine ald_1_0 16 rfl dX7_fault_15 rfl ?_
  refine dt_iconst 17 dX7_fault_16 rfl ?_
  refine dpf_X7_121 20 rfl dX7_fault_17 rfl ?_
  refine ald_1_0 21 rfl dX7_fault_20 rfl ?_
  obtain ⟨m1, h1, h⟩ := bm_some h
  refine cvv_0 24 cw_X7_191 (S_X7_next h1) rfl ⟨by decide, by decide⟩ rfl rfl rfl rfl rfl (Nat.le_of_ble_eq_true rfl) dX7_fault_21 rfl ?_
  exact A_X7_fault_24 hF FU _ h
/-- StampTalesModel.map -/
theorem A_X7_map_125 {G : Cx} {b : Ab} {r : Int} {mm : Mi} (hF : Fi yd_X7_map G b (some (iv r)) (Em mm)) : ∀ (n : Nat) (x1 : Int) (μ : Mi), B_X7_map_125 n x1 μ = some (r, mm) → At yd_X7_map G b 125 [some (rf G 7 false), some (iv x1)] [] (Em μ) := by
  intro n
  induction n with
  | zero =>
    intro x1 μ h
    exact nope h
  | succ n hk125 =>
    intro x1 μ h
    replace h : F_X7_map_125 (B_X7_map_125 n) x1 μ = some (r, mm) := h
    unfold F_X7_map_125 at h
    refine dild_2_1 126 dX7_map_125 rfl ?_
    refine dt_iconst 127 dX7_map_126 rfl ?_
    refine dt_icmp_ge 130 165 dX7_map_127 rfl (by decide) rfl wk_2 (fun c => ?_) (fun c => ?_)
    · replace h := ifp c h
      refine ald_2_0 166 rfl dX7_map_165 rfl ?_
      refine dt_iconst 167 dX7_map_166 rfl ?_
      refine dpf_X7_253 170 rfl dX7_map_167 rfl ?_
      refine ald_2_0 171 rfl dX7_map_170 rfl ?_
      refine dt_iconst 172 dX7_map_171 rfl ?_
      refine dpf_X7_113 175 rfl dX7_map_172 rfl ?_
      refine ald_2_0 176 rfl dX7_map_175 rfl ?_
      refine dgf_X7_247 179 rfl dX7_map_176 rfl ((rd_oj (by decide)).trans (rd_oj (by decide))) ?_
      exact dr_i hF rfl dX7_map_179 h
    · replace h := ifn c h
      refine ald_2_0 131 rfl dX7_map_130 rfl ?_
      refine dgf_X7_45 134 rfl dX7_map_131 rfl ?_
      refine dild_2_1 135 dX7_map_134 rfl ?_
      refine dt_iconst 136 dX7_map_135 rfl ?_
      obtain ⟨hi, h⟩ := ift h
      refine diast 137 rfl rfl rfl hi rfl dX7_map_136 rfl ?_
      refine ald_2_0 138 rfl dX7_map_137 rfl ?_
      refine dgf_X7_48 141 rfl dX7_map_138 rfl ?_
      refine dild_2_1 142 dX7_map_141 rfl ?_
      refine dt_iconst 143 dX7_map_142 rfl ?_
      obtain ⟨hi, h⟩ := ift h
      refine diast 144 rfl rfl rfl hi rfl dX7_map_143 rfl ?_
      refine ald_2_0 145 rfl dX7_map_144 rfl ?_
      refine dgf_X7_51 148 rfl dX7_map_145 rfl ?_
      refine dild_2_1 149 dX7_map_148 rfl ?_
      refine dt_bipush 151 dX7_map_149 bq_96 rfl ?_
      obtain ⟨hi, h⟩ := ift h
      refine diast 152 rfl rfl rfl hi rfl dX7_map_151 rfl ?_
      refine ald_2_0 153 rfl dX7_map_152 rfl ?_
      refine dgf_X7_54 156 rfl dX7_map_153 rfl ?_
      refine dild_2_1 157 dX7_map_156 rfl ?_
      refine dt_iconst 158 dX7_map_157 rfl ?_
      obtain ⟨hi, h⟩ := ift h
      refine diast 159 rfl rfl rfl hi rfl dX7_map_158 rfl ?_
      refine dinc_2_1 162 dX7_map_159 rfl rfl rfl ?_
      refine st_goto 125 dX7_map_162 (by decide) ?_
      exact hk125 _ _ h
theorem A_X7_map_99 {G : Cx} {b : Ab} {r : Int} {mm : Mi} (hF : Fi yd_X7_map G b (some (iv r)) (Em mm)) : ∀ (n : Nat) (x1 : Int) (μ : Mi), B_X7_map_99 n x1 μ = some (r, mm) → At yd_X7_map G b 99 [some (rf G 7 false), some (iv x1)] [] (Em μ) := by
  intro n
  induction n with
  | zero =>
    intro x1 μ h
    exact nope h
  | succ n hk99 =>
    intro x1 μ h
    replace h : F_X7_map_99 (B_X7_map_99 n) x1 μ = some (r, mm) := h
    unfold F_X7_map_99 at h
    refine dild_2_1 100 dX7_map_99 rfl ?_
    refine dt_bipush 102 dX7_map_100 bq_96 rfl ?_
    refine dt_icmp_ge 105 123 dX7_map_102 rfl (by decide) rfl wk_96 (fun c => ?_) (fun c => ?_)
    · replace h := ifp c h
      refine dt_iconst 124 dX7_map_123 rfl ?_
      refine dist_2_1 125 dX7_map_124 rfl rfl rfl ?_
      exact A_X7_map_125 hF FU _ _ h
    · replace h := ifn c h
      refine ald_2_0 106 rfl dX7_map_105 rfl ?_
      refine dgf_X7_42 109 rfl dX7_map_106 rfl ?_
      refine dild_2_1 110 dX7_map_109 rfl ?_
      refine ald_2_0 111 rfl dX7_map_110 rfl ?_
      refine dgf_X7_30 114 rfl dX7_map_111 rfl ?_
      refine dild_2_1 115 dX7_map_114 rfl ?_
      obtain ⟨hi, h⟩ := ift h
      refine diald 116 rfl rfl rfl hi rfl rfl dX7_map_115 rfl ?_
      obtain ⟨hi, h⟩ := ift h
      refine diast 117 rfl rfl rfl hi rfl dX7_map_116 rfl ?_
      refine dinc_2_1 120 dX7_map_117 rfl rfl rfl ?_
      refine st_goto 99 dX7_map_120 (by decide) ?_
      exact hk99 _ _ h
theorem A_X7_map_61 {G : Cx} {b : Ab} {r : Int} {mm : Mi} (hF : Fi yd_X7_map G b (some (iv r)) (Em mm)) : ∀ (n : Nat) (x1 : Int) (μ : Mi), B_X7_map_61 n x1 μ = some (r, mm) → At yd_X7_map G b 61 [some (rf G 7 false), some (iv x1)] [] (Em μ) := by
  intro n
  induction n with
  | zero =>
    intro x1 μ h
    exact nope h
  | succ n hk61 =>
    intro x1 μ h
    replace h : F_X7_map_61 (B_X7_map_61 n) x1 μ = some (r, mm) := h
    unfold F_X7_map_61 at h
    refine dild_2_1 62 dX7_map_61 rfl ?_
    refine dt_bipush 64 dX7_map_62 bq_8 rfl ?_
    refine dt_icmp_ge 67 97 dX7_map_64 rfl (by decide) rfl wk_8 (fun c => ?_) (fun c => ?_)
    · replace h := ifp c h
      refine dt_iconst 98 dX7_map_97 rfl ?_
      refine dist_2_1 99 dX7_map_98 rfl rfl rfl ?_
      exact A_X7_map_99 hF FU _ _ h
    · replace h := ifn c h
      refine ald_2_0 68 rfl dX7_map_67 rfl ?_
      refine dgf_X7_36 71 rfl dX7_map_68 rfl ?_
      refine dild_2_1 72 dX7_map_71 rfl ?_
      refine ald_2_0 73 rfl dX7_map_72 rfl ?_
      refine dgf_X7_24 76 rfl dX7_map_73 rfl ?_
      refine dild_2_1 77 dX7_map_76 rfl ?_
      obtain ⟨hi, h⟩ := ift h
      refine diald 78 rfl rfl rfl hi rfl rfl dX7_map_77 rfl ?_
      obtain ⟨hi, h⟩ := ift h
      refine diast 79 rfl rfl rfl hi rfl dX7_map_78 rfl ?_
      refine ald_2_0 80 rfl dX7_map_79 rfl ?_
      refine dgf_X7_39 83 rfl dX7_map_80 rfl ?_
      refine dild_2_1 84 dX7_map_83 rfl ?_
      refine ald_2_0 85 rfl dX7_map_84 rfl ?_
      refine dgf_X7_27 88 rfl dX7_map_85 rfl ?_
      refine dild_2_1 89 dX7_map_88 rfl ?_
      obtain ⟨hi, h⟩ := ift h
      refine diald 90 rfl rfl rfl hi rfl (rd_o (by decide)) dX7_map_89 rfl ?_
      obtain ⟨hi, h⟩ := ift h
      refine diast 91 rfl rfl rfl hi rfl dX7_map_90 rfl ?_
      refine dinc_2_1 94 dX7_map_91 rfl rfl rfl ?_
      refine st_goto 61 dX7_map_94 (by decide) ?_
      exact hk61 _ _ h
theorem A_X7_map_36 {G : Cx} {b : Ab} {r : Int} {mm : Mi} (hF : Fi yd_X7_map G b (some (iv r)) (Em mm)) : ∀ (n : Nat) (x1 : Int) (μ : Mi), B_X7_map_36 n x1 μ = some (r, mm) → At yd_X7_map G b 36 [some (rf G 7 false), some (iv x1)] [] (Em μ) := by
  intro n
  induction n with
  | zero =>
    intro x1 μ h
    exact nope h
  | succ n hk36 =>
    intro x1 μ h
    replace h : F_X7_map_36 (B_X7_map_36 n) x1 μ = some (r, mm) := h
    unfold F_X7_map_36 at h
    refine dild_2_1 37 dX7_map_36 rfl ?_
    refine dt_iconst 38 dX7_map_37 rfl ?_
    refine dt_icmp_ge 41 59 dX7_map_38 rfl (by decide) rfl wk_4 (fun c => ?_) (fun c => ?_)
    · replace h := ifp c h
      refine dt_iconst 60 dX7_map_59 rfl ?_
      refine dist_2_1 61 dX7_map_60 rfl rfl rfl ?_
      exact A_X7_map_61 hF FU _ _ h
    · replace h := ifn c h
      refine ald_2_0 42 rfl dX7_map_41 rfl ?_
      refine dgf_X7_33 45 rfl dX7_map_42 rfl ?_
      refine dild_2_1 46 dX7_map_45 rfl ?_
      refine ald_2_0 47 rfl dX7_map_46 rfl ?_
      refine dgf_X7_17 50 rfl dX7_map_47 rfl ?_
      refine dild_2_1 51 dX7_map_50 rfl ?_
      obtain ⟨hi, h⟩ := ift h
      refine diald 52 rfl rfl rfl hi rfl rfl dX7_map_51 rfl ?_
      obtain ⟨hi, h⟩ := ift h
      refine diast 53 rfl rfl rfl hi rfl dX7_map_52 rfl ?_
      refine dinc_2_1 56 dX7_map_53 rfl rfl rfl ?_
      refine st_goto 36 dX7_map_56 (by decide) ?_
      exact hk36 _ _ h
theorem S_X7_map {G : Cx} {μ : Mi} {r : Int} {mm : Mi} (h : D_X7_map μ = some (r, mm)) : Spec yd_X7_map G [rf G 7 false] (Em μ) (some (iv r)) (Em mm) := by
  refine Spec.of (by decide) rfl (catL_ok rfl) (Nat.le_of_ble_eq_true rfl) rfl (fun b hF => ?_)
  unfold D_X7_map at h
  refine ald_2_0 1 rfl dX7_map_0 rfl ?_
  obtain ⟨r1, m1, h1, h⟩ := bd_some h
  refine cvi_0 4 cw_X7_241 (S_X7_fault h1) rfl ⟨by decide, by decide⟩ rfl rfl rfl rfl rfl (Nat.le_of_ble_eq_true rfl) dX7_map_1 rfl ?_
  refine dt_iconst 5 dX7_map_4 rfl ?_
  refine dt_icmp_eq 8 10 dX7_map_5 rfl (by decide) rfl wk_m1 (fun c => ?_) (fun c => ?_)
  · replace h := ifp c h
    refine ald_2_0 11 rfl dX7_map_10 rfl ?_
    refine ald_2_0 12 rfl dX7_map_11 rfl ?_
    refine dgf_X7_197 15 rfl dX7_map_12 rfl rfl ?_
    refine dpf_X7_244 18 rfl dX7_map_15 rfl ?_
    refine ald_2_0 19 rfl dX7_map_18 rfl ?_
    refine ald_2_0 20 rfl dX7_map_19 rfl ?_
    refine dgf_X7_204 23 rfl dX7_map_20 rfl (rd_oj (by decide)) ?_
    refine dpf_X7_247 26 rfl dX7_map_23 rfl ?_
    refine ald_2_0 27 rfl dX7_map_26 rfl ?_
    refine ald_2_0 28 rfl dX7_map_27 rfl ?_
    refine dgf_X7_225 31 rfl dX7_map_28 rfl ((rd_oj (by decide)).trans (rd_oj (by decide))) ?_
    refine dpf_X7_250 34 rfl dX7_map_31 rfl ?_
    refine dt_iconst 35 dX7_map_34 rfl ?_
    refine dist_2_1 36 dX7_map_35 rfl rfl rfl ?_
    exact A_X7_map_36 hF FU _ _ h
  · replace h := ifn c h
    refine dt_iconst 9 dX7_map_8 rfl ?_
    exact dr_i hF rfl dX7_map_9 h
/-- StampTalesModel.isMan -/
theorem S_X7_isMan {G : Cx} {μ : Mi} (x1 : Int) : Spec yd_X7_isMan G [rf G 7 false, iv x1] (Em μ) (some (iv (D_X7_isMan x1 μ))) (Em μ) := by
  generalize h : D_X7_isMan x1 μ = r
  refine Spec.of (by decide) rfl (catL_ok rfl) (Nat.le_of_ble_eq_true rfl) rfl (fun b hF => ?_)
  unfold D_X7_isMan at h
  refine ald_2_0 1 rfl dX7_isMan_0 rfl ?_
  refine dgf_X7_247 4 rfl dX7_isMan_1 rfl rfl ?_
  refine dt_if_le 7 20 dX7_isMan_4 rfl (by decide) rfl (fun c => ?_) (fun c => ?_)
  · replace h := ifp c h
    refine dt_iconst 21 dX7_isMan_20 rfl ?_
    exact dr_zt hF rfl isB_0 dX7_isMan_21 h
  · replace h := ifn c h
    refine dild_2_1 8 dX7_isMan_7 rfl ?_
    refine dt_iconst 9 dX7_isMan_8 rfl ?_
    refine dt_iconst 10 dX7_isMan_9 rfl ?_
    refine csi_3 13 cw_X7_117 (S_X7_in x1 0 1) rfl ⟨by decide, by decide⟩ (Nat.le_of_ble_eq_true rfl) dX7_isMan_10 rfl ?_
    refine dt_if_eq 16 20 dX7_isMan_13 rfl (by decide) rfl (fun c => ?_) (fun c => ?_)
    · replace h := ifp c h
      refine dt_iconst 21 dX7_isMan_20 rfl ?_
      exact dr_zt hF rfl isB_0 dX7_isMan_21 h
    · replace h := ifn c h
      refine dt_iconst 17 dX7_isMan_16 rfl ?_
      refine st_goto 21 dX7_isMan_17 (by decide) ?_
      exact dr_zt hF rfl isB_1 dX7_isMan_21 h
/-- StampTalesModel.isTown -/
theorem S_X7_isTown {G : Cx} {μ : Mi} {x1 : Int} {r : Int} (h : D_X7_isTown x1 μ = some r) : Spec yd_X7_isTown G [rf G 7 false, iv x1] (Em μ) (some (iv r)) (Em μ) := by
  refine Spec.of (by decide) rfl (catL_ok rfl) (Nat.le_of_ble_eq_true rfl) rfl (fun b hF => ?_)
  unfold D_X7_isTown at h
  refine dild_2_1 1 dX7_isTown_0 rfl ?_
  refine dt_iconst 2 dX7_isTown_1 rfl ?_
  refine ald_2_0 3 rfl dX7_isTown_2 rfl ?_
  refine dgf_X7_247 6 rfl dX7_isTown_3 rfl rfl ?_
  refine dt_iconst 7 dX7_isTown_6 rfl ?_
  refine dt_isub 8 dX7_isTown_7 rfl ?_
  refine csi_3 11 cw_X7_117 (S_X7_in x1 0 ((rd μ 7 false 17) - 1)) rfl ⟨by decide, by decide⟩ (Nat.le_of_ble_eq_true rfl) dX7_isTown_8 rfl ?_
  obtain ⟨hb, h⟩ := ift h
  exact dr_zp hF rfl hb dX7_isTown_11 h
/-- StampTalesModel.isLink -/
theorem S_X7_isLink {G : Cx} {μ : Mi} {x1 : Int} {r : Int} (h : D_X7_isLink x1 μ = some r) : Spec yd_X7_isLink G [rf G 7 false, iv x1] (Em μ) (some (iv r)) (Em μ) := by
  refine Spec.of (by decide) rfl (catL_ok rfl) (Nat.le_of_ble_eq_true rfl) rfl (fun b hF => ?_)
  unfold D_X7_isLink at h
  refine dild_2_1 1 dX7_isLink_0 rfl ?_
  refine dt_iconst 2 dX7_isLink_1 rfl ?_
  refine ald_2_0 3 rfl dX7_isLink_2 rfl ?_
  refine dgf_X7_250 6 rfl dX7_isLink_3 rfl rfl ?_
  refine dt_iconst 7 dX7_isLink_6 rfl ?_
  refine dt_isub 8 dX7_isLink_7 rfl ?_
  refine csi_3 11 cw_X7_117 (S_X7_in x1 0 ((rd μ 7 false 20) - 1)) rfl ⟨by decide, by decide⟩ (Nat.le_of_ble_eq_true rfl) dX7_isLink_8 rfl ?_
  obtain ⟨hb, h⟩ := ift h
  exact dr_zp hF rfl hb dX7_isLink_11 h
/-- StampTalesModel.isTrace -/
theorem S_X7_isTrace {G : Cx} {μ : Mi} {x1 : Int} {x2 : Int} {r : Int} (h : D_X7_isTrace x1 x2 μ = some r) : Spec yd_X7_isTrace G [rf G 7 false, iv x1, iv x2] (Em μ) (some (iv r)) (Em μ) := by
  refine Spec.of (by decide) rfl (catL_ok rfl) (Nat.le_of_ble_eq_true rfl) rfl (fun b hF => ?_)
  unfold D_X7_isTrace at h
  refine ald_3_0 1 rfl dX7_isTrace_0 rfl ?_
  refine dild_3_1 2 dX7_isTrace_1 rfl ?_
  refine cvi_1 5 cw_X7_256 (S_X7_isMan x1) rfl ⟨by decide, by decide⟩ rfl rfl rfl rfl rfl (Nat.le_of_ble_eq_true rfl) dX7_isTrace_2 rfl ?_
  refine dt_if_eq 8 28 dX7_isTrace_5 rfl (by decide) rfl (fun c => ?_) (fun c => ?_)
  · replace h := ifp c h
    refine dt_iconst 29 dX7_isTrace_28 rfl ?_
    exact dr_zp hF rfl isB_0 dX7_isTrace_29 h
  · replace h := ifn c h
    refine dild_3_2 9 dX7_isTrace_8 rfl ?_
    refine dt_iconst 10 dX7_isTrace_9 rfl ?_
    refine ald_3_0 11 rfl dX7_isTrace_10 rfl ?_
    refine dgf_X7_54 14 rfl dX7_isTrace_11 rfl ?_
    refine dild_3_1 15 dX7_isTrace_14 rfl ?_
    obtain ⟨hi, h⟩ := ift h
    refine diald 16 rfl rfl rfl hi rfl rfl dX7_isTrace_15 rfl ?_
    refine dt_iconst 17 dX7_isTrace_16 rfl ?_
    refine dt_isub 18 dX7_isTrace_17 rfl ?_
    refine csi_3 21 cw_X7_117 (S_X7_in x2 0 ((rd μ 56 false (ix x1)) - 1)) rfl ⟨by decide, by decide⟩ (Nat.le_of_ble_eq_true rfl) dX7_isTrace_18 rfl ?_
    refine dt_if_eq 24 28 dX7_isTrace_21 rfl (by decide) rfl (fun c => ?_) (fun c => ?_)
    · replace h := ifp c h
      refine dt_iconst 29 dX7_isTrace_28 rfl ?_
      exact dr_zp hF rfl isB_0 dX7_isTrace_29 h
    · replace h := ifn c h
      refine dt_iconst 25 dX7_isTrace_24 rfl ?_
      refine st_goto 29 dX7_isTrace_25 (by decide) ?_
      exact dr_zp hF rfl isB_1 dX7_isTrace_29 h
/-- StampTalesModel.ofLink -/
theorem S_X7_ofLink {G : Cx} {μ : Mi} {x1 : Int} {x2 : Int} {r : Int} (h : D_X7_ofLink x1 x2 μ = some r) : Spec yd_X7_ofLink G [rf G 7 false, iv x1, iv x2] (Em μ) (some (iv r)) (Em μ) := by
  refine Spec.of (by decide) rfl (catL_ok rfl) (Nat.le_of_ble_eq_true rfl) rfl (fun b hF => ?_)
  unfold D_X7_ofLink at h
  refine ald_3_0 1 rfl dX7_ofLink_0 rfl ?_
  refine dgf_X7_42 4 rfl dX7_ofLink_1 rfl ?_
  refine dt_bipush 6 dX7_ofLink_4 bq_6 rfl ?_
  refine dild_3_1 7 dX7_ofLink_6 rfl ?_
  refine dt_imul 8 dX7_ofLink_7 rfl ?_
  refine dild_3_2 9 dX7_ofLink_8 rfl ?_
  refine dt_iadd 10 dX7_ofLink_9 rfl ?_
  obtain ⟨hi, h⟩ := ift h
  refine diald 11 rfl rfl rfl hi rfl rfl dX7_ofLink_10 rfl ?_
  exact dr_ip hF rfl dX7_ofLink_11 h
/-- StampTalesModel.man -/
theorem S_X7_man {G : Cx} {μ : Mi} {x1 : Int} {x2 : Int} {x3 : Int} {x4 : Int} {r : Int} {mm : Mi} (h : D_X7_man x1 x2 x3 x4 μ = some (r, mm)) : Spec yd_X7_man G [rf G 7 false, iv x1, iv x2, iv x3, iv x4] (Em μ) (some (iv r)) (Em mm) := by
  refine Spec.of (by decide) rfl (catL_ok rfl) (Nat.le_of_ble_eq_true rfl) rfl (fun b hF => ?_)
  unfold D_X7_man at h
  refine ald_5_0 1 rfl dX7_man_0 rfl ?_
  refine dild_5_1 2 dX7_man_1 rfl ?_
  refine cvi_1 5 cw_X7_256 (S_X7_isMan x1) rfl ⟨by decide, by decide⟩ rfl rfl rfl rfl rfl (Nat.le_of_ble_eq_true rfl) dX7_man_2 rfl ?_
  refine dt_if_eq 8 36 dX7_man_5 rfl (by decide) rfl (fun c => ?_) (fun c => ?_)
  · replace h := ifp c h
    refine dt_iconst 37 dX7_man_36 rfl ?_
    exact dr_z hF rfl isB_0 dX7_man_37 h
  · replace h := ifn c h
    refine ald_5_0 9 rfl dX7_man_8 rfl ?_
    refine dild_5_2 10 dX7_man_9 rfl ?_
    obtain ⟨r2, h2, h⟩ := bp_some h
    refine cvi_1 13 cw_X7_259 (S_X7_isTown h2) rfl ⟨by decide, by decide⟩ rfl rfl rfl rfl rfl (Nat.le_of_ble_eq_true rfl) dX7_man_10 rfl ?_
    refine dt_if_eq 16 36 dX7_man_13 rfl (by decide) rfl (fun c => ?_) (fun c => ?_)
    · replace h := ifp c h
      refine dt_iconst 37 dX7_man_36 rfl ?_
      exact dr_z hF rfl isB_0 dX7_man_37 h
    · replace h := ifn c h
      refine dild_5_3 17 dX7_man_16 rfl ?_
      refine dt_iconst 18 dX7_man_17 rfl ?_
      refine dt_iconst 19 dX7_man_18 rfl ?_
      refine csi_3 22 cw_X7_117 (S_X7_in x3 0 4) rfl ⟨by decide, by decide⟩ (Nat.le_of_ble_eq_true rfl) dX7_man_19 rfl ?_
      refine dt_if_eq 25 36 dX7_man_22 rfl (by decide) rfl (fun c => ?_) (fun c => ?_)
      · replace h := ifp c h
        refine dt_iconst 37 dX7_man_36 rfl ?_
        exact dr_z hF rfl isB_0 dX7_man_37 h
      · replace h := ifn c h
        refine dild_5_4 27 dX7_man_25 rfl ?_
        refine dt_iconst 28 dX7_man_27 rfl ?_
        refine dt_bipush 30 dX7_man_28 bq_96 rfl ?_
        refine csi_3 33 cw_X7_117 (S_X7_in x4 1 96) rfl ⟨by decide, by decide⟩ (Nat.le_of_ble_eq_true rfl) dX7_man_30 rfl ?_
        refine dt_if_ne 36 38 dX7_man_33 rfl (by decide) rfl (fun c => ?_) (fun c => ?_)
        · replace h := ifp c h
          refine ald_5_0 39 rfl dX7_man_38 rfl ?_
          refine dgf_X7_45 42 rfl dX7_man_39 rfl ?_
          refine dild_5_1 43 dX7_man_42 rfl ?_
          refine dild_5_2 44 dX7_man_43 rfl ?_
          obtain ⟨hi, h⟩ := ift h
          refine diast 45 rfl rfl rfl hi rfl dX7_man_44 rfl ?_
          refine ald_5_0 46 rfl dX7_man_45 rfl ?_
          refine dgf_X7_48 49 rfl dX7_man_46 rfl ?_
          refine dild_5_1 50 dX7_man_49 rfl ?_
          refine dild_5_3 51 dX7_man_50 rfl ?_
          obtain ⟨hi, h⟩ := ift h
          refine diast 52 rfl rfl rfl hi rfl dX7_man_51 rfl ?_
          refine ald_5_0 53 rfl dX7_man_52 rfl ?_
          refine dgf_X7_51 56 rfl dX7_man_53 rfl ?_
          refine dild_5_1 57 dX7_man_56 rfl ?_
          refine dild_5_4 59 dX7_man_57 rfl ?_
          obtain ⟨hi, h⟩ := ift h
          refine diast 60 rfl rfl rfl hi rfl dX7_man_59 rfl ?_
          refine dt_iconst 61 dX7_man_60 rfl ?_
          exact dr_z hF rfl isB_1 dX7_man_61 h
        · replace h := ifn c h
          refine dt_iconst 37 dX7_man_36 rfl ?_
          exact dr_z hF rfl isB_0 dX7_man_37 h
/-- StampTalesModel.many -/
theorem A_X7_many_38 {G : Cx} {b : Ab} {μ : Mi} {r : Int} {k5 : (Int → Int → Int → Int → Mi → Option Int)} (hF : Fi yd_X7_many G b (some (iv r)) (Em μ)) (hk5 : ∀ (x1 : Int) (x2 : Int) (x3 : Int) (x4 : Int), k5 x1 x2 x3 x4 μ = some r → At yd_X7_many G b 5 [some (rf G 7 false), some (iv x1), some (iv x2), some (iv x3), some (iv x4)] [] (Em μ)) (x1 : Int) (x2 : Int) (x4 : Int) (s0 : Int) (s1 : Int) (h : B_X7_many_38 k5 x1 x2 x4 s0 s1 μ = some r) : At yd_X7_many G b 38 [some (rf G 7 false), some (iv x1), some (iv x2), none, some (iv x4)] [iv s0, iv s1] (Em μ) := by
  unfold B_X7_many_38 at h
  refine dt_iadd 39 dX7_many_38 rfl ?_
  refine dist_5_3 40 dX7_many_39 rfl rfl rfl ?_
  refine dinc_5_4 43 dX7_many_40 rfl rfl rfl ?_
  refine st_goto 5 dX7_many_43 (by decide) ?_
  exact hk5 _ _ _ _ h
theorem A_X7_many_5 {G : Cx} {b : Ab} {μ : Mi} {r : Int} (hF : Fi yd_X7_many G b (some (iv r)) (Em μ)) : ∀ (n : Nat) (x1 : Int) (x2 : Int) (x3 : Int) (x4 : Int), B_X7_many_5 n x1 x2 x3 x4 μ = some r → At yd_X7_many G b 5 [some (rf G 7 false), some (iv x1), some (iv x2), some (iv x3), some (iv x4)] [] (Em μ) := by
  intro n
  induction n with
  | zero =>
    intro x1 x2 x3 x4 h
    exact nope h
  | succ n hk5 =>
    intro x1 x2 x3 x4 h
    replace h : F_X7_many_5 (B_X7_many_5 n) x1 x2 x3 x4 μ = some r := h
    unfold F_X7_many_5 at h
    refine dild_5_4 7 dX7_many_5 rfl ?_
    refine ald_5_0 8 rfl dX7_many_7 rfl ?_
    refine dgf_X7_54 11 rfl dX7_many_8 rfl ?_
    refine dild_5_1 12 dX7_many_11 rfl ?_
    obtain ⟨hi, h⟩ := ift h
    refine diald 13 rfl rfl rfl hi rfl rfl dX7_many_12 rfl ?_
    refine dt_icmp_ge 16 46 dX7_many_13 rfl (by decide) rfl rfl (fun c => ?_) (fun c => ?_)
    · replace h := ifp c h
      refine dild_5_3 47 dX7_many_46 rfl ?_
      exact dr_ip hF rfl dX7_many_47 h
    · replace h := ifn c h
      refine dild_5_3 17 dX7_many_16 rfl ?_
      refine ald_5_0 18 rfl dX7_many_17 rfl ?_
      refine dgf_X7_57 21 rfl dX7_many_18 rfl ?_
      refine dt_bipush 23 dX7_many_21 bq_8 rfl ?_
      refine dild_5_1 24 dX7_many_23 rfl ?_
      refine dt_imul 25 dX7_many_24 rfl ?_
      refine dild_5_4 27 dX7_many_25 rfl ?_
      refine dt_iadd 28 dX7_many_27 rfl ?_
      obtain ⟨hi, h⟩ := ift h
      refine diald 29 rfl rfl rfl hi rfl rfl dX7_many_28 rfl ?_
      refine dild_5_2 30 dX7_many_29 rfl ?_
      refine dt_icmp_ne 33 37 dX7_many_30 rfl (by decide) rfl rfl (fun c => ?_) (fun c => ?_)
      · replace h := ifp c h
        refine dt_iconst 38 dX7_many_37 rfl ?_
        exact At.weak (ls_s (ls_s (ls_s (ls_n (ls_s ls_0))))) (A_X7_many_38 hF hk5 _ _ _ _ _ h)
      · replace h := ifn c h
        refine dt_iconst 34 dX7_many_33 rfl ?_
        refine st_goto 38 dX7_many_34 (by decide) ?_
        exact At.weak (ls_s (ls_s (ls_s (ls_n (ls_s ls_0))))) (A_X7_many_38 hF hk5 _ _ _ _ _ h)
theorem S_X7_many {G : Cx} {μ : Mi} {x1 : Int} {x2 : Int} {r : Int} (h : D_X7_many x1 x2 μ = some r) : Spec yd_X7_many G [rf G 7 false, iv x1, iv x2] (Em μ) (some (iv r)) (Em μ) := by
  refine Spec.of (by decide) rfl (catL_ok rfl) (Nat.le_of_ble_eq_true rfl) rfl (fun b hF => ?_)
  unfold D_X7_many at h
  refine dt_iconst 1 dX7_many_0 rfl ?_
  refine dist_5_3 2 dX7_many_1 rfl rfl rfl ?_
  refine dt_iconst 3 dX7_many_2 rfl ?_
  refine dist_5_4 5 dX7_many_3 rfl rfl rfl ?_
  exact A_X7_many_5 hF FU _ _ _ _ h
/-- StampTalesModel.left -/
theorem S_X7_left {G : Cx} {μ : Mi} {x1 : Int} {x2 : Int} {x3 : Int} {x4 : Int} {x5 : Int} {x6 : Int} {r : Int} {mm : Mi} (h : D_X7_left x1 x2 x3 x4 x5 x6 μ = some (r, mm)) : Spec yd_X7_left G [rf G 7 false, iv x1, iv x2, iv x3, iv x4, iv x5, iv x6] (Em μ) (some (iv r)) (Em mm) := by
  refine Spec.of (by decide) rfl (catL_ok rfl) (Nat.le_of_ble_eq_true rfl) rfl (fun b hF => ?_)
  unfold D_X7_left at h
  refine ald_8_0 1 rfl dX7_left_0 rfl ?_
  refine dgf_X7_54 4 rfl dX7_left_1 rfl ?_
  refine dild_8_1 5 dX7_left_4 rfl ?_
  obtain ⟨hi, h⟩ := ift h
  refine diald 6 rfl rfl rfl hi rfl rfl dX7_left_5 rfl ?_
  refine dt_bipush 8 dX7_left_6 bq_8 rfl ?_
  refine dt_icmp_ne 11 13 dX7_left_8 rfl (by decide) rfl wk_8 (fun c => ?_) (fun c => ?_)
  · replace h := ifp c h
    refine dt_bipush 15 dX7_left_13 bq_8 rfl ?_
    refine dild_8_1 16 dX7_left_15 rfl ?_
    refine dt_imul 17 dX7_left_16 rfl ?_
    refine ald_8_0 18 rfl dX7_left_17 rfl ?_
    refine dgf_X7_54 21 rfl dX7_left_18 rfl ?_
    refine dild_8_1 22 dX7_left_21 rfl ?_
    obtain ⟨hi, h⟩ := ift h
    refine diald 23 rfl rfl rfl hi rfl rfl dX7_left_22 rfl ?_
    refine dt_iadd 24 dX7_left_23 rfl ?_
    refine dist_8_7 26 dX7_left_24 rfl rfl rfl ?_
    refine ald_8_0 27 rfl dX7_left_26 rfl ?_
    refine dgf_X7_57 30 rfl dX7_left_27 rfl ?_
    refine dild_8_7 32 dX7_left_30 rfl ?_
    refine dild_8_2 33 dX7_left_32 rfl ?_
    obtain ⟨hi, h⟩ := ift h
    refine diast 34 rfl rfl rfl hi rfl dX7_left_33 rfl ?_
    refine ald_8_0 35 rfl dX7_left_34 rfl ?_
    refine dgf_X7_60 38 rfl dX7_left_35 rfl ?_
    refine dild_8_7 40 dX7_left_38 rfl ?_
    refine dild_8_3 41 dX7_left_40 rfl ?_
    obtain ⟨hi, h⟩ := ift h
    refine diast 42 rfl rfl rfl hi rfl dX7_left_41 rfl ?_
    refine ald_8_0 43 rfl dX7_left_42 rfl ?_
    refine dgf_X7_63 46 rfl dX7_left_43 rfl ?_
    refine dild_8_7 48 dX7_left_46 rfl ?_
    refine dild_8_4 50 dX7_left_48 rfl ?_
    obtain ⟨hi, h⟩ := ift h
    refine diast 51 rfl rfl rfl hi rfl dX7_left_50 rfl ?_
    refine ald_8_0 52 rfl dX7_left_51 rfl ?_
    refine dgf_X7_66 55 rfl dX7_left_52 rfl ?_
    refine dild_8_7 57 dX7_left_55 rfl ?_
    refine dild_8_5 59 dX7_left_57 rfl ?_
    obtain ⟨hi, h⟩ := ift h
    refine diast 60 rfl rfl rfl hi rfl dX7_left_59 rfl ?_
    refine ald_8_0 61 rfl dX7_left_60 rfl ?_
    refine dgf_X7_69 64 rfl dX7_left_61 rfl ?_
    refine dild_8_7 66 dX7_left_64 rfl ?_
    refine dild_8_6 68 dX7_left_66 rfl ?_
    obtain ⟨hi, h⟩ := ift h
    refine diast 69 rfl rfl rfl hi rfl dX7_left_68 rfl ?_
    refine ald_8_0 70 rfl dX7_left_69 rfl ?_
    refine dgf_X7_72 73 rfl dX7_left_70 rfl ?_
    refine dild_8_7 75 dX7_left_73 rfl ?_
    refine dt_iconst 76 dX7_left_75 rfl ?_
    obtain ⟨hi, h⟩ := ift h
    refine dzast 77 rfl rfl rfl hi rfl isB_0 dX7_left_76 rfl ?_
    refine ald_8_0 78 rfl dX7_left_77 rfl ?_
    refine dgf_X7_54 81 rfl dX7_left_78 rfl ?_
    refine dild_8_1 82 dX7_left_81 rfl ?_
    refine st_dup2 83 dX7_left_82 rfl rfl rfl ?_
    obtain ⟨hi, h⟩ := ift h
    refine diald 84 rfl rfl rfl hi rfl ((rd_o (by decide)).trans ((rd_o (by decide)).trans ((rd_o (by decide)).trans ((rd_o (by decide)).trans ((rd_o (by decide)).trans (rd_o (by decide))))))) dX7_left_83 rfl ?_
    refine dt_iconst 85 dX7_left_84 rfl ?_
    refine dt_iadd 86 dX7_left_85 rfl ?_
    obtain ⟨hi, h⟩ := ift h
    refine diast 87 rfl rfl rfl hi rfl dX7_left_86 rfl ?_
    refine ald_8_0 88 rfl dX7_left_87 rfl ?_
    refine dgf_X7_54 91 rfl dX7_left_88 rfl ?_
    refine dild_8_1 92 dX7_left_91 rfl ?_
    obtain ⟨hi, h⟩ := ift h
    refine diald 93 rfl rfl rfl hi rfl (rd_s) dX7_left_92 rfl ?_
    refine dt_iconst 94 dX7_left_93 rfl ?_
    refine dt_isub 95 dX7_left_94 rfl ?_
    exact dr_i hF rfl dX7_left_95 h
  · replace h := ifn c h
    refine dt_iconst 12 dX7_left_11 rfl ?_
    exact dr_i hF rfl dX7_left_12 h
/-- StampTalesModel.stamp -/
theorem A_X7_stamp_73 {G : Cx} {b : Ab} {r : Int} {mm : Mi} (hF : Fi yd_X7_stamp G b (some (iv r)) (Em mm)) (s0 : Int) (s1 : Int) (s2 : Int) (s3 : Int) (s4 : Int) (s5 : Int) (μ : Mi) (h : B_X7_stamp_73 s0 s1 s2 s3 s4 s5 μ = some (r, mm)) : At yd_X7_stamp G b 73 [none, none, none, none, none, none] [iv s0, iv s1, iv s2, iv s3, iv s4, iv s5, rf G 7 false] (Em μ) := by
  unfold B_X7_stamp_73 at h
  obtain ⟨r1, m1, h1, h⟩ := bd_some h
  refine cvi_6 76 cw_X7_266 (S_X7_left h1) rfl ⟨by decide, by decide⟩ rfl rfl rfl rfl rfl (Nat.le_of_ble_eq_true rfl) dX7_stamp_73 rfl ?_
  exact dr_i hF rfl dX7_stamp_76 h
theorem S_X7_stamp {G : Cx} {μ : Mi} {x1 : Int} {x2 : Int} {x3 : Int} {x4 : Int} {x5 : Int} {r : Int} {mm : Mi} (h : D_X7_stamp x1 x2 x3 x4 x5 μ = some (r, mm)) : Spec yd_X7_stamp G [rf G 7 false, iv x1, iv x2, iv x3, iv x4, iv x5] (Em μ) (some (iv r)) (Em mm) := by
  refine Spec.of (by decide) rfl (catL_ok rfl) (Nat.le_of_ble_eq_true rfl) rfl (fun b hF => ?_)
  unfold D_X7_stamp at h
  refine ald_6_0 1 rfl dX7_stamp_0 rfl ?_
  refine dild_6_1 2 dX7_stamp_1 rfl ?_
  refine cvi_1 5 cw_X7_256 (S_X7_isMan x1) rfl ⟨by decide, by decide⟩ rfl rfl rfl rfl rfl (Nat.le_of_ble_eq_true rfl) dX7_stamp_2 rfl ?_
  refine dt_if_eq 8 54 dX7_stamp_5 rfl (by decide) rfl (fun c => ?_) (fun c => ?_)
  · replace h := ifp c h
    refine dt_iconst 55 dX7_stamp_54 rfl ?_
    exact dr_i hF rfl dX7_stamp_55 h
  · replace h := ifn c h
    refine dild_6_2 9 dX7_stamp_8 rfl ?_
    refine dt_iconst 10 dX7_stamp_9 rfl ?_
    refine ald_6_0 11 rfl dX7_stamp_10 rfl ?_
    refine dgf_X7_244 14 rfl dX7_stamp_11 rfl rfl ?_
    refine dt_iconst 15 dX7_stamp_14 rfl ?_
    refine dt_isub 16 dX7_stamp_15 rfl ?_
    refine csi_3 19 cw_X7_117 (S_X7_in x2 0 ((rd μ 7 false 15) - 1)) rfl ⟨by decide, by decide⟩ (Nat.le_of_ble_eq_true rfl) dX7_stamp_16 rfl ?_
    refine dt_if_eq 22 54 dX7_stamp_19 rfl (by decide) rfl (fun c => ?_) (fun c => ?_)
    · replace h := ifp c h
      refine dt_iconst 55 dX7_stamp_54 rfl ?_
      exact dr_i hF rfl dX7_stamp_55 h
    · replace h := ifn c h
      refine dild_6_4 24 dX7_stamp_22 rfl ?_
      refine dt_iconst 25 dX7_stamp_24 rfl ?_
      refine dt_iconst 26 dX7_stamp_25 rfl ?_
      refine csi_3 29 cw_X7_117 (S_X7_in x4 (-1) 5) rfl ⟨by decide, by decide⟩ (Nat.le_of_ble_eq_true rfl) dX7_stamp_26 rfl ?_
      refine dt_if_eq 32 54 dX7_stamp_29 rfl (by decide) rfl (fun c => ?_) (fun c => ?_)
      · replace h := ifp c h
        refine dt_iconst 55 dX7_stamp_54 rfl ?_
        exact dr_i hF rfl dX7_stamp_55 h
      · replace h := ifn c h
        refine dild_6_5 34 dX7_stamp_32 rfl ?_
        refine dild_6_4 36 dX7_stamp_34 rfl ?_
        refine dt_iconst 37 dX7_stamp_36 rfl ?_
        refine csi_3 40 cw_X7_117 (S_X7_in x5 x4 5) rfl ⟨by decide, by decide⟩ (Nat.le_of_ble_eq_true rfl) dX7_stamp_37 rfl ?_
        refine dt_if_eq 43 54 dX7_stamp_40 rfl (by decide) rfl (fun c => ?_) (fun c => ?_)
        · replace h := ifp c h
          refine dt_iconst 55 dX7_stamp_54 rfl ?_
          exact dr_i hF rfl dX7_stamp_55 h
        · replace h := ifn c h
          refine ald_6_0 44 rfl dX7_stamp_43 rfl ?_
          refine dild_6_1 45 dX7_stamp_44 rfl ?_
          refine dt_iconst 46 dX7_stamp_45 rfl ?_
          obtain ⟨r5, h5, h⟩ := bp_some h
          refine cvi_2 49 cw_X7_262 (S_X7_many h5) rfl ⟨by decide, by decide⟩ rfl rfl rfl rfl rfl (Nat.le_of_ble_eq_true rfl) dX7_stamp_46 rfl ?_
          refine dt_bipush 51 dX7_stamp_49 bq_6 rfl ?_
          refine dt_icmp_ne 54 56 dX7_stamp_51 rfl (by decide) rfl wk_6 (fun c => ?_) (fun c => ?_)
          · replace h := ifp c h
            refine ald_6_0 57 rfl dX7_stamp_56 rfl ?_
            refine dild_6_1 58 dX7_stamp_57 rfl ?_
            refine dt_iconst 59 dX7_stamp_58 rfl ?_
            refine dild_6_2 60 dX7_stamp_59 rfl ?_
            refine dild_6_4 62 dX7_stamp_60 rfl ?_
            refine dild_6_5 64 dX7_stamp_62 rfl ?_
            refine dild_6_3 65 dX7_stamp_64 rfl ?_
            refine dt_if_eq 68 72 dX7_stamp_65 rfl (by decide) rfl (fun c => ?_) (fun c => ?_)
            · replace h := ifp c h
              refine dt_iconst 73 dX7_stamp_72 rfl ?_
              exact At.weak (ls_n (ls_n (ls_n (ls_n (ls_n (ls_n ls_0)))))) (A_X7_stamp_73 hF _ _ _ _ _ _ _ h)
            · replace h := ifn c h
              refine dt_iconst 69 dX7_stamp_68 rfl ?_
              refine st_goto 73 dX7_stamp_69 (by decide) ?_
              exact At.weak (ls_n (ls_n (ls_n (ls_n (ls_n (ls_n ls_0)))))) (A_X7_stamp_73 hF _ _ _ _ _ _ _ h)
          · replace h := ifn c h
            refine dt_iconst 55 dX7_stamp_54 rfl ?_
            exact dr_i hF rfl dX7_stamp_55 h
/-- StampTalesModel.paper -/
theorem S_X7_paper {G : Cx} {μ : Mi} {x1 : Int} {x2 : Int} {x3 : Int} {r : Int} {mm : Mi} (h : D_X7_paper x1 x2 x3 μ = some (r, mm)) : Spec yd_X7_paper G [rf G 7 false, iv x1, iv x2, iv x3] (Em μ) (some (iv r)) (Em mm) := by
  refine Spec.of (by decide) rfl (catL_ok rfl) (Nat.le_of_ble_eq_true rfl) rfl (fun b hF => ?_)
  unfold D_X7_paper at h
  refine ald_4_0 1 rfl dX7_paper_0 rfl ?_
  refine dild_4_1 2 dX7_paper_1 rfl ?_
  refine cvi_1 5 cw_X7_256 (S_X7_isMan x1) rfl ⟨by decide, by decide⟩ rfl rfl rfl rfl rfl (Nat.le_of_ble_eq_true rfl) dX7_paper_2 rfl ?_
  refine dt_if_eq 8 39 dX7_paper_5 rfl (by decide) rfl (fun c => ?_) (fun c => ?_)
  · replace h := ifp c h
    refine dt_iconst 40 dX7_paper_39 rfl ?_
    exact dr_i hF rfl dX7_paper_40 h
  · replace h := ifn c h
    refine ald_4_0 9 rfl dX7_paper_8 rfl ?_
    refine dild_4_2 10 dX7_paper_9 rfl ?_
    obtain ⟨r2, h2, h⟩ := bp_some h
    refine cvi_1 13 cw_X7_259 (S_X7_isTown h2) rfl ⟨by decide, by decide⟩ rfl rfl rfl rfl rfl (Nat.le_of_ble_eq_true rfl) dX7_paper_10 rfl ?_
    refine dt_if_eq 16 39 dX7_paper_13 rfl (by decide) rfl (fun c => ?_) (fun c => ?_)
    · replace h := ifp c h
      refine dt_iconst 40 dX7_paper_39 rfl ?_
      exact dr_i hF rfl dX7_paper_40 h
    · replace h := ifn c h
      refine dild_4_3 17 dX7_paper_16 rfl ?_
      refine dt_iconst 18 dX7_paper_17 rfl ?_
      refine dt_bipush 20 dX7_paper_18 bq_96 rfl ?_
      refine csi_3 23 cw_X7_117 (S_X7_in x3 0 96) rfl ⟨by decide, by decide⟩ (Nat.le_of_ble_eq_true rfl) dX7_paper_20 rfl ?_
      refine dt_if_eq 26 39 dX7_paper_23 rfl (by decide) rfl (fun c => ?_) (fun c => ?_)
      · replace h := ifp c h
        refine dt_iconst 40 dX7_paper_39 rfl ?_
        exact dr_i hF rfl dX7_paper_40 h
      · replace h := ifn c h
        refine ald_4_0 27 rfl dX7_paper_26 rfl ?_
        refine dild_4_1 28 dX7_paper_27 rfl ?_
        refine dt_iconst 29 dX7_paper_28 rfl ?_
        refine dild_4_2 30 dX7_paper_29 rfl ?_
        refine dild_4_3 31 dX7_paper_30 rfl ?_
        refine dild_4_3 32 dX7_paper_31 rfl ?_
        refine dt_iconst 33 dX7_paper_32 rfl ?_
        obtain ⟨r4, m4, h4, h⟩ := bd_some h
        refine cvi_6 36 cw_X7_266 (S_X7_left h4) rfl ⟨by decide, by decide⟩ rfl rfl rfl rfl rfl (Nat.le_of_ble_eq_true rfl) dX7_paper_33 rfl ?_
        refine st_goto 40 dX7_paper_36 (by decide) ?_
        exact dr_i hF rfl dX7_paper_40 h
/-- StampTalesModel.look -/
theorem S_X7_look {G : Cx} {μ : Mi} {x1 : Int} {x2 : Int} {x3 : Int} {x4 : Int} {r : Int} {mm : Mi} (h : D_X7_look x1 x2 x3 x4 μ = some (r, mm)) : Spec yd_X7_look G [rf G 7 false, iv x1, iv x2, iv x3, iv x4] (Em μ) (some (iv r)) (Em mm) := by
  refine Spec.of (by decide) rfl (catL_ok rfl) (Nat.le_of_ble_eq_true rfl) rfl (fun b hF => ?_)
  unfold D_X7_look at h
  refine ald_5_0 1 rfl dX7_look_0 rfl ?_
  refine dild_5_1 2 dX7_look_1 rfl ?_
  refine cvi_1 5 cw_X7_256 (S_X7_isMan x1) rfl ⟨by decide, by decide⟩ rfl rfl rfl rfl rfl (Nat.le_of_ble_eq_true rfl) dX7_look_2 rfl ?_
  refine dt_if_eq 8 61 dX7_look_5 rfl (by decide) rfl (fun c => ?_) (fun c => ?_)
  · replace h := ifp c h
    refine dt_iconst 62 dX7_look_61 rfl ?_
    exact dr_i hF rfl dX7_look_62 h
  · replace h := ifn c h
    refine ald_5_0 9 rfl dX7_look_8 rfl ?_
    refine dild_5_2 10 dX7_look_9 rfl ?_
    obtain ⟨r2, h2, h⟩ := bp_some h
    refine cvi_1 13 cw_X7_259 (S_X7_isTown h2) rfl ⟨by decide, by decide⟩ rfl rfl rfl rfl rfl (Nat.le_of_ble_eq_true rfl) dX7_look_10 rfl ?_
    refine dt_if_eq 16 61 dX7_look_13 rfl (by decide) rfl (fun c => ?_) (fun c => ?_)
    · replace h := ifp c h
      refine dt_iconst 62 dX7_look_61 rfl ?_
      exact dr_i hF rfl dX7_look_62 h
    · replace h := ifn c h
      refine dild_5_3 17 dX7_look_16 rfl ?_
      refine dt_iconst 18 dX7_look_17 rfl ?_
      refine dt_bipush 20 dX7_look_18 bq_96 rfl ?_
      refine csi_3 23 cw_X7_117 (S_X7_in x3 0 96) rfl ⟨by decide, by decide⟩ (Nat.le_of_ble_eq_true rfl) dX7_look_20 rfl ?_
      refine dt_if_eq 26 61 dX7_look_23 rfl (by decide) rfl (fun c => ?_) (fun c => ?_)
      · replace h := ifp c h
        refine dt_iconst 62 dX7_look_61 rfl ?_
        exact dr_i hF rfl dX7_look_62 h
      · replace h := ifn c h
        refine dild_5_4 28 dX7_look_26 rfl ?_
        refine dild_5_3 29 dX7_look_28 rfl ?_
        refine dt_bipush 31 dX7_look_29 bq_96 rfl ?_
        refine csi_3 34 cw_X7_117 (S_X7_in x4 x3 96) rfl ⟨by decide, by decide⟩ (Nat.le_of_ble_eq_true rfl) dX7_look_31 rfl ?_
        refine dt_if_eq 37 61 dX7_look_34 rfl (by decide) rfl (fun c => ?_) (fun c => ?_)
        · replace h := ifp c h
          refine dt_iconst 62 dX7_look_61 rfl ?_
          exact dr_i hF rfl dX7_look_62 h
        · replace h := ifn c h
          refine ald_5_0 38 rfl dX7_look_37 rfl ?_
          refine dild_5_1 39 dX7_look_38 rfl ?_
          refine dt_iconst 40 dX7_look_39 rfl ?_
          obtain ⟨r5, h5, h⟩ := bp_some h
          refine cvi_2 43 cw_X7_262 (S_X7_many h5) rfl ⟨by decide, by decide⟩ rfl rfl rfl rfl rfl (Nat.le_of_ble_eq_true rfl) dX7_look_40 rfl ?_
          refine dt_iconst 44 dX7_look_43 rfl ?_
          refine dt_icmp_ge 47 61 dX7_look_44 rfl (by decide) rfl wk_2 (fun c => ?_) (fun c => ?_)
          · replace h := ifp c h
            refine dt_iconst 62 dX7_look_61 rfl ?_
            exact dr_i hF rfl dX7_look_62 h
          · replace h := ifn c h
            refine ald_5_0 48 rfl dX7_look_47 rfl ?_
            refine dild_5_1 49 dX7_look_48 rfl ?_
            refine dt_iconst 50 dX7_look_49 rfl ?_
            refine dild_5_2 51 dX7_look_50 rfl ?_
            refine dild_5_3 52 dX7_look_51 rfl ?_
            refine dild_5_4 54 dX7_look_52 rfl ?_
            refine dt_iconst 55 dX7_look_54 rfl ?_
            obtain ⟨r6, m6, h6, h⟩ := bd_some h
            refine cvi_6 58 cw_X7_266 (S_X7_left h6) rfl ⟨by decide, by decide⟩ rfl rfl rfl rfl rfl (Nat.le_of_ble_eq_true rfl) dX7_look_55 rfl ?_
            refine st_goto 62 dX7_look_58 (by decide) ?_
            exact dr_i hF rfl dX7_look_62 h
/-- StampTalesModel.doubt -/
theorem S_X7_doubt {G : Cx} {μ : Mi} {x1 : Int} {x2 : Int} {x3 : Int} {r : Int} {mm : Mi} (h : D_X7_doubt x1 x2 x3 μ = some (r, mm)) : Spec yd_X7_doubt G [rf G 7 false, iv x1, iv x2, iv x3] (Em μ) (some (iv r)) (Em mm) := by
  refine Spec.of (by decide) rfl (catL_ok rfl) (Nat.le_of_ble_eq_true rfl) rfl (fun b hF => ?_)
  unfold D_X7_doubt at h
  refine ald_4_0 1 rfl dX7_doubt_0 rfl ?_
  refine dild_4_1 2 dX7_doubt_1 rfl ?_
  refine dild_4_2 3 dX7_doubt_2 rfl ?_
  obtain ⟨r1, h1, h⟩ := bp_some h
  refine cvi_2 6 cw_X7_270 (S_X7_isTrace h1) rfl ⟨by decide, by decide⟩ rfl rfl rfl rfl rfl (Nat.le_of_ble_eq_true rfl) dX7_doubt_3 rfl ?_
  refine dt_if_eq 9 24 dX7_doubt_6 rfl (by decide) rfl (fun c => ?_) (fun c => ?_)
  · replace h := ifp c h
    refine dt_iconst 25 dX7_doubt_24 rfl ?_
    exact dr_z hF rfl isB_0 dX7_doubt_25 h
  · replace h := ifn c h
    refine ald_4_0 10 rfl dX7_doubt_9 rfl ?_
    refine dgf_X7_72 13 rfl dX7_doubt_10 rfl ?_
    refine dt_bipush 15 dX7_doubt_13 bq_8 rfl ?_
    refine dild_4_1 16 dX7_doubt_15 rfl ?_
    refine dt_imul 17 dX7_doubt_16 rfl ?_
    refine dild_4_2 18 dX7_doubt_17 rfl ?_
    refine dt_iadd 19 dX7_doubt_18 rfl ?_
    obtain ⟨hi, h⟩ := ift h
    refine dzald 20 rfl rfl rfl hi rfl rfl dX7_doubt_19 rfl ?_
    refine dild_4_3 21 dX7_doubt_20 rfl ?_
    refine dt_icmp_ne 24 26 dX7_doubt_21 rfl (by decide) rfl rfl (fun c => ?_) (fun c => ?_)
    · replace h := ifp c h
      refine ald_4_0 27 rfl dX7_doubt_26 rfl ?_
      refine dgf_X7_72 30 rfl dX7_doubt_27 rfl ?_
      refine dt_bipush 32 dX7_doubt_30 bq_8 rfl ?_
      refine dild_4_1 33 dX7_doubt_32 rfl ?_
      refine dt_imul 34 dX7_doubt_33 rfl ?_
      refine dild_4_2 35 dX7_doubt_34 rfl ?_
      refine dt_iadd 36 dX7_doubt_35 rfl ?_
      refine dild_4_3 37 dX7_doubt_36 rfl ?_
      obtain ⟨hi, h⟩ := ift h
      obtain ⟨hb, h⟩ := ift h
      refine dzast 38 rfl rfl rfl hi rfl hb dX7_doubt_37 rfl ?_
      refine dt_iconst 39 dX7_doubt_38 rfl ?_
      exact dr_z hF rfl isB_1 dX7_doubt_39 h
    · replace h := ifn c h
      refine dt_iconst 25 dX7_doubt_24 rfl ?_
      exact dr_z hF rfl isB_0 dX7_doubt_25 h
/-- StampTalesModel.undo -/
theorem S_X7_undo {G : Cx} {μ : Mi} {x1 : Int} {r : Int} {mm : Mi} (h : D_X7_undo x1 μ = some (r, mm)) : Spec yd_X7_undo G [rf G 7 false, iv x1] (Em μ) (some (iv r)) (Em mm) := by
  refine Spec.of (by decide) rfl (catL_ok rfl) (Nat.le_of_ble_eq_true rfl) rfl (fun b hF => ?_)
  unfold D_X7_undo at h
  refine ald_2_0 1 rfl dX7_undo_0 rfl ?_
  refine dild_2_1 2 dX7_undo_1 rfl ?_
  refine cvi_1 5 cw_X7_256 (S_X7_isMan x1) rfl ⟨by decide, by decide⟩ rfl rfl rfl rfl rfl (Nat.le_of_ble_eq_true rfl) dX7_undo_2 rfl ?_
  refine dt_if_eq 8 17 dX7_undo_5 rfl (by decide) rfl (fun c => ?_) (fun c => ?_)
  · replace h := ifp c h
    refine dt_iconst 18 dX7_undo_17 rfl ?_
    exact dr_i hF rfl dX7_undo_18 h
  · replace h := ifn c h
    refine ald_2_0 9 rfl dX7_undo_8 rfl ?_
    refine dgf_X7_54 12 rfl dX7_undo_9 rfl ?_
    refine dild_2_1 13 dX7_undo_12 rfl ?_
    obtain ⟨hi, h⟩ := ift h
    refine diald 14 rfl rfl rfl hi rfl rfl dX7_undo_13 rfl ?_
    refine dt_if_ne 17 19 dX7_undo_14 rfl (by decide) rfl (fun c => ?_) (fun c => ?_)
    · replace h := ifp c h
      refine ald_2_0 20 rfl dX7_undo_19 rfl ?_
      refine dgf_X7_54 23 rfl dX7_undo_20 rfl ?_
      refine dild_2_1 24 dX7_undo_23 rfl ?_
      refine st_dup2 25 dX7_undo_24 rfl rfl rfl ?_
      obtain ⟨hi, h⟩ := ift h
      refine diald 26 rfl rfl rfl hi rfl rfl dX7_undo_25 rfl ?_
      refine dt_iconst 27 dX7_undo_26 rfl ?_
      refine dt_isub 28 dX7_undo_27 rfl ?_
      obtain ⟨hi, h⟩ := ift h
      refine diast 29 rfl rfl rfl hi rfl dX7_undo_28 rfl ?_
      refine ald_2_0 30 rfl dX7_undo_29 rfl ?_
      refine dgf_X7_54 33 rfl dX7_undo_30 rfl ?_
      refine dild_2_1 34 dX7_undo_33 rfl ?_
      obtain ⟨hi, h⟩ := ift h
      refine diald 35 rfl rfl rfl hi rfl (rd_s) dX7_undo_34 rfl ?_
      exact dr_i hF rfl dX7_undo_35 h
    · replace h := ifn c h
      refine dt_iconst 18 dX7_undo_17 rfl ?_
      exact dr_i hF rfl dX7_undo_18 h
/-- StampTalesModel.link -/
theorem S_X7_link {G : Cx} {μ : Mi} {x1 : Int} {x2 : Int} {r : Int} (h : D_X7_link x1 x2 μ = some r) : Spec yd_X7_link G [rf G 7 false, iv x1, iv x2] (Em μ) (some (iv r)) (Em μ) := by
  refine Spec.of (by decide) rfl (catL_ok rfl) (Nat.le_of_ble_eq_true rfl) rfl (fun b hF => ?_)
  unfold D_X7_link at h
  refine ald_3_0 1 rfl dX7_link_0 rfl ?_
  refine dild_3_1 2 dX7_link_1 rfl ?_
  obtain ⟨r1, h1, h⟩ := bp_some h
  refine cvi_1 5 cw_X7_273 (S_X7_isLink h1) rfl ⟨by decide, by decide⟩ rfl rfl rfl rfl rfl (Nat.le_of_ble_eq_true rfl) dX7_link_2 rfl ?_
  refine dt_if_eq 8 26 dX7_link_5 rfl (by decide) rfl (fun c => ?_) (fun c => ?_)
  · replace h := ifp c h
    refine dt_iconst 27 dX7_link_26 rfl ?_
    exact dr_ip hF rfl dX7_link_27 h
  · replace h := ifn c h
    refine dild_3_2 9 dX7_link_8 rfl ?_
    refine dt_iconst 10 dX7_link_9 rfl ?_
    refine dt_iconst 11 dX7_link_10 rfl ?_
    refine csi_3 14 cw_X7_117 (S_X7_in x2 0 5) rfl ⟨by decide, by decide⟩ (Nat.le_of_ble_eq_true rfl) dX7_link_11 rfl ?_
    refine dt_if_eq 17 26 dX7_link_14 rfl (by decide) rfl (fun c => ?_) (fun c => ?_)
    · replace h := ifp c h
      refine dt_iconst 27 dX7_link_26 rfl ?_
      exact dr_ip hF rfl dX7_link_27 h
    · replace h := ifn c h
      refine ald_3_0 18 rfl dX7_link_17 rfl ?_
      refine dild_3_1 19 dX7_link_18 rfl ?_
      refine dild_3_2 20 dX7_link_19 rfl ?_
      obtain ⟨r3, h3, h⟩ := bp_some h
      refine cvi_2 23 cw_X7_276 (S_X7_ofLink h3) rfl ⟨by decide, by decide⟩ rfl rfl rfl rfl rfl (Nat.le_of_ble_eq_true rfl) dX7_link_20 rfl ?_
      refine st_goto 27 dX7_link_23 (by decide) ?_
      exact dr_ip hF rfl dX7_link_27 h
/-- StampTalesModel.town -/
theorem S_X7_town {G : Cx} {μ : Mi} {x1 : Int} {x2 : Int} {r : Int} (h : D_X7_town x1 x2 μ = some r) : Spec yd_X7_town G [rf G 7 false, iv x1, iv x2] (Em μ) (some (iv r)) (Em μ) := by
  refine Spec.of (by decide) rfl (catL_ok rfl) (Nat.le_of_ble_eq_true rfl) rfl (fun b hF => ?_)
  unfold D_X7_town at h
  refine ald_3_0 1 rfl dX7_town_0 rfl ?_
  refine dild_3_1 2 dX7_town_1 rfl ?_
  obtain ⟨r1, h1, h⟩ := bp_some h
  refine cvi_1 5 cw_X7_259 (S_X7_isTown h1) rfl ⟨by decide, by decide⟩ rfl rfl rfl rfl rfl (Nat.le_of_ble_eq_true rfl) dX7_town_2 rfl ?_
  refine dt_if_eq 8 17 dX7_town_5 rfl (by decide) rfl (fun c => ?_) (fun c => ?_)
  · replace h := ifp c h
    refine dt_bipush 19 dX7_town_17 bq_m99 rfl ?_
    refine st_goto 41 dX7_town_19 (by decide) ?_
    exact dr_ip hF rfl dX7_town_41 h
  · replace h := ifn c h
    refine dild_3_2 9 dX7_town_8 rfl ?_
    refine dt_iconst 10 dX7_town_9 rfl ?_
    refine dt_iconst 11 dX7_town_10 rfl ?_
    refine csi_3 14 cw_X7_117 (S_X7_in x2 0 1) rfl ⟨by decide, by decide⟩ (Nat.le_of_ble_eq_true rfl) dX7_town_11 rfl ?_
    refine dt_if_ne 17 22 dX7_town_14 rfl (by decide) rfl (fun c => ?_) (fun c => ?_)
    · replace h := ifp c h
      refine dild_3_2 23 dX7_town_22 rfl ?_
      refine dt_if_ne 26 35 dX7_town_23 rfl (by decide) rfl (fun c => ?_) (fun c => ?_)
      · replace h := ifp c h
        refine ald_3_0 36 rfl dX7_town_35 rfl ?_
        refine dgf_X7_39 39 rfl dX7_town_36 rfl ?_
        refine dild_3_1 40 dX7_town_39 rfl ?_
        obtain ⟨hi, h⟩ := ift h
        refine diald 41 rfl rfl rfl hi rfl rfl dX7_town_40 rfl ?_
        exact dr_ip hF rfl dX7_town_41 h
      · replace h := ifn c h
        refine ald_3_0 27 rfl dX7_town_26 rfl ?_
        refine dgf_X7_36 30 rfl dX7_town_27 rfl ?_
        refine dild_3_1 31 dX7_town_30 rfl ?_
        obtain ⟨hi, h⟩ := ift h
        refine diald 32 rfl rfl rfl hi rfl rfl dX7_town_31 rfl ?_
        refine st_goto 41 dX7_town_32 (by decide) ?_
        exact dr_ip hF rfl dX7_town_41 h
    · replace h := ifn c h
      refine dt_bipush 19 dX7_town_17 bq_m99 rfl ?_
      refine st_goto 41 dX7_town_19 (by decide) ?_
      exact dr_ip hF rfl dX7_town_41 h
/-- StampTalesModel.trace -/
theorem S_X7_trace {G : Cx} {μ : Mi} {x1 : Int} {x2 : Int} {x3 : Int} {r : Int} (h : D_X7_trace x1 x2 x3 μ = some r) : Spec yd_X7_trace G [rf G 7 false, iv x1, iv x2, iv x3] (Em μ) (some (iv r)) (Em μ) := by
  refine Spec.of (by decide) rfl (catL_ok rfl) (Nat.le_of_ble_eq_true rfl) rfl (fun b hF => ?_)
  unfold D_X7_trace at h
  refine ald_5_0 1 rfl dX7_trace_0 rfl ?_
  refine dild_5_1 2 dX7_trace_1 rfl ?_
  refine dild_5_2 3 dX7_trace_2 rfl ?_
  obtain ⟨r1, h1, h⟩ := bp_some h
  refine cvi_2 6 cw_X7_270 (S_X7_isTrace h1) rfl ⟨by decide, by decide⟩ rfl rfl rfl rfl rfl (Nat.le_of_ble_eq_true rfl) dX7_trace_3 rfl ?_
  refine dt_if_ne 9 12 dX7_trace_6 rfl (by decide) rfl (fun c => ?_) (fun c => ?_)
  · replace h := ifp c h
    refine dt_bipush 14 dX7_trace_12 bq_8 rfl ?_
    refine dild_5_1 15 dX7_trace_14 rfl ?_
    refine dt_imul 16 dX7_trace_15 rfl ?_
    refine dild_5_2 17 dX7_trace_16 rfl ?_
    refine dt_iadd 18 dX7_trace_17 rfl ?_
    refine dist_5_4 20 dX7_trace_18 rfl rfl rfl ?_
    refine dild_5_3 21 dX7_trace_20 rfl ?_
    by_cases c0 : (w32 x3) = 0
    · replace h := ifp c0 h
      refine dt_tableIn 60 dX7_trace_21 c0 wk_0 rfl (by decide) (by decide) rfl (by decide) ?_
      refine ald_5_0 61 rfl dX7_trace_60 rfl ?_
      refine dgf_X7_57 64 rfl dX7_trace_61 rfl ?_
      refine dild_5_4 66 dX7_trace_64 rfl ?_
      obtain ⟨hi, h⟩ := ift h
      refine diald 67 rfl rfl rfl hi rfl rfl dX7_trace_66 rfl ?_
      exact dr_ip hF rfl dX7_trace_67 h
    replace h := ifn c0 h
    by_cases c1 : (w32 x3) = 1
    · replace h := ifp c1 h
      refine dt_tableIn 68 dX7_trace_21 c1 wk_1 rfl (by decide) (by decide) rfl (by decide) ?_
      refine ald_5_0 69 rfl dX7_trace_68 rfl ?_
      refine dgf_X7_60 72 rfl dX7_trace_69 rfl ?_
      refine dild_5_4 74 dX7_trace_72 rfl ?_
      obtain ⟨hi, h⟩ := ift h
      refine diald 75 rfl rfl rfl hi rfl rfl dX7_trace_74 rfl ?_
      exact dr_ip hF rfl dX7_trace_75 h
    replace h := ifn c1 h
    by_cases c2 : (w32 x3) = 2
    · replace h := ifp c2 h
      refine dt_tableIn 76 dX7_trace_21 c2 wk_2 rfl (by decide) (by decide) rfl (by decide) ?_
      refine ald_5_0 77 rfl dX7_trace_76 rfl ?_
      refine dgf_X7_63 80 rfl dX7_trace_77 rfl ?_
      refine dild_5_4 82 dX7_trace_80 rfl ?_
      obtain ⟨hi, h⟩ := ift h
      refine diald 83 rfl rfl rfl hi rfl rfl dX7_trace_82 rfl ?_
      exact dr_ip hF rfl dX7_trace_83 h
    replace h := ifn c2 h
    by_cases c3 : (w32 x3) = 3
    · replace h := ifp c3 h
      refine dt_tableIn 84 dX7_trace_21 c3 wk_3 rfl (by decide) (by decide) rfl (by decide) ?_
      refine ald_5_0 85 rfl dX7_trace_84 rfl ?_
      refine dgf_X7_66 88 rfl dX7_trace_85 rfl ?_
      refine dild_5_4 90 dX7_trace_88 rfl ?_
      obtain ⟨hi, h⟩ := ift h
      refine diald 91 rfl rfl rfl hi rfl rfl dX7_trace_90 rfl ?_
      exact dr_ip hF rfl dX7_trace_91 h
    replace h := ifn c3 h
    by_cases c4 : (w32 x3) = 4
    · replace h := ifp c4 h
      refine dt_tableIn 92 dX7_trace_21 c4 wk_4 rfl (by decide) (by decide) rfl (by decide) ?_
      refine ald_5_0 93 rfl dX7_trace_92 rfl ?_
      refine dgf_X7_69 96 rfl dX7_trace_93 rfl ?_
      refine dild_5_4 98 dX7_trace_96 rfl ?_
      obtain ⟨hi, h⟩ := ift h
      refine diald 99 rfl rfl rfl hi rfl rfl dX7_trace_98 rfl ?_
      exact dr_ip hF rfl dX7_trace_99 h
    replace h := ifn c4 h
    by_cases c5 : (w32 x3) = 5
    · replace h := ifp c5 h
      refine dt_tableIn 100 dX7_trace_21 c5 wk_5 rfl (by decide) (by decide) rfl (by decide) ?_
      refine ald_5_0 101 rfl dX7_trace_100 rfl ?_
      refine dgf_X7_72 104 rfl dX7_trace_101 rfl ?_
      refine dild_5_4 106 dX7_trace_104 rfl ?_
      obtain ⟨hi, h⟩ := ift h
      refine dzald 107 rfl rfl rfl hi rfl rfl dX7_trace_106 rfl ?_
      refine dt_if_eq 110 114 dX7_trace_107 rfl (by decide) rfl (fun c => ?_) (fun c => ?_)
      · replace h := ifp c h
        refine dt_iconst 115 dX7_trace_114 rfl ?_
        exact dr_ip hF rfl dX7_trace_115 h
      · replace h := ifn c h
        refine dt_iconst 111 dX7_trace_110 rfl ?_
        refine st_goto 115 dX7_trace_111 (by decide) ?_
        exact dr_ip hF rfl dX7_trace_115 h
    replace h := ifn c5 h
    refine dt_tableOut 116 dX7_trace_21 (by omega) (by decide) ?_
    refine dt_bipush 118 dX7_trace_116 bq_m99 rfl ?_
    exact dr_ip hF rfl dX7_trace_118 h
  · replace h := ifn c h
    refine dt_bipush 11 dX7_trace_9 bq_m99 rfl ?_
    exact dr_ip hF rfl dX7_trace_11 h
/-- StampTalesModel.sets -/
theorem A_X7_sets_262 {G : Cx} {b : Ab}  {mm : Mi} {k38 : (Int → Int → Int → Mi → Option Mi)} (hF : Fi yd_X7_sets G b none (Em mm)) (hk38 : ∀ (x1 : Int) (x2 : Int) (x3 : Int) (m : Mi), k38 x1 x2 x3 m = some mm → At yd_X7_sets G b 38 [some (rf G 7 false), some (iv x1), some (iv x2), some (iv x3), none] [] (Em m)) (x1 : Int) (x2 : Int) (x3 : Int) (μ : Mi) (h : B_X7_sets_262 k38 x1 x2 x3 μ = some mm) : At yd_X7_sets G b 262 [some (rf G 7 false), some (iv x1), some (iv x2), some (iv x3), none] [] (Em μ) := by
  unfold B_X7_sets_262 at h
  refine dinc_5_3 265 dX7_sets_262 rfl rfl rfl ?_
  refine st_goto 38 dX7_sets_265 (by decide) ?_
  exact hk38 _ _ _ _ h
theorem A_X7_sets_261 {G : Cx} {b : Ab}  {mm : Mi} {k38 : (Int → Int → Int → Mi → Option Mi)} (hF : Fi yd_X7_sets G b none (Em mm)) (hk38 : ∀ (x1 : Int) (x2 : Int) (x3 : Int) (m : Mi), k38 x1 x2 x3 m = some mm → At yd_X7_sets G b 38 [some (rf G 7 false), some (iv x1), some (iv x2), some (iv x3), none] [] (Em m)) (x1 : Int) (x2 : Int) (x3 : Int) (s0 : Int) (s1 : Int) (μ : Mi) (h : B_X7_sets_261 k38 x1 x2 x3 s0 s1 μ = some mm) : At yd_X7_sets G b 261 [some (rf G 7 false), some (iv x1), some (iv x2), some (iv x3), none] [iv s0, iv s1, rf G 66 false] (Em μ) := by
  unfold B_X7_sets_261 at h
  obtain ⟨hi, h⟩ := ift h
  refine diast 262 rfl rfl rfl hi rfl dX7_sets_261 rfl ?_
  exact A_X7_sets_262 hF hk38 _ _ _ _ h
theorem A_X7_sets_249 {G : Cx} {b : Ab}  {mm : Mi} {k38 : (Int → Int → Int → Mi → Option Mi)} (hF : Fi yd_X7_sets G b none (Em mm)) (hk38 : ∀ (x1 : Int) (x2 : Int) (x3 : Int) (m : Mi), k38 x1 x2 x3 m = some mm → At yd_X7_sets G b 38 [some (rf G 7 false), some (iv x1), some (iv x2), some (iv x3), none] [] (Em m)) (x1 : Int) (x2 : Int) (x3 : Int) (x4 : Int) (s0 : Int) (μ : Mi) (h : B_X7_sets_249 k38 x1 x2 x3 x4 s0 μ = some mm) : At yd_X7_sets G b 249 [some (rf G 7 false), some (iv x1), some (iv x2), some (iv x3), some (iv x4)] [iv s0, rf G 66 false] (Em μ) := by
  unfold B_X7_sets_249 at h
  refine ald_5_0 250 rfl dX7_sets_249 rfl ?_
  refine dgf_X7_60 253 rfl dX7_sets_250 rfl ?_
  refine dild_5_4 255 dX7_sets_253 rfl ?_
  obtain ⟨hi, h⟩ := ift h
  refine diald 256 rfl rfl rfl hi rfl rfl dX7_sets_255 rfl ?_
  refine st_goto 261 dX7_sets_256 (by decide) ?_
  exact At.weak (ls_s (ls_s (ls_s (ls_s (ls_n ls_0))))) (A_X7_sets_261 hF hk38 _ _ _ _ _ _ h)
theorem A_X7_sets_38 {G : Cx} {b : Ab}  {mm : Mi} (hF : Fi yd_X7_sets G b none (Em mm)) : ∀ (n : Nat) (x1 : Int) (x2 : Int) (x3 : Int) (μ : Mi), B_X7_sets_38 n x1 x2 x3 μ = some mm → At yd_X7_sets G b 38 [some (rf G 7 false), some (iv x1), some (iv x2), some (iv x3), none] [] (Em μ) := by
  intro n
  induction n with
  | zero =>
    intro x1 x2 x3 μ h
    exact nope h
  | succ n hk38 =>
    intro x1 x2 x3 μ h
    replace h : F_X7_sets_38 (B_X7_sets_38 n) x1 x2 x3 μ = some mm := h
    unfold F_X7_sets_38 at h
    refine dild_5_3 39 dX7_sets_38 rfl ?_
    refine ald_5_0 40 rfl dX7_sets_39 rfl ?_
    refine dgf_X7_54 43 rfl dX7_sets_40 rfl ?_
    refine dild_5_1 44 dX7_sets_43 rfl ?_
    obtain ⟨hi, h⟩ := ift h
    refine diald 45 rfl rfl rfl hi rfl rfl dX7_sets_44 rfl ?_
    refine dt_icmp_ge 48 268 dX7_sets_45 rfl (by decide) rfl rfl (fun c => ?_) (fun c => ?_)
    · replace h := ifp c h
      exact dr_v hF rfl dX7_sets_268 h
    · replace h := ifn c h
      refine dt_bipush 50 dX7_sets_48 bq_8 rfl ?_
      refine dild_5_1 51 dX7_sets_50 rfl ?_
      refine dt_imul 52 dX7_sets_51 rfl ?_
      refine dild_5_3 53 dX7_sets_52 rfl ?_
      refine dt_iadd 54 dX7_sets_53 rfl ?_
      refine dist_5_4 56 dX7_sets_54 rfl rfl rfl ?_
      refine ald_5_0 57 rfl dX7_sets_56 rfl ?_
      refine dgf_X7_72 60 rfl dX7_sets_57 rfl ?_
      refine dild_5_4 62 dX7_sets_60 rfl ?_
      obtain ⟨hi, h⟩ := ift h
      refine dzald 63 rfl rfl rfl hi rfl rfl dX7_sets_62 rfl ?_
      refine dt_if_ne 66 262 dX7_sets_63 rfl (by decide) rfl (fun c => ?_) (fun c => ?_)
      · replace h := ifp c h
        exact At.weak (ls_s (ls_s (ls_s (ls_s (ls_n ls_0))))) (A_X7_sets_262 hF hk38 _ _ _ _ h)
      · replace h := ifn c h
        refine dild_5_2 67 dX7_sets_66 rfl ?_
        refine dild_5_3 68 dX7_sets_67 rfl ?_
        refine dt_ishr 69 dX7_sets_68 rfl ?_
        refine dt_iconst 70 dX7_sets_69 rfl ?_
        refine dt_iand 71 dX7_sets_70 rfl ?_
        refine dt_iconst 72 dX7_sets_71 rfl ?_
        refine dt_icmp_ne 75 78 dX7_sets_72 rfl (by decide) rfl wk_1 (fun c => ?_) (fun c => ?_)
        · replace h := ifp c h
          refine ald_5_0 79 rfl dX7_sets_78 rfl ?_
          refine dgf_X7_57 82 rfl dX7_sets_79 rfl ?_
          refine dild_5_4 84 dX7_sets_82 rfl ?_
          obtain ⟨hi, h⟩ := ift h
          refine diald 85 rfl rfl rfl hi rfl rfl dX7_sets_84 rfl ?_
          refine dt_if_ne 88 112 dX7_sets_85 rfl (by decide) rfl (fun c => ?_) (fun c => ?_)
          · replace h := ifp c h
            refine ald_5_0 113 rfl dX7_sets_112 rfl ?_
            refine dgf_X7_57 116 rfl dX7_sets_113 rfl ?_
            refine dild_5_4 118 dX7_sets_116 rfl ?_
            obtain ⟨hi, h⟩ := ift h
            refine diald 119 rfl rfl rfl hi rfl rfl dX7_sets_118 rfl ?_
            refine dt_iconst 120 dX7_sets_119 rfl ?_
            refine dt_icmp_ne 123 184 dX7_sets_120 rfl (by decide) rfl wk_2 (fun c => ?_) (fun c => ?_)
            · replace h := ifp c h
              refine ald_5_0 185 rfl dX7_sets_184 rfl ?_
              refine dgf_X7_63 188 rfl dX7_sets_185 rfl ?_
              refine dild_5_4 190 dX7_sets_188 rfl ?_
              obtain ⟨hi, h⟩ := ift h
              refine diald 191 rfl rfl rfl hi rfl rfl dX7_sets_190 rfl ?_
              refine ald_5_0 192 rfl dX7_sets_191 rfl ?_
              refine dgf_X7_51 195 rfl dX7_sets_192 rfl ?_
              refine dild_5_1 196 dX7_sets_195 rfl ?_
              obtain ⟨hi, h⟩ := ift h
              refine diald 197 rfl rfl rfl hi rfl rfl dX7_sets_196 rfl ?_
              refine dt_icmp_gt 200 262 dX7_sets_197 rfl (by decide) rfl rfl (fun c => ?_) (fun c => ?_)
              · replace h := ifp c h
                exact At.weak (ls_s (ls_s (ls_s (ls_s (ls_n ls_0))))) (A_X7_sets_262 hF hk38 _ _ _ _ h)
              · replace h := ifn c h
                refine ald_5_0 201 rfl dX7_sets_200 rfl ?_
                refine dgf_X7_85 204 rfl dX7_sets_201 rfl ?_
                refine ald_5_0 205 rfl dX7_sets_204 rfl ?_
                refine dgf_X7_63 208 rfl dX7_sets_205 rfl ?_
                refine dild_5_4 210 dX7_sets_208 rfl ?_
                obtain ⟨hi, h⟩ := ift h
                refine diald 211 rfl rfl rfl hi rfl rfl dX7_sets_210 rfl ?_
                refine ald_5_0 212 rfl dX7_sets_211 rfl ?_
                refine dgf_X7_85 215 rfl dX7_sets_212 rfl ?_
                refine ald_5_0 216 rfl dX7_sets_215 rfl ?_
                refine dgf_X7_63 219 rfl dX7_sets_216 rfl ?_
                refine dild_5_4 221 dX7_sets_219 rfl ?_
                obtain ⟨hi, h⟩ := ift h
                refine diald 222 rfl rfl rfl hi rfl rfl dX7_sets_221 rfl ?_
                obtain ⟨hi, h⟩ := ift h
                refine diald 223 rfl rfl rfl hi rfl rfl dX7_sets_222 rfl ?_
                refine dt_iconst 224 dX7_sets_223 rfl ?_
                refine dt_icmp_eq 227 249 dX7_sets_224 rfl (by decide) rfl wk_m1 (fun c => ?_) (fun c => ?_)
                · replace h := ifp c h
                  exact A_X7_sets_249 hF hk38 _ _ _ _ _ _ h
                · replace h := ifn c h
                  refine ald_5_0 228 rfl dX7_sets_227 rfl ?_
                  refine dgf_X7_85 231 rfl dX7_sets_228 rfl ?_
                  refine ald_5_0 232 rfl dX7_sets_231 rfl ?_
                  refine dgf_X7_63 235 rfl dX7_sets_232 rfl ?_
                  refine dild_5_4 237 dX7_sets_235 rfl ?_
                  obtain ⟨hi, h⟩ := ift h
                  refine diald 238 rfl rfl rfl hi rfl rfl dX7_sets_237 rfl ?_
                  obtain ⟨hi, h⟩ := ift h
                  refine diald 239 rfl rfl rfl hi rfl rfl dX7_sets_238 rfl ?_
                  refine ald_5_0 240 rfl dX7_sets_239 rfl ?_
                  refine dgf_X7_60 243 rfl dX7_sets_240 rfl ?_
                  refine dild_5_4 245 dX7_sets_243 rfl ?_
                  obtain ⟨hi, h⟩ := ift h
                  refine diald 246 rfl rfl rfl hi rfl rfl dX7_sets_245 rfl ?_
                  refine dt_icmp_ne 249 259 dX7_sets_246 rfl (by decide) rfl rfl (fun c => ?_) (fun c => ?_)
                  · replace h := ifp c h
                    refine dt_bipush 261 dX7_sets_259 bq_8 rfl ?_
                    exact At.weak (ls_s (ls_s (ls_s (ls_s (ls_n ls_0))))) (A_X7_sets_261 hF hk38 _ _ _ _ _ _ h)
                  · replace h := ifn c h
                    exact A_X7_sets_249 hF hk38 _ _ _ _ _ _ h
            · replace h := ifn c h
              refine ald_5_0 124 rfl dX7_sets_123 rfl ?_
              refine dgf_X7_88 127 rfl dX7_sets_124 rfl ?_
              refine ald_5_0 128 rfl dX7_sets_127 rfl ?_
              refine dgf_X7_285 131 rfl dX7_sets_128 rfl rfl ?_
              refine ald_5_0 132 rfl dX7_sets_131 rfl ?_
              refine dgf_X7_60 135 rfl dX7_sets_132 rfl ?_
              refine dild_5_4 137 dX7_sets_135 rfl ?_
              obtain ⟨hi, h⟩ := ift h
              refine diald 138 rfl rfl rfl hi rfl rfl dX7_sets_137 rfl ?_
              obtain ⟨hi, h⟩ := ift h
              refine diast 139 rfl rfl rfl hi rfl dX7_sets_138 rfl ?_
              refine ald_5_0 140 rfl dX7_sets_139 rfl ?_
              refine dgf_X7_91 143 rfl dX7_sets_140 rfl ?_
              refine ald_5_0 144 rfl dX7_sets_143 rfl ?_
              refine dgf_X7_285 147 rfl dX7_sets_144 rfl (rd_o (by decide)) ?_
              refine ald_5_0 148 rfl dX7_sets_147 rfl ?_
              refine dgf_X7_63 151 rfl dX7_sets_148 rfl ?_
              refine dild_5_4 153 dX7_sets_151 rfl ?_
              obtain ⟨hi, h⟩ := ift h
              refine diald 154 rfl rfl rfl hi rfl (rd_o (by decide)) dX7_sets_153 rfl ?_
              obtain ⟨hi, h⟩ := ift h
              refine diast 155 rfl rfl rfl hi rfl dX7_sets_154 rfl ?_
              refine ald_5_0 156 rfl dX7_sets_155 rfl ?_
              refine dgf_X7_94 159 rfl dX7_sets_156 rfl ?_
              refine ald_5_0 160 rfl dX7_sets_159 rfl ?_
              refine dgf_X7_285 163 rfl dX7_sets_160 rfl ((rd_o (by decide)).trans (rd_o (by decide))) ?_
              refine ald_5_0 164 rfl dX7_sets_163 rfl ?_
              refine dgf_X7_66 167 rfl dX7_sets_164 rfl ?_
              refine dild_5_4 169 dX7_sets_167 rfl ?_
              obtain ⟨hi, h⟩ := ift h
              refine diald 170 rfl rfl rfl hi rfl ((rd_o (by decide)).trans (rd_o (by decide))) dX7_sets_169 rfl ?_
              obtain ⟨hi, h⟩ := ift h
              refine diast 171 rfl rfl rfl hi rfl dX7_sets_170 rfl ?_
              refine ald_5_0 172 rfl dX7_sets_171 rfl ?_
              refine st_dup 173 dX7_sets_172 rfl rfl ?_
              refine dgf_X7_285 176 rfl dX7_sets_173 rfl ((rd_o (by decide)).trans ((rd_o (by decide)).trans (rd_o (by decide)))) ?_
              refine dt_iconst 177 dX7_sets_176 rfl ?_
              refine dt_iadd 178 dX7_sets_177 rfl ?_
              refine dpf_X7_285 181 rfl dX7_sets_178 rfl ?_
              refine st_goto 262 dX7_sets_181 (by decide) ?_
              exact At.weak (ls_s (ls_s (ls_s (ls_s (ls_n ls_0))))) (A_X7_sets_262 hF hk38 _ _ _ _ h)
          · replace h := ifn c h
            refine ald_5_0 89 rfl dX7_sets_88 rfl ?_
            refine dgf_X7_82 92 rfl dX7_sets_89 rfl ?_
            refine ald_5_0 93 rfl dX7_sets_92 rfl ?_
            refine dgf_X7_282 96 rfl dX7_sets_93 rfl rfl ?_
            refine dild_5_4 98 dX7_sets_96 rfl ?_
            obtain ⟨hi, h⟩ := ift h
            refine diast 99 rfl rfl rfl hi rfl dX7_sets_98 rfl ?_
            refine ald_5_0 100 rfl dX7_sets_99 rfl ?_
            refine st_dup 101 dX7_sets_100 rfl rfl ?_
            refine dgf_X7_282 104 rfl dX7_sets_101 rfl (rd_o (by decide)) ?_
            refine dt_iconst 105 dX7_sets_104 rfl ?_
            refine dt_iadd 106 dX7_sets_105 rfl ?_
            refine dpf_X7_282 109 rfl dX7_sets_106 rfl ?_
            refine st_goto 262 dX7_sets_109 (by decide) ?_
            exact At.weak (ls_s (ls_s (ls_s (ls_s (ls_n ls_0))))) (A_X7_sets_262 hF hk38 _ _ _ _ h)
        · replace h := ifn c h
          refine st_goto 262 dX7_sets_75 (by decide) ?_
          exact At.weak (ls_s (ls_s (ls_s (ls_s (ls_n ls_0))))) (A_X7_sets_262 hF hk38 _ _ _ _ h)
theorem A_X7_sets_17 {G : Cx} {b : Ab}  {mm : Mi} (hF : Fi yd_X7_sets G b none (Em mm)) : ∀ (n : Nat) (x1 : Int) (x2 : Int) (x3 : Int) (μ : Mi), B_X7_sets_17 n x1 x2 x3 μ = some mm → At yd_X7_sets G b 17 [some (rf G 7 false), some (iv x1), some (iv x2), some (iv x3), none] [] (Em μ) := by
  intro n
  induction n with
  | zero =>
    intro x1 x2 x3 μ h
    exact nope h
  | succ n hk17 =>
    intro x1 x2 x3 μ h
    replace h : F_X7_sets_17 (B_X7_sets_17 n) x1 x2 x3 μ = some mm := h
    unfold F_X7_sets_17 at h
    refine dild_5_3 18 dX7_sets_17 rfl ?_
    refine dt_bipush 20 dX7_sets_18 bq_96 rfl ?_
    refine dt_icmp_gt 23 36 dX7_sets_20 rfl (by decide) rfl wk_96 (fun c => ?_) (fun c => ?_)
    · replace h := ifp c h
      refine dt_iconst 37 dX7_sets_36 rfl ?_
      refine dist_5_3 38 dX7_sets_37 rfl rfl rfl ?_
      exact A_X7_sets_38 hF FU _ _ _ _ h
    · replace h := ifn c h
      refine ald_5_0 24 rfl dX7_sets_23 rfl ?_
      refine dgf_X7_85 27 rfl dX7_sets_24 rfl ?_
      refine dild_5_3 28 dX7_sets_27 rfl ?_
      refine dt_iconst 29 dX7_sets_28 rfl ?_
      obtain ⟨hi, h⟩ := ift h
      refine diast 30 rfl rfl rfl hi rfl dX7_sets_29 rfl ?_
      refine dinc_5_3 33 dX7_sets_30 rfl rfl rfl ?_
      refine st_goto 17 dX7_sets_33 (by decide) ?_
      exact hk17 _ _ _ _ h
theorem S_X7_sets {G : Cx} {μ : Mi} {x1 : Int} {x2 : Int}  {mm : Mi} (h : D_X7_sets x1 x2 μ = some mm) : Spec yd_X7_sets G [rf G 7 false, iv x1, iv x2] (Em μ) (none) (Em mm) := by
  refine Spec.of (by decide) rfl (catL_ok rfl) (Nat.le_of_ble_eq_true rfl) rfl (fun b hF => ?_)
  unfold D_X7_sets at h
  refine ald_5_0 1 rfl dX7_sets_0 rfl ?_
  refine dild_5_1 2 dX7_sets_1 rfl ?_
  refine dpf_X7_279 5 rfl dX7_sets_2 rfl ?_
  refine ald_5_0 6 rfl dX7_sets_5 rfl ?_
  refine dt_iconst 7 dX7_sets_6 rfl ?_
  refine dpf_X7_282 10 rfl dX7_sets_7 rfl ?_
  refine ald_5_0 11 rfl dX7_sets_10 rfl ?_
  refine dt_iconst 12 dX7_sets_11 rfl ?_
  refine dpf_X7_285 15 rfl dX7_sets_12 rfl ?_
  refine dt_iconst 16 dX7_sets_15 rfl ?_
  refine dist_5_3 17 dX7_sets_16 rfl rfl rfl ?_
  exact A_X7_sets_17 hF FU _ _ _ _ h
/-- StampTalesModel.stateOf -/
theorem S_X7_stateOf {G : Cx} {μ : Mi} (x0 : Int) (x1 : Int) (x2 : Int) (x3 : Int) : Spec yd_X7_stateOf G [iv x0, iv x1, iv x2, iv x3] (Em μ) (some (iv (D_X7_stateOf x0 x1 x2 x3))) (Em μ) := by
  generalize h : D_X7_stateOf x0 x1 x2 x3 = r
  refine Spec.of (by decide) rfl (catL_ok rfl) (Nat.le_of_ble_eq_true rfl) rfl (fun b hF => ?_)
  unfold D_X7_stateOf at h
  refine dild_4_0 1 dX7_stateOf_0 rfl ?_
  refine dt_bipush 3 dX7_stateOf_1 bq_7 rfl ?_
  refine dt_imul 4 dX7_stateOf_3 rfl ?_
  refine dild_4_1 5 dX7_stateOf_4 rfl ?_
  refine dt_iadd 6 dX7_stateOf_5 rfl ?_
  refine dt_iconst 7 dX7_stateOf_6 rfl ?_
  refine dt_imul 8 dX7_stateOf_7 rfl ?_
  refine dild_4_2 9 dX7_stateOf_8 rfl ?_
  refine dt_iadd 10 dX7_stateOf_9 rfl ?_
  refine dt_iconst 11 dX7_stateOf_10 rfl ?_
  refine dt_imul 12 dX7_stateOf_11 rfl ?_
  refine dild_4_3 13 dX7_stateOf_12 rfl ?_
  refine dt_iadd 14 dX7_stateOf_13 rfl ?_
  exact dr_it hF rfl dX7_stateOf_14 h
/-- StampTalesModel.comesTo -/
theorem A_X7_comesTo_79 {G : Cx} {b : Ab} {μ : Mi} {r : Int} {k29 : (Int → Int → Int → Int → Int → Int → Mi → Option Int)} (hF : Fi yd_X7_comesTo G b (some (iv r)) (Em μ)) (hk29 : ∀ (x1 : Int) (x2 : Int) (x3 : Int) (x5 : Int) (x6 : Int) (x7 : Int), k29 x1 x2 x3 x5 x6 x7 μ = some r → At yd_X7_comesTo G b 29 [some (rf G 7 false), some (iv x1), some (iv x2), some (iv x3), none, some (iv x5), some (iv x6), some (iv x7)] [] (Em μ)) (x1 : Int) (x2 : Int) (x3 : Int) (x5 : Int) (x6 : Int) (x7 : Int) (h : B_X7_comesTo_79 k29 x1 x2 x3 x5 x6 x7 μ = some r) : At yd_X7_comesTo G b 79 [some (rf G 7 false), some (iv x1), some (iv x2), some (iv x3), none, some (iv x5), some (iv x6), some (iv x7)] [] (Em μ) := by
  unfold B_X7_comesTo_79 at h
  refine dinc_8_7 82 dX7_comesTo_79 rfl rfl rfl ?_
  refine st_goto 29 dX7_comesTo_82 (by decide) ?_
  exact hk29 _ _ _ _ _ _ h
theorem A_X7_comesTo_29 {G : Cx} {b : Ab} {μ : Mi} {r : Int} (hF : Fi yd_X7_comesTo G b (some (iv r)) (Em μ)) : ∀ (n : Nat) (x1 : Int) (x2 : Int) (x3 : Int) (x5 : Int) (x6 : Int) (x7 : Int), B_X7_comesTo_29 n x1 x2 x3 x5 x6 x7 μ = some r → At yd_X7_comesTo G b 29 [some (rf G 7 false), some (iv x1), some (iv x2), some (iv x3), none, some (iv x5), some (iv x6), some (iv x7)] [] (Em μ) := by
  intro n
  induction n with
  | zero =>
    intro x1 x2 x3 x5 x6 x7 h
    exact nope h
  | succ n hk29 =>
    intro x1 x2 x3 x5 x6 x7 h
    replace h : F_X7_comesTo_29 (B_X7_comesTo_29 n) x1 x2 x3 x5 x6 x7 μ = some r := h
    unfold F_X7_comesTo_29 at h
    refine dild_8_7 31 dX7_comesTo_29 rfl ?_
    refine ald_8_0 32 rfl dX7_comesTo_31 rfl ?_
    refine dgf_X7_285 35 rfl dX7_comesTo_32 rfl rfl ?_
    refine dt_icmp_ge 38 85 dX7_comesTo_35 rfl (by decide) rfl rfl (fun c => ?_) (fun c => ?_)
    · replace h := ifp c h
      refine dild_8_2 86 dX7_comesTo_85 rfl ?_
      refine dild_8_3 87 dX7_comesTo_86 rfl ?_
      refine dild_8_6 89 dX7_comesTo_87 rfl ?_
      refine dild_8_5 91 dX7_comesTo_89 rfl ?_
      refine csi_4 94 cw_X7_288 (S_X7_stateOf x2 x3 x6 x5) rfl ⟨by decide, by decide⟩ (Nat.le_of_ble_eq_true rfl) dX7_comesTo_91 rfl ?_
      exact dr_ip hF rfl dX7_comesTo_94 h
    · replace h := ifn c h
      refine ald_8_0 39 rfl dX7_comesTo_38 rfl ?_
      refine dgf_X7_88 42 rfl dX7_comesTo_39 rfl ?_
      refine dild_8_7 44 dX7_comesTo_42 rfl ?_
      obtain ⟨hi, h⟩ := ift h
      refine diald 45 rfl rfl rfl hi rfl rfl dX7_comesTo_44 rfl ?_
      refine dild_8_2 46 dX7_comesTo_45 rfl ?_
      refine dt_icmp_ne 49 79 dX7_comesTo_46 rfl (by decide) rfl rfl (fun c => ?_) (fun c => ?_)
      · replace h := ifp c h
        exact A_X7_comesTo_79 hF hk29 _ _ _ _ _ _ h
      · replace h := ifn c h
        refine dild_8_1 50 dX7_comesTo_49 rfl ?_
        refine ald_8_0 51 rfl dX7_comesTo_50 rfl ?_
        refine dgf_X7_91 54 rfl dX7_comesTo_51 rfl ?_
        refine dild_8_7 56 dX7_comesTo_54 rfl ?_
        obtain ⟨hi, h⟩ := ift h
        refine diald 57 rfl rfl rfl hi rfl rfl dX7_comesTo_56 rfl ?_
        refine ald_8_0 58 rfl dX7_comesTo_57 rfl ?_
        refine dgf_X7_94 61 rfl dX7_comesTo_58 rfl ?_
        refine dild_8_7 63 dX7_comesTo_61 rfl ?_
        obtain ⟨hi, h⟩ := ift h
        refine diald 64 rfl rfl rfl hi rfl rfl dX7_comesTo_63 rfl ?_
        refine csi_3 67 cw_X7_117 (S_X7_in x1 (rd μ 68 false (ix x7)) (rd μ 69 false (ix x7))) rfl ⟨by decide, by decide⟩ (Nat.le_of_ble_eq_true rfl) dX7_comesTo_64 rfl ?_
        refine dt_if_eq 70 79 dX7_comesTo_67 rfl (by decide) rfl (fun c => ?_) (fun c => ?_)
        · replace h := ifp c h
          exact A_X7_comesTo_79 hF hk29 _ _ _ _ _ _ h
        · replace h := ifn c h
          refine dild_8_6 72 dX7_comesTo_70 rfl ?_
          refine dt_iconst 73 dX7_comesTo_72 rfl ?_
          refine dild_8_7 75 dX7_comesTo_73 rfl ?_
          refine dt_ishl 76 dX7_comesTo_75 rfl ?_
          refine dt_ior 77 dX7_comesTo_76 rfl ?_
          refine dist_8_6 79 dX7_comesTo_77 rfl rfl rfl ?_
          exact A_X7_comesTo_79 hF hk29 _ _ _ _ _ _ h
theorem A_X7_comesTo_22 {G : Cx} {b : Ab} {μ : Mi} {r : Int} (hF : Fi yd_X7_comesTo G b (some (iv r)) (Em μ)) (x1 : Int) (x2 : Int) (x3 : Int) (x4 : Int) (x5 : Int) (h : B_X7_comesTo_22 x1 x2 x3 x4 x5 μ = some r) : At yd_X7_comesTo G b 22 [some (rf G 7 false), some (iv x1), some (iv x2), some (iv x3), some (iv x4), some (iv x5), none, none] [] (Em μ) := by
  unfold B_X7_comesTo_22 at h
  refine dild_8_4 24 dX7_comesTo_22 rfl ?_
  refine dist_8_6 26 dX7_comesTo_24 rfl rfl rfl ?_
  refine dt_iconst 27 dX7_comesTo_26 rfl ?_
  refine dist_8_7 29 dX7_comesTo_27 rfl rfl rfl ?_
  exact At.weak (ls_s (ls_s (ls_s (ls_s (ls_n (ls_s (ls_s (ls_s ls_0)))))))) (A_X7_comesTo_29 hF FU _ _ _ _ _ _ h)
theorem S_X7_comesTo {G : Cx} {μ : Mi} {x1 : Int} {x2 : Int} {x3 : Int} {x4 : Int} {x5 : Int} {r : Int} (h : D_X7_comesTo x1 x2 x3 x4 x5 μ = some r) : Spec yd_X7_comesTo G [rf G 7 false, iv x1, iv x2, iv x3, iv x4, iv x5] (Em μ) (some (iv r)) (Em μ) := by
  refine Spec.of (by decide) rfl (catL_ok rfl) (Nat.le_of_ble_eq_true rfl) rfl (fun b hF => ?_)
  unfold D_X7_comesTo at h
  refine ald_8_0 1 rfl dX7_comesTo_0 rfl ?_
  refine dgf_X7_85 4 rfl dX7_comesTo_1 rfl ?_
  refine dild_8_1 5 dX7_comesTo_4 rfl ?_
  obtain ⟨hi, h⟩ := ift h
  refine diald 6 rfl rfl rfl hi rfl rfl dX7_comesTo_5 rfl ?_
  refine dt_iconst 7 dX7_comesTo_6 rfl ?_
  refine dt_icmp_eq 10 22 dX7_comesTo_7 rfl (by decide) rfl wk_m1 (fun c => ?_) (fun c => ?_)
  · replace h := ifp c h
    exact A_X7_comesTo_22 hF _ _ _ _ _ h
  · replace h := ifn c h
    refine ald_8_0 11 rfl dX7_comesTo_10 rfl ?_
    refine dgf_X7_85 14 rfl dX7_comesTo_11 rfl ?_
    refine dild_8_1 15 dX7_comesTo_14 rfl ?_
    obtain ⟨hi, h⟩ := ift h
    refine diald 16 rfl rfl rfl hi rfl rfl dX7_comesTo_15 rfl ?_
    refine dild_8_2 17 dX7_comesTo_16 rfl ?_
    refine dt_icmp_eq 20 22 dX7_comesTo_17 rfl (by decide) rfl rfl (fun c => ?_) (fun c => ?_)
    · replace h := ifp c h
      exact A_X7_comesTo_22 hF _ _ _ _ _ h
    · replace h := ifn c h
      refine dt_iconst 21 dX7_comesTo_20 rfl ?_
      exact dr_ip hF rfl dX7_comesTo_21 h
/-- StampTalesModel.stamped -/
theorem S_X7_stamped {G : Cx} {μ : Mi} {x1 : Int} {x2 : Int} {x3 : Int} {x4 : Int} {x5 : Int} {r : Int} (h : D_X7_stamped x1 x2 x3 x4 x5 μ = some r) : Spec yd_X7_stamped G [rf G 7 false, iv x1, iv x2, iv x3, iv x4, iv x5] (Em μ) (some (iv r)) (Em μ) := by
  refine Spec.of (by decide) rfl (catL_ok rfl) (Nat.le_of_ble_eq_true rfl) rfl (fun b hF => ?_)
  unfold D_X7_stamped at h
  refine ald_8_0 1 rfl dX7_stamped_0 rfl ?_
  refine dgf_X7_33 4 rfl dX7_stamped_1 rfl ?_
  refine dild_8_2 5 dX7_stamped_4 rfl ?_
  obtain ⟨hi, h⟩ := ift h
  refine diald 6 rfl rfl rfl hi rfl rfl dX7_stamped_5 rfl ?_
  refine dild_8_3 7 dX7_stamped_6 rfl ?_
  refine dt_ishr 8 dX7_stamped_7 rfl ?_
  refine dt_iconst 9 dX7_stamped_8 rfl ?_
  refine dt_iand 10 dX7_stamped_9 rfl ?_
  refine dt_if_ne 13 15 dX7_stamped_10 rfl (by decide) rfl (fun c => ?_) (fun c => ?_)
  · replace h := ifp c h
    refine dild_8_4 17 dX7_stamped_15 rfl ?_
    refine ald_8_0 18 rfl dX7_stamped_17 rfl ?_
    refine dgf_X7_39 21 rfl dX7_stamped_18 rfl ?_
    refine dild_8_5 23 dX7_stamped_21 rfl ?_
    obtain ⟨hi, h⟩ := ift h
    refine diald 24 rfl rfl rfl hi rfl rfl dX7_stamped_23 rfl ?_
    refine dt_iadd 25 dX7_stamped_24 rfl ?_
    refine dt_bipush 27 dX7_stamped_25 bq_24 rfl ?_
    obtain ⟨r1, h1, h⟩ := bp_some h
    refine csi_2 30 cw_X7_292 (S_J9_floorDiv_7cf53 h1) rfl ⟨by decide, by decide⟩ (Nat.le_of_ble_eq_true rfl) dX7_stamped_27 rfl ?_
    refine dist_8_6 32 dX7_stamped_30 rfl rfl rfl ?_
    refine dild_8_1 33 dX7_stamped_32 rfl ?_
    refine ald_8_0 34 rfl dX7_stamped_33 rfl ?_
    refine dgf_X7_282 37 rfl dX7_stamped_34 rfl rfl ?_
    refine dt_icmp_ne 40 42 dX7_stamped_37 rfl (by decide) rfl rfl (fun c => ?_) (fun c => ?_)
    · replace h := ifp c h
      refine ald_8_0 43 rfl dX7_stamped_42 rfl ?_
      refine dgf_X7_82 46 rfl dX7_stamped_43 rfl ?_
      refine dild_8_1 47 dX7_stamped_46 rfl ?_
      obtain ⟨hi, h⟩ := ift h
      refine diald 48 rfl rfl rfl hi rfl rfl dX7_stamped_47 rfl ?_
      refine dist_8_7 50 dX7_stamped_48 rfl rfl rfl ?_
      refine ald_8_0 51 rfl dX7_stamped_50 rfl ?_
      refine dgf_X7_60 54 rfl dX7_stamped_51 rfl ?_
      refine dild_8_7 56 dX7_stamped_54 rfl ?_
      obtain ⟨hi, h⟩ := ift h
      refine diald 57 rfl rfl rfl hi rfl rfl dX7_stamped_56 rfl ?_
      refine dild_8_2 58 dX7_stamped_57 rfl ?_
      refine dt_icmp_ne 61 100 dX7_stamped_58 rfl (by decide) rfl rfl (fun c => ?_) (fun c => ?_)
      · replace h := ifp c h
        refine dt_iconst 101 dX7_stamped_100 rfl ?_
        exact dr_ip hF rfl dX7_stamped_101 h
      · replace h := ifn c h
        refine ald_8_0 62 rfl dX7_stamped_61 rfl ?_
        refine dgf_X7_69 65 rfl dX7_stamped_62 rfl ?_
        refine dild_8_7 67 dX7_stamped_65 rfl ?_
        obtain ⟨hi, h⟩ := ift h
        refine diald 68 rfl rfl rfl hi rfl rfl dX7_stamped_67 rfl ?_
        refine dild_8_3 69 dX7_stamped_68 rfl ?_
        refine dt_icmp_ne 72 100 dX7_stamped_69 rfl (by decide) rfl rfl (fun c => ?_) (fun c => ?_)
        · replace h := ifp c h
          refine dt_iconst 101 dX7_stamped_100 rfl ?_
          exact dr_ip hF rfl dX7_stamped_101 h
        · replace h := ifn c h
          refine dild_8_6 74 dX7_stamped_72 rfl ?_
          refine ald_8_0 75 rfl dX7_stamped_74 rfl ?_
          refine dgf_X7_63 78 rfl dX7_stamped_75 rfl ?_
          refine dild_8_7 80 dX7_stamped_78 rfl ?_
          obtain ⟨hi, h⟩ := ift h
          refine diald 81 rfl rfl rfl hi rfl rfl dX7_stamped_80 rfl ?_
          refine ald_8_0 82 rfl dX7_stamped_81 rfl ?_
          refine dgf_X7_66 85 rfl dX7_stamped_82 rfl ?_
          refine dild_8_7 87 dX7_stamped_85 rfl ?_
          obtain ⟨hi, h⟩ := ift h
          refine diald 88 rfl rfl rfl hi rfl rfl dX7_stamped_87 rfl ?_
          refine csi_3 91 cw_X7_117 (S_X7_in r1 (rd μ 59 false (ix (rd μ 65 false (ix x1)))) (rd μ 60 false (ix (rd μ 65 false (ix x1))))) rfl ⟨by decide, by decide⟩ (Nat.le_of_ble_eq_true rfl) dX7_stamped_88 rfl ?_
          refine dt_if_eq 94 100 dX7_stamped_91 rfl (by decide) rfl (fun c => ?_) (fun c => ?_)
          · replace h := ifp c h
            refine dt_iconst 101 dX7_stamped_100 rfl ?_
            exact dr_ip hF rfl dX7_stamped_101 h
          · replace h := ifn c h
            refine dild_8_1 95 dX7_stamped_94 rfl ?_
            refine dt_iconst 96 dX7_stamped_95 rfl ?_
            refine dt_iadd 97 dX7_stamped_96 rfl ?_
            refine st_goto 101 dX7_stamped_97 (by decide) ?_
            exact dr_ip hF rfl dX7_stamped_101 h
    · replace h := ifn c h
      refine dt_iconst 41 dX7_stamped_40 rfl ?_
      exact dr_ip hF rfl dX7_stamped_41 h
  · replace h := ifn c h
    refine dild_8_1 14 dX7_stamped_13 rfl ?_
    exact dr_ip hF rfl dX7_stamped_14 h
/-- StampTalesModel.goes -/
theorem A_X7_goes_398 {G : Cx} {b : Ab} {r : Int} {mm : Mi} (hF : Fi yd_X7_goes G b (some (iv r)) (Em mm)) (s0 : Int) (s1 : Int) (s2 : Int) (s3 : Int) (s4 : Int) (μ : Mi) (h : B_X7_goes_398 s0 s1 s2 s3 s4 μ = some (r, mm)) : At yd_X7_goes G b 398 [none, none, none, none, none, none, none, none, none, none, none] [iv s0, iv s1, iv s2, iv s3, iv s4, rf G 7 false] (Em μ) := by
  unfold B_X7_goes_398 at h
  obtain ⟨r1, h1, h⟩ := bp_some h
  refine cvi_5 401 cw_X7_304 (S_X7_comesTo h1) rfl ⟨by decide, by decide⟩ rfl rfl rfl rfl rfl (Nat.le_of_ble_eq_true rfl) dX7_goes_398 rfl ?_
  exact dr_i hF rfl dX7_goes_401 h
theorem A_X7_goes_376 {G : Cx} {b : Ab} {r : Int} {mm : Mi} (hF : Fi yd_X7_goes G b (some (iv r)) (Em mm)) (x4 : Int) (x5 : Int) (x6 : Int) (x9 : Int) (x10 : Int) (μ : Mi) (h : B_X7_goes_376 x4 x5 x6 x9 x10 μ = some (r, mm)) : At yd_X7_goes G b 376 [some (rf G 7 false), none, none, none, some (iv x4), some (iv x5), some (iv x6), none, none, some (iv x9), some (iv x10)] [] (Em μ) := by
  unfold B_X7_goes_376 at h
  refine ald_11_0 377 rfl dX7_goes_376 rfl ?_
  refine ald_11_0 378 rfl dX7_goes_377 rfl ?_
  refine dgf_X7_297 381 rfl dX7_goes_378 rfl rfl ?_
  refine dild_11_9 383 dX7_goes_381 rfl ?_
  refine dild_11_6 385 dX7_goes_383 rfl ?_
  refine dild_11_5 387 dX7_goes_385 rfl ?_
  refine dild_11_10 389 dX7_goes_387 rfl ?_
  refine dt_if_eq 392 397 dX7_goes_389 rfl (by decide) rfl (fun c => ?_) (fun c => ?_)
  · replace h := ifp c h
    refine dt_iconst 398 dX7_goes_397 rfl ?_
    exact At.weak (ls_n (ls_n (ls_n (ls_n (ls_n (ls_n (ls_n (ls_n (ls_n (ls_n (ls_n ls_0))))))))))) (A_X7_goes_398 hF _ _ _ _ _ _ h)
  · replace h := ifn c h
    refine dild_11_4 394 dX7_goes_392 rfl ?_
    refine st_goto 398 dX7_goes_394 (by decide) ?_
    exact At.weak (ls_n (ls_n (ls_n (ls_n (ls_n (ls_n (ls_n (ls_n (ls_n (ls_n (ls_n ls_0))))))))))) (A_X7_goes_398 hF _ _ _ _ _ _ h)
theorem A_X7_goes_368 {G : Cx} {b : Ab} {r : Int} {mm : Mi} (hF : Fi yd_X7_goes G b (some (iv r)) (Em mm)) (x4 : Int) (x5 : Int) (x6 : Int) (x9 : Int) (x10 : Int) (μ : Mi) (h : B_X7_goes_368 x4 x5 x6 x9 x10 μ = some (r, mm)) : At yd_X7_goes G b 368 [some (rf G 7 false), none, none, none, some (iv x4), some (iv x5), some (iv x6), none, none, some (iv x9), some (iv x10)] [] (Em μ) := by
  unfold B_X7_goes_368 at h
  refine dild_11_6 370 dX7_goes_368 rfl ?_
  refine dt_iconst 371 dX7_goes_370 rfl ?_
  refine dt_icmp_ne 374 376 dX7_goes_371 rfl (by decide) rfl wk_m1 (fun c => ?_) (fun c => ?_)
  · replace h := ifp c h
    exact A_X7_goes_376 hF _ _ _ _ _ _ h
  · replace h := ifn c h
    refine dt_iconst 375 dX7_goes_374 rfl ?_
    exact dr_i hF rfl dX7_goes_375 h
theorem A_X7_goes_302 {G : Cx} {b : Ab} {r : Int} {mm : Mi} (hF : Fi yd_X7_goes G b (some (iv r)) (Em mm)) (x1 : Int) (x4 : Int) (x5 : Int) (x6 : Int) (x7 : Int) (x9 : Int) (s0 : Int) (μ : Mi) (h : B_X7_goes_302 x1 x4 x5 x6 x7 x9 s0 μ = some (r, mm)) : At yd_X7_goes G b 302 [some (rf G 7 false), some (iv x1), none, none, some (iv x4), some (iv x5), some (iv x6), some (iv x7), none, some (iv x9), none] [iv s0] (Em μ) := by
  unfold B_X7_goes_302 at h
  refine dist_11_10 304 dX7_goes_302 rfl rfl rfl ?_
  refine ald_11_0 305 rfl dX7_goes_304 rfl ?_
  refine dgf_X7_36 308 rfl dX7_goes_305 rfl ?_
  refine dild_11_9 310 dX7_goes_308 rfl ?_
  obtain ⟨hi, h⟩ := ift h
  refine diald 311 rfl rfl rfl hi rfl rfl dX7_goes_310 rfl ?_
  refine ald_11_0 312 rfl dX7_goes_311 rfl ?_
  refine dgf_X7_36 315 rfl dX7_goes_312 rfl ?_
  refine dild_11_7 317 dX7_goes_315 rfl ?_
  obtain ⟨hi, h⟩ := ift h
  refine diald 318 rfl rfl rfl hi rfl rfl dX7_goes_317 rfl ?_
  refine dt_icmp_eq 321 376 dX7_goes_318 rfl (by decide) rfl rfl (fun c => ?_) (fun c => ?_)
  · replace h := ifp c h
    exact At.weak (ls_s (ls_n (ls_n (ls_n (ls_s (ls_s (ls_s (ls_n (ls_n (ls_s (ls_s ls_0))))))))))) (A_X7_goes_376 hF _ _ _ _ _ _ h)
  · replace h := ifn c h
    refine ald_11_0 322 rfl dX7_goes_321 rfl ?_
    refine dild_11_6 324 dX7_goes_322 rfl ?_
    refine ald_11_0 325 rfl dX7_goes_324 rfl ?_
    refine dgf_X7_36 328 rfl dX7_goes_325 rfl ?_
    refine dild_11_7 330 dX7_goes_328 rfl ?_
    obtain ⟨hi, h⟩ := ift h
    refine diald 331 rfl rfl rfl hi rfl rfl dX7_goes_330 rfl ?_
    refine dt_iconst 332 dX7_goes_331 rfl ?_
    refine dild_11_1 333 dX7_goes_332 rfl ?_
    refine dild_11_7 335 dX7_goes_333 rfl ?_
    obtain ⟨r1, h1, h⟩ := bp_some h
    refine cvi_5 338 cw_X7_300 (S_X7_stamped h1) rfl ⟨by decide, by decide⟩ rfl rfl rfl rfl rfl (Nat.le_of_ble_eq_true rfl) dX7_goes_335 rfl ?_
    refine dist_11_6 340 dX7_goes_338 rfl rfl rfl ?_
    refine dild_11_6 342 dX7_goes_340 rfl ?_
    refine dt_iconst 343 dX7_goes_342 rfl ?_
    refine dt_icmp_eq 346 368 dX7_goes_343 rfl (by decide) rfl wk_m1 (fun c => ?_) (fun c => ?_)
    · replace h := ifp c h
      exact At.weak (ls_s (ls_n (ls_n (ls_n (ls_s (ls_s (ls_s (ls_n (ls_n (ls_s (ls_s ls_0))))))))))) (A_X7_goes_368 hF _ _ _ _ _ _ h)
    · replace h := ifn c h
      refine ald_11_0 347 rfl dX7_goes_346 rfl ?_
      refine dild_11_6 349 dX7_goes_347 rfl ?_
      refine ald_11_0 350 rfl dX7_goes_349 rfl ?_
      refine dgf_X7_36 353 rfl dX7_goes_350 rfl ?_
      refine dild_11_9 355 dX7_goes_353 rfl ?_
      obtain ⟨hi, h⟩ := ift h
      refine diald 356 rfl rfl rfl hi rfl rfl dX7_goes_355 rfl ?_
      refine dt_iconst 357 dX7_goes_356 rfl ?_
      refine ald_11_0 358 rfl dX7_goes_357 rfl ?_
      refine dgf_X7_297 361 rfl dX7_goes_358 rfl rfl ?_
      refine dild_11_9 363 dX7_goes_361 rfl ?_
      obtain ⟨r2, h2, h⟩ := bp_some h
      refine cvi_5 366 cw_X7_300 (S_X7_stamped h2) rfl ⟨by decide, by decide⟩ rfl rfl rfl rfl rfl (Nat.le_of_ble_eq_true rfl) dX7_goes_363 rfl ?_
      refine dist_11_6 368 dX7_goes_366 rfl rfl rfl ?_
      exact At.weak (ls_s (ls_n (ls_n (ls_n (ls_s (ls_s (ls_s (ls_n (ls_n (ls_s (ls_s ls_0))))))))))) (A_X7_goes_368 hF _ _ _ _ _ _ h)
theorem A_X7_goes_301 {G : Cx} {b : Ab} {r : Int} {mm : Mi} (hF : Fi yd_X7_goes G b (some (iv r)) (Em mm)) (x1 : Int) (x4 : Int) (x5 : Int) (x6 : Int) (x7 : Int) (x9 : Int) (μ : Mi) (h : B_X7_goes_301 x1 x4 x5 x6 x7 x9 μ = some (r, mm)) : At yd_X7_goes G b 301 [some (rf G 7 false), some (iv x1), none, none, some (iv x4), some (iv x5), some (iv x6), some (iv x7), none, some (iv x9), none] [] (Em μ) := by
  unfold B_X7_goes_301 at h
  refine dt_iconst 302 dX7_goes_301 rfl ?_
  exact A_X7_goes_302 hF _ _ _ _ _ _ _ _ h
theorem A_X7_goes_265 {G : Cx} {b : Ab} {r : Int} {mm : Mi} {k206 : (Int → Int → Int → Int → Int → Int → Int → Mi → Option (Int × Mi))} (hF : Fi yd_X7_goes G b (some (iv r)) (Em mm)) (hk206 : ∀ (x1 : Int) (x4 : Int) (x5 : Int) (x6 : Int) (x7 : Int) (x9 : Int) (x10 : Int) (m : Mi), k206 x1 x4 x5 x6 x7 x9 x10 m = some (r, mm) → At yd_X7_goes G b 206 [some (rf G 7 false), some (iv x1), none, none, some (iv x4), some (iv x5), some (iv x6), some (iv x7), none, some (iv x9), some (iv x10)] [] (Em m)) (x1 : Int) (x4 : Int) (x5 : Int) (x6 : Int) (x7 : Int) (x9 : Int) (x10 : Int) (μ : Mi) (h : B_X7_goes_265 k206 x1 x4 x5 x6 x7 x9 x10 μ = some (r, mm)) : At yd_X7_goes G b 265 [some (rf G 7 false), some (iv x1), none, none, some (iv x4), some (iv x5), some (iv x6), some (iv x7), none, some (iv x9), some (iv x10)] [] (Em μ) := by
  unfold B_X7_goes_265 at h
  refine dinc_11_10 268 dX7_goes_265 rfl rfl rfl ?_
  refine st_goto 206 dX7_goes_268 (by decide) ?_
  exact hk206 _ _ _ _ _ _ _ _ h
theorem A_X7_goes_251 {G : Cx} {b : Ab} {r : Int} {mm : Mi} {k206 : (Int → Int → Int → Int → Int → Int → Int → Mi → Option (Int × Mi))} (hF : Fi yd_X7_goes G b (some (iv r)) (Em mm)) (hk206 : ∀ (x1 : Int) (x4 : Int) (x5 : Int) (x6 : Int) (x7 : Int) (x9 : Int) (x10 : Int) (m : Mi), k206 x1 x4 x5 x6 x7 x9 x10 m = some (r, mm) → At yd_X7_goes G b 206 [some (rf G 7 false), some (iv x1), none, none, some (iv x4), some (iv x5), some (iv x6), some (iv x7), none, some (iv x9), some (iv x10)] [] (Em m)) (x1 : Int) (x4 : Int) (x5 : Int) (x6 : Int) (x7 : Int) (x9 : Int) (x10 : Int) (s0 : Int) (μ : Mi) (h : B_X7_goes_251 k206 x1 x4 x5 x6 x7 x9 x10 s0 μ = some (r, mm)) : At yd_X7_goes G b 251 [some (rf G 7 false), some (iv x1), none, none, some (iv x4), some (iv x5), some (iv x6), some (iv x7), none, some (iv x9), some (iv x10)] [iv s0] (Em μ) := by
  unfold B_X7_goes_251 at h
  refine ald_11_0 252 rfl dX7_goes_251 rfl ?_
  refine dgf_X7_48 255 rfl dX7_goes_252 rfl ?_
  refine ald_11_0 256 rfl dX7_goes_255 rfl ?_
  refine dgf_X7_279 259 rfl dX7_goes_256 rfl rfl ?_
  obtain ⟨hi, h⟩ := ift h
  refine diald 260 rfl rfl rfl hi rfl rfl dX7_goes_259 rfl ?_
  refine dt_icmp_ge 263 265 dX7_goes_260 rfl (by decide) rfl rfl (fun c => ?_) (fun c => ?_)
  · replace h := ifp c h
    exact A_X7_goes_265 hF hk206 _ _ _ _ _ _ _ _ h
  · replace h := ifn c h
    refine dt_iconst 264 dX7_goes_263 rfl ?_
    exact dr_i hF rfl dX7_goes_264 h
theorem A_X7_goes_206 {G : Cx} {b : Ab} {r : Int} {mm : Mi} (hF : Fi yd_X7_goes G b (some (iv r)) (Em mm)) : ∀ (n : Nat) (x1 : Int) (x4 : Int) (x5 : Int) (x6 : Int) (x7 : Int) (x9 : Int) (x10 : Int) (μ : Mi), B_X7_goes_206 n x1 x4 x5 x6 x7 x9 x10 μ = some (r, mm) → At yd_X7_goes G b 206 [some (rf G 7 false), some (iv x1), none, none, some (iv x4), some (iv x5), some (iv x6), some (iv x7), none, some (iv x9), some (iv x10)] [] (Em μ) := by
  intro n
  induction n with
  | zero =>
    intro x1 x4 x5 x6 x7 x9 x10 μ h
    exact nope h
  | succ n hk206 =>
    intro x1 x4 x5 x6 x7 x9 x10 μ h
    replace h : F_X7_goes_206 (B_X7_goes_206 n) x1 x4 x5 x6 x7 x9 x10 μ = some (r, mm) := h
    unfold F_X7_goes_206 at h
    refine dt_bipush 208 dX7_goes_206 bq_24 rfl ?_
    refine dild_11_10 210 dX7_goes_208 rfl ?_
    refine dt_imul 211 dX7_goes_210 rfl ?_
    refine dt_bipush 213 dX7_goes_211 bq_8 rfl ?_
    refine dt_iadd 214 dX7_goes_213 rfl ?_
    refine ald_11_0 215 rfl dX7_goes_214 rfl ?_
    refine dgf_X7_297 218 rfl dX7_goes_215 rfl rfl ?_
    refine dt_icmp_gt 221 271 dX7_goes_218 rfl (by decide) rfl rfl (fun c => ?_) (fun c => ?_)
    · replace h := ifp c h
      refine ald_11_0 272 rfl dX7_goes_271 rfl ?_
      refine dgf_X7_297 275 rfl dX7_goes_272 rfl rfl ?_
      refine dt_bipush 277 dX7_goes_275 bq_24 rfl ?_
      refine dt_idiv 278 dX7_goes_277 (by rw [wk_24]; decide) rfl ?_
      refine dild_11_1 279 dX7_goes_278 rfl ?_
      refine dt_bipush 281 dX7_goes_279 bq_24 rfl ?_
      refine dt_idiv 282 dX7_goes_281 (by rw [wk_24]; decide) rfl ?_
      refine dt_icmp_ne 285 301 dX7_goes_282 rfl (by decide) rfl rfl (fun c => ?_) (fun c => ?_)
      · replace h := ifp c h
        exact At.weak (ls_s (ls_s (ls_n (ls_n (ls_s (ls_s (ls_s (ls_s (ls_n (ls_s (ls_n ls_0))))))))))) (A_X7_goes_301 hF _ _ _ _ _ _ _ h)
      · replace h := ifn c h
        refine ald_11_0 286 rfl dX7_goes_285 rfl ?_
        refine dgf_X7_297 289 rfl dX7_goes_286 rfl rfl ?_
        refine dt_bipush 291 dX7_goes_289 bq_24 rfl ?_
        refine dt_irem 292 dX7_goes_291 (by rw [wk_24]; decide) rfl ?_
        refine dt_bipush 294 dX7_goes_292 bq_8 rfl ?_
        refine dt_icmp_ge 297 301 dX7_goes_294 rfl (by decide) rfl wk_8 (fun c => ?_) (fun c => ?_)
        · replace h := ifp c h
          exact At.weak (ls_s (ls_s (ls_n (ls_n (ls_s (ls_s (ls_s (ls_s (ls_n (ls_s (ls_n ls_0))))))))))) (A_X7_goes_301 hF _ _ _ _ _ _ _ h)
        · replace h := ifn c h
          refine dt_iconst 298 dX7_goes_297 rfl ?_
          refine st_goto 302 dX7_goes_298 (by decide) ?_
          exact At.weak (ls_s (ls_s (ls_n (ls_n (ls_s (ls_s (ls_s (ls_s (ls_n (ls_s (ls_n ls_0))))))))))) (A_X7_goes_302 hF _ _ _ _ _ _ _ _ h)
    · replace h := ifn c h
      refine dt_bipush 223 dX7_goes_221 bq_24 rfl ?_
      refine dild_11_10 225 dX7_goes_223 rfl ?_
      refine dt_imul 226 dX7_goes_225 rfl ?_
      refine dt_bipush 228 dX7_goes_226 bq_8 rfl ?_
      refine dt_iadd 229 dX7_goes_228 rfl ?_
      refine dild_11_1 230 dX7_goes_229 rfl ?_
      refine dt_icmp_gt 233 236 dX7_goes_230 rfl (by decide) rfl rfl (fun c => ?_) (fun c => ?_)
      · replace h := ifp c h
        refine dild_11_10 238 dX7_goes_236 rfl ?_
        refine dild_11_1 239 dX7_goes_238 rfl ?_
        refine dt_bipush 241 dX7_goes_239 bq_24 rfl ?_
        refine dt_idiv 242 dX7_goes_241 (by rw [wk_24]; decide) rfl ?_
        refine dt_icmp_ne 245 250 dX7_goes_242 rfl (by decide) rfl rfl (fun c => ?_) (fun c => ?_)
        · replace h := ifp c h
          refine dt_iconst 251 dX7_goes_250 rfl ?_
          exact A_X7_goes_251 hF hk206 _ _ _ _ _ _ _ _ _ h
        · replace h := ifn c h
          refine dild_11_4 247 dX7_goes_245 rfl ?_
          refine st_goto 251 dX7_goes_247 (by decide) ?_
          exact A_X7_goes_251 hF hk206 _ _ _ _ _ _ _ _ _ h
      · replace h := ifn c h
        refine st_goto 265 dX7_goes_233 (by decide) ?_
        exact A_X7_goes_265 hF hk206 _ _ _ _ _ _ _ _ h
theorem A_X7_goes_200 {G : Cx} {b : Ab} {r : Int} {mm : Mi} (hF : Fi yd_X7_goes G b (some (iv r)) (Em mm)) (x1 : Int) (x4 : Int) (x5 : Int) (x6 : Int) (x7 : Int) (x9 : Int) (μ : Mi) (h : B_X7_goes_200 x1 x4 x5 x6 x7 x9 μ = some (r, mm)) : At yd_X7_goes G b 200 [some (rf G 7 false), some (iv x1), none, none, some (iv x4), some (iv x5), some (iv x6), some (iv x7), none, some (iv x9), none] [] (Em μ) := by
  unfold B_X7_goes_200 at h
  refine dild_11_1 201 dX7_goes_200 rfl ?_
  refine dt_bipush 203 dX7_goes_201 bq_24 rfl ?_
  refine dt_idiv 204 dX7_goes_203 (by rw [wk_24]; decide) rfl ?_
  refine dist_11_10 206 dX7_goes_204 rfl rfl rfl ?_
  exact A_X7_goes_206 hF FU _ _ _ _ _ _ _ _ h
theorem A_X7_goes_149 {G : Cx} {b : Ab} {r : Int} {mm : Mi} (hF : Fi yd_X7_goes G b (some (iv r)) (Em mm)) : ∀ (n : Nat) (x1 : Int) (x4 : Int) (x5 : Int) (x6 : Int) (x7 : Int) (x8 : Int) (x9 : Int) (x10 : Int) (μ : Mi), B_X7_goes_149 n x1 x4 x5 x6 x7 x8 x9 x10 μ = some (r, mm) → At yd_X7_goes G b 149 [some (rf G 7 false), some (iv x1), none, none, some (iv x4), some (iv x5), some (iv x6), some (iv x7), some (iv x8), some (iv x9), some (iv x10)] [] (Em μ) := by
  intro n
  induction n with
  | zero =>
    intro x1 x4 x5 x6 x7 x8 x9 x10 μ h
    exact nope h
  | succ n hk149 =>
    intro x1 x4 x5 x6 x7 x8 x9 x10 μ h
    replace h : F_X7_goes_149 (B_X7_goes_149 n) x1 x4 x5 x6 x7 x8 x9 x10 μ = some (r, mm) := h
    unfold F_X7_goes_149 at h
    refine dild_11_10 151 dX7_goes_149 rfl ?_
    refine ald_11_0 152 rfl dX7_goes_151 rfl ?_
    refine dgf_X7_297 155 rfl dX7_goes_152 rfl rfl ?_
    refine dt_icmp_ge 158 177 dX7_goes_155 rfl (by decide) rfl rfl (fun c => ?_) (fun c => ?_)
    · replace h := ifp c h
      refine dild_11_8 179 dX7_goes_177 rfl ?_
      refine dt_if_eq 182 200 dX7_goes_179 rfl (by decide) rfl (fun c => ?_) (fun c => ?_)
      · replace h := ifp c h
        exact At.weak (ls_s (ls_s (ls_n (ls_n (ls_s (ls_s (ls_s (ls_s (ls_n (ls_s (ls_n ls_0))))))))))) (A_X7_goes_200 hF _ _ _ _ _ _ _ h)
      · replace h := ifn c h
        refine dild_11_1 183 dX7_goes_182 rfl ?_
        refine dt_bipush 185 dX7_goes_183 bq_24 rfl ?_
        refine dt_irem 186 dX7_goes_185 (by rw [wk_24]; decide) rfl ?_
        refine dt_bipush 188 dX7_goes_186 bq_8 rfl ?_
        refine dt_icmp_ge 191 200 dX7_goes_188 rfl (by decide) rfl wk_8 (fun c => ?_) (fun c => ?_)
        · replace h := ifp c h
          exact At.weak (ls_s (ls_s (ls_n (ls_n (ls_s (ls_s (ls_s (ls_s (ls_n (ls_s (ls_n ls_0))))))))))) (A_X7_goes_200 hF _ _ _ _ _ _ _ h)
        · replace h := ifn c h
          refine dild_11_4 193 dX7_goes_191 rfl ?_
          refine dt_iconst 194 dX7_goes_193 rfl ?_
          refine dt_icmp_ge 197 200 dX7_goes_194 rfl (by decide) rfl wk_4 (fun c => ?_) (fun c => ?_)
          · replace h := ifp c h
            exact At.weak (ls_s (ls_s (ls_n (ls_n (ls_s (ls_s (ls_s (ls_s (ls_n (ls_s (ls_n ls_0))))))))))) (A_X7_goes_200 hF _ _ _ _ _ _ _ h)
          · replace h := ifn c h
            refine dinc_11_4 200 dX7_goes_197 rfl rfl rfl ?_
            exact At.weak (ls_s (ls_s (ls_n (ls_n (ls_s (ls_s (ls_s (ls_s (ls_n (ls_s (ls_n ls_0))))))))))) (A_X7_goes_200 hF _ _ _ _ _ _ _ h)
    · replace h := ifn c h
      refine ald_11_0 159 rfl dX7_goes_158 rfl ?_
      refine dgf_X7_85 162 rfl dX7_goes_159 rfl ?_
      refine dild_11_10 164 dX7_goes_162 rfl ?_
      obtain ⟨hi, h⟩ := ift h
      refine diald 165 rfl rfl rfl hi rfl rfl dX7_goes_164 rfl ?_
      refine dt_iconst 166 dX7_goes_165 rfl ?_
      refine dt_icmp_eq 169 171 dX7_goes_166 rfl (by decide) rfl wk_m1 (fun c => ?_) (fun c => ?_)
      · replace h := ifp c h
        refine dinc_11_10 174 dX7_goes_171 rfl rfl rfl ?_
        refine st_goto 149 dX7_goes_174 (by decide) ?_
        exact hk149 _ _ _ _ _ _ _ _ _ h
      · replace h := ifn c h
        refine dt_iconst 170 dX7_goes_169 rfl ?_
        exact dr_i hF rfl dX7_goes_170 h
theorem A_X7_goes_142 {G : Cx} {b : Ab} {r : Int} {mm : Mi} (hF : Fi yd_X7_goes G b (some (iv r)) (Em mm)) (x1 : Int) (x4 : Int) (x5 : Int) (x6 : Int) (x7 : Int) (x8 : Int) (s0 : Int) (μ : Mi) (h : B_X7_goes_142 x1 x4 x5 x6 x7 x8 s0 μ = some (r, mm)) : At yd_X7_goes G b 142 [some (rf G 7 false), some (iv x1), none, none, some (iv x4), some (iv x5), some (iv x6), some (iv x7), some (iv x8), none, none] [iv s0] (Em μ) := by
  unfold B_X7_goes_142 at h
  refine dist_11_9 144 dX7_goes_142 rfl rfl rfl ?_
  refine dild_11_1 145 dX7_goes_144 rfl ?_
  refine dt_iconst 146 dX7_goes_145 rfl ?_
  refine dt_iadd 147 dX7_goes_146 rfl ?_
  refine dist_11_10 149 dX7_goes_147 rfl rfl rfl ?_
  exact A_X7_goes_149 hF FU _ _ _ _ _ _ _ _ _ h
theorem A_X7_goes_105 {G : Cx} {b : Ab} {r : Int} {mm : Mi} (hF : Fi yd_X7_goes G b (some (iv r)) (Em mm)) (x1 : Int) (x3 : Int) (x4 : Int) (x5 : Int) (x6 : Int) (x7 : Int) (x8 : Int) (s0 : Int) (μ : Mi) (h : B_X7_goes_105 x1 x3 x4 x5 x6 x7 x8 s0 μ = some (r, mm)) : At yd_X7_goes G b 105 [some (rf G 7 false), some (iv x1), none, some (iv x3), some (iv x4), some (iv x5), some (iv x6), some (iv x7), some (iv x8), none, none] [iv s0, rf G 7 false] (Em μ) := by
  unfold B_X7_goes_105 at h
  refine dpf_X7_297 108 rfl dX7_goes_105 rfl ?_
  refine ald_11_0 109 rfl dX7_goes_108 rfl ?_
  refine dgf_X7_297 112 rfl dX7_goes_109 rfl (rd_s) ?_
  refine ald_11_0 113 rfl dX7_goes_112 rfl ?_
  refine dgf_X7_51 116 rfl dX7_goes_113 rfl ?_
  refine ald_11_0 117 rfl dX7_goes_116 rfl ?_
  refine dgf_X7_279 120 rfl dX7_goes_117 rfl (rd_oj (by decide)) ?_
  obtain ⟨hi, h⟩ := ift h
  refine diald 121 rfl rfl rfl hi rfl (rd_o (by decide)) dX7_goes_120 rfl ?_
  refine dt_icmp_le 124 126 dX7_goes_121 rfl (by decide) rfl rfl (fun c => ?_) (fun c => ?_)
  · replace h := ifp c h
    refine dild_11_8 128 dX7_goes_126 rfl ?_
    refine dt_if_eq 131 136 dX7_goes_128 rfl (by decide) rfl (fun c => ?_) (fun c => ?_)
    · replace h := ifp c h
      refine ald_11_0 137 rfl dX7_goes_136 rfl ?_
      refine dild_11_3 138 dX7_goes_137 rfl ?_
      refine dt_iconst 139 dX7_goes_138 rfl ?_
      obtain ⟨r1, h1, h⟩ := bp_some h
      refine cvi_2 142 cw_X7_276 (S_X7_ofLink h1) rfl ⟨by decide, by decide⟩ rfl rfl rfl rfl rfl (Nat.le_of_ble_eq_true rfl) dX7_goes_139 rfl ?_
      exact At.weak (ls_s (ls_s (ls_n (ls_n (ls_s (ls_s (ls_s (ls_s (ls_s (ls_n (ls_n ls_0))))))))))) (A_X7_goes_142 hF _ _ _ _ _ _ _ _ h)
    · replace h := ifn c h
      refine dild_11_7 133 dX7_goes_131 rfl ?_
      refine st_goto 142 dX7_goes_133 (by decide) ?_
      exact At.weak (ls_s (ls_s (ls_n (ls_n (ls_s (ls_s (ls_s (ls_s (ls_s (ls_n (ls_n ls_0))))))))))) (A_X7_goes_142 hF _ _ _ _ _ _ _ _ h)
  · replace h := ifn c h
    refine dt_iconst 125 dX7_goes_124 rfl ?_
    exact dr_i hF rfl dX7_goes_125 h
theorem A_X7_goes_85 {G : Cx} {b : Ab} {r : Int} {mm : Mi} (hF : Fi yd_X7_goes G b (some (iv r)) (Em mm)) (x1 : Int) (x3 : Int) (x4 : Int) (x5 : Int) (x6 : Int) (x7 : Int) (x8 : Int) (μ : Mi) (h : B_X7_goes_85 x1 x3 x4 x5 x6 x7 x8 μ = some (r, mm)) : At yd_X7_goes G b 85 [some (rf G 7 false), some (iv x1), none, some (iv x3), some (iv x4), some (iv x5), some (iv x6), some (iv x7), some (iv x8), none, none] [] (Em μ) := by
  unfold B_X7_goes_85 at h
  refine ald_11_0 86 rfl dX7_goes_85 rfl ?_
  refine dild_11_8 88 dX7_goes_86 rfl ?_
  refine dt_if_eq 91 97 dX7_goes_88 rfl (by decide) rfl (fun c => ?_) (fun c => ?_)
  · replace h := ifp c h
    refine dild_11_1 98 dX7_goes_97 rfl ?_
    refine ald_11_0 99 rfl dX7_goes_98 rfl ?_
    refine dild_11_3 100 dX7_goes_99 rfl ?_
    refine dt_iconst 101 dX7_goes_100 rfl ?_
    obtain ⟨r1, h1, h⟩ := bp_some h
    refine cvi_2 104 cw_X7_276 (S_X7_ofLink h1) rfl ⟨by decide, by decide⟩ rfl rfl rfl rfl rfl (Nat.le_of_ble_eq_true rfl) dX7_goes_101 rfl ?_
    refine dt_iadd 105 dX7_goes_104 rfl ?_
    exact A_X7_goes_105 hF _ _ _ _ _ _ _ _ _ h
  · replace h := ifn c h
    refine dild_11_1 92 dX7_goes_91 rfl ?_
    refine dt_iconst 93 dX7_goes_92 rfl ?_
    refine dt_iadd 94 dX7_goes_93 rfl ?_
    refine st_goto 105 dX7_goes_94 (by decide) ?_
    exact A_X7_goes_105 hF _ _ _ _ _ _ _ _ _ h
theorem A_X7_goes_80 {G : Cx} {b : Ab} {r : Int} {mm : Mi} (hF : Fi yd_X7_goes G b (some (iv r)) (Em mm)) (x1 : Int) (x3 : Int) (x4 : Int) (x5 : Int) (x6 : Int) (x7 : Int) (x8 : Int) (s0 : Int) (s1 : Int) (μ : Mi) (h : B_X7_goes_80 x1 x3 x4 x5 x6 x7 x8 s0 s1 μ = some (r, mm)) : At yd_X7_goes G b 80 [some (rf G 7 false), some (iv x1), none, some (iv x3), some (iv x4), some (iv x5), some (iv x6), some (iv x7), some (iv x8), none, none] [iv s0, iv s1] (Em μ) := by
  unfold B_X7_goes_80 at h
  refine dt_icmp_eq 83 85 dX7_goes_80 rfl (by decide) rfl rfl (fun c => ?_) (fun c => ?_)
  · replace h := ifp c h
    exact A_X7_goes_85 hF _ _ _ _ _ _ _ _ h
  · replace h := ifn c h
    refine dt_iconst 84 dX7_goes_83 rfl ?_
    exact dr_i hF rfl dX7_goes_84 h
theorem A_X7_goes_38 {G : Cx} {b : Ab} {r : Int} {mm : Mi} (hF : Fi yd_X7_goes G b (some (iv r)) (Em mm)) (x1 : Int) (x3 : Int) (x4 : Int) (x5 : Int) (x6 : Int) (x7 : Int) (s0 : Int) (μ : Mi) (h : B_X7_goes_38 x1 x3 x4 x5 x6 x7 s0 μ = some (r, mm)) : At yd_X7_goes G b 38 [some (rf G 7 false), some (iv x1), none, some (iv x3), some (iv x4), some (iv x5), some (iv x6), some (iv x7), none, none, none] [iv s0] (Em μ) := by
  unfold B_X7_goes_38 at h
  refine dist_11_8 40 dX7_goes_38 rfl rfl rfl ?_
  refine dild_11_8 42 dX7_goes_40 rfl ?_
  refine dt_if_ne 45 85 dX7_goes_42 rfl (by decide) rfl (fun c => ?_) (fun c => ?_)
  · replace h := ifp c h
    exact A_X7_goes_85 hF _ _ _ _ _ _ _ _ h
  · replace h := ifn c h
    refine ald_11_0 46 rfl dX7_goes_45 rfl ?_
    refine dild_11_3 47 dX7_goes_46 rfl ?_
    refine dt_iconst 48 dX7_goes_47 rfl ?_
    obtain ⟨r1, h1, h⟩ := bp_some h
    refine cvi_2 51 cw_X7_276 (S_X7_ofLink h1) rfl ⟨by decide, by decide⟩ rfl rfl rfl rfl rfl (Nat.le_of_ble_eq_true rfl) dX7_goes_48 rfl ?_
    refine dild_11_7 53 dX7_goes_51 rfl ?_
    refine dt_icmp_ne 56 83 dX7_goes_53 rfl (by decide) rfl rfl (fun c => ?_) (fun c => ?_)
    · replace h := ifp c h
      refine dt_iconst 84 dX7_goes_83 rfl ?_
      exact dr_i hF rfl dX7_goes_84 h
    · replace h := ifn c h
      refine ald_11_0 57 rfl dX7_goes_56 rfl ?_
      refine dild_11_3 58 dX7_goes_57 rfl ?_
      refine dt_iconst 59 dX7_goes_58 rfl ?_
      obtain ⟨r2, h2, h⟩ := bp_some h
      refine cvi_2 62 cw_X7_276 (S_X7_ofLink h2) rfl ⟨by decide, by decide⟩ rfl rfl rfl rfl rfl (Nat.le_of_ble_eq_true rfl) dX7_goes_59 rfl ?_
      refine ald_11_0 63 rfl dX7_goes_62 rfl ?_
      refine dild_11_3 64 dX7_goes_63 rfl ?_
      refine dt_iconst 65 dX7_goes_64 rfl ?_
      obtain ⟨r3, h3, h⟩ := bp_some h
      refine cvi_2 68 cw_X7_276 (S_X7_ofLink h3) rfl ⟨by decide, by decide⟩ rfl rfl rfl rfl rfl (Nat.le_of_ble_eq_true rfl) dX7_goes_65 rfl ?_
      refine dt_iconst 69 dX7_goes_68 rfl ?_
      refine dt_icmp_ne 72 79 dX7_goes_69 rfl (by decide) rfl wk_1 (fun c => ?_) (fun c => ?_)
      · replace h := ifp c h
        refine dild_11_1 80 dX7_goes_79 rfl ?_
        exact A_X7_goes_80 hF _ _ _ _ _ _ _ _ _ _ h
      · replace h := ifn c h
        refine dild_11_1 73 dX7_goes_72 rfl ?_
        refine dt_bipush 75 dX7_goes_73 bq_24 rfl ?_
        refine dt_irem 76 dX7_goes_75 (by rw [wk_24]; decide) rfl ?_
        refine st_goto 80 dX7_goes_76 (by decide) ?_
        exact A_X7_goes_80 hF _ _ _ _ _ _ _ _ _ _ h
theorem S_X7_goes {G : Cx} {μ : Mi} {x1 : Int} {x2 : Int} {x3 : Int} {r : Int} {mm : Mi} (h : D_X7_goes x1 x2 x3 μ = some (r, mm)) : Spec yd_X7_goes G [rf G 7 false, iv x1, iv x2, iv x3] (Em μ) (some (iv r)) (Em mm) := by
  refine Spec.of (by decide) rfl (catL_ok rfl) (Nat.le_of_ble_eq_true rfl) rfl (fun b hF => ?_)
  unfold D_X7_goes at h
  refine dild_11_2 1 dX7_goes_0 rfl ?_
  refine dt_iconst 2 dX7_goes_1 rfl ?_
  refine dt_irem 3 dX7_goes_2 (by rw [wk_5]; decide) rfl ?_
  refine dist_11_4 5 dX7_goes_3 rfl rfl rfl ?_
  refine dild_11_2 6 dX7_goes_5 rfl ?_
  refine dt_iconst 7 dX7_goes_6 rfl ?_
  refine dt_idiv 8 dX7_goes_7 (by rw [wk_5]; decide) rfl ?_
  refine dt_iconst 9 dX7_goes_8 rfl ?_
  refine dt_irem 10 dX7_goes_9 (by rw [wk_4]; decide) rfl ?_
  refine dist_11_5 12 dX7_goes_10 rfl rfl rfl ?_
  refine dild_11_2 13 dX7_goes_12 rfl ?_
  refine dt_bipush 15 dX7_goes_13 bq_20 rfl ?_
  refine dt_idiv 16 dX7_goes_15 (by rw [wk_20]; decide) rfl ?_
  refine dt_bipush 18 dX7_goes_16 bq_7 rfl ?_
  refine dt_irem 19 dX7_goes_18 (by rw [wk_7]; decide) rfl ?_
  refine dist_11_6 21 dX7_goes_19 rfl rfl rfl ?_
  refine dild_11_2 22 dX7_goes_21 rfl ?_
  refine dt_sipush 25 dX7_goes_22 sq_140 rfl ?_
  refine dt_idiv 26 dX7_goes_25 (by rw [wk_140]; decide) rfl ?_
  refine dist_11_7 28 dX7_goes_26 rfl rfl rfl ?_
  refine dild_11_3 29 dX7_goes_28 rfl ?_
  refine dt_iconst 30 dX7_goes_29 rfl ?_
  refine dt_icmp_ne 33 37 dX7_goes_30 rfl (by decide) rfl wk_m1 (fun c => ?_) (fun c => ?_)
  · replace h := ifp c h
    refine dt_iconst 38 dX7_goes_37 rfl ?_
    exact At.weak (ls_s (ls_s (ls_n (ls_s (ls_s (ls_s (ls_s (ls_s (ls_n (ls_n (ls_n ls_0))))))))))) (A_X7_goes_38 hF _ _ _ _ _ _ _ _ h)
  · replace h := ifn c h
    refine dt_iconst 34 dX7_goes_33 rfl ?_
    refine st_goto 38 dX7_goes_34 (by decide) ?_
    exact At.weak (ls_s (ls_s (ls_n (ls_s (ls_s (ls_s (ls_s (ls_s (ls_n (ls_n (ls_n ls_0))))))))))) (A_X7_goes_38 hF _ _ _ _ _ _ _ _ h)
/-- StampTalesModel.start -/
theorem S_X7_start {G : Cx} {μ : Mi} {r : Int} (h : D_X7_start μ = some r) : Spec yd_X7_start G [rf G 7 false] (Em μ) (some (iv r)) (Em μ) := by
  refine Spec.of (by decide) rfl (catL_ok rfl) (Nat.le_of_ble_eq_true rfl) rfl (fun b hF => ?_)
  unfold D_X7_start at h
  refine ald_1_0 1 rfl dX7_start_0 rfl ?_
  refine dt_iconst 2 dX7_start_1 rfl ?_
  refine ald_1_0 3 rfl dX7_start_2 rfl ?_
  refine dgf_X7_45 6 rfl dX7_start_3 rfl ?_
  refine ald_1_0 7 rfl dX7_start_6 rfl ?_
  refine dgf_X7_279 10 rfl dX7_start_7 rfl rfl ?_
  obtain ⟨hi, h⟩ := ift h
  refine diald 11 rfl rfl rfl hi rfl rfl dX7_start_10 rfl ?_
  refine dt_iconst 12 dX7_start_11 rfl ?_
  refine dt_iconst 13 dX7_start_12 rfl ?_
  refine dt_iconst 14 dX7_start_13 rfl ?_
  obtain ⟨r1, h1, h⟩ := bp_some h
  refine cvi_5 17 cw_X7_304 (S_X7_comesTo h1) rfl ⟨by decide, by decide⟩ rfl rfl rfl rfl rfl (Nat.le_of_ble_eq_true rfl) dX7_start_14 rfl ?_
  exact dr_ip hF rfl dX7_start_17 h
/-- StampTalesModel.ends -/
theorem S_X7_ends {G : Cx} {μ : Mi} (x1 : Int) : Spec yd_X7_ends G [rf G 7 false, iv x1] (Em μ) (some (iv (D_X7_ends x1 μ))) (Em μ) := by
  generalize h : D_X7_ends x1 μ = r
  refine Spec.of (by decide) rfl (catL_ok rfl) (Nat.le_of_ble_eq_true rfl) rfl (fun b hF => ?_)
  unfold D_X7_ends at h
  refine dild_2_1 1 dX7_ends_0 rfl ?_
  refine dt_iconst 2 dX7_ends_1 rfl ?_
  refine dt_idiv 3 dX7_ends_2 (by rw [wk_5]; decide) rfl ?_
  refine dt_iconst 4 dX7_ends_3 rfl ?_
  refine dt_irem 5 dX7_ends_4 (by rw [wk_4]; decide) rfl ?_
  refine dt_iconst 6 dX7_ends_5 rfl ?_
  refine ald_2_0 7 rfl dX7_ends_6 rfl ?_
  refine dgf_X7_285 10 rfl dX7_ends_7 rfl rfl ?_
  refine dt_ishl 11 dX7_ends_10 rfl ?_
  refine dt_iconst 12 dX7_ends_11 rfl ?_
  refine dt_isub 13 dX7_ends_12 rfl ?_
  refine dt_icmp_ne 16 34 dX7_ends_13 rfl (by decide) rfl rfl (fun c => ?_) (fun c => ?_)
  · replace h := ifp c h
    refine dt_iconst 35 dX7_ends_34 rfl ?_
    exact dr_zt hF rfl isB_0 dX7_ends_35 h
  · replace h := ifn c h
    refine dild_2_1 17 dX7_ends_16 rfl ?_
    refine dt_bipush 19 dX7_ends_17 bq_20 rfl ?_
    refine dt_idiv 20 dX7_ends_19 (by rw [wk_20]; decide) rfl ?_
    refine dt_bipush 22 dX7_ends_20 bq_7 rfl ?_
    refine dt_irem 23 dX7_ends_22 (by rw [wk_7]; decide) rfl ?_
    refine ald_2_0 24 rfl dX7_ends_23 rfl ?_
    refine dgf_X7_282 27 rfl dX7_ends_24 rfl rfl ?_
    refine dt_icmp_ne 30 34 dX7_ends_27 rfl (by decide) rfl rfl (fun c => ?_) (fun c => ?_)
    · replace h := ifp c h
      refine dt_iconst 35 dX7_ends_34 rfl ?_
      exact dr_zt hF rfl isB_0 dX7_ends_35 h
    · replace h := ifn c h
      refine dt_iconst 31 dX7_ends_30 rfl ?_
      refine st_goto 35 dX7_ends_31 (by decide) ?_
      exact dr_zt hF rfl isB_1 dX7_ends_35 h
/-- StampTalesModel.finds -/
theorem A_X7_finds_204 {G : Cx} {b : Ab} {r : Int} {mm : Mi} {k164 : (Int → Mi → Option (Int × Mi))} (hF : Fi yd_X7_finds G b (some (iv r)) (Em mm)) (hk164 : ∀ (x2 : Int) (m : Mi), k164 x2 m = some (r, mm) → At yd_X7_finds G b 164 [some (rf G 7 false), none, some (iv x2), none, none, none] [] (Em m)) (x2 : Int) (μ : Mi) (h : B_X7_finds_204 k164 x2 μ = some (r, mm)) : At yd_X7_finds G b 204 [some (rf G 7 false), none, some (iv x2), none, none, none] [] (Em μ) := by
  unfold B_X7_finds_204 at h
  refine dinc_6_2 207 dX7_finds_204 rfl rfl rfl ?_
  refine st_goto 164 dX7_finds_207 (by decide) ?_
  exact hk164 _ _ h
theorem A_X7_finds_164 {G : Cx} {b : Ab} {r : Int} {mm : Mi} (hF : Fi yd_X7_finds G b (some (iv r)) (Em mm)) : ∀ (n : Nat) (x2 : Int) (μ : Mi), B_X7_finds_164 n x2 μ = some (r, mm) → At yd_X7_finds G b 164 [some (rf G 7 false), none, some (iv x2), none, none, none] [] (Em μ) := by
  intro n
  induction n with
  | zero =>
    intro x2 μ h
    exact nope h
  | succ n hk164 =>
    intro x2 μ h
    replace h : F_X7_finds_164 (B_X7_finds_164 n) x2 μ = some (r, mm) := h
    unfold F_X7_finds_164 at h
    refine dild_6_2 165 dX7_finds_164 rfl ?_
    refine dt_sipush 168 dX7_finds_165 sq_1120 rfl ?_
    refine dt_icmp_ge 171 210 dX7_finds_168 rfl (by decide) rfl wk_1120 (fun c => ?_) (fun c => ?_)
    · replace h := ifp c h
      refine dt_iconst 211 dX7_finds_210 rfl ?_
      exact dr_z hF rfl isB_0 dX7_finds_211 h
    · replace h := ifn c h
      refine ald_6_0 172 rfl dX7_finds_171 rfl ?_
      refine dgf_X7_104 175 rfl dX7_finds_172 rfl ?_
      refine ald_6_0 176 rfl dX7_finds_175 rfl ?_
      refine dgf_X7_51 179 rfl dX7_finds_176 rfl ?_
      refine ald_6_0 180 rfl dX7_finds_179 rfl ?_
      refine dgf_X7_279 183 rfl dX7_finds_180 rfl rfl ?_
      obtain ⟨hi, h⟩ := ift h
      refine diald 184 rfl rfl rfl hi rfl rfl dX7_finds_183 rfl ?_
      refine dt_sipush 187 dX7_finds_184 sq_1120 rfl ?_
      refine dt_imul 188 dX7_finds_187 rfl ?_
      refine dild_6_2 189 dX7_finds_188 rfl ?_
      refine dt_iadd 190 dX7_finds_189 rfl ?_
      obtain ⟨hi, h⟩ := ift h
      refine dzald 191 rfl rfl rfl hi rfl rfl dX7_finds_190 rfl ?_
      refine dt_if_eq 194 204 dX7_finds_191 rfl (by decide) rfl (fun c => ?_) (fun c => ?_)
      · replace h := ifp c h
        exact A_X7_finds_204 hF hk164 _ _ h
      · replace h := ifn c h
        refine ald_6_0 195 rfl dX7_finds_194 rfl ?_
        refine dild_6_2 196 dX7_finds_195 rfl ?_
        refine cvi_1 199 cw_X7_314 (S_X7_ends x2) rfl ⟨by decide, by decide⟩ rfl rfl rfl rfl rfl (Nat.le_of_ble_eq_true rfl) dX7_finds_196 rfl ?_
        refine dt_if_eq 202 204 dX7_finds_199 rfl (by decide) rfl (fun c => ?_) (fun c => ?_)
        · replace h := ifp c h
          exact A_X7_finds_204 hF hk164 _ _ h
        · replace h := ifn c h
          refine dt_iconst 203 dX7_finds_202 rfl ?_
          exact dr_z hF rfl isB_1 dX7_finds_203 h
theorem A_X7_finds_150 {G : Cx} {b : Ab} {r : Int} {mm : Mi} {k59 : (Int → Mi → Option (Int × Mi))} {k74 : (Int → Int → Mi → Option (Int × Mi))} (hF : Fi yd_X7_finds G b (some (iv r)) (Em mm)) (hk59 : ∀ (x2 : Int) (m : Mi), k59 x2 m = some (r, mm) → At yd_X7_finds G b 59 [some (rf G 7 false), none, some (iv x2), none, none, none] [] (Em m)) (hk74 : ∀ (x2 : Int) (x3 : Int) (m : Mi), k74 x2 x3 m = some (r, mm) → At yd_X7_finds G b 74 [some (rf G 7 false), none, some (iv x2), some (iv x3), none, none] [] (Em m)) (x2 : Int) (x3 : Int) (μ : Mi) (h : B_X7_finds_150 k59 k74 x2 x3 μ = some (r, mm)) : At yd_X7_finds G b 150 [some (rf G 7 false), none, some (iv x2), some (iv x3), none, none] [] (Em μ) := by
  unfold B_X7_finds_150 at h
  refine dinc_6_3 153 dX7_finds_150 rfl rfl rfl ?_
  refine st_goto 74 dX7_finds_153 (by decide) ?_
  exact hk74 _ _ _ h
theorem A_X7_finds_144 {G : Cx} {b : Ab} {r : Int} {mm : Mi} {k59 : (Int → Mi → Option (Int × Mi))} {k74 : (Int → Int → Mi → Option (Int × Mi))} {k102 : (Int → Int → Int → Mi → Option (Int × Mi))} (hF : Fi yd_X7_finds G b (some (iv r)) (Em mm)) (hk59 : ∀ (x2 : Int) (m : Mi), k59 x2 m = some (r, mm) → At yd_X7_finds G b 59 [some (rf G 7 false), none, some (iv x2), none, none, none] [] (Em m)) (hk74 : ∀ (x2 : Int) (x3 : Int) (m : Mi), k74 x2 x3 m = some (r, mm) → At yd_X7_finds G b 74 [some (rf G 7 false), none, some (iv x2), some (iv x3), none, none] [] (Em m)) (hk102 : ∀ (x2 : Int) (x3 : Int) (x4 : Int) (m : Mi), k102 x2 x3 x4 m = some (r, mm) → At yd_X7_finds G b 102 [some (rf G 7 false), none, some (iv x2), some (iv x3), some (iv x4), none] [] (Em m)) (x2 : Int) (x3 : Int) (x4 : Int) (μ : Mi) (h : B_X7_finds_144 k59 k74 k102 x2 x3 x4 μ = some (r, mm)) : At yd_X7_finds G b 144 [some (rf G 7 false), none, some (iv x2), some (iv x3), some (iv x4), none] [] (Em μ) := by
  unfold B_X7_finds_144 at h
  refine dinc_6_4 147 dX7_finds_144 rfl rfl rfl ?_
  refine st_goto 102 dX7_finds_147 (by decide) ?_
  exact hk102 _ _ _ _ h
theorem A_X7_finds_102 {G : Cx} {b : Ab} {r : Int} {mm : Mi} {k59 : (Int → Mi → Option (Int × Mi))} {k74 : (Int → Int → Mi → Option (Int × Mi))} (hF : Fi yd_X7_finds G b (some (iv r)) (Em mm)) (hk59 : ∀ (x2 : Int) (m : Mi), k59 x2 m = some (r, mm) → At yd_X7_finds G b 59 [some (rf G 7 false), none, some (iv x2), none, none, none] [] (Em m)) (hk74 : ∀ (x2 : Int) (x3 : Int) (m : Mi), k74 x2 x3 m = some (r, mm) → At yd_X7_finds G b 74 [some (rf G 7 false), none, some (iv x2), some (iv x3), none, none] [] (Em m)) : ∀ (n : Nat) (x2 : Int) (x3 : Int) (x4 : Int) (μ : Mi), B_X7_finds_102 k59 k74 n x2 x3 x4 μ = some (r, mm) → At yd_X7_finds G b 102 [some (rf G 7 false), none, some (iv x2), some (iv x3), some (iv x4), none] [] (Em μ) := by
  intro n
  induction n with
  | zero =>
    intro x2 x3 x4 μ h
    exact nope h
  | succ n hk102 =>
    intro x2 x3 x4 μ h
    replace h : F_X7_finds_102 k59 k74 (B_X7_finds_102 k59 k74 n) x2 x3 x4 μ = some (r, mm) := h
    unfold F_X7_finds_102 at h
    refine dild_6_4 104 dX7_finds_102 rfl ?_
    refine ald_6_0 105 rfl dX7_finds_104 rfl ?_
    refine dgf_X7_250 108 rfl dX7_finds_105 rfl rfl ?_
    refine dt_icmp_ge 111 150 dX7_finds_108 rfl (by decide) rfl rfl (fun c => ?_) (fun c => ?_)
    · replace h := ifp c h
      exact At.weak (ls_s (ls_n (ls_s (ls_s (ls_n (ls_n ls_0)))))) (A_X7_finds_150 hF hk59 hk74 _ _ _ h)
    · replace h := ifn c h
      refine ald_6_0 112 rfl dX7_finds_111 rfl ?_
      refine dild_6_2 113 dX7_finds_112 rfl ?_
      refine dild_6_3 114 dX7_finds_113 rfl ?_
      refine dild_6_4 116 dX7_finds_114 rfl ?_
      obtain ⟨r1, m1, h1, h⟩ := bd_some h
      refine cvi_3 119 cw_X7_310 (S_X7_goes h1) rfl ⟨by decide, by decide⟩ rfl rfl rfl rfl rfl (Nat.le_of_ble_eq_true rfl) dX7_finds_116 rfl ?_
      refine dist_6_5 121 dX7_finds_119 rfl rfl rfl ?_
      refine dild_6_5 123 dX7_finds_121 rfl ?_
      refine dt_iconst 124 dX7_finds_123 rfl ?_
      refine dt_icmp_eq 127 144 dX7_finds_124 rfl (by decide) rfl wk_m1 (fun c => ?_) (fun c => ?_)
      · replace h := ifp c h
        exact At.weak (ls_s (ls_n (ls_s (ls_s (ls_s (ls_n ls_0)))))) (A_X7_finds_144 hF hk59 hk74 hk102 _ _ _ _ h)
      · replace h := ifn c h
        refine ald_6_0 128 rfl dX7_finds_127 rfl ?_
        refine dgf_X7_104 131 rfl dX7_finds_128 rfl ?_
        refine ald_6_0 132 rfl dX7_finds_131 rfl ?_
        refine dgf_X7_297 135 rfl dX7_finds_132 rfl rfl ?_
        refine dt_sipush 138 dX7_finds_135 sq_1120 rfl ?_
        refine dt_imul 139 dX7_finds_138 rfl ?_
        refine dild_6_5 141 dX7_finds_139 rfl ?_
        refine dt_iadd 142 dX7_finds_141 rfl ?_
        refine dt_iconst 143 dX7_finds_142 rfl ?_
        obtain ⟨hi, h⟩ := ift h
        refine dzast 144 rfl rfl rfl hi rfl isB_1 dX7_finds_143 rfl ?_
        exact At.weak (ls_s (ls_n (ls_s (ls_s (ls_s (ls_n ls_0)))))) (A_X7_finds_144 hF hk59 hk74 hk102 _ _ _ _ h)
theorem A_X7_finds_74 {G : Cx} {b : Ab} {r : Int} {mm : Mi} {k59 : (Int → Mi → Option (Int × Mi))} (hF : Fi yd_X7_finds G b (some (iv r)) (Em mm)) (hk59 : ∀ (x2 : Int) (m : Mi), k59 x2 m = some (r, mm) → At yd_X7_finds G b 59 [some (rf G 7 false), none, some (iv x2), none, none, none] [] (Em m)) : ∀ (n : Nat) (x2 : Int) (x3 : Int) (μ : Mi), B_X7_finds_74 k59 n x2 x3 μ = some (r, mm) → At yd_X7_finds G b 74 [some (rf G 7 false), none, some (iv x2), some (iv x3), none, none] [] (Em μ) := by
  intro n
  induction n with
  | zero =>
    intro x2 x3 μ h
    exact nope h
  | succ n hk74 =>
    intro x2 x3 μ h
    replace h : F_X7_finds_74 k59 (B_X7_finds_74 k59 n) x2 x3 μ = some (r, mm) := h
    unfold F_X7_finds_74 at h
    refine dild_6_3 75 dX7_finds_74 rfl ?_
    refine dt_sipush 78 dX7_finds_75 sq_1120 rfl ?_
    refine dt_icmp_ge 81 156 dX7_finds_78 rfl (by decide) rfl wk_1120 (fun c => ?_) (fun c => ?_)
    · replace h := ifp c h
      refine dinc_6_2 159 dX7_finds_156 rfl rfl rfl ?_
      refine st_goto 59 dX7_finds_159 (by decide) ?_
      exact At.weak (ls_s (ls_n (ls_s (ls_n (ls_n (ls_n ls_0)))))) (hk59 _ _ h)
    · replace h := ifn c h
      refine ald_6_0 82 rfl dX7_finds_81 rfl ?_
      refine dgf_X7_104 85 rfl dX7_finds_82 rfl ?_
      refine dild_6_2 86 dX7_finds_85 rfl ?_
      refine dt_sipush 89 dX7_finds_86 sq_1120 rfl ?_
      refine dt_imul 90 dX7_finds_89 rfl ?_
      refine dild_6_3 91 dX7_finds_90 rfl ?_
      refine dt_iadd 92 dX7_finds_91 rfl ?_
      obtain ⟨hi, h⟩ := ift h
      refine dzald 93 rfl rfl rfl hi rfl rfl dX7_finds_92 rfl ?_
      refine dt_if_ne 96 99 dX7_finds_93 rfl (by decide) rfl (fun c => ?_) (fun c => ?_)
      · replace h := ifp c h
        refine dt_iconst 100 dX7_finds_99 rfl ?_
        refine dist_6_4 102 dX7_finds_100 rfl rfl rfl ?_
        exact A_X7_finds_102 hF hk59 hk74 FU _ _ _ _ h
      · replace h := ifn c h
        refine st_goto 150 dX7_finds_96 (by decide) ?_
        exact A_X7_finds_150 hF hk59 hk74 _ _ _ h
theorem A_X7_finds_59 {G : Cx} {b : Ab} {r : Int} {mm : Mi} (hF : Fi yd_X7_finds G b (some (iv r)) (Em mm)) : ∀ (n : Nat) (x2 : Int) (μ : Mi), B_X7_finds_59 n x2 μ = some (r, mm) → At yd_X7_finds G b 59 [some (rf G 7 false), none, some (iv x2), none, none, none] [] (Em μ) := by
  intro n
  induction n with
  | zero =>
    intro x2 μ h
    exact nope h
  | succ n hk59 =>
    intro x2 μ h
    replace h : F_X7_finds_59 (B_X7_finds_59 n) x2 μ = some (r, mm) := h
    unfold F_X7_finds_59 at h
    refine dild_6_2 60 dX7_finds_59 rfl ?_
    refine ald_6_0 61 rfl dX7_finds_60 rfl ?_
    refine dgf_X7_51 64 rfl dX7_finds_61 rfl ?_
    refine ald_6_0 65 rfl dX7_finds_64 rfl ?_
    refine dgf_X7_279 68 rfl dX7_finds_65 rfl rfl ?_
    obtain ⟨hi, h⟩ := ift h
    refine diald 69 rfl rfl rfl hi rfl rfl dX7_finds_68 rfl ?_
    refine dt_icmp_ge 72 162 dX7_finds_69 rfl (by decide) rfl rfl (fun c => ?_) (fun c => ?_)
    · replace h := ifp c h
      refine dt_iconst 163 dX7_finds_162 rfl ?_
      refine dist_6_2 164 dX7_finds_163 rfl rfl rfl ?_
      exact A_X7_finds_164 hF FU _ _ h
    · replace h := ifn c h
      refine dt_iconst 73 dX7_finds_72 rfl ?_
      refine dist_6_3 74 dX7_finds_73 rfl rfl rfl ?_
      exact A_X7_finds_74 hF hk59 FU _ _ _ h
theorem A_X7_finds_2 {G : Cx} {b : Ab} {r : Int} {mm : Mi} (hF : Fi yd_X7_finds G b (some (iv r)) (Em mm)) : ∀ (n : Nat) (x1 : Int) (μ : Mi), B_X7_finds_2 n x1 μ = some (r, mm) → At yd_X7_finds G b 2 [some (rf G 7 false), some (iv x1), none, none, none, none] [] (Em μ) := by
  intro n
  induction n with
  | zero =>
    intro x1 μ h
    exact nope h
  | succ n hk2 =>
    intro x1 μ h
    replace h : F_X7_finds_2 (B_X7_finds_2 n) x1 μ = some (r, mm) := h
    unfold F_X7_finds_2 at h
    refine dild_6_1 3 dX7_finds_2 rfl ?_
    refine ald_6_0 4 rfl dX7_finds_3 rfl ?_
    refine dgf_X7_51 7 rfl dX7_finds_4 rfl ?_
    refine ald_6_0 8 rfl dX7_finds_7 rfl ?_
    refine dgf_X7_279 11 rfl dX7_finds_8 rfl rfl ?_
    obtain ⟨hi, h⟩ := ift h
    refine diald 12 rfl rfl rfl hi rfl rfl dX7_finds_11 rfl ?_
    refine dt_sipush 15 dX7_finds_12 sq_1120 rfl ?_
    refine dt_imul 16 dX7_finds_15 rfl ?_
    refine dt_sipush 19 dX7_finds_16 sq_1120 rfl ?_
    refine dt_iadd 20 dX7_finds_19 rfl ?_
    refine dt_iconst 21 dX7_finds_20 rfl ?_
    refine dt_isub 22 dX7_finds_21 rfl ?_
    refine dt_icmp_gt 25 38 dX7_finds_22 rfl (by decide) rfl rfl (fun c => ?_) (fun c => ?_)
    · replace h := ifp c h
      refine ald_6_0 39 rfl dX7_finds_38 rfl ?_
      obtain ⟨r1, h1, h⟩ := bp_some h
      refine cvi_0 42 cw_X7_307 (S_X7_start h1) rfl ⟨by decide, by decide⟩ rfl rfl rfl rfl rfl (Nat.le_of_ble_eq_true rfl) dX7_finds_39 rfl ?_
      refine dist_6_1 43 dX7_finds_42 rfl rfl rfl ?_
      refine dild_6_1 44 dX7_finds_43 rfl ?_
      refine dt_iconst 45 dX7_finds_44 rfl ?_
      refine dt_icmp_ne 48 50 dX7_finds_45 rfl (by decide) rfl wk_m1 (fun c => ?_) (fun c => ?_)
      · replace h := ifp c h
        refine ald_6_0 51 rfl dX7_finds_50 rfl ?_
        refine dgf_X7_104 54 rfl dX7_finds_51 rfl ?_
        refine dild_6_1 55 dX7_finds_54 rfl ?_
        refine dt_iconst 56 dX7_finds_55 rfl ?_
        obtain ⟨hi, h⟩ := ift h
        refine dzast 57 rfl rfl rfl hi rfl isB_1 dX7_finds_56 rfl ?_
        refine dt_iconst 58 dX7_finds_57 rfl ?_
        refine dist_6_2 59 dX7_finds_58 rfl rfl rfl ?_
        exact At.weak (ls_s (ls_n (ls_s (ls_n (ls_n (ls_n ls_0)))))) (A_X7_finds_59 hF FU _ _ h)
      · replace h := ifn c h
        refine dt_iconst 49 dX7_finds_48 rfl ?_
        exact dr_z hF rfl isB_0 dX7_finds_49 h
    · replace h := ifn c h
      refine ald_6_0 26 rfl dX7_finds_25 rfl ?_
      refine dgf_X7_104 29 rfl dX7_finds_26 rfl ?_
      refine dild_6_1 30 dX7_finds_29 rfl ?_
      refine dt_iconst 31 dX7_finds_30 rfl ?_
      obtain ⟨hi, h⟩ := ift h
      refine dzast 32 rfl rfl rfl hi rfl isB_0 dX7_finds_31 rfl ?_
      refine dinc_6_1 35 dX7_finds_32 rfl rfl rfl ?_
      refine st_goto 2 dX7_finds_35 (by decide) ?_
      exact hk2 _ _ h
theorem S_X7_finds {G : Cx} {μ : Mi} {r : Int} {mm : Mi} (h : D_X7_finds μ = some (r, mm)) : Spec yd_X7_finds G [rf G 7 false] (Em μ) (some (iv r)) (Em mm) := by
  refine Spec.of (by decide) rfl (catL_ok rfl) (Nat.le_of_ble_eq_true rfl) rfl (fun b hF => ?_)
  unfold D_X7_finds at h
  refine dt_iconst 1 dX7_finds_0 rfl ?_
  refine dist_6_1 2 dX7_finds_1 rfl rfl rfl ?_
  exact A_X7_finds_2 hF FU _ _ h
/-- StampTalesModel.counts -/
theorem A_X7_counts_185 {G : Cx} {b : Ab} {r : Int} {mm : Mi} {k19 : (Int → Mi → Option (Int × Mi))} {k25 : (Int → Int → Mi → Option (Int × Mi))} (hF : Fi yd_X7_counts G b (some (iv r)) (Em mm)) (hk19 : ∀ (x1 : Int) (m : Mi), k19 x1 m = some (r, mm) → At yd_X7_counts G b 19 [some (rf G 7 false), some (iv x1), none, none, none, none, none] [] (Em m)) (hk25 : ∀ (x1 : Int) (x2 : Int) (m : Mi), k25 x1 x2 m = some (r, mm) → At yd_X7_counts G b 25 [some (rf G 7 false), some (iv x1), some (iv x2), none, none, none, none] [] (Em m)) (x1 : Int) (x2 : Int) (μ : Mi) (h : B_X7_counts_185 k19 k25 x1 x2 μ = some (r, mm)) : At yd_X7_counts G b 185 [some (rf G 7 false), some (iv x1), some (iv x2), none, none, none, none] [] (Em μ) := by
  unfold B_X7_counts_185 at h
  refine dinc_7_2 188 dX7_counts_185 rfl rfl rfl ?_
  refine st_goto 25 dX7_counts_188 (by decide) ?_
  exact hk25 _ _ _ h
theorem A_X7_counts_179 {G : Cx} {b : Ab} {r : Int} {mm : Mi} {k19 : (Int → Mi → Option (Int × Mi))} {k25 : (Int → Int → Mi → Option (Int × Mi))} {k97 : (Int → Int → Int → Int → Mi → Option (Int × Mi))} (hF : Fi yd_X7_counts G b (some (iv r)) (Em mm)) (hk19 : ∀ (x1 : Int) (m : Mi), k19 x1 m = some (r, mm) → At yd_X7_counts G b 19 [some (rf G 7 false), some (iv x1), none, none, none, none, none] [] (Em m)) (hk25 : ∀ (x1 : Int) (x2 : Int) (m : Mi), k25 x1 x2 m = some (r, mm) → At yd_X7_counts G b 25 [some (rf G 7 false), some (iv x1), some (iv x2), none, none, none, none] [] (Em m)) (hk97 : ∀ (x1 : Int) (x2 : Int) (x3 : Int) (x4 : Int) (m : Mi), k97 x1 x2 x3 x4 m = some (r, mm) → At yd_X7_counts G b 97 [some (rf G 7 false), some (iv x1), some (iv x2), some (iv x3), some (iv x4), none, none] [] (Em m)) (x1 : Int) (x2 : Int) (x3 : Int) (x4 : Int) (μ : Mi) (h : B_X7_counts_179 k19 k25 k97 x1 x2 x3 x4 μ = some (r, mm)) : At yd_X7_counts G b 179 [some (rf G 7 false), some (iv x1), some (iv x2), some (iv x3), some (iv x4), none, none] [] (Em μ) := by
  unfold B_X7_counts_179 at h
  refine dinc_7_4 182 dX7_counts_179 rfl rfl rfl ?_
  refine st_goto 97 dX7_counts_182 (by decide) ?_
  exact hk97 _ _ _ _ _ h
theorem A_X7_counts_178 {G : Cx} {b : Ab} {r : Int} {mm : Mi} {k19 : (Int → Mi → Option (Int × Mi))} {k25 : (Int → Int → Mi → Option (Int × Mi))} {k97 : (Int → Int → Int → Int → Mi → Option (Int × Mi))} (hF : Fi yd_X7_counts G b (some (iv r)) (Em mm)) (hk19 : ∀ (x1 : Int) (m : Mi), k19 x1 m = some (r, mm) → At yd_X7_counts G b 19 [some (rf G 7 false), some (iv x1), none, none, none, none, none] [] (Em m)) (hk25 : ∀ (x1 : Int) (x2 : Int) (m : Mi), k25 x1 x2 m = some (r, mm) → At yd_X7_counts G b 25 [some (rf G 7 false), some (iv x1), some (iv x2), none, none, none, none] [] (Em m)) (hk97 : ∀ (x1 : Int) (x2 : Int) (x3 : Int) (x4 : Int) (m : Mi), k97 x1 x2 x3 x4 m = some (r, mm) → At yd_X7_counts G b 97 [some (rf G 7 false), some (iv x1), some (iv x2), some (iv x3), some (iv x4), none, none] [] (Em m)) (x1 : Int) (x2 : Int) (x3 : Int) (x4 : Int) (s0 : Int) (s1 : Int) (μ : Mi) (h : B_X7_counts_178 k19 k25 k97 x1 x2 x3 x4 s0 s1 μ = some (r, mm)) : At yd_X7_counts G b 178 [some (rf G 7 false), some (iv x1), some (iv x2), some (iv x3), some (iv x4), none, none] [iv s0, iv s1, rf G 70 false] (Em μ) := by
  unfold B_X7_counts_178 at h
  obtain ⟨hi, h⟩ := ift h
  refine diast 179 rfl rfl rfl hi rfl dX7_counts_178 rfl ?_
  exact A_X7_counts_179 hF hk19 hk25 hk97 _ _ _ _ _ h
theorem A_X7_counts_97 {G : Cx} {b : Ab} {r : Int} {mm : Mi} {k19 : (Int → Mi → Option (Int × Mi))} {k25 : (Int → Int → Mi → Option (Int × Mi))} (hF : Fi yd_X7_counts G b (some (iv r)) (Em mm)) (hk19 : ∀ (x1 : Int) (m : Mi), k19 x1 m = some (r, mm) → At yd_X7_counts G b 19 [some (rf G 7 false), some (iv x1), none, none, none, none, none] [] (Em m)) (hk25 : ∀ (x1 : Int) (x2 : Int) (m : Mi), k25 x1 x2 m = some (r, mm) → At yd_X7_counts G b 25 [some (rf G 7 false), some (iv x1), some (iv x2), none, none, none, none] [] (Em m)) : ∀ (n : Nat) (x1 : Int) (x2 : Int) (x3 : Int) (x4 : Int) (μ : Mi), B_X7_counts_97 k19 k25 n x1 x2 x3 x4 μ = some (r, mm) → At yd_X7_counts G b 97 [some (rf G 7 false), some (iv x1), some (iv x2), some (iv x3), some (iv x4), none, none] [] (Em μ) := by
  intro n
  induction n with
  | zero =>
    intro x1 x2 x3 x4 μ h
    exact nope h
  | succ n hk97 =>
    intro x1 x2 x3 x4 μ h
    replace h : F_X7_counts_97 k19 k25 (B_X7_counts_97 k19 k25 n) x1 x2 x3 x4 μ = some (r, mm) := h
    unfold F_X7_counts_97 at h
    refine dild_7_4 99 dX7_counts_97 rfl ?_
    refine ald_7_0 100 rfl dX7_counts_99 rfl ?_
    refine dgf_X7_250 103 rfl dX7_counts_100 rfl rfl ?_
    refine dt_icmp_ge 106 185 dX7_counts_103 rfl (by decide) rfl rfl (fun c => ?_) (fun c => ?_)
    · replace h := ifp c h
      exact At.weak (ls_s (ls_s (ls_s (ls_n (ls_n (ls_n (ls_n ls_0))))))) (A_X7_counts_185 hF hk19 hk25 _ _ _ h)
    · replace h := ifn c h
      refine ald_7_0 107 rfl dX7_counts_106 rfl ?_
      refine dild_7_1 108 dX7_counts_107 rfl ?_
      refine dild_7_2 109 dX7_counts_108 rfl ?_
      refine dild_7_4 111 dX7_counts_109 rfl ?_
      obtain ⟨r1, m1, h1, h⟩ := bd_some h
      refine cvi_3 114 cw_X7_310 (S_X7_goes h1) rfl ⟨by decide, by decide⟩ rfl rfl rfl rfl rfl (Nat.le_of_ble_eq_true rfl) dX7_counts_111 rfl ?_
      refine dist_7_5 116 dX7_counts_114 rfl rfl rfl ?_
      refine dild_7_5 118 dX7_counts_116 rfl ?_
      refine dt_iconst 119 dX7_counts_118 rfl ?_
      refine dt_icmp_ne 122 125 dX7_counts_119 rfl (by decide) rfl wk_m1 (fun c => ?_) (fun c => ?_)
      · replace h := ifp c h
        refine ald_7_0 126 rfl dX7_counts_125 rfl ?_
        refine dgf_X7_98 129 rfl dX7_counts_126 rfl ?_
        refine ald_7_0 130 rfl dX7_counts_129 rfl ?_
        refine dgf_X7_297 133 rfl dX7_counts_130 rfl rfl ?_
        refine dt_sipush 136 dX7_counts_133 sq_1120 rfl ?_
        refine dt_imul 137 dX7_counts_136 rfl ?_
        refine dild_7_5 139 dX7_counts_137 rfl ?_
        refine dt_iadd 140 dX7_counts_139 rfl ?_
        obtain ⟨hi, h⟩ := ift h
        refine diald 141 rfl rfl rfl hi rfl rfl dX7_counts_140 rfl ?_
        refine dist_7_6 143 dX7_counts_141 rfl rfl rfl ?_
        refine ald_7_0 144 rfl dX7_counts_143 rfl ?_
        refine dgf_X7_98 147 rfl dX7_counts_144 rfl ?_
        refine dild_7_3 148 dX7_counts_147 rfl ?_
        refine ald_7_0 149 rfl dX7_counts_148 rfl ?_
        refine dgf_X7_98 152 rfl dX7_counts_149 rfl ?_
        refine dild_7_3 153 dX7_counts_152 rfl ?_
        obtain ⟨hi, h⟩ := ift h
        refine diald 154 rfl rfl rfl hi rfl rfl dX7_counts_153 rfl ?_
        refine dt_ldcw (z := 1000000000) 157 rfl k_X7_320 (by decide) dX7_counts_154 rfl ?_
        refine dild_7_6 159 dX7_counts_157 rfl ?_
        refine dt_isub 160 dX7_counts_159 rfl ?_
        refine dt_icmp_le 163 169 dX7_counts_160 rfl (by decide) rfl rfl (fun c => ?_) (fun c => ?_)
        · replace h := ifp c h
          refine ald_7_0 170 rfl dX7_counts_169 rfl ?_
          refine dgf_X7_98 173 rfl dX7_counts_170 rfl ?_
          refine dild_7_3 174 dX7_counts_173 rfl ?_
          obtain ⟨hi, h⟩ := ift h
          refine diald 175 rfl rfl rfl hi rfl rfl dX7_counts_174 rfl ?_
          refine dild_7_6 177 dX7_counts_175 rfl ?_
          refine dt_iadd 178 dX7_counts_177 rfl ?_
          exact At.weak (ls_s (ls_s (ls_s (ls_s (ls_s (ls_n (ls_n ls_0))))))) (A_X7_counts_178 hF hk19 hk25 hk97 _ _ _ _ _ _ _ h)
        · replace h := ifn c h
          refine dt_ldcw (z := 1000000000) 166 rfl k_X7_320 (by decide) dX7_counts_163 rfl ?_
          refine st_goto 178 dX7_counts_166 (by decide) ?_
          exact At.weak (ls_s (ls_s (ls_s (ls_s (ls_s (ls_n (ls_n ls_0))))))) (A_X7_counts_178 hF hk19 hk25 hk97 _ _ _ _ _ _ _ h)
      · replace h := ifn c h
        refine st_goto 179 dX7_counts_122 (by decide) ?_
        exact At.weak (ls_s (ls_s (ls_s (ls_s (ls_s (ls_n (ls_n ls_0))))))) (A_X7_counts_179 hF hk19 hk25 hk97 _ _ _ _ _ h)
theorem A_X7_counts_90 {G : Cx} {b : Ab} {r : Int} {mm : Mi} {k19 : (Int → Mi → Option (Int × Mi))} {k25 : (Int → Int → Mi → Option (Int × Mi))} (hF : Fi yd_X7_counts G b (some (iv r)) (Em mm)) (hk19 : ∀ (x1 : Int) (m : Mi), k19 x1 m = some (r, mm) → At yd_X7_counts G b 19 [some (rf G 7 false), some (iv x1), none, none, none, none, none] [] (Em m)) (hk25 : ∀ (x1 : Int) (x2 : Int) (m : Mi), k25 x1 x2 m = some (r, mm) → At yd_X7_counts G b 25 [some (rf G 7 false), some (iv x1), some (iv x2), none, none, none, none] [] (Em m)) (x1 : Int) (x2 : Int) (s0 : Int) (s1 : Int) (μ : Mi) (h : B_X7_counts_90 k19 k25 x1 x2 s0 s1 μ = some (r, mm)) : At yd_X7_counts G b 90 [some (rf G 7 false), some (iv x1), some (iv x2), none, none, none, none] [iv s0, iv s1, rf G 70 false] (Em μ) := by
  unfold B_X7_counts_90 at h
  obtain ⟨hi, h⟩ := ift h
  refine diast 91 rfl rfl rfl hi rfl dX7_counts_90 rfl ?_
  refine st_goto 185 dX7_counts_91 (by decide) ?_
  exact A_X7_counts_185 hF hk19 hk25 _ _ _ h
theorem A_X7_counts_25 {G : Cx} {b : Ab} {r : Int} {mm : Mi} {k19 : (Int → Mi → Option (Int × Mi))} (hF : Fi yd_X7_counts G b (some (iv r)) (Em mm)) (hk19 : ∀ (x1 : Int) (m : Mi), k19 x1 m = some (r, mm) → At yd_X7_counts G b 19 [some (rf G 7 false), some (iv x1), none, none, none, none, none] [] (Em m)) : ∀ (n : Nat) (x1 : Int) (x2 : Int) (μ : Mi), B_X7_counts_25 k19 n x1 x2 μ = some (r, mm) → At yd_X7_counts G b 25 [some (rf G 7 false), some (iv x1), some (iv x2), none, none, none, none] [] (Em μ) := by
  intro n
  induction n with
  | zero =>
    intro x1 x2 μ h
    exact nope h
  | succ n hk25 =>
    intro x1 x2 μ h
    replace h : F_X7_counts_25 k19 (B_X7_counts_25 k19 n) x1 x2 μ = some (r, mm) := h
    unfold F_X7_counts_25 at h
    refine dild_7_2 26 dX7_counts_25 rfl ?_
    refine dt_sipush 29 dX7_counts_26 sq_1120 rfl ?_
    refine dt_icmp_ge 32 191 dX7_counts_29 rfl (by decide) rfl wk_1120 (fun c => ?_) (fun c => ?_)
    · replace h := ifp c h
      refine dinc_7_1 194 dX7_counts_191 rfl rfl rfl ?_
      refine st_goto 19 dX7_counts_194 (by decide) ?_
      exact At.weak (ls_s (ls_s (ls_n (ls_n (ls_n (ls_n (ls_n ls_0))))))) (hk19 _ _ h)
    · replace h := ifn c h
      refine dild_7_1 33 dX7_counts_32 rfl ?_
      refine dt_sipush 36 dX7_counts_33 sq_1120 rfl ?_
      refine dt_imul 37 dX7_counts_36 rfl ?_
      refine dild_7_2 38 dX7_counts_37 rfl ?_
      refine dt_iadd 39 dX7_counts_38 rfl ?_
      refine dist_7_3 40 dX7_counts_39 rfl rfl rfl ?_
      refine ald_7_0 41 rfl dX7_counts_40 rfl ?_
      refine dgf_X7_98 44 rfl dX7_counts_41 rfl ?_
      refine dild_7_3 45 dX7_counts_44 rfl ?_
      refine dt_iconst 46 dX7_counts_45 rfl ?_
      obtain ⟨hi, h⟩ := ift h
      refine diast 47 rfl rfl rfl hi rfl dX7_counts_46 rfl ?_
      refine ald_7_0 48 rfl dX7_counts_47 rfl ?_
      refine dgf_X7_104 51 rfl dX7_counts_48 rfl ?_
      refine dild_7_3 52 dX7_counts_51 rfl ?_
      obtain ⟨hi, h⟩ := ift h
      refine dzald 53 rfl rfl rfl hi rfl (rd_o (by decide)) dX7_counts_52 rfl ?_
      refine dt_if_ne 56 59 dX7_counts_53 rfl (by decide) rfl (fun c => ?_) (fun c => ?_)
      · replace h := ifp c h
        refine dild_7_1 60 dX7_counts_59 rfl ?_
        refine ald_7_0 61 rfl dX7_counts_60 rfl ?_
        refine dgf_X7_51 64 rfl dX7_counts_61 rfl ?_
        refine ald_7_0 65 rfl dX7_counts_64 rfl ?_
        refine dgf_X7_279 68 rfl dX7_counts_65 rfl (rd_o (by decide)) ?_
        obtain ⟨hi, h⟩ := ift h
        refine diald 69 rfl rfl rfl hi rfl (rd_o (by decide)) dX7_counts_68 rfl ?_
        refine dt_icmp_ne 72 94 dX7_counts_69 rfl (by decide) rfl rfl (fun c => ?_) (fun c => ?_)
        · replace h := ifp c h
          refine dt_iconst 95 dX7_counts_94 rfl ?_
          refine dist_7_4 97 dX7_counts_95 rfl rfl rfl ?_
          exact A_X7_counts_97 hF hk19 hk25 FU _ _ _ _ _ h
        · replace h := ifn c h
          refine ald_7_0 73 rfl dX7_counts_72 rfl ?_
          refine dgf_X7_98 76 rfl dX7_counts_73 rfl ?_
          refine dild_7_3 77 dX7_counts_76 rfl ?_
          refine ald_7_0 78 rfl dX7_counts_77 rfl ?_
          refine dild_7_2 79 dX7_counts_78 rfl ?_
          refine cvi_1 82 cw_X7_314 (S_X7_ends x2) rfl ⟨by decide, by decide⟩ rfl rfl rfl rfl rfl (Nat.le_of_ble_eq_true rfl) dX7_counts_79 rfl ?_
          refine dt_if_eq 85 89 dX7_counts_82 rfl (by decide) rfl (fun c => ?_) (fun c => ?_)
          · replace h := ifp c h
            refine dt_iconst 90 dX7_counts_89 rfl ?_
            exact At.weak (ls_s (ls_s (ls_s (ls_n (ls_n (ls_n (ls_n ls_0))))))) (A_X7_counts_90 hF hk19 hk25 _ _ _ _ _ h)
          · replace h := ifn c h
            refine dt_iconst 86 dX7_counts_85 rfl ?_
            refine st_goto 90 dX7_counts_86 (by decide) ?_
            exact At.weak (ls_s (ls_s (ls_s (ls_n (ls_n (ls_n (ls_n ls_0))))))) (A_X7_counts_90 hF hk19 hk25 _ _ _ _ _ h)
      · replace h := ifn c h
        refine st_goto 185 dX7_counts_56 (by decide) ?_
        exact At.weak (ls_s (ls_s (ls_s (ls_n (ls_n (ls_n (ls_n ls_0))))))) (A_X7_counts_185 hF hk19 hk25 _ _ _ h)
theorem A_X7_counts_19 {G : Cx} {b : Ab} {r : Int} {mm : Mi} (hF : Fi yd_X7_counts G b (some (iv r)) (Em mm)) : ∀ (n : Nat) (x1 : Int) (μ : Mi), B_X7_counts_19 n x1 μ = some (r, mm) → At yd_X7_counts G b 19 [some (rf G 7 false), some (iv x1), none, none, none, none, none] [] (Em μ) := by
  intro n
  induction n with
  | zero =>
    intro x1 μ h
    exact nope h
  | succ n hk19 =>
    intro x1 μ h
    replace h : F_X7_counts_19 (B_X7_counts_19 n) x1 μ = some (r, mm) := h
    unfold F_X7_counts_19 at h
    refine dild_7_1 20 dX7_counts_19 rfl ?_
    refine dt_if_lt 23 197 dX7_counts_20 rfl (by decide) rfl (fun c => ?_) (fun c => ?_)
    · replace h := ifp c h
      refine ald_7_0 198 rfl dX7_counts_197 rfl ?_
      refine dgf_X7_98 201 rfl dX7_counts_198 rfl ?_
      refine ald_7_0 202 rfl dX7_counts_201 rfl ?_
      obtain ⟨r1, h1, h⟩ := bp_some h
      refine cvi_0 205 cw_X7_307 (S_X7_start h1) rfl ⟨by decide, by decide⟩ rfl rfl rfl rfl rfl (Nat.le_of_ble_eq_true rfl) dX7_counts_202 rfl ?_
      obtain ⟨hi, h⟩ := ift h
      refine diald 206 rfl rfl rfl hi rfl rfl dX7_counts_205 rfl ?_
      exact dr_i hF rfl dX7_counts_206 h
    · replace h := ifn c h
      refine dt_iconst 24 dX7_counts_23 rfl ?_
      refine dist_7_2 25 dX7_counts_24 rfl rfl rfl ?_
      exact A_X7_counts_25 hF hk19 FU _ _ _ h
theorem S_X7_counts {G : Cx} {μ : Mi} {r : Int} {mm : Mi} (h : D_X7_counts μ = some (r, mm)) : Spec yd_X7_counts G [rf G 7 false] (Em μ) (some (iv r)) (Em mm) := by
  refine Spec.of (by decide) rfl (catL_ok rfl) (Nat.le_of_ble_eq_true rfl) rfl (fun b hF => ?_)
  unfold D_X7_counts at h
  refine ald_7_0 1 rfl dX7_counts_0 rfl ?_
  obtain ⟨r1, m1, h1, h⟩ := bd_some h
  refine cvi_0 4 cw_X7_317 (S_X7_finds h1) rfl ⟨by decide, by decide⟩ rfl rfl rfl rfl rfl (Nat.le_of_ble_eq_true rfl) dX7_counts_1 rfl ?_
  refine dt_if_ne 7 9 dX7_counts_4 rfl (by decide) rfl (fun c => ?_) (fun c => ?_)
  · replace h := ifp c h
    refine ald_7_0 10 rfl dX7_counts_9 rfl ?_
    refine dgf_X7_51 13 rfl dX7_counts_10 rfl ?_
    refine ald_7_0 14 rfl dX7_counts_13 rfl ?_
    refine dgf_X7_279 17 rfl dX7_counts_14 rfl rfl ?_
    obtain ⟨hi, h⟩ := ift h
    refine diald 18 rfl rfl rfl hi rfl rfl dX7_counts_17 rfl ?_
    refine dist_7_1 19 dX7_counts_18 rfl rfl rfl ?_
    exact A_X7_counts_19 hF FU _ _ h
  · replace h := ifn c h
    refine dt_iconst 8 dX7_counts_7 rfl ?_
    exact dr_i hF rfl dX7_counts_8 h
/-- StampTalesModel.ways -/
theorem S_X7_ways {G : Cx} {μ : Mi} {x1 : Int} {r : Int} {mm : Mi} (h : D_X7_ways x1 μ = some (r, mm)) : Spec yd_X7_ways G [rf G 7 false, iv x1] (Em μ) (some (iv r)) (Em mm) := by
  refine Spec.of (by decide) rfl (catL_ok rfl) (Nat.le_of_ble_eq_true rfl) rfl (fun b hF => ?_)
  unfold D_X7_ways at h
  refine ald_2_0 1 rfl dX7_ways_0 rfl ?_
  refine dild_2_1 2 dX7_ways_1 rfl ?_
  refine cvi_1 5 cw_X7_256 (S_X7_isMan x1) rfl ⟨by decide, by decide⟩ rfl rfl rfl rfl rfl (Nat.le_of_ble_eq_true rfl) dX7_ways_2 rfl ?_
  refine dt_if_ne 8 10 dX7_ways_5 rfl (by decide) rfl (fun c => ?_) (fun c => ?_)
  · replace h := ifp c h
    refine ald_2_0 11 rfl dX7_ways_10 rfl ?_
    refine dild_2_1 12 dX7_ways_11 rfl ?_
    refine dt_iconst 13 dX7_ways_12 rfl ?_
    obtain ⟨m2, h2, h⟩ := bm_some h
    refine cvv_2 16 cw_X7_321 (S_X7_sets h2) rfl ⟨by decide, by decide⟩ rfl rfl rfl rfl rfl (Nat.le_of_ble_eq_true rfl) dX7_ways_13 rfl ?_
    refine ald_2_0 17 rfl dX7_ways_16 rfl ?_
    obtain ⟨r3, m3, h3, h⟩ := bd_some h
    refine cvi_0 20 cw_X7_325 (S_X7_counts h3) rfl ⟨by decide, by decide⟩ rfl rfl rfl rfl rfl (Nat.le_of_ble_eq_true rfl) dX7_ways_17 rfl ?_
    exact dr_i hF rfl dX7_ways_20 h
  · replace h := ifn c h
    refine dt_iconst 9 dX7_ways_8 rfl ?_
    exact dr_i hF rfl dX7_ways_9 h
/-- StampTalesModel.mayBits -/
theorem A_X7_mayBits_199 {G : Cx} {b : Ab} {r : Int} {mm : Mi} {k80 : (Int → Int → Int → Mi → Option (Int × Mi))} (hF : Fi yd_X7_mayBits G b (some (iv r)) (Em mm)) (hk80 : ∀ (x2 : Int) (x3 : Int) (x4 : Int) (m : Mi), k80 x2 x3 x4 m = some (r, mm) → At yd_X7_mayBits G b 80 [some (rf G 7 false), none, some (iv x2), some (iv x3), some (iv x4), none, none, none] [] (Em m)) (x2 : Int) (x3 : Int) (x4 : Int) (μ : Mi) (h : B_X7_mayBits_199 k80 x2 x3 x4 μ = some (r, mm)) : At yd_X7_mayBits G b 199 [some (rf G 7 false), none, some (iv x2), some (iv x3), some (iv x4), none, none, none] [] (Em μ) := by
  unfold B_X7_mayBits_199 at h
  refine dinc_8_4 202 dX7_mayBits_199 rfl rfl rfl ?_
  refine st_goto 80 dX7_mayBits_202 (by decide) ?_
  exact hk80 _ _ _ _ h
theorem A_X7_mayBits_193 {G : Cx} {b : Ab} {r : Int} {mm : Mi} {k80 : (Int → Int → Int → Mi → Option (Int × Mi))} {k89 : (Int → Int → Int → Int → Mi → Option (Int × Mi))} (hF : Fi yd_X7_mayBits G b (some (iv r)) (Em mm)) (hk80 : ∀ (x2 : Int) (x3 : Int) (x4 : Int) (m : Mi), k80 x2 x3 x4 m = some (r, mm) → At yd_X7_mayBits G b 80 [some (rf G 7 false), none, some (iv x2), some (iv x3), some (iv x4), none, none, none] [] (Em m)) (hk89 : ∀ (x2 : Int) (x3 : Int) (x4 : Int) (x5 : Int) (m : Mi), k89 x2 x3 x4 x5 m = some (r, mm) → At yd_X7_mayBits G b 89 [some (rf G 7 false), none, some (iv x2), some (iv x3), some (iv x4), some (iv x5), none, none] [] (Em m)) (x2 : Int) (x3 : Int) (x4 : Int) (x5 : Int) (μ : Mi) (h : B_X7_mayBits_193 k80 k89 x2 x3 x4 x5 μ = some (r, mm)) : At yd_X7_mayBits G b 193 [some (rf G 7 false), none, some (iv x2), some (iv x3), some (iv x4), some (iv x5), none, none] [] (Em μ) := by
  unfold B_X7_mayBits_193 at h
  refine dinc_8_5 196 dX7_mayBits_193 rfl rfl rfl ?_
  refine st_goto 89 dX7_mayBits_196 (by decide) ?_
  exact hk89 _ _ _ _ _ h
theorem A_X7_mayBits_187 {G : Cx} {b : Ab} {r : Int} {mm : Mi} {k80 : (Int → Int → Int → Mi → Option (Int × Mi))} {k89 : (Int → Int → Int → Int → Mi → Option (Int × Mi))} {k127 : (Int → Int → Int → Int → Int → Mi → Option (Int × Mi))} (hF : Fi yd_X7_mayBits G b (some (iv r)) (Em mm)) (hk80 : ∀ (x2 : Int) (x3 : Int) (x4 : Int) (m : Mi), k80 x2 x3 x4 m = some (r, mm) → At yd_X7_mayBits G b 80 [some (rf G 7 false), none, some (iv x2), some (iv x3), some (iv x4), none, none, none] [] (Em m)) (hk89 : ∀ (x2 : Int) (x3 : Int) (x4 : Int) (x5 : Int) (m : Mi), k89 x2 x3 x4 x5 m = some (r, mm) → At yd_X7_mayBits G b 89 [some (rf G 7 false), none, some (iv x2), some (iv x3), some (iv x4), some (iv x5), none, none] [] (Em m)) (hk127 : ∀ (x2 : Int) (x3 : Int) (x4 : Int) (x5 : Int) (x6 : Int) (m : Mi), k127 x2 x3 x4 x5 x6 m = some (r, mm) → At yd_X7_mayBits G b 127 [some (rf G 7 false), none, some (iv x2), some (iv x3), some (iv x4), some (iv x5), some (iv x6), none] [] (Em m)) (x2 : Int) (x3 : Int) (x4 : Int) (x5 : Int) (x6 : Int) (μ : Mi) (h : B_X7_mayBits_187 k80 k89 k127 x2 x3 x4 x5 x6 μ = some (r, mm)) : At yd_X7_mayBits G b 187 [some (rf G 7 false), none, some (iv x2), some (iv x3), some (iv x4), some (iv x5), some (iv x6), none] [] (Em μ) := by
  unfold B_X7_mayBits_187 at h
  refine dinc_8_6 190 dX7_mayBits_187 rfl rfl rfl ?_
  refine st_goto 127 dX7_mayBits_190 (by decide) ?_
  exact hk127 _ _ _ _ _ _ h
theorem A_X7_mayBits_127 {G : Cx} {b : Ab} {r : Int} {mm : Mi} {k80 : (Int → Int → Int → Mi → Option (Int × Mi))} {k89 : (Int → Int → Int → Int → Mi → Option (Int × Mi))} (hF : Fi yd_X7_mayBits G b (some (iv r)) (Em mm)) (hk80 : ∀ (x2 : Int) (x3 : Int) (x4 : Int) (m : Mi), k80 x2 x3 x4 m = some (r, mm) → At yd_X7_mayBits G b 80 [some (rf G 7 false), none, some (iv x2), some (iv x3), some (iv x4), none, none, none] [] (Em m)) (hk89 : ∀ (x2 : Int) (x3 : Int) (x4 : Int) (x5 : Int) (m : Mi), k89 x2 x3 x4 x5 m = some (r, mm) → At yd_X7_mayBits G b 89 [some (rf G 7 false), none, some (iv x2), some (iv x3), some (iv x4), some (iv x5), none, none] [] (Em m)) : ∀ (n : Nat) (x2 : Int) (x3 : Int) (x4 : Int) (x5 : Int) (x6 : Int) (μ : Mi), B_X7_mayBits_127 k80 k89 n x2 x3 x4 x5 x6 μ = some (r, mm) → At yd_X7_mayBits G b 127 [some (rf G 7 false), none, some (iv x2), some (iv x3), some (iv x4), some (iv x5), some (iv x6), none] [] (Em μ) := by
  intro n
  induction n with
  | zero =>
    intro x2 x3 x4 x5 x6 μ h
    exact nope h
  | succ n hk127 =>
    intro x2 x3 x4 x5 x6 μ h
    replace h : F_X7_mayBits_127 k80 k89 (B_X7_mayBits_127 k80 k89 n) x2 x3 x4 x5 x6 μ = some (r, mm) := h
    unfold F_X7_mayBits_127 at h
    refine dild_8_6 129 dX7_mayBits_127 rfl ?_
    refine ald_8_0 130 rfl dX7_mayBits_129 rfl ?_
    refine dgf_X7_250 133 rfl dX7_mayBits_130 rfl rfl ?_
    refine dt_icmp_ge 136 193 dX7_mayBits_133 rfl (by decide) rfl rfl (fun c => ?_) (fun c => ?_)
    · replace h := ifp c h
      exact At.weak (ls_s (ls_n (ls_s (ls_s (ls_s (ls_s (ls_n (ls_n ls_0)))))))) (A_X7_mayBits_193 hF hk80 hk89 _ _ _ _ _ h)
    · replace h := ifn c h
      refine ald_8_0 137 rfl dX7_mayBits_136 rfl ?_
      refine dild_8_4 139 dX7_mayBits_137 rfl ?_
      refine dild_8_5 141 dX7_mayBits_139 rfl ?_
      refine dild_8_6 143 dX7_mayBits_141 rfl ?_
      obtain ⟨r1, m1, h1, h⟩ := bd_some h
      refine cvi_3 146 cw_X7_310 (S_X7_goes h1) rfl ⟨by decide, by decide⟩ rfl rfl rfl rfl rfl (Nat.le_of_ble_eq_true rfl) dX7_mayBits_143 rfl ?_
      refine dist_8_7 148 dX7_mayBits_146 rfl rfl rfl ?_
      refine dild_8_7 150 dX7_mayBits_148 rfl ?_
      refine dt_iconst 151 dX7_mayBits_150 rfl ?_
      refine dt_icmp_eq 154 187 dX7_mayBits_151 rfl (by decide) rfl wk_m1 (fun c => ?_) (fun c => ?_)
      · replace h := ifp c h
        exact At.weak (ls_s (ls_n (ls_s (ls_s (ls_s (ls_s (ls_s (ls_n ls_0)))))))) (A_X7_mayBits_187 hF hk80 hk89 hk127 _ _ _ _ _ _ h)
      · replace h := ifn c h
        refine ald_8_0 155 rfl dX7_mayBits_154 rfl ?_
        refine dgf_X7_297 158 rfl dX7_mayBits_155 rfl rfl ?_
        refine dild_8_2 159 dX7_mayBits_158 rfl ?_
        refine dt_icmp_le 162 187 dX7_mayBits_159 rfl (by decide) rfl rfl (fun c => ?_) (fun c => ?_)
        · replace h := ifp c h
          exact At.weak (ls_s (ls_n (ls_s (ls_s (ls_s (ls_s (ls_s (ls_n ls_0)))))))) (A_X7_mayBits_187 hF hk80 hk89 hk127 _ _ _ _ _ _ h)
        · replace h := ifn c h
          refine ald_8_0 163 rfl dX7_mayBits_162 rfl ?_
          refine dgf_X7_98 166 rfl dX7_mayBits_163 rfl ?_
          refine ald_8_0 167 rfl dX7_mayBits_166 rfl ?_
          refine dgf_X7_297 170 rfl dX7_mayBits_167 rfl rfl ?_
          refine dt_sipush 173 dX7_mayBits_170 sq_1120 rfl ?_
          refine dt_imul 174 dX7_mayBits_173 rfl ?_
          refine dild_8_7 176 dX7_mayBits_174 rfl ?_
          refine dt_iadd 177 dX7_mayBits_176 rfl ?_
          obtain ⟨hi, h⟩ := ift h
          refine diald 178 rfl rfl rfl hi rfl rfl dX7_mayBits_177 rfl ?_
          refine dt_if_le 181 187 dX7_mayBits_178 rfl (by decide) rfl (fun c => ?_) (fun c => ?_)
          · replace h := ifp c h
            exact At.weak (ls_s (ls_n (ls_s (ls_s (ls_s (ls_s (ls_s (ls_n ls_0)))))))) (A_X7_mayBits_187 hF hk80 hk89 hk127 _ _ _ _ _ _ h)
          · replace h := ifn c h
            refine dild_8_3 182 dX7_mayBits_181 rfl ?_
            refine dt_sipush 185 dX7_mayBits_182 sq_256 rfl ?_
            refine dt_ior 186 dX7_mayBits_185 rfl ?_
            refine dist_8_3 187 dX7_mayBits_186 rfl rfl rfl ?_
            exact At.weak (ls_s (ls_n (ls_s (ls_s (ls_s (ls_s (ls_s (ls_n ls_0)))))))) (A_X7_mayBits_187 hF hk80 hk89 hk127 _ _ _ _ _ _ h)
theorem A_X7_mayBits_89 {G : Cx} {b : Ab} {r : Int} {mm : Mi} {k80 : (Int → Int → Int → Mi → Option (Int × Mi))} (hF : Fi yd_X7_mayBits G b (some (iv r)) (Em mm)) (hk80 : ∀ (x2 : Int) (x3 : Int) (x4 : Int) (m : Mi), k80 x2 x3 x4 m = some (r, mm) → At yd_X7_mayBits G b 80 [some (rf G 7 false), none, some (iv x2), some (iv x3), some (iv x4), none, none, none] [] (Em m)) : ∀ (n : Nat) (x2 : Int) (x3 : Int) (x4 : Int) (x5 : Int) (μ : Mi), B_X7_mayBits_89 k80 n x2 x3 x4 x5 μ = some (r, mm) → At yd_X7_mayBits G b 89 [some (rf G 7 false), none, some (iv x2), some (iv x3), some (iv x4), some (iv x5), none, none] [] (Em μ) := by
  intro n
  induction n with
  | zero =>
    intro x2 x3 x4 x5 μ h
    exact nope h
  | succ n hk89 =>
    intro x2 x3 x4 x5 μ h
    replace h : F_X7_mayBits_89 k80 (B_X7_mayBits_89 k80 n) x2 x3 x4 x5 μ = some (r, mm) := h
    unfold F_X7_mayBits_89 at h
    refine dild_8_5 91 dX7_mayBits_89 rfl ?_
    refine dt_sipush 94 dX7_mayBits_91 sq_1120 rfl ?_
    refine dt_icmp_ge 97 199 dX7_mayBits_94 rfl (by decide) rfl wk_1120 (fun c => ?_) (fun c => ?_)
    · replace h := ifp c h
      exact At.weak (ls_s (ls_n (ls_s (ls_s (ls_s (ls_n (ls_n (ls_n ls_0)))))))) (A_X7_mayBits_199 hF hk80 _ _ _ _ h)
    · replace h := ifn c h
      refine dild_8_3 98 dX7_mayBits_97 rfl ?_
      refine dt_sipush 101 dX7_mayBits_98 sq_256 rfl ?_
      refine dt_icmp_ge 104 199 dX7_mayBits_101 rfl (by decide) rfl wk_256 (fun c => ?_) (fun c => ?_)
      · replace h := ifp c h
        exact At.weak (ls_s (ls_n (ls_s (ls_s (ls_s (ls_n (ls_n (ls_n ls_0)))))))) (A_X7_mayBits_199 hF hk80 _ _ _ _ h)
      · replace h := ifn c h
        refine ald_8_0 105 rfl dX7_mayBits_104 rfl ?_
        refine dgf_X7_104 108 rfl dX7_mayBits_105 rfl ?_
        refine dild_8_4 110 dX7_mayBits_108 rfl ?_
        refine dt_sipush 113 dX7_mayBits_110 sq_1120 rfl ?_
        refine dt_imul 114 dX7_mayBits_113 rfl ?_
        refine dild_8_5 116 dX7_mayBits_114 rfl ?_
        refine dt_iadd 117 dX7_mayBits_116 rfl ?_
        obtain ⟨hi, h⟩ := ift h
        refine dzald 118 rfl rfl rfl hi rfl rfl dX7_mayBits_117 rfl ?_
        refine dt_if_ne 121 124 dX7_mayBits_118 rfl (by decide) rfl (fun c => ?_) (fun c => ?_)
        · replace h := ifp c h
          refine dt_iconst 125 dX7_mayBits_124 rfl ?_
          refine dist_8_6 127 dX7_mayBits_125 rfl rfl rfl ?_
          exact A_X7_mayBits_127 hF hk80 hk89 FU _ _ _ _ _ _ h
        · replace h := ifn c h
          refine st_goto 193 dX7_mayBits_121 (by decide) ?_
          exact A_X7_mayBits_193 hF hk80 hk89 _ _ _ _ _ h
theorem A_X7_mayBits_80 {G : Cx} {b : Ab} {r : Int} {mm : Mi} (hF : Fi yd_X7_mayBits G b (some (iv r)) (Em mm)) : ∀ (n : Nat) (x2 : Int) (x3 : Int) (x4 : Int) (μ : Mi), B_X7_mayBits_80 n x2 x3 x4 μ = some (r, mm) → At yd_X7_mayBits G b 80 [some (rf G 7 false), none, some (iv x2), some (iv x3), some (iv x4), none, none, none] [] (Em μ) := by
  intro n
  induction n with
  | zero =>
    intro x2 x3 x4 μ h
    exact nope h
  | succ n hk80 =>
    intro x2 x3 x4 μ h
    replace h : F_X7_mayBits_80 (B_X7_mayBits_80 n) x2 x3 x4 μ = some (r, mm) := h
    unfold F_X7_mayBits_80 at h
    refine dild_8_4 82 dX7_mayBits_80 rfl ?_
    refine dild_8_2 83 dX7_mayBits_82 rfl ?_
    refine dt_icmp_ge 86 205 dX7_mayBits_83 rfl (by decide) rfl rfl (fun c => ?_) (fun c => ?_)
    · replace h := ifp c h
      refine dild_8_3 206 dX7_mayBits_205 rfl ?_
      exact dr_i hF rfl dX7_mayBits_206 h
    · replace h := ifn c h
      refine dt_iconst 87 dX7_mayBits_86 rfl ?_
      refine dist_8_5 89 dX7_mayBits_87 rfl rfl rfl ?_
      exact A_X7_mayBits_89 hF hk80 FU _ _ _ _ _ h
theorem A_X7_mayBits_71 {G : Cx} {b : Ab} {r : Int} {mm : Mi} {k20 : (Int → Int → Int → Mi → Option (Int × Mi))} (hF : Fi yd_X7_mayBits G b (some (iv r)) (Em mm)) (hk20 : ∀ (x2 : Int) (x3 : Int) (x4 : Int) (m : Mi), k20 x2 x3 x4 m = some (r, mm) → At yd_X7_mayBits G b 20 [some (rf G 7 false), none, some (iv x2), some (iv x3), some (iv x4), none, none, none] [] (Em m)) (x2 : Int) (x3 : Int) (x4 : Int) (μ : Mi) (h : B_X7_mayBits_71 k20 x2 x3 x4 μ = some (r, mm)) : At yd_X7_mayBits G b 71 [some (rf G 7 false), none, some (iv x2), some (iv x3), some (iv x4), none, none, none] [] (Em μ) := by
  unfold B_X7_mayBits_71 at h
  refine dinc_8_4 74 dX7_mayBits_71 rfl rfl rfl ?_
  refine st_goto 20 dX7_mayBits_74 (by decide) ?_
  exact hk20 _ _ _ _ h
theorem A_X7_mayBits_20 {G : Cx} {b : Ab} {r : Int} {mm : Mi} (hF : Fi yd_X7_mayBits G b (some (iv r)) (Em mm)) : ∀ (n : Nat) (x2 : Int) (x3 : Int) (x4 : Int) (μ : Mi), B_X7_mayBits_20 n x2 x3 x4 μ = some (r, mm) → At yd_X7_mayBits G b 20 [some (rf G 7 false), none, some (iv x2), some (iv x3), some (iv x4), none, none, none] [] (Em μ) := by
  intro n
  induction n with
  | zero =>
    intro x2 x3 x4 μ h
    exact nope h
  | succ n hk20 =>
    intro x2 x3 x4 μ h
    replace h : F_X7_mayBits_20 (B_X7_mayBits_20 n) x2 x3 x4 μ = some (r, mm) := h
    unfold F_X7_mayBits_20 at h
    refine dild_8_4 22 dX7_mayBits_20 rfl ?_
    refine dt_sipush 25 dX7_mayBits_22 sq_1120 rfl ?_
    refine dt_icmp_ge 28 77 dX7_mayBits_25 rfl (by decide) rfl wk_1120 (fun c => ?_) (fun c => ?_)
    · replace h := ifp c h
      refine dt_iconst 78 dX7_mayBits_77 rfl ?_
      refine dist_8_4 80 dX7_mayBits_78 rfl rfl rfl ?_
      exact A_X7_mayBits_80 hF FU _ _ _ _ h
    · replace h := ifn c h
      refine ald_8_0 29 rfl dX7_mayBits_28 rfl ?_
      refine dgf_X7_104 32 rfl dX7_mayBits_29 rfl ?_
      refine dild_8_2 33 dX7_mayBits_32 rfl ?_
      refine dt_sipush 36 dX7_mayBits_33 sq_1120 rfl ?_
      refine dt_imul 37 dX7_mayBits_36 rfl ?_
      refine dild_8_4 39 dX7_mayBits_37 rfl ?_
      refine dt_iadd 40 dX7_mayBits_39 rfl ?_
      obtain ⟨hi, h⟩ := ift h
      refine dzald 41 rfl rfl rfl hi rfl rfl dX7_mayBits_40 rfl ?_
      refine dt_if_eq 44 71 dX7_mayBits_41 rfl (by decide) rfl (fun c => ?_) (fun c => ?_)
      · replace h := ifp c h
        exact A_X7_mayBits_71 hF hk20 _ _ _ _ h
      · replace h := ifn c h
        refine ald_8_0 45 rfl dX7_mayBits_44 rfl ?_
        refine dgf_X7_98 48 rfl dX7_mayBits_45 rfl ?_
        refine dild_8_2 49 dX7_mayBits_48 rfl ?_
        refine dt_sipush 52 dX7_mayBits_49 sq_1120 rfl ?_
        refine dt_imul 53 dX7_mayBits_52 rfl ?_
        refine dild_8_4 55 dX7_mayBits_53 rfl ?_
        refine dt_iadd 56 dX7_mayBits_55 rfl ?_
        obtain ⟨hi, h⟩ := ift h
        refine diald 57 rfl rfl rfl hi rfl rfl dX7_mayBits_56 rfl ?_
        refine dt_if_le 60 71 dX7_mayBits_57 rfl (by decide) rfl (fun c => ?_) (fun c => ?_)
        · replace h := ifp c h
          exact A_X7_mayBits_71 hF hk20 _ _ _ _ h
        · replace h := ifn c h
          refine dild_8_3 61 dX7_mayBits_60 rfl ?_
          refine dt_iconst 62 dX7_mayBits_61 rfl ?_
          refine dild_8_4 64 dX7_mayBits_62 rfl ?_
          refine dt_sipush 67 dX7_mayBits_64 sq_140 rfl ?_
          refine dt_idiv 68 dX7_mayBits_67 (by rw [wk_140]; decide) rfl ?_
          refine dt_ishl 69 dX7_mayBits_68 rfl ?_
          refine dt_ior 70 dX7_mayBits_69 rfl ?_
          refine dist_8_3 71 dX7_mayBits_70 rfl rfl rfl ?_
          exact A_X7_mayBits_71 hF hk20 _ _ _ _ h
theorem S_X7_mayBits {G : Cx} {μ : Mi} {x1 : Int} {x2 : Int} {r : Int} {mm : Mi} (h : D_X7_mayBits x1 x2 μ = some (r, mm)) : Spec yd_X7_mayBits G [rf G 7 false, iv x1, iv x2] (Em μ) (some (iv r)) (Em mm) := by
  refine Spec.of (by decide) rfl (catL_ok rfl) (Nat.le_of_ble_eq_true rfl) rfl (fun b hF => ?_)
  unfold D_X7_mayBits at h
  refine ald_8_0 1 rfl dX7_mayBits_0 rfl ?_
  refine dild_8_1 2 dX7_mayBits_1 rfl ?_
  refine dt_iconst 3 dX7_mayBits_2 rfl ?_
  obtain ⟨m1, h1, h⟩ := bm_some h
  refine cvv_2 6 cw_X7_321 (S_X7_sets h1) rfl ⟨by decide, by decide⟩ rfl rfl rfl rfl rfl (Nat.le_of_ble_eq_true rfl) dX7_mayBits_3 rfl ?_
  refine ald_8_0 7 rfl dX7_mayBits_6 rfl ?_
  obtain ⟨r2, m2, h2, h⟩ := bd_some h
  refine cvi_0 10 cw_X7_325 (S_X7_counts h2) rfl ⟨by decide, by decide⟩ rfl rfl rfl rfl rfl (Nat.le_of_ble_eq_true rfl) dX7_mayBits_7 rfl ?_
  refine dt_if_ne 13 15 dX7_mayBits_10 rfl (by decide) rfl (fun c => ?_) (fun c => ?_)
  · replace h := ifp c h
    refine dt_iconst 16 dX7_mayBits_15 rfl ?_
    refine dist_8_3 17 dX7_mayBits_16 rfl rfl rfl ?_
    refine dt_iconst 18 dX7_mayBits_17 rfl ?_
    refine dist_8_4 20 dX7_mayBits_18 rfl rfl rfl ?_
    exact At.weak (ls_s (ls_n (ls_s (ls_s (ls_s (ls_n (ls_n (ls_n ls_0)))))))) (A_X7_mayBits_20 hF FU _ _ _ _ h)
  · replace h := ifn c h
    refine dt_iconst 14 dX7_mayBits_13 rfl ?_
    exact dr_i hF rfl dX7_mayBits_14 h
/-- StampTalesModel.ones -/
theorem A_X7_ones_4 {G : Cx} {b : Ab} {μ : Mi} {r : Int} (hF : Fi yd_X7_ones G b (some (iv r)) (Em μ)) : ∀ (n : Nat) (x0 : Int) (x1 : Int) (x2 : Int), B_X7_ones_4 n x0 x1 x2 = some r → At yd_X7_ones G b 4 [some (iv x0), some (iv x1), some (iv x2)] [] (Em μ) := by
  intro n
  induction n with
  | zero =>
    intro x0 x1 x2 h
    exact nope h
  | succ n hk4 =>
    intro x0 x1 x2 h
    replace h : F_X7_ones_4 (B_X7_ones_4 n) x0 x1 x2 = some r := h
    unfold F_X7_ones_4 at h
    refine dild_3_2 5 dX7_ones_4 rfl ?_
    refine dt_bipush 7 dX7_ones_5 bq_16 rfl ?_
    refine dt_icmp_ge 10 24 dX7_ones_7 rfl (by decide) rfl wk_16 (fun c => ?_) (fun c => ?_)
    · replace h := ifp c h
      refine dild_3_1 25 dX7_ones_24 rfl ?_
      exact dr_ip hF rfl dX7_ones_25 h
    · replace h := ifn c h
      refine dild_3_1 11 dX7_ones_10 rfl ?_
      refine dild_3_0 12 dX7_ones_11 rfl ?_
      refine dild_3_2 13 dX7_ones_12 rfl ?_
      refine dt_ishr 14 dX7_ones_13 rfl ?_
      refine dt_iconst 15 dX7_ones_14 rfl ?_
      refine dt_iand 16 dX7_ones_15 rfl ?_
      refine dt_iadd 17 dX7_ones_16 rfl ?_
      refine dist_3_1 18 dX7_ones_17 rfl rfl rfl ?_
      refine dinc_3_2 21 dX7_ones_18 rfl rfl rfl ?_
      refine st_goto 4 dX7_ones_21 (by decide) ?_
      exact hk4 _ _ _ h
theorem S_X7_ones {G : Cx} {μ : Mi} {x0 : Int} {r : Int} (h : D_X7_ones x0 = some r) : Spec yd_X7_ones G [iv x0] (Em μ) (some (iv r)) (Em μ) := by
  refine Spec.of (by decide) rfl (catL_ok rfl) (Nat.le_of_ble_eq_true rfl) rfl (fun b hF => ?_)
  unfold D_X7_ones at h
  refine dt_iconst 1 dX7_ones_0 rfl ?_
  refine dist_3_1 2 dX7_ones_1 rfl rfl rfl ?_
  refine dt_iconst 3 dX7_ones_2 rfl ?_
  refine dist_3_2 4 dX7_ones_3 rfl rfl rfl ?_
  exact A_X7_ones_4 hF FU _ _ _ h
/-- StampTalesModel.may -/
theorem S_X7_may {G : Cx} {μ : Mi} {x1 : Int} {x2 : Int} {r : Int} {mm : Mi} (h : D_X7_may x1 x2 μ = some (r, mm)) : Spec yd_X7_may G [rf G 7 false, iv x1, iv x2] (Em μ) (some (iv r)) (Em mm) := by
  refine Spec.of (by decide) rfl (catL_ok rfl) (Nat.le_of_ble_eq_true rfl) rfl (fun b hF => ?_)
  unfold D_X7_may at h
  refine ald_3_0 1 rfl dX7_may_0 rfl ?_
  refine dild_3_1 2 dX7_may_1 rfl ?_
  refine cvi_1 5 cw_X7_256 (S_X7_isMan x1) rfl ⟨by decide, by decide⟩ rfl rfl rfl rfl rfl (Nat.le_of_ble_eq_true rfl) dX7_may_2 rfl ?_
  refine dt_if_eq 8 31 dX7_may_5 rfl (by decide) rfl (fun c => ?_) (fun c => ?_)
  · replace h := ifp c h
    refine dt_iconst 32 dX7_may_31 rfl ?_
    exact dr_i hF rfl dX7_may_32 h
  · replace h := ifn c h
    refine dild_3_2 9 dX7_may_8 rfl ?_
    refine dt_iconst 10 dX7_may_9 rfl ?_
    refine ald_3_0 11 rfl dX7_may_10 rfl ?_
    refine dgf_X7_51 14 rfl dX7_may_11 rfl ?_
    refine dild_3_1 15 dX7_may_14 rfl ?_
    obtain ⟨hi, h⟩ := ift h
    refine diald 16 rfl rfl rfl hi rfl rfl dX7_may_15 rfl ?_
    refine csi_3 19 cw_X7_117 (S_X7_in x2 0 (rd μ 55 false (ix x1))) rfl ⟨by decide, by decide⟩ (Nat.le_of_ble_eq_true rfl) dX7_may_16 rfl ?_
    refine dt_if_eq 22 31 dX7_may_19 rfl (by decide) rfl (fun c => ?_) (fun c => ?_)
    · replace h := ifp c h
      refine dt_iconst 32 dX7_may_31 rfl ?_
      exact dr_i hF rfl dX7_may_32 h
    · replace h := ifn c h
      refine ald_3_0 23 rfl dX7_may_22 rfl ?_
      refine dild_3_1 24 dX7_may_23 rfl ?_
      refine dild_3_2 25 dX7_may_24 rfl ?_
      obtain ⟨r3, m3, h3, h⟩ := bd_some h
      refine cvi_2 28 cw_X7_328 (S_X7_mayBits h3) rfl ⟨by decide, by decide⟩ rfl rfl rfl rfl rfl (Nat.le_of_ble_eq_true rfl) dX7_may_25 rfl ?_
      refine st_goto 32 dX7_may_28 (by decide) ?_
      exact dr_i hF rfl dX7_may_32 h
/-- StampTalesModel.surely -/
theorem A_X7_surely_51 {G : Cx} {b : Ab} {r : Int} {mm : Mi} (hF : Fi yd_X7_surely G b (some (iv r)) (Em mm)) : ∀ (n : Nat) (x3 : Int) (x4 : Int) (μ : Mi), B_X7_surely_51 n x3 x4 μ = some (r, mm) → At yd_X7_surely G b 51 [none, none, none, some (iv x3), some (iv x4)] [] (Em μ) := by
  intro n
  induction n with
  | zero =>
    intro x3 x4 μ h
    exact nope h
  | succ n hk51 =>
    intro x3 x4 μ h
    replace h : F_X7_surely_51 (B_X7_surely_51 n) x3 x4 μ = some (r, mm) := h
    unfold F_X7_surely_51 at h
    refine dild_5_3 52 dX7_surely_51 rfl ?_
    refine dild_5_4 54 dX7_surely_52 rfl ?_
    refine dt_ishr 55 dX7_surely_54 rfl ?_
    refine dt_iconst 56 dX7_surely_55 rfl ?_
    refine dt_icmp_eq 59 65 dX7_surely_56 rfl (by decide) rfl wk_1 (fun c => ?_) (fun c => ?_)
    · replace h := ifp c h
      refine dild_5_4 67 dX7_surely_65 rfl ?_
      exact dr_i hF rfl dX7_surely_67 h
    · replace h := ifn c h
      refine dinc_5_4 62 dX7_surely_59 rfl rfl rfl ?_
      refine st_goto 51 dX7_surely_62 (by decide) ?_
      exact hk51 _ _ _ h
theorem S_X7_surely {G : Cx} {μ : Mi} {x1 : Int} {x2 : Int} {r : Int} {mm : Mi} (h : D_X7_surely x1 x2 μ = some (r, mm)) : Spec yd_X7_surely G [rf G 7 false, iv x1, iv x2] (Em μ) (some (iv r)) (Em mm) := by
  refine Spec.of (by decide) rfl (catL_ok rfl) (Nat.le_of_ble_eq_true rfl) rfl (fun b hF => ?_)
  unfold D_X7_surely at h
  refine ald_5_0 1 rfl dX7_surely_0 rfl ?_
  refine dild_5_1 2 dX7_surely_1 rfl ?_
  refine cvi_1 5 cw_X7_256 (S_X7_isMan x1) rfl ⟨by decide, by decide⟩ rfl rfl rfl rfl rfl (Nat.le_of_ble_eq_true rfl) dX7_surely_2 rfl ?_
  refine dt_if_eq 8 22 dX7_surely_5 rfl (by decide) rfl (fun c => ?_) (fun c => ?_)
  · replace h := ifp c h
    refine dt_iconst 23 dX7_surely_22 rfl ?_
    exact dr_i hF rfl dX7_surely_23 h
  · replace h := ifn c h
    refine dild_5_2 9 dX7_surely_8 rfl ?_
    refine dt_iconst 10 dX7_surely_9 rfl ?_
    refine ald_5_0 11 rfl dX7_surely_10 rfl ?_
    refine dgf_X7_51 14 rfl dX7_surely_11 rfl ?_
    refine dild_5_1 15 dX7_surely_14 rfl ?_
    obtain ⟨hi, h⟩ := ift h
    refine diald 16 rfl rfl rfl hi rfl rfl dX7_surely_15 rfl ?_
    refine csi_3 19 cw_X7_117 (S_X7_in x2 0 (rd μ 55 false (ix x1))) rfl ⟨by decide, by decide⟩ (Nat.le_of_ble_eq_true rfl) dX7_surely_16 rfl ?_
    refine dt_if_ne 22 24 dX7_surely_19 rfl (by decide) rfl (fun c => ?_) (fun c => ?_)
    · replace h := ifp c h
      refine ald_5_0 25 rfl dX7_surely_24 rfl ?_
      refine dild_5_1 26 dX7_surely_25 rfl ?_
      refine dild_5_2 27 dX7_surely_26 rfl ?_
      obtain ⟨r3, m3, h3, h⟩ := bd_some h
      refine cvi_2 30 cw_X7_328 (S_X7_mayBits h3) rfl ⟨by decide, by decide⟩ rfl rfl rfl rfl rfl (Nat.le_of_ble_eq_true rfl) dX7_surely_27 rfl ?_
      refine dist_5_3 31 dX7_surely_30 rfl rfl rfl ?_
      refine dild_5_3 32 dX7_surely_31 rfl ?_
      obtain ⟨r4, h4, h⟩ := bp_some h
      refine csi_1 35 cw_X7_331 (S_X7_ones h4) rfl ⟨by decide, by decide⟩ (Nat.le_of_ble_eq_true rfl) dX7_surely_32 rfl ?_
      refine dt_iconst 36 dX7_surely_35 rfl ?_
      refine dt_icmp_ne 39 46 dX7_surely_36 rfl (by decide) rfl wk_1 (fun c => ?_) (fun c => ?_)
      · replace h := ifp c h
        refine dt_iconst 47 dX7_surely_46 rfl ?_
        exact dr_i hF rfl dX7_surely_47 h
      · replace h := ifn c h
        refine dild_5_3 40 dX7_surely_39 rfl ?_
        refine dt_sipush 43 dX7_surely_40 sq_256 rfl ?_
        refine dt_icmp_ne 46 48 dX7_surely_43 rfl (by decide) rfl wk_256 (fun c => ?_) (fun c => ?_)
        · replace h := ifp c h
          refine dt_iconst 49 dX7_surely_48 rfl ?_
          refine dist_5_4 51 dX7_surely_49 rfl rfl rfl ?_
          exact At.weak (ls_n (ls_n (ls_n (ls_s (ls_s ls_0))))) (A_X7_surely_51 hF FU _ _ _ h)
        · replace h := ifn c h
          refine dt_iconst 47 dX7_surely_46 rfl ?_
          exact dr_i hF rfl dX7_surely_47 h
    · replace h := ifn c h
      refine dt_iconst 23 dX7_surely_22 rfl ?_
      exact dr_i hF rfl dX7_surely_23 h
/-- StampTalesModel.price -/
theorem S_X7_price {G : Cx} {μ : Mi} {x1 : Int} {x2 : Int} {r : Int} (h : D_X7_price x1 x2 μ = some r) : Spec yd_X7_price G [rf G 7 false, iv x1, iv x2] (Em μ) (some (iv r)) (Em μ) := by
  refine Spec.of (by decide) rfl (catL_ok rfl) (Nat.le_of_ble_eq_true rfl) rfl (fun b hF => ?_)
  unfold D_X7_price at h
  refine dild_3_1 1 dX7_price_0 rfl ?_
  refine dt_iconst 2 dX7_price_1 rfl ?_
  refine dt_icmp_ne 5 9 dX7_price_2 rfl (by decide) rfl wk_m1 (fun c => ?_) (fun c => ?_)
  · replace h := ifp c h
    refine dild_3_2 10 dX7_price_9 rfl ?_
    refine dt_if_eq 13 22 dX7_price_10 rfl (by decide) rfl (fun c => ?_) (fun c => ?_)
    · replace h := ifp c h
      refine dt_iconst 23 dX7_price_22 rfl ?_
      exact dr_ip hF rfl dX7_price_23 h
    · replace h := ifn c h
      refine ald_3_0 14 rfl dX7_price_13 rfl ?_
      refine dild_3_1 15 dX7_price_14 rfl ?_
      refine dt_iconst 16 dX7_price_15 rfl ?_
      obtain ⟨r1, h1, h⟩ := bp_some h
      refine cvi_2 19 cw_X7_276 (S_X7_ofLink h1) rfl ⟨by decide, by decide⟩ rfl rfl rfl rfl rfl (Nat.le_of_ble_eq_true rfl) dX7_price_16 rfl ?_
      refine st_goto 23 dX7_price_19 (by decide) ?_
      exact dr_ip hF rfl dX7_price_23 h
  · replace h := ifn c h
    refine dt_iconst 6 dX7_price_5 rfl ?_
    refine st_goto 23 dX7_price_6 (by decide) ?_
    exact dr_ip hF rfl dX7_price_23 h
/-- StampTalesModel.leasts -/
theorem A_X7_leasts_211 {G : Cx} {b : Ab} {r : Int} {mm : Mi} {k10 : (Int → Int → Int → Mi → Option (Int × Mi))} {k17 : (Int → Int → Int → Int → Mi → Option (Int × Mi))} (hF : Fi yd_X7_leasts G b (some (iv r)) (Em mm)) (hk10 : ∀ (x1 : Int) (x2 : Int) (x3 : Int) (m : Mi), k10 x1 x2 x3 m = some (r, mm) → At yd_X7_leasts G b 10 [some (rf G 7 false), some (iv x1), some (iv x2), some (iv x3), none, none, none, none, none] [] (Em m)) (hk17 : ∀ (x1 : Int) (x2 : Int) (x3 : Int) (x4 : Int) (m : Mi), k17 x1 x2 x3 x4 m = some (r, mm) → At yd_X7_leasts G b 17 [some (rf G 7 false), some (iv x1), some (iv x2), some (iv x3), some (iv x4), none, none, none, none] [] (Em m)) (x1 : Int) (x2 : Int) (x3 : Int) (x4 : Int) (μ : Mi) (h : B_X7_leasts_211 k10 k17 x1 x2 x3 x4 μ = some (r, mm)) : At yd_X7_leasts G b 211 [some (rf G 7 false), some (iv x1), some (iv x2), some (iv x3), some (iv x4), none, none, none, none] [] (Em μ) := by
  unfold B_X7_leasts_211 at h
  refine dinc_9_4 214 dX7_leasts_211 rfl rfl rfl ?_
  refine st_goto 17 dX7_leasts_214 (by decide) ?_
  exact hk17 _ _ _ _ _ h
theorem A_X7_leasts_205 {G : Cx} {b : Ab} {r : Int} {mm : Mi} {k10 : (Int → Int → Int → Mi → Option (Int × Mi))} {k17 : (Int → Int → Int → Int → Mi → Option (Int × Mi))} {k95 : (Int → Int → Int → Int → Int → Int → Mi → Option (Int × Mi))} (hF : Fi yd_X7_leasts G b (some (iv r)) (Em mm)) (hk10 : ∀ (x1 : Int) (x2 : Int) (x3 : Int) (m : Mi), k10 x1 x2 x3 m = some (r, mm) → At yd_X7_leasts G b 10 [some (rf G 7 false), some (iv x1), some (iv x2), some (iv x3), none, none, none, none, none] [] (Em m)) (hk17 : ∀ (x1 : Int) (x2 : Int) (x3 : Int) (x4 : Int) (m : Mi), k17 x1 x2 x3 x4 m = some (r, mm) → At yd_X7_leasts G b 17 [some (rf G 7 false), some (iv x1), some (iv x2), some (iv x3), some (iv x4), none, none, none, none] [] (Em m)) (hk95 : ∀ (x1 : Int) (x2 : Int) (x3 : Int) (x4 : Int) (x5 : Int) (x6 : Int) (m : Mi), k95 x1 x2 x3 x4 x5 x6 m = some (r, mm) → At yd_X7_leasts G b 95 [some (rf G 7 false), some (iv x1), some (iv x2), some (iv x3), some (iv x4), some (iv x5), some (iv x6), none, none] [] (Em m)) (x1 : Int) (x2 : Int) (x3 : Int) (x4 : Int) (x5 : Int) (x6 : Int) (μ : Mi) (h : B_X7_leasts_205 k10 k17 k95 x1 x2 x3 x4 x5 x6 μ = some (r, mm)) : At yd_X7_leasts G b 205 [some (rf G 7 false), some (iv x1), some (iv x2), some (iv x3), some (iv x4), some (iv x5), some (iv x6), none, none] [] (Em μ) := by
  unfold B_X7_leasts_205 at h
  refine dinc_9_6 208 dX7_leasts_205 rfl rfl rfl ?_
  refine st_goto 95 dX7_leasts_208 (by decide) ?_
  exact hk95 _ _ _ _ _ _ _ h
theorem A_X7_leasts_204 {G : Cx} {b : Ab} {r : Int} {mm : Mi} {k10 : (Int → Int → Int → Mi → Option (Int × Mi))} {k17 : (Int → Int → Int → Int → Mi → Option (Int × Mi))} {k95 : (Int → Int → Int → Int → Int → Int → Mi → Option (Int × Mi))} (hF : Fi yd_X7_leasts G b (some (iv r)) (Em mm)) (hk10 : ∀ (x1 : Int) (x2 : Int) (x3 : Int) (m : Mi), k10 x1 x2 x3 m = some (r, mm) → At yd_X7_leasts G b 10 [some (rf G 7 false), some (iv x1), some (iv x2), some (iv x3), none, none, none, none, none] [] (Em m)) (hk17 : ∀ (x1 : Int) (x2 : Int) (x3 : Int) (x4 : Int) (m : Mi), k17 x1 x2 x3 x4 m = some (r, mm) → At yd_X7_leasts G b 17 [some (rf G 7 false), some (iv x1), some (iv x2), some (iv x3), some (iv x4), none, none, none, none] [] (Em m)) (hk95 : ∀ (x1 : Int) (x2 : Int) (x3 : Int) (x4 : Int) (x5 : Int) (x6 : Int) (m : Mi), k95 x1 x2 x3 x4 x5 x6 m = some (r, mm) → At yd_X7_leasts G b 95 [some (rf G 7 false), some (iv x1), some (iv x2), some (iv x3), some (iv x4), some (iv x5), some (iv x6), none, none] [] (Em m)) (x1 : Int) (x2 : Int) (x3 : Int) (x4 : Int) (x5 : Int) (x6 : Int) (s0 : Int) (s1 : Int) (μ : Mi) (h : B_X7_leasts_204 k10 k17 k95 x1 x2 x3 x4 x5 x6 s0 s1 μ = some (r, mm)) : At yd_X7_leasts G b 204 [some (rf G 7 false), some (iv x1), some (iv x2), some (iv x3), some (iv x4), some (iv x5), some (iv x6), none, none] [iv s0, iv s1, rf G 71 false] (Em μ) := by
  unfold B_X7_leasts_204 at h
  obtain ⟨hi, h⟩ := ift h
  refine diast 205 rfl rfl rfl hi rfl dX7_leasts_204 rfl ?_
  exact A_X7_leasts_205 hF hk10 hk17 hk95 _ _ _ _ _ _ _ h
theorem A_X7_leasts_95 {G : Cx} {b : Ab} {r : Int} {mm : Mi} {k10 : (Int → Int → Int → Mi → Option (Int × Mi))} {k17 : (Int → Int → Int → Int → Mi → Option (Int × Mi))} (hF : Fi yd_X7_leasts G b (some (iv r)) (Em mm)) (hk10 : ∀ (x1 : Int) (x2 : Int) (x3 : Int) (m : Mi), k10 x1 x2 x3 m = some (r, mm) → At yd_X7_leasts G b 10 [some (rf G 7 false), some (iv x1), some (iv x2), some (iv x3), none, none, none, none, none] [] (Em m)) (hk17 : ∀ (x1 : Int) (x2 : Int) (x3 : Int) (x4 : Int) (m : Mi), k17 x1 x2 x3 x4 m = some (r, mm) → At yd_X7_leasts G b 17 [some (rf G 7 false), some (iv x1), some (iv x2), some (iv x3), some (iv x4), none, none, none, none] [] (Em m)) : ∀ (n : Nat) (x1 : Int) (x2 : Int) (x3 : Int) (x4 : Int) (x5 : Int) (x6 : Int) (μ : Mi), B_X7_leasts_95 k10 k17 n x1 x2 x3 x4 x5 x6 μ = some (r, mm) → At yd_X7_leasts G b 95 [some (rf G 7 false), some (iv x1), some (iv x2), some (iv x3), some (iv x4), some (iv x5), some (iv x6), none, none] [] (Em μ) := by
  intro n
  induction n with
  | zero =>
    intro x1 x2 x3 x4 x5 x6 μ h
    exact nope h
  | succ n hk95 =>
    intro x1 x2 x3 x4 x5 x6 μ h
    replace h : F_X7_leasts_95 k10 k17 (B_X7_leasts_95 k10 k17 n) x1 x2 x3 x4 x5 x6 μ = some (r, mm) := h
    unfold F_X7_leasts_95 at h
    refine dild_9_6 97 dX7_leasts_95 rfl ?_
    refine ald_9_0 98 rfl dX7_leasts_97 rfl ?_
    refine dgf_X7_250 101 rfl dX7_leasts_98 rfl rfl ?_
    refine dt_icmp_ge 104 211 dX7_leasts_101 rfl (by decide) rfl rfl (fun c => ?_) (fun c => ?_)
    · replace h := ifp c h
      exact At.weak (ls_s (ls_s (ls_s (ls_s (ls_s (ls_n (ls_n (ls_n (ls_n ls_0))))))))) (A_X7_leasts_211 hF hk10 hk17 _ _ _ _ _ h)
    · replace h := ifn c h
      refine ald_9_0 105 rfl dX7_leasts_104 rfl ?_
      refine dild_9_3 106 dX7_leasts_105 rfl ?_
      refine dild_9_4 108 dX7_leasts_106 rfl ?_
      refine dild_9_6 110 dX7_leasts_108 rfl ?_
      obtain ⟨r1, m1, h1, h⟩ := bd_some h
      refine cvi_3 113 cw_X7_310 (S_X7_goes h1) rfl ⟨by decide, by decide⟩ rfl rfl rfl rfl rfl (Nat.le_of_ble_eq_true rfl) dX7_leasts_110 rfl ?_
      refine dist_9_7 115 dX7_leasts_113 rfl rfl rfl ?_
      refine dild_9_7 117 dX7_leasts_115 rfl ?_
      refine dt_iconst 118 dX7_leasts_117 rfl ?_
      refine dt_icmp_eq 121 205 dX7_leasts_118 rfl (by decide) rfl wk_m1 (fun c => ?_) (fun c => ?_)
      · replace h := ifp c h
        exact At.weak (ls_s (ls_s (ls_s (ls_s (ls_s (ls_s (ls_s (ls_n (ls_n ls_0))))))))) (A_X7_leasts_205 hF hk10 hk17 hk95 _ _ _ _ _ _ _ h)
      · replace h := ifn c h
        refine ald_9_0 122 rfl dX7_leasts_121 rfl ?_
        refine dgf_X7_101 125 rfl dX7_leasts_122 rfl ?_
        refine ald_9_0 126 rfl dX7_leasts_125 rfl ?_
        refine dgf_X7_297 129 rfl dX7_leasts_126 rfl rfl ?_
        refine dt_sipush 132 dX7_leasts_129 sq_1120 rfl ?_
        refine dt_imul 133 dX7_leasts_132 rfl ?_
        refine dild_9_7 135 dX7_leasts_133 rfl ?_
        refine dt_iadd 136 dX7_leasts_135 rfl ?_
        obtain ⟨hi, h⟩ := ift h
        refine diald 137 rfl rfl rfl hi rfl rfl dX7_leasts_136 rfl ?_
        refine dt_ldcw (z := 1000000) 140 rfl k_X7_335 (by decide) dX7_leasts_137 rfl ?_
        refine dt_icmp_ne 143 146 dX7_leasts_140 rfl (by decide) rfl wk_1000000 (fun c => ?_) (fun c => ?_)
        · replace h := ifp c h
          refine ald_9_0 147 rfl dX7_leasts_146 rfl ?_
          refine dgf_X7_101 150 rfl dX7_leasts_147 rfl ?_
          refine ald_9_0 151 rfl dX7_leasts_150 rfl ?_
          refine dgf_X7_297 154 rfl dX7_leasts_151 rfl rfl ?_
          refine dt_sipush 157 dX7_leasts_154 sq_1120 rfl ?_
          refine dt_imul 158 dX7_leasts_157 rfl ?_
          refine dild_9_7 160 dX7_leasts_158 rfl ?_
          refine dt_iadd 161 dX7_leasts_160 rfl ?_
          obtain ⟨hi, h⟩ := ift h
          refine diald 162 rfl rfl rfl hi rfl rfl dX7_leasts_161 rfl ?_
          refine dild_9_2 163 dX7_leasts_162 rfl ?_
          refine ald_9_0 164 rfl dX7_leasts_163 rfl ?_
          refine dild_9_6 166 dX7_leasts_164 rfl ?_
          refine dild_9_1 167 dX7_leasts_166 rfl ?_
          obtain ⟨r2, h2, h⟩ := bp_some h
          refine cvi_2 170 cw_X7_336 (S_X7_price h2) rfl ⟨by decide, by decide⟩ rfl rfl rfl rfl rfl (Nat.le_of_ble_eq_true rfl) dX7_leasts_167 rfl ?_
          refine dt_imul 171 dX7_leasts_170 rfl ?_
          refine dt_iadd 172 dX7_leasts_171 rfl ?_
          refine dist_9_8 174 dX7_leasts_172 rfl rfl rfl ?_
          refine ald_9_0 175 rfl dX7_leasts_174 rfl ?_
          refine dgf_X7_101 178 rfl dX7_leasts_175 rfl ?_
          refine dild_9_5 180 dX7_leasts_178 rfl ?_
          refine dild_9_8 182 dX7_leasts_180 rfl ?_
          refine ald_9_0 183 rfl dX7_leasts_182 rfl ?_
          refine dgf_X7_101 186 rfl dX7_leasts_183 rfl ?_
          refine dild_9_5 188 dX7_leasts_186 rfl ?_
          obtain ⟨hi, h⟩ := ift h
          refine diald 189 rfl rfl rfl hi rfl rfl dX7_leasts_188 rfl ?_
          refine dt_icmp_ge 192 197 dX7_leasts_189 rfl (by decide) rfl rfl (fun c => ?_) (fun c => ?_)
          · replace h := ifp c h
            refine ald_9_0 198 rfl dX7_leasts_197 rfl ?_
            refine dgf_X7_101 201 rfl dX7_leasts_198 rfl ?_
            refine dild_9_5 203 dX7_leasts_201 rfl ?_
            obtain ⟨hi, h⟩ := ift h
            refine diald 204 rfl rfl rfl hi rfl rfl dX7_leasts_203 rfl ?_
            exact At.weak (ls_s (ls_s (ls_s (ls_s (ls_s (ls_s (ls_s (ls_n (ls_n ls_0))))))))) (A_X7_leasts_204 hF hk10 hk17 hk95 _ _ _ _ _ _ _ _ _ h)
          · replace h := ifn c h
            refine dild_9_8 194 dX7_leasts_192 rfl ?_
            refine st_goto 204 dX7_leasts_194 (by decide) ?_
            exact At.weak (ls_s (ls_s (ls_s (ls_s (ls_s (ls_s (ls_s (ls_n (ls_n ls_0))))))))) (A_X7_leasts_204 hF hk10 hk17 hk95 _ _ _ _ _ _ _ _ _ h)
        · replace h := ifn c h
          refine st_goto 205 dX7_leasts_143 (by decide) ?_
          exact At.weak (ls_s (ls_s (ls_s (ls_s (ls_s (ls_s (ls_s (ls_n (ls_n ls_0))))))))) (A_X7_leasts_205 hF hk10 hk17 hk95 _ _ _ _ _ _ _ h)
theorem A_X7_leasts_17 {G : Cx} {b : Ab} {r : Int} {mm : Mi} {k10 : (Int → Int → Int → Mi → Option (Int × Mi))} (hF : Fi yd_X7_leasts G b (some (iv r)) (Em mm)) (hk10 : ∀ (x1 : Int) (x2 : Int) (x3 : Int) (m : Mi), k10 x1 x2 x3 m = some (r, mm) → At yd_X7_leasts G b 10 [some (rf G 7 false), some (iv x1), some (iv x2), some (iv x3), none, none, none, none, none] [] (Em m)) : ∀ (n : Nat) (x1 : Int) (x2 : Int) (x3 : Int) (x4 : Int) (μ : Mi), B_X7_leasts_17 k10 n x1 x2 x3 x4 μ = some (r, mm) → At yd_X7_leasts G b 17 [some (rf G 7 false), some (iv x1), some (iv x2), some (iv x3), some (iv x4), none, none, none, none] [] (Em μ) := by
  intro n
  induction n with
  | zero =>
    intro x1 x2 x3 x4 μ h
    exact nope h
  | succ n hk17 =>
    intro x1 x2 x3 x4 μ h
    replace h : F_X7_leasts_17 k10 (B_X7_leasts_17 k10 n) x1 x2 x3 x4 μ = some (r, mm) := h
    unfold F_X7_leasts_17 at h
    refine dild_9_4 19 dX7_leasts_17 rfl ?_
    refine dt_sipush 22 dX7_leasts_19 sq_1120 rfl ?_
    refine dt_icmp_ge 25 217 dX7_leasts_22 rfl (by decide) rfl wk_1120 (fun c => ?_) (fun c => ?_)
    · replace h := ifp c h
      refine dinc_9_3 220 dX7_leasts_217 rfl rfl rfl ?_
      refine st_goto 10 dX7_leasts_220 (by decide) ?_
      exact At.weak (ls_s (ls_s (ls_s (ls_s (ls_n (ls_n (ls_n (ls_n (ls_n ls_0))))))))) (hk10 _ _ _ _ h)
    · replace h := ifn c h
      refine dild_9_3 26 dX7_leasts_25 rfl ?_
      refine dt_sipush 29 dX7_leasts_26 sq_1120 rfl ?_
      refine dt_imul 30 dX7_leasts_29 rfl ?_
      refine dild_9_4 32 dX7_leasts_30 rfl ?_
      refine dt_iadd 33 dX7_leasts_32 rfl ?_
      refine dist_9_5 35 dX7_leasts_33 rfl rfl rfl ?_
      refine ald_9_0 36 rfl dX7_leasts_35 rfl ?_
      refine dgf_X7_101 39 rfl dX7_leasts_36 rfl ?_
      refine dild_9_5 41 dX7_leasts_39 rfl ?_
      refine dt_ldcw (z := 1000000) 44 rfl k_X7_335 (by decide) dX7_leasts_41 rfl ?_
      obtain ⟨hi, h⟩ := ift h
      refine diast 45 rfl rfl rfl hi rfl dX7_leasts_44 rfl ?_
      refine ald_9_0 46 rfl dX7_leasts_45 rfl ?_
      refine dgf_X7_104 49 rfl dX7_leasts_46 rfl ?_
      refine dild_9_5 51 dX7_leasts_49 rfl ?_
      obtain ⟨hi, h⟩ := ift h
      refine dzald 52 rfl rfl rfl hi rfl (rd_o (by decide)) dX7_leasts_51 rfl ?_
      refine dt_if_eq 55 211 dX7_leasts_52 rfl (by decide) rfl (fun c => ?_) (fun c => ?_)
      · replace h := ifp c h
        exact At.weak (ls_s (ls_s (ls_s (ls_s (ls_s (ls_n (ls_n (ls_n (ls_n ls_0))))))))) (A_X7_leasts_211 hF hk10 hk17 _ _ _ _ _ h)
      · replace h := ifn c h
        refine ald_9_0 56 rfl dX7_leasts_55 rfl ?_
        refine dgf_X7_98 59 rfl dX7_leasts_56 rfl ?_
        refine dild_9_5 61 dX7_leasts_59 rfl ?_
        obtain ⟨hi, h⟩ := ift h
        refine diald 62 rfl rfl rfl hi rfl (rd_o (by decide)) dX7_leasts_61 rfl ?_
        refine dt_if_ne 65 68 dX7_leasts_62 rfl (by decide) rfl (fun c => ?_) (fun c => ?_)
        · replace h := ifp c h
          refine dild_9_3 69 dX7_leasts_68 rfl ?_
          refine ald_9_0 70 rfl dX7_leasts_69 rfl ?_
          refine dgf_X7_51 73 rfl dX7_leasts_70 rfl ?_
          refine ald_9_0 74 rfl dX7_leasts_73 rfl ?_
          refine dgf_X7_279 77 rfl dX7_leasts_74 rfl (rd_o (by decide)) ?_
          obtain ⟨hi, h⟩ := ift h
          refine diald 78 rfl rfl rfl hi rfl (rd_o (by decide)) dX7_leasts_77 rfl ?_
          refine dt_icmp_ne 81 92 dX7_leasts_78 rfl (by decide) rfl rfl (fun c => ?_) (fun c => ?_)
          · replace h := ifp c h
            refine dt_iconst 93 dX7_leasts_92 rfl ?_
            refine dist_9_6 95 dX7_leasts_93 rfl rfl rfl ?_
            exact A_X7_leasts_95 hF hk10 hk17 FU _ _ _ _ _ _ _ h
          · replace h := ifn c h
            refine ald_9_0 82 rfl dX7_leasts_81 rfl ?_
            refine dgf_X7_101 85 rfl dX7_leasts_82 rfl ?_
            refine dild_9_5 87 dX7_leasts_85 rfl ?_
            refine dt_iconst 88 dX7_leasts_87 rfl ?_
            obtain ⟨hi, h⟩ := ift h
            refine diast 89 rfl rfl rfl hi rfl dX7_leasts_88 rfl ?_
            refine st_goto 211 dX7_leasts_89 (by decide) ?_
            exact At.weak (ls_s (ls_s (ls_s (ls_s (ls_s (ls_n (ls_n (ls_n (ls_n ls_0))))))))) (A_X7_leasts_211 hF hk10 hk17 _ _ _ _ _ h)
        · replace h := ifn c h
          refine st_goto 211 dX7_leasts_65 (by decide) ?_
          exact At.weak (ls_s (ls_s (ls_s (ls_s (ls_s (ls_n (ls_n (ls_n (ls_n ls_0))))))))) (A_X7_leasts_211 hF hk10 hk17 _ _ _ _ _ h)
theorem A_X7_leasts_10 {G : Cx} {b : Ab} {r : Int} {mm : Mi} (hF : Fi yd_X7_leasts G b (some (iv r)) (Em mm)) : ∀ (n : Nat) (x1 : Int) (x2 : Int) (x3 : Int) (μ : Mi), B_X7_leasts_10 n x1 x2 x3 μ = some (r, mm) → At yd_X7_leasts G b 10 [some (rf G 7 false), some (iv x1), some (iv x2), some (iv x3), none, none, none, none, none] [] (Em μ) := by
  intro n
  induction n with
  | zero =>
    intro x1 x2 x3 μ h
    exact nope h
  | succ n hk10 =>
    intro x1 x2 x3 μ h
    replace h : F_X7_leasts_10 (B_X7_leasts_10 n) x1 x2 x3 μ = some (r, mm) := h
    unfold F_X7_leasts_10 at h
    refine dild_9_3 11 dX7_leasts_10 rfl ?_
    refine dt_if_lt 14 223 dX7_leasts_11 rfl (by decide) rfl (fun c => ?_) (fun c => ?_)
    · replace h := ifp c h
      refine dild_9_2 224 dX7_leasts_223 rfl ?_
      refine ald_9_0 225 rfl dX7_leasts_224 rfl ?_
      refine dgf_X7_101 228 rfl dX7_leasts_225 rfl ?_
      refine ald_9_0 229 rfl dX7_leasts_228 rfl ?_
      obtain ⟨r1, h1, h⟩ := bp_some h
      refine cvi_0 232 cw_X7_307 (S_X7_start h1) rfl ⟨by decide, by decide⟩ rfl rfl rfl rfl rfl (Nat.le_of_ble_eq_true rfl) dX7_leasts_229 rfl ?_
      obtain ⟨hi, h⟩ := ift h
      refine diald 233 rfl rfl rfl hi rfl rfl dX7_leasts_232 rfl ?_
      refine dt_imul 234 dX7_leasts_233 rfl ?_
      exact dr_i hF rfl dX7_leasts_234 h
    · replace h := ifn c h
      refine dt_iconst 15 dX7_leasts_14 rfl ?_
      refine dist_9_4 17 dX7_leasts_15 rfl rfl rfl ?_
      exact A_X7_leasts_17 hF hk10 FU _ _ _ _ _ h
theorem S_X7_leasts {G : Cx} {μ : Mi} {x1 : Int} {x2 : Int} {r : Int} {mm : Mi} (h : D_X7_leasts x1 x2 μ = some (r, mm)) : Spec yd_X7_leasts G [rf G 7 false, iv x1, iv x2] (Em μ) (some (iv r)) (Em mm) := by
  refine Spec.of (by decide) rfl (catL_ok rfl) (Nat.le_of_ble_eq_true rfl) rfl (fun b hF => ?_)
  unfold D_X7_leasts at h
  refine ald_9_0 1 rfl dX7_leasts_0 rfl ?_
  refine dgf_X7_51 4 rfl dX7_leasts_1 rfl ?_
  refine ald_9_0 5 rfl dX7_leasts_4 rfl ?_
  refine dgf_X7_279 8 rfl dX7_leasts_5 rfl rfl ?_
  obtain ⟨hi, h⟩ := ift h
  refine diald 9 rfl rfl rfl hi rfl rfl dX7_leasts_8 rfl ?_
  refine dist_9_3 10 dX7_leasts_9 rfl rfl rfl ?_
  exact A_X7_leasts_10 hF FU _ _ _ _ h
/-- StampTalesModel.extreme -/
theorem A_X7_extreme_58 {G : Cx} {b : Ab} {r : Int} {mm : Mi} (hF : Fi yd_X7_extreme G b (some (iv r)) (Em mm)) (s0 : Int) (s1 : Int) (μ : Mi) (h : B_X7_extreme_58 s0 s1 μ = some (r, mm)) : At yd_X7_extreme G b 58 [none, none, none] [iv s0, iv s1, rf G 7 false] (Em μ) := by
  unfold B_X7_extreme_58 at h
  obtain ⟨r1, m1, h1, h⟩ := bd_some h
  refine cvi_2 61 cw_X7_340 (S_X7_leasts h1) rfl ⟨by decide, by decide⟩ rfl rfl rfl rfl rfl (Nat.le_of_ble_eq_true rfl) dX7_extreme_58 rfl ?_
  exact dr_i hF rfl dX7_extreme_61 h
theorem A_X7_extreme_47 {G : Cx} {b : Ab} {r : Int} {mm : Mi} (hF : Fi yd_X7_extreme G b (some (iv r)) (Em mm)) (x2 : Int) (s0 : Int) (μ : Mi) (h : B_X7_extreme_47 x2 s0 μ = some (r, mm)) : At yd_X7_extreme G b 47 [none, none, some (iv x2)] [iv s0, rf G 7 false] (Em μ) := by
  unfold B_X7_extreme_47 at h
  refine dild_3_2 48 dX7_extreme_47 rfl ?_
  refine dt_iconst 49 dX7_extreme_48 rfl ?_
  refine dt_irem 50 dX7_extreme_49 (by rw [wk_2]; decide) rfl ?_
  refine dt_if_ne 53 57 dX7_extreme_50 rfl (by decide) rfl (fun c => ?_) (fun c => ?_)
  · replace h := ifp c h
    refine dt_iconst 58 dX7_extreme_57 rfl ?_
    exact At.weak (ls_n (ls_n (ls_n ls_0))) (A_X7_extreme_58 hF _ _ _ h)
  · replace h := ifn c h
    refine dt_iconst 54 dX7_extreme_53 rfl ?_
    refine st_goto 58 dX7_extreme_54 (by decide) ?_
    exact At.weak (ls_n (ls_n (ls_n ls_0))) (A_X7_extreme_58 hF _ _ _ h)
theorem S_X7_extreme {G : Cx} {μ : Mi} {x1 : Int} {x2 : Int} {r : Int} {mm : Mi} (h : D_X7_extreme x1 x2 μ = some (r, mm)) : Spec yd_X7_extreme G [rf G 7 false, iv x1, iv x2] (Em μ) (some (iv r)) (Em mm) := by
  refine Spec.of (by decide) rfl (catL_ok rfl) (Nat.le_of_ble_eq_true rfl) rfl (fun b hF => ?_)
  unfold D_X7_extreme at h
  refine ald_3_0 1 rfl dX7_extreme_0 rfl ?_
  refine dild_3_1 2 dX7_extreme_1 rfl ?_
  refine cvi_1 5 cw_X7_256 (S_X7_isMan x1) rfl ⟨by decide, by decide⟩ rfl rfl rfl rfl rfl (Nat.le_of_ble_eq_true rfl) dX7_extreme_2 rfl ?_
  refine dt_if_eq 8 17 dX7_extreme_5 rfl (by decide) rfl (fun c => ?_) (fun c => ?_)
  · replace h := ifp c h
    refine dt_iconst 18 dX7_extreme_17 rfl ?_
    exact dr_i hF rfl dX7_extreme_18 h
  · replace h := ifn c h
    refine dild_3_2 9 dX7_extreme_8 rfl ?_
    refine dt_iconst 10 dX7_extreme_9 rfl ?_
    refine dt_iconst 11 dX7_extreme_10 rfl ?_
    refine csi_3 14 cw_X7_117 (S_X7_in x2 0 3) rfl ⟨by decide, by decide⟩ (Nat.le_of_ble_eq_true rfl) dX7_extreme_11 rfl ?_
    refine dt_if_ne 17 19 dX7_extreme_14 rfl (by decide) rfl (fun c => ?_) (fun c => ?_)
    · replace h := ifp c h
      refine ald_3_0 20 rfl dX7_extreme_19 rfl ?_
      refine dild_3_1 21 dX7_extreme_20 rfl ?_
      refine dt_iconst 22 dX7_extreme_21 rfl ?_
      obtain ⟨m3, h3, h⟩ := bm_some h
      refine cvv_2 25 cw_X7_321 (S_X7_sets h3) rfl ⟨by decide, by decide⟩ rfl rfl rfl rfl rfl (Nat.le_of_ble_eq_true rfl) dX7_extreme_22 rfl ?_
      refine ald_3_0 26 rfl dX7_extreme_25 rfl ?_
      obtain ⟨r4, m4, h4, h⟩ := bd_some h
      refine cvi_0 29 cw_X7_325 (S_X7_counts h4) rfl ⟨by decide, by decide⟩ rfl rfl rfl rfl rfl (Nat.le_of_ble_eq_true rfl) dX7_extreme_26 rfl ?_
      refine dt_if_ne 32 36 dX7_extreme_29 rfl (by decide) rfl (fun c => ?_) (fun c => ?_)
      · replace h := ifp c h
        refine ald_3_0 37 rfl dX7_extreme_36 rfl ?_
        refine dild_3_2 38 dX7_extreme_37 rfl ?_
        refine dt_iconst 39 dX7_extreme_38 rfl ?_
        refine dt_icmp_ge 42 46 dX7_extreme_39 rfl (by decide) rfl wk_2 (fun c => ?_) (fun c => ?_)
        · replace h := ifp c h
          refine dt_iconst 47 dX7_extreme_46 rfl ?_
          exact At.weak (ls_n (ls_n (ls_s ls_0))) (A_X7_extreme_47 hF _ _ _ h)
        · replace h := ifn c h
          refine dt_iconst 43 dX7_extreme_42 rfl ?_
          refine st_goto 47 dX7_extreme_43 (by decide) ?_
          exact At.weak (ls_n (ls_n (ls_s ls_0))) (A_X7_extreme_47 hF _ _ _ h)
      · replace h := ifn c h
        refine dt_iconst 33 dX7_extreme_32 rfl ?_
        refine st_goto 61 dX7_extreme_33 (by decide) ?_
        exact dr_i hF rfl dX7_extreme_61 h
    · replace h := ifn c h
      refine dt_iconst 18 dX7_extreme_17 rfl ?_
      exact dr_i hF rfl dX7_extreme_18 h
/-- StampTalesModel.tale -/
theorem A_X7_tale_146 {G : Cx} {b : Ab} {r : Int} {mm : Mi} {k48 : (Int → Int → Int → Int → Mi → Option (Int × Mi))} {k77 : (Int → Int → Int → Int → Int → Int → Mi → Option (Int × Mi))} (hF : Fi yd_X7_tale G b (some (iv r)) (Em mm)) (hk48 : ∀ (x2 : Int) (x3 : Int) (x4 : Int) (x5 : Int) (m : Mi), k48 x2 x3 x4 x5 m = some (r, mm) → At yd_X7_tale G b 48 [some (rf G 7 false), none, some (iv x2), some (iv x3), some (iv x4), some (iv x5), none, none] [] (Em m)) (hk77 : ∀ (x2 : Int) (x3 : Int) (x4 : Int) (x5 : Int) (x6 : Int) (x7 : Int) (m : Mi), k77 x2 x3 x4 x5 x6 x7 m = some (r, mm) → At yd_X7_tale G b 77 [some (rf G 7 false), none, some (iv x2), some (iv x3), some (iv x4), some (iv x5), some (iv x6), some (iv x7)] [] (Em m)) (x2 : Int) (x3 : Int) (x4 : Int) (x5 : Int) (x6 : Int) (μ : Mi) (h : B_X7_tale_146 k48 k77 x2 x3 x4 x5 x6 μ = some (r, mm)) : At yd_X7_tale G b 146 [some (rf G 7 false), none, some (iv x2), some (iv x3), some (iv x4), some (iv x5), some (iv x6), none] [] (Em μ) := by
  unfold B_X7_tale_146 at h
  refine dinc_8_6 149 dX7_tale_146 rfl rfl rfl ?_
  refine ald_8_0 150 rfl dX7_tale_149 rfl ?_
  refine dild_8_4 152 dX7_tale_150 rfl ?_
  refine dild_8_5 154 dX7_tale_152 rfl ?_
  refine dild_8_6 156 dX7_tale_154 rfl ?_
  obtain ⟨r1, m1, h1, h⟩ := bd_some h
  refine cvi_3 159 cw_X7_310 (S_X7_goes h1) rfl ⟨by decide, by decide⟩ rfl rfl rfl rfl rfl (Nat.le_of_ble_eq_true rfl) dX7_tale_156 rfl ?_
  refine dist_8_7 161 dX7_tale_159 rfl rfl rfl ?_
  refine st_goto 77 dX7_tale_161 (by decide) ?_
  exact hk77 _ _ _ _ _ _ _ h
theorem A_X7_tale_187 {G : Cx} {b : Ab} {r : Int} {mm : Mi} {k48 : (Int → Int → Int → Int → Mi → Option (Int × Mi))} (hF : Fi yd_X7_tale G b (some (iv r)) (Em mm)) (hk48 : ∀ (x2 : Int) (x3 : Int) (x4 : Int) (x5 : Int) (m : Mi), k48 x2 x3 x4 x5 m = some (r, mm) → At yd_X7_tale G b 48 [some (rf G 7 false), none, some (iv x2), some (iv x3), some (iv x4), some (iv x5), none, none] [] (Em m)) (x2 : Int) (x3 : Int) (x7 : Int) (μ : Mi) (h : B_X7_tale_187 k48 x2 x3 x7 μ = some (r, mm)) : At yd_X7_tale G b 187 [some (rf G 7 false), none, some (iv x2), some (iv x3), none, none, none, some (iv x7)] [] (Em μ) := by
  unfold B_X7_tale_187 at h
  refine ald_8_0 188 rfl dX7_tale_187 rfl ?_
  refine dgf_X7_297 191 rfl dX7_tale_188 rfl rfl ?_
  refine dist_8_4 193 dX7_tale_191 rfl rfl rfl ?_
  refine dild_8_7 195 dX7_tale_193 rfl ?_
  refine dist_8_5 197 dX7_tale_195 rfl rfl rfl ?_
  refine st_goto 48 dX7_tale_197 (by decide) ?_
  exact At.weak (ls_s (ls_n (ls_s (ls_s (ls_s (ls_s (ls_n (ls_n ls_0)))))))) (hk48 _ _ _ _ _ h)
theorem A_X7_tale_77 {G : Cx} {b : Ab} {r : Int} {mm : Mi} {k48 : (Int → Int → Int → Int → Mi → Option (Int × Mi))} (hF : Fi yd_X7_tale G b (some (iv r)) (Em mm)) (hk48 : ∀ (x2 : Int) (x3 : Int) (x4 : Int) (x5 : Int) (m : Mi), k48 x2 x3 x4 x5 m = some (r, mm) → At yd_X7_tale G b 48 [some (rf G 7 false), none, some (iv x2), some (iv x3), some (iv x4), some (iv x5), none, none] [] (Em m)) : ∀ (n : Nat) (x2 : Int) (x3 : Int) (x4 : Int) (x5 : Int) (x6 : Int) (x7 : Int) (μ : Mi), B_X7_tale_77 k48 n x2 x3 x4 x5 x6 x7 μ = some (r, mm) → At yd_X7_tale G b 77 [some (rf G 7 false), none, some (iv x2), some (iv x3), some (iv x4), some (iv x5), some (iv x6), some (iv x7)] [] (Em μ) := by
  intro n
  induction n with
  | zero =>
    intro x2 x3 x4 x5 x6 x7 μ h
    exact nope h
  | succ n hk77 =>
    intro x2 x3 x4 x5 x6 x7 μ h
    replace h : F_X7_tale_77 k48 (B_X7_tale_77 k48 n) x2 x3 x4 x5 x6 x7 μ = some (r, mm) := h
    unfold F_X7_tale_77 at h
    refine dild_8_7 79 dX7_tale_77 rfl ?_
    refine dt_iconst 80 dX7_tale_79 rfl ?_
    refine dt_icmp_eq 83 146 dX7_tale_80 rfl (by decide) rfl wk_m1 (fun c => ?_) (fun c => ?_)
    · replace h := ifp c h
      exact At.weak (ls_s (ls_n (ls_s (ls_s (ls_s (ls_s (ls_s (ls_n ls_0)))))))) (A_X7_tale_146 hF hk48 hk77 _ _ _ _ _ _ h)
    · replace h := ifn c h
      refine ald_8_0 84 rfl dX7_tale_83 rfl ?_
      refine dgf_X7_101 87 rfl dX7_tale_84 rfl ?_
      refine ald_8_0 88 rfl dX7_tale_87 rfl ?_
      refine dgf_X7_297 91 rfl dX7_tale_88 rfl rfl ?_
      refine dt_sipush 94 dX7_tale_91 sq_1120 rfl ?_
      refine dt_imul 95 dX7_tale_94 rfl ?_
      refine dild_8_7 97 dX7_tale_95 rfl ?_
      refine dt_iadd 98 dX7_tale_97 rfl ?_
      obtain ⟨hi, h⟩ := ift h
      refine diald 99 rfl rfl rfl hi rfl rfl dX7_tale_98 rfl ?_
      refine dt_ldcw (z := 1000000) 102 rfl k_X7_335 (by decide) dX7_tale_99 rfl ?_
      refine dt_icmp_eq 105 146 dX7_tale_102 rfl (by decide) rfl wk_1000000 (fun c => ?_) (fun c => ?_)
      · replace h := ifp c h
        exact At.weak (ls_s (ls_n (ls_s (ls_s (ls_s (ls_s (ls_s (ls_n ls_0)))))))) (A_X7_tale_146 hF hk48 hk77 _ _ _ _ _ _ h)
      · replace h := ifn c h
        refine ald_8_0 106 rfl dX7_tale_105 rfl ?_
        refine dgf_X7_101 109 rfl dX7_tale_106 rfl ?_
        refine ald_8_0 110 rfl dX7_tale_109 rfl ?_
        refine dgf_X7_297 113 rfl dX7_tale_110 rfl rfl ?_
        refine dt_sipush 116 dX7_tale_113 sq_1120 rfl ?_
        refine dt_imul 117 dX7_tale_116 rfl ?_
        refine dild_8_7 119 dX7_tale_117 rfl ?_
        refine dt_iadd 120 dX7_tale_119 rfl ?_
        obtain ⟨hi, h⟩ := ift h
        refine diald 121 rfl rfl rfl hi rfl rfl dX7_tale_120 rfl ?_
        refine ald_8_0 122 rfl dX7_tale_121 rfl ?_
        refine dild_8_6 124 dX7_tale_122 rfl ?_
        refine dt_iconst 125 dX7_tale_124 rfl ?_
        obtain ⟨r1, h1, h⟩ := bp_some h
        refine cvi_2 128 cw_X7_336 (S_X7_price h1) rfl ⟨by decide, by decide⟩ rfl rfl rfl rfl rfl (Nat.le_of_ble_eq_true rfl) dX7_tale_125 rfl ?_
        refine dt_iadd 129 dX7_tale_128 rfl ?_
        refine ald_8_0 130 rfl dX7_tale_129 rfl ?_
        refine dgf_X7_101 133 rfl dX7_tale_130 rfl ?_
        refine dild_8_4 135 dX7_tale_133 rfl ?_
        refine dt_sipush 138 dX7_tale_135 sq_1120 rfl ?_
        refine dt_imul 139 dX7_tale_138 rfl ?_
        refine dild_8_5 141 dX7_tale_139 rfl ?_
        refine dt_iadd 142 dX7_tale_141 rfl ?_
        obtain ⟨hi, h⟩ := ift h
        refine diald 143 rfl rfl rfl hi rfl rfl dX7_tale_142 rfl ?_
        refine dt_icmp_eq 146 164 dX7_tale_143 rfl (by decide) rfl rfl (fun c => ?_) (fun c => ?_)
        · replace h := ifp c h
          refine dild_8_6 166 dX7_tale_164 rfl ?_
          refine dt_iconst 167 dX7_tale_166 rfl ?_
          refine dt_icmp_eq 170 187 dX7_tale_167 rfl (by decide) rfl wk_m1 (fun c => ?_) (fun c => ?_)
          · replace h := ifp c h
            exact At.weak (ls_s (ls_n (ls_s (ls_s (ls_n (ls_n (ls_n (ls_s ls_0)))))))) (A_X7_tale_187 hF hk48 _ _ _ _ h)
          · replace h := ifn c h
            refine dild_8_3 171 dX7_tale_170 rfl ?_
            refine dild_8_2 172 dX7_tale_171 rfl ?_
            refine dt_icmp_ne 175 184 dX7_tale_172 rfl (by decide) rfl rfl (fun c => ?_) (fun c => ?_)
            · replace h := ifp c h
              refine dinc_8_3 187 dX7_tale_184 rfl rfl rfl ?_
              exact At.weak (ls_s (ls_n (ls_s (ls_s (ls_n (ls_n (ls_n (ls_s ls_0)))))))) (A_X7_tale_187 hF hk48 _ _ _ _ h)
            · replace h := ifn c h
              refine dt_bipush 177 dX7_tale_175 bq_100 rfl ?_
              refine dild_8_6 179 dX7_tale_177 rfl ?_
              refine dt_imul 180 dX7_tale_179 rfl ?_
              refine dild_8_4 182 dX7_tale_180 rfl ?_
              refine dt_iadd 183 dX7_tale_182 rfl ?_
              exact dr_i hF rfl dX7_tale_183 h
        · replace h := ifn c h
          exact At.weak (ls_s (ls_n (ls_s (ls_s (ls_s (ls_s (ls_s (ls_n ls_0)))))))) (A_X7_tale_146 hF hk48 hk77 _ _ _ _ _ _ h)
theorem A_X7_tale_48 {G : Cx} {b : Ab} {r : Int} {mm : Mi} (hF : Fi yd_X7_tale G b (some (iv r)) (Em mm)) : ∀ (n : Nat) (x2 : Int) (x3 : Int) (x4 : Int) (x5 : Int) (μ : Mi), B_X7_tale_48 n x2 x3 x4 x5 μ = some (r, mm) → At yd_X7_tale G b 48 [some (rf G 7 false), none, some (iv x2), some (iv x3), some (iv x4), some (iv x5), none, none] [] (Em μ) := by
  intro n
  induction n with
  | zero =>
    intro x2 x3 x4 x5 μ h
    exact nope h
  | succ n hk48 =>
    intro x2 x3 x4 x5 μ h
    replace h : F_X7_tale_48 (B_X7_tale_48 n) x2 x3 x4 x5 μ = some (r, mm) := h
    unfold F_X7_tale_48 at h
    refine dild_8_4 50 dX7_tale_48 rfl ?_
    refine ald_8_0 51 rfl dX7_tale_50 rfl ?_
    refine dgf_X7_51 54 rfl dX7_tale_51 rfl ?_
    refine ald_8_0 55 rfl dX7_tale_54 rfl ?_
    refine dgf_X7_279 58 rfl dX7_tale_55 rfl rfl ?_
    obtain ⟨hi, h⟩ := ift h
    refine diald 59 rfl rfl rfl hi rfl rfl dX7_tale_58 rfl ?_
    refine dt_icmp_ge 62 200 dX7_tale_59 rfl (by decide) rfl rfl (fun c => ?_) (fun c => ?_)
    · replace h := ifp c h
      refine dild_8_2 201 dX7_tale_200 rfl ?_
      refine dt_iconst 202 dX7_tale_201 rfl ?_
      refine dt_icmp_ne 205 209 dX7_tale_202 rfl (by decide) rfl wk_m1 (fun c => ?_) (fun c => ?_)
      · replace h := ifp c h
        refine dt_iconst 210 dX7_tale_209 rfl ?_
        exact dr_i hF rfl dX7_tale_210 h
      · replace h := ifn c h
        refine dild_8_3 206 dX7_tale_205 rfl ?_
        refine st_goto 210 dX7_tale_206 (by decide) ?_
        exact dr_i hF rfl dX7_tale_210 h
    · replace h := ifn c h
      refine dt_iconst 63 dX7_tale_62 rfl ?_
      refine dist_8_6 65 dX7_tale_63 rfl rfl rfl ?_
      refine ald_8_0 66 rfl dX7_tale_65 rfl ?_
      refine dild_8_4 68 dX7_tale_66 rfl ?_
      refine dild_8_5 70 dX7_tale_68 rfl ?_
      refine dild_8_6 72 dX7_tale_70 rfl ?_
      obtain ⟨r1, m1, h1, h⟩ := bd_some h
      refine cvi_3 75 cw_X7_310 (S_X7_goes h1) rfl ⟨by decide, by decide⟩ rfl rfl rfl rfl rfl (Nat.le_of_ble_eq_true rfl) dX7_tale_72 rfl ?_
      refine dist_8_7 77 dX7_tale_75 rfl rfl rfl ?_
      exact A_X7_tale_77 hF hk48 FU _ _ _ _ _ _ _ h
theorem S_X7_tale {G : Cx} {μ : Mi} {x1 : Int} {x2 : Int} {r : Int} {mm : Mi} (h : D_X7_tale x1 x2 μ = some (r, mm)) : Spec yd_X7_tale G [rf G 7 false, iv x1, iv x2] (Em μ) (some (iv r)) (Em mm) := by
  refine Spec.of (by decide) rfl (catL_ok rfl) (Nat.le_of_ble_eq_true rfl) rfl (fun b hF => ?_)
  unfold D_X7_tale at h
  refine ald_8_0 1 rfl dX7_tale_0 rfl ?_
  refine dild_8_1 2 dX7_tale_1 rfl ?_
  refine cvi_1 5 cw_X7_256 (S_X7_isMan x1) rfl ⟨by decide, by decide⟩ rfl rfl rfl rfl rfl (Nat.le_of_ble_eq_true rfl) dX7_tale_2 rfl ?_
  refine dt_if_eq 8 13 dX7_tale_5 rfl (by decide) rfl (fun c => ?_) (fun c => ?_)
  · replace h := ifp c h
    refine dt_iconst 14 dX7_tale_13 rfl ?_
    exact dr_i hF rfl dX7_tale_14 h
  · replace h := ifn c h
    refine dild_8_2 9 dX7_tale_8 rfl ?_
    refine dt_iconst 10 dX7_tale_9 rfl ?_
    refine dt_icmp_ge 13 15 dX7_tale_10 rfl (by decide) rfl wk_m1 (fun c => ?_) (fun c => ?_)
    · replace h := ifp c h
      refine ald_8_0 16 rfl dX7_tale_15 rfl ?_
      refine dild_8_1 17 dX7_tale_16 rfl ?_
      refine dt_iconst 18 dX7_tale_17 rfl ?_
      obtain ⟨m2, h2, h⟩ := bm_some h
      refine cvv_2 21 cw_X7_321 (S_X7_sets h2) rfl ⟨by decide, by decide⟩ rfl rfl rfl rfl rfl (Nat.le_of_ble_eq_true rfl) dX7_tale_18 rfl ?_
      refine ald_8_0 22 rfl dX7_tale_21 rfl ?_
      obtain ⟨r3, m3, h3, h⟩ := bd_some h
      refine cvi_0 25 cw_X7_325 (S_X7_counts h3) rfl ⟨by decide, by decide⟩ rfl rfl rfl rfl rfl (Nat.le_of_ble_eq_true rfl) dX7_tale_22 rfl ?_
      refine dt_if_ne 28 30 dX7_tale_25 rfl (by decide) rfl (fun c => ?_) (fun c => ?_)
      · replace h := ifp c h
        refine ald_8_0 31 rfl dX7_tale_30 rfl ?_
        refine dt_iconst 32 dX7_tale_31 rfl ?_
        refine dt_iconst 33 dX7_tale_32 rfl ?_
        obtain ⟨r4, m4, h4, h⟩ := bd_some h
        refine cvi_2 36 cw_X7_340 (S_X7_leasts h4) rfl ⟨by decide, by decide⟩ rfl rfl rfl rfl rfl (Nat.le_of_ble_eq_true rfl) dX7_tale_33 rfl ?_
        refine st_pop 37 dX7_tale_36 rfl rfl ?_
        refine dt_iconst 38 dX7_tale_37 rfl ?_
        refine dist_8_3 39 dX7_tale_38 rfl rfl rfl ?_
        refine dt_iconst 40 dX7_tale_39 rfl ?_
        refine dist_8_4 42 dX7_tale_40 rfl rfl rfl ?_
        refine ald_8_0 43 rfl dX7_tale_42 rfl ?_
        obtain ⟨r5, h5, h⟩ := bp_some h
        refine cvi_0 46 cw_X7_307 (S_X7_start h5) rfl ⟨by decide, by decide⟩ rfl rfl rfl rfl rfl (Nat.le_of_ble_eq_true rfl) dX7_tale_43 rfl ?_
        refine dist_8_5 48 dX7_tale_46 rfl rfl rfl ?_
        exact At.weak (ls_s (ls_n (ls_s (ls_s (ls_s (ls_s (ls_n (ls_n ls_0)))))))) (A_X7_tale_48 hF FU _ _ _ _ _ h)
      · replace h := ifn c h
        refine dt_iconst 29 dX7_tale_28 rfl ?_
        exact dr_i hF rfl dX7_tale_29 h
    · replace h := ifn c h
      refine dt_iconst 14 dX7_tale_13 rfl ?_
      exact dr_i hF rfl dX7_tale_14 h
/-- StampTalesModel.toDoubt -/
theorem A_X7_toDoubt_118 {G : Cx} {b : Ab} {r : Int} {mm : Mi} {k56 : (Int → Int → Int → Mi → Option (Int × Mi))} {k69 : (Int → Int → Int → Int → Mi → Option (Int × Mi))} (hF : Fi yd_X7_toDoubt G b (some (iv r)) (Em mm)) (hk56 : ∀ (x1 : Int) (x2 : Int) (x3 : Int) (m : Mi), k56 x1 x2 x3 m = some (r, mm) → At yd_X7_toDoubt G b 56 [some (rf G 7 false), some (iv x1), some (iv x2), some (iv x3), none] [] (Em m)) (hk69 : ∀ (x1 : Int) (x2 : Int) (x3 : Int) (x4 : Int) (m : Mi), k69 x1 x2 x3 x4 m = some (r, mm) → At yd_X7_toDoubt G b 69 [some (rf G 7 false), some (iv x1), some (iv x2), some (iv x3), some (iv x4)] [] (Em m)) (x1 : Int) (x2 : Int) (x3 : Int) (x4 : Int) (μ : Mi) (h : B_X7_toDoubt_118 k56 k69 x1 x2 x3 x4 μ = some (r, mm)) : At yd_X7_toDoubt G b 118 [some (rf G 7 false), some (iv x1), some (iv x2), some (iv x3), some (iv x4)] [] (Em μ) := by
  unfold B_X7_toDoubt_118 at h
  refine dinc_5_4 121 dX7_toDoubt_118 rfl rfl rfl ?_
  refine st_goto 69 dX7_toDoubt_121 (by decide) ?_
  exact hk69 _ _ _ _ _ h
theorem A_X7_toDoubt_69 {G : Cx} {b : Ab} {r : Int} {mm : Mi} {k56 : (Int → Int → Int → Mi → Option (Int × Mi))} (hF : Fi yd_X7_toDoubt G b (some (iv r)) (Em mm)) (hk56 : ∀ (x1 : Int) (x2 : Int) (x3 : Int) (m : Mi), k56 x1 x2 x3 m = some (r, mm) → At yd_X7_toDoubt G b 56 [some (rf G 7 false), some (iv x1), some (iv x2), some (iv x3), none] [] (Em m)) : ∀ (n : Nat) (x1 : Int) (x2 : Int) (x3 : Int) (x4 : Int) (μ : Mi), B_X7_toDoubt_69 k56 n x1 x2 x3 x4 μ = some (r, mm) → At yd_X7_toDoubt G b 69 [some (rf G 7 false), some (iv x1), some (iv x2), some (iv x3), some (iv x4)] [] (Em μ) := by
  intro n
  induction n with
  | zero =>
    intro x1 x2 x3 x4 μ h
    exact nope h
  | succ n hk69 =>
    intro x1 x2 x3 x4 μ h
    replace h : F_X7_toDoubt_69 k56 (B_X7_toDoubt_69 k56 n) x1 x2 x3 x4 μ = some (r, mm) := h
    unfold F_X7_toDoubt_69 at h
    refine dild_5_4 71 dX7_toDoubt_69 rfl ?_
    refine dt_iconst 72 dX7_toDoubt_71 rfl ?_
    refine ald_5_0 73 rfl dX7_toDoubt_72 rfl ?_
    refine dgf_X7_54 76 rfl dX7_toDoubt_73 rfl ?_
    refine dild_5_1 77 dX7_toDoubt_76 rfl ?_
    obtain ⟨hi, h⟩ := ift h
    refine diald 78 rfl rfl rfl hi rfl rfl dX7_toDoubt_77 rfl ?_
    refine dt_ishl 79 dX7_toDoubt_78 rfl ?_
    refine dt_icmp_ge 82 124 dX7_toDoubt_79 rfl (by decide) rfl rfl (fun c => ?_) (fun c => ?_)
    · replace h := ifp c h
      refine dinc_5_3 127 dX7_toDoubt_124 rfl rfl rfl ?_
      refine st_goto 56 dX7_toDoubt_127 (by decide) ?_
      exact At.weak (ls_s (ls_s (ls_s (ls_s (ls_n ls_0))))) (hk56 _ _ _ _ h)
    · replace h := ifn c h
      refine dild_5_4 84 dX7_toDoubt_82 rfl ?_
      obtain ⟨r1, h1, h⟩ := bp_some h
      refine csi_1 87 cw_X7_331 (S_X7_ones h1) rfl ⟨by decide, by decide⟩ (Nat.le_of_ble_eq_true rfl) dX7_toDoubt_84 rfl ?_
      refine dild_5_3 88 dX7_toDoubt_87 rfl ?_
      refine dt_icmp_ne 91 118 dX7_toDoubt_88 rfl (by decide) rfl rfl (fun c => ?_) (fun c => ?_)
      · replace h := ifp c h
        exact A_X7_toDoubt_118 hF hk56 hk69 _ _ _ _ _ h
      · replace h := ifn c h
        refine dild_5_4 93 dX7_toDoubt_91 rfl ?_
        refine dild_5_2 94 dX7_toDoubt_93 rfl ?_
        refine dt_iand 95 dX7_toDoubt_94 rfl ?_
        refine dt_if_eq 98 101 dX7_toDoubt_95 rfl (by decide) rfl (fun c => ?_) (fun c => ?_)
        · replace h := ifp c h
          refine ald_5_0 102 rfl dX7_toDoubt_101 rfl ?_
          refine dild_5_1 103 dX7_toDoubt_102 rfl ?_
          refine dild_5_4 105 dX7_toDoubt_103 rfl ?_
          obtain ⟨m2, h2, h⟩ := bm_some h
          refine cvv_2 108 cw_X7_321 (S_X7_sets h2) rfl ⟨by decide, by decide⟩ rfl rfl rfl rfl rfl (Nat.le_of_ble_eq_true rfl) dX7_toDoubt_105 rfl ?_
          refine ald_5_0 109 rfl dX7_toDoubt_108 rfl ?_
          obtain ⟨r3, m3, h3, h⟩ := bd_some h
          refine cvi_0 112 cw_X7_317 (S_X7_finds h3) rfl ⟨by decide, by decide⟩ rfl rfl rfl rfl rfl (Nat.le_of_ble_eq_true rfl) dX7_toDoubt_109 rfl ?_
          refine dt_if_eq 115 118 dX7_toDoubt_112 rfl (by decide) rfl (fun c => ?_) (fun c => ?_)
          · replace h := ifp c h
            exact A_X7_toDoubt_118 hF hk56 hk69 _ _ _ _ _ h
          · replace h := ifn c h
            refine dild_5_4 117 dX7_toDoubt_115 rfl ?_
            exact dr_i hF rfl dX7_toDoubt_117 h
        · replace h := ifn c h
          refine st_goto 118 dX7_toDoubt_98 (by decide) ?_
          exact A_X7_toDoubt_118 hF hk56 hk69 _ _ _ _ _ h
theorem A_X7_toDoubt_56 {G : Cx} {b : Ab} {r : Int} {mm : Mi} (hF : Fi yd_X7_toDoubt G b (some (iv r)) (Em mm)) : ∀ (n : Nat) (x1 : Int) (x2 : Int) (x3 : Int) (μ : Mi), B_X7_toDoubt_56 n x1 x2 x3 μ = some (r, mm) → At yd_X7_toDoubt G b 56 [some (rf G 7 false), some (iv x1), some (iv x2), some (iv x3), none] [] (Em μ) := by
  intro n
  induction n with
  | zero =>
    intro x1 x2 x3 μ h
    exact nope h
  | succ n hk56 =>
    intro x1 x2 x3 μ h
    replace h : F_X7_toDoubt_56 (B_X7_toDoubt_56 n) x1 x2 x3 μ = some (r, mm) := h
    unfold F_X7_toDoubt_56 at h
    refine dild_5_3 57 dX7_toDoubt_56 rfl ?_
    refine ald_5_0 58 rfl dX7_toDoubt_57 rfl ?_
    refine dgf_X7_54 61 rfl dX7_toDoubt_58 rfl ?_
    refine dild_5_1 62 dX7_toDoubt_61 rfl ?_
    obtain ⟨hi, h⟩ := ift h
    refine diald 63 rfl rfl rfl hi rfl rfl dX7_toDoubt_62 rfl ?_
    refine dt_icmp_gt 66 130 dX7_toDoubt_63 rfl (by decide) rfl rfl (fun c => ?_) (fun c => ?_)
    · replace h := ifp c h
      refine dt_iconst 131 dX7_toDoubt_130 rfl ?_
      exact dr_i hF rfl dX7_toDoubt_131 h
    · replace h := ifn c h
      refine dt_iconst 67 dX7_toDoubt_66 rfl ?_
      refine dist_5_4 69 dX7_toDoubt_67 rfl rfl rfl ?_
      exact A_X7_toDoubt_69 hF hk56 FU _ _ _ _ _ h
theorem A_X7_toDoubt_46 {G : Cx} {b : Ab} {r : Int} {mm : Mi} {k14 : (Int → Int → Int → Mi → Option (Int × Mi))} (hF : Fi yd_X7_toDoubt G b (some (iv r)) (Em mm)) (hk14 : ∀ (x1 : Int) (x2 : Int) (x3 : Int) (m : Mi), k14 x1 x2 x3 m = some (r, mm) → At yd_X7_toDoubt G b 14 [some (rf G 7 false), some (iv x1), some (iv x2), some (iv x3), none] [] (Em m)) (x1 : Int) (x3 : Int) (s0 : Int) (s1 : Int) (μ : Mi) (h : B_X7_toDoubt_46 k14 x1 x3 s0 s1 μ = some (r, mm)) : At yd_X7_toDoubt G b 46 [some (rf G 7 false), some (iv x1), none, some (iv x3), none] [iv s0, iv s1] (Em μ) := by
  unfold B_X7_toDoubt_46 at h
  refine dt_ior 47 dX7_toDoubt_46 rfl ?_
  refine dist_5_2 48 dX7_toDoubt_47 rfl rfl rfl ?_
  refine dinc_5_3 51 dX7_toDoubt_48 rfl rfl rfl ?_
  refine st_goto 14 dX7_toDoubt_51 (by decide) ?_
  exact hk14 _ _ _ _ h
theorem A_X7_toDoubt_14 {G : Cx} {b : Ab} {r : Int} {mm : Mi} (hF : Fi yd_X7_toDoubt G b (some (iv r)) (Em mm)) : ∀ (n : Nat) (x1 : Int) (x2 : Int) (x3 : Int) (μ : Mi), B_X7_toDoubt_14 n x1 x2 x3 μ = some (r, mm) → At yd_X7_toDoubt G b 14 [some (rf G 7 false), some (iv x1), some (iv x2), some (iv x3), none] [] (Em μ) := by
  intro n
  induction n with
  | zero =>
    intro x1 x2 x3 μ h
    exact nope h
  | succ n hk14 =>
    intro x1 x2 x3 μ h
    replace h : F_X7_toDoubt_14 (B_X7_toDoubt_14 n) x1 x2 x3 μ = some (r, mm) := h
    unfold F_X7_toDoubt_14 at h
    refine dild_5_3 15 dX7_toDoubt_14 rfl ?_
    refine ald_5_0 16 rfl dX7_toDoubt_15 rfl ?_
    refine dgf_X7_54 19 rfl dX7_toDoubt_16 rfl ?_
    refine dild_5_1 20 dX7_toDoubt_19 rfl ?_
    obtain ⟨hi, h⟩ := ift h
    refine diald 21 rfl rfl rfl hi rfl rfl dX7_toDoubt_20 rfl ?_
    refine dt_icmp_ge 24 54 dX7_toDoubt_21 rfl (by decide) rfl rfl (fun c => ?_) (fun c => ?_)
    · replace h := ifp c h
      refine dt_iconst 55 dX7_toDoubt_54 rfl ?_
      refine dist_5_3 56 dX7_toDoubt_55 rfl rfl rfl ?_
      exact A_X7_toDoubt_56 hF FU _ _ _ _ h
    · replace h := ifn c h
      refine dild_5_2 25 dX7_toDoubt_24 rfl ?_
      refine ald_5_0 26 rfl dX7_toDoubt_25 rfl ?_
      refine dgf_X7_72 29 rfl dX7_toDoubt_26 rfl ?_
      refine dt_bipush 31 dX7_toDoubt_29 bq_8 rfl ?_
      refine dild_5_1 32 dX7_toDoubt_31 rfl ?_
      refine dt_imul 33 dX7_toDoubt_32 rfl ?_
      refine dild_5_3 34 dX7_toDoubt_33 rfl ?_
      refine dt_iadd 35 dX7_toDoubt_34 rfl ?_
      obtain ⟨hi, h⟩ := ift h
      refine dzald 36 rfl rfl rfl hi rfl rfl dX7_toDoubt_35 rfl ?_
      refine dt_if_eq 39 45 dX7_toDoubt_36 rfl (by decide) rfl (fun c => ?_) (fun c => ?_)
      · replace h := ifp c h
        refine dt_iconst 46 dX7_toDoubt_45 rfl ?_
        exact At.weak (ls_s (ls_s (ls_n (ls_s (ls_n ls_0))))) (A_X7_toDoubt_46 hF hk14 _ _ _ _ _ h)
      · replace h := ifn c h
        refine dt_iconst 40 dX7_toDoubt_39 rfl ?_
        refine dild_5_3 41 dX7_toDoubt_40 rfl ?_
        refine dt_ishl 42 dX7_toDoubt_41 rfl ?_
        refine st_goto 46 dX7_toDoubt_42 (by decide) ?_
        exact At.weak (ls_s (ls_s (ls_n (ls_s (ls_n ls_0))))) (A_X7_toDoubt_46 hF hk14 _ _ _ _ _ h)
theorem S_X7_toDoubt {G : Cx} {μ : Mi} {x1 : Int} {r : Int} {mm : Mi} (h : D_X7_toDoubt x1 μ = some (r, mm)) : Spec yd_X7_toDoubt G [rf G 7 false, iv x1] (Em μ) (some (iv r)) (Em mm) := by
  refine Spec.of (by decide) rfl (catL_ok rfl) (Nat.le_of_ble_eq_true rfl) rfl (fun b hF => ?_)
  unfold D_X7_toDoubt at h
  refine ald_5_0 1 rfl dX7_toDoubt_0 rfl ?_
  refine dild_5_1 2 dX7_toDoubt_1 rfl ?_
  refine cvi_1 5 cw_X7_256 (S_X7_isMan x1) rfl ⟨by decide, by decide⟩ rfl rfl rfl rfl rfl (Nat.le_of_ble_eq_true rfl) dX7_toDoubt_2 rfl ?_
  refine dt_if_ne 8 10 dX7_toDoubt_5 rfl (by decide) rfl (fun c => ?_) (fun c => ?_)
  · replace h := ifp c h
    refine dt_iconst 11 dX7_toDoubt_10 rfl ?_
    refine dist_5_2 12 dX7_toDoubt_11 rfl rfl rfl ?_
    refine dt_iconst 13 dX7_toDoubt_12 rfl ?_
    refine dist_5_3 14 dX7_toDoubt_13 rfl rfl rfl ?_
    exact A_X7_toDoubt_14 hF FU _ _ _ _ h
  · replace h := ifn c h
    refine dt_iconst 9 dX7_toDoubt_8 rfl ?_
    exact dr_i hF rfl dX7_toDoubt_9 h
/-- StampTalesModel.away -/
theorem A_X7_away_85 {G : Cx} {b : Ab} {r : Int} {mm : Mi} {k26 : (Int → Int → Int → Int → Mi → Option (Int × Mi))} (hF : Fi yd_X7_away G b (some (iv r)) (Em mm)) (hk26 : ∀ (x1 : Int) (x2 : Int) (x3 : Int) (x4 : Int) (m : Mi), k26 x1 x2 x3 x4 m = some (r, mm) → At yd_X7_away G b 26 [some (rf G 7 false), some (iv x1), some (iv x2), some (iv x3), some (iv x4), none] [] (Em m)) (x1 : Int) (x2 : Int) (x3 : Int) (x4 : Int) (μ : Mi) (h : B_X7_away_85 k26 x1 x2 x3 x4 μ = some (r, mm)) : At yd_X7_away G b 85 [some (rf G 7 false), some (iv x1), some (iv x2), some (iv x3), some (iv x4), none] [] (Em μ) := by
  unfold B_X7_away_85 at h
  refine dinc_6_4 88 dX7_away_85 rfl rfl rfl ?_
  refine st_goto 26 dX7_away_88 (by decide) ?_
  exact hk26 _ _ _ _ _ h
theorem A_X7_away_26 {G : Cx} {b : Ab} {r : Int} {mm : Mi} (hF : Fi yd_X7_away G b (some (iv r)) (Em mm)) : ∀ (n : Nat) (x1 : Int) (x2 : Int) (x3 : Int) (x4 : Int) (μ : Mi), B_X7_away_26 n x1 x2 x3 x4 μ = some (r, mm) → At yd_X7_away G b 26 [some (rf G 7 false), some (iv x1), some (iv x2), some (iv x3), some (iv x4), none] [] (Em μ) := by
  intro n
  induction n with
  | zero =>
    intro x1 x2 x3 x4 μ h
    exact nope h
  | succ n hk26 =>
    intro x1 x2 x3 x4 μ h
    replace h : F_X7_away_26 (B_X7_away_26 n) x1 x2 x3 x4 μ = some (r, mm) := h
    unfold F_X7_away_26 at h
    refine dild_6_4 28 dX7_away_26 rfl ?_
    refine ald_6_0 29 rfl dX7_away_28 rfl ?_
    refine dgf_X7_54 32 rfl dX7_away_29 rfl ?_
    refine dild_6_1 33 dX7_away_32 rfl ?_
    obtain ⟨hi, h⟩ := ift h
    refine diald 34 rfl rfl rfl hi rfl rfl dX7_away_33 rfl ?_
    refine dt_icmp_ge 37 91 dX7_away_34 rfl (by decide) rfl rfl (fun c => ?_) (fun c => ?_)
    · replace h := ifp c h
      refine dild_6_3 92 dX7_away_91 rfl ?_
      exact dr_i hF rfl dX7_away_92 h
    · replace h := ifn c h
      refine ald_6_0 38 rfl dX7_away_37 rfl ?_
      refine dgf_X7_72 41 rfl dX7_away_38 rfl ?_
      refine dt_bipush 43 dX7_away_41 bq_8 rfl ?_
      refine dild_6_1 44 dX7_away_43 rfl ?_
      refine dt_imul 45 dX7_away_44 rfl ?_
      refine dild_6_4 47 dX7_away_45 rfl ?_
      refine dt_iadd 48 dX7_away_47 rfl ?_
      obtain ⟨hi, h⟩ := ift h
      refine dzald 49 rfl rfl rfl hi rfl rfl dX7_away_48 rfl ?_
      refine dt_if_eq 52 55 dX7_away_49 rfl (by decide) rfl (fun c => ?_) (fun c => ?_)
      · replace h := ifp c h
        refine ald_6_0 56 rfl dX7_away_55 rfl ?_
        refine dild_6_1 57 dX7_away_56 rfl ?_
        refine dt_iconst 58 dX7_away_57 rfl ?_
        refine dild_6_4 60 dX7_away_58 rfl ?_
        refine dt_ishl 61 dX7_away_60 rfl ?_
        obtain ⟨m1, h1, h⟩ := bm_some h
        refine cvv_2 64 cw_X7_321 (S_X7_sets h1) rfl ⟨by decide, by decide⟩ rfl rfl rfl rfl rfl (Nat.le_of_ble_eq_true rfl) dX7_away_61 rfl ?_
        refine ald_6_0 65 rfl dX7_away_64 rfl ?_
        obtain ⟨r2, m2, h2, h⟩ := bd_some h
        refine cvi_0 68 cw_X7_325 (S_X7_counts h2) rfl ⟨by decide, by decide⟩ rfl rfl rfl rfl rfl (Nat.le_of_ble_eq_true rfl) dX7_away_65 rfl ?_
        refine dist_6_5 70 dX7_away_68 rfl rfl rfl ?_
        refine dild_6_5 72 dX7_away_70 rfl ?_
        refine dild_6_2 73 dX7_away_72 rfl ?_
        refine dt_icmp_gt 76 79 dX7_away_73 rfl (by decide) rfl rfl (fun c => ?_) (fun c => ?_)
        · replace h := ifp c h
          refine dild_6_5 81 dX7_away_79 rfl ?_
          refine dist_6_2 82 dX7_away_81 rfl rfl rfl ?_
          refine dild_6_4 84 dX7_away_82 rfl ?_
          refine dist_6_3 85 dX7_away_84 rfl rfl rfl ?_
          exact At.weak (ls_s (ls_s (ls_s (ls_s (ls_s (ls_n ls_0)))))) (A_X7_away_85 hF hk26 _ _ _ _ _ h)
        · replace h := ifn c h
          refine st_goto 85 dX7_away_76 (by decide) ?_
          exact At.weak (ls_s (ls_s (ls_s (ls_s (ls_s (ls_n ls_0)))))) (A_X7_away_85 hF hk26 _ _ _ _ _ h)
      · replace h := ifn c h
        refine st_goto 85 dX7_away_52 (by decide) ?_
        exact A_X7_away_85 hF hk26 _ _ _ _ _ h
theorem S_X7_away {G : Cx} {μ : Mi} {x1 : Int} {r : Int} {mm : Mi} (h : D_X7_away x1 μ = some (r, mm)) : Spec yd_X7_away G [rf G 7 false, iv x1] (Em μ) (some (iv r)) (Em mm) := by
  refine Spec.of (by decide) rfl (catL_ok rfl) (Nat.le_of_ble_eq_true rfl) rfl (fun b hF => ?_)
  unfold D_X7_away at h
  refine ald_6_0 1 rfl dX7_away_0 rfl ?_
  refine dild_6_1 2 dX7_away_1 rfl ?_
  refine cvi_1 5 cw_X7_256 (S_X7_isMan x1) rfl ⟨by decide, by decide⟩ rfl rfl rfl rfl rfl (Nat.le_of_ble_eq_true rfl) dX7_away_2 rfl ?_
  refine dt_if_ne 8 10 dX7_away_5 rfl (by decide) rfl (fun c => ?_) (fun c => ?_)
  · replace h := ifp c h
    refine ald_6_0 11 rfl dX7_away_10 rfl ?_
    refine dild_6_1 12 dX7_away_11 rfl ?_
    refine dt_iconst 13 dX7_away_12 rfl ?_
    obtain ⟨m2, h2, h⟩ := bm_some h
    refine cvv_2 16 cw_X7_321 (S_X7_sets h2) rfl ⟨by decide, by decide⟩ rfl rfl rfl rfl rfl (Nat.le_of_ble_eq_true rfl) dX7_away_13 rfl ?_
    refine ald_6_0 17 rfl dX7_away_16 rfl ?_
    obtain ⟨r3, m3, h3, h⟩ := bd_some h
    refine cvi_0 20 cw_X7_325 (S_X7_counts h3) rfl ⟨by decide, by decide⟩ rfl rfl rfl rfl rfl (Nat.le_of_ble_eq_true rfl) dX7_away_17 rfl ?_
    refine dist_6_2 21 dX7_away_20 rfl rfl rfl ?_
    refine dt_iconst 22 dX7_away_21 rfl ?_
    refine dist_6_3 23 dX7_away_22 rfl rfl rfl ?_
    refine dt_iconst 24 dX7_away_23 rfl ?_
    refine dist_6_4 26 dX7_away_24 rfl rfl rfl ?_
    exact A_X7_away_26 hF FU _ _ _ _ _ h
  · replace h := ifn c h
    refine dt_iconst 9 dX7_away_8 rfl ?_
    exact dr_i hF rfl dX7_away_9 h
/-- StampTalesModel.met -/
theorem S_X7_met {G : Cx} {μ : Mi} {x1 : Int} {x2 : Int} {r : Int} {mm : Mi} (h : D_X7_met x1 x2 μ = some (r, mm)) : Spec yd_X7_met G [rf G 7 false, iv x1, iv x2] (Em μ) (some (iv r)) (Em mm) := by
  refine Spec.of (by decide) rfl (catL_ok rfl) (Nat.le_of_ble_eq_true rfl) rfl (fun b hF => ?_)
  unfold D_X7_met at h
  refine ald_4_0 1 rfl dX7_met_0 rfl ?_
  refine dgf_X7_247 4 rfl dX7_met_1 rfl rfl ?_
  refine dt_if_eq 7 31 dX7_met_4 rfl (by decide) rfl (fun c => ?_) (fun c => ?_)
  · replace h := ifp c h
    refine dt_iconst 32 dX7_met_31 rfl ?_
    exact dr_i hF rfl dX7_met_32 h
  · replace h := ifn c h
    refine dild_4_1 8 dX7_met_7 rfl ?_
    refine dt_iconst 9 dX7_met_8 rfl ?_
    refine ald_4_0 10 rfl dX7_met_9 rfl ?_
    refine dgf_X7_51 13 rfl dX7_met_10 rfl ?_
    refine dt_iconst 14 dX7_met_13 rfl ?_
    refine diald 15 rfl rfl rfl ⟨by rw [wk_0]; decide, by rw [wk_0]; decide⟩ ixk_0 rfl dX7_met_14 rfl ?_
    refine csi_3 18 cw_X7_117 (S_X7_in x1 0 (rd μ 55 false 0)) rfl ⟨by decide, by decide⟩ (Nat.le_of_ble_eq_true rfl) dX7_met_15 rfl ?_
    refine dt_if_eq 21 31 dX7_met_18 rfl (by decide) rfl (fun c => ?_) (fun c => ?_)
    · replace h := ifp c h
      refine dt_iconst 32 dX7_met_31 rfl ?_
      exact dr_i hF rfl dX7_met_32 h
    · replace h := ifn c h
      refine dild_4_1 22 dX7_met_21 rfl ?_
      refine ald_4_0 23 rfl dX7_met_22 rfl ?_
      refine dgf_X7_51 26 rfl dX7_met_23 rfl ?_
      refine dt_iconst 27 dX7_met_26 rfl ?_
      refine diald 28 rfl rfl rfl ⟨by rw [wk_1]; decide, by rw [wk_1]; decide⟩ ixk_1 rfl dX7_met_27 rfl ?_
      refine dt_icmp_le 31 33 dX7_met_28 rfl (by decide) rfl rfl (fun c => ?_) (fun c => ?_)
      · replace h := ifp c h
        refine dild_4_2 34 dX7_met_33 rfl ?_
        refine dt_if_ne 37 55 dX7_met_34 rfl (by decide) rfl (fun c => ?_) (fun c => ?_)
        · replace h := ifp c h
          refine ald_4_0 56 rfl dX7_met_55 rfl ?_
          refine dt_iconst 57 dX7_met_56 rfl ?_
          refine dild_4_1 58 dX7_met_57 rfl ?_
          obtain ⟨r2, m2, h2, h⟩ := bd_some h
          refine cvi_2 61 cw_X7_344 (S_X7_surely h2) rfl ⟨by decide, by decide⟩ rfl rfl rfl rfl rfl (Nat.le_of_ble_eq_true rfl) dX7_met_58 rfl ?_
          refine dist_4_3 62 dX7_met_61 rfl rfl rfl ?_
          refine dild_4_3 63 dX7_met_62 rfl ?_
          refine dt_iconst 64 dX7_met_63 rfl ?_
          refine dt_icmp_eq 67 83 dX7_met_64 rfl (by decide) rfl wk_m1 (fun c => ?_) (fun c => ?_)
          · replace h := ifp c h
            refine dt_iconst 84 dX7_met_83 rfl ?_
            exact dr_i hF rfl dX7_met_84 h
          · replace h := ifn c h
            refine dild_4_3 68 dX7_met_67 rfl ?_
            refine ald_4_0 69 rfl dX7_met_68 rfl ?_
            refine dt_iconst 70 dX7_met_69 rfl ?_
            refine dild_4_1 71 dX7_met_70 rfl ?_
            obtain ⟨r3, m3, h3, h⟩ := bd_some h
            refine cvi_2 74 cw_X7_344 (S_X7_surely h3) rfl ⟨by decide, by decide⟩ rfl rfl rfl rfl rfl (Nat.le_of_ble_eq_true rfl) dX7_met_71 rfl ?_
            refine dt_icmp_ne 77 83 dX7_met_74 rfl (by decide) rfl rfl (fun c => ?_) (fun c => ?_)
            · replace h := ifp c h
              refine dt_iconst 84 dX7_met_83 rfl ?_
              exact dr_i hF rfl dX7_met_84 h
            · replace h := ifn c h
              refine dt_iconst 78 dX7_met_77 rfl ?_
              refine dild_4_3 79 dX7_met_78 rfl ?_
              refine dt_ishl 80 dX7_met_79 rfl ?_
              refine st_goto 84 dX7_met_80 (by decide) ?_
              exact dr_i hF rfl dX7_met_84 h
        · replace h := ifn c h
          refine ald_4_0 38 rfl dX7_met_37 rfl ?_
          refine dt_iconst 39 dX7_met_38 rfl ?_
          refine dild_4_1 40 dX7_met_39 rfl ?_
          obtain ⟨r2, m2, h2, h⟩ := bd_some h
          refine cvi_2 43 cw_X7_328 (S_X7_mayBits h2) rfl ⟨by decide, by decide⟩ rfl rfl rfl rfl rfl (Nat.le_of_ble_eq_true rfl) dX7_met_40 rfl ?_
          refine ald_4_0 44 rfl dX7_met_43 rfl ?_
          refine dt_iconst 45 dX7_met_44 rfl ?_
          refine dild_4_1 46 dX7_met_45 rfl ?_
          obtain ⟨r3, m3, h3, h⟩ := bd_some h
          refine cvi_2 49 cw_X7_328 (S_X7_mayBits h3) rfl ⟨by decide, by decide⟩ rfl rfl rfl rfl rfl (Nat.le_of_ble_eq_true rfl) dX7_met_46 rfl ?_
          refine dt_iand 50 dX7_met_49 rfl ?_
          refine dt_sipush 53 dX7_met_50 sq_255 rfl ?_
          refine dt_iand 54 dX7_met_53 rfl ?_
          exact dr_i hF rfl dX7_met_54 h
      · replace h := ifn c h
        refine dt_iconst 32 dX7_met_31 rfl ?_
        exact dr_i hF rfl dX7_met_32 h
/-- StampTalesModel.leg -/
theorem S_X7_leg {G : Cx} {μ : Mi} {x1 : Int} {x2 : Int} {r : Int} {mm : Mi} (h : D_X7_leg x1 x2 μ = some (r, mm)) : Spec yd_X7_leg G [rf G 7 false, iv x1, iv x2] (Em μ) (some (iv r)) (Em mm) := by
  refine Spec.of (by decide) rfl (catL_ok rfl) (Nat.le_of_ble_eq_true rfl) rfl (fun b hF => ?_)
  unfold D_X7_leg at h
  refine ald_3_0 1 rfl dX7_leg_0 rfl ?_
  refine dild_3_1 2 dX7_leg_1 rfl ?_
  obtain ⟨r1, h1, h⟩ := bp_some h
  refine cvi_1 5 cw_X7_273 (S_X7_isLink h1) rfl ⟨by decide, by decide⟩ rfl rfl rfl rfl rfl (Nat.le_of_ble_eq_true rfl) dX7_leg_2 rfl ?_
  refine dt_if_eq 8 27 dX7_leg_5 rfl (by decide) rfl (fun c => ?_) (fun c => ?_)
  · replace h := ifp c h
    refine dt_iconst 28 dX7_leg_27 rfl ?_
    exact dr_i hF rfl dX7_leg_28 h
  · replace h := ifn c h
    refine dild_3_2 9 dX7_leg_8 rfl ?_
    refine dt_iconst 10 dX7_leg_9 rfl ?_
    refine dt_bipush 12 dX7_leg_10 bq_96 rfl ?_
    refine csi_3 15 cw_X7_117 (S_X7_in x2 0 96) rfl ⟨by decide, by decide⟩ (Nat.le_of_ble_eq_true rfl) dX7_leg_12 rfl ?_
    refine dt_if_eq 18 27 dX7_leg_15 rfl (by decide) rfl (fun c => ?_) (fun c => ?_)
    · replace h := ifp c h
      refine dt_iconst 28 dX7_leg_27 rfl ?_
      exact dr_i hF rfl dX7_leg_28 h
    · replace h := ifn c h
      refine ald_3_0 19 rfl dX7_leg_18 rfl ?_
      refine dgf_X7_253 22 rfl dX7_leg_19 rfl rfl ?_
      refine dt_bipush 24 dX7_leg_22 bq_20 rfl ?_
      refine dt_icmp_ne 27 29 dX7_leg_24 rfl (by decide) rfl wk_20 (fun c => ?_) (fun c => ?_)
      · replace h := ifp c h
        refine ald_3_0 30 rfl dX7_leg_29 rfl ?_
        refine dgf_X7_76 33 rfl dX7_leg_30 rfl ?_
        refine ald_3_0 34 rfl dX7_leg_33 rfl ?_
        refine dgf_X7_253 37 rfl dX7_leg_34 rfl rfl ?_
        refine dild_3_1 38 dX7_leg_37 rfl ?_
        obtain ⟨hi, h⟩ := ift h
        refine diast 39 rfl rfl rfl hi rfl dX7_leg_38 rfl ?_
        refine ald_3_0 40 rfl dX7_leg_39 rfl ?_
        refine dgf_X7_79 43 rfl dX7_leg_40 rfl ?_
        refine ald_3_0 44 rfl dX7_leg_43 rfl ?_
        refine dgf_X7_253 47 rfl dX7_leg_44 rfl (rd_o (by decide)) ?_
        refine dild_3_2 48 dX7_leg_47 rfl ?_
        obtain ⟨hi, h⟩ := ift h
        refine diast 49 rfl rfl rfl hi rfl dX7_leg_48 rfl ?_
        refine ald_3_0 50 rfl dX7_leg_49 rfl ?_
        refine st_dup 51 dX7_leg_50 rfl rfl ?_
        refine dgf_X7_253 54 rfl dX7_leg_51 rfl ((rd_o (by decide)).trans (rd_o (by decide))) ?_
        refine dt_iconst 55 dX7_leg_54 rfl ?_
        refine dt_iadd 56 dX7_leg_55 rfl ?_
        refine dpf_X7_253 59 rfl dX7_leg_56 rfl ?_
        refine ald_3_0 60 rfl dX7_leg_59 rfl ?_
        refine dgf_X7_253 63 rfl dX7_leg_60 rfl (rd_s) ?_
        exact dr_i hF rfl dX7_leg_63 h
      · replace h := ifn c h
        refine dt_iconst 28 dX7_leg_27 rfl ?_
        exact dr_i hF rfl dX7_leg_28 h
/-- StampTalesModel.forget -/
theorem S_X7_forget {G : Cx} {μ : Mi} {r : Int} {mm : Mi} (h : D_X7_forget μ = some (r, mm)) : Spec yd_X7_forget G [rf G 7 false] (Em μ) (some (iv r)) (Em mm) := by
  refine Spec.of (by decide) rfl (catL_ok rfl) (Nat.le_of_ble_eq_true rfl) rfl (fun b hF => ?_)
  unfold D_X7_forget at h
  refine ald_2_0 1 rfl dX7_forget_0 rfl ?_
  refine dgf_X7_253 4 rfl dX7_forget_1 rfl rfl ?_
  refine dist_2_1 5 dX7_forget_4 rfl rfl rfl ?_
  refine ald_2_0 6 rfl dX7_forget_5 rfl ?_
  refine dt_iconst 7 dX7_forget_6 rfl ?_
  refine dpf_X7_253 10 rfl dX7_forget_7 rfl ?_
  refine dild_2_1 11 dX7_forget_10 rfl ?_
  exact dr_i hF rfl dX7_forget_11 h
/-- StampTalesModel.follows -/
theorem A_X7_follows_255 {G : Cx} {b : Ab} {r : Int} {mm : Mi} (hF : Fi yd_X7_follows G b (some (iv r)) (Em mm)) (x2 : Int) (μ : Mi) (h : B_X7_follows_255 x2 μ = some (r, mm)) : At yd_X7_follows G b 255 [some (rf G 7 false), none, some (iv x2), none, none, none, none] [] (Em μ) := by
  unfold B_X7_follows_255 at h
  refine ald_7_0 256 rfl dX7_follows_255 rfl ?_
  refine dgf_X7_107 259 rfl dX7_follows_256 rfl ?_
  refine ald_7_0 260 rfl dX7_follows_259 rfl ?_
  refine dgf_X7_51 263 rfl dX7_follows_260 rfl ?_
  refine ald_7_0 264 rfl dX7_follows_263 rfl ?_
  refine dgf_X7_279 267 rfl dX7_follows_264 rfl rfl ?_
  obtain ⟨hi, h⟩ := ift h
  refine diald 268 rfl rfl rfl hi rfl rfl dX7_follows_267 rfl ?_
  refine dild_7_2 269 dX7_follows_268 rfl ?_
  obtain ⟨hi, h⟩ := ift h
  refine diast 270 rfl rfl rfl hi rfl dX7_follows_269 rfl ?_
  refine dt_iconst 271 dX7_follows_270 rfl ?_
  exact dr_i hF rfl dX7_follows_271 h
theorem A_X7_follows_211 {G : Cx} {b : Ab} {r : Int} {mm : Mi} {k14 : (Int → Int → Int → Mi → Option (Int × Mi))} (hF : Fi yd_X7_follows G b (some (iv r)) (Em mm)) (hk14 : ∀ (x1 : Int) (x2 : Int) (x3 : Int) (m : Mi), k14 x1 x2 x3 m = some (r, mm) → At yd_X7_follows G b 14 [some (rf G 7 false), some (iv x1), some (iv x2), some (iv x3), none, none, none] [] (Em m)) : ∀ (n : Nat) (x1 : Int) (x3 : Int) (x5 : Int) (μ : Mi), B_X7_follows_211 k14 n x1 x3 x5 μ = some (r, mm) → At yd_X7_follows G b 211 [some (rf G 7 false), some (iv x1), none, some (iv x3), none, some (iv x5), none] [] (Em μ) := by
  intro n
  induction n with
  | zero =>
    intro x1 x3 x5 μ h
    exact nope h
  | succ n hk211 =>
    intro x1 x3 x5 μ h
    replace h : F_X7_follows_211 k14 (B_X7_follows_211 k14 n) x1 x3 x5 μ = some (r, mm) := h
    unfold F_X7_follows_211 at h
    refine dild_7_1 212 dX7_follows_211 rfl ?_
    refine dild_7_5 214 dX7_follows_212 rfl ?_
    refine dt_icmp_ge 217 237 dX7_follows_214 rfl (by decide) rfl rfl (fun c => ?_) (fun c => ?_)
    · replace h := ifp c h
      refine ald_7_0 238 rfl dX7_follows_237 rfl ?_
      refine ald_7_0 239 rfl dX7_follows_238 rfl ?_
      refine dgf_X7_76 242 rfl dX7_follows_239 rfl ?_
      refine dild_7_3 243 dX7_follows_242 rfl ?_
      obtain ⟨hi, h⟩ := ift h
      refine diald 244 rfl rfl rfl hi rfl rfl dX7_follows_243 rfl ?_
      refine dt_iconst 245 dX7_follows_244 rfl ?_
      obtain ⟨r1, h1, h⟩ := bp_some h
      refine cvi_2 248 cw_X7_276 (S_X7_ofLink h1) rfl ⟨by decide, by decide⟩ rfl rfl rfl rfl rfl (Nat.le_of_ble_eq_true rfl) dX7_follows_245 rfl ?_
      refine dist_7_2 249 dX7_follows_248 rfl rfl rfl ?_
      refine dinc_7_3 252 dX7_follows_249 rfl rfl rfl ?_
      refine st_goto 14 dX7_follows_252 (by decide) ?_
      exact At.weak (ls_s (ls_s (ls_s (ls_s (ls_n (ls_n (ls_n ls_0))))))) (hk14 _ _ _ _ h)
    · replace h := ifn c h
      refine ald_7_0 218 rfl dX7_follows_217 rfl ?_
      refine dgf_X7_107 221 rfl dX7_follows_218 rfl ?_
      refine dild_7_1 222 dX7_follows_221 rfl ?_
      refine dt_iconst 223 dX7_follows_222 rfl ?_
      obtain ⟨hi, h⟩ := ift h
      refine diast 224 rfl rfl rfl hi rfl dX7_follows_223 rfl ?_
      refine ald_7_0 225 rfl dX7_follows_224 rfl ?_
      refine dgf_X7_110 228 rfl dX7_follows_225 rfl ?_
      refine dild_7_1 229 dX7_follows_228 rfl ?_
      refine dt_iconst 230 dX7_follows_229 rfl ?_
      obtain ⟨hi, h⟩ := ift h
      refine dzast 231 rfl rfl rfl hi rfl isB_0 dX7_follows_230 rfl ?_
      refine dinc_7_1 234 dX7_follows_231 rfl rfl rfl ?_
      refine st_goto 211 dX7_follows_234 (by decide) ?_
      exact hk211 _ _ _ _ h
theorem A_X7_follows_142 {G : Cx} {b : Ab} {r : Int} {mm : Mi} {k14 : (Int → Int → Int → Mi → Option (Int × Mi))} (hF : Fi yd_X7_follows G b (some (iv r)) (Em mm)) (hk14 : ∀ (x1 : Int) (x2 : Int) (x3 : Int) (m : Mi), k14 x1 x2 x3 m = some (r, mm) → At yd_X7_follows G b 14 [some (rf G 7 false), some (iv x1), some (iv x2), some (iv x3), none, none, none] [] (Em m)) : ∀ (n : Nat) (x1 : Int) (x2 : Int) (x3 : Int) (x4 : Int) (μ : Mi), B_X7_follows_142 k14 n x1 x2 x3 x4 μ = some (r, mm) → At yd_X7_follows G b 142 [some (rf G 7 false), some (iv x1), some (iv x2), some (iv x3), some (iv x4), none, none] [] (Em μ) := by
  intro n
  induction n with
  | zero =>
    intro x1 x2 x3 x4 μ h
    exact nope h
  | succ n hk142 =>
    intro x1 x2 x3 x4 μ h
    replace h : F_X7_follows_142 k14 (B_X7_follows_142 k14 n) x1 x2 x3 x4 μ = some (r, mm) := h
    unfold F_X7_follows_142 at h
    refine dild_7_1 143 dX7_follows_142 rfl ?_
    refine dild_7_4 145 dX7_follows_143 rfl ?_
    refine dt_icmp_ge 148 168 dX7_follows_145 rfl (by decide) rfl rfl (fun c => ?_) (fun c => ?_)
    · replace h := ifp c h
      refine dild_7_3 169 dX7_follows_168 rfl ?_
      refine ald_7_0 170 rfl dX7_follows_169 rfl ?_
      refine dgf_X7_253 173 rfl dX7_follows_170 rfl rfl ?_
      refine dt_icmp_ne 176 179 dX7_follows_173 rfl (by decide) rfl rfl (fun c => ?_) (fun c => ?_)
      · replace h := ifp c h
        refine ald_7_0 180 rfl dX7_follows_179 rfl ?_
        refine dgf_X7_107 183 rfl dX7_follows_180 rfl ?_
        refine dild_7_1 184 dX7_follows_183 rfl ?_
        refine dild_7_2 185 dX7_follows_184 rfl ?_
        obtain ⟨hi, h⟩ := ift h
        refine diast 186 rfl rfl rfl hi rfl dX7_follows_185 rfl ?_
        refine ald_7_0 187 rfl dX7_follows_186 rfl ?_
        refine dgf_X7_110 190 rfl dX7_follows_187 rfl ?_
        refine dild_7_1 191 dX7_follows_190 rfl ?_
        refine dt_iconst 192 dX7_follows_191 rfl ?_
        obtain ⟨hi, h⟩ := ift h
        refine dzast 193 rfl rfl rfl hi rfl isB_0 dX7_follows_192 rfl ?_
        refine dild_7_1 194 dX7_follows_193 rfl ?_
        refine ald_7_0 195 rfl dX7_follows_194 rfl ?_
        refine ald_7_0 196 rfl dX7_follows_195 rfl ?_
        refine dgf_X7_76 199 rfl dX7_follows_196 rfl ?_
        refine dild_7_3 200 dX7_follows_199 rfl ?_
        obtain ⟨hi, h⟩ := ift h
        refine diald 201 rfl rfl rfl hi rfl ((rd_o (by decide)).trans (rd_o (by decide))) dX7_follows_200 rfl ?_
        refine dt_iconst 202 dX7_follows_201 rfl ?_
        obtain ⟨r1, h1, h⟩ := bp_some h
        refine cvi_2 205 cw_X7_276 (S_X7_ofLink h1) rfl ⟨by decide, by decide⟩ rfl rfl rfl rfl rfl (Nat.le_of_ble_eq_true rfl) dX7_follows_202 rfl ?_
        refine dt_iadd 206 dX7_follows_205 rfl ?_
        refine dist_7_5 208 dX7_follows_206 rfl rfl rfl ?_
        refine dinc_7_1 211 dX7_follows_208 rfl rfl rfl ?_
        exact At.weak (ls_s (ls_s (ls_n (ls_s (ls_n (ls_s (ls_n ls_0))))))) (A_X7_follows_211 hF hk14 FU _ _ _ _ h)
      · replace h := ifn c h
        refine st_goto 255 dX7_follows_176 (by decide) ?_
        exact At.weak (ls_s (ls_n (ls_s (ls_n (ls_n (ls_n (ls_n ls_0))))))) (A_X7_follows_255 hF _ _ h)
    · replace h := ifn c h
      refine ald_7_0 149 rfl dX7_follows_148 rfl ?_
      refine dgf_X7_107 152 rfl dX7_follows_149 rfl ?_
      refine dild_7_1 153 dX7_follows_152 rfl ?_
      refine dild_7_2 154 dX7_follows_153 rfl ?_
      obtain ⟨hi, h⟩ := ift h
      refine diast 155 rfl rfl rfl hi rfl dX7_follows_154 rfl ?_
      refine ald_7_0 156 rfl dX7_follows_155 rfl ?_
      refine dgf_X7_110 159 rfl dX7_follows_156 rfl ?_
      refine dild_7_1 160 dX7_follows_159 rfl ?_
      refine dt_iconst 161 dX7_follows_160 rfl ?_
      obtain ⟨hi, h⟩ := ift h
      refine dzast 162 rfl rfl rfl hi rfl isB_1 dX7_follows_161 rfl ?_
      refine dinc_7_1 165 dX7_follows_162 rfl rfl rfl ?_
      refine st_goto 142 dX7_follows_165 (by decide) ?_
      exact hk142 _ _ _ _ _ h
theorem A_X7_follows_87 {G : Cx} {b : Ab} {r : Int} {mm : Mi} {k14 : (Int → Int → Int → Mi → Option (Int × Mi))} (hF : Fi yd_X7_follows G b (some (iv r)) (Em mm)) (hk14 : ∀ (x1 : Int) (x2 : Int) (x3 : Int) (m : Mi), k14 x1 x2 x3 m = some (r, mm) → At yd_X7_follows G b 14 [some (rf G 7 false), some (iv x1), some (iv x2), some (iv x3), none, none, none] [] (Em m)) (x1 : Int) (x2 : Int) (x3 : Int) (x4 : Int) (x5 : Int) (s0 : Int) (μ : Mi) (h : B_X7_follows_87 k14 x1 x2 x3 x4 x5 s0 μ = some (r, mm)) : At yd_X7_follows G b 87 [some (rf G 7 false), some (iv x1), some (iv x2), some (iv x3), some (iv x4), some (iv x5), none] [iv s0] (Em μ) := by
  unfold B_X7_follows_87 at h
  refine dist_7_6 89 dX7_follows_87 rfl rfl rfl ?_
  refine dild_7_4 91 dX7_follows_89 rfl ?_
  refine dild_7_1 92 dX7_follows_91 rfl ?_
  refine dt_icmp_lt 95 140 dX7_follows_92 rfl (by decide) rfl rfl (fun c => ?_) (fun c => ?_)
  · replace h := ifp c h
    refine dild_7_3 141 dX7_follows_140 rfl ?_
    exact dr_i hF rfl dX7_follows_141 h
  · replace h := ifn c h
    refine ald_7_0 96 rfl dX7_follows_95 rfl ?_
    refine dild_7_5 98 dX7_follows_96 rfl ?_
    refine dt_iconst 99 dX7_follows_98 rfl ?_
    obtain ⟨r1, h1, h⟩ := bp_some h
    refine cvi_2 102 cw_X7_276 (S_X7_ofLink h1) rfl ⟨by decide, by decide⟩ rfl rfl rfl rfl rfl (Nat.le_of_ble_eq_true rfl) dX7_follows_99 rfl ?_
    refine dild_7_2 103 dX7_follows_102 rfl ?_
    refine dt_icmp_ne 106 140 dX7_follows_103 rfl (by decide) rfl rfl (fun c => ?_) (fun c => ?_)
    · replace h := ifp c h
      refine dild_7_3 141 dX7_follows_140 rfl ?_
      exact dr_i hF rfl dX7_follows_141 h
    · replace h := ifn c h
      refine ald_7_0 107 rfl dX7_follows_106 rfl ?_
      refine dild_7_5 109 dX7_follows_107 rfl ?_
      refine dt_iconst 110 dX7_follows_109 rfl ?_
      obtain ⟨r2, h2, h⟩ := bp_some h
      refine cvi_2 113 cw_X7_276 (S_X7_ofLink h2) rfl ⟨by decide, by decide⟩ rfl rfl rfl rfl rfl (Nat.le_of_ble_eq_true rfl) dX7_follows_110 rfl ?_
      refine dild_7_6 115 dX7_follows_113 rfl ?_
      refine dt_icmp_ne 118 140 dX7_follows_115 rfl (by decide) rfl rfl (fun c => ?_) (fun c => ?_)
      · replace h := ifp c h
        refine dild_7_3 141 dX7_follows_140 rfl ?_
        exact dr_i hF rfl dX7_follows_141 h
      · replace h := ifn c h
        refine dild_7_4 120 dX7_follows_118 rfl ?_
        refine ald_7_0 121 rfl dX7_follows_120 rfl ?_
        refine dild_7_5 123 dX7_follows_121 rfl ?_
        refine dt_iconst 124 dX7_follows_123 rfl ?_
        obtain ⟨r3, h3, h⟩ := bp_some h
        refine cvi_2 127 cw_X7_276 (S_X7_ofLink h3) rfl ⟨by decide, by decide⟩ rfl rfl rfl rfl rfl (Nat.le_of_ble_eq_true rfl) dX7_follows_124 rfl ?_
        refine dt_iadd 128 dX7_follows_127 rfl ?_
        refine ald_7_0 129 rfl dX7_follows_128 rfl ?_
        refine dgf_X7_51 132 rfl dX7_follows_129 rfl ?_
        refine ald_7_0 133 rfl dX7_follows_132 rfl ?_
        refine dgf_X7_279 136 rfl dX7_follows_133 rfl rfl ?_
        obtain ⟨hi, h⟩ := ift h
        refine diald 137 rfl rfl rfl hi rfl rfl dX7_follows_136 rfl ?_
        refine dt_icmp_le 140 142 dX7_follows_137 rfl (by decide) rfl rfl (fun c => ?_) (fun c => ?_)
        · replace h := ifp c h
          exact At.weak (ls_s (ls_s (ls_s (ls_s (ls_s (ls_n (ls_n ls_0))))))) (A_X7_follows_142 hF hk14 FU _ _ _ _ _ h)
        · replace h := ifn c h
          refine dild_7_3 141 dX7_follows_140 rfl ?_
          exact dr_i hF rfl dX7_follows_141 h
theorem A_X7_follows_48 {G : Cx} {b : Ab} {r : Int} {mm : Mi} {k14 : (Int → Int → Int → Mi → Option (Int × Mi))} (hF : Fi yd_X7_follows G b (some (iv r)) (Em mm)) (hk14 : ∀ (x1 : Int) (x2 : Int) (x3 : Int) (m : Mi), k14 x1 x2 x3 m = some (r, mm) → At yd_X7_follows G b 14 [some (rf G 7 false), some (iv x1), some (iv x2), some (iv x3), none, none, none] [] (Em m)) (x1 : Int) (x2 : Int) (x3 : Int) (s0 : Int) (μ : Mi) (h : B_X7_follows_48 k14 x1 x2 x3 s0 μ = some (r, mm)) : At yd_X7_follows G b 48 [some (rf G 7 false), some (iv x1), some (iv x2), some (iv x3), none, none, none] [iv s0] (Em μ) := by
  unfold B_X7_follows_48 at h
  refine dist_7_4 50 dX7_follows_48 rfl rfl rfl ?_
  refine dild_7_3 51 dX7_follows_50 rfl ?_
  refine ald_7_0 52 rfl dX7_follows_51 rfl ?_
  refine dgf_X7_253 55 rfl dX7_follows_52 rfl rfl ?_
  refine dt_icmp_ge 58 142 dX7_follows_55 rfl (by decide) rfl rfl (fun c => ?_) (fun c => ?_)
  · replace h := ifp c h
    exact A_X7_follows_142 hF hk14 FU _ _ _ _ _ h
  · replace h := ifn c h
    refine ald_7_0 59 rfl dX7_follows_58 rfl ?_
    refine dgf_X7_76 62 rfl dX7_follows_59 rfl ?_
    refine dild_7_3 63 dX7_follows_62 rfl ?_
    obtain ⟨hi, h⟩ := ift h
    refine diald 64 rfl rfl rfl hi rfl rfl dX7_follows_63 rfl ?_
    refine dist_7_5 66 dX7_follows_64 rfl rfl rfl ?_
    refine ald_7_0 67 rfl dX7_follows_66 rfl ?_
    refine dild_7_5 69 dX7_follows_67 rfl ?_
    refine dt_iconst 70 dX7_follows_69 rfl ?_
    obtain ⟨r1, h1, h⟩ := bp_some h
    refine cvi_2 73 cw_X7_276 (S_X7_ofLink h1) rfl ⟨by decide, by decide⟩ rfl rfl rfl rfl rfl (Nat.le_of_ble_eq_true rfl) dX7_follows_70 rfl ?_
    refine dt_iconst 74 dX7_follows_73 rfl ?_
    refine dt_icmp_ne 77 85 dX7_follows_74 rfl (by decide) rfl wk_1 (fun c => ?_) (fun c => ?_)
    · replace h := ifp c h
      refine dild_7_4 87 dX7_follows_85 rfl ?_
      exact A_X7_follows_87 hF hk14 _ _ _ _ _ _ _ h
    · replace h := ifn c h
      refine dild_7_4 79 dX7_follows_77 rfl ?_
      refine dt_bipush 81 dX7_follows_79 bq_24 rfl ?_
      refine dt_irem 82 dX7_follows_81 (by rw [wk_24]; decide) rfl ?_
      refine st_goto 87 dX7_follows_82 (by decide) ?_
      exact A_X7_follows_87 hF hk14 _ _ _ _ _ _ _ h
theorem A_X7_follows_14 {G : Cx} {b : Ab} {r : Int} {mm : Mi} (hF : Fi yd_X7_follows G b (some (iv r)) (Em mm)) : ∀ (n : Nat) (x1 : Int) (x2 : Int) (x3 : Int) (μ : Mi), B_X7_follows_14 n x1 x2 x3 μ = some (r, mm) → At yd_X7_follows G b 14 [some (rf G 7 false), some (iv x1), some (iv x2), some (iv x3), none, none, none] [] (Em μ) := by
  intro n
  induction n with
  | zero =>
    intro x1 x2 x3 μ h
    exact nope h
  | succ n hk14 =>
    intro x1 x2 x3 μ h
    replace h : F_X7_follows_14 (B_X7_follows_14 n) x1 x2 x3 μ = some (r, mm) := h
    unfold F_X7_follows_14 at h
    refine dild_7_3 15 dX7_follows_14 rfl ?_
    refine ald_7_0 16 rfl dX7_follows_15 rfl ?_
    refine dgf_X7_253 19 rfl dX7_follows_16 rfl rfl ?_
    refine dt_icmp_gt 22 255 dX7_follows_19 rfl (by decide) rfl rfl (fun c => ?_) (fun c => ?_)
    · replace h := ifp c h
      exact At.weak (ls_s (ls_n (ls_s (ls_n (ls_n (ls_n (ls_n ls_0))))))) (A_X7_follows_255 hF _ _ h)
    · replace h := ifn c h
      refine dild_7_3 23 dX7_follows_22 rfl ?_
      refine ald_7_0 24 rfl dX7_follows_23 rfl ?_
      refine dgf_X7_253 27 rfl dX7_follows_24 rfl rfl ?_
      refine dt_icmp_ne 30 42 dX7_follows_27 rfl (by decide) rfl rfl (fun c => ?_) (fun c => ?_)
      · replace h := ifp c h
        refine ald_7_0 43 rfl dX7_follows_42 rfl ?_
        refine dgf_X7_79 46 rfl dX7_follows_43 rfl ?_
        refine dild_7_3 47 dX7_follows_46 rfl ?_
        obtain ⟨hi, h⟩ := ift h
        refine diald 48 rfl rfl rfl hi rfl rfl dX7_follows_47 rfl ?_
        exact A_X7_follows_48 hF hk14 _ _ _ _ _ h
      · replace h := ifn c h
        refine ald_7_0 31 rfl dX7_follows_30 rfl ?_
        refine dgf_X7_51 34 rfl dX7_follows_31 rfl ?_
        refine ald_7_0 35 rfl dX7_follows_34 rfl ?_
        refine dgf_X7_279 38 rfl dX7_follows_35 rfl rfl ?_
        obtain ⟨hi, h⟩ := ift h
        refine diald 39 rfl rfl rfl hi rfl rfl dX7_follows_38 rfl ?_
        refine st_goto 48 dX7_follows_39 (by decide) ?_
        exact A_X7_follows_48 hF hk14 _ _ _ _ _ h
theorem S_X7_follows {G : Cx} {μ : Mi} {r : Int} {mm : Mi} (h : D_X7_follows μ = some (r, mm)) : Spec yd_X7_follows G [rf G 7 false] (Em μ) (some (iv r)) (Em mm) := by
  refine Spec.of (by decide) rfl (catL_ok rfl) (Nat.le_of_ble_eq_true rfl) rfl (fun b hF => ?_)
  unfold D_X7_follows at h
  refine dt_iconst 1 dX7_follows_0 rfl ?_
  refine dist_7_1 2 dX7_follows_1 rfl rfl rfl ?_
  refine ald_7_0 3 rfl dX7_follows_2 rfl ?_
  refine dgf_X7_45 6 rfl dX7_follows_3 rfl ?_
  refine ald_7_0 7 rfl dX7_follows_6 rfl ?_
  refine dgf_X7_279 10 rfl dX7_follows_7 rfl rfl ?_
  obtain ⟨hi, h⟩ := ift h
  refine diald 11 rfl rfl rfl hi rfl rfl dX7_follows_10 rfl ?_
  refine dist_7_2 12 dX7_follows_11 rfl rfl rfl ?_
  refine dt_iconst 13 dX7_follows_12 rfl ?_
  refine dist_7_3 14 dX7_follows_13 rfl rfl rfl ?_
  exact A_X7_follows_14 hF FU _ _ _ _ h
/-- StampTalesModel.sleepless -/
theorem A_X7_sleepless_54 {G : Cx} {b : Ab} {μ : Mi} {r : Int} {k2 : (Int → Mi → Option Int)} {k28 : (Int → Int → Int → Mi → Option Int)} (hF : Fi yd_X7_sleepless G b (some (iv r)) (Em μ)) (hk2 : ∀ (x1 : Int), k2 x1 μ = some r → At yd_X7_sleepless G b 2 [some (rf G 7 false), some (iv x1), none, none] [] (Em μ)) (hk28 : ∀ (x1 : Int) (x2 : Int) (x3 : Int), k28 x1 x2 x3 μ = some r → At yd_X7_sleepless G b 28 [some (rf G 7 false), some (iv x1), some (iv x2), some (iv x3)] [] (Em μ)) (x1 : Int) (x3 : Int) (s0 : Int) (s1 : Int) (h : B_X7_sleepless_54 k2 k28 x1 x3 s0 s1 μ = some r) : At yd_X7_sleepless G b 54 [some (rf G 7 false), some (iv x1), none, some (iv x3)] [iv s0, iv s1] (Em μ) := by
  unfold B_X7_sleepless_54 at h
  refine dt_iadd 55 dX7_sleepless_54 rfl ?_
  refine dist_4_2 56 dX7_sleepless_55 rfl rfl rfl ?_
  refine dinc_4_3 59 dX7_sleepless_56 rfl rfl rfl ?_
  refine st_goto 28 dX7_sleepless_59 (by decide) ?_
  exact hk28 _ _ _ h
theorem A_X7_sleepless_28 {G : Cx} {b : Ab} {μ : Mi} {r : Int} {k2 : (Int → Mi → Option Int)} (hF : Fi yd_X7_sleepless G b (some (iv r)) (Em μ)) (hk2 : ∀ (x1 : Int), k2 x1 μ = some r → At yd_X7_sleepless G b 2 [some (rf G 7 false), some (iv x1), none, none] [] (Em μ)) : ∀ (n : Nat) (x1 : Int) (x2 : Int) (x3 : Int), B_X7_sleepless_28 k2 n x1 x2 x3 μ = some r → At yd_X7_sleepless G b 28 [some (rf G 7 false), some (iv x1), some (iv x2), some (iv x3)] [] (Em μ) := by
  intro n
  induction n with
  | zero =>
    intro x1 x2 x3 h
    exact nope h
  | succ n hk28 =>
    intro x1 x2 x3 h
    replace h : F_X7_sleepless_28 k2 (B_X7_sleepless_28 k2 n) x1 x2 x3 μ = some r := h
    unfold F_X7_sleepless_28 at h
    refine dild_4_3 29 dX7_sleepless_28 rfl ?_
    refine dt_bipush 31 dX7_sleepless_29 bq_24 rfl ?_
    refine dild_4_1 32 dX7_sleepless_31 rfl ?_
    refine dt_imul 33 dX7_sleepless_32 rfl ?_
    refine dt_bipush 35 dX7_sleepless_33 bq_8 rfl ?_
    refine dt_iadd 36 dX7_sleepless_35 rfl ?_
    refine dt_icmp_ge 39 62 dX7_sleepless_36 rfl (by decide) rfl rfl (fun c => ?_) (fun c => ?_)
    · replace h := ifp c h
      refine dild_4_2 63 dX7_sleepless_62 rfl ?_
      refine ald_4_0 64 rfl dX7_sleepless_63 rfl ?_
      refine dgf_X7_48 67 rfl dX7_sleepless_64 rfl ?_
      refine ald_4_0 68 rfl dX7_sleepless_67 rfl ?_
      refine dgf_X7_279 71 rfl dX7_sleepless_68 rfl rfl ?_
      obtain ⟨hi, h⟩ := ift h
      refine diald 72 rfl rfl rfl hi rfl rfl dX7_sleepless_71 rfl ?_
      refine dt_icmp_ge 75 77 dX7_sleepless_72 rfl (by decide) rfl rfl (fun c => ?_) (fun c => ?_)
      · replace h := ifp c h
        refine dinc_4_1 80 dX7_sleepless_77 rfl rfl rfl ?_
        refine st_goto 2 dX7_sleepless_80 (by decide) ?_
        exact At.weak (ls_s (ls_s (ls_n (ls_n ls_0)))) (hk2 _ h)
      · replace h := ifn c h
        refine dild_4_1 76 dX7_sleepless_75 rfl ?_
        exact dr_ip hF rfl dX7_sleepless_76 h
    · replace h := ifn c h
      refine dild_4_2 40 dX7_sleepless_39 rfl ?_
      refine ald_4_0 41 rfl dX7_sleepless_40 rfl ?_
      refine dgf_X7_110 44 rfl dX7_sleepless_41 rfl ?_
      refine dild_4_3 45 dX7_sleepless_44 rfl ?_
      obtain ⟨hi, h⟩ := ift h
      refine dzald 46 rfl rfl rfl hi rfl rfl dX7_sleepless_45 rfl ?_
      refine dt_if_eq 49 53 dX7_sleepless_46 rfl (by decide) rfl (fun c => ?_) (fun c => ?_)
      · replace h := ifp c h
        refine dt_iconst 54 dX7_sleepless_53 rfl ?_
        exact At.weak (ls_s (ls_s (ls_n (ls_s ls_0)))) (A_X7_sleepless_54 hF hk2 hk28 _ _ _ _ h)
      · replace h := ifn c h
        refine dt_iconst 50 dX7_sleepless_49 rfl ?_
        refine st_goto 54 dX7_sleepless_50 (by decide) ?_
        exact At.weak (ls_s (ls_s (ls_n (ls_s ls_0)))) (A_X7_sleepless_54 hF hk2 hk28 _ _ _ _ h)
theorem A_X7_sleepless_2 {G : Cx} {b : Ab} {μ : Mi} {r : Int} (hF : Fi yd_X7_sleepless G b (some (iv r)) (Em μ)) : ∀ (n : Nat) (x1 : Int), B_X7_sleepless_2 n x1 μ = some r → At yd_X7_sleepless G b 2 [some (rf G 7 false), some (iv x1), none, none] [] (Em μ) := by
  intro n
  induction n with
  | zero =>
    intro x1 h
    exact nope h
  | succ n hk2 =>
    intro x1 h
    replace h : F_X7_sleepless_2 (B_X7_sleepless_2 n) x1 μ = some r := h
    unfold F_X7_sleepless_2 at h
    refine dt_bipush 4 dX7_sleepless_2 bq_24 rfl ?_
    refine dild_4_1 5 dX7_sleepless_4 rfl ?_
    refine dt_imul 6 dX7_sleepless_5 rfl ?_
    refine dt_bipush 8 dX7_sleepless_6 bq_8 rfl ?_
    refine dt_iadd 9 dX7_sleepless_8 rfl ?_
    refine ald_4_0 10 rfl dX7_sleepless_9 rfl ?_
    refine dgf_X7_51 13 rfl dX7_sleepless_10 rfl ?_
    refine ald_4_0 14 rfl dX7_sleepless_13 rfl ?_
    refine dgf_X7_279 17 rfl dX7_sleepless_14 rfl rfl ?_
    obtain ⟨hi, h⟩ := ift h
    refine diald 18 rfl rfl rfl hi rfl rfl dX7_sleepless_17 rfl ?_
    refine dt_icmp_gt 21 83 dX7_sleepless_18 rfl (by decide) rfl rfl (fun c => ?_) (fun c => ?_)
    · replace h := ifp c h
      refine dt_iconst 84 dX7_sleepless_83 rfl ?_
      exact dr_ip hF rfl dX7_sleepless_84 h
    · replace h := ifn c h
      refine dt_iconst 22 dX7_sleepless_21 rfl ?_
      refine dist_4_2 23 dX7_sleepless_22 rfl rfl rfl ?_
      refine dt_bipush 25 dX7_sleepless_23 bq_24 rfl ?_
      refine dild_4_1 26 dX7_sleepless_25 rfl ?_
      refine dt_imul 27 dX7_sleepless_26 rfl ?_
      refine dist_4_3 28 dX7_sleepless_27 rfl rfl rfl ?_
      exact A_X7_sleepless_28 hF hk2 FU _ _ _ h
theorem S_X7_sleepless {G : Cx} {μ : Mi} {r : Int} (h : D_X7_sleepless μ = some r) : Spec yd_X7_sleepless G [rf G 7 false] (Em μ) (some (iv r)) (Em μ) := by
  refine Spec.of (by decide) rfl (catL_ok rfl) (Nat.le_of_ble_eq_true rfl) rfl (fun b hF => ?_)
  unfold D_X7_sleepless at h
  refine dt_iconst 1 dX7_sleepless_0 rfl ?_
  refine dist_4_1 2 dX7_sleepless_1 rfl rfl rfl ?_
  exact A_X7_sleepless_2 hF FU _ h
/-- StampTalesModel.wrongStamp -/
theorem A_X7_wrongStamp_141 {G : Cx} {b : Ab} {μ : Mi} {r : Int} {k4 : (Int → Int → Mi → Option Int)} (hF : Fi yd_X7_wrongStamp G b (some (iv r)) (Em μ)) (hk4 : ∀ (x1 : Int) (x2 : Int), k4 x1 x2 μ = some r → At yd_X7_wrongStamp G b 4 [some (rf G 7 false), some (iv x1), some (iv x2), none, none, none, none] [] (Em μ)) (x1 : Int) (x2 : Int) (h : B_X7_wrongStamp_141 k4 x1 x2 μ = some r) : At yd_X7_wrongStamp G b 141 [some (rf G 7 false), some (iv x1), some (iv x2), none, none, none, none] [] (Em μ) := by
  unfold B_X7_wrongStamp_141 at h
  refine dinc_7_2 144 dX7_wrongStamp_141 rfl rfl rfl ?_
  refine st_goto 4 dX7_wrongStamp_144 (by decide) ?_
  exact hk4 _ _ h
theorem A_X7_wrongStamp_122 {G : Cx} {b : Ab} {μ : Mi} {r : Int} {k4 : (Int → Int → Mi → Option Int)} {k40 : (Int → Int → Int → Int → Int → Mi → Option Int)} (hF : Fi yd_X7_wrongStamp G b (some (iv r)) (Em μ)) (hk4 : ∀ (x1 : Int) (x2 : Int), k4 x1 x2 μ = some r → At yd_X7_wrongStamp G b 4 [some (rf G 7 false), some (iv x1), some (iv x2), none, none, none, none] [] (Em μ)) (hk40 : ∀ (x1 : Int) (x2 : Int) (x3 : Int) (x4 : Int) (x5 : Int), k40 x1 x2 x3 x4 x5 μ = some r → At yd_X7_wrongStamp G b 40 [some (rf G 7 false), some (iv x1), some (iv x2), some (iv x3), some (iv x4), some (iv x5), none] [] (Em μ)) (x1 : Int) (x2 : Int) (x3 : Int) (x4 : Int) (x5 : Int) (s0 : Int) (h : B_X7_wrongStamp_122 k4 k40 x1 x2 x3 x4 x5 s0 μ = some r) : At yd_X7_wrongStamp G b 122 [some (rf G 7 false), some (iv x1), some (iv x2), some (iv x3), some (iv x4), some (iv x5), none] [iv s0] (Em μ) := by
  unfold B_X7_wrongStamp_122 at h
  refine dist_7_6 124 dX7_wrongStamp_122 rfl rfl rfl ?_
  refine dild_7_6 126 dX7_wrongStamp_124 rfl ?_
  refine dt_iconst 127 dX7_wrongStamp_126 rfl ?_
  refine dt_icmp_ne 130 132 dX7_wrongStamp_127 rfl (by decide) rfl wk_m1 (fun c => ?_) (fun c => ?_)
  · replace h := ifp c h
    refine dild_7_6 134 dX7_wrongStamp_132 rfl ?_
    refine dist_7_1 135 dX7_wrongStamp_134 rfl rfl rfl ?_
    refine dinc_7_5 138 dX7_wrongStamp_135 rfl rfl rfl ?_
    refine st_goto 40 dX7_wrongStamp_138 (by decide) ?_
    exact At.weak (ls_s (ls_s (ls_s (ls_s (ls_s (ls_s (ls_n ls_0))))))) (hk40 _ _ _ _ _ h)
  · replace h := ifn c h
    refine dild_7_1 131 dX7_wrongStamp_130 rfl ?_
    exact dr_ip hF rfl dX7_wrongStamp_131 h
theorem A_X7_wrongStamp_40 {G : Cx} {b : Ab} {μ : Mi} {r : Int} {k4 : (Int → Int → Mi → Option Int)} (hF : Fi yd_X7_wrongStamp G b (some (iv r)) (Em μ)) (hk4 : ∀ (x1 : Int) (x2 : Int), k4 x1 x2 μ = some r → At yd_X7_wrongStamp G b 4 [some (rf G 7 false), some (iv x1), some (iv x2), none, none, none, none] [] (Em μ)) : ∀ (n : Nat) (x1 : Int) (x2 : Int) (x3 : Int) (x4 : Int) (x5 : Int), B_X7_wrongStamp_40 k4 n x1 x2 x3 x4 x5 μ = some r → At yd_X7_wrongStamp G b 40 [some (rf G 7 false), some (iv x1), some (iv x2), some (iv x3), some (iv x4), some (iv x5), none] [] (Em μ) := by
  intro n
  induction n with
  | zero =>
    intro x1 x2 x3 x4 x5 h
    exact nope h
  | succ n hk40 =>
    intro x1 x2 x3 x4 x5 h
    replace h : F_X7_wrongStamp_40 k4 (B_X7_wrongStamp_40 k4 n) x1 x2 x3 x4 x5 μ = some r := h
    unfold F_X7_wrongStamp_40 at h
    refine dild_7_5 42 dX7_wrongStamp_40 rfl ?_
    refine dt_iconst 43 dX7_wrongStamp_42 rfl ?_
    refine dt_icmp_ge 46 141 dX7_wrongStamp_43 rfl (by decide) rfl wk_2 (fun c => ?_) (fun c => ?_)
    · replace h := ifp c h
      exact At.weak (ls_s (ls_s (ls_s (ls_n (ls_n (ls_n (ls_n ls_0))))))) (A_X7_wrongStamp_141 hF hk4 _ _ h)
    · replace h := ifn c h
      refine ald_7_0 47 rfl dX7_wrongStamp_46 rfl ?_
      refine dgf_X7_36 50 rfl dX7_wrongStamp_47 rfl ?_
      refine dild_7_3 51 dX7_wrongStamp_50 rfl ?_
      obtain ⟨hi, h⟩ := ift h
      refine diald 52 rfl rfl rfl hi rfl rfl dX7_wrongStamp_51 rfl ?_
      refine ald_7_0 53 rfl dX7_wrongStamp_52 rfl ?_
      refine dgf_X7_36 56 rfl dX7_wrongStamp_53 rfl ?_
      refine dild_7_4 58 dX7_wrongStamp_56 rfl ?_
      obtain ⟨hi, h⟩ := ift h
      refine diald 59 rfl rfl rfl hi rfl rfl dX7_wrongStamp_58 rfl ?_
      refine dt_icmp_eq 62 141 dX7_wrongStamp_59 rfl (by decide) rfl rfl (fun c => ?_) (fun c => ?_)
      · replace h := ifp c h
        exact At.weak (ls_s (ls_s (ls_s (ls_n (ls_n (ls_n (ls_n ls_0))))))) (A_X7_wrongStamp_141 hF hk4 _ _ h)
      · replace h := ifn c h
        refine dild_7_5 64 dX7_wrongStamp_62 rfl ?_
        refine dt_if_ne 67 89 dX7_wrongStamp_64 rfl (by decide) rfl (fun c => ?_) (fun c => ?_)
        · replace h := ifp c h
          refine ald_7_0 90 rfl dX7_wrongStamp_89 rfl ?_
          refine dild_7_1 91 dX7_wrongStamp_90 rfl ?_
          refine ald_7_0 92 rfl dX7_wrongStamp_91 rfl ?_
          refine dgf_X7_36 95 rfl dX7_wrongStamp_92 rfl ?_
          refine dild_7_4 97 dX7_wrongStamp_95 rfl ?_
          obtain ⟨hi, h⟩ := ift h
          refine diald 98 rfl rfl rfl hi rfl rfl dX7_wrongStamp_97 rfl ?_
          refine dt_iconst 99 dX7_wrongStamp_98 rfl ?_
          refine ald_7_0 100 rfl dX7_wrongStamp_99 rfl ?_
          refine dgf_X7_79 103 rfl dX7_wrongStamp_100 rfl ?_
          refine dild_7_2 104 dX7_wrongStamp_103 rfl ?_
          obtain ⟨hi, h⟩ := ift h
          refine diald 105 rfl rfl rfl hi rfl rfl dX7_wrongStamp_104 rfl ?_
          refine ald_7_0 106 rfl dX7_wrongStamp_105 rfl ?_
          refine ald_7_0 107 rfl dX7_wrongStamp_106 rfl ?_
          refine dgf_X7_76 110 rfl dX7_wrongStamp_107 rfl ?_
          refine dild_7_2 111 dX7_wrongStamp_110 rfl ?_
          obtain ⟨hi, h⟩ := ift h
          refine diald 112 rfl rfl rfl hi rfl rfl dX7_wrongStamp_111 rfl ?_
          refine dt_iconst 113 dX7_wrongStamp_112 rfl ?_
          obtain ⟨r1, h1, h⟩ := bp_some h
          refine cvi_2 116 cw_X7_276 (S_X7_ofLink h1) rfl ⟨by decide, by decide⟩ rfl rfl rfl rfl rfl (Nat.le_of_ble_eq_true rfl) dX7_wrongStamp_113 rfl ?_
          refine dt_iadd 117 dX7_wrongStamp_116 rfl ?_
          refine dild_7_4 119 dX7_wrongStamp_117 rfl ?_
          obtain ⟨r2, h2, h⟩ := bp_some h
          refine cvi_5 122 cw_X7_300 (S_X7_stamped h2) rfl ⟨by decide, by decide⟩ rfl rfl rfl rfl rfl (Nat.le_of_ble_eq_true rfl) dX7_wrongStamp_119 rfl ?_
          exact A_X7_wrongStamp_122 hF hk4 hk40 _ _ _ _ _ _ h
        · replace h := ifn c h
          refine ald_7_0 68 rfl dX7_wrongStamp_67 rfl ?_
          refine dild_7_1 69 dX7_wrongStamp_68 rfl ?_
          refine ald_7_0 70 rfl dX7_wrongStamp_69 rfl ?_
          refine dgf_X7_36 73 rfl dX7_wrongStamp_70 rfl ?_
          refine dild_7_3 74 dX7_wrongStamp_73 rfl ?_
          obtain ⟨hi, h⟩ := ift h
          refine diald 75 rfl rfl rfl hi rfl rfl dX7_wrongStamp_74 rfl ?_
          refine dt_iconst 76 dX7_wrongStamp_75 rfl ?_
          refine ald_7_0 77 rfl dX7_wrongStamp_76 rfl ?_
          refine dgf_X7_79 80 rfl dX7_wrongStamp_77 rfl ?_
          refine dild_7_2 81 dX7_wrongStamp_80 rfl ?_
          obtain ⟨hi, h⟩ := ift h
          refine diald 82 rfl rfl rfl hi rfl rfl dX7_wrongStamp_81 rfl ?_
          refine dild_7_3 83 dX7_wrongStamp_82 rfl ?_
          obtain ⟨r1, h1, h⟩ := bp_some h
          refine cvi_5 86 cw_X7_300 (S_X7_stamped h1) rfl ⟨by decide, by decide⟩ rfl rfl rfl rfl rfl (Nat.le_of_ble_eq_true rfl) dX7_wrongStamp_83 rfl ?_
          refine st_goto 122 dX7_wrongStamp_86 (by decide) ?_
          exact A_X7_wrongStamp_122 hF hk4 hk40 _ _ _ _ _ _ h
theorem A_X7_wrongStamp_4 {G : Cx} {b : Ab} {μ : Mi} {r : Int} (hF : Fi yd_X7_wrongStamp G b (some (iv r)) (Em μ)) : ∀ (n : Nat) (x1 : Int) (x2 : Int), B_X7_wrongStamp_4 n x1 x2 μ = some r → At yd_X7_wrongStamp G b 4 [some (rf G 7 false), some (iv x1), some (iv x2), none, none, none, none] [] (Em μ) := by
  intro n
  induction n with
  | zero =>
    intro x1 x2 h
    exact nope h
  | succ n hk4 =>
    intro x1 x2 h
    replace h : F_X7_wrongStamp_4 (B_X7_wrongStamp_4 n) x1 x2 μ = some r := h
    unfold F_X7_wrongStamp_4 at h
    refine dild_7_2 5 dX7_wrongStamp_4 rfl ?_
    refine ald_7_0 6 rfl dX7_wrongStamp_5 rfl ?_
    refine dgf_X7_253 9 rfl dX7_wrongStamp_6 rfl rfl ?_
    refine dt_icmp_ge 12 147 dX7_wrongStamp_9 rfl (by decide) rfl rfl (fun c => ?_) (fun c => ?_)
    · replace h := ifp c h
      refine dild_7_1 148 dX7_wrongStamp_147 rfl ?_
      refine ald_7_0 149 rfl dX7_wrongStamp_148 rfl ?_
      refine dgf_X7_282 152 rfl dX7_wrongStamp_149 rfl rfl ?_
      refine dt_icmp_ne 155 159 dX7_wrongStamp_152 rfl (by decide) rfl rfl (fun c => ?_) (fun c => ?_)
      · replace h := ifp c h
        refine dild_7_1 160 dX7_wrongStamp_159 rfl ?_
        exact dr_ip hF rfl dX7_wrongStamp_160 h
      · replace h := ifn c h
        refine dt_iconst 156 dX7_wrongStamp_155 rfl ?_
        refine st_goto 160 dX7_wrongStamp_156 (by decide) ?_
        exact dr_ip hF rfl dX7_wrongStamp_160 h
    · replace h := ifn c h
      refine ald_7_0 13 rfl dX7_wrongStamp_12 rfl ?_
      refine ald_7_0 14 rfl dX7_wrongStamp_13 rfl ?_
      refine dgf_X7_76 17 rfl dX7_wrongStamp_14 rfl ?_
      refine dild_7_2 18 dX7_wrongStamp_17 rfl ?_
      obtain ⟨hi, h⟩ := ift h
      refine diald 19 rfl rfl rfl hi rfl rfl dX7_wrongStamp_18 rfl ?_
      refine dt_iconst 20 dX7_wrongStamp_19 rfl ?_
      obtain ⟨r1, h1, h⟩ := bp_some h
      refine cvi_2 23 cw_X7_276 (S_X7_ofLink h1) rfl ⟨by decide, by decide⟩ rfl rfl rfl rfl rfl (Nat.le_of_ble_eq_true rfl) dX7_wrongStamp_20 rfl ?_
      refine dist_7_3 24 dX7_wrongStamp_23 rfl rfl rfl ?_
      refine ald_7_0 25 rfl dX7_wrongStamp_24 rfl ?_
      refine ald_7_0 26 rfl dX7_wrongStamp_25 rfl ?_
      refine dgf_X7_76 29 rfl dX7_wrongStamp_26 rfl ?_
      refine dild_7_2 30 dX7_wrongStamp_29 rfl ?_
      obtain ⟨hi, h⟩ := ift h
      refine diald 31 rfl rfl rfl hi rfl rfl dX7_wrongStamp_30 rfl ?_
      refine dt_iconst 32 dX7_wrongStamp_31 rfl ?_
      obtain ⟨r2, h2, h⟩ := bp_some h
      refine cvi_2 35 cw_X7_276 (S_X7_ofLink h2) rfl ⟨by decide, by decide⟩ rfl rfl rfl rfl rfl (Nat.le_of_ble_eq_true rfl) dX7_wrongStamp_32 rfl ?_
      refine dist_7_4 37 dX7_wrongStamp_35 rfl rfl rfl ?_
      refine dt_iconst 38 dX7_wrongStamp_37 rfl ?_
      refine dist_7_5 40 dX7_wrongStamp_38 rfl rfl rfl ?_
      exact A_X7_wrongStamp_40 hF hk4 FU _ _ _ _ _ h
theorem S_X7_wrongStamp {G : Cx} {μ : Mi} {r : Int} (h : D_X7_wrongStamp μ = some r) : Spec yd_X7_wrongStamp G [rf G 7 false] (Em μ) (some (iv r)) (Em μ) := by
  refine Spec.of (by decide) rfl (catL_ok rfl) (Nat.le_of_ble_eq_true rfl) rfl (fun b hF => ?_)
  unfold D_X7_wrongStamp at h
  refine dt_iconst 1 dX7_wrongStamp_0 rfl ?_
  refine dist_7_1 2 dX7_wrongStamp_1 rfl rfl rfl ?_
  refine dt_iconst 3 dX7_wrongStamp_2 rfl ?_
  refine dist_7_2 4 dX7_wrongStamp_3 rfl rfl rfl ?_
  exact A_X7_wrongStamp_4 hF FU _ _ h
/-- StampTalesModel.barred -/
theorem A_X7_barred_225 {G : Cx} {b : Ab} {r : Int} {mm : Mi} {k65 : (Int → Int → Mi → Option (Int × Mi))} {k73 : (Int → Int → Int → Mi → Option (Int × Mi))} (hF : Fi yd_X7_barred G b (some (iv r)) (Em mm)) (hk65 : ∀ (x1 : Int) (x3 : Int) (m : Mi), k65 x1 x3 m = some (r, mm) → At yd_X7_barred G b 65 [some (rf G 7 false), some (iv x1), none, some (iv x3), none, none, none, none] [] (Em m)) (hk73 : ∀ (x1 : Int) (x3 : Int) (x4 : Int) (m : Mi), k73 x1 x3 x4 m = some (r, mm) → At yd_X7_barred G b 73 [some (rf G 7 false), some (iv x1), none, some (iv x3), some (iv x4), none, none, none] [] (Em m)) (x1 : Int) (x3 : Int) (x4 : Int) (μ : Mi) (h : B_X7_barred_225 k65 k73 x1 x3 x4 μ = some (r, mm)) : At yd_X7_barred G b 225 [some (rf G 7 false), some (iv x1), none, some (iv x3), some (iv x4), none, none, none] [] (Em μ) := by
  unfold B_X7_barred_225 at h
  refine dinc_8_4 228 dX7_barred_225 rfl rfl rfl ?_
  refine st_goto 73 dX7_barred_228 (by decide) ?_
  exact hk73 _ _ _ _ h
theorem A_X7_barred_208 {G : Cx} {b : Ab} {r : Int} {mm : Mi} {k65 : (Int → Int → Mi → Option (Int × Mi))} {k73 : (Int → Int → Int → Mi → Option (Int × Mi))} (hF : Fi yd_X7_barred G b (some (iv r)) (Em mm)) (hk65 : ∀ (x1 : Int) (x3 : Int) (m : Mi), k65 x1 x3 m = some (r, mm) → At yd_X7_barred G b 65 [some (rf G 7 false), some (iv x1), none, some (iv x3), none, none, none, none] [] (Em m)) (hk73 : ∀ (x1 : Int) (x3 : Int) (x4 : Int) (m : Mi), k73 x1 x3 x4 m = some (r, mm) → At yd_X7_barred G b 73 [some (rf G 7 false), some (iv x1), none, some (iv x3), some (iv x4), none, none, none] [] (Em m)) (x1 : Int) (x3 : Int) (x4 : Int) (x6 : Int) (μ : Mi) (h : B_X7_barred_208 k65 k73 x1 x3 x4 x6 μ = some (r, mm)) : At yd_X7_barred G b 208 [some (rf G 7 false), some (iv x1), none, some (iv x3), some (iv x4), none, some (iv x6), none] [] (Em μ) := by
  unfold B_X7_barred_208 at h
  refine dild_8_6 210 dX7_barred_208 rfl ?_
  refine dt_if_ne 213 225 dX7_barred_210 rfl (by decide) rfl (fun c => ?_) (fun c => ?_)
  · replace h := ifp c h
    exact At.weak (ls_s (ls_s (ls_n (ls_s (ls_s (ls_n (ls_n (ls_n ls_0)))))))) (A_X7_barred_225 hF hk65 hk73 _ _ _ _ h)
  · replace h := ifn c h
    refine dt_sipush 216 dX7_barred_213 sq_300 rfl ?_
    refine dt_bipush 218 dX7_barred_216 bq_100 rfl ?_
    refine dild_8_3 219 dX7_barred_218 rfl ?_
    refine dt_imul 220 dX7_barred_219 rfl ?_
    refine dt_iadd 221 dX7_barred_220 rfl ?_
    refine dild_8_4 223 dX7_barred_221 rfl ?_
    refine dt_iadd 224 dX7_barred_223 rfl ?_
    exact dr_i hF rfl dX7_barred_224 h
theorem A_X7_barred_200 {G : Cx} {b : Ab} {r : Int} {mm : Mi} {k65 : (Int → Int → Mi → Option (Int × Mi))} {k73 : (Int → Int → Int → Mi → Option (Int × Mi))} {k150 : (Int → Int → Int → Int → Int → Int → Mi → Option (Int × Mi))} (hF : Fi yd_X7_barred G b (some (iv r)) (Em mm)) (hk65 : ∀ (x1 : Int) (x3 : Int) (m : Mi), k65 x1 x3 m = some (r, mm) → At yd_X7_barred G b 65 [some (rf G 7 false), some (iv x1), none, some (iv x3), none, none, none, none] [] (Em m)) (hk73 : ∀ (x1 : Int) (x3 : Int) (x4 : Int) (m : Mi), k73 x1 x3 x4 m = some (r, mm) → At yd_X7_barred G b 73 [some (rf G 7 false), some (iv x1), none, some (iv x3), some (iv x4), none, none, none] [] (Em m)) (hk150 : ∀ (x1 : Int) (x3 : Int) (x4 : Int) (x5 : Int) (x6 : Int) (x7 : Int) (m : Mi), k150 x1 x3 x4 x5 x6 x7 m = some (r, mm) → At yd_X7_barred G b 150 [some (rf G 7 false), some (iv x1), none, some (iv x3), some (iv x4), some (iv x5), some (iv x6), some (iv x7)] [] (Em m)) (x1 : Int) (x3 : Int) (x4 : Int) (x5 : Int) (x7 : Int) (s0 : Int) (μ : Mi) (h : B_X7_barred_200 k65 k73 k150 x1 x3 x4 x5 x7 s0 μ = some (r, mm)) : At yd_X7_barred G b 200 [some (rf G 7 false), some (iv x1), none, some (iv x3), some (iv x4), some (iv x5), none, some (iv x7)] [iv s0] (Em μ) := by
  unfold B_X7_barred_200 at h
  refine dist_8_6 202 dX7_barred_200 rfl rfl rfl ?_
  refine dinc_8_7 205 dX7_barred_202 rfl rfl rfl ?_
  refine st_goto 150 dX7_barred_205 (by decide) ?_
  exact hk150 _ _ _ _ _ _ _ h
theorem A_X7_barred_195 {G : Cx} {b : Ab} {r : Int} {mm : Mi} {k65 : (Int → Int → Mi → Option (Int × Mi))} {k73 : (Int → Int → Int → Mi → Option (Int × Mi))} {k150 : (Int → Int → Int → Int → Int → Int → Mi → Option (Int × Mi))} (hF : Fi yd_X7_barred G b (some (iv r)) (Em mm)) (hk65 : ∀ (x1 : Int) (x3 : Int) (m : Mi), k65 x1 x3 m = some (r, mm) → At yd_X7_barred G b 65 [some (rf G 7 false), some (iv x1), none, some (iv x3), none, none, none, none] [] (Em m)) (hk73 : ∀ (x1 : Int) (x3 : Int) (x4 : Int) (m : Mi), k73 x1 x3 x4 m = some (r, mm) → At yd_X7_barred G b 73 [some (rf G 7 false), some (iv x1), none, some (iv x3), some (iv x4), none, none, none] [] (Em m)) (hk150 : ∀ (x1 : Int) (x3 : Int) (x4 : Int) (x5 : Int) (x6 : Int) (x7 : Int) (m : Mi), k150 x1 x3 x4 x5 x6 x7 m = some (r, mm) → At yd_X7_barred G b 150 [some (rf G 7 false), some (iv x1), none, some (iv x3), some (iv x4), some (iv x5), some (iv x6), some (iv x7)] [] (Em m)) (x1 : Int) (x3 : Int) (x4 : Int) (x5 : Int) (x7 : Int) (μ : Mi) (h : B_X7_barred_195 k65 k73 k150 x1 x3 x4 x5 x7 μ = some (r, mm)) : At yd_X7_barred G b 195 [some (rf G 7 false), some (iv x1), none, some (iv x3), some (iv x4), some (iv x5), none, some (iv x7)] [] (Em μ) := by
  unfold B_X7_barred_195 at h
  refine dt_iconst 196 dX7_barred_195 rfl ?_
  refine st_goto 200 dX7_barred_196 (by decide) ?_
  exact A_X7_barred_200 hF hk65 hk73 hk150 _ _ _ _ _ _ _ h
theorem A_X7_barred_150 {G : Cx} {b : Ab} {r : Int} {mm : Mi} {k65 : (Int → Int → Mi → Option (Int × Mi))} {k73 : (Int → Int → Int → Mi → Option (Int × Mi))} (hF : Fi yd_X7_barred G b (some (iv r)) (Em mm)) (hk65 : ∀ (x1 : Int) (x3 : Int) (m : Mi), k65 x1 x3 m = some (r, mm) → At yd_X7_barred G b 65 [some (rf G 7 false), some (iv x1), none, some (iv x3), none, none, none, none] [] (Em m)) (hk73 : ∀ (x1 : Int) (x3 : Int) (x4 : Int) (m : Mi), k73 x1 x3 x4 m = some (r, mm) → At yd_X7_barred G b 73 [some (rf G 7 false), some (iv x1), none, some (iv x3), some (iv x4), none, none, none] [] (Em m)) : ∀ (n : Nat) (x1 : Int) (x3 : Int) (x4 : Int) (x5 : Int) (x6 : Int) (x7 : Int) (μ : Mi), B_X7_barred_150 k65 k73 n x1 x3 x4 x5 x6 x7 μ = some (r, mm) → At yd_X7_barred G b 150 [some (rf G 7 false), some (iv x1), none, some (iv x3), some (iv x4), some (iv x5), some (iv x6), some (iv x7)] [] (Em μ) := by
  intro n
  induction n with
  | zero =>
    intro x1 x3 x4 x5 x6 x7 μ h
    exact nope h
  | succ n hk150 =>
    intro x1 x3 x4 x5 x6 x7 μ h
    replace h : F_X7_barred_150 k65 k73 (B_X7_barred_150 k65 k73 n) x1 x3 x4 x5 x6 x7 μ = some (r, mm) := h
    unfold F_X7_barred_150 at h
    refine dild_8_7 152 dX7_barred_150 rfl ?_
    refine ald_8_0 153 rfl dX7_barred_152 rfl ?_
    refine dgf_X7_66 156 rfl dX7_barred_153 rfl ?_
    refine dild_8_5 158 dX7_barred_156 rfl ?_
    obtain ⟨hi, h⟩ := ift h
    refine diald 159 rfl rfl rfl hi rfl rfl dX7_barred_158 rfl ?_
    refine dt_icmp_gt 162 208 dX7_barred_159 rfl (by decide) rfl rfl (fun c => ?_) (fun c => ?_)
    · replace h := ifp c h
      exact At.weak (ls_s (ls_s (ls_n (ls_s (ls_s (ls_n (ls_s (ls_n ls_0)))))))) (A_X7_barred_208 hF hk65 hk73 _ _ _ _ _ h)
    · replace h := ifn c h
      refine dild_8_7 164 dX7_barred_162 rfl ?_
      refine ald_8_0 165 rfl dX7_barred_164 rfl ?_
      refine dgf_X7_51 168 rfl dX7_barred_165 rfl ?_
      refine dild_8_1 169 dX7_barred_168 rfl ?_
      obtain ⟨hi, h⟩ := ift h
      refine diald 170 rfl rfl rfl hi rfl rfl dX7_barred_169 rfl ?_
      refine dt_icmp_gt 173 208 dX7_barred_170 rfl (by decide) rfl rfl (fun c => ?_) (fun c => ?_)
      · replace h := ifp c h
        exact At.weak (ls_s (ls_s (ls_n (ls_s (ls_s (ls_n (ls_s (ls_n ls_0)))))))) (A_X7_barred_208 hF hk65 hk73 _ _ _ _ _ h)
      · replace h := ifn c h
        refine dild_8_6 175 dX7_barred_173 rfl ?_
        refine dt_if_ne 178 195 dX7_barred_175 rfl (by decide) rfl (fun c => ?_) (fun c => ?_)
        · replace h := ifp c h
          exact At.weak (ls_s (ls_s (ls_n (ls_s (ls_s (ls_s (ls_n (ls_s ls_0)))))))) (A_X7_barred_195 hF hk65 hk73 hk150 _ _ _ _ _ _ h)
        · replace h := ifn c h
          refine ald_8_0 179 rfl dX7_barred_178 rfl ?_
          refine dgf_X7_107 182 rfl dX7_barred_179 rfl ?_
          refine dild_8_7 184 dX7_barred_182 rfl ?_
          obtain ⟨hi, h⟩ := ift h
          refine diald 185 rfl rfl rfl hi rfl rfl dX7_barred_184 rfl ?_
          refine ald_8_0 186 rfl dX7_barred_185 rfl ?_
          refine dgf_X7_60 189 rfl dX7_barred_186 rfl ?_
          refine dild_8_5 191 dX7_barred_189 rfl ?_
          obtain ⟨hi, h⟩ := ift h
          refine diald 192 rfl rfl rfl hi rfl rfl dX7_barred_191 rfl ?_
          refine dt_icmp_ne 195 199 dX7_barred_192 rfl (by decide) rfl rfl (fun c => ?_) (fun c => ?_)
          · replace h := ifp c h
            refine dt_iconst 200 dX7_barred_199 rfl ?_
            exact At.weak (ls_s (ls_s (ls_n (ls_s (ls_s (ls_s (ls_n (ls_s ls_0)))))))) (A_X7_barred_200 hF hk65 hk73 hk150 _ _ _ _ _ _ _ h)
          · replace h := ifn c h
            exact At.weak (ls_s (ls_s (ls_n (ls_s (ls_s (ls_s (ls_n (ls_s ls_0)))))))) (A_X7_barred_195 hF hk65 hk73 hk150 _ _ _ _ _ _ h)
theorem A_X7_barred_138 {G : Cx} {b : Ab} {r : Int} {mm : Mi} {k65 : (Int → Int → Mi → Option (Int × Mi))} {k73 : (Int → Int → Int → Mi → Option (Int × Mi))} (hF : Fi yd_X7_barred G b (some (iv r)) (Em mm)) (hk65 : ∀ (x1 : Int) (x3 : Int) (m : Mi), k65 x1 x3 m = some (r, mm) → At yd_X7_barred G b 65 [some (rf G 7 false), some (iv x1), none, some (iv x3), none, none, none, none] [] (Em m)) (hk73 : ∀ (x1 : Int) (x3 : Int) (x4 : Int) (m : Mi), k73 x1 x3 x4 m = some (r, mm) → At yd_X7_barred G b 73 [some (rf G 7 false), some (iv x1), none, some (iv x3), some (iv x4), none, none, none] [] (Em m)) (x1 : Int) (x3 : Int) (x4 : Int) (x5 : Int) (μ : Mi) (h : B_X7_barred_138 k65 k73 x1 x3 x4 x5 μ = some (r, mm)) : At yd_X7_barred G b 138 [some (rf G 7 false), some (iv x1), none, some (iv x3), some (iv x4), some (iv x5), none, none] [] (Em μ) := by
  unfold B_X7_barred_138 at h
  refine dt_iconst 139 dX7_barred_138 rfl ?_
  refine dist_8_6 141 dX7_barred_139 rfl rfl rfl ?_
  refine ald_8_0 142 rfl dX7_barred_141 rfl ?_
  refine dgf_X7_63 145 rfl dX7_barred_142 rfl ?_
  refine dild_8_5 147 dX7_barred_145 rfl ?_
  obtain ⟨hi, h⟩ := ift h
  refine diald 148 rfl rfl rfl hi rfl rfl dX7_barred_147 rfl ?_
  refine dist_8_7 150 dX7_barred_148 rfl rfl rfl ?_
  exact A_X7_barred_150 hF hk65 hk73 FU _ _ _ _ _ _ _ h
theorem A_X7_barred_73 {G : Cx} {b : Ab} {r : Int} {mm : Mi} {k65 : (Int → Int → Mi → Option (Int × Mi))} (hF : Fi yd_X7_barred G b (some (iv r)) (Em mm)) (hk65 : ∀ (x1 : Int) (x3 : Int) (m : Mi), k65 x1 x3 m = some (r, mm) → At yd_X7_barred G b 65 [some (rf G 7 false), some (iv x1), none, some (iv x3), none, none, none, none] [] (Em m)) : ∀ (n : Nat) (x1 : Int) (x3 : Int) (x4 : Int) (μ : Mi), B_X7_barred_73 k65 n x1 x3 x4 μ = some (r, mm) → At yd_X7_barred G b 73 [some (rf G 7 false), some (iv x1), none, some (iv x3), some (iv x4), none, none, none] [] (Em μ) := by
  intro n
  induction n with
  | zero =>
    intro x1 x3 x4 μ h
    exact nope h
  | succ n hk73 =>
    intro x1 x3 x4 μ h
    replace h : F_X7_barred_73 k65 (B_X7_barred_73 k65 n) x1 x3 x4 μ = some (r, mm) := h
    unfold F_X7_barred_73 at h
    refine dild_8_4 75 dX7_barred_73 rfl ?_
    refine ald_8_0 76 rfl dX7_barred_75 rfl ?_
    refine dgf_X7_54 79 rfl dX7_barred_76 rfl ?_
    refine dild_8_1 80 dX7_barred_79 rfl ?_
    obtain ⟨hi, h⟩ := ift h
    refine diald 81 rfl rfl rfl hi rfl rfl dX7_barred_80 rfl ?_
    refine dt_icmp_ge 84 231 dX7_barred_81 rfl (by decide) rfl rfl (fun c => ?_) (fun c => ?_)
    · replace h := ifp c h
      refine dinc_8_3 234 dX7_barred_231 rfl rfl rfl ?_
      refine st_goto 65 dX7_barred_234 (by decide) ?_
      exact At.weak (ls_s (ls_s (ls_n (ls_s (ls_n (ls_n (ls_n (ls_n ls_0)))))))) (hk65 _ _ _ h)
    · replace h := ifn c h
      refine dt_bipush 86 dX7_barred_84 bq_8 rfl ?_
      refine dild_8_1 87 dX7_barred_86 rfl ?_
      refine dt_imul 88 dX7_barred_87 rfl ?_
      refine dild_8_4 90 dX7_barred_88 rfl ?_
      refine dt_iadd 91 dX7_barred_90 rfl ?_
      refine dist_8_5 93 dX7_barred_91 rfl rfl rfl ?_
      refine ald_8_0 94 rfl dX7_barred_93 rfl ?_
      refine dgf_X7_72 97 rfl dX7_barred_94 rfl ?_
      refine dild_8_5 99 dX7_barred_97 rfl ?_
      obtain ⟨hi, h⟩ := ift h
      refine dzald 100 rfl rfl rfl hi rfl rfl dX7_barred_99 rfl ?_
      refine dt_if_ne 103 225 dX7_barred_100 rfl (by decide) rfl (fun c => ?_) (fun c => ?_)
      · replace h := ifp c h
        exact At.weak (ls_s (ls_s (ls_n (ls_s (ls_s (ls_n (ls_n (ls_n ls_0)))))))) (A_X7_barred_225 hF hk65 hk73 _ _ _ _ h)
      · replace h := ifn c h
        refine ald_8_0 104 rfl dX7_barred_103 rfl ?_
        refine dgf_X7_57 107 rfl dX7_barred_104 rfl ?_
        refine dild_8_5 109 dX7_barred_107 rfl ?_
        obtain ⟨hi, h⟩ := ift h
        refine diald 110 rfl rfl rfl hi rfl rfl dX7_barred_109 rfl ?_
        refine dild_8_3 111 dX7_barred_110 rfl ?_
        refine dt_icmp_ne 114 225 dX7_barred_111 rfl (by decide) rfl rfl (fun c => ?_) (fun c => ?_)
        · replace h := ifp c h
          exact At.weak (ls_s (ls_s (ls_n (ls_s (ls_s (ls_n (ls_n (ls_n ls_0)))))))) (A_X7_barred_225 hF hk65 hk73 _ _ _ _ h)
        · replace h := ifn c h
          refine dild_8_3 115 dX7_barred_114 rfl ?_
          refine dt_iconst 116 dX7_barred_115 rfl ?_
          refine dt_icmp_ne 119 138 dX7_barred_116 rfl (by decide) rfl wk_1 (fun c => ?_) (fun c => ?_)
          · replace h := ifp c h
            exact A_X7_barred_138 hF hk65 hk73 _ _ _ _ _ h
          · replace h := ifn c h
            refine ald_8_0 120 rfl dX7_barred_119 rfl ?_
            refine dgf_X7_63 123 rfl dX7_barred_120 rfl ?_
            refine dild_8_5 125 dX7_barred_123 rfl ?_
            obtain ⟨hi, h⟩ := ift h
            refine diald 126 rfl rfl rfl hi rfl rfl dX7_barred_125 rfl ?_
            refine ald_8_0 127 rfl dX7_barred_126 rfl ?_
            refine dgf_X7_51 130 rfl dX7_barred_127 rfl ?_
            refine dild_8_1 131 dX7_barred_130 rfl ?_
            obtain ⟨hi, h⟩ := ift h
            refine diald 132 rfl rfl rfl hi rfl rfl dX7_barred_131 rfl ?_
            refine dt_icmp_le 135 138 dX7_barred_132 rfl (by decide) rfl rfl (fun c => ?_) (fun c => ?_)
            · replace h := ifp c h
              exact A_X7_barred_138 hF hk65 hk73 _ _ _ _ _ h
            · replace h := ifn c h
              refine st_goto 225 dX7_barred_135 (by decide) ?_
              exact At.weak (ls_s (ls_s (ls_n (ls_s (ls_s (ls_n (ls_n (ls_n ls_0)))))))) (A_X7_barred_225 hF hk65 hk73 _ _ _ _ h)
theorem A_X7_barred_65 {G : Cx} {b : Ab} {r : Int} {mm : Mi} (hF : Fi yd_X7_barred G b (some (iv r)) (Em mm)) : ∀ (n : Nat) (x1 : Int) (x3 : Int) (μ : Mi), B_X7_barred_65 n x1 x3 μ = some (r, mm) → At yd_X7_barred G b 65 [some (rf G 7 false), some (iv x1), none, some (iv x3), none, none, none, none] [] (Em μ) := by
  intro n
  induction n with
  | zero =>
    intro x1 x3 μ h
    exact nope h
  | succ n hk65 =>
    intro x1 x3 μ h
    replace h : F_X7_barred_65 (B_X7_barred_65 n) x1 x3 μ = some (r, mm) := h
    unfold F_X7_barred_65 at h
    refine dild_8_3 66 dX7_barred_65 rfl ?_
    refine dt_iconst 67 dX7_barred_66 rfl ?_
    refine dt_icmp_gt 70 237 dX7_barred_67 rfl (by decide) rfl wk_2 (fun c => ?_) (fun c => ?_)
    · replace h := ifp c h
      refine dt_iconst 238 dX7_barred_237 rfl ?_
      exact dr_i hF rfl dX7_barred_238 h
    · replace h := ifn c h
      refine dt_iconst 71 dX7_barred_70 rfl ?_
      refine dist_8_4 73 dX7_barred_71 rfl rfl rfl ?_
      exact A_X7_barred_73 hF hk65 FU _ _ _ _ h
theorem S_X7_barred {G : Cx} {μ : Mi} {x1 : Int} {r : Int} {mm : Mi} (h : D_X7_barred x1 μ = some (r, mm)) : Spec yd_X7_barred G [rf G 7 false, iv x1] (Em μ) (some (iv r)) (Em mm) := by
  refine Spec.of (by decide) rfl (catL_ok rfl) (Nat.le_of_ble_eq_true rfl) rfl (fun b hF => ?_)
  unfold D_X7_barred at h
  refine ald_8_0 1 rfl dX7_barred_0 rfl ?_
  refine dild_8_1 2 dX7_barred_1 rfl ?_
  refine cvi_1 5 cw_X7_256 (S_X7_isMan x1) rfl ⟨by decide, by decide⟩ rfl rfl rfl rfl rfl (Nat.le_of_ble_eq_true rfl) dX7_barred_2 rfl ?_
  refine dt_if_ne 8 10 dX7_barred_5 rfl (by decide) rfl (fun c => ?_) (fun c => ?_)
  · replace h := ifp c h
    refine ald_8_0 11 rfl dX7_barred_10 rfl ?_
    refine dild_8_1 12 dX7_barred_11 rfl ?_
    refine dt_iconst 13 dX7_barred_12 rfl ?_
    obtain ⟨m2, h2, h⟩ := bm_some h
    refine cvv_2 16 cw_X7_321 (S_X7_sets h2) rfl ⟨by decide, by decide⟩ rfl rfl rfl rfl rfl (Nat.le_of_ble_eq_true rfl) dX7_barred_13 rfl ?_
    refine ald_8_0 17 rfl dX7_barred_16 rfl ?_
    obtain ⟨r3, m3, h3, h⟩ := bd_some h
    refine cvi_0 20 cw_X7_347 (S_X7_follows h3) rfl ⟨by decide, by decide⟩ rfl rfl rfl rfl rfl (Nat.le_of_ble_eq_true rfl) dX7_barred_17 rfl ?_
    refine dist_8_2 21 dX7_barred_20 rfl rfl rfl ?_
    refine dild_8_2 22 dX7_barred_21 rfl ?_
    refine dt_iconst 23 dX7_barred_22 rfl ?_
    refine dt_icmp_eq 26 31 dX7_barred_23 rfl (by decide) rfl wk_m1 (fun c => ?_) (fun c => ?_)
    · replace h := ifp c h
      refine ald_8_0 32 rfl dX7_barred_31 rfl ?_
      obtain ⟨r4, h4, h⟩ := bp_some h
      refine cvi_0 35 cw_X7_350 (S_X7_sleepless h4) rfl ⟨by decide, by decide⟩ rfl rfl rfl rfl rfl (Nat.le_of_ble_eq_true rfl) dX7_barred_32 rfl ?_
      refine dist_8_2 36 dX7_barred_35 rfl rfl rfl ?_
      refine dild_8_2 37 dX7_barred_36 rfl ?_
      refine dt_iconst 38 dX7_barred_37 rfl ?_
      refine dt_icmp_eq 41 47 dX7_barred_38 rfl (by decide) rfl wk_m1 (fun c => ?_) (fun c => ?_)
      · replace h := ifp c h
        refine ald_8_0 48 rfl dX7_barred_47 rfl ?_
        obtain ⟨r5, h5, h⟩ := bp_some h
        refine cvi_0 51 cw_X7_353 (S_X7_wrongStamp h5) rfl ⟨by decide, by decide⟩ rfl rfl rfl rfl rfl (Nat.le_of_ble_eq_true rfl) dX7_barred_48 rfl ?_
        refine dist_8_2 52 dX7_barred_51 rfl rfl rfl ?_
        refine dild_8_2 53 dX7_barred_52 rfl ?_
        refine dt_iconst 54 dX7_barred_53 rfl ?_
        refine dt_icmp_eq 57 63 dX7_barred_54 rfl (by decide) rfl wk_m1 (fun c => ?_) (fun c => ?_)
        · replace h := ifp c h
          refine dt_iconst 64 dX7_barred_63 rfl ?_
          refine dist_8_3 65 dX7_barred_64 rfl rfl rfl ?_
          exact At.weak (ls_s (ls_s (ls_n (ls_s (ls_n (ls_n (ls_n (ls_n ls_0)))))))) (A_X7_barred_65 hF FU _ _ _ h)
        · replace h := ifn c h
          refine dt_sipush 60 dX7_barred_57 sq_300 rfl ?_
          refine dild_8_2 61 dX7_barred_60 rfl ?_
          refine dt_iadd 62 dX7_barred_61 rfl ?_
          exact dr_i hF rfl dX7_barred_62 h
      · replace h := ifn c h
        refine dt_sipush 44 dX7_barred_41 sq_200 rfl ?_
        refine dild_8_2 45 dX7_barred_44 rfl ?_
        refine dt_iadd 46 dX7_barred_45 rfl ?_
        exact dr_i hF rfl dX7_barred_46 h
    · replace h := ifn c h
      refine dt_bipush 28 dX7_barred_26 bq_100 rfl ?_
      refine dild_8_2 29 dX7_barred_28 rfl ?_
      refine dt_iadd 30 dX7_barred_29 rfl ?_
      exact dr_i hF rfl dX7_barred_30 h
  · replace h := ifn c h
    refine dt_iconst 9 dX7_barred_8 rfl ?_
    exact dr_i hF rfl dX7_barred_9 h
/-- StampTalesModel.count -/
theorem S_X7_count {G : Cx} {μ : Mi} (x1 : Int) : Spec yd_X7_count G [rf G 7 false, iv x1] (Em μ) (some (iv (D_X7_count x1 μ))) (Em μ) := by
  generalize h : D_X7_count x1 μ = r
  refine Spec.of (by decide) rfl (catL_ok rfl) (Nat.le_of_ble_eq_true rfl) rfl (fun b hF => ?_)
  unfold D_X7_count at h
  refine dild_2_1 1 dX7_count_0 rfl ?_
  by_cases c0 : (w32 x1) = 0
  · replace h := ifp c0 h
    refine dt_tableIn 44 dX7_count_1 c0 wk_0 rfl (by decide) (by decide) rfl (by decide) ?_
    refine ald_2_0 45 rfl dX7_count_44 rfl ?_
    refine dgf_X7_244 48 rfl dX7_count_45 rfl rfl ?_
    exact dr_it hF rfl dX7_count_48 h
  replace h := ifn c0 h
  by_cases c1 : (w32 x1) = 1
  · replace h := ifp c1 h
    refine dt_tableIn 49 dX7_count_1 c1 wk_1 rfl (by decide) (by decide) rfl (by decide) ?_
    refine ald_2_0 50 rfl dX7_count_49 rfl ?_
    refine dgf_X7_247 53 rfl dX7_count_50 rfl rfl ?_
    exact dr_it hF rfl dX7_count_53 h
  replace h := ifn c1 h
  by_cases c2 : (w32 x1) = 2
  · replace h := ifp c2 h
    refine dt_tableIn 54 dX7_count_1 c2 wk_2 rfl (by decide) (by decide) rfl (by decide) ?_
    refine ald_2_0 55 rfl dX7_count_54 rfl ?_
    refine dgf_X7_250 58 rfl dX7_count_55 rfl rfl ?_
    exact dr_it hF rfl dX7_count_58 h
  replace h := ifn c2 h
  by_cases c3 : (w32 x1) = 3
  · replace h := ifp c3 h
    refine dt_tableIn 59 dX7_count_1 c3 wk_3 rfl (by decide) (by decide) rfl (by decide) ?_
    refine ald_2_0 60 rfl dX7_count_59 rfl ?_
    refine dgf_X7_54 63 rfl dX7_count_60 rfl ?_
    refine dt_iconst 64 dX7_count_63 rfl ?_
    refine diald 65 rfl rfl rfl ⟨by rw [wk_0]; decide, by rw [wk_0]; decide⟩ ixk_0 rfl dX7_count_64 rfl ?_
    exact dr_it hF rfl dX7_count_65 h
  replace h := ifn c3 h
  by_cases c4 : (w32 x1) = 4
  · replace h := ifp c4 h
    refine dt_tableIn 66 dX7_count_1 c4 wk_4 rfl (by decide) (by decide) rfl (by decide) ?_
    refine ald_2_0 67 rfl dX7_count_66 rfl ?_
    refine dgf_X7_54 70 rfl dX7_count_67 rfl ?_
    refine dt_iconst 71 dX7_count_70 rfl ?_
    refine diald 72 rfl rfl rfl ⟨by rw [wk_1]; decide, by rw [wk_1]; decide⟩ ixk_1 rfl dX7_count_71 rfl ?_
    exact dr_it hF rfl dX7_count_72 h
  replace h := ifn c4 h
  by_cases c5 : (w32 x1) = 5
  · replace h := ifp c5 h
    refine dt_tableIn 73 dX7_count_1 c5 wk_5 rfl (by decide) (by decide) rfl (by decide) ?_
    refine ald_2_0 74 rfl dX7_count_73 rfl ?_
    refine dgf_X7_253 77 rfl dX7_count_74 rfl rfl ?_
    exact dr_it hF rfl dX7_count_77 h
  replace h := ifn c5 h
  by_cases c6 : (w32 x1) = 6
  · replace h := ifp c6 h
    refine dt_tableIn 78 dX7_count_1 c6 wk_6 rfl (by decide) (by decide) rfl (by decide) ?_
    refine ald_2_0 79 rfl dX7_count_78 rfl ?_
    refine dgf_X7_113 82 rfl dX7_count_79 rfl rfl ?_
    exact dr_it hF rfl dX7_count_82 h
  replace h := ifn c6 h
  refine dt_tableOut 83 dX7_count_1 (by omega) (by decide) ?_
  refine dt_iconst 84 dX7_count_83 rfl ?_
  exact dr_it hF rfl dX7_count_84 h
