section ManM
variable {G : Cx} {σ : Mm} {i : Bool}
/-- Man.has -/
theorem S_X2_has (t : Int32) : Spec yd_X2_has G [rf G 2 i, .int t] σ (some (.int (bI (decide (0 ≤ t ∧ t < gI σ 2 i 3))))) σ := by
  refine Spec.of (by decide) rfl (by simp [rf, Value.category]) (by decide) rfl (fun b hF => ?_)
  refine ild_2_1 1 dX2_has_0 rfl ?_
  refine st_if_lt 4 16 dX2_has_1 rfl (by decide) (fun c_1 => ?_) (fun c_1 => ?_)
  · refine st_iconst 17 dX2_has_16 ic_0 rfl ?_
    refine rt_z hF rfl (by first | rfl | exact nz_bI _) dX2_has_17 ?_ ?_
    · simp_all [bI]
    · rfl
  · refine ild_2_1 5 dX2_has_4 rfl ?_
    refine ald_2_0 6 rfl dX2_has_5 rfl ?_
    refine gf_X2_39 9 rfl dX2_has_6 rfl ?_
    refine st_icmp_ge 12 16 dX2_has_9 rfl (by decide) (fun c_9 => ?_) (fun c_9 => ?_)
    · refine st_iconst 17 dX2_has_16 ic_0 rfl ?_
      refine rt_z hF rfl (by first | rfl | exact nz_bI _) dX2_has_17 ?_ ?_
      · simp_all [bI]
      · rfl
    · refine st_iconst 13 dX2_has_12 ic_1 rfl ?_
      refine st_goto 17 dX2_has_13 (by decide) ?_
      refine rt_z hF rfl (by first | rfl | exact nz_bI _) dX2_has_17 ?_ ?_
      · simp_all [bI]
      · rfl
/-- Man.settle -/
theorem S_X2_settle (h s e : Int32) : Spec yd_X2_settle G [rf G 2 i, .int h, .int s, .int e] σ none (sI (sI (sI (sI σ 2 i 0 h) 2 i 1 s) 2 i 2 e) 2 i 4 1) := by
  refine Spec.of (by decide) rfl (by simp [rf, Value.category]) (by decide) rfl (fun b hF => ?_)
  refine ald_4_0 1 rfl dX2_settle_0 rfl ?_
  refine ild_4_1 2 dX2_settle_1 rfl ?_
  refine pf_X2_46 5 rfl dX2_settle_2 rfl ?_
  refine ald_4_0 6 rfl dX2_settle_5 rfl ?_
  refine ild_4_2 7 dX2_settle_6 rfl ?_
  refine pf_X2_49 10 rfl dX2_settle_7 rfl ?_
  refine ald_4_0 11 rfl dX2_settle_10 rfl ?_
  refine ild_4_3 12 dX2_settle_11 rfl ?_
  refine pf_X2_9 15 rfl dX2_settle_12 rfl ?_
  refine ald_4_0 16 rfl dX2_settle_15 rfl ?_
  refine st_iconst 17 dX2_settle_16 ic_1 rfl ?_
  refine pf_X2_15 20 (by decide) (by decide) rfl dX2_settle_17 rfl ?_
  refine rt_v hF rfl dX2_settle_20 ?_ ?_
  · rfl
  · rfl
theorem S_X2_startAnew : Spec yd_X2_startAnew G [rf G 2 i] σ none (sI (sI (sI (sI (sI σ 2 i 3 0) 2 i 0 0) 2 i 1 0) 2 i 2 96) 2 i 4 1) := by
  refine Spec.of (by decide) rfl (by simp [rf, Value.category]) (by decide) rfl (fun b hF => ?_)
  refine ald_1_0 1 rfl dX2_startAnew_0 rfl ?_
  refine st_iconst 2 dX2_startAnew_1 ic_0 rfl ?_
  refine pf_X2_39 5 rfl dX2_startAnew_2 rfl ?_
  refine ald_1_0 6 rfl dX2_startAnew_5 rfl ?_
  refine st_iconst 7 dX2_startAnew_6 ic_0 rfl ?_
  refine st_iconst 8 dX2_startAnew_7 ic_0 rfl ?_
  refine st_bipush 10 dX2_startAnew_8 bp_96 rfl ?_
  refine cvv_3 13 cw_X2_42 (S_X2_settle _ _ _) rfl ⟨by decide, by decide⟩ rfl rfl rfl rfl rfl (Nat.le_of_ble_eq_true rfl) dX2_startAnew_10 rfl ?_
  refine rt_v hF rfl dX2_startAnew_13 ?_ ?_
  · rfl
  · rfl
end ManM
