abbrev aI (cs : Nat → ClassId) (kd N : Nat) : va_E := .inl (cs kd, (N, .inl fun _ => 0))
abbrev aL (cs : Nat → ClassId) (N : Nat) : va_E := .inl (cs 4, (N, .inr (.inl fun _ => 0)))
theorem aw_byte : Cond.arrayClass (newarray.typeOf .byte) ∈ WT := wt_at 100 (by decide +kernel) (by decide +kernel)
theorem aw_int : Cond.arrayClass (newarray.typeOf .int) ∈ WT := wt_at 101 (by decide +kernel) (by decide +kernel)
theorem aw_boolean : Cond.arrayClass (newarray.typeOf .boolean) ∈ WT := wt_at 102 (by decide +kernel) (by decide +kernel)
theorem aw_long : Cond.arrayClass (newarray.typeOf .long) ∈ WT := wt_at 140 (by decide +kernel) (by decide +kernel)
theorem ob_i : Cond.instanceMethod objectInit ∈ WT := wt_at 22 (by decide +kernel) (by decide +kernel)
theorem ob_c : Cond.code objectInit ⟨#[0xb1]⟩ 1 none ∈ WT := wt_at 23 (by decide +kernel) (by decide +kernel)
abbrev yk0 : Yd := (RX0, yX0_init, cX0_init, 1, none, 1, 12)
def c1X0 (cs : Nat → ClassId) (h0 : Nat) (q : Nat → Nat) : va_W := [(h0, .inr (0, [.int 0, .int 0, .int 0, .ref (q 0), .ref (q 1), .ref (q 2), .ref (q 3), .ref (q 4), .ref (q 5), .ref (q 6), .ref (q 7), .ref (q 8), .ref (q 9), .ref (q 10)])), ((q 0), aI cs 1 4), ((q 1), aI cs 1 8), ((q 2), aI cs 1 8), ((q 3), aI cs 1 16), ((q 4), aI cs 1 16), ((q 5), aI cs 1 16), ((q 6), aI cs 1 16), ((q 7), aI cs 1 16), ((q 8), aI cs 2 16), ((q 9), aI cs 1 16), ((q 10), aI cs 1 16)]
set_option maxRecDepth 100000 in
set_option maxHeartbeats 4000000 in
theorem con_X0 (D : va_G) (cs : Nat → ClassId) (h0 : Nat) : Con yk0 (D, cs, 11, 148) [.ref h0] [(h0, .inr (0, [.int 0, .int 0, .int 0, .null, .null, .null, .null, .null, .null, .null, .null, .null, .null, .null]))] (c1X0 cs h0) := by
  refine Con.of (by decide) rfl rfl rfl (catL_ok rfl) (Nat.le_of_ble_eq_true rfl) rfl (fun b hE => ?_)
  refine k9_ald 1 (i := 0) rfl rfl dX0_init_0 rfl ?_
  refine k9_obj 4 rfl (wt_at 29 (by decide +kernel) (by decide +kernel)) ob_i ob_c ⟨by decide, by decide⟩ dX0_init_1 rfl ?_
  refine k9_ald 5 (i := 0) rfl rfl dX0_init_4 rfl ?_
  refine k9_iconst 6 (v := 4) dX0_init_5 (by decide) rfl ?_
  refine k9_newa 8 (kd := 1) (ty := .int) (N' := 4) (a0 := (4, .inl fun _ => 0)) rfl aw_int rfl (fun _ => rfl) (by decide) (by decide +kernel) (Nat.le_of_ble_eq_true rfl) (Nat.le_of_ble_eq_true rfl) (Nat.le_of_ble_eq_true rfl) dX0_init_6 rfl (fun q1 => ?_)
  show Ck _ _ _ 8 [some (.ref h0)] [.ref q1, .ref h0] [(h0, .inr (0, [.int 0, .int 0, .int 0, .null, .null, .null, .null, .null, .null, .null, .null, .null, .null, .null])), (q1, aI cs 1 4)] 1 4
  refine k9_put 11 0 3 (C := RX0) (T := TX0) (N := 14) (ci := 0) rfl rfl inW0 tyX0 tyX0_ok nmX0 rfl (by decide) rfl (wt_at 41 (by decide +kernel) (by decide +kernel)) (tyX0_ok 3 (by decide)) rfl rfl rfl (Nat.le_of_ble_eq_true rfl) dX0_init_8 rfl ?_
  show Ck _ _ _ 11 [some (.ref h0)] [] [(h0, .inr (0, [.int 0, .int 0, .int 0, .ref q1, .null, .null, .null, .null, .null, .null, .null, .null, .null, .null])), (q1, aI cs 1 4)] 1 4
  refine k9_ald 12 (i := 0) rfl rfl dX0_init_11 rfl ?_
  refine k9_bipush 14 (v := 8) dX0_init_12 (by decide) rfl ?_
  refine k9_newa 16 (kd := 1) (ty := .int) (N' := 8) (a0 := (8, .inl fun _ => 0)) rfl aw_int rfl (fun _ => rfl) (by decide) (by decide +kernel) (Nat.le_of_ble_eq_true rfl) (Nat.le_of_ble_eq_true rfl) (Nat.le_of_ble_eq_true rfl) dX0_init_14 rfl (fun q2 => ?_)
  show Ck _ _ _ 16 [some (.ref h0)] [.ref q2, .ref h0] [(h0, .inr (0, [.int 0, .int 0, .int 0, .ref q1, .null, .null, .null, .null, .null, .null, .null, .null, .null, .null])), (q1, aI cs 1 4), (q2, aI cs 1 8)] 2 12
  refine k9_put 19 0 4 (C := RX0) (T := TX0) (N := 14) (ci := 0) rfl rfl inW0 tyX0 tyX0_ok nmX0 rfl (by decide) rfl (wt_at 42 (by decide +kernel) (by decide +kernel)) (tyX0_ok 4 (by decide)) rfl rfl rfl (Nat.le_of_ble_eq_true rfl) dX0_init_16 rfl ?_
  show Ck _ _ _ 19 [some (.ref h0)] [] [(h0, .inr (0, [.int 0, .int 0, .int 0, .ref q1, .ref q2, .null, .null, .null, .null, .null, .null, .null, .null, .null])), (q1, aI cs 1 4), (q2, aI cs 1 8)] 2 12
  refine k9_ald 20 (i := 0) rfl rfl dX0_init_19 rfl ?_
  refine k9_bipush 22 (v := 8) dX0_init_20 (by decide) rfl ?_
  refine k9_newa 24 (kd := 1) (ty := .int) (N' := 8) (a0 := (8, .inl fun _ => 0)) rfl aw_int rfl (fun _ => rfl) (by decide) (by decide +kernel) (Nat.le_of_ble_eq_true rfl) (Nat.le_of_ble_eq_true rfl) (Nat.le_of_ble_eq_true rfl) dX0_init_22 rfl (fun q3 => ?_)
  show Ck _ _ _ 24 [some (.ref h0)] [.ref q3, .ref h0] [(h0, .inr (0, [.int 0, .int 0, .int 0, .ref q1, .ref q2, .null, .null, .null, .null, .null, .null, .null, .null, .null])), (q1, aI cs 1 4), (q2, aI cs 1 8), (q3, aI cs 1 8)] 3 20
  refine k9_put 27 0 5 (C := RX0) (T := TX0) (N := 14) (ci := 0) rfl rfl inW0 tyX0 tyX0_ok nmX0 rfl (by decide) rfl (wt_at 44 (by decide +kernel) (by decide +kernel)) (tyX0_ok 5 (by decide)) rfl rfl rfl (Nat.le_of_ble_eq_true rfl) dX0_init_24 rfl ?_
  show Ck _ _ _ 27 [some (.ref h0)] [] [(h0, .inr (0, [.int 0, .int 0, .int 0, .ref q1, .ref q2, .ref q3, .null, .null, .null, .null, .null, .null, .null, .null])), (q1, aI cs 1 4), (q2, aI cs 1 8), (q3, aI cs 1 8)] 3 20
  refine k9_ald 28 (i := 0) rfl rfl dX0_init_27 rfl ?_
  refine k9_bipush 30 (v := 16) dX0_init_28 (by decide) rfl ?_
  refine k9_newa 32 (kd := 1) (ty := .int) (N' := 16) (a0 := (16, .inl fun _ => 0)) rfl aw_int rfl (fun _ => rfl) (by decide) (by decide +kernel) (Nat.le_of_ble_eq_true rfl) (Nat.le_of_ble_eq_true rfl) (Nat.le_of_ble_eq_true rfl) dX0_init_30 rfl (fun q4 => ?_)
  show Ck _ _ _ 32 [some (.ref h0)] [.ref q4, .ref h0] [(h0, .inr (0, [.int 0, .int 0, .int 0, .ref q1, .ref q2, .ref q3, .null, .null, .null, .null, .null, .null, .null, .null])), (q1, aI cs 1 4), (q2, aI cs 1 8), (q3, aI cs 1 8), (q4, aI cs 1 16)] 4 36
  refine k9_put 35 0 6 (C := RX0) (T := TX0) (N := 14) (ci := 0) rfl rfl inW0 tyX0 tyX0_ok nmX0 rfl (by decide) rfl (wt_at 46 (by decide +kernel) (by decide +kernel)) (tyX0_ok 6 (by decide)) rfl rfl rfl (Nat.le_of_ble_eq_true rfl) dX0_init_32 rfl ?_
  show Ck _ _ _ 35 [some (.ref h0)] [] [(h0, .inr (0, [.int 0, .int 0, .int 0, .ref q1, .ref q2, .ref q3, .ref q4, .null, .null, .null, .null, .null, .null, .null])), (q1, aI cs 1 4), (q2, aI cs 1 8), (q3, aI cs 1 8), (q4, aI cs 1 16)] 4 36
  refine k9_ald 36 (i := 0) rfl rfl dX0_init_35 rfl ?_
  refine k9_bipush 38 (v := 16) dX0_init_36 (by decide) rfl ?_
  refine k9_newa 40 (kd := 1) (ty := .int) (N' := 16) (a0 := (16, .inl fun _ => 0)) rfl aw_int rfl (fun _ => rfl) (by decide) (by decide +kernel) (Nat.le_of_ble_eq_true rfl) (Nat.le_of_ble_eq_true rfl) (Nat.le_of_ble_eq_true rfl) dX0_init_38 rfl (fun q5 => ?_)
  show Ck _ _ _ 40 [some (.ref h0)] [.ref q5, .ref h0] [(h0, .inr (0, [.int 0, .int 0, .int 0, .ref q1, .ref q2, .ref q3, .ref q4, .null, .null, .null, .null, .null, .null, .null])), (q1, aI cs 1 4), (q2, aI cs 1 8), (q3, aI cs 1 8), (q4, aI cs 1 16), (q5, aI cs 1 16)] 5 52
  refine k9_put 43 0 7 (C := RX0) (T := TX0) (N := 14) (ci := 0) rfl rfl inW0 tyX0 tyX0_ok nmX0 rfl (by decide) rfl (wt_at 50 (by decide +kernel) (by decide +kernel)) (tyX0_ok 7 (by decide)) rfl rfl rfl (Nat.le_of_ble_eq_true rfl) dX0_init_40 rfl ?_
  show Ck _ _ _ 43 [some (.ref h0)] [] [(h0, .inr (0, [.int 0, .int 0, .int 0, .ref q1, .ref q2, .ref q3, .ref q4, .ref q5, .null, .null, .null, .null, .null, .null])), (q1, aI cs 1 4), (q2, aI cs 1 8), (q3, aI cs 1 8), (q4, aI cs 1 16), (q5, aI cs 1 16)] 5 52
  refine k9_ald 44 (i := 0) rfl rfl dX0_init_43 rfl ?_
  refine k9_bipush 46 (v := 16) dX0_init_44 (by decide) rfl ?_
  refine k9_newa 48 (kd := 1) (ty := .int) (N' := 16) (a0 := (16, .inl fun _ => 0)) rfl aw_int rfl (fun _ => rfl) (by decide) (by decide +kernel) (Nat.le_of_ble_eq_true rfl) (Nat.le_of_ble_eq_true rfl) (Nat.le_of_ble_eq_true rfl) dX0_init_46 rfl (fun q6 => ?_)
  show Ck _ _ _ 48 [some (.ref h0)] [.ref q6, .ref h0] [(h0, .inr (0, [.int 0, .int 0, .int 0, .ref q1, .ref q2, .ref q3, .ref q4, .ref q5, .null, .null, .null, .null, .null, .null])), (q1, aI cs 1 4), (q2, aI cs 1 8), (q3, aI cs 1 8), (q4, aI cs 1 16), (q5, aI cs 1 16), (q6, aI cs 1 16)] 6 68
  refine k9_put 51 0 8 (C := RX0) (T := TX0) (N := 14) (ci := 0) rfl rfl inW0 tyX0 tyX0_ok nmX0 rfl (by decide) rfl (wt_at 54 (by decide +kernel) (by decide +kernel)) (tyX0_ok 8 (by decide)) rfl rfl rfl (Nat.le_of_ble_eq_true rfl) dX0_init_48 rfl ?_
  show Ck _ _ _ 51 [some (.ref h0)] [] [(h0, .inr (0, [.int 0, .int 0, .int 0, .ref q1, .ref q2, .ref q3, .ref q4, .ref q5, .ref q6, .null, .null, .null, .null, .null])), (q1, aI cs 1 4), (q2, aI cs 1 8), (q3, aI cs 1 8), (q4, aI cs 1 16), (q5, aI cs 1 16), (q6, aI cs 1 16)] 6 68
  refine k9_ald 52 (i := 0) rfl rfl dX0_init_51 rfl ?_
  refine k9_bipush 54 (v := 16) dX0_init_52 (by decide) rfl ?_
  refine k9_newa 56 (kd := 1) (ty := .int) (N' := 16) (a0 := (16, .inl fun _ => 0)) rfl aw_int rfl (fun _ => rfl) (by decide) (by decide +kernel) (Nat.le_of_ble_eq_true rfl) (Nat.le_of_ble_eq_true rfl) (Nat.le_of_ble_eq_true rfl) dX0_init_54 rfl (fun q7 => ?_)
  show Ck _ _ _ 56 [some (.ref h0)] [.ref q7, .ref h0] [(h0, .inr (0, [.int 0, .int 0, .int 0, .ref q1, .ref q2, .ref q3, .ref q4, .ref q5, .ref q6, .null, .null, .null, .null, .null])), (q1, aI cs 1 4), (q2, aI cs 1 8), (q3, aI cs 1 8), (q4, aI cs 1 16), (q5, aI cs 1 16), (q6, aI cs 1 16), (q7, aI cs 1 16)] 7 84
  refine k9_put 59 0 9 (C := RX0) (T := TX0) (N := 14) (ci := 0) rfl rfl inW0 tyX0 tyX0_ok nmX0 rfl (by decide) rfl (wt_at 56 (by decide +kernel) (by decide +kernel)) (tyX0_ok 9 (by decide)) rfl rfl rfl (Nat.le_of_ble_eq_true rfl) dX0_init_56 rfl ?_
  show Ck _ _ _ 59 [some (.ref h0)] [] [(h0, .inr (0, [.int 0, .int 0, .int 0, .ref q1, .ref q2, .ref q3, .ref q4, .ref q5, .ref q6, .ref q7, .null, .null, .null, .null])), (q1, aI cs 1 4), (q2, aI cs 1 8), (q3, aI cs 1 8), (q4, aI cs 1 16), (q5, aI cs 1 16), (q6, aI cs 1 16), (q7, aI cs 1 16)] 7 84
  refine k9_ald 60 (i := 0) rfl rfl dX0_init_59 rfl ?_
  refine k9_bipush 62 (v := 16) dX0_init_60 (by decide) rfl ?_
  refine k9_newa 64 (kd := 1) (ty := .int) (N' := 16) (a0 := (16, .inl fun _ => 0)) rfl aw_int rfl (fun _ => rfl) (by decide) (by decide +kernel) (Nat.le_of_ble_eq_true rfl) (Nat.le_of_ble_eq_true rfl) (Nat.le_of_ble_eq_true rfl) dX0_init_62 rfl (fun q8 => ?_)
  show Ck _ _ _ 64 [some (.ref h0)] [.ref q8, .ref h0] [(h0, .inr (0, [.int 0, .int 0, .int 0, .ref q1, .ref q2, .ref q3, .ref q4, .ref q5, .ref q6, .ref q7, .null, .null, .null, .null])), (q1, aI cs 1 4), (q2, aI cs 1 8), (q3, aI cs 1 8), (q4, aI cs 1 16), (q5, aI cs 1 16), (q6, aI cs 1 16), (q7, aI cs 1 16), (q8, aI cs 1 16)] 8 100
  refine k9_put 67 0 10 (C := RX0) (T := TX0) (N := 14) (ci := 0) rfl rfl inW0 tyX0 tyX0_ok nmX0 rfl (by decide) rfl (wt_at 60 (by decide +kernel) (by decide +kernel)) (tyX0_ok 10 (by decide)) rfl rfl rfl (Nat.le_of_ble_eq_true rfl) dX0_init_64 rfl ?_
  show Ck _ _ _ 67 [some (.ref h0)] [] [(h0, .inr (0, [.int 0, .int 0, .int 0, .ref q1, .ref q2, .ref q3, .ref q4, .ref q5, .ref q6, .ref q7, .ref q8, .null, .null, .null])), (q1, aI cs 1 4), (q2, aI cs 1 8), (q3, aI cs 1 8), (q4, aI cs 1 16), (q5, aI cs 1 16), (q6, aI cs 1 16), (q7, aI cs 1 16), (q8, aI cs 1 16)] 8 100
  refine k9_ald 68 (i := 0) rfl rfl dX0_init_67 rfl ?_
  refine k9_bipush 70 (v := 16) dX0_init_68 (by decide) rfl ?_
  refine k9_newa 72 (kd := 2) (ty := .boolean) (N' := 16) (a0 := (16, .inl fun _ => 0)) rfl aw_boolean rfl (fun _ => rfl) (by decide) (by decide +kernel) (Nat.le_of_ble_eq_true rfl) (Nat.le_of_ble_eq_true rfl) (Nat.le_of_ble_eq_true rfl) dX0_init_70 rfl (fun q9 => ?_)
  show Ck _ _ _ 72 [some (.ref h0)] [.ref q9, .ref h0] [(h0, .inr (0, [.int 0, .int 0, .int 0, .ref q1, .ref q2, .ref q3, .ref q4, .ref q5, .ref q6, .ref q7, .ref q8, .null, .null, .null])), (q1, aI cs 1 4), (q2, aI cs 1 8), (q3, aI cs 1 8), (q4, aI cs 1 16), (q5, aI cs 1 16), (q6, aI cs 1 16), (q7, aI cs 1 16), (q8, aI cs 1 16), (q9, aI cs 2 16)] 9 116
  refine k9_put 75 0 11 (C := RX0) (T := TX0) (N := 14) (ci := 0) rfl rfl inW0 tyX0 tyX0_ok nmX0 rfl (by decide) rfl (wt_at 63 (by decide +kernel) (by decide +kernel)) (tyX0_ok 11 (by decide)) rfl rfl rfl (Nat.le_of_ble_eq_true rfl) dX0_init_72 rfl ?_
  show Ck _ _ _ 75 [some (.ref h0)] [] [(h0, .inr (0, [.int 0, .int 0, .int 0, .ref q1, .ref q2, .ref q3, .ref q4, .ref q5, .ref q6, .ref q7, .ref q8, .ref q9, .null, .null])), (q1, aI cs 1 4), (q2, aI cs 1 8), (q3, aI cs 1 8), (q4, aI cs 1 16), (q5, aI cs 1 16), (q6, aI cs 1 16), (q7, aI cs 1 16), (q8, aI cs 1 16), (q9, aI cs 2 16)] 9 116
  refine k9_ald 76 (i := 0) rfl rfl dX0_init_75 rfl ?_
  refine k9_bipush 78 (v := 16) dX0_init_76 (by decide) rfl ?_
  refine k9_newa 80 (kd := 1) (ty := .int) (N' := 16) (a0 := (16, .inl fun _ => 0)) rfl aw_int rfl (fun _ => rfl) (by decide) (by decide +kernel) (Nat.le_of_ble_eq_true rfl) (Nat.le_of_ble_eq_true rfl) (Nat.le_of_ble_eq_true rfl) dX0_init_78 rfl (fun q10 => ?_)
  show Ck _ _ _ 80 [some (.ref h0)] [.ref q10, .ref h0] [(h0, .inr (0, [.int 0, .int 0, .int 0, .ref q1, .ref q2, .ref q3, .ref q4, .ref q5, .ref q6, .ref q7, .ref q8, .ref q9, .null, .null])), (q1, aI cs 1 4), (q2, aI cs 1 8), (q3, aI cs 1 8), (q4, aI cs 1 16), (q5, aI cs 1 16), (q6, aI cs 1 16), (q7, aI cs 1 16), (q8, aI cs 1 16), (q9, aI cs 2 16), (q10, aI cs 1 16)] 10 132
  refine k9_put 83 0 12 (C := RX0) (T := TX0) (N := 14) (ci := 0) rfl rfl inW0 tyX0 tyX0_ok nmX0 rfl (by decide) rfl (wt_at 65 (by decide +kernel) (by decide +kernel)) (tyX0_ok 12 (by decide)) rfl rfl rfl (Nat.le_of_ble_eq_true rfl) dX0_init_80 rfl ?_
  show Ck _ _ _ 83 [some (.ref h0)] [] [(h0, .inr (0, [.int 0, .int 0, .int 0, .ref q1, .ref q2, .ref q3, .ref q4, .ref q5, .ref q6, .ref q7, .ref q8, .ref q9, .ref q10, .null])), (q1, aI cs 1 4), (q2, aI cs 1 8), (q3, aI cs 1 8), (q4, aI cs 1 16), (q5, aI cs 1 16), (q6, aI cs 1 16), (q7, aI cs 1 16), (q8, aI cs 1 16), (q9, aI cs 2 16), (q10, aI cs 1 16)] 10 132
  refine k9_ald 84 (i := 0) rfl rfl dX0_init_83 rfl ?_
  refine k9_bipush 86 (v := 16) dX0_init_84 (by decide) rfl ?_
  refine k9_newa 88 (kd := 1) (ty := .int) (N' := 16) (a0 := (16, .inl fun _ => 0)) rfl aw_int rfl (fun _ => rfl) (by decide) (by decide +kernel) (Nat.le_of_ble_eq_true rfl) (Nat.le_of_ble_eq_true rfl) (Nat.le_of_ble_eq_true rfl) dX0_init_86 rfl (fun q11 => ?_)
  show Ck _ _ _ 88 [some (.ref h0)] [.ref q11, .ref h0] [(h0, .inr (0, [.int 0, .int 0, .int 0, .ref q1, .ref q2, .ref q3, .ref q4, .ref q5, .ref q6, .ref q7, .ref q8, .ref q9, .ref q10, .null])), (q1, aI cs 1 4), (q2, aI cs 1 8), (q3, aI cs 1 8), (q4, aI cs 1 16), (q5, aI cs 1 16), (q6, aI cs 1 16), (q7, aI cs 1 16), (q8, aI cs 1 16), (q9, aI cs 2 16), (q10, aI cs 1 16), (q11, aI cs 1 16)] 11 148
  refine k9_put 91 0 13 (C := RX0) (T := TX0) (N := 14) (ci := 0) rfl rfl inW0 tyX0 tyX0_ok nmX0 rfl (by decide) rfl (wt_at 68 (by decide +kernel) (by decide +kernel)) (tyX0_ok 13 (by decide)) rfl rfl rfl (Nat.le_of_ble_eq_true rfl) dX0_init_88 rfl ?_
  show Ck _ _ _ 91 [some (.ref h0)] [] [(h0, .inr (0, [.int 0, .int 0, .int 0, .ref q1, .ref q2, .ref q3, .ref q4, .ref q5, .ref q6, .ref q7, .ref q8, .ref q9, .ref q10, .ref q11])), (q1, aI cs 1 4), (q2, aI cs 1 8), (q3, aI cs 1 8), (q4, aI cs 1 16), (q5, aI cs 1 16), (q6, aI cs 1 16), (q7, aI cs 1 16), (q8, aI cs 1 16), (q9, aI cs 2 16), (q10, aI cs 1 16), (q11, aI cs 1 16)] 11 148
  exact k9_ret hE (fun j => [q1, q2, q3, q4, q5, q6, q7, q8, q9, q10, q11].getD j 0) [0, 1, 2, 3, 4, 5, 6, 7, 8, 9, 10, 11] (by decide) rfl rfl rfl dX0_init_91
abbrev yk1 : Yd := (RX1, yX1_init, cX1_init, 1, none, 1, 12)
def c1X1 (cs : Nat → ClassId) (h0 : Nat) (q : Nat → Nat) : va_W := [(h0, .inr (1, [.int 0, .int 0, .int 0, .int 0, .int 0, .ref (q 0), .ref (q 1), .ref (q 2)])), ((q 0), aI cs 1 97), ((q 1), aI cs 1 4), ((q 2), aI cs 1 96)]
set_option maxRecDepth 100000 in
set_option maxHeartbeats 4000000 in
theorem con_X1 (D : va_G) (cs : Nat → ClassId) (h0 : Nat) : Con yk1 (D, cs, 3, 197) [.ref h0] [(h0, .inr (1, [.int 0, .int 0, .int 0, .int 0, .int 0, .null, .null, .null]))] (c1X1 cs h0) := by
  refine Con.of (by decide) rfl rfl rfl (catL_ok rfl) (Nat.le_of_ble_eq_true rfl) rfl (fun b hE => ?_)
  refine k9_ald 1 (i := 0) rfl rfl dX1_init_0 rfl ?_
  refine k9_obj 4 rfl (wt_at 217 (by decide +kernel) (by decide +kernel)) ob_i ob_c ⟨by decide, by decide⟩ dX1_init_1 rfl ?_
  refine k9_ald 5 (i := 0) rfl rfl dX1_init_4 rfl ?_
  refine k9_bipush 7 (v := 97) dX1_init_5 (by decide) rfl ?_
  refine k9_newa 9 (kd := 1) (ty := .int) (N' := 97) (a0 := (97, .inl fun _ => 0)) rfl aw_int rfl (fun _ => rfl) (by decide) (by decide +kernel) (Nat.le_of_ble_eq_true rfl) (Nat.le_of_ble_eq_true rfl) (Nat.le_of_ble_eq_true rfl) dX1_init_7 rfl (fun q1 => ?_)
  show Ck _ _ _ 9 [some (.ref h0)] [.ref q1, .ref h0] [(h0, .inr (1, [.int 0, .int 0, .int 0, .int 0, .int 0, .null, .null, .null])), (q1, aI cs 1 97)] 1 97
  refine k9_put 12 0 5 (C := RX1) (T := TX1) (N := 8) (ci := 1) rfl rfl inW1 tyX1 tyX1_ok nmX1 rfl (by decide) rfl (wt_at 223 (by decide +kernel) (by decide +kernel)) (tyX1_ok 5 (by decide)) rfl rfl rfl (Nat.le_of_ble_eq_true rfl) dX1_init_9 rfl ?_
  show Ck _ _ _ 12 [some (.ref h0)] [] [(h0, .inr (1, [.int 0, .int 0, .int 0, .int 0, .int 0, .ref q1, .null, .null])), (q1, aI cs 1 97)] 1 97
  refine k9_ald 13 (i := 0) rfl rfl dX1_init_12 rfl ?_
  refine k9_iconst 14 (v := 4) dX1_init_13 (by decide) rfl ?_
  refine k9_newa 16 (kd := 1) (ty := .int) (N' := 4) (a0 := (4, .inl fun _ => 0)) rfl aw_int rfl (fun _ => rfl) (by decide) (by decide +kernel) (Nat.le_of_ble_eq_true rfl) (Nat.le_of_ble_eq_true rfl) (Nat.le_of_ble_eq_true rfl) dX1_init_14 rfl (fun q2 => ?_)
  show Ck _ _ _ 16 [some (.ref h0)] [.ref q2, .ref h0] [(h0, .inr (1, [.int 0, .int 0, .int 0, .int 0, .int 0, .ref q1, .null, .null])), (q1, aI cs 1 97), (q2, aI cs 1 4)] 2 101
  refine k9_put 19 0 6 (C := RX1) (T := TX1) (N := 8) (ci := 1) rfl rfl inW1 tyX1 tyX1_ok nmX1 rfl (by decide) rfl (wt_at 225 (by decide +kernel) (by decide +kernel)) (tyX1_ok 6 (by decide)) rfl rfl rfl (Nat.le_of_ble_eq_true rfl) dX1_init_16 rfl ?_
  show Ck _ _ _ 19 [some (.ref h0)] [] [(h0, .inr (1, [.int 0, .int 0, .int 0, .int 0, .int 0, .ref q1, .ref q2, .null])), (q1, aI cs 1 97), (q2, aI cs 1 4)] 2 101
  refine k9_ald 20 (i := 0) rfl rfl dX1_init_19 rfl ?_
  refine k9_bipush 22 (v := 96) dX1_init_20 (by decide) rfl ?_
  refine k9_newa 24 (kd := 1) (ty := .int) (N' := 96) (a0 := (96, .inl fun _ => 0)) rfl aw_int rfl (fun _ => rfl) (by decide) (by decide +kernel) (Nat.le_of_ble_eq_true rfl) (Nat.le_of_ble_eq_true rfl) (Nat.le_of_ble_eq_true rfl) dX1_init_22 rfl (fun q3 => ?_)
  show Ck _ _ _ 24 [some (.ref h0)] [.ref q3, .ref h0] [(h0, .inr (1, [.int 0, .int 0, .int 0, .int 0, .int 0, .ref q1, .ref q2, .null])), (q1, aI cs 1 97), (q2, aI cs 1 4), (q3, aI cs 1 96)] 3 197
  refine k9_put 27 0 7 (C := RX1) (T := TX1) (N := 8) (ci := 1) rfl rfl inW1 tyX1 tyX1_ok nmX1 rfl (by decide) rfl (wt_at 227 (by decide +kernel) (by decide +kernel)) (tyX1_ok 7 (by decide)) rfl rfl rfl (Nat.le_of_ble_eq_true rfl) dX1_init_24 rfl ?_
  show Ck _ _ _ 27 [some (.ref h0)] [] [(h0, .inr (1, [.int 0, .int 0, .int 0, .int 0, .int 0, .ref q1, .ref q2, .ref q3])), (q1, aI cs 1 97), (q2, aI cs 1 4), (q3, aI cs 1 96)] 3 197
  exact k9_ret hE (fun j => [q1, q2, q3].getD j 0) [0, 1, 2, 3] (by decide) rfl rfl rfl dX1_init_27
abbrev yk2 : Yd := (RX2, yX2_init, cX2_init, 1, none, 1, 12)
def c1X2 (cs : Nat → ClassId) (h0 : Nat) (q : Nat → Nat) : va_W := [(h0, .inr (2, [.int 0, .int 0, .int 96, .int 0, .int 1, .ref (q 0), .ref (q 1), .ref (q 2), .ref (q 3), .ref (q 4), .ref (q 5)])), ((q 0), aI cs 1 8), ((q 1), aI cs 1 8), ((q 2), aI cs 1 8), ((q 3), aI cs 1 8), ((q 4), aI cs 2 8), ((q 5), aI cs 2 8)]
set_option maxRecDepth 100000 in
set_option maxHeartbeats 4000000 in
theorem con_X2 (D : va_G) (cs : Nat → ClassId) (h0 : Nat) : Con yk2 (D, cs, 6, 48) [.ref h0] [(h0, .inr (2, [.int 0, .int 0, .int 0, .int 0, .int 0, .null, .null, .null, .null, .null, .null]))] (c1X2 cs h0) := by
  refine Con.of (by decide) rfl rfl rfl (catL_ok rfl) (Nat.le_of_ble_eq_true rfl) rfl (fun b hE => ?_)
  refine k9_ald 1 (i := 0) rfl rfl dX2_init_0 rfl ?_
  refine k9_obj 4 rfl (wt_at 149 (by decide +kernel) (by decide +kernel)) ob_i ob_c ⟨by decide, by decide⟩ dX2_init_1 rfl ?_
  refine k9_ald 5 (i := 0) rfl rfl dX2_init_4 rfl ?_
  refine k9_bipush 7 (v := 96) dX2_init_5 (by decide) rfl ?_
  refine k9_put 10 0 2 (C := RX2) (T := TX2) (N := 11) (ci := 2) rfl rfl inW2 tyX2 tyX2_ok nmX2 rfl (by decide) rfl (wt_at 156 (by decide +kernel) (by decide +kernel)) (tyX2_ok 2 (by decide)) rfl rfl rfl (Nat.le_of_ble_eq_true rfl) dX2_init_7 rfl ?_
  show Ck _ _ _ 10 [some (.ref h0)] [] [(h0, .inr (2, [.int 0, .int 0, .int 96, .int 0, .int 0, .null, .null, .null, .null, .null, .null]))] 0 0
  refine k9_ald 11 (i := 0) rfl rfl dX2_init_10 rfl ?_
  refine k9_iconst 12 (v := 1) dX2_init_11 (by decide) rfl ?_
  refine k9_put 15 0 4 (C := RX2) (T := TX2) (N := 11) (ci := 2) rfl rfl inW2 tyX2 tyX2_ok nmX2 rfl (by decide) rfl (wt_at 164 (by decide +kernel) (by decide +kernel)) (tyX2_ok 4 (by decide)) rfl rfl rfl (Nat.le_of_ble_eq_true rfl) dX2_init_12 rfl ?_
  show Ck _ _ _ 15 [some (.ref h0)] [] [(h0, .inr (2, [.int 0, .int 0, .int 96, .int 0, .int 1, .null, .null, .null, .null, .null, .null]))] 0 0
  refine k9_ald 16 (i := 0) rfl rfl dX2_init_15 rfl ?_
  refine k9_bipush 18 (v := 8) dX2_init_16 (by decide) rfl ?_
  refine k9_newa 20 (kd := 1) (ty := .int) (N' := 8) (a0 := (8, .inl fun _ => 0)) rfl aw_int rfl (fun _ => rfl) (by decide) (by decide +kernel) (Nat.le_of_ble_eq_true rfl) (Nat.le_of_ble_eq_true rfl) (Nat.le_of_ble_eq_true rfl) dX2_init_18 rfl (fun q1 => ?_)
  show Ck _ _ _ 20 [some (.ref h0)] [.ref q1, .ref h0] [(h0, .inr (2, [.int 0, .int 0, .int 96, .int 0, .int 1, .null, .null, .null, .null, .null, .null])), (q1, aI cs 1 8)] 1 8
  refine k9_put 23 0 5 (C := RX2) (T := TX2) (N := 11) (ci := 2) rfl rfl inW2 tyX2 tyX2_ok nmX2 rfl (by decide) rfl (wt_at 166 (by decide +kernel) (by decide +kernel)) (tyX2_ok 5 (by decide)) rfl rfl rfl (Nat.le_of_ble_eq_true rfl) dX2_init_20 rfl ?_
  show Ck _ _ _ 23 [some (.ref h0)] [] [(h0, .inr (2, [.int 0, .int 0, .int 96, .int 0, .int 1, .ref q1, .null, .null, .null, .null, .null])), (q1, aI cs 1 8)] 1 8
  refine k9_ald 24 (i := 0) rfl rfl dX2_init_23 rfl ?_
  refine k9_bipush 26 (v := 8) dX2_init_24 (by decide) rfl ?_
  refine k9_newa 28 (kd := 1) (ty := .int) (N' := 8) (a0 := (8, .inl fun _ => 0)) rfl aw_int rfl (fun _ => rfl) (by decide) (by decide +kernel) (Nat.le_of_ble_eq_true rfl) (Nat.le_of_ble_eq_true rfl) (Nat.le_of_ble_eq_true rfl) dX2_init_26 rfl (fun q2 => ?_)
  show Ck _ _ _ 28 [some (.ref h0)] [.ref q2, .ref h0] [(h0, .inr (2, [.int 0, .int 0, .int 96, .int 0, .int 1, .ref q1, .null, .null, .null, .null, .null])), (q1, aI cs 1 8), (q2, aI cs 1 8)] 2 16
  refine k9_put 31 0 6 (C := RX2) (T := TX2) (N := 11) (ci := 2) rfl rfl inW2 tyX2 tyX2_ok nmX2 rfl (by decide) rfl (wt_at 168 (by decide +kernel) (by decide +kernel)) (tyX2_ok 6 (by decide)) rfl rfl rfl (Nat.le_of_ble_eq_true rfl) dX2_init_28 rfl ?_
  show Ck _ _ _ 31 [some (.ref h0)] [] [(h0, .inr (2, [.int 0, .int 0, .int 96, .int 0, .int 1, .ref q1, .ref q2, .null, .null, .null, .null])), (q1, aI cs 1 8), (q2, aI cs 1 8)] 2 16
  refine k9_ald 32 (i := 0) rfl rfl dX2_init_31 rfl ?_
  refine k9_bipush 34 (v := 8) dX2_init_32 (by decide) rfl ?_
  refine k9_newa 36 (kd := 1) (ty := .int) (N' := 8) (a0 := (8, .inl fun _ => 0)) rfl aw_int rfl (fun _ => rfl) (by decide) (by decide +kernel) (Nat.le_of_ble_eq_true rfl) (Nat.le_of_ble_eq_true rfl) (Nat.le_of_ble_eq_true rfl) dX2_init_34 rfl (fun q3 => ?_)
  show Ck _ _ _ 36 [some (.ref h0)] [.ref q3, .ref h0] [(h0, .inr (2, [.int 0, .int 0, .int 96, .int 0, .int 1, .ref q1, .ref q2, .null, .null, .null, .null])), (q1, aI cs 1 8), (q2, aI cs 1 8), (q3, aI cs 1 8)] 3 24
  refine k9_put 39 0 7 (C := RX2) (T := TX2) (N := 11) (ci := 2) rfl rfl inW2 tyX2 tyX2_ok nmX2 rfl (by decide) rfl (wt_at 172 (by decide +kernel) (by decide +kernel)) (tyX2_ok 7 (by decide)) rfl rfl rfl (Nat.le_of_ble_eq_true rfl) dX2_init_36 rfl ?_
  show Ck _ _ _ 39 [some (.ref h0)] [] [(h0, .inr (2, [.int 0, .int 0, .int 96, .int 0, .int 1, .ref q1, .ref q2, .ref q3, .null, .null, .null])), (q1, aI cs 1 8), (q2, aI cs 1 8), (q3, aI cs 1 8)] 3 24
  refine k9_ald 40 (i := 0) rfl rfl dX2_init_39 rfl ?_
  refine k9_bipush 42 (v := 8) dX2_init_40 (by decide) rfl ?_
  refine k9_newa 44 (kd := 1) (ty := .int) (N' := 8) (a0 := (8, .inl fun _ => 0)) rfl aw_int rfl (fun _ => rfl) (by decide) (by decide +kernel) (Nat.le_of_ble_eq_true rfl) (Nat.le_of_ble_eq_true rfl) (Nat.le_of_ble_eq_true rfl) dX2_init_42 rfl (fun q4 => ?_)
  show Ck _ _ _ 44 [some (.ref h0)] [.ref q4, .ref h0] [(h0, .inr (2, [.int 0, .int 0, .int 96, .int 0, .int 1, .ref q1, .ref q2, .ref q3, .null, .null, .null])), (q1, aI cs 1 8), (q2, aI cs 1 8), (q3, aI cs 1 8), (q4, aI cs 1 8)] 4 32
  refine k9_put 47 0 8 (C := RX2) (T := TX2) (N := 11) (ci := 2) rfl rfl inW2 tyX2 tyX2_ok nmX2 rfl (by decide) rfl (wt_at 176 (by decide +kernel) (by decide +kernel)) (tyX2_ok 8 (by decide)) rfl rfl rfl (Nat.le_of_ble_eq_true rfl) dX2_init_44 rfl ?_
  show Ck _ _ _ 47 [some (.ref h0)] [] [(h0, .inr (2, [.int 0, .int 0, .int 96, .int 0, .int 1, .ref q1, .ref q2, .ref q3, .ref q4, .null, .null])), (q1, aI cs 1 8), (q2, aI cs 1 8), (q3, aI cs 1 8), (q4, aI cs 1 8)] 4 32
  refine k9_ald 48 (i := 0) rfl rfl dX2_init_47 rfl ?_
  refine k9_bipush 50 (v := 8) dX2_init_48 (by decide) rfl ?_
  refine k9_newa 52 (kd := 2) (ty := .boolean) (N' := 8) (a0 := (8, .inl fun _ => 0)) rfl aw_boolean rfl (fun _ => rfl) (by decide) (by decide +kernel) (Nat.le_of_ble_eq_true rfl) (Nat.le_of_ble_eq_true rfl) (Nat.le_of_ble_eq_true rfl) dX2_init_50 rfl (fun q5 => ?_)
  show Ck _ _ _ 52 [some (.ref h0)] [.ref q5, .ref h0] [(h0, .inr (2, [.int 0, .int 0, .int 96, .int 0, .int 1, .ref q1, .ref q2, .ref q3, .ref q4, .null, .null])), (q1, aI cs 1 8), (q2, aI cs 1 8), (q3, aI cs 1 8), (q4, aI cs 1 8), (q5, aI cs 2 8)] 5 40
  refine k9_put 55 0 9 (C := RX2) (T := TX2) (N := 11) (ci := 2) rfl rfl inW2 tyX2 tyX2_ok nmX2 rfl (by decide) rfl (wt_at 180 (by decide +kernel) (by decide +kernel)) (tyX2_ok 9 (by decide)) rfl rfl rfl (Nat.le_of_ble_eq_true rfl) dX2_init_52 rfl ?_
  show Ck _ _ _ 55 [some (.ref h0)] [] [(h0, .inr (2, [.int 0, .int 0, .int 96, .int 0, .int 1, .ref q1, .ref q2, .ref q3, .ref q4, .ref q5, .null])), (q1, aI cs 1 8), (q2, aI cs 1 8), (q3, aI cs 1 8), (q4, aI cs 1 8), (q5, aI cs 2 8)] 5 40
  refine k9_ald 56 (i := 0) rfl rfl dX2_init_55 rfl ?_
  refine k9_bipush 58 (v := 8) dX2_init_56 (by decide) rfl ?_
  refine k9_newa 60 (kd := 2) (ty := .boolean) (N' := 8) (a0 := (8, .inl fun _ => 0)) rfl aw_boolean rfl (fun _ => rfl) (by decide) (by decide +kernel) (Nat.le_of_ble_eq_true rfl) (Nat.le_of_ble_eq_true rfl) (Nat.le_of_ble_eq_true rfl) dX2_init_58 rfl (fun q6 => ?_)
  show Ck _ _ _ 60 [some (.ref h0)] [.ref q6, .ref h0] [(h0, .inr (2, [.int 0, .int 0, .int 96, .int 0, .int 1, .ref q1, .ref q2, .ref q3, .ref q4, .ref q5, .null])), (q1, aI cs 1 8), (q2, aI cs 1 8), (q3, aI cs 1 8), (q4, aI cs 1 8), (q5, aI cs 2 8), (q6, aI cs 2 8)] 6 48
  refine k9_put 63 0 10 (C := RX2) (T := TX2) (N := 11) (ci := 2) rfl rfl inW2 tyX2 tyX2_ok nmX2 rfl (by decide) rfl (wt_at 182 (by decide +kernel) (by decide +kernel)) (tyX2_ok 10 (by decide)) rfl rfl rfl (Nat.le_of_ble_eq_true rfl) dX2_init_60 rfl ?_
  show Ck _ _ _ 63 [some (.ref h0)] [] [(h0, .inr (2, [.int 0, .int 0, .int 96, .int 0, .int 1, .ref q1, .ref q2, .ref q3, .ref q4, .ref q5, .ref q6])), (q1, aI cs 1 8), (q2, aI cs 1 8), (q3, aI cs 1 8), (q4, aI cs 1 8), (q5, aI cs 2 8), (q6, aI cs 2 8)] 6 48
  exact k9_ret hE (fun j => [q1, q2, q3, q4, q5, q6].getD j 0) [0, 1, 2, 3, 4, 5, 6] (by decide) rfl rfl rfl dX2_init_63
abbrev yk3 : Yd := (RX3, yX3_init, cX3_init, 3, none, 1, 12)
def c1X3 (cs : Nat → ClassId) (h0 h1 h2 : Nat) (q : Nat → Nat) : va_W := [(h0, .inr (3, [.ref h1, .ref h2, .ref (q 0), .ref (q 1), .int 0, .int 0, .int 0, .int 0, .int 0, .long 0])), ((q 0), aL cs 4), ((q 1), aL cs 8)]
set_option maxRecDepth 100000 in
set_option maxHeartbeats 4000000 in
theorem con_X3 (D : va_G) (cs : Nat → ClassId) (h0 h1 h2 : Nat) : Con yk3 (D, cs, 2, 12) [.ref h0, .ref h1, .ref h2] [(h0, .inr (3, [.null, .null, .null, .null, .int 0, .int 0, .int 0, .int 0, .int 0, .long 0]))] (c1X3 cs h0 h1 h2) := by
  refine Con.of (by decide) rfl rfl rfl (catL_ok rfl) (Nat.le_of_ble_eq_true rfl) rfl (fun b hE => ?_)
  refine k9_ald 1 (i := 0) rfl rfl dX3_init_0 rfl ?_
  refine k9_obj 4 rfl (wt_at 108 (by decide +kernel) (by decide +kernel)) ob_i ob_c ⟨by decide, by decide⟩ dX3_init_1 rfl ?_
  refine k9_ald 5 (i := 0) rfl rfl dX3_init_4 rfl ?_
  refine k9_iconst 6 (v := 4) dX3_init_5 (by decide) rfl ?_
  refine k9_newa 8 (kd := 4) (ty := .long) (N' := 4) (a0 := (4, .inr (.inl fun _ => 0))) rfl aw_long rfl (fun _ => rfl) (by decide) (by decide +kernel) (Nat.le_of_ble_eq_true rfl) (Nat.le_of_ble_eq_true rfl) (Nat.le_of_ble_eq_true rfl) dX3_init_6 rfl (fun q1 => ?_)
  show Ck _ _ _ 8 [some (.ref h0), some (.ref h1), some (.ref h2)] [.ref q1, .ref h0] [(h0, .inr (3, [.null, .null, .null, .null, .int 0, .int 0, .int 0, .int 0, .int 0, .long 0])), (q1, aL cs 4)] 1 4
  refine k9_put 11 0 2 (C := RX3) (T := TX3) (N := 10) (ci := 3) rfl rfl inW3 tyX3 tyX3_ok nmX3 rfl (by decide) rfl (wt_at 111 (by decide +kernel) (by decide +kernel)) (tyX3_ok 2 (by decide)) rfl rfl rfl (Nat.le_of_ble_eq_true rfl) dX3_init_8 rfl ?_
  show Ck _ _ _ 11 [some (.ref h0), some (.ref h1), some (.ref h2)] [] [(h0, .inr (3, [.null, .null, .ref q1, .null, .int 0, .int 0, .int 0, .int 0, .int 0, .long 0])), (q1, aL cs 4)] 1 4
  refine k9_ald 12 (i := 0) rfl rfl dX3_init_11 rfl ?_
  refine k9_bipush 14 (v := 8) dX3_init_12 (by decide) rfl ?_
  refine k9_newa 16 (kd := 4) (ty := .long) (N' := 8) (a0 := (8, .inr (.inl fun _ => 0))) rfl aw_long rfl (fun _ => rfl) (by decide) (by decide +kernel) (Nat.le_of_ble_eq_true rfl) (Nat.le_of_ble_eq_true rfl) (Nat.le_of_ble_eq_true rfl) dX3_init_14 rfl (fun q2 => ?_)
  show Ck _ _ _ 16 [some (.ref h0), some (.ref h1), some (.ref h2)] [.ref q2, .ref h0] [(h0, .inr (3, [.null, .null, .ref q1, .null, .int 0, .int 0, .int 0, .int 0, .int 0, .long 0])), (q1, aL cs 4), (q2, aL cs 8)] 2 12
  refine k9_put 19 0 3 (C := RX3) (T := TX3) (N := 10) (ci := 3) rfl rfl inW3 tyX3 tyX3_ok nmX3 rfl (by decide) rfl (wt_at 112 (by decide +kernel) (by decide +kernel)) (tyX3_ok 3 (by decide)) rfl rfl rfl (Nat.le_of_ble_eq_true rfl) dX3_init_16 rfl ?_
  show Ck _ _ _ 19 [some (.ref h0), some (.ref h1), some (.ref h2)] [] [(h0, .inr (3, [.null, .null, .ref q1, .ref q2, .int 0, .int 0, .int 0, .int 0, .int 0, .long 0])), (q1, aL cs 4), (q2, aL cs 8)] 2 12
  refine k9_ald 20 (i := 0) rfl rfl dX3_init_19 rfl ?_
  refine k9_ald 21 (i := 1) rfl rfl dX3_init_20 rfl ?_
  refine k9_put 24 0 0 (C := RX3) (T := TX3) (N := 10) (ci := 3) rfl rfl inW3 tyX3 tyX3_ok nmX3 rfl (by decide) rfl (wt_at 109 (by decide +kernel) (by decide +kernel)) (tyX3_ok 0 (by decide)) rfl rfl rfl (Nat.le_of_ble_eq_true rfl) dX3_init_21 rfl ?_
  show Ck _ _ _ 24 [some (.ref h0), some (.ref h1), some (.ref h2)] [] [(h0, .inr (3, [.ref h1, .null, .ref q1, .ref q2, .int 0, .int 0, .int 0, .int 0, .int 0, .long 0])), (q1, aL cs 4), (q2, aL cs 8)] 2 12
  refine k9_ald 25 (i := 0) rfl rfl dX3_init_24 rfl ?_
  refine k9_ald 26 (i := 2) rfl rfl dX3_init_25 rfl ?_
  refine k9_put 29 0 1 (C := RX3) (T := TX3) (N := 10) (ci := 3) rfl rfl inW3 tyX3 tyX3_ok nmX3 rfl (by decide) rfl (wt_at 110 (by decide +kernel) (by decide +kernel)) (tyX3_ok 1 (by decide)) rfl rfl rfl (Nat.le_of_ble_eq_true rfl) dX3_init_26 rfl ?_
  show Ck _ _ _ 29 [some (.ref h0), some (.ref h1), some (.ref h2)] [] [(h0, .inr (3, [.ref h1, .ref h2, .ref q1, .ref q2, .int 0, .int 0, .int 0, .int 0, .int 0, .long 0])), (q1, aL cs 4), (q2, aL cs 8)] 2 12
  exact k9_ret hE (fun j => [q1, q2].getD j 0) [0, 1, 2] (by decide) rfl rfl rfl dX3_init_29
