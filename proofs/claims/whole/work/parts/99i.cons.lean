abbrev yk4 : Yd := (RX4, yX4_init, cX4_init, 4, none, 2, 32)
def c1X4 (cs : Nat → ClassId) (h0 h1 h2 h3 : Nat) (q : Nat → Nat) : va_W := [(h0, .inr (4, [.ref h2, .ref h1, .ref h3, .ref (q 0), .ref (q 4), .ref (q 5), .ref (q 6), .ref (q 7), .int 0, .int 0, .int 0, .int 0, .int 0])), ((q 0), .inr (1, [.int 0, .int 0, .int 0, .int 0, .int 0, .ref (q 1), .ref (q 2), .ref (q 3)])), ((q 1), aI cs 1 97), ((q 2), aI cs 1 4), ((q 3), aI cs 1 96), ((q 4), aI cs 1 256), ((q 5), aI cs 1 97), ((q 6), aI cs 1 6), ((q 7), aI cs 1 2)]
set_option maxRecDepth 100000 in
set_option maxHeartbeats 4000000 in
theorem con_X4 (D : va_G) (cs : Nat → ClassId) (h0 h1 h2 h3 : Nat) : Con yk4 (D, cs, 8, 566) [.ref h0, .ref h1, .ref h2, .ref h3] [(h0, .inr (4, [.null, .null, .null, .null, .null, .null, .null, .null, .int 0, .int 0, .int 0, .int 0, .int 0]))] (c1X4 cs h0 h1 h2 h3) := by
  refine Con.of (by decide) rfl rfl rfl (catL_ok rfl) (Nat.le_of_ble_eq_true rfl) rfl (fun b hE => ?_)
  refine k9_ald 1 (i := 0) rfl rfl dX4_init_0 rfl ?_
  refine k9_obj 4 rfl (wt_at 211 (by decide +kernel) (by decide +kernel)) ob_i ob_c ⟨by decide, by decide⟩ dX4_init_1 rfl ?_
  refine k9_ald 5 (i := 0) rfl rfl dX4_init_4 rfl ?_
  refine k9_new 8 (C := RX1) (T := TX1) (N := 8) (ci := 1) (fs := [.int 0, .int 0, .int 0, .int 0, .int 0, .null, .null, .null]) rfl inW1 tyX1 tyX1_ok (wt_at 212 (by decide +kernel) (by decide +kernel)) (wt_at 213 (by decide +kernel) (by decide +kernel)) (wt_at 6 (by decide +kernel) (by decide +kernel)) rfl (by decide +kernel) (Nat.le_of_ble_eq_true rfl) (Nat.le_of_ble_eq_true rfl) dX4_init_5 rfl (fun q1 => ?_)
  show Ck _ _ _ 8 [some (.ref h0), some (.ref h1), some (.ref h2), some (.ref h3)] [.ref q1, .ref h0] [(h0, .inr (4, [.null, .null, .null, .null, .null, .null, .null, .null, .int 0, .int 0, .int 0, .int 0, .int 0])), (q1, .inr (1, [.int 0, .int 0, .int 0, .int 0, .int 0, .null, .null, .null]))] 1 8
  refine k9_dup 9 dX4_init_8 rfl rfl ?_
  refine k9_call 12 (z := yk1) (As := []) (rest := [.ref q1, .ref h0]) (wc := [(q1, .inr (1, [.int 0, .int 0, .int 0, .int 0, .int 0, .null, .null, .null]))]) (wr := [(h0, .inr (4, [.null, .null, .null, .null, .null, .null, .null, .null, .int 0, .int 0, .int 0, .int 0, .int 0]))]) (w1 := c1X1 cs q1) (mc := 3) (ms := 197) [1] [0] rfl (Or.inr ⟨RX6, fun _ h => h.2.2.2⟩) (wt_at 215 (by decide +kernel) (by decide +kernel)) (wt_at 6 (by decide +kernel) (by decide +kernel)) (wt_at 216 (by decide +kernel) (by decide +kernel)) ⟨by decide +kernel, by decide +kernel, by decide +kernel⟩ rfl rfl ⟨by decide, by decide⟩ (con_X1 D cs q1) (Nat.le_of_ble_eq_true rfl) rfl (by decide) rfl (by decide) (by decide) (Nat.le_of_ble_eq_true rfl) (Nat.le_of_ble_eq_true rfl) dX4_init_9 rfl (fun u2 => ?_)
  show Ck _ _ _ 12 [some (.ref h0), some (.ref h1), some (.ref h2), some (.ref h3)] [.ref q1, .ref h0] [(h0, .inr (4, [.null, .null, .null, .null, .null, .null, .null, .null, .int 0, .int 0, .int 0, .int 0, .int 0])), (q1, .inr (1, [.int 0, .int 0, .int 0, .int 0, .int 0, .ref (u2 0), .ref (u2 1), .ref (u2 2)])), ((u2 0), aI cs 1 97), ((u2 1), aI cs 1 4), ((u2 2), aI cs 1 96)] 4 205
  refine k9_put 15 0 3 (C := RX4) (T := TX4) (N := 13) (ci := 4) rfl rfl inW4 tyX4 tyX4_ok nmX4 rfl (by decide) rfl (wt_at 250 (by decide +kernel) (by decide +kernel)) (tyX4_ok 3 (by decide)) rfl rfl rfl (Nat.le_of_ble_eq_true rfl) dX4_init_12 rfl ?_
  show Ck _ _ _ 15 [some (.ref h0), some (.ref h1), some (.ref h2), some (.ref h3)] [] [(h0, .inr (4, [.null, .null, .null, .ref q1, .null, .null, .null, .null, .int 0, .int 0, .int 0, .int 0, .int 0])), (q1, .inr (1, [.int 0, .int 0, .int 0, .int 0, .int 0, .ref (u2 0), .ref (u2 1), .ref (u2 2)])), ((u2 0), aI cs 1 97), ((u2 1), aI cs 1 4), ((u2 2), aI cs 1 96)] 4 205
  refine k9_ald 16 (i := 0) rfl rfl dX4_init_15 rfl ?_
  refine k9_sipush 19 (v := 256) dX4_init_16 (by decide) rfl ?_
  refine k9_newa 21 (kd := 1) (ty := .int) (N' := 256) (a0 := (256, .inl fun _ => 0)) rfl aw_int rfl (fun _ => rfl) (by decide) (by decide +kernel) (Nat.le_of_ble_eq_true rfl) (Nat.le_of_ble_eq_true rfl) (Nat.le_of_ble_eq_true rfl) dX4_init_19 rfl (fun q3 => ?_)
  show Ck _ _ _ 21 [some (.ref h0), some (.ref h1), some (.ref h2), some (.ref h3)] [.ref q3, .ref h0] [(h0, .inr (4, [.null, .null, .null, .ref q1, .null, .null, .null, .null, .int 0, .int 0, .int 0, .int 0, .int 0])), (q1, .inr (1, [.int 0, .int 0, .int 0, .int 0, .int 0, .ref (u2 0), .ref (u2 1), .ref (u2 2)])), ((u2 0), aI cs 1 97), ((u2 1), aI cs 1 4), ((u2 2), aI cs 1 96), (q3, aI cs 1 256)] 5 461
  refine k9_put 24 0 4 (C := RX4) (T := TX4) (N := 13) (ci := 4) rfl rfl inW4 tyX4 tyX4_ok nmX4 rfl (by decide) rfl (wt_at 251 (by decide +kernel) (by decide +kernel)) (tyX4_ok 4 (by decide)) rfl rfl rfl (Nat.le_of_ble_eq_true rfl) dX4_init_21 rfl ?_
  show Ck _ _ _ 24 [some (.ref h0), some (.ref h1), some (.ref h2), some (.ref h3)] [] [(h0, .inr (4, [.null, .null, .null, .ref q1, .ref q3, .null, .null, .null, .int 0, .int 0, .int 0, .int 0, .int 0])), (q1, .inr (1, [.int 0, .int 0, .int 0, .int 0, .int 0, .ref (u2 0), .ref (u2 1), .ref (u2 2)])), ((u2 0), aI cs 1 97), ((u2 1), aI cs 1 4), ((u2 2), aI cs 1 96), (q3, aI cs 1 256)] 5 461
  refine k9_ald 25 (i := 0) rfl rfl dX4_init_24 rfl ?_
  refine k9_bipush 27 (v := 97) dX4_init_25 (by decide) rfl ?_
  refine k9_newa 29 (kd := 1) (ty := .int) (N' := 97) (a0 := (97, .inl fun _ => 0)) rfl aw_int rfl (fun _ => rfl) (by decide) (by decide +kernel) (Nat.le_of_ble_eq_true rfl) (Nat.le_of_ble_eq_true rfl) (Nat.le_of_ble_eq_true rfl) dX4_init_27 rfl (fun q4 => ?_)
  show Ck _ _ _ 29 [some (.ref h0), some (.ref h1), some (.ref h2), some (.ref h3)] [.ref q4, .ref h0] [(h0, .inr (4, [.null, .null, .null, .ref q1, .ref q3, .null, .null, .null, .int 0, .int 0, .int 0, .int 0, .int 0])), (q1, .inr (1, [.int 0, .int 0, .int 0, .int 0, .int 0, .ref (u2 0), .ref (u2 1), .ref (u2 2)])), ((u2 0), aI cs 1 97), ((u2 1), aI cs 1 4), ((u2 2), aI cs 1 96), (q3, aI cs 1 256), (q4, aI cs 1 97)] 6 558
  refine k9_put 32 0 5 (C := RX4) (T := TX4) (N := 13) (ci := 4) rfl rfl inW4 tyX4 tyX4_ok nmX4 rfl (by decide) rfl (wt_at 252 (by decide +kernel) (by decide +kernel)) (tyX4_ok 5 (by decide)) rfl rfl rfl (Nat.le_of_ble_eq_true rfl) dX4_init_29 rfl ?_
  show Ck _ _ _ 32 [some (.ref h0), some (.ref h1), some (.ref h2), some (.ref h3)] [] [(h0, .inr (4, [.null, .null, .null, .ref q1, .ref q3, .ref q4, .null, .null, .int 0, .int 0, .int 0, .int 0, .int 0])), (q1, .inr (1, [.int 0, .int 0, .int 0, .int 0, .int 0, .ref (u2 0), .ref (u2 1), .ref (u2 2)])), ((u2 0), aI cs 1 97), ((u2 1), aI cs 1 4), ((u2 2), aI cs 1 96), (q3, aI cs 1 256), (q4, aI cs 1 97)] 6 558
  refine k9_ald 33 (i := 0) rfl rfl dX4_init_32 rfl ?_
  refine k9_bipush 35 (v := 6) dX4_init_33 (by decide) rfl ?_
  refine k9_newa 37 (kd := 1) (ty := .int) (N' := 6) (a0 := (6, .inl fun _ => 0)) rfl aw_int rfl (fun _ => rfl) (by decide) (by decide +kernel) (Nat.le_of_ble_eq_true rfl) (Nat.le_of_ble_eq_true rfl) (Nat.le_of_ble_eq_true rfl) dX4_init_35 rfl (fun q5 => ?_)
  show Ck _ _ _ 37 [some (.ref h0), some (.ref h1), some (.ref h2), some (.ref h3)] [.ref q5, .ref h0] [(h0, .inr (4, [.null, .null, .null, .ref q1, .ref q3, .ref q4, .null, .null, .int 0, .int 0, .int 0, .int 0, .int 0])), (q1, .inr (1, [.int 0, .int 0, .int 0, .int 0, .int 0, .ref (u2 0), .ref (u2 1), .ref (u2 2)])), ((u2 0), aI cs 1 97), ((u2 1), aI cs 1 4), ((u2 2), aI cs 1 96), (q3, aI cs 1 256), (q4, aI cs 1 97), (q5, aI cs 1 6)] 7 564
  refine k9_put 40 0 6 (C := RX4) (T := TX4) (N := 13) (ci := 4) rfl rfl inW4 tyX4 tyX4_ok nmX4 rfl (by decide) rfl (wt_at 253 (by decide +kernel) (by decide +kernel)) (tyX4_ok 6 (by decide)) rfl rfl rfl (Nat.le_of_ble_eq_true rfl) dX4_init_37 rfl ?_
  show Ck _ _ _ 40 [some (.ref h0), some (.ref h1), some (.ref h2), some (.ref h3)] [] [(h0, .inr (4, [.null, .null, .null, .ref q1, .ref q3, .ref q4, .ref q5, .null, .int 0, .int 0, .int 0, .int 0, .int 0])), (q1, .inr (1, [.int 0, .int 0, .int 0, .int 0, .int 0, .ref (u2 0), .ref (u2 1), .ref (u2 2)])), ((u2 0), aI cs 1 97), ((u2 1), aI cs 1 4), ((u2 2), aI cs 1 96), (q3, aI cs 1 256), (q4, aI cs 1 97), (q5, aI cs 1 6)] 7 564
  refine k9_ald 41 (i := 0) rfl rfl dX4_init_40 rfl ?_
  refine k9_iconst 42 (v := 2) dX4_init_41 (by decide) rfl ?_
  refine k9_newa 44 (kd := 1) (ty := .int) (N' := 2) (a0 := (2, .inl fun _ => 0)) rfl aw_int rfl (fun _ => rfl) (by decide) (by decide +kernel) (Nat.le_of_ble_eq_true rfl) (Nat.le_of_ble_eq_true rfl) (Nat.le_of_ble_eq_true rfl) dX4_init_42 rfl (fun q6 => ?_)
  show Ck _ _ _ 44 [some (.ref h0), some (.ref h1), some (.ref h2), some (.ref h3)] [.ref q6, .ref h0] [(h0, .inr (4, [.null, .null, .null, .ref q1, .ref q3, .ref q4, .ref q5, .null, .int 0, .int 0, .int 0, .int 0, .int 0])), (q1, .inr (1, [.int 0, .int 0, .int 0, .int 0, .int 0, .ref (u2 0), .ref (u2 1), .ref (u2 2)])), ((u2 0), aI cs 1 97), ((u2 1), aI cs 1 4), ((u2 2), aI cs 1 96), (q3, aI cs 1 256), (q4, aI cs 1 97), (q5, aI cs 1 6), (q6, aI cs 1 2)] 8 566
  refine k9_put 47 0 7 (C := RX4) (T := TX4) (N := 13) (ci := 4) rfl rfl inW4 tyX4 tyX4_ok nmX4 rfl (by decide) rfl (wt_at 254 (by decide +kernel) (by decide +kernel)) (tyX4_ok 7 (by decide)) rfl rfl rfl (Nat.le_of_ble_eq_true rfl) dX4_init_44 rfl ?_
  show Ck _ _ _ 47 [some (.ref h0), some (.ref h1), some (.ref h2), some (.ref h3)] [] [(h0, .inr (4, [.null, .null, .null, .ref q1, .ref q3, .ref q4, .ref q5, .ref q6, .int 0, .int 0, .int 0, .int 0, .int 0])), (q1, .inr (1, [.int 0, .int 0, .int 0, .int 0, .int 0, .ref (u2 0), .ref (u2 1), .ref (u2 2)])), ((u2 0), aI cs 1 97), ((u2 1), aI cs 1 4), ((u2 2), aI cs 1 96), (q3, aI cs 1 256), (q4, aI cs 1 97), (q5, aI cs 1 6), (q6, aI cs 1 2)] 8 566
  refine k9_ald 48 (i := 0) rfl rfl dX4_init_47 rfl ?_
  refine k9_ald 49 (i := 1) rfl rfl dX4_init_48 rfl ?_
  refine k9_put 52 0 1 (C := RX4) (T := TX4) (N := 13) (ci := 4) rfl rfl inW4 tyX4 tyX4_ok nmX4 rfl (by decide) rfl (wt_at 248 (by decide +kernel) (by decide +kernel)) (tyX4_ok 1 (by decide)) rfl rfl rfl (Nat.le_of_ble_eq_true rfl) dX4_init_49 rfl ?_
  show Ck _ _ _ 52 [some (.ref h0), some (.ref h1), some (.ref h2), some (.ref h3)] [] [(h0, .inr (4, [.null, .ref h1, .null, .ref q1, .ref q3, .ref q4, .ref q5, .ref q6, .int 0, .int 0, .int 0, .int 0, .int 0])), (q1, .inr (1, [.int 0, .int 0, .int 0, .int 0, .int 0, .ref (u2 0), .ref (u2 1), .ref (u2 2)])), ((u2 0), aI cs 1 97), ((u2 1), aI cs 1 4), ((u2 2), aI cs 1 96), (q3, aI cs 1 256), (q4, aI cs 1 97), (q5, aI cs 1 6), (q6, aI cs 1 2)] 8 566
  refine k9_ald 53 (i := 0) rfl rfl dX4_init_52 rfl ?_
  refine k9_ald 54 (i := 2) rfl rfl dX4_init_53 rfl ?_
  refine k9_put 57 0 0 (C := RX4) (T := TX4) (N := 13) (ci := 4) rfl rfl inW4 tyX4 tyX4_ok nmX4 rfl (by decide) rfl (wt_at 246 (by decide +kernel) (by decide +kernel)) (tyX4_ok 0 (by decide)) rfl rfl rfl (Nat.le_of_ble_eq_true rfl) dX4_init_54 rfl ?_
  show Ck _ _ _ 57 [some (.ref h0), some (.ref h1), some (.ref h2), some (.ref h3)] [] [(h0, .inr (4, [.ref h2, .ref h1, .null, .ref q1, .ref q3, .ref q4, .ref q5, .ref q6, .int 0, .int 0, .int 0, .int 0, .int 0])), (q1, .inr (1, [.int 0, .int 0, .int 0, .int 0, .int 0, .ref (u2 0), .ref (u2 1), .ref (u2 2)])), ((u2 0), aI cs 1 97), ((u2 1), aI cs 1 4), ((u2 2), aI cs 1 96), (q3, aI cs 1 256), (q4, aI cs 1 97), (q5, aI cs 1 6), (q6, aI cs 1 2)] 8 566
  refine k9_ald 58 (i := 0) rfl rfl dX4_init_57 rfl ?_
  refine k9_ald 59 (i := 3) rfl rfl dX4_init_58 rfl ?_
  refine k9_put 62 0 2 (C := RX4) (T := TX4) (N := 13) (ci := 4) rfl rfl inW4 tyX4 tyX4_ok nmX4 rfl (by decide) rfl (wt_at 249 (by decide +kernel) (by decide +kernel)) (tyX4_ok 2 (by decide)) rfl rfl rfl (Nat.le_of_ble_eq_true rfl) dX4_init_59 rfl ?_
  show Ck _ _ _ 62 [some (.ref h0), some (.ref h1), some (.ref h2), some (.ref h3)] [] [(h0, .inr (4, [.ref h2, .ref h1, .ref h3, .ref q1, .ref q3, .ref q4, .ref q5, .ref q6, .int 0, .int 0, .int 0, .int 0, .int 0])), (q1, .inr (1, [.int 0, .int 0, .int 0, .int 0, .int 0, .ref (u2 0), .ref (u2 1), .ref (u2 2)])), ((u2 0), aI cs 1 97), ((u2 1), aI cs 1 4), ((u2 2), aI cs 1 96), (q3, aI cs 1 256), (q4, aI cs 1 97), (q5, aI cs 1 6), (q6, aI cs 1 2)] 8 566
  exact k9_ret hE (fun j => [q1, (u2 0), (u2 1), (u2 2), q3, q4, q5, q6].getD j 0) [0, 1, 2, 3, 4, 5, 6, 7, 8] (by decide) rfl rfl rfl dX4_init_62
abbrev yk5 : Yd := (RX5, yX5_init, cX5_init, 2, none, 1, 12)
def c1X5 (cs : Nat → ClassId) (h0 h1 : Nat) (q : Nat → Nat) : va_W := [(h0, .inr (5, [.int 0, .ref h1, .ref (q 0), .ref (q 1), .ref (q 2), .ref (q 3)])), ((q 0), aI cs 1 20), ((q 1), aI cs 1 20), ((q 2), aI cs 1 97), ((q 3), aI cs 2 97)]
set_option maxRecDepth 100000 in
set_option maxHeartbeats 4000000 in
theorem con_X5 (D : va_G) (cs : Nat → ClassId) (h0 h1 : Nat) : Con yk5 (D, cs, 4, 234) [.ref h0, .ref h1] [(h0, .inr (5, [.int 0, .null, .null, .null, .null, .null]))] (c1X5 cs h0 h1) := by
  refine Con.of (by decide) rfl rfl rfl (catL_ok rfl) (Nat.le_of_ble_eq_true rfl) rfl (fun b hE => ?_)
  refine k9_ald 1 (i := 0) rfl rfl dX5_init_0 rfl ?_
  refine k9_obj 4 rfl (wt_at 292 (by decide +kernel) (by decide +kernel)) ob_i ob_c ⟨by decide, by decide⟩ dX5_init_1 rfl ?_
  refine k9_ald 5 (i := 0) rfl rfl dX5_init_4 rfl ?_
  refine k9_bipush 7 (v := 20) dX5_init_5 (by decide) rfl ?_
  refine k9_newa 9 (kd := 1) (ty := .int) (N' := 20) (a0 := (20, .inl fun _ => 0)) rfl aw_int rfl (fun _ => rfl) (by decide) (by decide +kernel) (Nat.le_of_ble_eq_true rfl) (Nat.le_of_ble_eq_true rfl) (Nat.le_of_ble_eq_true rfl) dX5_init_7 rfl (fun q1 => ?_)
  show Ck _ _ _ 9 [some (.ref h0), some (.ref h1)] [.ref q1, .ref h0] [(h0, .inr (5, [.int 0, .null, .null, .null, .null, .null])), (q1, aI cs 1 20)] 1 20
  refine k9_put 12 0 2 (C := RX5) (T := TX5) (N := 6) (ci := 5) rfl rfl inW5 tyX5 tyX5_ok nmX5 rfl (by decide) rfl (wt_at 296 (by decide +kernel) (by decide +kernel)) (tyX5_ok 2 (by decide)) rfl rfl rfl (Nat.le_of_ble_eq_true rfl) dX5_init_9 rfl ?_
  show Ck _ _ _ 12 [some (.ref h0), some (.ref h1)] [] [(h0, .inr (5, [.int 0, .null, .ref q1, .null, .null, .null])), (q1, aI cs 1 20)] 1 20
  refine k9_ald 13 (i := 0) rfl rfl dX5_init_12 rfl ?_
  refine k9_bipush 15 (v := 20) dX5_init_13 (by decide) rfl ?_
  refine k9_newa 17 (kd := 1) (ty := .int) (N' := 20) (a0 := (20, .inl fun _ => 0)) rfl aw_int rfl (fun _ => rfl) (by decide) (by decide +kernel) (Nat.le_of_ble_eq_true rfl) (Nat.le_of_ble_eq_true rfl) (Nat.le_of_ble_eq_true rfl) dX5_init_15 rfl (fun q2 => ?_)
  show Ck _ _ _ 17 [some (.ref h0), some (.ref h1)] [.ref q2, .ref h0] [(h0, .inr (5, [.int 0, .null, .ref q1, .null, .null, .null])), (q1, aI cs 1 20), (q2, aI cs 1 20)] 2 40
  refine k9_put 20 0 3 (C := RX5) (T := TX5) (N := 6) (ci := 5) rfl rfl inW5 tyX5 tyX5_ok nmX5 rfl (by decide) rfl (wt_at 297 (by decide +kernel) (by decide +kernel)) (tyX5_ok 3 (by decide)) rfl rfl rfl (Nat.le_of_ble_eq_true rfl) dX5_init_17 rfl ?_
  show Ck _ _ _ 20 [some (.ref h0), some (.ref h1)] [] [(h0, .inr (5, [.int 0, .null, .ref q1, .ref q2, .null, .null])), (q1, aI cs 1 20), (q2, aI cs 1 20)] 2 40
  refine k9_ald 21 (i := 0) rfl rfl dX5_init_20 rfl ?_
  refine k9_bipush 23 (v := 97) dX5_init_21 (by decide) rfl ?_
  refine k9_newa 25 (kd := 1) (ty := .int) (N' := 97) (a0 := (97, .inl fun _ => 0)) rfl aw_int rfl (fun _ => rfl) (by decide) (by decide +kernel) (Nat.le_of_ble_eq_true rfl) (Nat.le_of_ble_eq_true rfl) (Nat.le_of_ble_eq_true rfl) dX5_init_23 rfl (fun q3 => ?_)
  show Ck _ _ _ 25 [some (.ref h0), some (.ref h1)] [.ref q3, .ref h0] [(h0, .inr (5, [.int 0, .null, .ref q1, .ref q2, .null, .null])), (q1, aI cs 1 20), (q2, aI cs 1 20), (q3, aI cs 1 97)] 3 137
  refine k9_put 28 0 4 (C := RX5) (T := TX5) (N := 6) (ci := 5) rfl rfl inW5 tyX5 tyX5_ok nmX5 rfl (by decide) rfl (wt_at 298 (by decide +kernel) (by decide +kernel)) (tyX5_ok 4 (by decide)) rfl rfl rfl (Nat.le_of_ble_eq_true rfl) dX5_init_25 rfl ?_
  show Ck _ _ _ 28 [some (.ref h0), some (.ref h1)] [] [(h0, .inr (5, [.int 0, .null, .ref q1, .ref q2, .ref q3, .null])), (q1, aI cs 1 20), (q2, aI cs 1 20), (q3, aI cs 1 97)] 3 137
  refine k9_ald 29 (i := 0) rfl rfl dX5_init_28 rfl ?_
  refine k9_bipush 31 (v := 97) dX5_init_29 (by decide) rfl ?_
  refine k9_newa 33 (kd := 2) (ty := .boolean) (N' := 97) (a0 := (97, .inl fun _ => 0)) rfl aw_boolean rfl (fun _ => rfl) (by decide) (by decide +kernel) (Nat.le_of_ble_eq_true rfl) (Nat.le_of_ble_eq_true rfl) (Nat.le_of_ble_eq_true rfl) dX5_init_31 rfl (fun q4 => ?_)
  show Ck _ _ _ 33 [some (.ref h0), some (.ref h1)] [.ref q4, .ref h0] [(h0, .inr (5, [.int 0, .null, .ref q1, .ref q2, .ref q3, .null])), (q1, aI cs 1 20), (q2, aI cs 1 20), (q3, aI cs 1 97), (q4, aI cs 2 97)] 4 234
  refine k9_put 36 0 5 (C := RX5) (T := TX5) (N := 6) (ci := 5) rfl rfl inW5 tyX5 tyX5_ok nmX5 rfl (by decide) rfl (wt_at 299 (by decide +kernel) (by decide +kernel)) (tyX5_ok 5 (by decide)) rfl rfl rfl (Nat.le_of_ble_eq_true rfl) dX5_init_33 rfl ?_
  show Ck _ _ _ 36 [some (.ref h0), some (.ref h1)] [] [(h0, .inr (5, [.int 0, .null, .ref q1, .ref q2, .ref q3, .ref q4])), (q1, aI cs 1 20), (q2, aI cs 1 20), (q3, aI cs 1 97), (q4, aI cs 2 97)] 4 234
  refine k9_ald 37 (i := 0) rfl rfl dX5_init_36 rfl ?_
  refine k9_ald 38 (i := 1) rfl rfl dX5_init_37 rfl ?_
  refine k9_put 41 0 1 (C := RX5) (T := TX5) (N := 6) (ci := 5) rfl rfl inW5 tyX5 tyX5_ok nmX5 rfl (by decide) rfl (wt_at 295 (by decide +kernel) (by decide +kernel)) (tyX5_ok 1 (by decide)) rfl rfl rfl (Nat.le_of_ble_eq_true rfl) dX5_init_38 rfl ?_
  show Ck _ _ _ 41 [some (.ref h0), some (.ref h1)] [] [(h0, .inr (5, [.int 0, .ref h1, .ref q1, .ref q2, .ref q3, .ref q4])), (q1, aI cs 1 20), (q2, aI cs 1 20), (q3, aI cs 1 97), (q4, aI cs 2 97)] 4 234
  exact k9_ret hE (fun j => [q1, q2, q3, q4].getD j 0) [0, 1, 2, 3, 4] (by decide) rfl rfl rfl dX5_init_41
