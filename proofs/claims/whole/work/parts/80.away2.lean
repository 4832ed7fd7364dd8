/-! PURE: the class's away -/
theorem Inv.q1 {μ m1 : Mi} {i : Bool} {L : List (Nat × Nat)} (I : Inv μ) (F : Fr L (some i) μ m1) (hL : L.all pQ = true) (C : Ch m1 i) (z : rd m1 2 i 4 = 0) : Inv m1 := by
  obtain ⟨r, ma, mb, p1, p2, p3⟩ := OpI.q (f := fun _ => some (0, m1)) (g := fun m => some (0, m)) (L2 := []) (r := 0) I rfl rfl F hL Fr.rf rfl C z
  cases p1
  cases p2
  exact p3
theorem fw_cong {c : Co} {T : Tb} {W V : Nat → Tb} : ∀ n, (∀ q, q < n → V q = W q) → fw c T V n = fw c T W n
  | 0, _ => rfl
  | n + 1, h => by rw [fw, fw, fw_cong n (fun q hq => h q (by omega)), h n (by omega)]
theorem free_31 {i : Bool} {c : Co} {T : Tb} (hw : WF c) (h2 : WF2 c) (D : DB 4 c 0 T) : ∀ (d n x : Nat) (μ : Mi) (W : Nat → Tb), x + d = (c 2 3).toNat → d < n → cr μ i = c → (∀ q : Nat, (q : Int) < c 2 3 → DB 4 c (2 ^ q) (W q)) → rd μ 1 i 4 = (fw c T W x).2 → ∃ m V, B_X4_freestWithout_31 n i (fw c T W x).1 (x : Int) μ = some ((fw c T V (c 2 3).toNat).2, m) ∧ (∀ q : Nat, (q : Int) < c 2 3 → DB 4 c (2 ^ q) (V q)) ∧ rd m 1 i 4 = (fw c T V (c 2 3).toNat).2 ∧ ∀ r j q, ¬ r = 4 → ¬ (32 ≤ r ∧ r ≤ 36) → ¬ (r = 1 ∧ q = 4) → rd m r j q = rd μ r j q := by
  have hsz := hw.2.2.2.2.2.2.2.2.1
  intro d
  induction d with
  | zero =>
    intro n x μ W hx hn hc E h4
    obtain ⟨n, rfl⟩ : ∃ q, n = q + 1 := ⟨n - 1, by omega⟩
    have ex : x = (c 2 3).toNat := by omega
    refine ⟨μ, W, ?_, E, by rw [← ex]; exact h4, fun r j q _ _ _ => rfl⟩
    rw [B_X4_freestWithout_31_s, F_X4_freestWithout_31, cm hc (r := 2) (k := 3) (by omega), wid (x := c 2 3) (by omega) (by omega), wid (x := (x : Int)) (by omega) (by omega), if_pos (by omega), B_X4_freestWithout_93, h4, ← ex]
  | succ d ih =>
    intro n x μ W hx hn hc E h4
    obtain ⟨n, rfl⟩ : ∃ q, n = q + 1 := ⟨n - 1, by omega⟩
    have hxl : (x : Int) < c 2 3 := by omega
    obtain ⟨t1, t2, t3, t4, t5, t6⟩ := hw.2.2.2.2.2.2.2.2.2 x hxl
    have e87 : ∀ a m, B_X4_freestWithout_87 (B_X4_freestWithout_31 n) i a (x : Int) m = B_X4_freestWithout_31 n i a ((x + 1 : Nat) : Int) m := fun a m => by
      unfold B_X4_freestWithout_87
      rw [show (x : Int) + 1 = ((x + 1 : Nat) : Int) by omega]
    rw [B_X4_freestWithout_31_s, F_X4_freestWithout_31, cm hc (r := 2) (k := 3) (by omega), wid (x := c 2 3) (by omega) (by omega), wid (x := (x : Int)) (by omega) (by omega), if_neg (by omega), if_pos (by omega), ixn x (by omega), cm hc (r := 29) (by omega), wid (x := c 29 x) (by omega) (by omega)]
    by_cases z : c 29 x = 0
    · rw [if_neg (fun w => w z), ishl1 x (by omega)]
      have h256 : 2 ^ x < 256 := Nat.lt_of_lt_of_le (Nat.pow_lt_pow_right (by omega) (by omega : x < 8)) (by decide)
      obtain ⟨m2, m3, N, ce, b1, b2, b3, b4, b5, b6⟩ := learn_X hc hw h2 (B := 2 ^ x) (aim := 4) h256 (by omega)
      rw [show ((4 : Nat) : Int) = 4 from rfl] at b2
      have eW : ∀ q, (fun q => if q = x then tb m3 else W q) q = if q = x then tb m3 else W q := fun _ => rfl
      obtain ⟨V, hV⟩ : ∃ V : Nat → Tb, V = fun q => if q = x then tb m3 else W q := ⟨_, rfl⟩
      have hVx : V x = tb m3 := by rw [hV]; exact if_pos rfl
      have E2 : ∀ q : Nat, (q : Int) < c 2 3 → DB 4 c (2 ^ q) (V q) := fun q hq => by
        by_cases y : q = x
        · rw [y, hVx]; exact b4
        · rw [hV]
          show DB 4 c (2 ^ q) (if q = x then tb m3 else W q)
          rw [if_neg y]; exact E q hq
      have hfc : fw c T V x = fw c T W x := fw_cong x (fun q hq => by
        rw [hV]
        exact if_neg (by omega))
      have hfw : fw c T V (x + 1) = if ¬ c 29 x = 0 then fw c T V x else if sv c (2 ^ x) (V x) ≤ (fw c T V x).1 then fw c T V x else (sv c (2 ^ x) (V x), (x : Int)) := rfl
      rw [if_neg (fun w => w z), hVx, hfc] at hfw
      have hb := fw_rng hw h2 D E x (by omega)
      have hu := sv_ub hw h2 b4
      have hl := sv_m1 hw h2 b4
      have ed : Tm c (tb m3) 0 (sK c (LL c (2 ^ x))) = sv c (2 ^ x) (tb m3) := rfl
      rw [ed] at b5
      have hc3 : cr m3 i = c := by
        rw [← hc]
        exact cr_eq (fun r j q h => b6 r j q (by omega) (by omega))
      rw [b1, bm_k, b2, bm_k, b5, bp_k, bp_k, wid (x := sv c (2 ^ x) (tb m3)) (by omega) (by omega), wid (x := (fw c T W x).1) (by omega) (by omega), e87, e87]
      by_cases y : sv c (2 ^ x) (tb m3) ≤ (fw c T W x).1
      · rw [if_pos y]
        rw [if_pos y] at hfw
        obtain ⟨m, V2, g1, g2, g3, g4⟩ := ih n (x + 1) m3 V (by omega) (by omega) hc3 E2 (by rw [b6 1 i 4 (by omega) (by omega), h4, hfw])
        rw [hfw] at g1
        exact ⟨m, V2, g1, g2, g3, fun r j q p1 p2 p3 => (g4 r j q p1 p2 p3).trans (b6 r j q p1 p2)⟩
      · rw [if_neg y]
        rw [if_neg y] at hfw
        obtain ⟨m, V2, g1, g2, g3, g4⟩ := ih n (x + 1) (wr m3 1 i 4 (x : Int)) V (by omega) (by omega) ((cr_s (by omega)).trans hc3) E2 (by rw [rd_s, hfw])
        rw [hfw] at g1
        exact ⟨m, V2, g1, g2, g3, fun r j q p1 p2 p3 => (g4 r j q p1 p2 p3).trans ((rdx (by omega)).trans (b6 r j q p1 p2))⟩
    · rw [if_pos z, e87]
      have hfw : fw c T W (x + 1) = if ¬ c 29 x = 0 then fw c T W x else if sv c (2 ^ x) (W x) ≤ (fw c T W x).1 then fw c T W x else (sv c (2 ^ x) (W x), (x : Int)) := rfl
      rw [if_pos z] at hfw
      have go := ih n (x + 1) μ W (by omega) (by omega) hc E (by rw [hfw]; exact h4)
      rw [hfw] at go
      exact go
theorem freestWithout_X {μ : Mi} {i : Bool} (I : Inv μ) (h0 : 0 < rd μ 0 false 1) : ∃ T W m, D_X4_freestWithout i μ = some ((fw (cr μ i) T W (cr μ i 2 3).toNat).2, m) ∧ DB 4 (cr μ i) 0 T ∧ (∀ n : Nat, (n : Int) < cr μ i 2 3 → DB 4 (cr μ i) (2 ^ n) (W n)) ∧ Ch m i ∧ rd m 2 i 4 = 0 := by
  have hw := WF_of I.1 h0 i
  have h2 := WF2_of I.1 i
  have hsz := hw.2.2.2.2.2.2.2.2.1
  obtain ⟨m0, p1, ⟨T, k1, k2, -⟩, p4, p5, p6⟩ := learnWhere_X I h0 (i := i)
  have hX : D_X4_howManyWays i μ = some (rd m0 1 i 1, m0) := by
    unfold D_X4_howManyWays
    rw [p1, bm_k]
  have F := fr_X4_howManyWays hX
  have I2 : Inv m0 := I.q1 F (by decide) p5 p6
  have h0' : 0 < rd m0 0 false 1 := by rw [frQ F (by decide) (by omega)]; exact h0
  obtain ⟨b, m1, n, a1, a2, a3, a4, a5, a6, a7, a8⟩ := mustLearn_X I2.1 (I2.2 i) h0' (k := 7) (by omega)
  rw [show ((7 : Nat) : Int) = 7 from rfl] at a1
  have hc1 : cr m1 i = cr m0 i := cr_eq (fun r j q h => a3 r j q (by omega))
  unfold D_X4_freestWithout
  rw [p1, bm_k, a1, bd_k]
  rcases a2 with rfl | rfl
  · rw [if_pos (by decide)]
    have K := a8 7 (by omega) (a7 rfl)
    have K2 : KN 7 (cr m0 i) (fd m1 i) := KN_cong (fun r j hr => by
      have hr2 : r = 1 ∨ (21 ≤ r ∧ r ≤ 23) := by unfold rdK at hr; omega
      rw [fdx hr2, fdx hr2]
      exact a3 r i j (by unfold rdK at hr; omega)) K
    have K3 := K2
    unfold KN at K3
    rw [if_neg (by omega), if_neg (by omega), if_neg (by omega), if_neg (by omega), p4] at K3
    obtain ⟨U, W, u1, u2, u3⟩ := K3
    refine ⟨U, W, m1, ?_, u1, u2, Ch.put (k := 7) (by omega) a5 hc1 a6 K2 a8 (fun q r j hq hne hr => a3 r i j (by unfold rdK at hr; omega)), a4⟩
    unfold B_X4_freestWithout_93
    rw [fdx (by omega)] at u3
    rw [u3]
  · rw [if_neg (by decide)]
    have ex : ∀ q : Nat, ∃ U, (q : Int) < cr μ i 2 3 → DB 4 (cr μ i) (2 ^ q) U := fun q => by
      by_cases y : (q : Int) < cr μ i 2 3
      · have h256 : 2 ^ q < 256 := Nat.lt_of_lt_of_le (Nat.pow_lt_pow_right (by omega) (by omega : q < 8)) (by decide)
        obtain ⟨U, hU⟩ := DB_ex (rfl : cr μ i = cr μ i) hw h2 h256 (by omega : 4 ≤ 5)
        exact ⟨U, fun _ => hU⟩
      · exact ⟨T, fun z => absurd z y⟩
    obtain ⟨W, hW⟩ : ∃ W : Nat → Tb, ∀ q : Nat, (q : Int) < cr μ i 2 3 → DB 4 (cr μ i) (2 ^ q) (W q) := ⟨fun q => Classical.choose (ex q), fun q => Classical.choose_spec (ex q)⟩
    obtain ⟨m, V, g1, g2, g3, g4⟩ := free_31 (i := i) hw h2 k1 (cr μ i 2 3).toNat FU 0 (wr m1 1 i 4 (-1)) W (by omega) (FU_gt (by omega)) ((cr_s (by omega)).trans (hc1.trans p4)) hW rd_s
    have e1 : rd m1 1 i 1 = (fw (cr μ i) T W 0).1 := by
      rw [a3 1 i 1 (by omega)]
      rw [fdx (by omega)] at k2
      exact k2
    rw [← e1, show ((0 : Nat) : Int) = 0 from rfl] at g1
    refine ⟨T, V, m, g1, k1, g2, ?_, ?_⟩
    · have hcm : cr m i = cr m0 i := by
        rw [← hc1]
        exact cr_eq (fun r j q h => (g4 r j q (by omega) (by omega) (by omega)).trans (rdx (by omega)))
      refine Ch.put (k := 7) (by omega) a5 hcm ?_ ?_ a8 (fun q r j hq hne hr => ?_)
      · rw [g4 1 i 0 (by omega) (by omega) (by omega), rdx (by omega), a6]
      · unfold KN
        rw [if_neg (by omega), if_neg (by omega), if_neg (by omega), if_neg (by omega), p4]
        exact ⟨T, V, k1, g2, by rw [fdx (by omega)]; exact g3⟩
      · unfold rdK at hr
        rw [g4 r i j (by omega) (by omega) (by omega), rdx (by omega), a3 r i j (by omega)]
    · rw [g4 2 i 4 (by omega) (by omega) (by omega), rdx (by omega), a4]
/-- two tables for one aim have one value -/
theorem sv_uniq {c : Co} (hw : WF c) (h2 : WF2 c) {B : Nat} {T U : Tb} (D : DB 4 c B T) (E : DB 4 c B U) {μ : Mi} {i : Bool} (M : MC μ i c) (hB : B < 256) : sv c B T = sv c B U := by
  obtain ⟨m, a1, a2⟩ := sets_M M hw h2 hB
  obtain ⟨m3, d1, -⟩ := counts_M a2 D
  obtain ⟨m4, e1, -⟩ := counts_M a2 E
  rw [d1] at e1
  have h := congrArg Prod.fst (Option.some.inj e1)
  have h3 : max 0 (sv c B T) = max 0 (sv c B U) := h
  have h4 := sv_4p hw h2 D
  have h5 := sv_4p hw h2 E
  omega
theorem op_away {μ : Mi} (I : Inv μ) {x1 : Int} (r1 : R32 x1) : OpI (D_X6_away x1) (D_X7_away x1) μ := by
  have hA := I.1.2.1
  by_cases c1 : 0 < rd μ 0 false 1 ∧ (x1 = 0 ∨ x1 = 1)
  rotate_left
  · refine OpI.same I (-1) ?_ ?_
    · unfold D_X6_away; rw [isMan_X hA r1, if_pos (yb10 c1)]
    · unfold D_X7_away; rw [man_M hA rfl rfl r1, if_neg (fun w => w (yb10 c1))]
  obtain ⟨i, e1, e2, e3, e4, e5, e6⟩ := man_of c1
  have hw := WF_of I.1 c1.1 i
  have h2 := WF2_of I.1 i
  have hsz := hw.2.2.2.2.2.2.2.2.1
  obtain ⟨T, W, m1, a1, a2, a3, a5, a6⟩ := freestWithout_X I c1.1 (i := i)
  have F := fr_X4_freestWithout a1
  have eF : ∀ r i j, ¬ (r = 1 ∨ r = 4 ∨ (r = 2 ∧ j = 4) ∨ (21 ≤ r ∧ r ≤ 23) ∨ (32 ≤ r ∧ r ≤ 36)) → rd m1 r i j = rd μ r i j := fun r i j h => frQ F (by decide) h
  have M1 : MC m1 i (cr μ i) := (MC_of I.1 c1.1 i).eq (fun r i j h => eF r i j (by omega))
  obtain ⟨m2, b1, b2⟩ := sets_M M1 hw h2 (B := 0) (by omega)
  obtain ⟨m3, d1, d2, d3⟩ := counts_M b2 a2
  rw [show ((0 : Nat) : Int) = 0 from rfl] at b1
  obtain ⟨m4, g1⟩ := away_26 (i := i) hw h2 a2 a3 (cr μ i 2 3).toNat FU 0 m3 (by omega) (FU_gt (by omega)) d2.1
  have hM : D_X7_away x1 m1 = some ((fw (cr μ i) T W (cr μ i 2 3).toNat).2, m4) := by
    unfold D_X7_away
    rw [man_M hA (eF 7 false 17 (by omega)) (eF 0 false 1 (by omega)) r1, if_pos (fun w => nb10 c1 w), e1, b1, bm_k, d1, bd_k]
    exact g1
  refine OpI.q I (m1 := m1) (m2 := m4) (i := i) ?_ hM F (by decide) (fr_X7_away hM) (by decide) a5 a6
  unfold D_X6_away
  rw [isMan_X hA r1, if_neg (nb10 c1), e2, a1, bd_k]
