/-! PURE: toDoubt -/
theorem Tm_0 {c : Co} (hw : WF c) (h2 : WF2 c) (B : Nat) (T : Tb) : sv c B T = T 0 0 (c 2 0).toNat 0 (sa c (LL c B) 0 (c 2 0).toNat) := Tm_s hw (Sk_of hw h2 B) T
/-- what the class's search of doubts finds: a least set of traces without which some way fits -/
theorem dbt {c : Co} {T : Tb} (hw : WF c) (h2 : WF2 c) (D : DB 5 c 0 T) : (∀ (B : Nat) (U : Tb), B < 256 → DB 4 c B U → 0 ≤ sv c B U → 0 ≤ sv c 0 T ∧ sv c 0 T ≤ (bc B : Int) * 256 + (B : Int)) ∧ (0 ≤ sv c 0 T → ∃ B : Nat, B < 256 ∧ sv c 0 T = (bc B : Int) * 256 + (B : Int) ∧ (∀ q, B.testBit q = true → (q : Int) < c 2 3 ∧ c 29 q = 0) ∧ ∀ U, DB 4 c B U → 0 ≤ sv c B U) := by
  have hs := Sk_of hw h2 0
  have hen := hw.2.2.2.2.2.2.2.1
  have hsz := hw.2.2.2.2.2.2.2.2.1
  have v := st_Vd hw hs
  refine ⟨fun B U hB E hu => ?_, fun hz => ?_⟩
  · rw [Tm_0 hw h2] at hu ⊢
    have := dB_ub hw h2 D E ((c 2 2).toNat * 8 + 100) 0 0 (c 2 0).toNat 0 (sa c (LL c 0) 0 (c 2 0).toNat) (sa c (LL c B) 0 (c 2 0).toNat) (by have := hs.1; omega) (by omega) v (mb_lt _ _) erB_sa (by rw [psB_0]; exact hu)
    refine ⟨this.1, Int.le_trans this.2 ?_⟩
    rw [← csm_n hB]
    exact cs_mono (fun x _ w => w.1)
  · rw [Tm_0 hw h2] at hz ⊢
    obtain ⟨b0, i1, i2, i3⟩ := dB_at hw h2 D ((c 2 2).toNat * 8 + 100) 0 0 (c 2 0).toNat 0 (sa c (LL c 0) 0 (c 2 0).toNat) (by have := hs.1; omega) (by omega) v hz
    obtain ⟨B, hBd⟩ : ∃ B, B = mb (fun q => @decide (b0 q) (Classical.propDecidable _)) 8 := ⟨_, rfl⟩
    have hB : B < 256 := by rw [hBd]; exact mb_lt _ 8
    have hb8 : ∀ q, b0 q → q < 8 ∧ (q : Int) < c 2 3 ∧ c 29 q = 0 := fun q w => by
      have k0 : ∀ t, kp c 0 t = true → c 29 t = 0 := fun t u => by
        unfold kp at u
        simp only [Bool.and_eq_true, decide_eq_true_eq] at u
        exact u.1
      rcases i2 q w with ⟨x, x1, x2, rfl⟩ | u | ⟨x, x1, rfl, x2⟩
      · have := sLn_at c 0 0 _ x x2
        unfold SL
        exact ⟨by omega, by omega, k0 _ this.2.2⟩
      · have u1 := u.1
        unfold PM at u1
        rw [mb_bit] at u1
        unfold pmk at u1
        simp only [Bool.and_eq_true, decide_eq_true_eq] at u1
        exact ⟨by omega, by omega, k0 _ u1.2.1⟩
      · have := sLn_at c 0 2 _ x x1
        unfold LL
        exact ⟨by omega, by omega, k0 _ this.2.2⟩
    have hbit : ∀ q, B.testBit q = true ↔ b0 q := fun q => by
      rw [hBd, mb_bit]
      simp only [Bool.and_eq_true, decide_eq_true_eq]
      exact ⟨fun w => w.2, fun w => ⟨(hb8 q w).1, w⟩⟩
    have e1 : csm B = cs b0 8 := by
      have a := cs_mono (p := fun q => B.testBit q = true) (r := b0) (n := 8) (fun x _ w => (hbit x).mp w)
      have b := cs_mono (p := b0) (r := fun q => B.testBit q = true) (n := 8) (fun x _ w => (hbit x).mpr w)
      have e3 : csm B = cs (fun q => B.testBit q = true) 8 := rfl
      omega
    refine ⟨B, hB, by rw [← i1, ← e1, csm_n hB], fun q w => (hb8 q ((hbit q).mp w)).2, fun U E => ?_⟩
    rw [Tm_0 hw h2]
    have := i3 B (sa c (LL c B) 0 (c 2 0).toNat) U E (mb_lt _ _) erB_sa (fun q _ => hbit q) (fun q w => (hbit q).mpr w)
    rw [psB_0] at this
    exact this
theorem fewest_X {μ : Mi} {i : Bool} (I : Inv μ) (h0 : 0 < rd μ 0 false 1) : ∃ T m, D_X4_fewestToDoubt i μ = some (if 0 ≤ sv (cr μ i) 0 T then sv (cr μ i) 0 T % 256 else -1, m) ∧ DB 5 (cr μ i) 0 T ∧ Ch m i ∧ rd m 2 i 4 = 0 := by
  have hw := WF_of I.1 h0 i
  have h2 := WF2_of I.1 i
  have hs := Sk_of hw h2 0
  have hen := hw.2.2.2.2.2.2.2.1
  obtain ⟨b, m1, n, a1, a2, a3, a4, a5, a6, a7, a8⟩ := mustLearn_X I.1 (I.2 i) h0 (k := 5) (by omega)
  have hc1 : cr m1 i = cr μ i := cr_eq (fun r j q h => a3 r j q (by omega))
  rw [show ((5 : Nat) : Int) = 5 from rfl] at a1
  unfold D_X4_fewestToDoubt
  rw [a1, bd_k]
  rcases a2 with rfl | rfl
  · rw [if_pos (by decide)]
    have K := a8 5 (by omega) (a7 rfl)
    have K2 : KN 5 (cr μ i) (fd m1 i) := KN_cong (fun r j hr => by
      have hr2 : r = 1 ∨ (21 ≤ r ∧ r ≤ 23) := by unfold rdK at hr; omega
      rw [fdx hr2, fdx hr2]
      exact a3 r i j (by unfold rdK at hr; omega)) K
    have K3 := K2
    unfold KN at K3
    rw [if_neg (by omega), if_neg (by omega), if_pos rfl] at K3
    obtain ⟨T, u1, u2⟩ := K3
    rw [fdx (by omega)] at u2
    refine ⟨T, m1, ?_, u1, Ch.put (k := 5) (by omega) a5 hc1 a6 K2 a8 (fun q r j hq hne hr => a3 r i j (by unfold rdK at hr; omega)), a4⟩
    unfold B_X4_fewestToDoubt_43
    rw [u2]
  · rw [if_neg (by decide)]
    obtain ⟨m2, m3, N, ce, b1, b2, b3, b4, b5, b6⟩ := learn_X hc1 hw h2 (B := 0) (aim := 5) (by omega) (by omega)
    rw [show ((0 : Nat) : Int) = 0 from rfl] at b1
    rw [show ((5 : Nat) : Int) = 5 from rfl] at b2
    obtain ⟨vs, -⟩ := sK_VM (S := SL (cr μ i) 0) (pm := PM (cr μ i) 0) hw hs
    have hv := sv_m1 hw h2 b4
    have hv2 := (Tm_rng hw hs b4 (by omega) vs).2
    have hv3 := @bdT_Bd 5 0 (sK (cr μ i) (LL (cr μ i) 0) / 20 % 7)
    unfold Bd at hv3
    rw [if_neg (by omega)] at hv3
    have ed : Tm (cr μ i) (tb m3) 0 (sK (cr μ i) (LL (cr μ i) 0)) = sv (cr μ i) 0 (tb m3) := rfl
    rw [ed] at b5 hv2
    obtain ⟨x, hx⟩ : ∃ x, x = if 0 ≤ sv (cr μ i) 0 (tb m3) then sv (cr μ i) 0 (tb m3) % 256 else -1 := ⟨_, rfl⟩
    have hcm : cr (wr m3 1 i 3 x) i = cr μ i := by
      rw [← hc1]
      exact (cr_s (by omega)).trans (cr_eq (fun r j q h => b6 r j q (by omega) (by omega)))
    refine ⟨tb m3, wr m3 1 i 3 x, ?_, b4, Ch.put (k := 5) (by omega) a5 hcm ?_ ?_ a8 (fun q r j hq hne hr => ?_), ?_⟩
    · rw [b1, bm_k, b2, bm_k, b5, bp_k, wid (x := sv (cr μ i) 0 (tb m3)) (by omega) (by omega), ← hx]
      have e43 : ∀ y, B_X4_fewestToDoubt_40 i y m3 = some (y, wr m3 1 i 3 y) := fun y => by
        unfold B_X4_fewestToDoubt_40 B_X4_fewestToDoubt_43
        rw [rd_s]
      rw [e43, e43]
      by_cases y : 0 ≤ sv (cr μ i) 0 (tb m3)
      · rw [if_pos y] at hx
        rw [if_pos y]
        have h6 := irem_n (a := sv (cr μ i) 0 (tb m3)) 256 (by omega) (by omega) (by omega) (by omega)
        rw [show ((256 : Nat) : Int) = 256 from rfl] at h6
        rw [h6, hx]
      · rw [if_neg y] at hx
        rw [if_neg y, hx]
    · rw [rdx (by omega), b6 1 i 0 (by omega) (by omega), a6]
    · unfold KN
      rw [if_neg (by omega), if_neg (by omega), if_pos rfl]
      exact ⟨tb m3, b4, by rw [fdx (by omega), rd_s, hx]⟩
    · unfold rdK at hr
      rw [rdx (by omega), b6 r i j (by omega) (by omega), a3 r i j (by omega)]
    · rw [rdx (by omega), b6 2 i 4 (by omega) (by omega), a4]
/-- the reference looks through all sets -/
def GdS (c : Co) (B : Nat) : Prop := B < 2 ^ (c 2 3).toNat ∧ (∀ q, B.testBit q = true → c 29 q = 0) ∧ ∃ U, DB 4 c B U ∧ 0 ≤ sv c B U
def dMk (c : Co) : Nat → Nat := fun n => mb (fun q => decide (¬ c 29 q = 0)) n
theorem bc16 : ∀ m, m < 256 → cn (fun t => m.testBit t) 16 = bc m := by decide +kernel
theorem cn_tail (p : Nat → Bool) (n : Nat) : ∀ d, (∀ q, n ≤ q → q < n + d → p q = false) → cn p (n + d) = cn p n
  | 0, _ => rfl
  | d + 1, h => by
    rw [← Nat.add_assoc, cn, cn_tail p n d (fun q h1 h2 => h q h1 (by omega)), h (n + d) (by omega) (by omega)]
    rfl
theorem bc_sz {B n : Nat} (h : B < 2 ^ n) (hn : n ≤ 8) : bc B ≤ n := by
  unfold bc
  have := cn_tail (fun j => B.testBit j) n (9 - n) (fun q h1 _ => Nat.testBit_lt_two_pow (Nat.lt_of_lt_of_le h (Nat.pow_le_pow_right (by omega) h1)))
  rw [show n + (9 - n) = 9 by omega] at this
  rw [this]
  exact cn_le _ n
theorem MC_fr {m m' : Mi} {i : Bool} {c : Co} (M : MC m i c) (e : ∀ r i j, r < 65 → ¬ (r = 7 ∧ 33 ≤ j) → rd m' r i j = rd m r i j) : MC m' i c := M.eq (fun r i q h => e r i q (by omega) (by omega))
theorem dt_69 {μ0 : Mi} {i : Bool} {c : Co} (hc : cr μ0 i = c) (hw : WF c) (h2 : WF2 c) {k56 : Int → Int → Int → Mi → Option (Int × Mi)} {n : Nat} (hn8 : n ≤ 8) : ∀ (d f b : Nat) (μ : Mi), b + d = 2 ^ (c 2 3).toNat → d < f → MC μ i c → (∃ B m, b ≤ B ∧ GdS c B ∧ bc B = n ∧ (∀ B', b ≤ B' → B' < B → GdS c B' → ¬ bc B' = n) ∧ B_X7_toDoubt_69 k56 f (mi i : Int) ((dMk c (c 2 3).toNat : Nat) : Int) (n : Int) (b : Int) μ = some ((B : Int), m)) ∨ ((∀ B', b ≤ B' → GdS c B' → ¬ bc B' = n) ∧ ∃ m, MC m i c ∧ B_X7_toDoubt_69 k56 f (mi i : Int) ((dMk c (c 2 3).toNat : Nat) : Int) (n : Int) (b : Int) μ = k56 (mi i : Int) ((dMk c (c 2 3).toNat : Nat) : Int) ((n + 1 : Nat) : Int) m) := by
  have hsz := hw.2.2.2.2.2.2.2.2.1
  have hm := mi_le i
  have h256 : 2 ^ (c 2 3).toNat ≤ 256 := Nat.pow_le_pow_right (n := 2) (by omega) (by omega : (c 2 3).toNat ≤ 8)
  have hdm : dMk c (c 2 3).toNat < 256 := Nat.lt_of_lt_of_le (mb_lt _ _) h256
  have hsl : ishl 1 (c 2 3) = ((2 ^ (c 2 3).toNat : Nat) : Int) := by
    have := ishl1 (c 2 3).toNat (by omega)
    rw [show (((c 2 3).toNat : Nat) : Int) = c 2 3 by omega] at this
    exact this
  obtain ⟨Z, hZ⟩ : ∃ Z, Z = 2 ^ (c 2 3).toNat := ⟨_, rfl⟩
  rw [← hZ] at h256 hsl
  intro d
  induction d with
  | zero =>
    intro f b μ hb hf M
    rw [← hZ] at hb
    obtain ⟨f, rfl⟩ : ∃ q, f = q + 1 := ⟨f - 1, by omega⟩
    right
    refine ⟨fun B' h1 h3 => by have := h3.1; rw [← hZ] at this; omega, μ, M, ?_⟩
    rw [B_X7_toDoubt_69_s, F_X7_toDoubt_69, wid (x := (mi i : Int)) (by omega) (by omega), if_pos (by omega), ixn (mi i) (by omega), M.2.2.2.2.1.2.2.2, hsl, wid (x := (Z : Int)) (by omega) (by omega), wid (x := (b : Int)) (by omega) (by omega), if_pos (by omega), show (n : Int) + 1 = ((n + 1 : Nat) : Int) by omega]
  | succ d ih =>
    intro f b μ hb hf M
    have hb' : b + 1 + d = 2 ^ (c 2 3).toNat := by omega
    rw [← hZ] at hb
    obtain ⟨f, rfl⟩ : ∃ q, f = q + 1 := ⟨f - 1, by omega⟩
    have hbc := bc_le (show b < 256 by omega)
    have e118 : ∀ m, B_X7_toDoubt_118 k56 (B_X7_toDoubt_69 k56 f) (mi i : Int) ((dMk c (c 2 3).toNat : Nat) : Int) (n : Int) (b : Int) m = B_X7_toDoubt_69 k56 f (mi i : Int) ((dMk c (c 2 3).toNat : Nat) : Int) (n : Int) ((b + 1 : Nat) : Int) m := fun m => by
      unfold B_X7_toDoubt_118
      rw [show (b : Int) + 1 = ((b + 1 : Nat) : Int) by omega]
    have next : ∀ m, MC m i c → (GdS c b → ¬ bc b = n) → B_X7_toDoubt_69 k56 (f + 1) (mi i : Int) ((dMk c (c 2 3).toNat : Nat) : Int) (n : Int) (b : Int) μ = B_X7_toDoubt_69 k56 f (mi i : Int) ((dMk c (c 2 3).toNat : Nat) : Int) (n : Int) ((b + 1 : Nat) : Int) m → (∃ B m, b ≤ B ∧ GdS c B ∧ bc B = n ∧ (∀ B', b ≤ B' → B' < B → GdS c B' → ¬ bc B' = n) ∧ B_X7_toDoubt_69 k56 (f + 1) (mi i : Int) ((dMk c (c 2 3).toNat : Nat) : Int) (n : Int) (b : Int) μ = some ((B : Int), m)) ∨ ((∀ B', b ≤ B' → GdS c B' → ¬ bc B' = n) ∧ ∃ m, MC m i c ∧ B_X7_toDoubt_69 k56 (f + 1) (mi i : Int) ((dMk c (c 2 3).toNat : Nat) : Int) (n : Int) (b : Int) μ = k56 (mi i : Int) ((dMk c (c 2 3).toNat : Nat) : Int) ((n + 1 : Nat) : Int) m) := fun m M' ng e => by
      rw [e]
      rcases ih f (b + 1) m hb' (by omega) M' with ⟨B, m', q1, q2, q3, q4, q5⟩ | ⟨q1, m', q2, q3⟩
      · left
        refine ⟨B, m', by omega, q2, q3, fun B' w1 w2 w3 => ?_, q5⟩
        by_cases e2 : B' = b
        · rw [e2] at w3 ⊢; exact ng w3
        · exact q4 B' (by omega) w2 w3
      · right
        refine ⟨fun B' w1 w3 => ?_, m', q2, q3⟩
        by_cases e2 : B' = b
        · rw [e2] at w3 ⊢; exact ng w3
        · exact q1 B' (by omega) w3
    have head : B_X7_toDoubt_69 k56 (f + 1) (mi i : Int) ((dMk c (c 2 3).toNat : Nat) : Int) (n : Int) (b : Int) μ = if ¬ bc b = n then B_X7_toDoubt_69 k56 f (mi i : Int) ((dMk c (c 2 3).toNat : Nat) : Int) (n : Int) ((b + 1 : Nat) : Int) μ else if b &&& dMk c (c 2 3).toNat = 0 then (bm (D_X7_sets (mi i : Int) (b : Int) μ) fun m2 => bd (D_X7_finds m2) fun r3 m3 => if (w32 r3) = 0 then B_X7_toDoubt_69 k56 f (mi i : Int) ((dMk c (c 2 3).toNat : Nat) : Int) (n : Int) ((b + 1 : Nat) : Int) m3 else some ((b : Int), m3)) else B_X7_toDoubt_69 k56 f (mi i : Int) ((dMk c (c 2 3).toNat : Nat) : Int) (n : Int) ((b + 1 : Nat) : Int) μ := by
      have hand : b &&& dMk c (c 2 3).toNat < 256 := Nat.lt_of_le_of_lt Nat.and_le_left (by omega)
      rw [B_X7_toDoubt_69_s, F_X7_toDoubt_69, wid (x := (mi i : Int)) (by omega) (by omega), if_pos (by omega), ixn (mi i) (by omega), M.2.2.2.2.1.2.2.2, hsl, wid (x := (Z : Int)) (by omega) (by omega), wid (x := (b : Int)) (by omega) (by omega), if_neg (by omega), ones_M (by omega), bp_k, bc16 b (by omega), wid (x := ((bc b : Nat) : Int)) (by omega) (by omega), wid (x := (n : Int)) (by omega) (by omega), iand_n b _ (by omega) (by omega), wid (x := ((b &&& dMk c (c 2 3).toNat : Nat) : Int)) (by omega) (by omega)]
      simp only [e118]
      by_cases z : bc b = n
      · rw [if_neg (show ¬ ¬ ((bc b : Nat) : Int) = (n : Int) by omega), if_neg (show ¬ ¬ bc b = n from fun w => w z)]
        by_cases y : b &&& dMk c (c 2 3).toNat = 0
        · rw [if_pos (show ((b &&& dMk c (c 2 3).toNat : Nat) : Int) = 0 by omega), if_pos y]
        · rw [if_neg (show ¬ ((b &&& dMk c (c 2 3).toNat : Nat) : Int) = 0 by omega), if_neg y]
      · rw [if_pos (show ¬ ((bc b : Nat) : Int) = (n : Int) by omega), if_pos z]
    by_cases z : bc b = n
    rotate_left
    · rw [if_pos z] at head
      exact next μ M (fun _ => z) head
    rw [if_neg (fun w => w z)] at head
    by_cases y : b &&& dMk c (c 2 3).toNat = 0
    rotate_left
    · rw [if_neg y] at head
      refine next μ M (fun g => absurd (zbit.mpr (fun q w => ?_)) y) head
      rw [Nat.testBit_and, Bool.and_eq_true] at w
      have h1 := g.2.1 q w.1
      have h3 := w.2
      unfold dMk at h3
      rw [mb_bit] at h3
      simp only [Bool.and_eq_true, decide_eq_true_eq] at h3
      exact h3.2 h1
    rw [if_pos y] at head
    obtain ⟨U, hU⟩ := DB_ex hc hw h2 (B := b) (aim := 4) (by omega) (by omega)
    obtain ⟨m2, s1, s2⟩ := sets_M M hw h2 (B := b) (by omega)
    obtain ⟨r, m3, g1, g2, g3, g4, g5⟩ := finds_T (by omega) s2 hU
    rw [s1, bm_k, g1, bd_k] at head
    have ed : Tm c U 0 (sK c (LL c b)) = sv c b U := rfl
    rw [ed] at g4
    rcases g3 with rfl | rfl
    · rw [if_pos (by decide)] at head
      refine next m3 g2.1 (fun g => ?_) head
      obtain ⟨U', u1, u2⟩ := g.2.2
      have := sv_sgn hw h2 (by omega) (by omega) u1 hU
      have h3 := g4.mpr (this.mp u2)
      omega
    · rw [if_neg (by decide)] at head
      left
      refine ⟨b, m3, Nat.le_refl _, ⟨by rw [← hZ]; omega, fun q w => ?_, U, hU, g4.mp rfl⟩, z, fun B' w1 w2 => by omega, head⟩
      have hq : q < (c 2 3).toNat := by
        refine Decidable.byContradiction fun u => ?_
        have h1 : b < 2 ^ q := Nat.lt_of_lt_of_le (show b < 2 ^ (c 2 3).toNat by omega) (Nat.pow_le_pow_right (by omega) (by omega))
        rw [Nat.testBit_lt_two_pow h1] at w
        cases w
      have h3 := zbit.mp y q
      rw [Nat.testBit_and, w, Bool.true_and] at h3
      unfold dMk at h3
      rw [mb_bit] at h3
      simp only [Bool.and_eq_true, decide_eq_true_eq, not_and, Decidable.not_not] at h3
      exact h3 hq
theorem dt_56 {μ0 : Mi} {i : Bool} {c : Co} (hc : cr μ0 i = c) (hw : WF c) (h2 : WF2 c) : ∀ (d f n : Nat) (μ : Mi), n + d = (c 2 3).toNat + 1 → d < f → MC μ i c → (∃ B m, GdS c B ∧ n ≤ bc B ∧ (∀ B', GdS c B' → n ≤ bc B' → bc B < bc B' ∨ (bc B = bc B' ∧ B ≤ B')) ∧ B_X7_toDoubt_56 f (mi i : Int) ((dMk c (c 2 3).toNat : Nat) : Int) (n : Int) μ = some ((B : Int), m)) ∨ ((∀ B', GdS c B' → ¬ n ≤ bc B' ∨ (c 2 3).toNat < bc B') ∧ ∃ m, B_X7_toDoubt_56 f (mi i : Int) ((dMk c (c 2 3).toNat : Nat) : Int) (n : Int) μ = some (-1, m)) := by
  have hsz := hw.2.2.2.2.2.2.2.2.1
  have hm := mi_le i
  intro d
  induction d with
  | zero =>
    intro f n μ hn hf M
    obtain ⟨f, rfl⟩ : ∃ q, f = q + 1 := ⟨f - 1, by omega⟩
    right
    refine ⟨fun B' _ => by omega, μ, ?_⟩
    rw [B_X7_toDoubt_56_s, F_X7_toDoubt_56, wid (x := (mi i : Int)) (by omega) (by omega), if_pos (by omega), ixn (mi i) (by omega), M.2.2.2.2.1.2.2.2, wid (x := c 2 3) (by omega) (by omega), wid (x := (n : Int)) (by omega) (by omega), if_pos (by omega)]
  | succ d ih =>
    intro f n μ hn hf M
    obtain ⟨f, rfl⟩ : ∃ q, f = q + 1 := ⟨f - 1, by omega⟩
    have h256 : 2 ^ (c 2 3).toNat ≤ 256 := Nat.pow_le_pow_right (n := 2) (by omega) (by omega : (c 2 3).toNat ≤ 8)
    have head : B_X7_toDoubt_56 (f + 1) (mi i : Int) ((dMk c (c 2 3).toNat : Nat) : Int) (n : Int) μ = B_X7_toDoubt_69 (B_X7_toDoubt_56 f) FU (mi i : Int) ((dMk c (c 2 3).toNat : Nat) : Int) (n : Int) ((0 : Nat) : Int) μ := by
      rw [B_X7_toDoubt_56_s, F_X7_toDoubt_56, wid (x := (mi i : Int)) (by omega) (by omega), if_pos (by omega), ixn (mi i) (by omega), M.2.2.2.2.1.2.2.2, wid (x := c 2 3) (by omega) (by omega), wid (x := (n : Int)) (by omega) (by omega), if_neg (by omega)]
      rfl
    rw [head]
    rcases dt_69 (k56 := B_X7_toDoubt_56 f) hc hw h2 (n := n) (by omega) (2 ^ (c 2 3).toNat) FU 0 μ (by omega) (FU_gt (by omega)) M with ⟨B, m, q1, q2, q3, q4, q5⟩ | ⟨q1, m, q2, q3⟩
    · left
      refine ⟨B, m, q2, by omega, fun B' w1 w2 => ?_, q5⟩
      by_cases e : bc B' = n
      · right
        refine ⟨by omega, Nat.le_of_not_lt fun w => q4 B' (by omega) w w1 e⟩
      · left; omega
    · rw [q3]
      rcases ih f (n + 1) m (by omega) (by omega) q2 with ⟨B, m', p1, p2, p3, p4⟩ | ⟨p1, m', p2⟩
      · left
        refine ⟨B, m', p1, by omega, fun B' w1 w2 => p3 B' w1 ?_, p4⟩
        have := q1 B' (by omega) w1
        omega
      · right
        refine ⟨fun B' w1 => ?_, m', p2⟩
        have := q1 B' (by omega) w1
        have := p1 B' w1
        omega
theorem dt_14 {i : Bool} {c : Co} (hw : WF c) : ∀ (d f n : Nat) (μ : Mi), n + d = (c 2 3).toNat → d < f → MC μ i c → B_X7_toDoubt_14 f (mi i : Int) ((dMk c n : Nat) : Int) (n : Int) μ = B_X7_toDoubt_56 FU (mi i : Int) ((dMk c (c 2 3).toNat : Nat) : Int) 0 μ := by
  have hsz := hw.2.2.2.2.2.2.2.2.1
  have hm := mi_le i
  intro d
  induction d with
  | zero =>
    intro f n μ hn hf M
    obtain ⟨f, rfl⟩ : ∃ q, f = q + 1 := ⟨f - 1, by omega⟩
    rw [B_X7_toDoubt_14_s, F_X7_toDoubt_14, wid (x := (mi i : Int)) (by omega) (by omega), if_pos (by omega), ixn (mi i) (by omega), M.2.2.2.2.1.2.2.2, wid (x := c 2 3) (by omega) (by omega), wid (x := (n : Int)) (by omega) (by omega), if_pos (by omega), show n = (c 2 3).toNat by omega]
  | succ d ih =>
    intro f n μ hn hf M
    obtain ⟨f, rfl⟩ : ∃ q, f = q + 1 := ⟨f - 1, by omega⟩
    have hnl : (n : Int) < c 2 3 := by omega
    obtain ⟨t1, t2, t3, t4, t5, t6⟩ := hw.2.2.2.2.2.2.2.2.2 n hnl
    obtain ⟨e57, e58, e59, e60, e61, e62⟩ := M.2.2.2.2.2 n hnl
    obtain ⟨X, hX⟩ : ∃ X, X = 8 * mi i + n := ⟨_, rfl⟩
    rw [← hX] at e62
    have hd : dMk c n < 256 := Nat.lt_of_lt_of_le (mb_lt _ n) (Nat.pow_le_pow_right (n := 2) (by omega) (by omega : n ≤ 8))
    have hst : dMk c (n + 1) = if ¬ c 29 n = 0 then dMk c n ||| 2 ^ n else dMk c n := by
      unfold dMk
      rw [mb]
      by_cases z : c 29 n = 0
      · rw [if_neg (by simpa using z), if_neg (fun w => w z)]
      · rw [if_pos (by simpa using z), if_pos z]
    have go := ih f (n + 1) μ (by omega) (by omega) M
    rw [B_X7_toDoubt_14_s, F_X7_toDoubt_14, wid (x := (mi i : Int)) (by omega) (by omega), if_pos (by omega), ixn (mi i) (by omega), M.2.2.2.2.1.2.2.2, wid (x := c 2 3) (by omega) (by omega), wid (x := (n : Int)) (by omega) (by omega), if_neg (by omega), show 8 * (mi i : Int) + (n : Int) = (X : Int) by omega, wid (x := (X : Int)) (by omega) (by omega), if_pos (by omega), ixn X (by omega), e62, wid (x := c 29 n) (by omega) (by omega)]
    unfold B_X7_toDoubt_46
    rw [show (n : Int) + 1 = ((n + 1 : Nat) : Int) by omega]
    by_cases z : c 29 n = 0
    · rw [if_neg (fun w => w z)] at hst
      rw [if_pos z, show (0 : Int) = ((0 : Nat) : Int) from rfl, ior_n _ 0 (by omega) (by omega), Nat.or_zero, ← hst]
      exact go
    · rw [if_pos z] at hst
      rw [if_neg z, or_bit _ n (by omega) (by omega), ← hst]
      exact go
theorem op_toDoubt {μ : Mi} (I : Inv μ) {x1 : Int} (r1 : R32 x1) : OpI (D_X6_toDoubt x1) (D_X7_toDoubt x1) μ := by
  have hA := I.1.2.1
  by_cases c1 : 0 < rd μ 0 false 1 ∧ (x1 = 0 ∨ x1 = 1)
  rotate_left
  · refine OpI.same I (-1) ?_ ?_
    · unfold D_X6_toDoubt; rw [isMan_X hA r1, if_pos (yb10 c1)]
    · unfold D_X7_toDoubt; rw [man_M hA rfl rfl r1, if_neg (fun w => w (yb10 c1))]
  obtain ⟨i, e1, e2, e3, e4, e5, e6⟩ := man_of c1
  have hw := WF_of I.1 c1.1 i
  have h2 := WF2_of I.1 i
  have hsz := hw.2.2.2.2.2.2.2.2.1
  obtain ⟨T, m1, a1, a2, a5, a6⟩ := fewest_X I c1.1 (i := i)
  have F := fr_X4_fewestToDoubt a1
  have eF : ∀ r i j, ¬ (r = 1 ∨ r = 4 ∨ (r = 2 ∧ j = 4) ∨ (21 ≤ r ∧ r ≤ 23) ∨ (32 ≤ r ∧ r ≤ 36)) → rd m1 r i j = rd μ r i j := fun r i j h => frQ F (by decide) h
  have M1 : MC m1 i (cr μ i) := (MC_of I.1 c1.1 i).eq (fun r i j h => eF r i j (by omega))
  obtain ⟨u1, u2⟩ := dbt hw h2 a2
  have h256 : 2 ^ (cr μ i 2 3).toNat ≤ 256 := Nat.pow_le_pow_right (n := 2) (by omega) (by omega : (cr μ i 2 3).toNat ≤ 8)
  have g14 := dt_14 (i := i) hw (cr μ i 2 3).toNat FU 0 m1 (by omega) (FU_gt (by omega)) M1
  rw [show dMk (cr μ i) 0 = 0 from rfl, show ((0 : Nat) : Int) = 0 from rfl] at g14
  have hX : D_X6_toDoubt x1 μ = some (if 0 ≤ sv (cr μ i) 0 T then sv (cr μ i) 0 T % 256 else -1, m1) := by
    unfold D_X6_toDoubt
    rw [isMan_X hA r1, if_neg (nb10 c1), e2, a1, bd_k]
  have head : D_X7_toDoubt x1 m1 = B_X7_toDoubt_56 FU (mi i : Int) ((dMk (cr μ i) (cr μ i 2 3).toNat : Nat) : Int) ((0 : Nat) : Int) m1 := by
    unfold D_X7_toDoubt
    rw [man_M hA (eF 7 false 17 (by omega)) (eF 0 false 1 (by omega)) r1, if_pos (fun w => nb10 c1 w), e1]
    exact g14
  have gd : ∀ B, GdS (cr μ i) B → 0 ≤ sv (cr μ i) 0 T ∧ sv (cr μ i) 0 T ≤ (bc B : Int) * 256 + (B : Int) := fun B g => by
    obtain ⟨U, w1, w2⟩ := g.2.2
    exact u1 B U (by have := g.1; omega) w1 w2
  rcases dt_56 (rfl : cr μ i = cr μ i) hw h2 ((cr μ i 2 3).toNat + 1) FU 0 m1 (by omega) (FU_gt (by omega)) M1 with ⟨B, m2, p1, p2, p3, p4⟩ | ⟨p1, m2, p2⟩
  · rw [p4] at head
    obtain ⟨q1, q2⟩ := gd B p1
    obtain ⟨B0, v1, v2, v3, v4⟩ := u2 q1
    obtain ⟨U0, hU0⟩ := DB_ex (rfl : cr μ i = cr μ i) hw h2 (B := B0) (aim := 4) v1 (by omega)
    have g0 : GdS (cr μ i) B0 := ⟨Nat.lt_of_not_le fun w => by
        obtain ⟨q, x1, x2⟩ := Nat.exists_ge_and_testBit_of_ge_two_pow w
        have := (v3 q x2).1
        omega, fun q w => (v3 q w).2, U0, hU0, v4 U0 hU0⟩
    have hmin := p3 B0 g0 (by omega)
    have hb256 := p1.1
    have e : sv (cr μ i) 0 T % 256 = (B : Int) := by omega
    rw [if_pos q1, e] at hX
    exact OpI.q I hX head F (by decide) (fr_X7_toDoubt head) (by decide) a5 a6
  · rw [p2] at head
    have hno : ¬ 0 ≤ sv (cr μ i) 0 T := fun w => by
      obtain ⟨B0, v1, v2, v3, v4⟩ := u2 w
      obtain ⟨U0, hU0⟩ := DB_ex (rfl : cr μ i = cr μ i) hw h2 (B := B0) (aim := 4) v1 (by omega)
      have hlt : B0 < 2 ^ (cr μ i 2 3).toNat := Nat.lt_of_not_le fun w => by
        obtain ⟨q, x1, x2⟩ := Nat.exists_ge_and_testBit_of_ge_two_pow w
        have := (v3 q x2).1
        omega
      have g0 : GdS (cr μ i) B0 := ⟨hlt, fun q w => (v3 q w).2, U0, hU0, v4 U0 hU0⟩
      have hbc : bc B0 ≤ (cr μ i 2 3).toNat := bc_sz hlt (by omega)
      have := p1 B0 g0
      omega
    rw [if_neg hno] at hX
    exact OpI.q I hX head F (by decide) (fr_X7_toDoubt head) (by decide) a5 a6
