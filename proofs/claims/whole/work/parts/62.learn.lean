/-! PURE: learning, and what is known -/
def rdK (k r j : Nat) : Prop := (k ≤ 3 ∧ r = 22 ∧ j = k) ∨ (k = 4 ∧ ((r = 1 ∧ j = 1) ∨ r = 21)) ∨ (k = 5 ∧ r = 1 ∧ j = 3) ∨ (k = 6 ∧ ((r = 1 ∧ j = 2) ∨ r = 23)) ∨ (7 ≤ k ∧ r = 1 ∧ j = 4)
theorem KN_cong {k : Nat} {c f g : Co} (h : ∀ r j, rdK k r j → g r j = f r j) (K : KN k c f) : KN k c g := by
  unfold rdK at h
  unfold KN at K ⊢
  by_cases h3 : k ≤ 3
  · rw [if_pos h3] at K ⊢
    unfold KE at K ⊢
    rw [h 22 k (by omega)]
    exact K
  · rw [if_neg h3] at K ⊢
    by_cases h4 : k = 4
    · rw [if_pos h4] at K ⊢
      have e : ∀ j, g 21 j = f 21 j := fun j => h 21 j (by omega)
      unfold KW at K ⊢
      simp only [h 1 1 (by omega), e]
      exact K
    · rw [if_neg h4] at K ⊢
      by_cases h5 : k = 5
      · rw [if_pos h5] at K ⊢
        unfold KD at K ⊢
        rw [h 1 3 (by omega)]
        exact K
      · rw [if_neg h5] at K ⊢
        by_cases h6 : k = 6
        · rw [if_pos h6] at K ⊢
          have e : ∀ j, g 23 j = f 23 j := fun j => h 23 j (by omega)
          unfold KT at K ⊢
          simp only [h 1 2 (by omega), e]
          exact K
        · rw [if_neg h6] at K ⊢
          unfold KF at K ⊢
          rw [h 1 4 (by omega)]
          exact K
theorem bit_one (n k : Nat) : (n ||| 2 ^ k).testBit k = true := by
  rw [Nat.testBit_or, Nat.testBit_two_pow_self, Bool.or_true]
theorem bit_oth {n k q : Nat} (h : ¬ q = k) (hb : (n ||| 2 ^ k).testBit q = true) : n.testBit q = true := by
  rw [Nat.testBit_or, Nat.testBit_two_pow] at hb
  have : decide (k = q) = false := by simp; omega
  rw [this, Bool.or_false] at hb
  exact hb
theorem fdx {μ : Mi} {i : Bool} {r j : Nat} (h : r = 1 ∨ (21 ≤ r ∧ r ≤ 23)) : fd μ i r j = rd μ r i j := by
  unfold fd
  rw [if_pos h]
theorem mustLearn_X {μ : Mi} {i : Bool} (I0 : Inv0 μ) (C : Ch μ i) (h0 : 0 < rd μ 0 false 1) {k : Nat} (hk : k < 8) : ∃ b m n, D_X4_mustLearn i (k : Int) μ = some (b, m) ∧ (b = 0 ∨ b = 1) ∧ (∀ r j q, ¬ (j = i ∧ ((r = 2 ∧ q = 4) ∨ (r = 1 ∧ q = 0))) → rd m r j q = rd μ r j q) ∧ rd m 2 i 4 = 0 ∧ n < 256 ∧ rd m 1 i 0 = ((n ||| 2 ^ k : Nat) : Int) ∧ (b = 0 → n.testBit k = true) ∧ ∀ q, q < 8 → n.testBit q = true → KN q (cr μ i) (fd μ i) := by
  unfold D_X4_mustLearn
  rcases I0.2.2.2.2 i with z | z
  · obtain ⟨n, n1, n2, n3⟩ := C h0 z
    rw [z, if_pos (by decide)]
    have key : ∀ b : Int, isB b → (b = 0 ∨ b = 1) → (b = 0 → n.testBit k = true) → ∃ b' m n', B_X4_mustLearn_45 i (k : Int) b μ = some (b', m) ∧ (b' = 0 ∨ b' = 1) ∧ (∀ r j q, ¬ (j = i ∧ ((r = 2 ∧ q = 4) ∨ (r = 1 ∧ q = 0))) → rd m r j q = rd μ r j q) ∧ rd m 2 i 4 = 0 ∧ n' < 256 ∧ rd m 1 i 0 = ((n' ||| 2 ^ k : Nat) : Int) ∧ (b' = 0 → n'.testBit k = true) ∧ ∀ q, q < 8 → n'.testBit q = true → KN q (cr μ i) (fd μ i) := fun b hb h1 h2 => by
      refine ⟨b, wr μ 1 i 0 ((n ||| 2 ^ k : Nat) : Int), n, ?_, h1, fun r j q h => ?_, ?_, n1, rd_s, h2, n3⟩
      · unfold B_X4_mustLearn_45
        rw [if_pos hb, n2, or_bit n k (by omega) (by omega)]
      · rw [rd_wr, if_neg (fun w => h ⟨w.2.1, Or.inr ⟨w.1, w.2.2⟩⟩)]
      · rw [rdx (by omega)]; exact z
    unfold B_X4_mustLearn_26
    rw [n2, bit_n n k (by omega) (by omega)]
    by_cases y : n.testBit k = true
    · rw [if_pos y, if_pos (by decide)]
      exact key 0 isB_0 (Or.inl rfl) (fun _ => y)
    · rw [if_neg y, if_neg (by decide)]
      exact key 1 isB_1 (Or.inr rfl) (fun w => by omega)
  · rw [z, if_neg (by decide)]
    refine ⟨1, wr (wr (wr μ 2 i 4 0) 1 i 0 0) 1 i 0 ((0 ||| 2 ^ k : Nat) : Int), 0, ?_, Or.inr rfl, fun r j q h => ?_, ?_, by omega, rd_s, fun w => by omega, fun q _ w => by rw [Nat.zero_testBit] at w; cases w⟩
    · unfold B_X4_mustLearn_26
      rw [rd_s, show (0 : Int) = ((0 : Nat) : Int) from rfl, bit_n 0 k (by omega) (by omega), Nat.zero_testBit, if_neg (show ¬ (false = true) by decide), if_neg (by decide)]
      unfold B_X4_mustLearn_45
      rw [if_pos isB_1, rd_s, or_bit 0 k (by omega) (by omega)]
    · rw [rd_wr, if_neg (fun w => h ⟨w.2.1, Or.inr ⟨w.1, w.2.2⟩⟩), rd_wr, if_neg (fun w => h ⟨w.2.1, Or.inr ⟨w.1, w.2.2⟩⟩), rd_wr, if_neg (fun w => h ⟨w.2.1, Or.inl ⟨w.1, w.2.2⟩⟩)]
    · rw [rdx (by omega), rdx (by omega), rd_s]
/-- once learnt -/
theorem Ch.put {μ m : Mi} {i : Bool} {k n : Nat} (hk : k < 8) (hn : n < 256) (h1 : cr m i = cr μ i) (h2 : rd m 1 i 0 = ((n ||| 2 ^ k : Nat) : Int)) (h3 : KN k (cr μ i) (fd m i)) (h4 : ∀ q, q < 8 → n.testBit q = true → KN q (cr μ i) (fd μ i)) (h5 : ∀ q r j, q < 8 → ¬ q = k → rdK q r j → rd m r i j = rd μ r i j) : Ch m i := by
  intro _ _
  have h256 : 2 ^ k < 256 := Nat.lt_of_lt_of_le (Nat.pow_lt_pow_right (by omega) hk) (by decide)
  refine ⟨n ||| 2 ^ k, Nat.or_lt_two_pow (n := 8) hn h256, h2, fun q hq hb => ?_⟩
  rw [h1]
  by_cases e : q = k
  · rw [e]; exact h3
  · refine KN_cong (fun r j hr => ?_) (h4 q hq (bit_oth e hb))
    have hr2 : r = 1 ∨ (21 ≤ r ∧ r ≤ 23) := by unfold rdK at hr; omega
    rw [fdx hr2, fdx hr2]
    exact h5 q r j hq e hr
/-- a question changes nothing that matters -/
theorem Inv0.q {μ m : Mi} (I : Inv0 μ) (e : ∀ r i j, ¬ (r = 1 ∨ r = 4 ∨ (r = 2 ∧ j = 4) ∨ (21 ≤ r ∧ r ≤ 23) ∨ (32 ≤ r ∧ r ≤ 36)) → r < 65 → ¬ (r = 7 ∧ 33 ≤ j) → rd m r i j = rd μ r i j) (e4 : ∀ i, rd m 2 i 4 = 0 ∨ rd m 2 i 4 = 1) : Inv0 m := by
  obtain ⟨hT, hA, hM, hS, hC⟩ := I
  refine ⟨hT.tr (fun r i j h => e r i j (by omega) (by omega) (by omega)), hA.tr (fun r i j h => e r i j (by omega) (by omega) (by omega)), fun i => (hM i).tr (fun r j h => e r i j (by omega) (by omega) (by omega)) (fun r j h => e r false j (by omega) (by omega) (by omega)) (fun j h => e 0 false j (by omega) (by omega) (by omega)), hS.tr (fun r i j h => e r i j (by omega) (by omega) (by omega)), e4⟩
theorem cr_eq {μ m : Mi} {i : Bool} (e : ∀ r i j, r = 0 ∨ (10 ≤ r ∧ r ≤ 20) ∨ (r = 2 ∧ j < 4) ∨ (24 ≤ r ∧ r ≤ 29) → rd m r i j = rd μ r i j) : cr m i = cr μ i := by
  funext r j
  unfold cr
  split
  · exact e r false j (by omega)
  · split
    · exact e r i j (by omega)
    · rfl
theorem fd_eq {μ m : Mi} {i : Bool} (e : ∀ r j, r = 1 ∨ (21 ≤ r ∧ r ≤ 23) → rd m r i j = rd μ r i j) : fd m i = fd μ i := by
  funext r j
  unfold fd
  split
  · exact e r j (by assumption)
  · rfl
/-- there is a table for every aim -/
theorem DB_ex {μ : Mi} {i : Bool} {c : Co} (hc : cr μ i = c) (hw : WF c) (h2 : WF2 c) {B aim : Nat} (hB : B < 256) (ha : aim ≤ 5) : ∃ T, DB aim c B T := by
  obtain ⟨m2, m3, N, ce, a1, a2, a3, a4, a5, a6⟩ := learn_X hc hw h2 hB ha
  exact ⟨_, a4⟩
theorem sv_m1 {c : Co} (hw : WF c) (h2 : WF2 c) {B aim : Nat} {T : Tb} (D : DB aim c B T) : -1 ≤ sv c B T := by
  have hen := hw.2.2.2.2.2.2.2.1
  exact (Tm_rng hw (Sk_of hw h2 B) D (by omega) (sK_VM (S := SL c B) (pm := PM c B) hw (Sk_of hw h2 B)).1).1
theorem sv_sgn {c : Co} (hw : WF c) (h2 : WF2 c) {B a b : Nat} (ha : a ≤ 4) (hb : b ≤ 4) {T U : Tb} (D : DB a c B T) (E : DB b c B U) : 0 ≤ sv c B T ↔ 0 ≤ sv c B U := by
  have hen := hw.2.2.2.2.2.2.2.1
  have hs := Sk_of hw h2 B
  obtain ⟨vs, s1, -⟩ := sK_VM (S := SL c B) (pm := PM c B) hw hs
  unfold sv
  by_cases hp : pMs c (PM c B) 0 (c 2 0).toNat = 0
  · exact Tm_sgn ha hb hw hs D E (c 2 2).toNat 0 _ (by omega) (by omega) vs (by rw [s1]; exact hp)
  · have h3 := T_miss ha D (by omega) (vs.vd hw hs) (by rw [s1]; exact hp)
    have h4 := T_miss hb E (by omega) (vs.vd hw hs) (by rw [s1]; exact hp)
    unfold Tm
    omega
theorem sv_4p {c : Co} (hw : WF c) (h2 : WF2 c) {B : Nat} {T : Tb} (D : DB 4 c B T) : sv c B T = -1 ∨ 1 ≤ sv c B T := by
  have hen := hw.2.2.2.2.2.2.2.1
  have hs := Sk_of hw h2 B
  obtain ⟨vs, s1, -⟩ := sK_VM (S := SL c B) (pm := PM c B) hw hs
  unfold sv
  by_cases hp : pMs c (PM c B) 0 (c 2 0).toNat = 0
  · exact Tm_4p hw hs D (c 2 2).toNat 0 _ (by omega) (by omega) vs (by rw [s1]; exact hp)
  · have h3 := T_miss (by omega) D (by omega) (vs.vd hw hs) (by rw [s1]; exact hp)
    unfold Tm
    omega
/-- the class's extreme -/
theorem extremeOf_X {μ : Mi} {i : Bool} (I : Inv μ) (h0 : 0 < rd μ 0 false 1) {aim : Nat} (ha : aim ≤ 3) : ∃ v m, D_X4_extremeOf i (aim : Int) μ = some (v, m) ∧ (∃ T, DB aim (cr μ i) 0 T ∧ v = sv (cr μ i) 0 T) ∧ cr m i = cr μ i ∧ Ch m i ∧ rd m 2 i 4 = 0 := by
  have hw := WF_of I.1 h0 i
  have h2 := WF2_of I.1 i
  obtain ⟨b, m1, n, a1, a2, a3, a4, a5, a6, a7, a8⟩ := mustLearn_X I.1 (I.2 i) h0 (k := aim) (by omega)
  have hc1 : cr m1 i = cr μ i := cr_eq (fun r j q h => a3 r j q (by omega))
  have hax : 0 ≤ (aim : Int) ∧ (aim : Int) < 4 := by omega
  unfold D_X4_extremeOf
  rw [wid (x := (aim : Int)) (by omega) (by omega), if_neg (by omega), if_pos (by omega), a1, bd_k]
  rcases a2 with rfl | rfl
  · rw [if_pos (by decide)]
    have K := a8 aim (by omega) (a7 rfl)
    have K2 := K
    unfold KN at K
    rw [if_pos ha] at K
    obtain ⟨T, k1, k2⟩ := K
    refine ⟨sv (cr μ i) 0 T, m1, ?_, ⟨T, k1, rfl⟩, hc1, ?_, a4⟩
    · unfold B_X4_extremeOf_42
      rw [wid (x := (aim : Int)) (by omega) (by omega), if_pos hax, ixn aim (by omega), a3 22 i aim (by omega), ← fdx (by omega), k2]
    · refine Ch.put (by omega) a5 hc1 a6 (KN_cong (fun r j hr => ?_) K2) a8 (fun q r j hq hne hr => a3 r i j (by unfold rdK at hr; omega))
      have hr2 : r = 1 ∨ (21 ≤ r ∧ r ≤ 23) := by unfold rdK at hr; omega
      rw [fdx hr2, fdx hr2]
      exact a3 r i j (by unfold rdK at hr; omega)
  · rw [if_neg (by decide)]
    obtain ⟨m2, m3, N, ce, b1, b2, b3, b4, b5, b6⟩ := learn_X hc1 hw h2 (B := 0) (aim := aim) (by omega) (by omega)
    rw [show ((0 : Nat) : Int) = 0 from rfl] at b1
    have hc4 : cr (wr m3 22 i aim (Tm (cr μ i) (tb m3) 0 (sK (cr μ i) (LL (cr μ i) 0)))) i = cr μ i := by
      rw [← hc1]
      exact cr_eq (fun r j q h => by rw [rdx (by omega)]; exact b6 r j q (by omega) (by omega))
    refine ⟨sv (cr μ i) 0 (tb m3), wr m3 22 i aim (Tm (cr μ i) (tb m3) 0 (sK (cr μ i) (LL (cr μ i) 0))), ?_, ⟨_, b4, rfl⟩, hc4, ?_, ?_⟩
    · rw [b1, bm_k, b2, bm_k, b5, bp_k, if_pos hax]
      unfold B_X4_extremeOf_42
      rw [wid (x := (aim : Int)) (by omega) (by omega), if_pos hax, ixn aim (by omega), rd_s]
      rfl
    · refine Ch.put (k := aim) (by omega) a5 hc4 ?_ ?_ a8 (fun q r j hq hne hr => ?_)
      · rw [rdx (by omega), b6 1 i 0 (by omega) (by omega), a6]
      · unfold KN
        rw [if_pos ha]
        exact ⟨tb m3, b4, by rw [fdx (by omega), rd_s]; rfl⟩
      · unfold rdK at hr
        rw [rdx (by omega), b6 r i j (by omega) (by omega), a3 r i j (by omega)]
    · rw [rdx (by omega), b6 2 i 4 (by omega) (by omega), a4]
