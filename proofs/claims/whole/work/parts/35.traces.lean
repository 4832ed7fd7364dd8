/-! PURE: traces: undo, doubt, trace, stamp, paper, look -/
theorem howMany_X {μ : Mi} {i : Bool} (hM : IMan μ i) {w : Int} (hw : 0 ≤ w ∧ w ≤ 2) {z : Nat} (hz : rd μ 2 i 3 = (z : Int)) : D_X2_howMany i w μ = some ((cn (kd μ i w) z : Nat) : Int) := by
  obtain ⟨⟨b1, b2, b3⟩, b4, b5, b6, b7⟩ := hM
  have key : ∀ d n k : Nat, k + d = z → d < n → B_X2_howMany_4 n i w ((cn (kd μ i w) k : Nat) : Int) (k : Int) μ = some ((cn (kd μ i w) z : Nat) : Int) := by
    intro d
    induction d with
    | zero =>
      intro n k hk hn
      obtain ⟨n, rfl⟩ : ∃ q, n = q + 1 := ⟨n - 1, by omega⟩
      rw [B_X2_howMany_4_s, F_X2_howMany_4, hz, wid (x := (z : Int)) (by omega) (by omega), wid (x := (k : Int)) (by omega) (by omega), if_pos (by omega)]
      rw [show k = z by omega]
    | succ d ih =>
      intro n k hk hn
      obtain ⟨n, rfl⟩ : ∃ q, n = q + 1 := ⟨n - 1, by omega⟩
      have hr := (b5 k (by omega)).1.1
      rw [B_X2_howMany_4_s, F_X2_howMany_4, hz, wid (x := (z : Int)) (by omega) (by omega), wid (x := (k : Int)) (by omega) (by omega), if_neg (by omega), if_pos (by omega), ixn k (by omega), wid (x := rd μ 24 i k) (by omega) (by omega), wid (x := w) (by omega) (by omega)]
      have hs : ((k : Int) + 1) = ((k + 1 : Nat) : Int) := by omega
      unfold B_X2_howMany_25
      by_cases c : rd μ 24 i k = w
      · rw [if_neg (by omega), hs]
        have e : ((cn (kd μ i w) k : Nat) : Int) + 1 = ((cn (kd μ i w) (k + 1) : Nat) : Int) := by
          rw [cn, kd, if_pos (by simpa using c)]
          omega
        rw [e]
        exact ih n (k + 1) (by omega) (by omega)
      · rw [if_pos c, hs]
        have e : cn (kd μ i w) k = cn (kd μ i w) (k + 1) := by
          rw [cn, kd, if_neg (by simpa using c)]
          rfl
        rw [e]
        exact ih n (k + 1) (by omega) (by omega)
  exact key z FU 0 (by omega) (FU_gt (by omega))
theorem many_M {m : Mi} {i : Bool} {w : Int} (hw : 0 ≤ w ∧ w ≤ 2) {z : Nat} (hz : rd m 56 false (mi i) = (z : Int)) (hz8 : z ≤ 8) {p : Nat → Bool} (hk : ∀ t, t < z → 0 ≤ rd m 57 false (8 * mi i + t) ∧ rd m 57 false (8 * mi i + t) ≤ 2 ∧ p t = decide (rd m 57 false (8 * mi i + t) = w)) : D_X7_many (mi i : Int) w m = some ((cn p z : Nat) : Int) := by
  have hm := mi_le i
  have key : ∀ d n k : Nat, k + d = z → d < n → B_X7_many_5 n (mi i : Int) w ((cn p k : Nat) : Int) (k : Int) m = some ((cn p z : Nat) : Int) := by
    intro d
    induction d with
    | zero =>
      intro n k hk2 hn
      obtain ⟨n, rfl⟩ : ∃ q, n = q + 1 := ⟨n - 1, by omega⟩
      rw [B_X7_many_5_s, F_X7_many_5, wid (x := (mi i : Int)) (by omega) (by omega), if_pos (by omega), ixn (mi i) (by omega), hz, wid (x := (z : Int)) (by omega) (by omega), wid (x := (k : Int)) (by omega) (by omega), if_pos (by omega)]
      rw [show k = z by omega]
    | succ d ih =>
      intro n k hk2 hn
      obtain ⟨n, rfl⟩ : ∃ q, n = q + 1 := ⟨n - 1, by omega⟩
      obtain ⟨hr1, hr2, hr3⟩ := hk k (by omega)
      have e8 : ix (8 * (mi i : Int) + (k : Int)) = 8 * mi i + k := by
        rw [show 8 * (mi i : Int) + (k : Int) = ((8 * mi i + k : Nat) : Int) by omega, ixn _ (by omega)]
      rw [B_X7_many_5_s, F_X7_many_5, wid (x := (mi i : Int)) (by omega) (by omega), if_pos (by omega), ixn (mi i) (by omega), hz, wid (x := (z : Int)) (by omega) (by omega), wid (x := (k : Int)) (by omega) (by omega), if_neg (by omega), wid (x := 8 * (mi i : Int) + (k : Int)) (by omega) (by omega), if_pos (by omega), e8, wid (x := rd m 57 false (8 * mi i + k)) (by omega) (by omega), wid (x := w) (by omega) (by omega)]
      have hs : ((k : Int) + 1) = ((k + 1 : Nat) : Int) := by omega
      unfold B_X7_many_38
      by_cases c : rd m 57 false (8 * mi i + k) = w
      · rw [if_neg (by omega), hs]
        have e : ((cn p k : Nat) : Int) + 1 = ((cn p (k + 1) : Nat) : Int) := by
          rw [cn, hr3, if_pos (by simpa using c)]
          omega
        rw [e]
        exact ih n (k + 1) (by omega) (by omega)
      · rw [if_pos c, hs]
        have e : ((cn p k : Nat) : Int) + 0 = ((cn p (k + 1) : Nat) : Int) := by
          rw [cn, hr3, if_neg (by simpa using c)]
          omega
        rw [e]
        exact ih n (k + 1) (by omega) (by omega)
  exact key z FU 0 (by omega) (FU_gt (by omega))
/-- a trace comes behind the others, in the class's man -/
def adX (μ : Mi) (i : Bool) (z : Nat) (w p f t o : Int) : Mi := wr (wr (wr (wr (wr (wr (wr (wr μ 24 i z w) 25 i z p) 26 i z f) 27 i z t) 28 i z o) 29 i z 0) 2 i 3 ((z : Int) + 1)) 2 i 4 1
def adM (μ : Mi) (i : Bool) (z : Nat) (w p f t o : Int) : Mi := wr (wr (wr (wr (wr (wr (wr μ 57 false (8 * mi i + z) w) 58 false (8 * mi i + z) p) 59 false (8 * mi i + z) f) 60 false (8 * mi i + z) t) 61 false (8 * mi i + z) o) 62 false (8 * mi i + z) 0) 56 false (mi i) ((z : Int) + 1)
theorem add_X {μ : Mi} {i : Bool} (hM : IMan μ i) {w p f t : Int} (hw : 0 ≤ w ∧ w ≤ 2) {z : Nat} (hz : rd μ 2 i 3 = (z : Int)) : D_X2_add i w p f t μ = if z < 8 ∧ ((cn (kd μ i w) z : Nat) : Int) < D_X2_mostOf w then some ((z : Int), adX μ i z w p f t 0) else some (-1, μ) := by
  have hz8 : (z : Int) ≤ 8 := by rw [← hz]; exact hM.1.2.1
  have hmo : 2 ≤ D_X2_mostOf w ∧ D_X2_mostOf w ≤ 8 := by
    unfold D_X2_mostOf
    split
    · split <;> decide
    · decide
  have hcn := cn_le (kd μ i w) z
  unfold D_X2_add
  rw [hz, wid (x := (z : Int)) (by omega) (by omega)]
  by_cases c : z < 8
  · rw [if_neg (by omega), howMany_X hM hw hz, bp_k, wid (x := ((cn (kd μ i w) z : Nat) : Int)) (by omega) (by omega), wid (x := D_X2_mostOf w) (by omega) (by omega)]
    by_cases c2 : ((cn (kd μ i w) z : Nat) : Int) < D_X2_mostOf w
    · rw [if_pos c2, if_pos (by omega), if_pos (by omega), if_pos (by omega), if_pos (by omega), if_pos (by omega), if_pos (by omega), if_pos ⟨c, c2⟩, ixn z (by omega)]
      unfold adX
      rw [show (z : Int) + 1 - 1 = (z : Int) by omega]
    · rw [if_neg c2, if_neg (fun q => c2 q.2)]
  · rw [if_pos (by omega), if_neg (fun q => c q.1)]
theorem left_M {m : Mi} {i : Bool} {w p f t o : Int} {z : Nat} (hz : rd m 56 false (mi i) = (z : Int)) (hz8 : z ≤ 8) : D_X7_left (mi i : Int) w p f t o m = if z < 8 then some ((z : Int), adM m i z w p f t o) else some (-1, m) := by
  have hm := mi_le i
  have e8 : ix (8 * (mi i : Int) + (z : Int)) = 8 * mi i + z ∨ z = 8 := by
    by_cases c : z = 8
    · exact Or.inr c
    · left
      rw [show 8 * (mi i : Int) + (z : Int) = ((8 * mi i + z : Nat) : Int) by omega, ixn _ (by omega)]
  unfold D_X7_left
  rw [wid (x := (mi i : Int)) (by omega) (by omega), if_pos (by omega), ixn (mi i) (by omega), hz, wid (x := (z : Int)) (by omega) (by omega), wid (x := 8 * (mi i : Int) + (z : Int)) (by omega) (by omega)]
  by_cases c : z < 8
  · rcases e8 with e8 | e8
    · rw [if_pos (by omega), if_pos (by omega), if_pos (by omega), if_pos (by omega), if_pos (by omega), if_pos (by omega), if_pos (by omega), if_pos (by omega), if_pos (by omega), if_pos (by omega), if_pos (by omega), if_pos c, e8]
      unfold adM
      rw [show (z : Int) + 1 - 1 = (z : Int) by omega]
    · omega
  · rw [if_neg (by omega), if_neg c]
/-- the step of a trace that comes -/
theorem add_step {μ : Mi} (h : Inv0 μ) {i : Bool} {w p f t o : Int} {z : Nat} (hz : rd μ 2 i 3 = (z : Int)) (hz8 : z < 8) (hc : (w = 0 → cn (kd μ i 0) z < 6) ∧ (w = 2 → cn (kd μ i 2) z < 2)) (hw : w = 0 ∨ w = 1 ∨ w = 2) (hp : 0 ≤ p ∧ (w = 0 → p < rd μ 0 false 0) ∧ (¬ w = 0 → p < rd μ 0 false 1)) (hf : f ≤ t ∧ (w = 0 → -1 ≤ f ∧ t ≤ 5) ∧ (¬ w = 0 → 0 ≤ f ∧ t ≤ 96) ∧ (w = 1 → t = f)) (ho : o = 0 ∨ o = 1) : Step μ (adM (adX μ i z w p f t o) i z w p f t o) := by
  obtain ⟨hT, hA, hM, hS, hC⟩ := h
  have hm := mi_le i
  refine ⟨⟨hT.tr ?_, hA.tr ?_, fun i' => ?_, hS.tr ?_, chg.tr hC (fun i' => ?_)⟩, fun i' => ?_⟩
  · intros; unfold adM adX; simp (disch := omega) only [rdx]
  · intros; unfold adM adX; simp (disch := omega) only [rdx]
  · by_cases hi : i' = i
    · subst hi
      obtain ⟨⟨b1, b2, b3⟩, b4, b5, b6, b7⟩ := hM i'
      have hs3 : rd (adM (adX μ i' z w p f t o) i' z w p f t o) 2 i' 3 = (z : Int) + 1 := by unfold adM adX; simp (disch := omega) only [rdx, rd_s]
      have hkz : ∀ v : Int, cn (kd (adM (adX μ i' z w p f t o) i' z w p f t o) i' v) (z + 1) = cn (kd μ i' v) z + (if w = v then 1 else 0) := fun v => by
        rw [cn]
        congr 1
        · exact cn_cong z (fun k hk => by unfold kd adM adX; simp (disch := omega) only [rdx])
        · have e : kd (adM (adX μ i' z w p f t o) i' z w p f t o) i' v z = decide (w = v) := by unfold kd adM adX; simp (disch := omega) only [rdx, rd_s]
          rw [e]
          by_cases q : w = v
          · rw [if_pos q, if_pos (by simpa using q)]
          · rw [if_neg q, if_neg (by simpa using q)]
      refine ⟨?_, ?_, ?_, ?_, ?_⟩
      · rw [hs3]
        refine ⟨by omega, by omega, ?_⟩
        unfold adM; rw [rd_s]
      · intro ht
        have ht' : 0 < rd μ 0 false 1 := by unfold adM adX at ht; simpa (disch := omega) only [rdx] using ht
        have := b4 ht'
        unfold adM adX
        simp (disch := omega) only [rdx]
        exact this
      · intro k hk
        rw [hs3] at hk
        by_cases e : k = z
        · subst e
          unfold ITr ITm adM adX
          simp (disch := omega) only [rdx, rd_s]
          exact ⟨⟨hw, hp.1, hp.2.1, hp.2.2, hf.1, hf.2.1, hf.2.2.1, hf.2.2.2, ho, Or.inl trivial⟩, by decide⟩
        · obtain ⟨q1, q2⟩ := b5 k (by omega)
          unfold ITr at q1
          unfold ITm at q2
          unfold ITr ITm adM adX
          simp (disch := omega) only [rdx, rd_s]
          exact ⟨q1, q2⟩
      · rw [hs3, show ((z : Int) + 1).toNat = z + 1 by omega, hkz]
        rw [hz, show ((z : Int)).toNat = z by omega] at b6
        split
        · rename_i q; have := hc.1 q; omega
        · omega
      · rw [hs3, show ((z : Int) + 1).toNat = z + 1 by omega, hkz]
        rw [hz, show ((z : Int)).toNat = z by omega] at b7
        split
        · rename_i q; have := hc.2 q; omega
        · omega
    · have hne := mi_ne hi
      have hm' := mi_le i'
      refine (hM i').tr ?_ ?_ ?_
      · intro r k q; unfold adM adX; simp (disch := omega) only [rdx, rdi hi]
      · intro r k q; unfold adM adX; simp (disch := omega) only [rdx]
      · intros; unfold adM adX; simp (disch := omega) only [rdx]
  · intros; unfold adM adX; simp (disch := omega) only [rdx]
  · by_cases hi : i' = i
    · subst hi
      right
      unfold adM adX; simp (disch := omega) only [rdx, rd_s]
    · left
      unfold adM adX; simp (disch := omega) only [rdx, rdi hi]
  · by_cases hi : i' = i
    · subst hi
      left
      unfold adM adX; simp (disch := omega) only [rdx, rd_s]
    · refine Kp.of ?_ ?_
      · intros; unfold adM adX; simp (disch := omega) only [rdx]
      · intro r k q; unfold adM adX; simp (disch := omega) only [rdx, rdi hi]
