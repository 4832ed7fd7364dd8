/-! PURE: the reference's away -/
theorem sv_ub {c : Co} (hw : WF c) (h2 : WF2 c) {B : Nat} {T : Tb} (D : DB 4 c B T) : sv c B T ≤ 1000000000 := by
  have hen := hw.2.2.2.2.2.2.2.1
  exact (Tm_4 hw (Sk_of hw h2 B) D (by omega) (sK_VM (S := SL c B) (pm := PM c B) hw (Sk_of hw h2 B)).1).2
theorem fw_rng {c : Co} {T : Tb} {W : Nat → Tb} (hw : WF c) (h2 : WF2 c) (D : DB 4 c 0 T) (E : ∀ n : Nat, (n : Int) < c 2 3 → DB 4 c (2 ^ n) (W n)) : ∀ n : Nat, (n : Int) ≤ c 2 3 → 0 ≤ (fw c T W n).1 ∧ (fw c T W n).1 ≤ 1000000000
  | 0, _ => by
    have := sv_ub hw h2 D
    rw [fw]
    exact ⟨by show 0 ≤ max 0 (sv c 0 T); omega, by show max 0 (sv c 0 T) ≤ 1000000000; omega⟩
  | n + 1, hn => by
    have ih := fw_rng hw h2 D E n (by omega)
    have := sv_ub hw h2 (E n (by omega))
    rw [fw]
    split
    · exact ih
    · split
      · exact ih
      · exact ⟨by show 0 ≤ sv c (2 ^ n) (W n); omega, by show sv c (2 ^ n) (W n) ≤ 1000000000; omega⟩
theorem away_26 {i : Bool} {c : Co} {T : Tb} {W : Nat → Tb} (hw : WF c) (h2 : WF2 c) (D : DB 4 c 0 T) (E : ∀ n : Nat, (n : Int) < c 2 3 → DB 4 c (2 ^ n) (W n)) : ∀ (d n x : Nat) (μ : Mi), x + d = (c 2 3).toNat → d < n → MC μ i c → ∃ m, B_X7_away_26 n (mi i : Int) (fw c T W x).1 (fw c T W x).2 (x : Int) μ = some ((fw c T W (c 2 3).toNat).2, m) := by
  have hsz := hw.2.2.2.2.2.2.2.2.1
  have hm := mi_le i
  intro d
  induction d with
  | zero =>
    intro n x μ hx hn M
    obtain ⟨n, rfl⟩ : ∃ q, n = q + 1 := ⟨n - 1, by omega⟩
    refine ⟨μ, ?_⟩
    rw [B_X7_away_26_s, F_X7_away_26, wid (x := (mi i : Int)) (by omega) (by omega), if_pos (by omega), ixn (mi i) (by omega), M.2.2.2.2.1.2.2.2, wid (x := c 2 3) (by omega) (by omega), wid (x := (x : Int)) (by omega) (by omega), if_pos (by omega), show x = (c 2 3).toNat by omega]
  | succ d ih =>
    intro n x μ hx hn M
    obtain ⟨n, rfl⟩ : ∃ q, n = q + 1 := ⟨n - 1, by omega⟩
    have hxl : (x : Int) < c 2 3 := by omega
    obtain ⟨t1, t2, t3, t4, t5, t6⟩ := hw.2.2.2.2.2.2.2.2.2 x hxl
    obtain ⟨e57, e58, e59, e60, e61, e62⟩ := M.2.2.2.2.2 x hxl
    have hb := fw_rng hw h2 D E x (by omega)
    have hfw : fw c T W (x + 1) = if ¬ c 29 x = 0 then fw c T W x else if sv c (2 ^ x) (W x) ≤ (fw c T W x).1 then fw c T W x else (sv c (2 ^ x) (W x), (x : Int)) := rfl
    obtain ⟨X, hX⟩ : ∃ X, X = 8 * mi i + x := ⟨_, rfl⟩
    rw [← hX] at e62
    have e85 : ∀ a b m, B_X7_away_85 (B_X7_away_26 n) (mi i : Int) a b (x : Int) m = B_X7_away_26 n (mi i : Int) a b ((x + 1 : Nat) : Int) m := fun a b m => by
      unfold B_X7_away_85
      rw [show (x : Int) + 1 = ((x + 1 : Nat) : Int) by omega]
    rw [B_X7_away_26_s, F_X7_away_26, wid (x := (mi i : Int)) (by omega) (by omega), if_pos (by omega), ixn (mi i) (by omega), M.2.2.2.2.1.2.2.2, wid (x := c 2 3) (by omega) (by omega), wid (x := (x : Int)) (by omega) (by omega), if_neg (by omega), show 8 * (mi i : Int) + (x : Int) = (X : Int) by omega, wid (x := (X : Int)) (by omega) (by omega), if_pos (by omega), ixn X (by omega), e62, wid (x := c 29 x) (by omega) (by omega)]
    by_cases z : c 29 x = 0
    · rw [if_pos z, ishl1 x (by omega)]
      have h256 : 2 ^ x < 256 := Nat.lt_of_lt_of_le (Nat.pow_lt_pow_right (by omega) (by omega : x < 8)) (by decide)
      obtain ⟨m2, a1, a2⟩ := sets_M M hw h2 h256
      obtain ⟨m3, d1, d2, d3⟩ := counts_M a2 (E x hxl)
      have hu := sv_ub hw h2 (E x hxl)
      have ed : Tm c (W x) 0 (sK c (LL c (2 ^ x))) = sv c (2 ^ x) (W x) := rfl
      rw [ed] at d1
      rw [a1, bm_k, d1, bd_k, wid (x := (fw c T W x).1) (by omega) (by omega), wid (x := max 0 (sv c (2 ^ x) (W x))) (by omega) (by omega), e85, e85]
      have go := ih n (x + 1) m3 (by omega) (by omega) d2.1
      rw [hfw, if_neg (fun w => w z)] at go
      by_cases y : sv c (2 ^ x) (W x) ≤ (fw c T W x).1
      · rw [if_neg (by omega)]
        rw [if_pos y] at go
        exact go
      · rw [if_pos (by omega), show max 0 (sv c (2 ^ x) (W x)) = sv c (2 ^ x) (W x) by omega]
        rw [if_neg y] at go
        exact go
    · rw [if_neg z, e85]
      have go := ih n (x + 1) μ (by omega) (by omega) M
      rw [hfw, if_pos z] at go
      exact go
