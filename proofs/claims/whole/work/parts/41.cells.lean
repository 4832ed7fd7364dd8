/-! PURE: cells and what comes behind them -/
/-- slept l, town t, s stamps, looks e -/
def mk4 (l t s e : Nat) : Nat := l * 256 + t * 32 + s * 4 + e
theorem or4 (a e m : Nat) (he : e < 4) (hm : m < 4) : (4 * a + e) ||| m = 4 * a + (e ||| m) := by
  have h1 : 4 * a + e = 4 * a ||| e := Nat.two_pow_add_eq_or_of_lt (i := 2) (by omega) a
  have h2 : e ||| m < 2 ^ 2 := Nat.or_lt_two_pow (by omega) (by omega)
  have h3 : 4 * a + (e ||| m) = 4 * a ||| (e ||| m) := Nat.two_pow_add_eq_or_of_lt (i := 2) h2 a
  rw [h1, h3, Nat.or_assoc]
theorem or_lt4 {e m : Nat} (he : e < 4) (hm : m < 4) : e ||| m < 4 := Nat.or_lt_two_pow (n := 2) (by omega) (by omega)
/-- a state that can be: the search's numbers -/
def Vs (l t s e : Nat) : Prop := l ≤ 4 ∧ t < 8 ∧ s ≤ 6 ∧ e < 4
theorem mk4_lt {l t s e : Nat} (v : Vs l t s e) : mk4 l t s e < 1280 := by
  obtain ⟨h1, h2, h3, h4⟩ := v
  unfold mk4
  omega
theorem i_idiv {a : Nat} (d : Nat) (h1 : a ≤ 2147483647) (hd : 0 < d) (hd2 : d ≤ 2147483647) : idiv (a : Int) (d : Int) = ((a / d : Nat) : Int) := by rw [idiv_n d (by omega) (by omega) hd hd2]; rfl
theorem i_irem {a : Nat} (d : Nat) (h1 : a ≤ 2147483647) (hd : 0 < d) (hd2 : d ≤ 2147483647) : irem (a : Int) (d : Int) = ((a % d : Nat) : Int) := by rw [irem_n d (by omega) (by omega) hd hd2]; rfl
theorem idiv256 {a : Nat} (h1 : a ≤ 2147483647) : idiv (a : Int) 256 = ((a / 256 : Nat) : Int) := i_idiv 256 h1 (by omega) (by omega)
theorem irem256 {a : Nat} (h1 : a ≤ 2147483647) : irem (a : Int) 256 = ((a % 256 : Nat) : Int) := i_irem 256 h1 (by omega) (by omega)
theorem idiv24 {a : Nat} (h1 : a ≤ 2147483647) : idiv (a : Int) 24 = ((a / 24 : Nat) : Int) := i_idiv 24 h1 (by omega) (by omega)
theorem irem24 {a : Nat} (h1 : a ≤ 2147483647) : irem (a : Int) 24 = ((a % 24 : Nat) : Int) := i_irem 24 h1 (by omega) (by omega)
theorem townOf_X {l t s e : Nat} (v : Vs l t s e) : D_X4_townOf ((mk4 l t s e : Nat) : Int) = (t : Int) := by
  have hl := mk4_lt v
  obtain ⟨h1, h2, h3, h4⟩ := v
  have e1 : idiv ((mk4 l t s e : Nat) : Int) 32 = ((mk4 l t s e / 32 : Nat) : Int) := i_idiv 32 (by omega) (by omega) (by omega)
  have e2 : irem ((mk4 l t s e / 32 : Nat) : Int) 8 = ((mk4 l t s e / 32 % 8 : Nat) : Int) := i_irem 8 (by omega) (by omega) (by omega)
  unfold D_X4_townOf
  rw [e1, e2]
  unfold mk4
  omega
theorem stampsOf_X {l t s e : Nat} (v : Vs l t s e) : D_X4_stampsOf ((mk4 l t s e : Nat) : Int) = (s : Int) := by
  have hl := mk4_lt v
  obtain ⟨h1, h2, h3, h4⟩ := v
  have e1 : irem ((mk4 l t s e : Nat) : Int) 32 = ((mk4 l t s e % 32 : Nat) : Int) := i_irem 32 (by omega) (by omega) (by omega)
  have e2 : idiv ((mk4 l t s e % 32 : Nat) : Int) 4 = ((mk4 l t s e % 32 / 4 : Nat) : Int) := i_idiv 4 (by omega) (by omega) (by omega)
  unfold D_X4_stampsOf
  rw [e1, e2]
  unfold mk4
  omega
theorem cellOf_X (l t s e : Nat) : D_X4_cellOf (l : Int) (t : Int) (s : Int) (e : Int) = ((mk4 l t s e : Nat) : Int) := by
  unfold D_X4_cellOf mk4
  omega
theorem min_X {a b : Int} (ha : w32 a = a) (hb : w32 b = b) : D_J9_min_7cf53 a b = min a b := by
  unfold D_J9_min_7cf53
  rw [ha, hb]
  split <;> omega
theorem max_X {a b : Int} (ha : w32 a = a) (hb : w32 b = b) : D_J9_max_7cf53 a b = max a b := by
  unfold D_J9_max_7cf53
  rw [ha, hb]
  split <;> omega
/-- where the table holds a cell of the hour h -/
def ixT (h : Nat) : Nat := h / 24 * 52 + h % 24 + 4 * (min (h % 24) 8 - 1)
theorem index_X (h x : Nat) (hh : h ≤ 1000) (hx : x ≤ 100000) : D_X4_index (h : Int) (x : Int) = ((ixT h * 256 + x : Nat) : Int) := by
  have h24 : h % 24 < 24 := Nat.mod_lt _ (by omega)
  unfold D_X4_index ixT
  rw [idiv24 (by omega), irem24 (by omega), min_X (wid (by omega) (by omega)) (by decide), max_X (by decide) (wid (by omega) (by omega))]
  omega
/-- hours slept behind an hour in which he stays; below 0: too few -/
def nS (c : Co) (h l : Nat) : Int := if h % 24 < 8 then (if h % 24 = 7 then (if c 2 1 ≤ min (c 2 1) ((l : Int) + 1) then 0 else -1) else min (c 2 1) ((l : Int) + 1)) else (l : Int)
theorem nS_rng {c : Co} (hw : WF c) (h l : Nat) (hl : l ≤ 4) : -1 ≤ nS c h l ∧ nS c h l ≤ 4 := by
  have := hw.2.2.2.2.2.2.1
  unfold nS
  split
  · split
    · split <;> omega
    · omega
  · omega
theorem afterStay_X {μ : Mi} {i : Bool} {c : Co} {S L : List Nat} {pm : Nat} (P : Pr μ i c S L pm) {h l t s e : Nat} (hh : h ≤ 200) (v : Vs l t s e) : D_X4_afterStay i (h : Int) ((mk4 l t s e : Nat) : Int) μ = some (if nS c h l < 0 then -1 else ((mk4 (nS c h l).toNat t s (e ||| sa c L (h + 1) t) : Nat) : Int)) := by
  have hlt := mk4_lt v
  have hv := v
  obtain ⟨v1, v2, v3, v4⟩ := v
  have hc := P.1
  have hw := P.2.1
  have hs := P.2.2.1
  have hslp := hw.2.2.2.2.2.2.1
  have hrng := nS_rng hw h l v1
  have h24 : h % 24 < 24 := Nat.mod_lt _ (by omega)
  have hsa := sa_lt (h := h + 1) (t := t) hs
  have h57 : ∀ x : Int, -1 ≤ x → x ≤ 4 → B_X4_afterStay_57 i (h : Int) ((mk4 l t s e : Nat) : Int) x μ = some (if x < 0 then -1 else ((mk4 x.toNat t s (e ||| sa c L (h + 1) t) : Nat) : Int)) := by
    intro x hx1 hx2
    unfold B_X4_afterStay_57
    rw [wid (x := x) (by omega) (by omega)]
    by_cases q : 0 ≤ x
    · obtain ⟨y, rfl⟩ : ∃ y : Nat, x = (y : Int) := ⟨x.toNat, by omega⟩
      rw [if_pos q, if_neg (by omega), townOf_X hv, show (h : Int) + 1 = ((h + 1 : Nat) : Int) by omega, seenAt_X P (h + 1) t (by omega) (by omega), bp_k, irem256 (by omega)]
      have e1 : (y : Int) * 256 + ((mk4 l t s e % 256 : Nat) : Int) = ((4 * (y * 64 + t * 8 + s) + e : Nat) : Int) := by
        unfold mk4
        omega
      rw [e1, ior_n _ _ (by omega) (by omega), or4 _ e _ v4 hsa]
      congr 2
      unfold mk4
      omega
    · rw [if_neg q, if_pos (by omega)]
  have e256 : idiv ((mk4 l t s e : Nat) : Int) 256 = (l : Int) := by
    rw [idiv256 (by omega)]
    unfold mk4
    omega
  have h33 : ∀ x : Int, -1 ≤ x → x ≤ 4 → B_X4_afterStay_33 i (h : Int) ((mk4 l t s e : Nat) : Int) x (((h % 24 : Nat)) : Int) μ = some (if (if h % 24 = 7 then (if c 2 1 ≤ x then (0 : Int) else -1) else x) < 0 then -1 else ((mk4 (if h % 24 = 7 then (if c 2 1 ≤ x then (0 : Int) else -1) else x).toNat t s (e ||| sa c L (h + 1) t) : Nat) : Int)) := by
    intro x hx1 hx2
    unfold B_X4_afterStay_33
    rw [wid (x := ((h % 24 : Nat) : Int)) (by omega) (by omega), wid (x := x) (by omega) (by omega), cm P.1 (r := 2) (by omega), wid (x := c 2 1) (by omega) (by omega)]
    by_cases q : h % 24 = 7
    · rw [if_neg (by omega)]
      simp only [if_pos q]
      unfold B_X4_afterStay_56
      by_cases q2 : c 2 1 ≤ x
      · simp only [if_pos q2]
        exact h57 0 (by omega) (by omega)
      · simp only [if_neg q2]
        exact h57 (-1) (by omega) (by omega)
    · rw [if_pos (by omega)]
      simp only [if_neg q]
      exact h57 x hx1 hx2
  unfold D_X4_afterStay
  rw [irem24 (by omega), e256, wid (x := ((h % 24 : Nat) : Int)) (by omega) (by omega)]
  by_cases q : h % 24 < 8
  · rw [if_neg (by omega), cm P.1 (r := 2) (by omega), min_X (wid (by omega) (by omega)) (wid (by omega) (by omega)), h33 _ (by omega) (by omega)]
    unfold nS
    simp only [if_pos q]
  · rw [if_pos (by omega), h33 _ (by omega) (by omega)]
    unfold nS
    simp only [if_neg q, if_neg (show ¬ h % 24 = 7 by omega)]
/-- hours slept behind a link that leaves at h and comes at g; below 0: too few -/
def nK (c : Co) (h g l : Nat) : Int := if h % 24 < 8 ∧ g < h - h % 24 + 8 then (l : Int) else if (h % 24 < 8 ∧ (l : Int) < c 2 1) ∨ (0 < c 2 1 ∧ h - h % 24 + 32 ≤ g) then -1 else 0
theorem sleptAfter_X {μ : Mi} {i : Bool} {c : Co} (hc : cr μ i = c) (hw : WF c) {h g l : Nat} (hh : h ≤ 200) (hg : g ≤ 400) (hl : l ≤ 4) : D_X4_sleptAfter i (h : Int) (g : Int) (l : Int) μ = nK c h g l := by
  have hslp := hw.2.2.2.2.2.2.1
  have h24 : h % 24 < 24 := Nat.mod_lt _ (by omega)
  have hle : h % 24 ≤ h := Nat.mod_le _ _
  unfold D_X4_sleptAfter B_X4_sleptAfter_22 B_X4_sleptAfter_40 B_X4_sleptAfter_60 B_X4_sleptAfter_61 B_X4_sleptAfter_89 B_X4_sleptAfter_90
  rw [irem24 (by omega), cm hc (r := 2) (by omega), wid (x := (h : Int) - ((h % 24 : Nat) : Int) + 8) (by omega) (by omega), wid (x := (h : Int)) (by omega) (by omega), wid (x := (g : Int)) (by omega) (by omega), wid (x := c 2 1) (by omega) (by omega), wid (x := (l : Int)) (by omega) (by omega), wid (x := (h : Int) - ((h % 24 : Nat) : Int) + 24 + 8) (by omega) (by omega), show w32 0 = 0 from by decide, show w32 1 = 1 from by decide]
  unfold nK
  repeat' split
  all_goals omega
