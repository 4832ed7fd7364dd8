/-! PURE: links: days, stamps, what comes behind a link -/
def dayC (c : Co) (h t : Nat) : Int := ((h : Int) + c 12 t + 24) / 24 - 1
theorem dayC_rng {c : Co} (hw : WF c) {h t : Nat} (ht : (t : Int) < c 0 1) (hh : h ≤ 400) : -2 ≤ dayC c h t ∧ dayC c h t ≤ 100 := by
  have := (hw.2.2.2.2.1 t ht).1
  unfold dayC
  omega
theorem dayAt_X {μ : Mi} {i : Bool} {c : Co} (hc : cr μ i = c) (hw : WF c) {h t : Nat} (ht : (t : Int) < c 0 1) (hh : h ≤ 400) : D_X0_dayAt false (h : Int) (t : Int) μ = some (dayC c h t) := by
  have h1 := (hw.2.2.2.2.1 t ht).1
  have h2 := hw.1
  unfold D_X0_dayAt
  rw [wid (x := (t : Int)) (by omega) (by omega), if_pos (by omega), ixn t (by omega), ca hc (r := 12) (by omega)]
  have e := idiv_n (a := (h : Int) + c 12 t + 24) 24 (by omega) (by omega) (by omega) (by omega)
  rw [show ((24 : Nat) : Int) = 24 from rfl] at e
  rw [e]
  rfl
/-- the s-th stamp that counts is of this land, this side, this day -/
abbrev sF (c : Co) (S : List Nat) (s : Nat) (land o day : Int) : Prop := s < S.length ∧ c 25 (S.getD s 0) = land ∧ c 28 (S.getD s 0) = o ∧ c 26 (S.getD s 0) ≤ day ∧ day ≤ c 27 (S.getD s 0)
theorem fits_X {μ : Mi} {i : Bool} {c : Co} (hc : cr μ i = c) (hw : WF c) {tr : Nat} (htr : (tr : Int) < c 2 3) {land o day : Int} (h1 : -1 ≤ land ∧ land ≤ 100) (h2 : o = 0 ∨ o = 1) (h3 : -100 ≤ day ∧ day ≤ 100) : D_X2_stampFits i (tr : Int) land o day μ = some (if c 25 tr = land ∧ c 28 tr = o ∧ c 26 tr ≤ day ∧ day ≤ c 27 tr then 1 else 0) := by
  have hsz := hw.2.2.2.2.2.2.2.2.1
  obtain ⟨t1, t2, t3, t4, t5, t6⟩ := hw.2.2.2.2.2.2.2.2.2 tr htr
  have hb : 0 ≤ (tr : Int) ∧ (tr : Int) < 8 := by omega
  unfold D_X2_stampFits
  rw [wid (x := (tr : Int)) (by omega) (by omega), if_neg (by omega), cm hc (r := 2) (by omega), wid (x := c 2 3) (by omega) (by omega), if_neg (by omega), ixn tr (by omega), cm hc (r := 25) (by omega), cm hc (r := 26) (by omega), cm hc (r := 27) (by omega), cm hc (r := 28) (by omega), wid (x := c 25 tr) (by omega) (by omega), wid (x := c 26 tr) (by omega) (by omega), wid (x := c 27 tr) (by omega) (by omega), wid (x := c 28 tr) (by omega) (by omega), wid (x := land) (by omega) (by omega), wid (x := o) (by omega) (by omega), wid (x := day) (by omega) (by omega)]
  simp only [if_pos hb]
  by_cases a1 : c 25 tr = land
  · rw [if_neg (by omega)]
    by_cases a2 : c 28 tr = o
    · rw [if_neg (by omega)]
      by_cases a3 : day < c 26 tr
      · rw [if_pos a3, if_neg (by omega)]
      · rw [if_neg a3]
        by_cases a4 : c 27 tr < day
        · rw [if_pos a4, if_neg (by omega)]
        · rw [if_neg a4, if_pos (by omega)]
    · rw [if_pos a2, if_neg (by omega)]
  · rw [if_pos a1, if_neg (by omega)]
theorem fits_N {μ : Mi} {i : Bool} {land o day : Int} : D_X2_stampFits i (-1) land o day μ = some 0 := by
  unfold D_X2_stampFits
  rw [if_pos (by decide)]
/-- what the s-th stamp answers, or its lack -/
theorem fits_S {μ : Mi} {i : Bool} {c : Co} {S L : List Nat} {pm : Nat} (P : Pr μ i c S L pm) {s : Nat} {land o day : Int} (h1 : -1 ≤ land ∧ land ≤ 100) (h2 : o = 0 ∨ o = 1) (h3 : -100 ≤ day ∧ day ≤ 100) : ∃ r, D_X2_stampFits i (if s < S.length then ((S.getD s 0 : Nat) : Int) else -1) land o day μ = some r ∧ ((r = 1 ∧ sF c S s land o day) ∨ (r = 0 ∧ ¬ sF c S s land o day)) := by
  by_cases q : s < S.length
  · rw [if_pos q, fits_X P.1 P.2.1 (P.2.2.1.2.2.1 s q) h1 h2 h3]
    refine ⟨_, rfl, ?_⟩
    by_cases q2 : c 25 (S.getD s 0) = land ∧ c 28 (S.getD s 0) = o ∧ c 26 (S.getD s 0) ≤ day ∧ day ≤ c 27 (S.getD s 0)
    · rw [if_pos q2]; exact Or.inl ⟨rfl, q, q2⟩
    · rw [if_neg q2]; exact Or.inr ⟨rfl, fun z => q2 z.2⟩
  · rw [if_neg q, fits_N]
    exact ⟨0, rfl, Or.inr ⟨rfl, fun z => q z.1⟩⟩
/-- stamps behind the link k that leaves at h, of s ahead of it and p passed over between its two; below 0: they don't fit -/
def nT (c : Co) (S : List Nat) (k h s p : Nat) : Int :=
  if (¬ c 19 k = -1 ∧ ¬ sF c S s (c 19 k) 1 (dayC c h (c 13 k).toNat)) ∨ (¬ c 20 k = -1 ∧ ¬ sF c S ((s + if c 19 k = -1 then 0 else 1) + p) (c 20 k) 0 (dayC c (h + (c 16 k).toNat) (c 14 k).toNat)) then -1 else (((s + if c 19 k = -1 then 0 else 1) + p + (if c 20 k = -1 then 0 else 1) : Nat) : Int)
theorem afterLink_X {μ : Mi} {i : Bool} {c : Co} {S L : List Nat} {pm : Nat} (P : Pr μ i c S L pm) {k h l t s e p : Nat} (hk : (k : Int) < c 0 2) (hh : h ≤ 200) (v : Vs l t s e) (hp : p ≤ 10) : D_X4_afterLink i (k : Int) (h : Int) ((mk4 l t s e : Nat) : Int) (p : Int) μ = some (if nK c h (h + (c 16 k).toNat) l < 0 ∨ nT c S k h s p < 0 then -1 else ((mk4 (nK c h (h + (c 16 k).toNat) l).toNat (c 14 k).toNat (nT c S k h s p).toNat (e ||| sa c L (h + (c 16 k).toNat) (c 14 k).toNat) : Nat) : Int)) := by
  have hlt := mk4_lt v
  have hv := v
  obtain ⟨v1, v2, v3, v4⟩ := v
  have hc := P.1
  have hw := P.2.1
  have hs := P.2.2.1
  have hnl := hw.2.1
  have htw := hw.1
  obtain ⟨⟨k1, k2⟩, ⟨k3, k4⟩, k5, k6, ⟨k7, k8⟩, k9, k10, k11, k12⟩ := hw.2.2.2.1 k hk
  obtain ⟨g, hg⟩ : ∃ g : Nat, c 16 k = (g : Int) := ⟨(c 16 k).toNat, by omega⟩
  obtain ⟨a, ha⟩ : ∃ a : Nat, c 13 k = (a : Int) := ⟨(c 13 k).toNat, by omega⟩
  obtain ⟨b, hb⟩ : ∃ b : Nat, c 14 k = (b : Int) := ⟨(c 14 k).toNat, by omega⟩
  have hkb : 0 ≤ (k : Int) ∧ (k : Int) < 16 := by omega
  have hnk : nK c h (h + g) l = -1 ∨ (0 ≤ nK c h (h + g) l ∧ nK c h (h + g) l ≤ 4) := by
    unfold nK
    split
    · omega
    · split <;> omega
  have hgg : (c 16 k).toNat = g := by omega
  have haa : (c 13 k).toNat = a := by omega
  have hbb : (c 14 k).toNat = b := by omega
  rw [hgg, hbb]
  have e256 : idiv ((mk4 l t s e : Nat) : Int) 256 = (l : Int) := by
    rw [idiv256 (by omega)]
    unfold mk4
    omega
  have hsa := sa_lt (h := h + g) (t := b) hs
  have hday1 := dayC_rng hw (t := a) (h := h) (by omega) (by omega)
  have hday2 := dayC_rng hw (t := b) (h := h + g) (by omega) (by omega)
  have hsl : D_X4_sleptAfter i (h : Int) ((h : Int) + (g : Int)) (l : Int) μ = nK c h (h + g) l := by
    rw [show (h : Int) + (g : Int) = ((h + g : Nat) : Int) by omega]
    exact sleptAfter_X hc hw (by omega) (by omega) v1
  have h206 : ∀ (x y : Nat), x ≤ 4 → y ≤ 100 → B_X4_afterLink_206 i (k : Int) ((mk4 l t s e : Nat) : Int) ((h + g : Nat) : Int) (x : Int) (y : Int) μ = some ((mk4 x b y (e ||| sa c L (h + g) b) : Nat) : Int) := by
    intro x y hx hy
    unfold B_X4_afterLink_206
    rw [wid (x := (k : Int)) (by omega) (by omega), if_pos hkb, if_pos hkb, ixn k (by omega), ca hc (r := 14) (by omega), hb, seenAt_X P (h + g) b (by omega) (by omega), bp_k]
    have e3 : iand ((mk4 l t s e : Nat) : Int) 3 = (e : Int) := by
      rw [show (3 : Int) = ((3 : Nat) : Int) from rfl, iand_n _ 3 (by omega) (by omega), show (3 : Nat) = 2 ^ 2 - 1 from rfl, Nat.and_two_pow_sub_one_eq_mod]
      unfold mk4
      omega
    rw [e3, ior_n _ _ (by omega) (by omega), cellOf_X]
  have hout : ¬ c 19 k = -1 ∨ c 19 k = -1 := by omega
  have h119 : ∀ (x y : Nat), x ≤ 4 → y ≤ 10 → B_X4_afterLink_119 i (k : Int) ((mk4 l t s e : Nat) : Int) (p : Int) ((h + g : Nat) : Int) (x : Int) (y : Int) μ = some (if ¬ c 20 k = -1 ∧ ¬ sF c S (y + p) (c 20 k) 0 (dayC c (h + g) b) then -1 else ((mk4 x b (y + p + (if c 20 k = -1 then 0 else 1)) (e ||| sa c L (h + g) b) : Nat) : Int)) := by
    intro x y hx hy
    have hsl6 := hs.1
    unfold B_X4_afterLink_119
    rw [wid (x := (k : Int)) (by omega) (by omega), if_pos hkb, ixn k (by omega), ca hc (r := 20) (by omega), wid (x := c 20 k) (by omega) (by omega), P.2.2.2.1, wid (x := ((S.length : Nat) : Int)) (by omega) (by omega), show (y : Int) + (p : Int) = ((y + p : Nat) : Int) by omega, wid (x := ((y + p : Nat) : Int)) (by omega) (by omega)]
    by_cases q : c 20 k = -1
    · rw [if_pos q, if_neg (fun z => z.1 q), h206 x (y + p) hx (by omega), if_pos q]
      rfl
    · rw [if_neg q]
      obtain ⟨r, hr1, hr2⟩ := fits_S P (s := y + p) (land := c 20 k) (o := 0) (day := dayC c (h + g) b) ⟨k12.1, by omega⟩ (Or.inl rfl) ⟨by omega, by omega⟩
      have h159 : ∀ z : Int, z = (if y + p < S.length then ((S.getD (y + p) 0 : Nat) : Int) else -1) → B_X4_afterLink_159 i (k : Int) ((mk4 l t s e : Nat) : Int) ((h + g : Nat) : Int) (x : Int) ((y + p : Nat) : Int) z μ = some (if ¬ c 20 k = -1 ∧ ¬ sF c S (y + p) (c 20 k) 0 (dayC c (h + g) b) then -1 else ((mk4 x b (y + p + (if c 20 k = -1 then 0 else 1)) (e ||| sa c L (h + g) b) : Nat) : Int)) := by
        intro z hz
        unfold B_X4_afterLink_159
        rw [wid (x := (k : Int)) (by omega) (by omega), if_pos hkb, if_pos hkb, ixn k (by omega), ca hc (r := 14) (by omega), ca hc (r := 20) (by omega), hb, dayAt_X hc hw (by omega) (by omega), bp_k, hz, hr1, bp_k]
        rcases hr2 with ⟨hr2, hr3⟩ | ⟨hr2, hr3⟩
        · rw [hr2, if_pos (by decide), show ((y + p : Nat) : Int) + 1 = ((y + p + 1 : Nat) : Int) by omega, h206 x (y + p + 1) hx (by omega), if_neg (fun w => w.2 hr3), if_neg q]
        · rw [hr2, if_neg (by decide), if_pos ⟨q, hr3⟩]
      by_cases q2 : y + p < S.length
      · rw [if_neg (by omega), if_pos (by omega), ixn _ (by omega), P.2.2.2.2.1 _ q2]
        exact h159 _ (by rw [if_pos q2])
      · rw [if_pos (by omega)]
        exact h159 _ (by rw [if_neg q2])
  unfold D_X4_afterLink
  rw [wid (x := (k : Int)) (by omega) (by omega), if_pos hkb, ixn k (by omega), ca hc (r := 16) (by omega), ca hc (r := 19) (by omega), hg, e256, hsl, stampsOf_X hv, P.2.2.2.1]
  rcases hnk with hneg | ⟨hn1, hn2⟩
  · rw [hneg, if_neg (by decide), if_pos (Or.inl (by decide))]
  · obtain ⟨x, hx⟩ : ∃ x : Nat, nK c h (h + g) l = (x : Int) := ⟨(nK c h (h + g) l).toNat, by omega⟩
    have hsl6 := hs.1
    rw [hx, wid (x := (x : Int)) (by omega) (by omega), if_pos (by omega), if_pos hkb, wid (x := c 19 k) (by omega) (by omega), wid (x := ((S.length : Nat) : Int)) (by omega) (by omega), wid (x := (s : Int)) (by omega) (by omega), show (h : Int) + (g : Int) = ((h + g : Nat) : Int) by omega]
    have hfin : ∀ (y : Nat), y = s + (if c 19 k = -1 then 0 else 1) → (¬ c 19 k = -1 → sF c S s (c 19 k) 1 (dayC c h a)) → B_X4_afterLink_119 i (k : Int) ((mk4 l t s e : Nat) : Int) (p : Int) ((h + g : Nat) : Int) (x : Int) (y : Int) μ = some (if (x : Int) < 0 ∨ nT c S k h s p < 0 then -1 else ((mk4 ((x : Int)).toNat b (nT c S k h s p).toNat (e ||| sa c L (h + g) b) : Nat) : Int)) := by
      intro y hy ho
      rw [h119 x y (by omega) (by split at hy <;> omega)]
      unfold nT
      rw [haa, hbb, hgg, ← hy]
      by_cases q : ¬ c 20 k = -1 ∧ ¬ sF c S (y + p) (c 20 k) 0 (dayC c (h + g) b)
      · rw [if_pos q, if_pos (Or.inr q), if_pos (Or.inr (by decide))]
      · have hn : ¬ ((¬ c 19 k = -1 ∧ ¬ sF c S s (c 19 k) 1 (dayC c h a)) ∨ (¬ c 20 k = -1 ∧ ¬ sF c S (y + p) (c 20 k) 0 (dayC c (h + g) b))) := fun z => z.elim (fun z => z.2 (ho z.1)) q
        rw [if_neg q]
        simp only [if_neg hn]
        rw [if_neg (show ¬ ((x : Int) < 0 ∨ ((y + p + (if c 20 k = -1 then 0 else 1) : Nat) : Int) < 0) from fun z => by omega)]
        rfl
    by_cases q : c 19 k = -1
    · rw [if_pos q]
      exact hfin s (by rw [if_pos q]; rfl) (fun z => absurd q z)
    · rw [if_neg q]
      obtain ⟨r, hr1, hr2⟩ := fits_S P (s := s) (land := c 19 k) (o := 1) (day := dayC c h a) ⟨k11.1, by omega⟩ (Or.inr rfl) ⟨by omega, by omega⟩
      have h73 : ∀ z : Int, z = (if s < S.length then ((S.getD s 0 : Nat) : Int) else -1) → B_X4_afterLink_73 i (k : Int) (h : Int) ((mk4 l t s e : Nat) : Int) (p : Int) ((h + g : Nat) : Int) (x : Int) (s : Int) z μ = some (if (x : Int) < 0 ∨ nT c S k h s p < 0 then -1 else ((mk4 ((x : Int)).toNat b (nT c S k h s p).toNat (e ||| sa c L (h + g) b) : Nat) : Int)) := by
        intro z hz
        unfold B_X4_afterLink_73
        rw [wid (x := (k : Int)) (by omega) (by omega), if_pos hkb, if_pos hkb, ixn k (by omega), ca hc (r := 13) (by omega), ca hc (r := 19) (by omega), ha, dayAt_X hc hw (by omega) (by omega), bp_k, hz, hr1, bp_k]
        rcases hr2 with ⟨hr2, hr3⟩ | ⟨hr2, hr3⟩
        · rw [hr2, if_pos (by decide), show (s : Int) + 1 = ((s + 1 : Nat) : Int) by omega]
          exact hfin (s + 1) (by rw [if_neg q]) (fun _ => hr3)
        · rw [hr2, if_neg (by decide)]
          have : nT c S k h s p = -1 := by
            unfold nT
            rw [haa, if_pos (Or.inl ⟨q, hr3⟩)]
          rw [this, if_pos (Or.inr (by decide))]
      by_cases q2 : s < S.length
      · rw [if_neg (by omega), if_pos (by omega), ixn s (by omega), P.2.2.2.2.1 _ q2]
        exact h73 _ (by rw [if_pos q2])
      · rw [if_pos (by omega)]
        exact h73 _ (by rw [if_neg q2])
