/-! PURE: the list of cells, and prepare as a whole -/
def Vq (c : Co) (S L : List Nat) (t s e : Nat) : Prop := (t : Int) < c 0 1 ∧ s ≤ S.length ∧ e < 2 ^ L.length
def LQ (μ : Mi) (i : Bool) (c : Co) (S L : List Nat) (n : Nat) (ce : Nat → Nat) (P : Nat → Nat → Nat → Prop) : Prop := cr μ i = c ∧ rd μ 4 i 9 = ((S.length : Nat) : Int) ∧ rd μ 4 i 10 = ((L.length : Nat) : Int) ∧ Pc μ i n ce ∧ (∀ j, j < n → ∃ t s e, Vq c S L t s e ∧ P t s e ∧ ce j = mk4 0 t s e ∧ (s < S.length → ∃ q, q < j ∧ ce q = mk4 0 t (s + 1) e)) ∧ (∀ t s e, Vq c S L t s e → P t s e → ∃ j, j < n ∧ ce j = mk4 0 t s e) ∧ ∀ j q, j < n → q < n → ce j = ce q → j = q
theorem LQ.iff {μ : Mi} {i : Bool} {c : Co} {S L : List Nat} {n : Nat} {ce : Nat → Nat} {P Q : Nat → Nat → Nat → Prop} (h : LQ μ i c S L n ce P) (e : ∀ t s e, Vq c S L t s e → (P t s e ↔ Q t s e)) : LQ μ i c S L n ce Q := by
  obtain ⟨h1, h2, h3, h4, h5, h6, h7⟩ := h
  refine ⟨h1, h2, h3, h4, fun j hj => ?_, fun t s e' v q => h6 t s e' v ((e t s e' v).mpr q), h7⟩
  obtain ⟨t, s, e', v, p, a, b⟩ := h5 j hj
  exact ⟨t, s, e', v, (e t s e' v).mp p, a, b⟩
theorem Vq.lim {c : Co} {S L : List Nat} {t s e : Nat} (v : Vq c S L t s e) (h6 : S.length ≤ 6) (h2 : L.length ≤ 2) : s ≤ 6 ∧ e < 4 := by
  obtain ⟨v1, v2, v3⟩ := v
  have h3 : 2 ^ L.length ≤ 2 ^ 2 := Nat.pow_le_pow_right (by omega) h2
  omega
theorem LQ.push {μ : Mi} {i : Bool} {c : Co} {S L : List Nat} {n : Nat} {ce : Nat → Nat} {P : Nat → Nat → Nat → Prop} (h6 : S.length ≤ 6) (hL : L.length ≤ 2) (h : LQ μ i c S L n ce P) {t s e : Nat} (v : Vq c S L t s e) (hn : ¬ P t s e) (ho : s < S.length → P t (s + 1) e) : LQ (wr (wr μ 33 i n ((mk4 0 t s e : Nat) : Int)) 4 i 8 ((n : Int) + 1)) i c S L (n + 1) (fun j => if j = n then mk4 0 t s e else ce j) (fun t' s' e' => P t' s' e' ∨ (t' = t ∧ s' = s ∧ e' = e)) := by
  obtain ⟨h1, h2, h3, ⟨h41, h42⟩, h5, h6', h7⟩ := h
  refine ⟨?_, ?_, ?_, ⟨?_, ?_⟩, ?_, ?_, ?_⟩
  · rw [cr_s (by omega), cr_s (by omega)]; exact h1
  · rw [rdx (by omega), rdx (by omega)]; exact h2
  · rw [rdx (by omega), rdx (by omega)]; exact h3
  · rw [rd_s]; rfl
  · intro j hj
    rw [rdx (by omega), rd_wr]
    by_cases q : j = n
    · rw [if_pos ⟨rfl, rfl, q⟩]; simp only [if_pos q]
    · rw [if_neg (fun z => q z.2.2)]; simp only [if_neg q]; exact h42 j (by omega)
  · intro j hj
    by_cases q : j = n
    · refine ⟨t, s, e, v, Or.inr ⟨rfl, rfl, rfl⟩, by simp only [if_pos q], fun z => ?_⟩
      obtain ⟨q2, a, b⟩ := h6' t (s + 1) e ⟨v.1, by omega, v.2.2⟩ (ho z)
      exact ⟨q2, by omega, by simp only [if_neg (show ¬ q2 = n by omega)]; exact b⟩
    · obtain ⟨t', s', e', v', p, a, b⟩ := h5 j (by omega)
      refine ⟨t', s', e', v', Or.inl p, by simp only [if_neg q]; exact a, fun z => ?_⟩
      obtain ⟨q2, a2, b2⟩ := b z
      exact ⟨q2, a2, by simp only [if_neg (show ¬ q2 = n by omega)]; exact b2⟩
  · rintro t' s' e' v' (p | ⟨rfl, rfl, rfl⟩)
    · obtain ⟨j, a, b⟩ := h6' t' s' e' v' p
      exact ⟨j, by omega, by simp only [if_neg (show ¬ j = n by omega)]; exact b⟩
    · exact ⟨n, by omega, by simp⟩
  · have hnew : ∀ j, j < n → ¬ ce j = mk4 0 t s e := fun j hj q => by
      obtain ⟨t', s', e', v', p, a, -⟩ := h5 j hj
      obtain ⟨rfl, rfl, rfl⟩ := mk0_inj (v'.lim h6 hL) (v.lim h6 hL) (a.symm.trans q)
      exact hn p
    intro j q hj hq
    by_cases a : j = n
    · by_cases b : q = n
      · intro _; omega
      · simp only [if_pos a, if_neg b]
        intro z
        exact absurd z.symm (hnew q (by omega))
    · by_cases b : q = n
      · simp only [if_neg a, if_pos b]
        intro z
        exact absurd z (hnew j (by omega))
      · simp only [if_neg a, if_neg b]
        exact h7 j q (by omega) (by omega)
theorem list_29 {i : Bool} {c : Co} {S L : List Nat} (hw : WF c) (h6 : S.length ≤ 6) (hL : L.length ≤ 2) {k7 : Bool → Int → Mi → Option Mi} {k23 : Bool → Int → Int → Mi → Option Mi} {t s : Nat} (ht : (t : Int) < c 0 1) (hs : s ≤ S.length) : ∀ (d f e : Nat) (μ : Mi) (n : Nat) (ce : Nat → Nat), e + d = 2 ^ L.length → d < f → n ≤ t * 28 + (S.length - s) * 4 + e → LQ μ i c S L n ce (fun t' s' e' => t' < t ∨ (t' = t ∧ (s < s' ∨ (s' = s ∧ e' < e)))) → ∃ m n2 ce2, B_X4_listCells_29 k7 k23 f i (t : Int) (s : Int) (e : Int) μ = k23 i (t : Int) ((s : Int) + (-1)) m ∧ n2 ≤ t * 28 + (S.length - s) * 4 + 4 ∧ LQ m i c S L n2 ce2 (fun t' s' _ => t' < t ∨ (t' = t ∧ s ≤ s')) := by
  have hQ : 2 ^ L.length ≤ 2 ^ 2 := Nat.pow_le_pow_right (by omega) hL
  have htw := hw.1
  intro d
  induction d with
  | zero =>
    intro f e μ n ce he hf hn I
    obtain ⟨f, rfl⟩ : ∃ q, f = q + 1 := ⟨f - 1, by omega⟩
    refine ⟨μ, n, ce, ?_, by omega, I.iff (fun t' s' e' v => ?_)⟩
    · rw [B_X4_listCells_29_s, F_X4_listCells_29, I.2.2.1, ishl1 _ (by omega), wid (x := ((2 ^ L.length : Nat) : Int)) (by omega) (by omega), wid (x := (e : Int)) (by omega) (by omega), if_pos (by omega)]
      rfl
    · have := v.2.2
      constructor
      · rintro (z | ⟨z, z2 | z2⟩)
        · exact Or.inl z
        · exact Or.inr ⟨z, by omega⟩
        · exact Or.inr ⟨z, by omega⟩
      · rintro (z | ⟨z, z2⟩)
        · exact Or.inl z
        · refine Or.inr ⟨z, ?_⟩
          by_cases q : s' = s
          · exact Or.inr ⟨q, by omega⟩
          · exact Or.inl (by omega)
  | succ d ih =>
    intro f e μ n ce he hf hn I
    obtain ⟨f, rfl⟩ : ∃ q, f = q + 1 := ⟨f - 1, by omega⟩
    have v : Vq c S L t s e := ⟨ht, hs, by omega⟩
    have I2 := I.push h6 hL v (by rintro (z | ⟨_, z | ⟨_, z⟩⟩) <;> omega) (fun z => Or.inr ⟨rfl, Or.inl (by omega)⟩)
    obtain ⟨m, n2, ce2, h1, h2, h3⟩ := ih f (e + 1) _ (n + 1) _ (by omega) (by omega) (by omega) (I2.iff (fun t' s' e' v' => by
      constructor
      · rintro ((z | ⟨z, z2 | ⟨z2, z3⟩⟩) | ⟨z1, z2, z3⟩)
        · exact Or.inl z
        · exact Or.inr ⟨z, Or.inl z2⟩
        · exact Or.inr ⟨z, Or.inr ⟨z2, by omega⟩⟩
        · exact Or.inr ⟨z1, Or.inr ⟨z2, by omega⟩⟩
      · rintro (z | ⟨z, z2 | ⟨z2, z3⟩⟩)
        · exact Or.inl (Or.inl z)
        · exact Or.inl (Or.inr ⟨z, Or.inl z2⟩)
        · by_cases q : e' = e
          · exact Or.inr ⟨z, z2, q⟩
          · exact Or.inl (Or.inr ⟨z, Or.inr ⟨z2, by omega⟩⟩)))
    refine ⟨m, n2, ce2, ?_, h2, h3⟩
    rw [B_X4_listCells_29_s, F_X4_listCells_29, I.2.2.1, ishl1 _ (by omega), wid (x := ((2 ^ L.length : Nat) : Int)) (by omega) (by omega), wid (x := (e : Int)) (by omega) (by omega), if_neg (by omega), I.2.2.2.1.1, wid (x := (n : Int)) (by omega) (by omega), if_neg (by omega), if_pos (by omega), ixn n (by omega), show (0 : Int) = ((0 : Nat) : Int) from rfl, cellOf_X 0 t s e, show (e : Int) + 1 = ((e + 1 : Nat) : Int) by omega]
    exact h1
theorem list_23 {i : Bool} {c : Co} {S L : List Nat} (hw : WF c) (h6 : S.length ≤ 6) (hL : L.length ≤ 2) {k7 : Bool → Int → Mi → Option Mi} {t : Nat} (ht : (t : Int) < c 0 1) : ∀ (z f : Nat) (μ : Mi) (n : Nat) (ce : Nat → Nat), z ≤ S.length + 1 → z < f → n ≤ t * 28 + (S.length + 1 - z) * 4 → LQ μ i c S L n ce (fun t' s' _ => t' < t ∨ (t' = t ∧ z ≤ s')) → ∃ m n2 ce2, B_X4_listCells_23 k7 f i (t : Int) ((z : Int) - 1) μ = k7 i ((t + 1 : Nat) : Int) m ∧ n2 ≤ (t + 1) * 28 ∧ LQ m i c S L n2 ce2 (fun t' _ _ => t' < t + 1) := by
  intro z
  induction z with
  | zero =>
    intro f μ n ce hz hf hn I
    obtain ⟨f, rfl⟩ : ∃ q, f = q + 1 := ⟨f - 1, by omega⟩
    refine ⟨μ, n, ce, ?_, by omega, I.iff (fun t' s' e' v => ⟨fun q => by omega, fun q => by omega⟩)⟩
    rw [B_X4_listCells_23_s, F_X4_listCells_23, if_pos (by rw [wid (by omega) (by omega)]; omega)]
    rfl
  | succ s ih =>
    intro f μ n ce hz hf hn I
    obtain ⟨f, rfl⟩ : ∃ q, f = q + 1 := ⟨f - 1, by omega⟩
    have hQ : 2 ^ L.length ≤ 2 ^ 2 := Nat.pow_le_pow_right (by omega) hL
    obtain ⟨m1, n1, ce1, a1, a2, a3⟩ := list_29 (k7 := k7) (k23 := B_X4_listCells_23 k7 f) hw h6 hL ht (by omega : s ≤ S.length) (2 ^ L.length) FU 0 μ n ce (by omega) (FU_gt (by omega)) (by omega) (I.iff (fun t' s' e' v => ⟨fun q => by omega, fun q => by omega⟩))
    obtain ⟨m, n2, ce2, h1, h2, h3⟩ := ih f m1 n1 ce1 (by omega) (by omega) (by omega) a3
    refine ⟨m, n2, ce2, ?_, h2, h3⟩
    rw [B_X4_listCells_23_s, F_X4_listCells_23, show ((s + 1 : Nat) : Int) - 1 = (s : Int) by omega, wid (x := (s : Int)) (by omega) (by omega), if_neg (by omega)]
    rw [show (s : Int) + (-1) = (s : Int) - 1 by omega] at a1
    exact a1.trans h1
theorem list_7 {i : Bool} {c : Co} {S L : List Nat} (hw : WF c) (h6 : S.length ≤ 6) (hL : L.length ≤ 2) : ∀ (d f t : Nat) (μ : Mi) (n : Nat) (ce : Nat → Nat), t + d = (c 0 1).toNat → d < f → n ≤ t * 28 → LQ μ i c S L n ce (fun t' _ _ => t' < t) → ∃ m n2 ce2, B_X4_listCells_7 f i (t : Int) μ = some m ∧ LQ m i c S L n2 ce2 (fun _ _ _ => True) ∧ n2 ≤ 256 := by
  have htw := hw.1
  intro d
  induction d with
  | zero =>
    intro f t μ n ce ht hf hn I
    obtain ⟨f, rfl⟩ : ∃ q, f = q + 1 := ⟨f - 1, by omega⟩
    refine ⟨μ, n, ce, ?_, I.iff (fun t' s' e' v => ⟨fun _ => trivial, fun _ => by have := v.1; omega⟩), by omega⟩
    rw [B_X4_listCells_7_s, F_X4_listCells_7, ca I.1 (r := 0) (by omega), wid (x := c 0 1) (by omega) (by omega), wid (x := (t : Int)) (by omega) (by omega), if_pos (by omega)]
  | succ d ih =>
    intro f t μ n ce ht hf hn I
    obtain ⟨f, rfl⟩ : ∃ q, f = q + 1 := ⟨f - 1, by omega⟩
    obtain ⟨m1, n1, ce1, a1, a2, a3⟩ := list_23 (k7 := B_X4_listCells_7 f) hw h6 hL (by omega : (t : Int) < c 0 1) (S.length + 1) FU μ n ce (by omega) (FU_gt (by omega)) (by omega) (I.iff (fun t' s' e' v => ⟨fun q => Or.inl q, fun q => by have := v.2.1; omega⟩))
    obtain ⟨m, n2, ce2, h1, h2⟩ := ih f (t + 1) m1 n1 ce1 (by omega) (by omega) (by omega) a3
    refine ⟨m, n2, ce2, ?_, h2⟩
    rw [B_X4_listCells_7_s, F_X4_listCells_7, ca I.1 (r := 0) (by omega), wid (x := c 0 1) (by omega) (by omega), wid (x := (t : Int)) (by omega) (by omega), if_neg (by omega), I.2.1]
    rw [show ((S.length + 1 : Nat) : Int) - 1 = ((S.length : Nat) : Int) by omega] at a1
    exact a1.trans h1
theorem listCells_X {μ : Mi} {i : Bool} {c : Co} {S L : List Nat} (hw : WF c) (h6 : S.length ≤ 6) (hL : L.length ≤ 2) (hc : cr μ i = c) (h9 : rd μ 4 i 9 = ((S.length : Nat) : Int)) (h10 : rd μ 4 i 10 = ((L.length : Nat) : Int)) : ∃ m N ce, D_X4_listCells i μ = some m ∧ Pc m i N ce ∧ CL c S L N ce := by
  have htw := hw.1
  obtain ⟨m, n2, ce2, h1, h2, h3⟩ := list_7 (i := i) hw h6 hL (c 0 1).toNat FU 0 (wr μ 4 i 8 0) 0 (fun _ => 0) (by omega) (FU_gt (by omega)) (by omega) ⟨by rw [cr_s (by omega)]; exact hc, by rw [rdx (by omega)]; exact h9, by rw [rdx (by omega)]; exact h10, ⟨rd_s, fun j hj => by omega⟩, fun j hj => by omega, fun t s e v q => by omega, fun j q hj => by omega⟩
  obtain ⟨-, -, -, b4, b5, b6, b7⟩ := h2
  refine ⟨m, n2, ce2, h1, b4, h3, ?_, ?_, b7⟩
  · intro j hj
    obtain ⟨t, s, e, v, -, a, b⟩ := b5 j hj
    exact ⟨t, s, e, v.1, v.2.1, v.2.2, a, b⟩
  · intro t s e v1 v2 v3
    exact b6 t s e ⟨v1, v2, v3⟩ trivial
theorem prep_186 {i : Bool} {c : Co} (hw : WF c) : ∀ (d f h : Nat) (μ : Mi), h + d = 97 → d < f → cr μ i = c → (∀ g, g < h → rd μ 34 i g = ((lv4 c g : Nat) : Int)) → ∃ m, B_X4_prepare_186 f i (h : Int) μ = bm (D_X4_listCells i m) (fun m1 => some m1) ∧ cr m i = c ∧ (∀ g, g ≤ 96 → rd m 34 i g = ((lv4 c g : Nat) : Int)) ∧ (∀ r k, ¬ r = 34 → rd m r i k = rd μ r i k) := by
  intro d
  induction d with
  | zero =>
    intro f h μ hd hf hc hl
    obtain ⟨f, rfl⟩ : ∃ q, f = q + 1 := ⟨f - 1, by omega⟩
    refine ⟨μ, ?_, hc, fun g hg => hl g (by omega), fun _ _ _ => rfl⟩
    rw [B_X4_prepare_186_s, F_X4_prepare_186, wid (by omega) (by omega), if_pos (by omega)]
  | succ d ih =>
    intro f h μ hd hf hc hl
    obtain ⟨f, rfl⟩ : ∃ q, f = q + 1 := ⟨f - 1, by omega⟩
    obtain ⟨m, h1, h2, h3, h4⟩ := ih f (h + 1) (wr μ 34 i h ((lv4 c h : Nat) : Int)) (by omega) (by omega) (by rw [cr_s (by omega)]; exact hc) (fun g hg => by
      rw [rd_wr]
      by_cases q : g = h
      · rw [if_pos ⟨rfl, rfl, q⟩, q]
      · rw [if_neg (fun z => q z.2.2)]; exact hl g (by omega))
    refine ⟨m, ?_, h2, h3, fun r k hr => by rw [h4 r k hr, rdx (by omega)]⟩
    rw [B_X4_prepare_186_s, F_X4_prepare_186, wid (x := (h : Int)) (by omega) (by omega), if_neg (by omega), linksLeaving_X hc hw (by omega), bp_k, if_pos (by omega), ixn h (by omega), show (h : Int) + 1 = ((h + 1 : Nat) : Int) by omega]
    exact h1
theorem prepare_X {μ : Mi} {i : Bool} {c : Co} (hc : cr μ i = c) (hw : WF c) (h2 : WF2 c) {B : Nat} (hB : B < 256) : ∃ m N ce, D_X4_prepare i (B : Int) μ = some m ∧ Pr m i c (SL c B) (LL c B) (PM c B) ∧ Pc m i N ce ∧ CL c (SL c B) (LL c B) N ce := by
  have hsz := hw.2.2.2.2.2.2.2.2.1
  have hsk := Sk_of hw h2 B
  have key : ∀ (d f n : Nat) (μ : Mi), n + d = (c 2 3).toNat → d < f → PI μ i c B n → ∃ m N ce, B_X4_prepare_17 f i (B : Int) (n : Int) μ = some m ∧ Pr m i c (SL c B) (LL c B) (PM c B) ∧ Pc m i N ce ∧ CL c (SL c B) (LL c B) N ce := by
    intro d
    induction d with
    | zero =>
      intro f n μ hn hf I
      obtain ⟨f, rfl⟩ : ∃ q, f = q + 1 := ⟨f - 1, by omega⟩
      have hnz : n = (c 2 3).toNat := by omega
      obtain ⟨i1, i2, i3, i4, i5, i6⟩ := I
      obtain ⟨m1, a1, a2, a3, a4⟩ := prep_186 (i := i) hw 97 FU 0 μ (by omega) (FU_gt (by omega)) i1 (fun g hg => by omega)
      rw [hnz] at i2 i3 i4 i5 i6
      have e9 : rd m1 4 i 9 = (((SL c B).length : Nat) : Int) := by rw [a4 4 9 (by omega)]; exact i2
      have e10 : rd m1 4 i 10 = (((LL c B).length : Nat) : Int) := by rw [a4 4 10 (by omega)]; exact i4
      obtain ⟨m, N, ce, b1, b2, b3⟩ := listCells_X hw hsk.1 hsk.2.1 a2 e9 e10
      have fr := fr_X4_listCells b1
      have hrd : ∀ r k, inW W_X4_listCells r k = false → rd m r i k = rd m1 r i k := fun r k q => frR fr q
      have hrf : ∀ r k, inW W_X4_listCells r k = false → rd m r false k = rd m1 r false k := fun r k q => frR fr q
      have hinw : ∀ r k, ¬ r = 4 → ¬ r = 33 → inW W_X4_listCells r k = false := fun r k q1 q2 => by
        unfold inW W_X4_listCells
        simp [Ne.symm q1, Ne.symm q2]
      have hcm : cr m i = c := by
        rw [← a2]
        funext r k
        unfold cr
        split
        · rw [hrf r k (hinw r k (by omega) (by omega))]
        · split
          · rw [hrd r k (hinw r k (by omega) (by omega))]
          · rfl
      refine ⟨m, N, ce, ?_, ⟨hcm, hw, hsk, ?_, ?_, ?_, ?_, ?_, ?_⟩, b2, b3⟩
      · rw [B_X4_prepare_17_s, F_X4_prepare_17, cm i1 (r := 2) (by omega), wid (x := c 2 3) (by omega) (by omega), wid (x := (n : Int)) (by omega) (by omega), if_pos (by omega)]
        rw [show ((0 : Nat) : Int) = 0 from rfl] at a1
        rw [a1, b1, bm_k]
      · rw [hrd 4 9 (by rfl)]; exact e9
      · intro q hq
        rw [hrd 35 q (hinw _ _ (by omega) (by omega)), a4 35 q (by omega)]; exact i3 q hq
      · rw [hrd 4 10 (by rfl)]; exact e10
      · intro q hq
        rw [hrd 36 q (hinw _ _ (by omega) (by omega)), a4 36 q (by omega)]; exact i5 q hq
      · rw [hrd 4 11 (by rfl), a4 4 11 (by omega)]; exact i6
      · intro h hh
        rw [hrd 34 h (hinw _ _ (by omega) (by omega))]; exact a3 h hh
    | succ d ih =>
      intro f n μ hn hf I
      obtain ⟨f, rfl⟩ : ∃ q, f = q + 1 := ⟨f - 1, by omega⟩
      obtain ⟨m1, a1, a2⟩ := prep_one (k17 := B_X4_prepare_17 f) hw h2 hB (by omega : (n : Int) < c 2 3) I
      obtain ⟨m, N, ce, b1, b2⟩ := ih f (n + 1) m1 (by omega) (by omega) a2
      refine ⟨m, N, ce, ?_, b2⟩
      rw [B_X4_prepare_17_s, a1]
      exact b1
  have I0 : PI (wr (wr (wr μ 4 i 9 0) 4 i 10 0) 4 i 11 0) i c B 0 := by
    refine ⟨?_, ?_, fun q hq => by simp [sLn] at hq, ?_, fun q hq => by simp [sLn] at hq, ?_⟩
    · rw [cr_s (by omega), cr_s (by omega), cr_s (by omega)]; exact hc
    · rw [rdx (by omega), rdx (by omega), rd_s]; rfl
    · rw [rdx (by omega), rd_s]; rfl
    · rw [rd_s]; rfl
  exact key (c 2 3).toNat FU 0 _ (by omega) (FU_gt (by omega)) I0
