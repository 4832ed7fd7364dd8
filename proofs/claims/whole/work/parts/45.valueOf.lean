/-! PURE: the value of a cell -/
abbrev can (c : Co) (h t k : Nat) : Prop := lvp c h k = true ∧ c 13 k = (t : Int)
theorem lv4_bit {c : Co} {h k : Nat} (hk : (k : Int) < c 0 2) : (lv4 c h).testBit k = lvp c h k := by
  unfold lv4
  rw [mb_bit]
  have : k < (c 0 2).toNat := by omega
  simp [this]
theorem lv4_lt {c : Co} (hw : WF c) (h : Nat) : lv4 c h < 65536 := by
  have h1 := mb_lt (lvp c h) (c 0 2).toNat
  have h2 := hw.2.1
  have h3 : 2 ^ (c 0 2).toNat ≤ 2 ^ 16 := Nat.pow_le_pow_right (by omega) (by omega)
  unfold lv4
  omega
theorem canTake_X {μ : Mi} {i : Bool} {c : Co} {S L : List Nat} {pm : Nat} (P : Pr μ i c S L pm) {k h l t s e : Nat} (hk : (k : Int) < c 0 2) (hh : h ≤ 96) (v : Vs l t s e) : ∃ r, D_X4_canTake i (k : Int) (h : Int) ((mk4 l t s e : Nat) : Int) μ = some r ∧ ((r = 1 ∧ can c h t k) ∨ (r = 0 ∧ ¬ can c h t k)) := by
  have hc := P.1
  have hw := P.2.1
  have hnl := hw.2.1
  have htw := hw.1
  have hl4 := lv4_lt hw h
  obtain ⟨⟨k1, k2⟩, -⟩ := hw.2.2.2.1 k hk
  have v2 := v.2.1
  unfold D_X4_canTake
  rw [wid (x := (h : Int)) (by omega) (by omega), if_pos (by omega), ixn h (by omega), P.2.2.2.2.2.2.2.2 h hh, bit_n _ k (by omega) (by omega), lv4_bit hk, wid (x := (k : Int)) (by omega) (by omega), if_pos (show 0 ≤ (k : Int) ∧ (k : Int) < 16 by omega), ixn k (by omega), ca hc (r := 13) (by omega), townOf_X v, wid (x := c 13 k) (by omega) (by omega), wid (x := (t : Int)) (by omega) (by omega)]
  by_cases q : lvp c h k = true
  · rw [if_pos q, if_neg (by decide)]
    by_cases q2 : c 13 k = (t : Int)
    · rw [if_neg (by omega)]; exact ⟨1, rfl, Or.inl ⟨rfl, q, q2⟩⟩
    · rw [if_pos q2]; exact ⟨0, rfl, Or.inr ⟨rfl, fun z => q2 z.2⟩⟩
  · rw [if_neg q, if_pos (by decide)]
    exact ⟨0, rfl, Or.inr ⟨rfl, fun z => q z.1⟩⟩
/-- staying or the end -/
def v0A (aim : Nat) (c : Co) (S L : List Nat) (T : Tb) (h l t s e : Nat) : Int := if (h : Int) = c 2 2 then vE aim S L s e else if nS c h l < 0 then -1 else T (h + 1) (nS c h l).toNat t s (e ||| sa c L (h + 1) t)
/-- .. and the first n links -/
def fL (aim : Nat) (c : Co) (S L : List Nat) (pm : Nat) (T : Tb) (h l t s e : Nat) : Nat → Int
  | 0 => v0A aim c S L T h l t s e
  | k + 1 => if lvp c h k = true ∧ c 13 k = (t : Int) then jn aim (fL aim c S L pm T h l t s e k) (bL aim c S L pm T k h l s e) else fL aim c S L pm T h l t s e k
/-- the value of a cell out of the others -/
def rh (aim : Nat) (c : Co) (S L : List Nat) (pm : Nat) (T : Tb) (h l t s e : Nat) : Int := if aim = 5 ∧ s < S.length then jn aim (chg aim (fL aim c S L pm T h l t s e (c 0 2).toNat) (pMs c pm h t)) (chg aim (T h l t (s + 1) e) (2 ^ (S.getD s 0))) else chg aim (fL aim c S L pm T h l t s e (c 0 2).toNat) (pMs c pm h t)
theorem fL_stop {aim : Nat} {c : Co} {S L : List Nat} {pm : Nat} {T : Tb} {h l t s e k : Nat} : ∀ n, k ≤ n → (∀ q, k ≤ q → q < n → lvp c h q = false) → fL aim c S L pm T h l t s e n = fL aim c S L pm T h l t s e k
  | 0, hk, _ => by rw [show k = 0 by omega]
  | n + 1, hk, hq => by
    by_cases q : k = n + 1
    · rw [q]
    · rw [fL, if_neg (fun z => by rw [hq n (by omega) (by omega)] at z; cases z.1), fL_stop n (by omega) (fun j h1 h2 => hq j h1 (by omega))]
theorem vE_rng {aim : Nat} {c : Co} {S L : List Nat} {pm s e : Nat} (hw : WF c) (hs : Sk c S L pm) : -1 ≤ vE aim S L s e ∧ vE aim S L s e ≤ 2304 := by
  have h1 := ml_lt hw hs (e := e) L.length (Nat.le_refl _)
  have h2 := bc_le h1
  unfold vE chg
  repeat' split
  all_goals omega
theorem can_h {c : Co} {h t k : Nat} (hw : WF c) (hk : (k : Int) < c 0 2) (q : lvp c h k = true) : h + (c 16 k).toNat ≤ (c 2 2).toNat ∧ h < h + (c 16 k).toNat := by
  have := hw.2.2.2.2.2.2.2.1
  obtain ⟨-, -, -, -, ⟨k7, k8⟩, -⟩ := hw.2.2.2.1 k hk
  unfold lvp at q
  simp only [decide_eq_true_eq] at q
  omega
theorem bL_rng {aim : Nat} {c : Co} {S L : List Nat} {pm : Nat} {T : Tb} {k h l t s e : Nat} (ha : aim ≤ 5) (hw : WF c) (hs : Sk c S L pm) (hk : (k : Int) < c 0 2) (v : Vd c S L h l t s e) (hT : Tok aim c S L T (h + (c 16 k).toNat)) : -1 ≤ bL aim c S L pm T k h l s e ∧ bL aim c S L pm T k h l s e ≤ B1 aim := by
  have hb := Bd_B1 aim
  obtain ⟨-, -, -, -, -, ⟨k9, k10⟩, -⟩ := hw.2.2.2.1 k hk
  have hr := bsT_rng hw hs hk v hT (pm := pm) (nP aim c S k s) (by
    unfold nP
    split
    · rename_i q; exact Or.inr q.2
    · exact Or.inl (by omega))
  unfold bL wtA
  by_cases q4 : aim = 4
  · have := hb.2.2.2.1 q4
    rw [if_neg (by omega : ¬ aim = 5)] at hr
    have hB : Bd aim = 1000000000 := by unfold Bd; rw [if_pos q4]
    repeat' split
    all_goals omega
  · have := hb.2.2.2.2 q4
    split at hr
    all_goals repeat' split
    all_goals omega
theorem v0A_rng {aim : Nat} {c : Co} {S L : List Nat} {pm : Nat} {T : Tb} {h l t s e : Nat} (hw : WF c) (hs : Sk c S L pm) (v : Vd c S L h l t s e) (hh : (h : Int) ≤ c 2 2) (hT : ∀ g, h < g → (g : Int) ≤ c 2 2 → Tok aim c S L T g) : -1 ≤ v0A aim c S L T h l t s e ∧ v0A aim c S L T h l t s e ≤ B1 aim := by
  have hb := Bd_B1 aim
  have h1 := vE_rng (aim := aim) (s := s) (e := e) hw hs
  have hB : 2304 ≤ B1 aim := by unfold B1; split <;> omega
  have hB2 : Bd aim ≤ B1 aim := by unfold B1 Bd; split <;> omega
  unfold v0A
  split
  · omega
  · split
    · omega
    · have := hT (h + 1) (by omega) (by omega) _ _ _ _ (nS_Vd (pm := pm) hw v (by omega))
      omega
theorem fL_rng {aim : Nat} {c : Co} {S L : List Nat} {pm : Nat} {T : Tb} {h l t s e : Nat} (ha : aim ≤ 5) (hw : WF c) (hs : Sk c S L pm) (v : Vd c S L h l t s e) (hh : (h : Int) ≤ c 2 2) (hT : ∀ g, h < g → (g : Int) ≤ c 2 2 → Tok aim c S L T g) : ∀ n : Nat, (n : Int) ≤ c 0 2 → -1 ≤ fL aim c S L pm T h l t s e n ∧ fL aim c S L pm T h l t s e n ≤ B1 aim
  | 0, _ => v0A_rng hw hs v hh hT
  | n + 1, hn => by
    have h1 := fL_rng (pm := pm) ha hw hs v hh hT n (by omega)
    rw [fL]
    split
    · rename_i q
      have h2 := can_h (t := t) hw (by omega : (n : Int) < c 0 2) q.1
      exact jn_rng h1 (bL_rng ha hw hs (by omega) v (hT _ h2.2 (by omega))) (Bd_B1 aim).2.2.2.1
    · exact h1
theorem valueOf_X {μ : Mi} {i : Bool} {c : Co} {S L : List Nat} {pm aim : Nat} (P : Pr μ i c S L pm) (hA : rd μ 4 i 12 = (aim : Int)) (ha : aim ≤ 5) {h l t s e : Nat} (hh : (h : Int) ≤ c 2 2) (v : Vd c S L h l t s e) (hT : ∀ g, h < g → (g : Int) ≤ c 2 2 → Tok aim c S L (tb μ) g) (hT2 : s < S.length → -1 ≤ tb μ h l t (s + 1) e ∧ tb μ h l t (s + 1) e ≤ Bd aim) : D_X4_valueOf i (h : Int) ((mk4 l t s e : Nat) : Int) μ = some (rh aim c S L pm (tb μ) h l t s e) := by
  have hc := P.1
  have hw := P.2.1
  have hs := P.2.2.1
  have hvs := v.vs hw hs
  have hlt := mk4_lt hvs
  have hnl := hw.2.1
  have hen := hw.2.2.2.2.2.2.2.1
  have hS6 := hs.1
  have hbb := Bd_B1 aim
  have hsz := hw.2.2.2.2.2.2.2.2.1
  have hl4 := lv4_lt hw h
  have htw := hw.1
  have ht8 := hvs.2.1
  have hfr := fL_rng (pm := pm) ha hw hs v hh hT
  have h84 : ∀ x : Int, x = fL aim c S L pm (tb μ) h l t s e (c 0 2).toNat → B_X4_valueOf_84 i (h : Int) ((mk4 l t s e : Nat) : Int) x μ = some (rh aim c S L pm (tb μ) h l t s e) := by
    intro x hx
    have hr := hfr (c 0 2).toNat (by omega)
    rw [← hx] at hr
    have hp := pMs_lt (pm := pm) (h := h) (t := t) hw
    have hch := chg_rng (aim := aim) (m := pMs c pm h t) (a := x) (B := B1 aim) hr hp (by omega)
    have hs3 : s ≤ 6 := hvs.2.2.1
    unfold B_X4_valueOf_84 rh
    rw [townOf_X hvs, papersMissed_X P h t (by omega) (by omega), bp_k, hA, wid (x := (aim : Int)) (by omega) (by omega), charge_X hA ha ⟨hr.1, by omega⟩ (by omega), stampsOf_X hvs, P.2.2.2.1, wid (x := ((S.length : Nat) : Int)) (by omega) (by omega), wid (x := (s : Int)) (by omega) (by omega), ← hx]
    by_cases q : aim = 5
    · rw [if_neg (by omega)]
      by_cases q2 : s < S.length
      · have v' : Vd c S L h l t (s + 1) e := ⟨v.1, v.2.1, by omega, v.2.2.2⟩
        obtain ⟨t1, t2, t3⟩ := tab_X (μ := μ) hw hs (by omega) v'
        have hq3 := hs.2.2.1 s q2
        have e4 : ((mk4 l t s e : Nat) : Int) + 4 = ((mk4 l t (s + 1) e : Nat) : Int) := by unfold mk4; omega
        have etb : rd μ 32 false (pT h l t (s + 1) e) = tb μ h l t (s + 1) e := rfl
        have h2 := hT2 q2
        have hpw : 2 ^ (S.getD s 0) < 256 := Nat.lt_of_lt_of_le (Nat.pow_lt_pow_right (by omega) (by omega : S.getD s 0 < 8)) (by decide)
        have hB9 : Bd aim = 900000000 := by unfold Bd; rw [if_neg (by omega)]
        have hB10 : B1 aim = 900010000 := by unfold B1; rw [if_neg (by omega)]
        have hch2 := chg_rng (aim := aim) (m := 2 ^ (S.getD s 0)) (a := tb μ h l t (s + 1) e) (B := Bd aim) h2 hpw (by omega)
        rw [if_pos q] at hch hch2
        rw [if_neg (by omega), e4, t1, if_pos t2, if_pos (by omega), ixn s (by omega), t3, P.2.2.2.2.1 s q2, etb, ishl1 _ (by omega), charge_X hA ha ⟨h2.1, by omega⟩ (by omega), join_X hA ha ⟨hch.1, by omega⟩ ⟨hch2.1, by omega⟩, if_pos ⟨q, q2⟩]
      · rw [if_pos (by omega), if_neg (fun z => q2 z.2)]
    · rw [if_pos (by omega), if_neg (fun z => q z.1)]
  have key : ∀ d n k : Nat, k + d = (c 0 2).toNat → d < n → B_X4_valueOf_29 n i (h : Int) ((mk4 l t s e : Nat) : Int) (fL aim c S L pm (tb μ) h l t s e k) (k : Int) μ = some (rh aim c S L pm (tb μ) h l t s e) := by
    intro d
    induction d with
    | zero =>
      intro n k hk hn
      obtain ⟨n, rfl⟩ : ∃ q, n = q + 1 := ⟨n - 1, by omega⟩
      rw [B_X4_valueOf_29_s, F_X4_valueOf_29, ca hc (r := 0) (by omega), wid (x := c 0 2) (by omega) (by omega), wid (x := (k : Int)) (by omega) (by omega), if_pos (by omega)]
      exact h84 _ (by rw [show k = (c 0 2).toNat by omega])
    | succ d ih =>
      intro n k hk hn
      obtain ⟨n, rfl⟩ : ∃ q, n = q + 1 := ⟨n - 1, by omega⟩
      have hkl : (k : Int) < c 0 2 := by omega
      obtain ⟨dv, edv⟩ : ∃ dv, lv4 c h / 2 ^ k = dv := ⟨_, rfl⟩
      have hdv : dv ≤ lv4 c h := by rw [← edv]; exact Nat.div_le_self _ _
      have h78 : ∀ x : Int, x = fL aim c S L pm (tb μ) h l t s e (k + 1) → B_X4_valueOf_78 (B_X4_valueOf_29 n) i (h : Int) ((mk4 l t s e : Nat) : Int) x (k : Int) μ = some (rh aim c S L pm (tb μ) h l t s e) := by
        intro x hx
        unfold B_X4_valueOf_78
        rw [hx, show (k : Int) + 1 = ((k + 1 : Nat) : Int) by omega]
        exact ih n (k + 1) (by omega) (by omega)
      rw [B_X4_valueOf_29_s, F_X4_valueOf_29, ca hc (r := 0) (by omega), wid (x := c 0 2) (by omega) (by omega), wid (x := (k : Int)) (by omega) (by omega), if_neg (by omega), wid (x := (h : Int)) (by omega) (by omega), if_pos (by omega), ixn h (by omega), P.2.2.2.2.2.2.2.2 h (by omega), ishr_n _ k (by omega) (by omega), edv, wid (x := (dv : Int)) (by omega) (by omega)]
      by_cases z : dv = 0
      · rw [if_pos (by omega)]
        refine h84 _ (fL_stop _ (by omega) (fun q h1 h2 => ?_)).symm
        rw [← lv4_bit (by omega)]
        exact pm_shift (edv.trans z) q h1
      · rw [if_neg (by omega)]
        obtain ⟨r, hr1, hr2⟩ := canTake_X P hkl (by omega : h ≤ 96) hvs
        rw [hr1, bp_k]
        rcases hr2 with ⟨hr2, hr3⟩ | ⟨hr2, hr3⟩
        · have h2 := can_h (t := t) hw hkl hr3.1
          have hTk := hT _ h2.2 (by omega)
          have hbr := bL_rng (pm := pm) ha hw hs hkl v hTk
          have hfk := hfr k (by omega)
          rw [hr2, if_neg (by decide), valueByLink_X P hA ha hkl (by omega) v hTk, bp_k, join_X hA ha ⟨hfk.1, by omega⟩ ⟨hbr.1, by omega⟩]
          exact h78 _ (by rw [fL, if_pos hr3])
        · rw [hr2, if_pos (by decide)]
          exact h78 _ (by rw [fL, if_neg hr3])
  have h25 : ∀ x : Int, x = v0A aim c S L (tb μ) h l t s e → B_X4_valueOf_25 i (h : Int) ((mk4 l t s e : Nat) : Int) x μ = some (rh aim c S L pm (tb μ) h l t s e) := by
    intro x hx
    subst hx
    exact key (c 0 2).toNat FU 0 (by omega) (FU_gt (by omega))
  unfold D_X4_valueOf
  rw [cm hc (r := 2) (by omega), wid (x := (h : Int)) (by omega) (by omega), wid (x := c 2 2) (by omega) (by omega)]
  by_cases q : (h : Int) = c 2 2
  · rw [if_neg (by omega), valueAtEnd_X P hA ha hvs, bp_k]
    exact h25 _ (by unfold v0A; rw [if_pos q])
  · rw [if_pos q, valueByStay_X P (by omega) v, bp_k]
    exact h25 _ (by unfold v0A; rw [if_neg q])
