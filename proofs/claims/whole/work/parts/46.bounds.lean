/-! PURE: bounds of the values, and what they hang on -/
def bdT (aim h s : Nat) : Int := if aim = 4 then 1000000000 else ((97 - (h : Int)) * 8 + (7 - (s : Int))) * 10000
theorem bdT_Bd {aim h s : Nat} : bdT aim h s ≤ Bd aim := by
  unfold bdT Bd
  split <;> omega
def TkB (B : Int) (c : Co) (S L : List Nat) (T : Tb) (g : Nat) : Prop := ∀ l t s e, Vd c S L g l t s e → -1 ≤ T g l t s e ∧ T g l t s e ≤ B
theorem bsT_B {aim : Nat} {B : Int} {c : Co} {S L : List Nat} {pm : Nat} {T : Tb} {k h l t s e : Nat} (hB : 0 ≤ B) (hB4 : aim = 4 → B = 1000000000) (hw : WF c) (hs : Sk c S L pm) (hk : (k : Int) < c 0 2) (v : Vd c S L h l t s e) (hT : TkB B c S L T (h + (c 16 k).toNat)) : ∀ j, (j ≤ 1 ∨ ¬ c 20 k = -1) → -1 ≤ bsT aim c S L pm T k h l s e j ∧ bsT aim c S L pm T k h l s e j ≤ B + (if aim = 5 then 2303 else 0)
  | 0, _ => by
    rw [bsT]
    split <;> omega
  | j + 1, hj => by
    have h1 := bsT_B (pm := pm) hB hB4 hw hs hk v hT j (by omega)
    rw [bsT]
    split
    · exact h1
    · rename_i q
      have hv := hT _ _ _ _ (arr_Vd (pm := pm) hw hk v q (by omega))
      have h2 := chg_rng (aim := aim) (m := mT c S pm k h s j) hv (mT_lt hw hs j) hB
      refine jn_rng h1 h2 ?_
      intro q4
      rw [hB4 q4, if_neg (by omega)]
      omega
def B2 (aim : Nat) (B : Int) : Int := if aim = 4 then 1000000000 else B + 2402
theorem fL_B {aim : Nat} {B : Int} {c : Co} {S L : List Nat} {pm : Nat} {T : Tb} {h l t s e : Nat} (ha : aim ≤ 5) (hB : 0 ≤ B) (hB4 : aim = 4 → B = 1000000000) (hw : WF c) (hs : Sk c S L pm) (v : Vd c S L h l t s e) (hh : (h : Int) ≤ c 2 2) (hT : ∀ g, h < g → (g : Int) ≤ c 2 2 → TkB B c S L T g) : ∀ n : Nat, (n : Int) ≤ c 0 2 → -1 ≤ fL aim c S L pm T h l t s e n ∧ fL aim c S L pm T h l t s e n ≤ B2 aim B
  | 0, _ => by
    have h1 := vE_rng (aim := aim) (s := s) (e := e) hw hs
    have hB2 : 2304 ≤ B2 aim B ∧ B ≤ B2 aim B := by
      unfold B2
      split
      · rename_i q; have := hB4 q; omega
      · omega
    rw [fL]
    unfold v0A
    split
    · omega
    · split
      · omega
      · have := hT (h + 1) (by omega) (by omega) _ _ _ _ (nS_Vd (pm := pm) hw v (by omega))
        omega
  | n + 1, hn => by
    have h1 := fL_B (pm := pm) ha hB hB4 hw hs v hh hT n (by omega)
    rw [fL]
    split
    · rename_i q
      have hk : (n : Int) < c 0 2 := by omega
      have h2 := can_h (t := t) hw hk q.1
      obtain ⟨-, -, -, -, -, ⟨k9, k10⟩, -⟩ := hw.2.2.2.1 n hk
      have h3 := bsT_B (pm := pm) (aim := aim) hB hB4 hw hs hk v (hT _ h2.2 (by omega)) (nP aim c S n s) (by
        unfold nP
        split
        · rename_i q; exact Or.inr q.2
        · exact Or.inl (by omega))
      refine jn_rng h1 ?_ (fun q4 => by unfold B2; rw [if_pos q4])
      unfold bL wtA B2
      by_cases q4 : aim = 4
      · have := hB4 q4
        rw [if_neg (by omega : ¬ aim = 5)] at h3
        repeat' split
        all_goals omega
      · split at h3
        all_goals repeat' split
        all_goals omega
    · exact h1
theorem rh_B {aim : Nat} {c : Co} {S L : List Nat} {pm : Nat} {T : Tb} {h l t s e : Nat} (ha : aim ≤ 5) (hw : WF c) (hs : Sk c S L pm) (v : Vd c S L h l t s e) (hh : (h : Int) ≤ c 2 2) (hT : ∀ g, h < g → (g : Int) ≤ c 2 2 → ∀ l t s e, Vd c S L g l t s e → -1 ≤ T g l t s e ∧ T g l t s e ≤ bdT aim g s) (hT2 : s < S.length → -1 ≤ T h l t (s + 1) e ∧ T h l t (s + 1) e ≤ bdT aim h (s + 1)) : -1 ≤ rh aim c S L pm T h l t s e ∧ rh aim c S L pm T h l t s e ≤ bdT aim h s := by
  have hen := hw.2.2.2.2.2.2.2.1
  have hS6 := hs.1
  have hs6 : s ≤ 6 := (v.vs hw hs).2.2.1
  obtain ⟨B, hBe⟩ : ∃ B : Int, B = if aim = 4 then 1000000000 else ((96 - (h : Int)) * 8 + 7) * 10000 := ⟨_, rfl⟩
  have hB : 0 ≤ B := by rw [hBe]; split <;> omega
  have hB4 : aim = 4 → B = 1000000000 := fun q => by rw [hBe, if_pos q]
  have hT3 : ∀ g, h < g → (g : Int) ≤ c 2 2 → TkB B c S L T g := fun g h1 h2 l' t' s' e' v' => by
    have h3 := hT g h1 h2 l' t' s' e' v'
    refine ⟨h3.1, Int.le_trans h3.2 ?_⟩
    rw [hBe]
    unfold bdT
    split <;> omega
  have hf := fL_B (pm := pm) (aim := aim) ha hB hB4 hw hs v hh hT3 (c 0 2).toNat (by have := hw.2.1; omega)
  have hp := pMs_lt (pm := pm) (h := h) (t := t) hw
  have hB2 : 0 ≤ B2 aim B := by unfold B2; split <;> omega
  have hch := chg_rng (aim := aim) (m := pMs c pm h t) hf hp hB2
  unfold rh
  by_cases q : aim = 5 ∧ s < S.length
  · rw [if_pos q]
    have h2 := hT2 q.2
    have hq3 := hs.2.2.1 s q.2
    have hsz := hw.2.2.2.2.2.2.2.2.1
    have hpw : 2 ^ (S.getD s 0) < 256 := Nat.lt_of_lt_of_le (Nat.pow_lt_pow_right (by omega) (by omega : S.getD s 0 < 8)) (by decide)
    have hbd : 0 ≤ bdT aim h (s + 1) := by unfold bdT; split <;> omega
    have hch2 := chg_rng (aim := aim) (m := 2 ^ (S.getD s 0)) h2 hpw hbd
    rw [if_pos q.1] at hch hch2
    have hB5 : B2 aim B + 2303 ≤ bdT aim h s := by unfold B2 bdT; rw [if_neg (by omega), if_neg (by omega), hBe, if_neg (by omega)]; omega
    have hB6 : bdT aim h (s + 1) + 2303 ≤ bdT aim h s := by unfold bdT; rw [if_neg (by omega), if_neg (by omega)]; omega
    exact jn_rng ⟨hch.1, by omega⟩ ⟨hch2.1, by omega⟩ (fun z => by omega)
  · rw [if_neg q]
    refine ⟨hch.1, Int.le_trans hch.2 ?_⟩
    unfold B2 bdT
    by_cases q4 : aim = 4
    · rw [if_pos q4, if_pos q4, if_neg (by omega)]; omega
    · rw [if_neg q4, if_neg q4, hBe, if_neg q4]
      split <;> omega
theorem bsT_cong {aim : Nat} {c : Co} {S L : List Nat} {pm : Nat} {T T' : Tb} {k h l t s e : Nat} (hw : WF c) (hk : (k : Int) < c 0 2) (v : Vd c S L h l t s e) (hT : ∀ l t s e, Vd c S L (h + (c 16 k).toNat) l t s e → T' (h + (c 16 k).toNat) l t s e = T (h + (c 16 k).toNat) l t s e) : ∀ j, (j ≤ 1 ∨ ¬ c 20 k = -1) → bsT aim c S L pm T' k h l s e j = bsT aim c S L pm T k h l s e j
  | 0, _ => rfl
  | j + 1, hj => by
    rw [bsT, bsT, bsT_cong hw hk v hT j (by omega)]
    split
    · rfl
    · rename_i q
      rw [hT _ _ _ _ (arr_Vd (pm := pm) hw hk v q (by omega))]
theorem fL_cong {aim : Nat} {c : Co} {S L : List Nat} {pm : Nat} {T T' : Tb} {h l t s e : Nat} (hw : WF c) (v : Vd c S L h l t s e) (hh : (h : Int) ≤ c 2 2) (hT : ∀ g, h < g → (g : Int) ≤ c 2 2 → ∀ l t s e, Vd c S L g l t s e → T' g l t s e = T g l t s e) : ∀ n : Nat, (n : Int) ≤ c 0 2 → fL aim c S L pm T' h l t s e n = fL aim c S L pm T h l t s e n
  | 0, _ => by
    rw [fL, fL]
    unfold v0A
    split
    · rfl
    · split
      · rfl
      · rw [hT (h + 1) (by omega) (by omega) _ _ _ _ (nS_Vd (pm := pm) hw v (by omega))]
  | n + 1, hn => by
    rw [fL, fL, fL_cong hw v hh hT n (by omega)]
    split
    · rename_i q
      have hk : (n : Int) < c 0 2 := by omega
      have hen := hw.2.2.2.2.2.2.2.1
      have h2 := can_h (t := t) hw hk q.1
      unfold bL
      rw [bsT_cong hw hk v (hT _ h2.2 (by omega)) _ (by
        unfold nP
        split
        · rename_i q; exact Or.inr q.2
        · exact Or.inl (by omega))]
    · rfl
theorem rh_cong {aim : Nat} {c : Co} {S L : List Nat} {pm : Nat} {T T' : Tb} {h l t s e : Nat} (hw : WF c) (v : Vd c S L h l t s e) (hh : (h : Int) ≤ c 2 2) (hT : ∀ g, h < g → (g : Int) ≤ c 2 2 → ∀ l t s e, Vd c S L g l t s e → T' g l t s e = T g l t s e) (hT2 : s < S.length → T' h l t (s + 1) e = T h l t (s + 1) e) : rh aim c S L pm T' h l t s e = rh aim c S L pm T h l t s e := by
  have hnl := hw.2.1
  unfold rh
  rw [fL_cong hw v hh hT (c 0 2).toNat (by omega)]
  split
  · rename_i q
    rw [hT2 q.2]
  · rfl
/-- a table that solves the search -/
def DP (aim : Nat) (c : Co) (S L : List Nat) (pm : Nat) (T : Tb) : Prop := ∀ h l t s e : Nat, (h : Int) ≤ c 2 2 → Vd c S L h l t s e → T h l t s e = rh aim c S L pm T h l t s e ∧ -1 ≤ T h l t s e ∧ T h l t s e ≤ bdT aim h s
