/-! PURE: how the values of aims 5 and 4 are made -/
def aR (c : Co) (S L : List Nat) (T : Tb) (k h l s e j : Nat) : Int := T (h + (c 16 k).toNat) (nK c h (h + (c 16 k).toNat) l).toNat (c 14 k).toNat (nT c S k h s j).toNat (e ||| sa c L (h + (c 16 k).toNat) (c 14 k).toNat)
abbrev okA (c : Co) (S : List Nat) (k h l s j : Nat) : Prop := ¬ (nK c h (h + (c 16 k).toNat) l < 0 ∨ nT c S k h s j < 0)
theorem cs_nn (p : Nat → Prop) : ∀ n, 0 ≤ cs p n
  | 0 => Int.le_refl 0
  | n + 1 => by
    have ih := cs_nn p n
    have h0 : (0 : Int) ≤ ((2 ^ n : Nat) : Int) := Int.natCast_nonneg _
    rw [cs]
    split <;> omega
theorem csm_nn (m : Nat) : 0 ≤ csm m := cs_nn _ 8
theorem DP.tok {aim : Nat} {c : Co} {S L : List Nat} {pm : Nat} {T : Tb} (D : DP aim c S L pm T) (g : Nat) (h2 : (g : Int) ≤ c 2 2) : Tok aim c S L T g := fun l t s e hv => by
  have := (D g l t s e h2 hv).2
  exact ⟨this.1, Int.le_trans this.2 bdT_Bd⟩
theorem bs5 {c : Co} {S L : List Nat} {pm : Nat} {T : Tb} {k h l t s e : Nat} (hw : WF c) (hs : Sk c S L pm) (hk : (k : Int) < c 0 2) (v : Vd c S L h l t s e) (hT : Tok 5 c S L T (h + (c 16 k).toNat)) : ∀ n, (n ≤ 1 ∨ ¬ c 20 k = -1) → (∀ j, j < n → okA c S k h l s j → 0 ≤ aR c S L T k h l s e j → 0 ≤ bsT 5 c S L pm T k h l s e n ∧ bsT 5 c S L pm T k h l s e n ≤ aR c S L T k h l s e j + csm (mT c S pm k h s j)) ∧ (0 ≤ bsT 5 c S L pm T k h l s e n → ∃ j, j < n ∧ okA c S k h l s j ∧ 0 ≤ aR c S L T k h l s e j ∧ bsT 5 c S L pm T k h l s e n = aR c S L T k h l s e j + csm (mT c S pm k h s j))
  | 0, _ => ⟨fun j hj => by omega, fun z => by rw [bsT] at z; omega⟩
  | n + 1, hn => by
    obtain ⟨i1, i2⟩ := bs5 (pm := pm) hw hs hk v hT n (by omega)
    have hb := bsT_rng (pm := pm) hw hs hk v hT n (by omega)
    rw [bsT]
    by_cases z : nK c h (h + (c 16 k).toNat) l < 0 ∨ nT c S k h s n < 0
    · rw [if_pos z]
      refine ⟨fun j hj ok ha => i1 j ?_ ok ha, fun y => ?_⟩
      · have : j ≠ n := fun e => by subst e; exact ok z
        omega
      · obtain ⟨j, j1, j2⟩ := i2 y
        exact ⟨j, by omega, j2⟩
    · rw [if_neg z]
      have hv := (hT _ _ _ _ (arr_Vd (pm := pm) hw hk v z (by omega))).1
      have ea : T (h + (c 16 k).toNat) (nK c h (h + (c 16 k).toNat) l).toNat (c 14 k).toNat (nT c S k h s n).toNat (e ||| sa c L (h + (c 16 k).toNat) (c 14 k).toNat) = aR c S L T k h l s e n := rfl
      rw [ea] at hv ⊢
      have hm := mT_lt (k := k) (h := h) (s := s) hw hs n
      have hc : -1 ≤ chg 5 (aR c S L T k h l s e n) (mT c S pm k h s n) ∧ (0 ≤ chg 5 (aR c S L T k h l s e n) (mT c S pm k h s n) → 0 ≤ aR c S L T k h l s e n) := by
        by_cases y : 0 ≤ aR c S L T k h l s e n
        · have h0 := cs_mono (p := fun _ => False) (r := fun q => (mT c S pm k h s n).testBit q = true) (n := 8) (fun _ _ w => w.elim)
          have h1 := csm_n hm
          rw [chg5 y hm]
          exact ⟨by omega, fun _ => y⟩
        · rw [chg5n (by omega)]
          exact ⟨hv, fun w => w⟩
      obtain ⟨q1, q2, q3⟩ := jn5 hb.1 hc.1
      refine ⟨fun j hj ok ha => ?_, fun y => ?_⟩
      · by_cases e : j = n
        · subst e
          rw [chg5 ha hm] at q2 ⊢
          have h1 := csm_n hm
          exact q2 (by omega)
        · obtain ⟨p1, p2⟩ := i1 j (by omega) ok ha
          have := q1 p1
          omega
      · rcases q3 y with ⟨y1, y2⟩ | ⟨y1, y2⟩
        · obtain ⟨j, j1, j2, j3, j4⟩ := i2 y1
          exact ⟨j, by omega, j2, j3, by rw [y2]; exact j4⟩
        · have ha := hc.2 y1
          exact ⟨n, by omega, z, ha, by rw [y2, chg5 ha hm]⟩
theorem nP_5 {c : Co} {S : List Nat} {k s : Nat} : nP 5 c S k s ≤ 1 ∨ ¬ c 20 k = -1 := by
  unfold nP
  by_cases z : c 20 k = -1
  · rw [if_neg (fun w => w.2 z)]; left; omega
  · right; exact z
theorem bL5 {c : Co} {S L : List Nat} {pm : Nat} {T : Tb} {k h l s e : Nat} : bL 5 c S L pm T k h l s e = if bsT 5 c S L pm T k h l s e (nP 5 c S k s) < 0 then -1 else bsT 5 c S L pm T k h l s e (nP 5 c S k s) := by
  unfold bL wtA
  rw [if_neg (by omega : ¬ ((5 : Nat) = 0 ∨ (5 : Nat) = 1)), if_neg (by omega : ¬ ((5 : Nat) = 2 ∨ (5 : Nat) = 3))]
  split <;> omega
theorem fL5 {c : Co} {S L : List Nat} {pm : Nat} {T : Tb} {h l t s e : Nat} (hw : WF c) (hs : Sk c S L pm) (v : Vd c S L h l t s e) (hh : (h : Int) ≤ c 2 2) (hT : ∀ g, h < g → (g : Int) ≤ c 2 2 → Tok 5 c S L T g) : ∀ n : Nat, (n : Int) ≤ c 0 2 → (0 ≤ v0A 5 c S L T h l t s e → 0 ≤ fL 5 c S L pm T h l t s e n ∧ fL 5 c S L pm T h l t s e n ≤ v0A 5 c S L T h l t s e) ∧ (∀ k, k < n → can c h t k → ∀ j, j < nP 5 c S k s → okA c S k h l s j → 0 ≤ aR c S L T k h l s e j → 0 ≤ fL 5 c S L pm T h l t s e n ∧ fL 5 c S L pm T h l t s e n ≤ aR c S L T k h l s e j + csm (mT c S pm k h s j)) ∧ (0 ≤ fL 5 c S L pm T h l t s e n → (0 ≤ v0A 5 c S L T h l t s e ∧ fL 5 c S L pm T h l t s e n = v0A 5 c S L T h l t s e) ∨ ∃ k j, k < n ∧ can c h t k ∧ j < nP 5 c S k s ∧ okA c S k h l s j ∧ 0 ≤ aR c S L T k h l s e j ∧ fL 5 c S L pm T h l t s e n = aR c S L T k h l s e j + csm (mT c S pm k h s j)) := by
  intro n
  induction n with
  | zero =>
    intro _
    exact ⟨fun z => ⟨z, Int.le_refl _⟩, fun k hk => by omega, fun z => Or.inl ⟨z, rfl⟩⟩
  | succ n ih =>
    intro hn
    obtain ⟨i1, i2, i3⟩ := ih (by omega)
    have hr := (fL_rng (pm := pm) (by omega) hw hs v hh hT n (by omega)).1
    have hen := hw.2.2.2.2.2.2.2.1
    rw [fL]
    by_cases z : lvp c h n = true ∧ c 13 n = (t : Int)
    · rw [if_pos z]
      have hch := can_h (t := t) hw (show (n : Int) < c 0 2 by omega) z.1
      have hTk := hT (h + (c 16 n).toNat) hch.2 (by omega)
      have hbr := (bL_rng (pm := pm) (by omega) hw hs (show (n : Int) < c 0 2 by omega) v hTk).1
      obtain ⟨b1, b2⟩ := bs5 (pm := pm) hw hs (show (n : Int) < c 0 2 by omega) v hTk (nP 5 c S n s) nP_5
      obtain ⟨q1, q2, q3⟩ := jn5 hr hbr
      have eb := @bL5 c S L pm T n h l s e
      refine ⟨fun y => ?_, fun k hk ck j hj ok ha => ?_, fun y => ?_⟩
      · have p := i1 y
        have := q1 p.1
        omega
      · by_cases e1 : k = n
        · subst e1
          obtain ⟨p1, p2⟩ := b1 j hj ok ha
          rw [if_neg (by omega)] at eb
          have := q2 (by omega)
          omega
        · obtain ⟨p1, p2⟩ := i2 k (by omega) ck j hj ok ha
          have := q1 p1
          omega
      · rcases q3 y with ⟨y1, y2⟩ | ⟨y1, y2⟩
        · rcases i3 y1 with w | ⟨k, j, w1, w2⟩
          · left; exact ⟨w.1, by rw [y2]; exact w.2⟩
          · right; exact ⟨k, j, by omega, by rw [y2]; exact w2⟩
        · right
          have hbs : ¬ bsT 5 c S L pm T n h l s e (nP 5 c S n s) < 0 := fun w => by rw [if_pos w] at eb; omega
          rw [if_neg hbs] at eb
          obtain ⟨j, j1, j2, j3, j4⟩ := b2 (by omega)
          exact ⟨n, j, by omega, z, j1, j2, j3, by rw [y2, eb]; exact j4⟩
    · rw [if_neg z]
      refine ⟨i1, fun k hk ck => i2 k ?_ ck, fun y => ?_⟩
      · have : k ≠ n := fun w => by subst w; exact z ck
        omega
      · rcases i3 y with w | ⟨k, j, w1, w2⟩
        · left; exact w
        · right; exact ⟨k, j, by omega, w2⟩
theorem two_bit {a q : Nat} : (2 ^ a).testBit q = true ↔ q = a := by
  rw [Nat.testBit_two_pow]
  simp
  omega
/-- what the value of doubts is at most, and what it is made of -/
theorem T5_all {c : Co} {S L : List Nat} {pm : Nat} {T : Tb} {h l t s e : Nat} (hw : WF c) (hs : Sk c S L pm) (D : DP 5 c S L pm T) (v : Vd c S L h l t s e) (hh : (h : Int) ≤ c 2 2) : (s < S.length → 0 ≤ T h l t (s + 1) e → 0 ≤ T h l t s e ∧ T h l t s e ≤ T h l t (s + 1) e + csm (2 ^ S.getD s 0)) ∧ (0 ≤ fL 5 c S L pm T h l t s e (c 0 2).toNat → 0 ≤ T h l t s e ∧ T h l t s e ≤ fL 5 c S L pm T h l t s e (c 0 2).toNat + csm (pMs c pm h t)) ∧ (0 ≤ T h l t s e → (s < S.length ∧ 0 ≤ T h l t (s + 1) e ∧ T h l t s e = T h l t (s + 1) e + csm (2 ^ S.getD s 0)) ∨ (0 ≤ fL 5 c S L pm T h l t s e (c 0 2).toNat ∧ T h l t s e = fL 5 c S L pm T h l t s e (c 0 2).toNat + csm (pMs c pm h t))) := by
  have hnl := hw.2.1
  have hsz := hw.2.2.2.2.2.2.2.2.1
  have d1 := (D h l t s e hh v).1
  have hr := (fL_rng (pm := pm) (by omega) hw hs v hh (fun g _ hg => D.tok g hg) (c 0 2).toNat (by omega)).1
  have hpm := pMs_lt (pm := pm) (h := h) (t := t) hw
  have h1 := csm_n hpm
  have hc : -1 ≤ chg 5 (fL 5 c S L pm T h l t s e (c 0 2).toNat) (pMs c pm h t) ∧ (0 ≤ fL 5 c S L pm T h l t s e (c 0 2).toNat → chg 5 (fL 5 c S L pm T h l t s e (c 0 2).toNat) (pMs c pm h t) = fL 5 c S L pm T h l t s e (c 0 2).toNat + csm (pMs c pm h t)) ∧ (0 ≤ chg 5 (fL 5 c S L pm T h l t s e (c 0 2).toNat) (pMs c pm h t) → 0 ≤ fL 5 c S L pm T h l t s e (c 0 2).toNat) := by
    by_cases y : 0 ≤ fL 5 c S L pm T h l t s e (c 0 2).toNat
    · rw [chg5 y hpm]
      exact ⟨by omega, fun _ => rfl, fun _ => y⟩
    · rw [chg5n (by omega)]
      exact ⟨hr, fun w => absurd w y, fun w => w⟩
  unfold rh at d1
  by_cases z : s < S.length
  · rw [if_pos ⟨rfl, z⟩] at d1
    have hsm : 2 ^ S.getD s 0 < 256 := by
      have := hs.2.2.1 s z
      have h8 : 2 ^ S.getD s 0 < 2 ^ 8 := Nat.pow_lt_pow_right (by omega) (by omega)
      exact h8
    have v' : Vd c S L h l t (s + 1) e := ⟨v.1, v.2.1, by omega, v.2.2.2⟩
    have hb := (D h l t (s + 1) e hh v').2.1
    have h2 := csm_nn (2 ^ S.getD s 0)
    have hd : -1 ≤ chg 5 (T h l t (s + 1) e) (2 ^ S.getD s 0) ∧ (0 ≤ T h l t (s + 1) e → chg 5 (T h l t (s + 1) e) (2 ^ S.getD s 0) = T h l t (s + 1) e + csm (2 ^ S.getD s 0)) ∧ (0 ≤ chg 5 (T h l t (s + 1) e) (2 ^ S.getD s 0) → 0 ≤ T h l t (s + 1) e) := by
      by_cases y : 0 ≤ T h l t (s + 1) e
      · rw [chg5 y hsm]
        exact ⟨by omega, fun _ => rfl, fun _ => y⟩
      · rw [chg5n (by omega)]
        exact ⟨hb, fun w => absurd w y, fun w => w⟩
    obtain ⟨q1, q2, q3⟩ := jn5 hc.1 hd.1
    rw [← d1] at q1 q2 q3
    refine ⟨fun _ y => ?_, fun y => ?_, fun y => ?_⟩
    · have e := hd.2.1 y
      rw [e] at q2
      exact q2 (by omega)
    · have e := hc.2.1 y
      rw [e] at q1
      exact q1 (by omega)
    · rcases q3 y with ⟨y1, y2⟩ | ⟨y1, y2⟩
      · right
        have := hc.2.2 y1
        exact ⟨this, by rw [y2, hc.2.1 this]⟩
      · left
        have := hd.2.2 y1
        exact ⟨z, this, by rw [y2, hd.2.1 this]⟩
  · rw [if_neg (fun w => z w.2)] at d1
    refine ⟨fun w => absurd w z, fun y => ?_, fun y => ?_⟩
    · have e := hc.2.1 y
      rw [d1, e]
      exact ⟨by omega, Int.le_refl _⟩
    · right
      rw [d1] at y
      have := hc.2.2 y
      exact ⟨this, by rw [d1, hc.2.1 this]⟩
/-- where the count goes on -/
theorem fL4 {c : Co} {S L : List Nat} {pm : Nat} {T : Tb} {h l t s e : Nat} (hw : WF c) (hs : Sk c S L pm) (v : Vd c S L h l t s e) (hh : (h : Int) ≤ c 2 2) (hT : ∀ g, h < g → (g : Int) ≤ c 2 2 → Tok 4 c S L T g) : ∀ n : Nat, (n : Int) ≤ c 0 2 → (0 ≤ fL 4 c S L pm T h l t s e n ↔ 0 ≤ v0A 4 c S L T h l t s e ∨ ∃ k, k < n ∧ can c h t k ∧ okA c S k h l s 0 ∧ pBt c pm k h = 0 ∧ 0 ≤ aR c S L T k h l s e 0) := by
  intro n
  induction n with
  | zero =>
    intro _
    exact ⟨fun z => Or.inl z, fun z => z.elim id (fun ⟨k, hk, _⟩ => by omega)⟩
  | succ n ih =>
    intro hn
    have i1 := ih (by omega)
    have hr := (fL_rng (pm := pm) (by omega) hw hs v hh hT n (by omega)).1
    have hen := hw.2.2.2.2.2.2.2.1
    rw [fL]
    by_cases z : lvp c h n = true ∧ c 13 n = (t : Int)
    · rw [if_pos z]
      have hch := can_h (t := t) hw (show (n : Int) < c 0 2 by omega) z.1
      have hTk := hT (h + (c 16 n).toNat) hch.2 (by omega)
      have hbr := (bL_rng (pm := pm) (by omega) hw hs (show (n : Int) < c 0 2 by omega) v hTk).1
      have eb : 0 ≤ bL 4 c S L pm T n h l s e ↔ okA c S n h l s 0 ∧ pBt c pm n h = 0 ∧ 0 ≤ aR c S L T n h l s e 0 := by
        have hnP : nP 4 c S n s = 1 := by unfold nP; rw [if_neg (by omega)]
        have ew : wtA 4 c n = 0 := by
          unfold wtA
          rw [if_neg (by omega : ¬ ((4 : Nat) = 0 ∨ (4 : Nat) = 1)), if_neg (by omega : ¬ ((4 : Nat) = 2 ∨ (4 : Nat) = 3))]
        unfold bL
        rw [hnP, ew, bsT, mT]
        by_cases y : nK c h (h + (c 16 n).toNat) l < 0 ∨ nT c S n h s 0 < 0
        · rw [if_pos y, bsT, if_pos (by decide)]
          exact ⟨fun w => by omega, fun w => absurd y w.1⟩
        · have hv := (hTk _ _ _ _ (arr_Vd (pm := pm) hw (show (n : Int) < c 0 2 by omega) v y (Or.inl rfl))).1
          rw [if_neg y, bsT]
          have ea : T (h + (c 16 n).toNat) (nK c h (h + (c 16 n).toNat) l).toNat (c 14 n).toNat (nT c S n h s 0).toNat (e ||| sa c L (h + (c 16 n).toNat) (c 14 n).toNat) = aR c S L T n h l s e 0 := rfl
          rw [ea] at hv ⊢
          have h4 := chg4s (m := pBt c pm n h) hv
          have hcr : -1 ≤ chg 4 (aR c S L T n h l s e 0) (pBt c pm n h) := by
            unfold chg
            repeat' split
            all_goals omega
          rw [jn_m1 hcr]
          constructor
          · intro w
            have w2 : 0 ≤ chg 4 (aR c S L T n h l s e 0) (pBt c pm n h) := by
              split at w <;> omega
            exact ⟨y, (h4.mp w2).2, (h4.mp w2).1⟩
          · rintro ⟨-, w2, w3⟩
            have := h4.mpr ⟨w3, w2⟩
            rw [if_neg (by omega)]
            omega
      rw [jn4s hr hbr, i1, eb]
      constructor
      · rintro ((w | ⟨k, w1, w2⟩) | w)
        · exact Or.inl w
        · exact Or.inr ⟨k, by omega, w2⟩
        · exact Or.inr ⟨n, by omega, z, w⟩
      · rintro (w | ⟨k, w1, w2, w3⟩)
        · exact Or.inl (Or.inl w)
        · by_cases e1 : k = n
          · subst e1; exact Or.inr w3
          · exact Or.inl (Or.inr ⟨k, by omega, w2, w3⟩)
    · rw [if_neg z, i1]
      constructor
      · rintro (w | ⟨k, w1, w2⟩)
        · exact Or.inl w
        · exact Or.inr ⟨k, by omega, w2⟩
      · rintro (w | ⟨k, w1, w2, w3⟩)
        · exact Or.inl w
        · have : k ≠ n := fun q => by subst q; exact z w2
          exact Or.inr ⟨k, by omega, w2, w3⟩
theorem T4_iff {c : Co} {S L : List Nat} {pm : Nat} {T : Tb} {h l t s e : Nat} (hw : WF c) (hs : Sk c S L pm) (D : DP 4 c S L pm T) (v : Vd c S L h l t s e) (hh : (h : Int) ≤ c 2 2) : 0 ≤ T h l t s e ↔ pMs c pm h t = 0 ∧ (0 ≤ v0A 4 c S L T h l t s e ∨ ∃ k : Nat, (k : Int) < c 0 2 ∧ can c h t k ∧ okA c S k h l s 0 ∧ pBt c pm k h = 0 ∧ 0 ≤ aR c S L T k h l s e 0) := by
  have hnl := hw.2.1
  have d1 := (D h l t s e hh v).1
  have hr := (fL_rng (pm := pm) (by omega) hw hs v hh (fun g _ hg => D.tok g hg) (c 0 2).toNat (by omega)).1
  have h4 := fL4 (pm := pm) hw hs v hh (fun g _ hg => D.tok g hg) (c 0 2).toNat (by omega)
  unfold rh at d1
  rw [if_neg (by omega)] at d1
  rw [d1, chg4s hr, h4]
  constructor
  · rintro ⟨w | ⟨k, w1, w2⟩, y⟩
    · exact ⟨y, Or.inl w⟩
    · exact ⟨y, Or.inr ⟨k, by omega, w2⟩⟩
  · rintro ⟨y, w | ⟨k, w1, w2⟩⟩
    · exact ⟨Or.inl w, y⟩
    · exact ⟨Or.inr ⟨k, by omega, w2⟩, y⟩
