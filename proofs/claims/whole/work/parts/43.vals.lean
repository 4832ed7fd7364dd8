/-! PURE: the values of a search -/
/-- most hours slept so far at h -/
def mS (c : Co) (h : Nat) : Nat := if h % 24 < 8 then min (c 2 1).toNat (h % 24) else 0
/-- a state that can be at h -/
def Vd (c : Co) (S L : List Nat) (h l t s e : Nat) : Prop := l ≤ mS c h ∧ (t : Int) < c 0 1 ∧ s ≤ S.length ∧ e < 2 ^ L.length
theorem mostSlept_X {μ : Mi} {i : Bool} {c : Co} (hc : cr μ i = c) (hw : WF c) {h : Nat} (hh : h ≤ 200) : D_X4_mostSlept i (h : Int) μ = ((mS c h : Nat) : Int) := by
  have hslp := hw.2.2.2.2.2.2.1
  have h24 : h % 24 < 24 := Nat.mod_lt _ (by omega)
  unfold D_X4_mostSlept mS
  rw [irem24 (by omega), wid (x := ((h % 24 : Nat) : Int)) (by omega) (by omega)]
  by_cases q : h % 24 < 8
  · rw [if_neg (by omega), if_pos q, cm hc (r := 2) (by omega), min_X (wid (by omega) (by omega)) (wid (by omega) (by omega))]
    omega
  · rw [if_pos (by omega), if_neg q]
    rfl
theorem Vd.vs {c : Co} {S L : List Nat} {pm h l t s e : Nat} (hw : WF c) (hs : Sk c S L pm) (v : Vd c S L h l t s e) : Vs l t s e := by
  obtain ⟨v1, v2, v3, v4⟩ := v
  have hslp := hw.2.2.2.2.2.2.1
  have htw := hw.1
  have h1 := hs.1
  have h2 : 2 ^ L.length ≤ 2 ^ 2 := Nat.pow_le_pow_right (by omega) hs.2.1
  unfold mS at v1
  refine ⟨?_, by omega, by omega, by omega⟩
  split at v1 <;> omega
theorem ixT_bd : ∀ h, h ≤ 96 → ∀ l, l ≤ (if h % 24 < 8 then min 4 (h % 24) else 0) → ixT h + l ≤ 208 := by decide +kernel
theorem ixT_inc : ∀ h, h ≤ 96 → ∀ g, g ≤ 96 → h < g → ixT h + (if h % 24 < 8 then min 4 (h % 24) else 0) < ixT g := by decide +kernel
theorem mS_le {c : Co} (hw : WF c) (h : Nat) : mS c h ≤ (if h % 24 < 8 then min 4 (h % 24) else 0) := by
  have hslp := hw.2.2.2.2.2.2.1
  unfold mS
  split <;> omega
/-- the place of a state in the table -/
def pT (h l t s e : Nat) : Nat := ixT h * 256 + mk4 l t s e
theorem pT_lt {c : Co} {S L : List Nat} {pm h l t s e : Nat} (hw : WF c) (hs : Sk c S L pm) (hh : h ≤ 96) (v : Vd c S L h l t s e) : pT h l t s e < 53504 := by
  have h1 := ixT_bd h hh l (Nat.le_trans v.1 (mS_le hw h))
  obtain ⟨-, v2, v3, v4⟩ := v.vs hw hs
  unfold pT mk4
  omega
theorem pT_inj {c : Co} {S L : List Nat} {pm h l t s e h' l' t' s' e' : Nat} (hw : WF c) (hs : Sk c S L pm) (hh : h ≤ 96) (hh' : h' ≤ 96) (v : Vd c S L h l t s e) (v' : Vd c S L h' l' t' s' e') (q : pT h l t s e = pT h' l' t' s' e') : h = h' ∧ l = l' ∧ t = t' ∧ s = s' ∧ e = e' := by
  have m1 := Nat.le_trans v.1 (mS_le hw h)
  have m2 := Nat.le_trans v'.1 (mS_le hw h')
  obtain ⟨-, v2, v3, v4⟩ := v.vs hw hs
  obtain ⟨-, w2, w3, w4⟩ := v'.vs hw hs
  unfold pT mk4 at q
  have hrow : ixT h + l = ixT h' + l' := by omega
  have hh2 : h = h' := by
    rcases Nat.lt_trichotomy h h' with z | z | z
    · have := ixT_inc h hh h' hh' z
      omega
    · exact z
    · have := ixT_inc h' hh' h hh z
      omega
  subst hh2
  exact ⟨rfl, by omega, by omega, by omega, by omega⟩
/-- the table -/
def tb (μ : Mi) (h l t s e : Nat) : Int := rd μ 32 false (pT h l t s e)
abbrev Tb : Type := Nat → Nat → Nat → Nat → Nat → Int
/-- a table read where it is -/
theorem tab_X {μ : Mi} {c : Co} {S L : List Nat} {pm h l t s e : Nat} (hw : WF c) (hs : Sk c S L pm) (hh : h ≤ 96) (v : Vd c S L h l t s e) : D_X4_index (h : Int) ((mk4 l t s e : Nat) : Int) = ((pT h l t s e : Nat) : Int) ∧ (0 ≤ w32 ((pT h l t s e : Nat) : Int) ∧ w32 ((pT h l t s e : Nat) : Int) < 53504) ∧ ix ((pT h l t s e : Nat) : Int) = pT h l t s e := by
  have h1 := pT_lt hw hs hh v
  have h2 := mk4_lt (v.vs hw hs)
  refine ⟨?_, ?_, ixn _ (by omega)⟩
  · rw [index_X h _ (by omega) (by omega)]
    rfl
  · rw [wid (by omega) (by omega)]
    omega
theorem nS_Vd {c : Co} {S L : List Nat} {pm h l t s e : Nat} (hw : WF c) (v : Vd c S L h l t s e) (h0 : 0 ≤ nS c h l) : Vd c S L (h + 1) (nS c h l).toNat t s (e ||| sa c L (h + 1) t) := by
  have hslp := hw.2.2.2.2.2.2.1
  obtain ⟨v1, v2, v3, v4⟩ := v
  refine ⟨?_, v2, v3, Nat.or_lt_two_pow v4 (mb_lt _ _)⟩
  unfold mS at *
  unfold nS at *
  have h24 : h % 24 < 24 := Nat.mod_lt _ (by omega)
  by_cases q : h % 24 < 8
  · rw [if_pos q] at v1
    simp only [if_pos q] at h0 ⊢
    by_cases q7 : h % 24 = 7
    · simp only [if_pos q7] at h0 ⊢
      split at h0
      · rename_i w; rw [if_pos w]; exact Nat.zero_le _
      · omega
    · simp only [if_neg q7]
      have e2 : (h + 1) % 24 = h % 24 + 1 := by omega
      rw [e2, if_pos (by omega)]
      omega
  · rw [if_neg q] at v1
    simp only [if_neg q]
    omega
theorem nK_Vl {c : Co} (hw : WF c) {h g l : Nat} (hl : l ≤ mS c h) (h0 : 0 ≤ nK c h g l) (hg : h < g) : (nK c h g l).toNat ≤ mS c g := by
  have hslp := hw.2.2.2.2.2.2.1
  unfold nK at *
  by_cases q : h % 24 < 8 ∧ g < h - h % 24 + 8
  · rw [if_pos q] at h0 ⊢
    have e1 : g % 24 = g - (h - h % 24) := by omega
    unfold mS at *
    rw [if_pos q.1] at hl
    rw [if_pos (by omega)]
    omega
  · rw [if_neg q] at h0 ⊢
    split at h0
    · omega
    · rename_i w; rw [if_neg w]; exact Nat.zero_le _
theorem nT_le {c : Co} {S : List Nat} {k h s p : Nat} (hs : s ≤ S.length) (h0 : 0 ≤ nT c S k h s p) (hp : p = 0 ∨ ¬ c 20 k = -1) : (nT c S k h s p).toNat ≤ S.length := by
  unfold nT at *
  by_cases w : (¬ c 19 k = -1 ∧ ¬ sF c S s (c 19 k) 1 (dayC c h (c 13 k).toNat)) ∨ (¬ c 20 k = -1 ∧ ¬ sF c S ((s + if c 19 k = -1 then 0 else 1) + p) (c 20 k) 0 (dayC c (h + (c 16 k).toNat) (c 14 k).toNat))
  · rw [if_pos w] at h0
    omega
  · rw [if_neg w]
    by_cases q : c 20 k = -1
    · have hp0 : p = 0 := by omega
      rw [if_pos q]
      by_cases q2 : c 19 k = -1
      · rw [if_pos q2]; omega
      · rw [if_neg q2]
        have : sF c S s (c 19 k) 1 (dayC c h (c 13 k).toNat) := Decidable.byContradiction fun z => w (Or.inl ⟨q2, z⟩)
        have := this.1
        omega
    · have : sF c S ((s + if c 19 k = -1 then 0 else 1) + p) (c 20 k) 0 (dayC c (h + (c 16 k).toNat) (c 14 k).toNat) := Decidable.byContradiction fun z => w (Or.inr ⟨q, z⟩)
      have := this.1
      rw [if_neg q]
      omega
/-- join and charge, by the aim: 0 cheapest, 1 dearest, 2 plainest, 3 longest, 4 ways, 5 doubts -/
def jn (aim : Nat) (a b : Int) : Int := if a < 0 ∨ b < 0 then max a b else if aim = 4 then min 1000000000 (a + b) else if aim = 1 ∨ aim = 3 then max a b else min a b
def bc (m : Nat) : Nat := cn (fun j => m.testBit j) 9
theorem bitCount_X : ∀ m, m < 512 → D_J6_bitCount_0f7a4 ((m : Nat) : Int) = ((bc m : Nat) : Int) := by decide +kernel
def chg (aim : Nat) (v : Int) (m : Nat) : Int := if v < 0 ∨ m = 0 then v else if aim = 5 then v + (bc m : Int) * 256 + (m : Int) else -1
def wtA (aim : Nat) (c : Co) (k : Nat) : Int := if aim = 0 ∨ aim = 1 then c 17 k else if aim = 2 ∨ aim = 3 then 1 else 0
theorem join_X {μ : Mi} {i : Bool} {aim : Nat} (hA : rd μ 4 i 12 = (aim : Int)) (ha : aim ≤ 5) {a b : Int} (h1 : -1 ≤ a ∧ a ≤ 1000000000) (h2 : -1 ≤ b ∧ b ≤ 1000000000) : D_X4_join i a b μ = jn aim a b := by
  unfold D_X4_join B_X4_join_8 B_X4_join_47 jn
  rw [hA, wid (x := a) (by omega) (by omega), wid (x := b) (by omega) (by omega), wid (x := (aim : Int)) (by omega) (by omega), max_X (wid (by omega) (by omega)) (wid (by omega) (by omega)), min_X (wid (by omega) (by omega)) (wid (by omega) (by omega)), min_X (by decide) (wid (by omega) (by omega))]
  repeat' split
  all_goals omega
theorem charge_X {μ : Mi} {i : Bool} {aim : Nat} (hA : rd μ 4 i 12 = (aim : Int)) (ha : aim ≤ 5) {a : Int} {m : Nat} (h1 : -1 ≤ a ∧ a ≤ 1000000000) (hm : m < 512) : D_X4_charge i a (m : Int) μ = chg aim a m := by
  unfold D_X4_charge chg
  rw [hA, wid (x := a) (by omega) (by omega), wid (x := (m : Int)) (by omega) (by omega), wid (x := (aim : Int)) (by omega) (by omega), bitCount_X m hm]
  repeat' split
  all_goals omega
theorem weightOf_X {μ : Mi} {i : Bool} {c : Co} {aim k : Nat} (hc : cr μ i = c) (hA : rd μ 4 i 12 = (aim : Int)) (ha : aim ≤ 5) (hk : k < 16) : D_X4_weightOf i (k : Int) μ = some (wtA aim c k) := by
  unfold D_X4_weightOf B_X4_weightOf_15 wtA
  rw [hA, wid (x := (k : Int)) (by omega) (by omega), wid (x := (aim : Int)) (by omega) (by omega), if_pos (show 0 ≤ (k : Int) ∧ (k : Int) < 16 by omega), ixn k (by omega), ca hc (r := 17) (by omega)]
  repeat' split
  all_goals first | rfl | omega
theorem bc_le {m : Nat} (h : m < 256) : bc m ≤ 8 := by
  have h1 := cn_le (fun j => m.testBit j) 8
  unfold bc
  rw [cn, Nat.testBit_lt_two_pow (i := 8) (by omega)]
  simpa using h1
theorem chg_rng {aim : Nat} {a B : Int} {m : Nat} (h : -1 ≤ a ∧ a ≤ B) (hm : m < 256) (hB : 0 ≤ B) : -1 ≤ chg aim a m ∧ chg aim a m ≤ B + (if aim = 5 then 2303 else 0) := by
  have := bc_le hm
  unfold chg
  repeat' split
  all_goals omega
theorem jn_rng {aim : Nat} {a b B : Int} (h1 : -1 ≤ a ∧ a ≤ B) (h2 : -1 ≤ b ∧ b ≤ B) (hB : aim = 4 → B = 1000000000) : -1 ≤ jn aim a b ∧ jn aim a b ≤ B := by
  unfold jn
  repeat' split
  all_goals omega
/-- looks missed at the end, by their traces -/
def ml (L : List Nat) (e : Nat) : Nat → Nat
  | 0 => 0
  | n + 1 => if e.testBit n then ml L e n else ml L e n ||| 2 ^ (L.getD n 0)
theorem or_lt8 {a k : Nat} (h : a < 256) (hk : k < 8) : a ||| 2 ^ k < 256 := by
  have : 2 ^ k < 2 ^ 8 := Nat.pow_lt_pow_right (by omega) hk
  exact Nat.or_lt_two_pow (n := 8) h this
theorem ml_lt {c : Co} {S L : List Nat} {pm e : Nat} (hw : WF c) (hs : Sk c S L pm) : ∀ n, n ≤ L.length → ml L e n < 256
  | 0, _ => by rw [ml]; omega
  | n + 1, hn => by
    have h := ml_lt hw hs (e := e) n (by omega)
    have h1 := (hs.2.2.2.1 n (by omega)).1
    have h2 := hw.2.2.2.2.2.2.2.2.1
    rw [ml]
    split
    · exact h
    · exact or_lt8 h (by omega)
def vE (aim : Nat) (S L : List Nat) (s e : Nat) : Int := if s < S.length then -1 else chg aim (if aim = 4 then 1 else 0) (ml L e L.length)
theorem mk4_bit {l t s e q : Nat} (he : e < 4) (hq : q < 2) : (mk4 l t s e).testBit q = e.testBit q := by
  have h1 : mk4 l t s e % 2 ^ 2 = e := by unfold mk4; omega
  have h2 := Nat.testBit_mod_two_pow (mk4 l t s e) 2 q
  rw [h1] at h2
  rw [h2]
  simp [hq]
theorem valueAtEnd_X {μ : Mi} {i : Bool} {c : Co} {S L : List Nat} {pm aim : Nat} (P : Pr μ i c S L pm) (hA : rd μ 4 i 12 = (aim : Int)) (ha : aim ≤ 5) {l t s e : Nat} (v : Vs l t s e) : D_X4_valueAtEnd i ((mk4 l t s e : Nat) : Int) μ = some (vE aim S L s e) := by
  have hlt := mk4_lt v
  have hv := v
  obtain ⟨v1, v2, v3, v4⟩ := v
  have hc := P.1
  have hw := P.2.1
  have hs := P.2.2.1
  have hsz := hw.2.2.2.2.2.2.2.2.1
  have hS6 := hs.1
  have hL2 := hs.2.1
  obtain ⟨-, -, -, p1, p2, p3, p4, p5, p6⟩ := P
  have key : ∀ d n k : Nat, k + d = L.length → d < n → B_X4_valueAtEnd_17 n i ((mk4 l t s e : Nat) : Int) ((ml L e k : Nat) : Int) (k : Int) μ = some (chg aim (if aim = 4 then 1 else 0) (ml L e L.length)) := by
    intro d
    induction d with
    | zero =>
      intro n k hk hn
      obtain ⟨n, rfl⟩ : ∃ q, n = q + 1 := ⟨n - 1, by omega⟩
      have hml := ml_lt hw hs (e := e) k (by omega)
      rw [B_X4_valueAtEnd_17_s, F_X4_valueAtEnd_17, p3, wid (x := ((L.length : Nat) : Int)) (by omega) (by omega), wid (x := (k : Int)) (by omega) (by omega), if_pos (by omega), hA, wid (x := (aim : Int)) (by omega) (by omega)]
      unfold B_X4_valueAtEnd_64
      rw [charge_X hA ha (by omega) (by omega), charge_X hA ha (by omega) (by omega), show k = L.length by omega]
      by_cases q : aim = 4
      · rw [if_neg (by omega), if_pos q]
      · rw [if_pos (by omega), if_neg q]
    | succ d ih =>
      intro n k hk hn
      obtain ⟨n, rfl⟩ : ∃ q, n = q + 1 := ⟨n - 1, by omega⟩
      have hml := ml_lt hw hs (e := e) k (by omega)
      obtain ⟨hq1, -⟩ := hs.2.2.2.1 k (by omega)
      rw [B_X4_valueAtEnd_17_s, F_X4_valueAtEnd_17, p3, wid (x := ((L.length : Nat) : Int)) (by omega) (by omega), wid (x := (k : Int)) (by omega) (by omega), if_neg (by omega), bit_n _ k (by omega) (by omega), mk4_bit v4 (by omega)]
      unfold B_X4_valueAtEnd_44
      rw [show (k : Int) + 1 = ((k + 1 : Nat) : Int) by omega]
      by_cases q : e.testBit k = true
      · rw [if_pos q, if_pos (by decide)]
        have : ml L e k = ml L e (k + 1) := by rw [ml, if_pos q]
        rw [this]
        exact ih n (k + 1) (by omega) (by omega)
      · rw [if_neg q, if_neg (by decide), if_pos (by omega), ixn k (by omega), p4 k (by omega), or_bit _ _ (by omega) (by omega)]
        have : ml L e k ||| 2 ^ (L.getD k 0) = ml L e (k + 1) := by rw [ml, if_neg q]
        rw [this]
        exact ih n (k + 1) (by omega) (by omega)
  unfold D_X4_valueAtEnd vE
  rw [p1, stampsOf_X hv, wid (x := ((S.length : Nat) : Int)) (by omega) (by omega), wid (x := (s : Int)) (by omega) (by omega)]
  by_cases q : s < S.length
  · rw [if_neg (by omega), if_pos q]
  · rw [if_pos (by omega), if_neg q]
    exact key L.length FU 0 (by omega) (FU_gt (by omega))
theorem valueByStay_X {μ : Mi} {i : Bool} {c : Co} {S L : List Nat} {pm : Nat} (P : Pr μ i c S L pm) {h l t s e : Nat} (hh : h < 96) (v : Vd c S L h l t s e) : D_X4_valueByStay i (h : Int) ((mk4 l t s e : Nat) : Int) μ = some (if nS c h l < 0 then -1 else tb μ (h + 1) (nS c h l).toNat t s (e ||| sa c L (h + 1) t)) := by
  have hw := P.2.1
  have hs := P.2.2.1
  unfold D_X4_valueByStay
  rw [afterStay_X P (by omega) (v.vs hw hs), bp_k]
  by_cases q : nS c h l < 0
  · rw [if_pos q, if_neg (by decide), if_pos q]
  · have v' := nS_Vd (pm := pm) hw v (by omega)
    obtain ⟨t1, t2, t3⟩ := tab_X (μ := μ) hw hs (by omega) v'
    have h2 := mk4_lt (v'.vs hw hs)
    rw [if_neg q, wid (by omega) (by omega), if_pos (by omega), show (h : Int) + 1 = ((h + 1 : Nat) : Int) by omega, t1, if_pos t2, t3, if_neg q]
    rfl
