/-! PURE: a question's frames; the value at the start -/
theorem inW_no {L : List (Nat × Nat)} {p : Nat × Nat → Bool} (hL : L.all p = true) {r j : Nat} (h : ∀ a b : Nat, p (a, b) = true → ¬ (a = r ∧ (10 ≤ r ∨ b = j))) : inW L r j = false := by
  cases hc : inW L r j with
  | false => rfl
  | true =>
    obtain ⟨q, hq, h2⟩ := List.any_eq_true.mp hc
    have h3 := List.all_eq_true.mp hL q hq
    simp only [Bool.and_eq_true, Bool.or_eq_true, decide_eq_true_eq, beq_iff_eq] at h2
    exact absurd h2 (h q.1 q.2 h3)
/-- the class's own search words and table -/
def pC (q : Nat × Nat) : Bool := q.1 == 4 || (decide (32 ≤ q.1) && decide (q.1 ≤ 36))
/-- and what is found out -/
def pQ (q : Nat × Nat) : Bool := q.1 == 1 || (q.1 == 2 && q.2 == 4) || q.1 == 4 || (decide (21 ≤ q.1) && decide (q.1 ≤ 23)) || (decide (32 ≤ q.1) && decide (q.1 ≤ 36))
/-- the reference's search words -/
def pM (q : Nat × Nat) : Bool := (q.1 == 7 && decide (33 ≤ q.2) && decide (q.2 ≤ 60)) || decide (65 ≤ q.1)
theorem frC {L : List (Nat × Nat)} {o : Option Bool} {a b : Mi} (h : Fr L o a b) (hL : L.all pC = true) {r : Nat} {i : Bool} {j : Nat} (h1 : ¬ r = 4) (h2 : ¬ (32 ≤ r ∧ r ≤ 36)) : rd b r i j = rd a r i j :=
  frR h (inW_no hL (fun x y hp => by
    unfold pC at hp
    simp only [Bool.and_eq_true, Bool.or_eq_true, decide_eq_true_eq, beq_iff_eq] at hp
    omega))
theorem frQ {L : List (Nat × Nat)} {o : Option Bool} {a b : Mi} (h : Fr L o a b) (hL : L.all pQ = true) {r : Nat} {i : Bool} {j : Nat} (h1 : ¬ (r = 1 ∨ r = 4 ∨ (r = 2 ∧ j = 4) ∨ (21 ≤ r ∧ r ≤ 23) ∨ (32 ≤ r ∧ r ≤ 36))) : rd b r i j = rd a r i j :=
  frR h (inW_no hL (fun x y hp => by
    unfold pQ at hp
    simp only [Bool.and_eq_true, Bool.or_eq_true, decide_eq_true_eq, beq_iff_eq] at hp
    omega))
theorem frM {L : List (Nat × Nat)} {o : Option Bool} {a b : Mi} (h : Fr L o a b) (hL : L.all pM = true) {r : Nat} {i : Bool} {j : Nat} (h1 : r < 65) (h2 : ¬ (r = 7 ∧ 33 ≤ j)) : rd b r i j = rd a r i j :=
  frR h (inW_no hL (fun x y hp => by
    unfold pM at hp
    simp only [Bool.and_eq_true, Bool.or_eq_true, decide_eq_true_eq, beq_iff_eq] at hp
    omega))
theorem startCell_X {μ : Mi} {i : Bool} {c : Co} {S L : List Nat} {pm : Nat} (P : Pr μ i c S L pm) : D_X4_startCell i μ = some ((mk4 0 (c 2 0).toNat 0 (sa c L 0 (c 2 0).toNat) : Nat) : Int) := by
  have hw := P.2.1
  have hho := hw.2.2.2.2.2.1
  have htw := hw.1
  unfold D_X4_startCell D_X4_cellOf
  rw [cm P.1 (r := 2) (k := 0) (by omega)]
  have := seenAt_X P 0 (c 2 0).toNat (by omega) (by omega)
  rw [show (((c 2 0).toNat : Nat) : Int) = c 2 0 by omega, show ((0 : Nat) : Int) = 0 from rfl] at this
  rw [this, bp_k]
  unfold mk4
  congr 1
  omega
theorem st_Vd {c : Co} {S L : List Nat} {pm : Nat} (hw : WF c) (_ : Sk c S L pm) : Vd c S L 0 0 (c 2 0).toNat 0 (sa c L 0 (c 2 0).toNat) := by
  have hho := hw.2.2.2.2.2.1
  exact ⟨Nat.zero_le _, by omega, Nat.zero_le _, mb_lt _ _⟩
theorem cp_0 {c : Co} (hw : WF c) : cp c 0 = 0 := by
  have hslp := hw.2.2.2.2.2.2.1
  unfold cp
  omega
theorem Tm_s {c : Co} {S L : List Nat} {pm : Nat} (hw : WF c) (hs : Sk c S L pm) (T : Tb) : Tm c T 0 (sK c L) = T 0 0 (c 2 0).toNat 0 (sa c L 0 (c 2 0).toNat) := by
  obtain ⟨-, s1, s2, s3, s4⟩ := sK_VM (S := S) (pm := pm) hw hs
  unfold Tm
  rw [s1, s2, s3, s4, cp_0 hw]
theorem valueAtStart_X {μ : Mi} {i : Bool} {c : Co} {S L : List Nat} {pm : Nat} (P : Pr μ i c S L pm) : D_X4_valueAtStart i μ = some (Tm c (tb μ) 0 (sK c L)) := by
  have hw := P.2.1
  have hs := P.2.2.1
  obtain ⟨a1, a2, a3⟩ := tab_X (μ := μ) hw hs (by omega) (st_Vd hw hs)
  rw [show ((0 : Nat) : Int) = 0 from rfl] at a1
  unfold D_X4_valueAtStart
  rw [startCell_X P, bp_k, a1, if_pos a2, a3, Tm_s hw hs]
  rfl
/-- a search for the aim, without the traces of B -/
theorem learn_X {μ : Mi} {i : Bool} {c : Co} (hc : cr μ i = c) (hw : WF c) (h2 : WF2 c) {B aim : Nat} (hB : B < 256) (ha : aim ≤ 5) : ∃ m2 m3 N ce, D_X4_prepare i (B : Int) μ = some m2 ∧ D_X4_fill i (aim : Int) m2 = some m3 ∧ Fb m3 i c (SL c B) (LL c B) (PM c B) aim N ce ∧ DP aim c (SL c B) (LL c B) (PM c B) (tb m3) ∧ D_X4_valueAtStart i m3 = some (Tm c (tb m3) 0 (sK c (LL c B))) ∧ (∀ r i j, ¬ r = 4 → ¬ (32 ≤ r ∧ r ≤ 36) → rd m3 r i j = rd μ r i j) := by
  obtain ⟨m2, N, ce, a1, a2, a3, a4⟩ := prepare_X hc hw h2 hB
  obtain ⟨m3, b1, b2, b3⟩ := fill_X a2 ha a3 a4
  refine ⟨m2, m3, N, ce, a1, b1, b2, b3, valueAtStart_X b2.1, fun r i j h3 h4 => ?_⟩
  rw [frC (fr_X4_fill b1) (by decide) h3 h4, frC (fr_X4_prepare a1) (by decide) h3 h4]
/-- where he may come to -/
def Rcn (c : Co) (S L : List Nat) (pm : Nat) : Nat → Nat → Nat → Prop
  | 0, h, k => h = 0 ∧ k = sK c L ∧ pMs c pm 0 (c 2 0).toNat = 0
  | n + 1, g, k' => ∃ h k j : Nat, Rcn c S L pm n h k ∧ (h : Int) < c 2 2 ∧ (j : Int) ≤ c 0 2 ∧ mG c S L pm h k j = some (g, k')
def Rch (c : Co) (S L : List Nat) (pm h k : Nat) : Prop := ∃ n, Rcn c S L pm n h k
theorem Rch.st {c : Co} {S L : List Nat} {pm : Nat} (h : pMs c pm 0 (c 2 0).toNat = 0) : Rch c S L pm 0 (sK c L) := ⟨0, rfl, rfl, h⟩
theorem Rch.mv {c : Co} {S L : List Nat} {pm h k j g k' : Nat} (r : Rch c S L pm h k) (h1 : (h : Int) < c 2 2) (h2 : (j : Int) ≤ c 0 2) (h3 : mG c S L pm h k j = some (g, k')) : Rch c S L pm g k' := by
  obtain ⟨n, r⟩ := r
  exact ⟨n + 1, h, k, j, r, h1, h2, h3⟩
theorem Rch.cases {c : Co} {S L : List Nat} {pm g k' : Nat} (r : Rch c S L pm g k') : (g = 0 ∧ k' = sK c L ∧ pMs c pm 0 (c 2 0).toNat = 0) ∨ ∃ h k j : Nat, Rch c S L pm h k ∧ (h : Int) < c 2 2 ∧ (j : Int) ≤ c 0 2 ∧ mG c S L pm h k j = some (g, k') := by
  obtain ⟨n, r⟩ := r
  cases n with
  | zero => exact Or.inl r
  | succ n =>
    obtain ⟨h, k, j, r, a, b, d⟩ := r
    exact Or.inr ⟨h, k, j, ⟨n, r⟩, a, b, d⟩
/-- what he comes to is a state -/
theorem Rch.vm {c : Co} {S L : List Nat} {pm : Nat} (hw : WF c) (hs : Sk c S L pm) : ∀ (n g k' : Nat), Rcn c S L pm n g k' → (g : Int) ≤ c 2 2 ∧ VM c S L g k' ∧ pMs c pm g (k' / 140) = 0 := by
  have hen := hw.2.2.2.2.2.2.2.1
  intro n
  induction n with
  | zero =>
    rintro g k' ⟨rfl, rfl, hp⟩
    obtain ⟨vs, s1, -⟩ := sK_VM (S := S) (pm := pm) hw hs
    exact ⟨by omega, vs, by rw [s1]; exact hp⟩
  | succ n ih =>
    rintro g k' ⟨h, k, j, r, a, b, d⟩
    exact (mG_ok hw hs a (ih h k r).2.1 b d).2
abbrev DB (aim : Nat) (c : Co) (B : Nat) (T : Tb) : Prop := DP aim c (SL c B) (LL c B) (PM c B) T
def sv (c : Co) (B : Nat) (T : Tb) : Int := Tm c T 0 (sK c (LL c B))
def KE (k : Nat) (c f : Co) : Prop := ∃ T, DB k c 0 T ∧ f 22 k = sv c 0 T
def KW (c f : Co) : Prop := ∃ T, DB 4 c 0 T ∧ f 1 1 = max 0 (sv c 0 T) ∧ ∀ h : Nat, (h : Int) ≤ c 2 2 → ∃ x : Nat, x < 512 ∧ f 21 h = (x : Int) ∧ (∀ t, t < 8 → (x.testBit t = true ↔ ∃ k, Rch c (SL c 0) (LL c 0) (PM c 0) h k ∧ 0 ≤ Tm c T h k ∧ k / 140 = t)) ∧ (x.testBit 8 = true ↔ ∃ h' k j g k' : Nat, h' < h ∧ h < g ∧ (j : Int) ≤ c 0 2 ∧ Rch c (SL c 0) (LL c 0) (PM c 0) h' k ∧ mG c (SL c 0) (LL c 0) (PM c 0) h' k j = some (g, k') ∧ 0 ≤ Tm c T g k')
def KD (c f : Co) : Prop := ∃ T, DB 5 c 0 T ∧ f 1 3 = if 0 ≤ sv c 0 T then sv c 0 T % 256 else -1
/-- the first move that keeps the value -/
def fm (c : Co) (T : Tb) (h k : Nat) : Nat → Nat → Option Nat
  | 0, _ => none
  | n + 1, j => if vj 0 c (SL c 0) (LL c 0) (PM c 0) T h k j = Tm c T h k then some j else fm c T h k n (j + 1)
def tl (c : Co) (T : Tb) : Nat → Nat → Nat → List Int
  | 0, _, _ => []
  | n + 1, h, k => if c 2 2 ≤ (h : Int) then [] else match fm c T h k ((c 0 2).toNat + 1) 0 with
    | none => []
    | some j => match mG c (SL c 0) (LL c 0) (PM c 0) h k j with
      | none => []
      | some q => (if j = 0 then [] else [((j : Int) - 1) * 100 + (h : Int)]) ++ tl c T n q.1 q.2
def KT (c f : Co) : Prop := ∃ T, DB 0 c 0 T ∧ (sv c 0 T < 0 → f 1 2 = -1) ∧ (0 ≤ sv c 0 T → f 1 2 = (((tl c T 97 0 (sK c (LL c 0))).length : Nat) : Int) ∧ ∀ q, q < (tl c T 97 0 (sK c (LL c 0))).length → f 23 q = (tl c T 97 0 (sK c (LL c 0))).getD q 0)
/-- the freest without one trace -/
def fw (c : Co) (T : Tb) (W : Nat → Tb) : Nat → Int × Int
  | 0 => (max 0 (sv c 0 T), -1)
  | n + 1 => if ¬ c 29 n = 0 then fw c T W n else if sv c (2 ^ n) (W n) ≤ (fw c T W n).1 then fw c T W n else (sv c (2 ^ n) (W n), (n : Int))
def KF (c f : Co) : Prop := ∃ T W, DB 4 c 0 T ∧ (∀ n : Nat, (n : Int) < c 2 3 → DB 4 c (2 ^ n) (W n)) ∧ f 1 4 = (fw c T W (c 2 3).toNat).2
def KN (k : Nat) (c f : Co) : Prop := if k ≤ 3 then KE k c f else if k = 4 then KW c f else if k = 5 then KD c f else if k = 6 then KT c f else KF c f
/-- what a man's findings hold, as far as they are marked known -/
def Ch (μ : Mi) (i : Bool) : Prop := 0 < rd μ 0 false 1 → rd μ 2 i 4 = 0 → ∃ n : Nat, n < 256 ∧ rd μ 1 i 0 = (n : Int) ∧ ∀ k, k < 8 → n.testBit k = true → KN k (cr μ i) (fd μ i)
def Inv (μ : Mi) : Prop := Inv0 μ ∧ ∀ i, Ch μ i
def OpI (f g : Mi → Option (Int × Mi)) (μ : Mi) : Prop := ∃ r m1 m2, f μ = some (r, m1) ∧ g m1 = some (r, m2) ∧ Inv m2
theorem Ch.of {μ m : Mi} {i : Bool} (C : Ch μ i) (h1 : cr m i = cr μ i) (h2 : fd m i = fd μ i) (h3 : rd m 2 i 4 = rd μ 2 i 4) : Ch m i := by
  intro a b
  have e0 : rd m 0 false 1 = rd μ 0 false 1 := by
    have := congrFun (congrFun h1 0) 1
    rw [cr_a (by omega), cr_a (by omega)] at this
    exact this
  have e1 : rd m 1 i 0 = rd μ 1 i 0 := by
    have := congrFun (congrFun h2 1) 0
    unfold fd at this
    rw [if_pos (by omega), if_pos (by omega)] at this
    exact this
  rw [h1, h2, e1]
  exact C (by omega) (by omega)
theorem Inv.step {μ m : Mi} (I : Inv μ) (s : Step μ m) : Inv m := by
  refine ⟨s.1, fun i => ?_⟩
  rcases s.2 i with q | ⟨q1, q2, q3⟩
  · intro _ z; omega
  · exact (I.2 i).of q1 q2 q3
theorem OpI.of {f g : Mi → Option (Int × Mi)} {μ : Mi} (I : Inv μ) (h : OpE f g μ) : OpI f g μ := by
  obtain ⟨r, m1, m2, a, b, s⟩ := h
  exact ⟨r, m1, m2, a, b, I.step s⟩
