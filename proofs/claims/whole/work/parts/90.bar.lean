/-! PURE: barred: the legs, by the class -/
def hrL (c : Co) (lk la : Nat → Nat) : Nat → Nat
  | 0 => 0
  | k + 1 => la k + (c 16 (lk k)).toNat
def twL (c : Co) (lk : Nat → Nat) : Nat → Int
  | 0 => c 2 0
  | k + 1 => c 14 (lk k)
/-- a leg that can't be -/
def bdL (c : Co) (lk la : Nat → Nat) (k : Nat) : Prop := la k < hrL c lk la k ∨ ¬ c 13 (lk k) = twL c lk k ∨ ¬ c 15 (lk k) = (if c 18 (lk k) = 0 then (la k : Int) else ((la k % 24 : Nat) : Int)) ∨ c 2 2 < (la k : Int) + c 16 (lk k)
def LG (c : Co) (lk la : Nat → Nat) (n : Nat) : Prop := n ≤ 20 ∧ ∀ k, k < n → (lk k : Int) < c 0 2 ∧ la k ≤ 96
def Lay (c : Co) (lk la : Nat → Nat) (a b : Nat → Int) (n : Nat) : Prop := ∀ k, k < n → (∀ h, hrL c lk la k ≤ h → h ≤ la k → a h = twL c lk k) ∧ (∀ h, hrL c lk la k ≤ h → h < la k → b h = 1) ∧ b (la k) = 0 ∧ ∀ h, la k < h → h < hrL c lk la (k + 1) → a h = -1 ∧ b h = 0
def Fin (c : Co) (lk la : Nat → Nat) (a b : Nat → Int) (n : Nat) : Prop := (∀ h : Nat, hrL c lk la n ≤ h → (h : Int) ≤ c 2 2 → a h = twL c lk n) ∧ ∀ h : Nat, hrL c lk la n ≤ h → (h : Int) < c 2 2 → b h = 1
/-- the first -/
def Fst (P : Nat → Prop) (n : Nat) (r : Int) : Prop := (∃ k, k < n ∧ r = (k : Int) ∧ P k ∧ ∀ j, j < k → ¬ P j) ∨ (r = -1 ∧ ∀ k, k < n → ¬ P k)
theorem Fst.uniq {P Q : Nat → Prop} {n : Nat} {r r' : Int} (h1 : Fst P n r) (h2 : Fst Q n r') (h : ∀ k, k < n → (P k ↔ Q k)) : r = r' := by
  rcases h1 with ⟨k, k1, k2, k3, k4⟩ | ⟨k1, k2⟩
  · rcases h2 with ⟨j, j1, j2, j3, j4⟩ | ⟨j1, j2⟩
    · have : k = j := by
        rcases Nat.lt_trichotomy k j with q | q | q
        · exact absurd ((h k k1).mp k3) (j4 k q)
        · exact q
        · exact absurd ((h j j1).mpr j3) (k4 j q)
      rw [k2, j2, this]
    · exact absurd ((h k k1).mp k3) (j2 k k1)
  · rcases h2 with ⟨j, j1, j2, j3, j4⟩ | ⟨j1, j2⟩
    · exact absurd ((h j j1).mpr j3) (k2 j j1)
    · rw [k1, j1]
theorem hrL_lt {c : Co} {lk la : Nat → Nat} {n : Nat} (hw : WF c) (G : LG c lk la n) : ∀ k, k ≤ n → (∀ j, j < k → ¬ bdL c lk la j) → (hrL c lk la k : Int) ≤ c 2 2 ∧ ∀ j, j < k → hrL c lk la j ≤ la j ∧ la j < hrL c lk la (j + 1) ∧ hrL c lk la (j + 1) ≤ hrL c lk la k
  | 0, _, _ => ⟨by have := hw.2.2.2.2.2.2.2.1; show ((0 : Nat) : Int) ≤ _; omega, fun j hj => by omega⟩
  | k + 1, hk, hb => by
    obtain ⟨i1, i2⟩ := hrL_lt hw G k (by omega) (fun j hj => hb j (by omega))
    obtain ⟨g1, g2⟩ := G.2 k (by omega)
    obtain ⟨-, -, -, -, la1, -⟩ := hw.2.2.2.1 (lk k) g1
    have hk2 := hb k (by omega)
    unfold bdL at hk2
    have e : hrL c lk la (k + 1) = la k + (c 16 (lk k)).toNat := rfl
    refine ⟨by omega, fun j hj => ?_⟩
    by_cases q : j = k
    · subst q
      exact ⟨by omega, by omega, Nat.le_refl _⟩
    · obtain ⟨a1, a2, a3⟩ := i2 j (by omega)
      exact ⟨a1, a2, by omega⟩
theorem Lay.eq {c : Co} {lk la : Nat → Nat} {n k : Nat} {a b a' b' : Nat → Int} (hw : WF c) (G : LG c lk la n) (hk : k ≤ n) (hb : ∀ j, j < k → ¬ bdL c lk la j) (y : Lay c lk la a b k) (e : ∀ h, h < hrL c lk la k → a' h = a h ∧ b' h = b h) : Lay c lk la a' b' k := fun j hj => by
  obtain ⟨h1, h2, h3⟩ := (hrL_lt hw G k hk hb).2 j hj
  obtain ⟨y1, y2, y3, y4⟩ := y j hj
  refine ⟨fun h p q => ?_, fun h p q => ?_, ?_, fun h p q => ?_⟩
  · rw [(e h (by omega)).1]; exact y1 h p q
  · rw [(e h (by omega)).2]; exact y2 h p q
  · rw [(e (la j) (by omega)).2]; exact y3
  · rw [(e h (by omega)).1, (e h (by omega)).2]; exact y4 h p q
/-- what is laid out is one and the same -/
theorem Lay.uniq {c : Co} {lk la : Nat → Nat} {n : Nat} {a b a' b' : Nat → Int} (hw : WF c) (G : LG c lk la n) (hb : ∀ j, j < n → ¬ bdL c lk la j) (y : Lay c lk la a b n) (y' : Lay c lk la a' b' n) (f : Fin c lk la a b n) (f' : Fin c lk la a' b' n) : (∀ h : Nat, (h : Int) ≤ c 2 2 → a h = a' h) ∧ ∀ h : Nat, (h : Int) < c 2 2 → b h = b' h := by
  have key : ∀ k, k ≤ n → ∀ h, h < hrL c lk la k → a h = a' h ∧ b h = b' h := by
    intro k
    induction k with
    | zero => intro _ h hh; exact absurd hh (Nat.not_lt_zero _)
    | succ k ih =>
      intro hk h hh
      by_cases q : h < hrL c lk la k
      · exact ih (by omega) h q
      · obtain ⟨y1, y2, y3, y4⟩ := y k (by omega)
        obtain ⟨z1, z2, z3, z4⟩ := y' k (by omega)
        by_cases q1 : h < la k
        · rw [y1 h (by omega) (by omega), z1 h (by omega) (by omega), y2 h (by omega) q1, z2 h (by omega) q1]
          exact ⟨rfl, rfl⟩
        · by_cases q2 : h = la k
          · rw [q2, y1 (la k) (by omega) (by omega), z1 (la k) (by omega) (by omega), y3, z3]
            exact ⟨rfl, rfl⟩
          · obtain ⟨u1, u2⟩ := y4 h (by omega) hh
            obtain ⟨v1, v2⟩ := z4 h (by omega) hh
            rw [u1, u2, v1, v2]
            exact ⟨rfl, rfl⟩
  refine ⟨fun h hh => ?_, fun h hh => ?_⟩
  · by_cases q : h < hrL c lk la n
    · exact (key n (Nat.le_refl _) h q).1
    · rw [f.1 h (by omega) hh, f'.1 h (by omega) hh]
  · by_cases q : h < hrL c lk la n
    · exact (key n (Nat.le_refl _) h q).2
    · rw [f.2 h (by omega) hh, f'.2 h (by omega) hh]
theorem stay_3 {t : Int} {a b : Nat} (ha : a ≤ 96) (hb : b ≤ 96) : ∀ (d n x : Nat) (μ : Mi), x + d = max a (b + 1) → a ≤ x → d < n → ∃ m, B_X5_stay_3 n (b : Int) t (x : Int) μ = some m ∧ ∀ r i q, rd m r i q = if r = 39 ∧ i = false ∧ x ≤ q ∧ q ≤ b then t else if r = 40 ∧ i = false ∧ x ≤ q ∧ q ≤ b then 1 else rd μ r i q := by
  intro d
  induction d with
  | zero =>
    intro n x μ hx hax hn
    obtain ⟨n, rfl⟩ : ∃ q, n = q + 1 := ⟨n - 1, by omega⟩
    refine ⟨μ, ?_, fun r i q => ?_⟩
    · rw [B_X5_stay_3_s, F_X5_stay_3, wid (x := (b : Int)) (by omega) (by omega), wid (x := (x : Int)) (by omega) (by omega), if_pos (by omega)]
    · rw [if_neg (by omega), if_neg (by omega)]
  | succ d ih =>
    intro n x μ hx hax hn
    obtain ⟨n, rfl⟩ : ∃ q, n = q + 1 := ⟨n - 1, by omega⟩
    have hxb : x ≤ b := by omega
    obtain ⟨m, a1, a2⟩ := ih n (x + 1) (wr (wr μ 39 false x t) 40 false x 1) (by omega) (by omega) (by omega)
    refine ⟨m, ?_, fun r i q => ?_⟩
    · rw [B_X5_stay_3_s, F_X5_stay_3, wid (x := (b : Int)) (by omega) (by omega), wid (x := (x : Int)) (by omega) (by omega), if_neg (by omega), if_pos (by omega), if_pos (by omega), ixn x (by omega), show (x : Int) + 1 = ((x + 1 : Nat) : Int) by omega]
      exact a1
    · rw [a2 r i q, rd_wr, rd_wr]
      by_cases u : r = 39 ∧ i = false ∧ x ≤ q ∧ q ≤ b
      · rw [if_pos u]
        by_cases w : q = x
        · rw [if_neg (by omega), if_neg (by omega), if_neg (by omega), if_pos ⟨u.1, u.2.1, w⟩]
        · rw [if_pos ⟨u.1, u.2.1, by omega, u.2.2.2⟩]
      · rw [if_neg u, if_neg (fun w => u ⟨w.1, w.2.1, by omega, w.2.2.2⟩)]
        by_cases v : r = 40 ∧ i = false ∧ x ≤ q ∧ q ≤ b
        · rw [if_pos v]
          by_cases w : q = x
          · rw [if_neg (by omega), if_pos ⟨v.1, v.2.1, w⟩]
          · rw [if_pos ⟨v.1, v.2.1, by omega, v.2.2.2⟩]
        · rw [if_neg v, if_neg (fun w => v ⟨w.1, w.2.1, by omega, w.2.2.2⟩), if_neg (fun w => v ⟨w.1, w.2.1, by omega, by omega⟩), if_neg (fun w => u ⟨w.1, w.2.1, by omega, by omega⟩)]
theorem stay_X {t : Int} {a b : Nat} (ha : a ≤ 96) (hb : b ≤ 96) (μ : Mi) : ∃ m, D_X5_stay (a : Int) (b : Int) t μ = some m ∧ ∀ r i q, rd m r i q = if r = 39 ∧ i = false ∧ a ≤ q ∧ q ≤ b then t else if r = 40 ∧ i = false ∧ a ≤ q ∧ q ≤ b then 1 else rd μ r i q := stay_3 ha hb (max a (b + 1) - a) FU a μ (by omega) (Nat.le_refl _) (FU_gt (by omega))
theorem way_120 {i : Bool} {c : Co} {k10 : Bool → Int → Int → Int → Mi → Option (Int × Mi)} {k l g : Nat} (hw : WF c) (hl : (l : Int) < c 0 2) (hg : g ≤ 96) : ∀ (d n x : Nat) (μ : Mi), x + d = g → d < n → cr μ i = c → ∃ m, B_X5_wrongLeg_120 k10 n i (k : Int) (l : Int) (g : Int) (x : Int) μ = k10 i (c 14 l) (g : Int) ((k + 1 : Nat) : Int) m ∧ ∀ r i q, rd m r i q = if r = 39 ∧ i = false ∧ x ≤ q ∧ q < g then -1 else if r = 40 ∧ i = false ∧ x ≤ q ∧ q < g then 0 else rd μ r i q := by
  have hnl := hw.2.1
  intro d
  induction d with
  | zero =>
    intro n x μ hx hn hc
    obtain ⟨n, rfl⟩ : ∃ q, n = q + 1 := ⟨n - 1, by omega⟩
    refine ⟨μ, ?_, fun r i q => ?_⟩
    · rw [B_X5_wrongLeg_120_s, F_X5_wrongLeg_120, wid (x := (g : Int)) (by omega) (by omega), wid (x := (x : Int)) (by omega) (by omega), if_pos (by omega), wid (x := (l : Int)) (by omega) (by omega), if_pos (by omega), ixn l (by omega), ca hc (r := 14) (by omega), show (k : Int) + 1 = ((k + 1 : Nat) : Int) by omega]
    · rw [if_neg (by omega), if_neg (by omega)]
  | succ d ih =>
    intro n x μ hx hn hc
    obtain ⟨n, rfl⟩ : ∃ q, n = q + 1 := ⟨n - 1, by omega⟩
    obtain ⟨m, a1, a2⟩ := ih n (x + 1) (wr (wr μ 39 false x (-1)) 40 false x 0) (by omega) (by omega) ((cr_eq (fun r i j h => by rw [rdx (by omega), rdx (by omega)])).trans hc)
    refine ⟨m, ?_, fun r i q => ?_⟩
    · rw [B_X5_wrongLeg_120_s, F_X5_wrongLeg_120, wid (x := (g : Int)) (by omega) (by omega), wid (x := (x : Int)) (by omega) (by omega), if_neg (by omega), if_pos (by omega), if_pos (by omega), ixn x (by omega), show (x : Int) + 1 = ((x + 1 : Nat) : Int) by omega]
      exact a1
    · rw [a2 r i q, rd_wr, rd_wr]
      by_cases u : r = 39 ∧ i = false ∧ x ≤ q ∧ q < g
      · rw [if_pos u]
        by_cases w : q = x
        · rw [if_neg (by omega), if_neg (by omega), if_neg (by omega), if_pos ⟨u.1, u.2.1, w⟩]
        · rw [if_pos ⟨u.1, u.2.1, by omega, u.2.2.2⟩]
      · rw [if_neg u, if_neg (fun w => u ⟨w.1, w.2.1, by omega, w.2.2.2⟩)]
        by_cases v : r = 40 ∧ i = false ∧ x ≤ q ∧ q < g
        · rw [if_pos v]
          by_cases w : q = x
          · rw [if_neg (by omega), if_pos ⟨v.1, v.2.1, w⟩]
          · rw [if_pos ⟨v.1, v.2.1, by omega, v.2.2.2⟩]
        · rw [if_neg v, if_neg (fun w => v ⟨w.1, w.2.1, by omega, w.2.2.2⟩), if_neg (fun w => v ⟨w.1, w.2.1, by omega, by omega⟩), if_neg (fun w => u ⟨w.1, w.2.1, by omega, by omega⟩)]
/-- what the class reads of the legs -/
def SyX (μ : Mi) (i : Bool) (c : Co) (lk la : Nat → Nat) (n : Nat) : Prop := cr μ i = c ∧ rd μ 5 false 0 = (n : Int) ∧ ∀ k, k < n → rd μ 37 false k = (lk k : Int) ∧ rd μ 38 false k = (la k : Int)
theorem SyX.eq {μ m : Mi} {i : Bool} {c : Co} {lk la : Nat → Nat} {n : Nat} (y : SyX μ i c lk la n) (e : ∀ r i q, ¬ r = 39 → ¬ r = 40 → rd m r i q = rd μ r i q) : SyX m i c lk la n := ⟨(cr_eq (fun r i j h => e r i j (by omega) (by omega))).trans y.1, by rw [e 5 false 0 (by omega) (by omega)]; exact y.2.1, fun k hk => by rw [e 37 false k (by omega) (by omega), e 38 false k (by omega) (by omega)]; exact y.2.2 k hk⟩
theorem leg_10 {i : Bool} {c : Co} {lk la : Nat → Nat} {n : Nat} (hw : WF c) (G : LG c lk la n) : ∀ (d f k : Nat) (μ : Mi), k + d = n → d < f → SyX μ i c lk la n → (∀ j, j < k → ¬ bdL c lk la j) → Lay c lk la (rd μ 39 false) (rd μ 40 false) k → ∃ r m, B_X5_wrongLeg_10 f i (twL c lk k) (hrL c lk la k : Int) (k : Int) μ = some (r, m) ∧ Fst (bdL c lk la) n r ∧ (∀ r i q, ¬ r = 39 → ¬ r = 40 → rd m r i q = rd μ r i q) ∧ (r = -1 → Lay c lk la (rd m 39 false) (rd m 40 false) n ∧ Fin c lk la (rd m 39 false) (rd m 40 false) n) := by
  have hnl := hw.2.1
  have htw := hw.1
  have hen := hw.2.2.2.2.2.2.2.1
  have hho := hw.2.2.2.2.2.1
  have hn20 := G.1
  intro d
  induction d with
  | zero =>
    intro f k μ hk hf y hb Y
    obtain ⟨f, rfl⟩ : ∃ q, f = q + 1 := ⟨f - 1, by omega⟩
    have ek : k = n := by omega
    subst ek
    have hle := (hrL_lt hw G k (Nat.le_refl _) hb).1
    obtain ⟨m, a1, a2⟩ := stay_X (t := twL c lk k) (a := hrL c lk la k) (b := (c 2 2).toNat) (by omega) (by omega) μ
    rw [show (((c 2 2).toNat : Nat) : Int) = c 2 2 by omega] at a1
    refine ⟨-1, m, ?_, Or.inr ⟨rfl, hb⟩, fun r i q h1 h2 => ?_, fun _ => ⟨Y.eq hw G (Nat.le_refl _) hb (fun h hh => ?_), fun h p q => ?_, fun h p q => ?_⟩⟩
    · rw [B_X5_wrongLeg_10_s, F_X5_wrongLeg_10, y.2.1, wid (x := (k : Int)) (by omega) (by omega), if_pos (by omega), cm y.1 (r := 2) (k := 2) (by omega), a1, bm_k]
    · rw [a2, if_neg (fun w => h1 w.1), if_neg (fun w => h2 w.1)]
    · rw [a2, a2, if_neg (by omega), if_neg (by omega), if_neg (by omega), if_neg (by omega)]
      exact ⟨rfl, rfl⟩
    · rw [a2, if_pos ⟨rfl, rfl, p, by omega⟩]
    · rw [a2, if_neg (by omega), if_pos ⟨rfl, rfl, p, by omega⟩]
  | succ d ih =>
    intro f k μ hk hf y hb Y
    obtain ⟨f, rfl⟩ : ∃ q, f = q + 1 := ⟨f - 1, by omega⟩
    have hkn : k < n := by omega
    obtain ⟨g1, g2⟩ := G.2 k hkn
    obtain ⟨y1, y2⟩ := y.2.2 k hkn
    have hle := (hrL_lt hw G k (by omega) hb).1
    obtain ⟨⟨k1, k2⟩, ⟨k3, k4⟩, -, ⟨k5, k6⟩, ⟨k7, k8⟩, -, k9, -⟩ := hw.2.2.2.1 (lk k) g1
    have htk : 0 ≤ twL c lk k ∧ twL c lk k < 8 := by
      cases k with
      | zero => show 0 ≤ c 2 0 ∧ c 2 0 < 8; omega
      | succ j =>
        obtain ⟨-, ⟨q3, q4⟩, -⟩ := hw.2.2.2.1 (lk j) (G.2 j (by omega)).1
        show 0 ≤ c 14 (lk j) ∧ c 14 (lk j) < 8
        omega
    have hlb : 0 ≤ (lk k : Int) ∧ (lk k : Int) < 16 := by omega
    have head : B_X5_wrongLeg_10 (f + 1) i (twL c lk k) (hrL c lk la k : Int) (k : Int) μ = if la k < hrL c lk la k then some ((k : Int), μ) else if ¬ c 13 (lk k) = twL c lk k then some ((k : Int), μ) else if ¬ c 15 (lk k) = (if c 18 (lk k) = 0 then (la k : Int) else ((la k % 24 : Nat) : Int)) then some ((k : Int), μ) else if (la k : Int) + c 16 (lk k) ≤ c 2 2 then (bm (D_X5_stay (hrL c lk la k : Int) (la k : Int) (twL c lk k) μ) fun m2 => B_X5_wrongLeg_120 (B_X5_wrongLeg_10 f) FU i (k : Int) (lk k : Int) ((la k : Int) + c 16 (lk k)) ((la k : Int) + 1) (wr m2 40 false (la k) 0)) else some ((k : Int), μ) := by
      rw [B_X5_wrongLeg_10_s, F_X5_wrongLeg_10, y.2.1, wid (x := (n : Int)) (by omega) (by omega), wid (x := (k : Int)) (by omega) (by omega), if_neg (by omega), if_pos (by omega), if_pos (by omega), ixn k (by omega), y1, y2, wid (x := (lk k : Int)) (by omega) (by omega), if_pos hlb, if_pos hlb, ixn (lk k) (by omega), wid (x := (la k : Int)) (by omega) (by omega), wid (x := (hrL c lk la k : Int)) (by omega) (by omega), ca y.1 (r := 13) (by omega), ca y.1 (r := 16) (by omega), wid (x := c 13 (lk k)) (by omega) (by omega), wid (x := twL c lk k) (by omega) (by omega), leavesAt_X y.1 hw g1 (by omega), bp_k, wid (x := (la k : Int) + c 16 (lk k)) (by omega) (by omega), cm y.1 (r := 2) (k := 2) (by omega), wid (x := c 2 2) (by omega) (by omega), ixn (la k) (by omega)]
      by_cases z1 : la k < hrL c lk la k
      · rw [if_pos (show (la k : Int) < (hrL c lk la k : Int) by omega), if_pos z1]
      · rw [if_neg (show ¬ (la k : Int) < (hrL c lk la k : Int) by omega), if_neg z1]
        by_cases z2 : c 13 (lk k) = twL c lk k
        · rw [if_neg (show ¬ ¬ c 13 (lk k) = twL c lk k from fun w => w z2), if_neg (show ¬ ¬ c 13 (lk k) = twL c lk k from fun w => w z2)]
          by_cases z3 : c 15 (lk k) = (if c 18 (lk k) = 0 then (la k : Int) else ((la k % 24 : Nat) : Int))
          · rw [if_neg (nb10 z3), if_neg (show ¬ ¬ c 15 (lk k) = (if c 18 (lk k) = 0 then (la k : Int) else ((la k % 24 : Nat) : Int)) from fun w => w z3)]
            have hla : 0 ≤ (la k : Int) ∧ (la k : Int) < 97 := by omega
            simp only [if_pos hla]
          · rw [if_pos (yb10 z3), if_pos z3]
        · rw [if_pos z2, if_pos z2]
    have bad : bdL c lk la k → B_X5_wrongLeg_10 (f + 1) i (twL c lk k) (hrL c lk la k : Int) (k : Int) μ = some ((k : Int), μ) → ∃ r m, B_X5_wrongLeg_10 (f + 1) i (twL c lk k) (hrL c lk la k : Int) (k : Int) μ = some (r, m) ∧ Fst (bdL c lk la) n r ∧ (∀ r i q, ¬ r = 39 → ¬ r = 40 → rd m r i q = rd μ r i q) ∧ (r = -1 → Lay c lk la (rd m 39 false) (rd m 40 false) n ∧ Fin c lk la (rd m 39 false) (rd m 40 false) n) := fun z e => ⟨(k : Int), μ, e, Or.inl ⟨k, hkn, rfl, z, hb⟩, fun r i q _ _ => rfl, fun w => by omega⟩
    by_cases z1 : la k < hrL c lk la k
    · rw [if_pos z1] at head; exact bad (Or.inl z1) head
    rw [if_neg z1] at head
    by_cases z2 : c 13 (lk k) = twL c lk k
    rotate_left
    · rw [if_pos z2] at head; exact bad (Or.inr (Or.inl z2)) head
    rw [if_neg (fun w => w z2)] at head
    by_cases z3 : c 15 (lk k) = (if c 18 (lk k) = 0 then (la k : Int) else ((la k % 24 : Nat) : Int))
    rotate_left
    · rw [if_pos z3] at head; exact bad (Or.inr (Or.inr (Or.inl z3))) head
    rw [if_neg (fun w => w z3)] at head
    by_cases z4 : (la k : Int) + c 16 (lk k) ≤ c 2 2
    rotate_left
    · rw [if_neg z4] at head; exact bad (Or.inr (Or.inr (Or.inr (by omega)))) head
    rw [if_pos z4] at head
    have nb : ∀ j, j < k + 1 → ¬ bdL c lk la j := fun j hj => by
      by_cases q : j = k
      · rw [q]
        intro w
        rcases w with w | w | w | w
        · exact z1 w
        · exact w z2
        · exact w z3
        · omega
      · exact hb j (by omega)
    have e1 : hrL c lk la (k + 1) = la k + (c 16 (lk k)).toNat := rfl
    obtain ⟨m2, a1, a2⟩ := stay_X (t := twL c lk k) (a := hrL c lk la k) (b := la k) (by omega) g2 μ
    have e2 : ∀ r i q, ¬ r = 39 → ¬ r = 40 → rd (wr m2 40 false (la k) 0) r i q = rd μ r i q := fun r i q h1 h2 => by
      rw [rdx (by omega), a2, if_neg (fun w => h1 w.1), if_neg (fun w => h2 w.1)]
    obtain ⟨m3, b1, b2⟩ := way_120 (i := i) (k10 := B_X5_wrongLeg_10 f) (k := k) hw g1 (g := hrL c lk la (k + 1)) (by omega) (hrL c lk la (k + 1) - (la k + 1)) FU (la k + 1) (wr m2 40 false (la k) 0) (by omega) (FU_gt (by omega)) (y.eq e2).1
    rw [show ((hrL c lk la (k + 1) : Nat) : Int) = (la k : Int) + c 16 (lk k) by omega, show ((la k + 1 : Nat) : Int) = (la k : Int) + 1 by omega] at b1
    have e3 : ∀ r i q, ¬ r = 39 → ¬ r = 40 → rd m3 r i q = rd μ r i q := fun r i q h1 h2 => by
      rw [b2, if_neg (fun w => h1 w.1), if_neg (fun w => h2 w.1)]
      exact e2 r i q h1 h2
    have Y2 : Lay c lk la (rd m3 39 false) (rd m3 40 false) (k + 1) := fun j hj => by
      by_cases q : j = k
      · subst q
        refine ⟨fun h p q => ?_, fun h p q => ?_, ?_, fun h p q => ?_⟩
        · rw [b2, if_neg (by omega), if_neg (by omega), rdx (by omega), a2, if_pos ⟨rfl, rfl, p, q⟩]
        · rw [b2, if_neg (by omega), if_neg (by omega), rdx (by omega), a2, if_neg (by omega), if_pos ⟨rfl, rfl, p, by omega⟩]
        · rw [b2, if_neg (by omega), if_neg (by omega), rd_s]
        · rw [b2, if_pos ⟨rfl, rfl, by omega, q⟩, b2, if_neg (by omega), if_pos ⟨rfl, rfl, by omega, q⟩]
          exact ⟨rfl, rfl⟩
      · exact (Y.eq hw G (k := k) (by omega) hb (fun h hh => by
          rw [b2, if_neg (by omega), if_neg (by omega), rdx (by omega), a2, if_neg (by omega), if_neg (by omega), b2, if_neg (by omega), if_neg (by omega), rdx (by omega), a2, if_neg (by omega), if_neg (by omega)]
          exact ⟨rfl, rfl⟩)) j (by omega)
    obtain ⟨r, m, p1, p2, p3, p4⟩ := ih f (k + 1) m3 (by omega) (by omega) (y.eq e3) nb Y2
    refine ⟨r, m, ?_, p2, fun r i q h1 h2 => (p3 r i q h1 h2).trans (e3 r i q h1 h2), p4⟩
    rw [head, a1, bm_k, b1, ← p1]
    rw [show ((hrL c lk la (k + 1) : Nat) : Int) = (la k : Int) + c 16 (lk k) by omega]
    rfl
