/-! PURE: barred: papers and looks -/
def mis (c : Co) (a : Nat → Int) (w : Int) (t : Nat) : Prop := c 29 t = 0 ∧ c 24 t = w ∧ (w = 1 → c 26 t ≤ c 2 2) ∧ ∀ h : Nat, c 26 t ≤ (h : Int) → (h : Int) ≤ c 27 t → (h : Int) ≤ c 2 2 → ¬ w32 (a h) = c 25 t
theorem mis_cong {c : Co} {a b : Nat → Int} {w : Int} (h : ∀ q : Nat, (q : Int) ≤ c 2 2 → a q = b q) (t : Nat) : mis c a w t ↔ mis c b w t := by
  unfold mis
  constructor
  · rintro ⟨h1, h2, h3, h4⟩
    exact ⟨h1, h2, h3, fun q q1 q2 q3 => by rw [← h q q3]; exact h4 q q1 q2 q3⟩
  · rintro ⟨h1, h2, h3, h4⟩
    exact ⟨h1, h2, h3, fun q q1 q2 q3 => by rw [h q q3]; exact h4 q q1 q2 q3⟩
theorem paX {i : Bool} {c : Co} {μ : Mi} (hw : WF c) (hc : cr μ i = c) (hp : ∀ t : Nat, (t : Int) < c 2 3 → c 24 t = 1 → c 27 t = c 26 t) : ∀ (d n x : Nat), x + d = (c 2 3).toNat → d < n → (∀ j, j < x → ¬ mis c (rd μ 39 false) 1 j) → ∃ r, B_X5_missedPaper_2 n i (x : Int) μ = some r ∧ Fst (mis c (rd μ 39 false) 1) (c 2 3).toNat r := by
  have hsz := hw.2.2.2.2.2.2.2.2.1
  have hen := hw.2.2.2.2.2.2.2.1
  intro d
  induction d with
  | zero =>
    intro n x hx hn hb
    obtain ⟨n, rfl⟩ : ∃ q, n = q + 1 := ⟨n - 1, by omega⟩
    refine ⟨-1, ?_, Or.inr ⟨rfl, fun k hk => hb k (by omega)⟩⟩
    rw [B_X5_missedPaper_2_s, F_X5_missedPaper_2, cm hc (r := 2) (k := 3) (by omega), wid (x := c 2 3) (by omega) (by omega), wid (x := (x : Int)) (by omega) (by omega), if_pos (by omega)]
  | succ d ih =>
    intro n x hx hn hb
    obtain ⟨n, rfl⟩ : ∃ q, n = q + 1 := ⟨n - 1, by omega⟩
    have hxl : (x : Int) < c 2 3 := by omega
    obtain ⟨t1, t2, t3, t4, t5, t6⟩ := hw.2.2.2.2.2.2.2.2.2 x hxl
    have hx8 : 0 ≤ (x : Int) ∧ (x : Int) < 8 := by omega
    have next : ¬ mis c (rd μ 39 false) 1 x → ∃ r, B_X5_missedPaper_54 (B_X5_missedPaper_2 n) i (x : Int) μ = some r ∧ Fst (mis c (rd μ 39 false) 1) (c 2 3).toNat r := fun ng => by
      unfold B_X5_missedPaper_54
      rw [show (x : Int) + 1 = ((x + 1 : Nat) : Int) by omega]
      exact ih n (x + 1) (by omega) (by omega) (fun j hj w => by
        by_cases q : j = x
        · subst q; exact ng w
        · exact hb j (by omega) w)
    rw [B_X5_missedPaper_2_s, F_X5_missedPaper_2, cm hc (r := 2) (k := 3) (by omega), wid (x := c 2 3) (by omega) (by omega), wid (x := (x : Int)) (by omega) (by omega), if_neg (by omega), counts_X hc hw hxl (by omega), bp_k]
    by_cases z : c 24 x = 1 ∧ c 29 x = 0
    rotate_left
    · rw [if_pos (yb10 z)]
      exact next (fun w => z ⟨w.2.1, w.1⟩)
    rw [if_neg (nb10 z), if_pos hx8, if_pos hx8, if_pos hx8, ixn x (by omega), cm hc (r := 2) (k := 2) (by omega), cm hc (r := 26) (by omega), cm hc (r := 25) (by omega), wid (x := c 2 2) (by omega) (by omega), wid (x := c 26 x) (by omega) (by omega), wid (x := c 25 x) (by omega) (by omega)]
    have h26 : 0 ≤ c 26 x := t4 (by omega)
    have h27 := hp x hxl z.1
    by_cases y : c 2 2 < c 26 x
    · rw [if_pos y]
      exact next (fun w => by have := w.2.2.1 rfl; omega)
    rw [if_neg y, if_pos (by omega), ixd h26 (by omega)]
    by_cases u : w32 (rd μ 39 false (c 26 x).toNat) = c 25 x
    · rw [if_pos u]
      exact next (fun w => w.2.2.2 (c 26 x).toNat (by omega) (by omega) (by omega) u)
    · rw [if_neg u]
      refine ⟨(x : Int), rfl, Or.inl ⟨x, by omega, rfl, ⟨z.2, z.1, fun _ => by omega, fun h q1 q2 q3 => ?_⟩, hb⟩⟩
      rw [show h = (c 26 x).toNat by omega]
      exact u
theorem seeX {i : Bool} {c : Co} {μ : Mi} (hc : cr μ i = c) {t : Nat} (ht : t < 8) (h25 : 0 ≤ c 25 t ∧ c 25 t ≤ 7) {b : Nat} (hb : b ≤ 96) : ∀ (d n x : Nat), x + d = max x (b + 1) → x ≤ 96 → d < n → ∃ r, B_X5_isSeen_22 n i (t : Int) (b : Int) (x : Int) μ = some r ∧ ((r = 1 ∧ ∃ h : Nat, x ≤ h ∧ h ≤ b ∧ w32 (rd μ 39 false h) = c 25 t) ∨ (r = 0 ∧ ∀ h : Nat, x ≤ h → h ≤ b → ¬ w32 (rd μ 39 false h) = c 25 t)) := by
  intro d
  induction d with
  | zero =>
    intro n x hx hx9 hn
    obtain ⟨n, rfl⟩ : ∃ q, n = q + 1 := ⟨n - 1, by omega⟩
    refine ⟨0, ?_, Or.inr ⟨rfl, fun h q1 q2 => by omega⟩⟩
    rw [B_X5_isSeen_22_s, F_X5_isSeen_22, wid (x := (b : Int)) (by omega) (by omega), wid (x := (x : Int)) (by omega) (by omega), if_pos (by omega)]
  | succ d ih =>
    intro n x hx hx9 hn
    obtain ⟨n, rfl⟩ : ∃ q, n = q + 1 := ⟨n - 1, by omega⟩
    have hxb : x ≤ b := by omega
    rw [B_X5_isSeen_22_s, F_X5_isSeen_22, wid (x := (b : Int)) (by omega) (by omega), wid (x := (x : Int)) (by omega) (by omega), if_neg (by omega), if_pos (by omega), wid (x := (t : Int)) (by omega) (by omega), if_pos (by omega), ixn x (by omega), ixn t (by omega), cm hc (r := 25) (by omega), wid (x := c 25 t) (by omega) (by omega)]
    by_cases z : w32 (rd μ 39 false x) = c 25 t
    · rw [if_neg (fun w => w z)]
      exact ⟨1, rfl, Or.inl ⟨rfl, x, Nat.le_refl _, hxb, z⟩⟩
    · rw [if_pos z, show (x : Int) + 1 = ((x + 1 : Nat) : Int) by omega]
      by_cases e : x = b
      · obtain ⟨n, rfl⟩ : ∃ q, n = q + 1 := ⟨n - 1, by omega⟩
        refine ⟨0, ?_, Or.inr ⟨rfl, fun h q1 q2 => by rw [show h = x by omega]; exact z⟩⟩
        rw [B_X5_isSeen_22_s, F_X5_isSeen_22, wid (x := (b : Int)) (by omega) (by omega), wid (x := ((x + 1 : Nat) : Int)) (by omega) (by omega), if_pos (by omega)]
      · obtain ⟨r, r1, r2⟩ := ih n (x + 1) (by omega) (by omega) (by omega)
        refine ⟨r, r1, ?_⟩
        rcases r2 with ⟨r2, h, h1, h2, h3⟩ | ⟨r2, h1⟩
        · exact Or.inl ⟨r2, h, by omega, h2, h3⟩
        · refine Or.inr ⟨r2, fun h q1 q2 => ?_⟩
          by_cases q : h = x
          · rw [q]; exact z
          · exact h1 h (by omega) q2
theorem loX {i : Bool} {c : Co} {μ : Mi} (hw : WF c) (hc : cr μ i = c) : ∀ (d n x : Nat), x + d = (c 2 3).toNat → d < n → (∀ j, j < x → ¬ mis c (rd μ 39 false) 2 j) → ∃ r, B_X5_missedLook_2 n i (x : Int) μ = some r ∧ Fst (mis c (rd μ 39 false) 2) (c 2 3).toNat r := by
  have hsz := hw.2.2.2.2.2.2.2.2.1
  have hen := hw.2.2.2.2.2.2.2.1
  intro d
  induction d with
  | zero =>
    intro n x hx hn hb
    obtain ⟨n, rfl⟩ : ∃ q, n = q + 1 := ⟨n - 1, by omega⟩
    refine ⟨-1, ?_, Or.inr ⟨rfl, fun k hk => hb k (by omega)⟩⟩
    rw [B_X5_missedLook_2_s, F_X5_missedLook_2, cm hc (r := 2) (k := 3) (by omega), wid (x := c 2 3) (by omega) (by omega), wid (x := (x : Int)) (by omega) (by omega), if_pos (by omega)]
  | succ d ih =>
    intro n x hx hn hb
    obtain ⟨n, rfl⟩ : ∃ q, n = q + 1 := ⟨n - 1, by omega⟩
    have hxl : (x : Int) < c 2 3 := by omega
    obtain ⟨t1, t2, t3, t4, t5, t6⟩ := hw.2.2.2.2.2.2.2.2.2 x hxl
    have hx8 : 0 ≤ (x : Int) ∧ (x : Int) < 8 := by omega
    have next : ¬ mis c (rd μ 39 false) 2 x → ∃ r, B_X5_missedLook_30 (B_X5_missedLook_2 n) i (x : Int) μ = some r ∧ Fst (mis c (rd μ 39 false) 2) (c 2 3).toNat r := fun ng => by
      unfold B_X5_missedLook_30
      rw [show (x : Int) + 1 = ((x + 1 : Nat) : Int) by omega]
      exact ih n (x + 1) (by omega) (by omega) (fun j hj w => by
        by_cases q : j = x
        · subst q; exact ng w
        · exact hb j (by omega) w)
    rw [B_X5_missedLook_2_s, F_X5_missedLook_2, cm hc (r := 2) (k := 3) (by omega), wid (x := c 2 3) (by omega) (by omega), wid (x := (x : Int)) (by omega) (by omega), if_neg (by omega), counts_X hc hw hxl (by omega), bp_k]
    by_cases z : c 24 x = 2 ∧ c 29 x = 0
    rotate_left
    · rw [if_pos (yb10 z)]
      exact next (fun w => z ⟨w.2.1, w.1⟩)
    have h26 : 0 ≤ c 26 x := t4 (by omega)
    obtain ⟨r, r1, r2⟩ := seeX (i := i) hc (t := x) (by omega) t2 (b := (min (c 27 x) (c 2 2)).toNat) (by omega) (max (c 26 x).toNat ((min (c 27 x) (c 2 2)).toNat + 1) - (c 26 x).toNat) FU (c 26 x).toNat (by omega) (by omega) (FU_gt (by omega))
    rw [if_neg (nb10 z)]
    unfold D_X5_isSeen
    rw [wid (x := (x : Int)) (by omega) (by omega), if_pos hx8, if_pos hx8, ixn x (by omega), cm hc (r := 27) (by omega), cm hc (r := 26) (by omega), cm hc (r := 2) (k := 2) (by omega), min_X (wid (by omega) (by omega)) (wid (by omega) (by omega))]
    rw [show (((min (c 27 x) (c 2 2)).toNat : Nat) : Int) = min (c 27 x) (c 2 2) by omega, show (((c 26 x).toNat : Nat) : Int) = c 26 x by omega] at r1
    rw [r1, bp_k]
    rcases r2 with ⟨rfl, h, h1, h2, h3⟩ | ⟨rfl, h1⟩
    · rw [if_pos (by decide)]
      exact next (fun w => w.2.2.2 h (by omega) (by omega) (by omega) h3)
    · rw [if_neg (by decide)]
      exact ⟨(x : Int), rfl, Or.inl ⟨x, by omega, rfl, ⟨z.2, z.1, fun q => by omega, fun h q1 q2 q3 => h1 h (by omega) (by omega)⟩, hb⟩⟩
/-- the reference looks through the hours -/
theorem seeM {i : Bool} {c : Co} {k65 : Int → Int → Mi → Option (Int × Mi)} {k73 : Int → Int → Int → Mi → Option (Int × Mi)} {μ : Mi} (hw : WF c) (M : MC μ i c) {w t : Nat} (hwk : w ≤ 2) (ht : (t : Int) < c 2 3) (hk0 : ¬ c 24 t = 0) : ∀ (d n x : Nat) (fl : Int), x + d = 97 → d < n → (fl = 0 ∨ fl = 1) → B_X7_barred_150 k65 k73 n (mi i : Int) (w : Int) (t : Int) ((8 * mi i + t : Nat) : Int) fl (x : Int) μ = B_X7_barred_208 k65 k73 (mi i : Int) (w : Int) (t : Int) 1 μ ∧ (fl = 1 ∨ ∃ h : Nat, x ≤ h ∧ (h : Int) ≤ c 27 t ∧ (h : Int) ≤ c 2 2 ∧ w32 (rd μ 73 false h) = c 25 t) ∨ B_X7_barred_150 k65 k73 n (mi i : Int) (w : Int) (t : Int) ((8 * mi i + t : Nat) : Int) fl (x : Int) μ = B_X7_barred_208 k65 k73 (mi i : Int) (w : Int) (t : Int) 0 μ ∧ fl = 0 ∧ ∀ h : Nat, x ≤ h → (h : Int) ≤ c 27 t → (h : Int) ≤ c 2 2 → ¬ w32 (rd μ 73 false h) = c 25 t := by
  have hsz := hw.2.2.2.2.2.2.2.2.1
  have hen := hw.2.2.2.2.2.2.2.1
  have hm := mi_le i
  obtain ⟨t1, t2, t3, t4, t5, t6⟩ := hw.2.2.2.2.2.2.2.2.2 t ht
  have h26 : 0 ≤ c 26 t := t4 hk0
  obtain ⟨e57, e58, e59, e60, e61, e62⟩ := M.2.2.2.2.2 t ht
  obtain ⟨X, hX⟩ : ∃ X, X = 8 * mi i + t := ⟨_, rfl⟩
  rw [← hX] at e57 e58 e59 e60 e61 e62 ⊢
  have hX16 : 0 ≤ (X : Int) ∧ (X : Int) < 16 := by omega
  have stop : ∀ (n x : Nat) (fl : Int), x ≤ 97 → 0 < n → (fl = 0 ∨ fl = 1) → (c 27 t < (x : Int) ∨ c 2 2 < (x : Int)) → B_X7_barred_150 k65 k73 n (mi i : Int) (w : Int) (t : Int) (X : Int) fl (x : Int) μ = B_X7_barred_208 k65 k73 (mi i : Int) (w : Int) (t : Int) fl μ := fun n x fl hx hn _ hs => by
    obtain ⟨n, rfl⟩ : ∃ q, n = q + 1 := ⟨n - 1, by omega⟩
    rw [B_X7_barred_150_s, F_X7_barred_150, wid (x := (X : Int)) (by omega) (by omega), if_pos hX16, ixn X (by omega), e60, wid (x := c 27 t) (by omega) (by omega), wid (x := (x : Int)) (by omega) (by omega), wid (x := (mi i : Int)) (by omega) (by omega), ixn (mi i) (by omega), M.2.2.2.2.1.2.2.1, wid (x := c 2 2) (by omega) (by omega)]
    by_cases z : c 27 t < (x : Int)
    · rw [if_pos z]
    · rw [if_neg z, if_pos (by omega), if_pos (by omega)]
  intro d
  induction d with
  | zero =>
    intro n x fl hx hn hf
    have := stop n x fl (by omega) (by omega) hf (by omega)
    rcases hf with rfl | rfl
    · exact Or.inr ⟨this, rfl, fun h q1 q2 q3 => by omega⟩
    · exact Or.inl ⟨this, Or.inl rfl⟩
  | succ d ih =>
    intro n x fl hx hn hf
    by_cases z : c 27 t < (x : Int) ∨ c 2 2 < (x : Int)
    · have := stop n x fl (by omega) (by omega) hf z
      rcases hf with rfl | rfl
      · exact Or.inr ⟨this, rfl, fun h q1 q2 q3 => by omega⟩
      · exact Or.inl ⟨this, Or.inl rfl⟩
    · obtain ⟨n, rfl⟩ : ∃ q, n = q + 1 := ⟨n - 1, by omega⟩
      have e200 : ∀ s, B_X7_barred_200 k65 k73 (B_X7_barred_150 k65 k73 n) (mi i : Int) (w : Int) (t : Int) (X : Int) (x : Int) s μ = B_X7_barred_150 k65 k73 n (mi i : Int) (w : Int) (t : Int) (X : Int) s ((x + 1 : Nat) : Int) μ := fun s => by
        unfold B_X7_barred_200
        rw [show (x : Int) + 1 = ((x + 1 : Nat) : Int) by omega]
      have head : B_X7_barred_150 k65 k73 (n + 1) (mi i : Int) (w : Int) (t : Int) (X : Int) fl (x : Int) μ = if ¬ fl = 0 then B_X7_barred_150 k65 k73 n (mi i : Int) (w : Int) (t : Int) (X : Int) 1 ((x + 1 : Nat) : Int) μ else if ¬ w32 (rd μ 73 false x) = c 25 t then B_X7_barred_150 k65 k73 n (mi i : Int) (w : Int) (t : Int) (X : Int) 0 ((x + 1 : Nat) : Int) μ else B_X7_barred_150 k65 k73 n (mi i : Int) (w : Int) (t : Int) (X : Int) 1 ((x + 1 : Nat) : Int) μ := by
        rw [B_X7_barred_150_s, F_X7_barred_150, wid (x := (X : Int)) (by omega) (by omega), if_pos hX16, if_pos hX16, ixn X (by omega), e60, e58, wid (x := c 27 t) (by omega) (by omega), wid (x := (x : Int)) (by omega) (by omega), wid (x := (mi i : Int)) (by omega) (by omega), ixn (mi i) (by omega), M.2.2.2.2.1.2.2.1, wid (x := c 2 2) (by omega) (by omega), if_neg (by omega), if_pos (by omega), if_neg (by omega), wid (x := fl) (by omega) (by omega), if_pos (show 0 ≤ (x : Int) ∧ (x : Int) < 97 by omega), ixn x (by omega), wid (x := c 25 t) (by omega) (by omega)]
        unfold B_X7_barred_195
        rw [e200, e200]
      rcases hf with rfl | rfl
      · rw [if_neg (fun q => q rfl)] at head
        by_cases y : w32 (rd μ 73 false x) = c 25 t
        · rw [if_neg (fun q => q y)] at head
          rw [head]
          rcases ih n (x + 1) 1 (by omega) (by omega) (Or.inr rfl) with ⟨a, b⟩ | ⟨a, b, _⟩
          · exact Or.inl ⟨a, Or.inr ⟨x, Nat.le_refl _, by omega, by omega, y⟩⟩
          · omega
        · rw [if_pos y] at head
          rw [head]
          rcases ih n (x + 1) 0 (by omega) (by omega) (Or.inl rfl) with ⟨a, b⟩ | ⟨a, b, g⟩
          · rcases b with b | ⟨h, h1, h2, h3, h4⟩
            · omega
            · exact Or.inl ⟨a, Or.inr ⟨h, by omega, h2, h3, h4⟩⟩
          · refine Or.inr ⟨a, rfl, fun h q1 q2 q3 => ?_⟩
            by_cases q : h = x
            · rw [q]; exact y
            · exact g h (by omega) q2 q3
      · rw [if_pos (by omega)] at head
        rw [head]
        rcases ih n (x + 1) 1 (by omega) (by omega) (Or.inr rfl) with ⟨a, b⟩ | ⟨a, b, _⟩
        · exact Or.inl ⟨a, Or.inl rfl⟩
        · omega
theorem miM {i : Bool} {c : Co} {k65 : Int → Int → Mi → Option (Int × Mi)} {μ : Mi} (hw : WF c) (M : MC μ i c) {w : Nat} (hwk : w = 1 ∨ w = 2) : ∀ (d n x : Nat), x + d = (c 2 3).toNat → d < n → (∀ j, j < x → ¬ mis c (rd μ 73 false) (w : Int) j) → ∃ r, Fst (mis c (rd μ 73 false) (w : Int)) (c 2 3).toNat r ∧ B_X7_barred_73 k65 n (mi i : Int) (w : Int) (x : Int) μ = if r = -1 then k65 (mi i : Int) ((w + 1 : Nat) : Int) μ else some (300 + 100 * (w : Int) + r, μ) := by
  have hsz := hw.2.2.2.2.2.2.2.2.1
  have hen := hw.2.2.2.2.2.2.2.1
  have hm := mi_le i
  have hmi : 0 ≤ (mi i : Int) ∧ (mi i : Int) < 2 := by omega
  intro d
  induction d with
  | zero =>
    intro n x hx hn hb
    obtain ⟨n, rfl⟩ : ∃ q, n = q + 1 := ⟨n - 1, by omega⟩
    refine ⟨-1, Or.inr ⟨rfl, fun k hk => hb k (by omega)⟩, ?_⟩
    rw [B_X7_barred_73_s, F_X7_barred_73, wid (x := (mi i : Int)) (by omega) (by omega), if_pos hmi, ixn (mi i) (by omega), M.2.2.2.2.1.2.2.2, wid (x := c 2 3) (by omega) (by omega), wid (x := (x : Int)) (by omega) (by omega), if_pos (by omega), if_pos rfl, show (w : Int) + 1 = ((w + 1 : Nat) : Int) by omega]
  | succ d ih =>
    intro n x hx hn hb
    obtain ⟨n, rfl⟩ : ∃ q, n = q + 1 := ⟨n - 1, by omega⟩
    have hxl : (x : Int) < c 2 3 := by omega
    obtain ⟨t1, t2, t3, t4, t5, t6⟩ := hw.2.2.2.2.2.2.2.2.2 x hxl
    obtain ⟨e57, e58, e59, e60, e61, e62⟩ := M.2.2.2.2.2 x hxl
    have hsee := fun (hk0 : ¬ c 24 x = 0) => seeM (k65 := k65) (k73 := B_X7_barred_73 k65 n) hw M (w := w) (by omega) hxl hk0 (97 - (c 26 x).toNat) FU (c 26 x).toNat 0
    obtain ⟨X, hX⟩ : ∃ X, X = 8 * mi i + x := ⟨_, rfl⟩
    rw [← hX] at e57 e58 e59 e60 e61 e62 hsee
    have hX16 : 0 ≤ (X : Int) ∧ (X : Int) < 16 := by omega
    have next : ¬ mis c (rd μ 73 false) (w : Int) x → ∃ r, Fst (mis c (rd μ 73 false) (w : Int)) (c 2 3).toNat r ∧ B_X7_barred_225 k65 (B_X7_barred_73 k65 n) (mi i : Int) (w : Int) (x : Int) μ = if r = -1 then k65 (mi i : Int) ((w + 1 : Nat) : Int) μ else some (300 + 100 * (w : Int) + r, μ) := fun ng => by
      unfold B_X7_barred_225
      rw [show (x : Int) + 1 = ((x + 1 : Nat) : Int) by omega]
      exact ih n (x + 1) (by omega) (by omega) (fun j hj u => by
        by_cases q : j = x
        · subst q; exact ng u
        · exact hb j (by omega) u)
    rw [B_X7_barred_73_s, F_X7_barred_73, wid (x := (mi i : Int)) (by omega) (by omega), if_pos hmi, if_pos hmi, ixn (mi i) (by omega), M.2.2.2.2.1.2.2.2, M.2.2.2.2.1.2.2.1, wid (x := c 2 3) (by omega) (by omega), wid (x := (x : Int)) (by omega) (by omega), if_neg (by omega), show 8 * (mi i : Int) + (x : Int) = (X : Int) by omega, wid (x := (X : Int)) (by omega) (by omega), if_pos hX16, if_pos hX16, if_pos hX16, ixn X (by omega), e62, e57, e59, wid (x := c 29 x) (by omega) (by omega), wid (x := c 24 x) (by omega) (by omega), wid (x := c 26 x) (by omega) (by omega), wid (x := (w : Int)) (by omega) (by omega), wid (x := c 2 2) (by omega) (by omega)]
    by_cases z : c 29 x = 0
    rotate_left
    · rw [if_pos z]
      exact next (fun u => z u.1)
    rw [if_neg (fun u => u z)]
    by_cases y : c 24 x = (w : Int)
    rotate_left
    · rw [if_pos y]
      exact next (fun u => y u.2.1)
    rw [if_neg (fun u => u y)]
    have h26 : 0 ≤ c 26 x := t4 (by omega)
    have e138 : (w = 1 → c 26 x ≤ c 2 2) → ∃ r, Fst (mis c (rd μ 73 false) (w : Int)) (c 2 3).toNat r ∧ B_X7_barred_138 k65 (B_X7_barred_73 k65 n) (mi i : Int) (w : Int) (x : Int) (X : Int) μ = if r = -1 then k65 (mi i : Int) ((w + 1 : Nat) : Int) μ else some (300 + 100 * (w : Int) + r, μ) := fun hcon => by
      unfold B_X7_barred_138
      rw [wid (x := (X : Int)) (by omega) (by omega), if_pos hX16, ixn X (by omega), e59]
      have h3 := hsee (by clear hsee; omega) (by clear hsee; omega) (FU_gt (by clear hsee; omega)) (Or.inl rfl)
      rw [show (((c 26 x).toNat : Nat) : Int) = c 26 x by omega] at h3
      rcases h3 with ⟨a, b⟩ | ⟨a, -, b⟩
      · rw [a]
        unfold B_X7_barred_208
        rw [if_pos (by decide)]
        refine next (fun u => ?_)
        rcases b with b | ⟨h, h1, h2, h3, h4⟩
        · omega
        · exact u.2.2.2 h (by omega) h2 h3 h4
      · rw [a]
        unfold B_X7_barred_208
        rw [if_neg (by decide)]
        refine ⟨(x : Int), Or.inl ⟨x, by omega, rfl, ⟨z, y, fun u => hcon (by omega), fun h q1 q2 q3 => b h (by omega) q2 q3⟩, hb⟩, ?_⟩
        rw [if_neg (by omega)]
    by_cases u : w = 1
    · rw [if_neg (show ¬ ¬ (w : Int) = 1 by omega)]
      by_cases v : c 26 x ≤ c 2 2
      · rw [if_pos v]
        exact e138 (fun _ => v)
      · rw [if_neg v]
        exact next (fun q => v (q.2.2.1 (by omega)))
    · rw [if_pos (show ¬ (w : Int) = 1 by omega)]
      exact e138 (fun q => absurd q u)
theorem op_barred {μ : Mi} (I : Inv μ) {x1 : Int} (r1 : R32 x1) : OpI (D_X6_barred x1) (D_X7_barred x1) μ := by
  have hA := I.1.2.1
  by_cases c1 : 0 < rd μ 0 false 1 ∧ (x1 = 0 ∨ x1 = 1)
  rotate_left
  · refine OpI.same I (-1) ?_ ?_
    · unfold D_X6_barred; rw [isMan_X hA r1, if_pos (yb10 c1)]
    · unfold D_X7_barred; rw [man_M hA rfl rfl r1, if_neg (fun w => w (yb10 c1))]
  obtain ⟨i, e1, e2, e3, e4, e5, e6⟩ := man_of c1
  have hw := WF_of I.1 c1.1 i
  have h2 := WF2_of I.1 i
  have hs := Sk_of hw h2 0
  have hsz := hw.2.2.2.2.2.2.2.2.1
  have hen := hw.2.2.2.2.2.2.2.1
  have hSt := I.1.2.2.2.1
  obtain ⟨c, hc⟩ : ∃ c, c = cr μ i := ⟨_, rfl⟩
  rw [← hc] at hw h2 hs hsz hen
  obtain ⟨lk, hlk⟩ : ∃ lk : Nat → Nat, lk = fun k => (rd μ 37 false k).toNat := ⟨_, rfl⟩
  obtain ⟨la, hla⟩ : ∃ la : Nat → Nat, la = fun k => (rd μ 38 false k).toNat := ⟨_, rfl⟩
  obtain ⟨n, hn⟩ : ∃ n : Nat, n = (rd μ 5 false 0).toNat := ⟨_, rfl⟩
  have h02 : c 0 2 = rd μ 0 false 2 := by rw [hc, cr_a (by omega)]
  have hrow : ∀ k, k < n → (rd μ 37 false k = (lk k : Int) ∧ rd μ 38 false k = (la k : Int)) ∧ (rd μ 63 false k = (lk k : Int) ∧ rd μ 64 false k = (la k : Int)) ∧ (lk k : Int) < c 0 2 ∧ la k ≤ 96 := fun k hk => by
    obtain ⟨⟨q1, q2, q3⟩, q4, q5, q6⟩ := hSt.2 k (by omega)
    have a1 : lk k = (rd μ 37 false k).toNat := by rw [hlk]
    have a2 : la k = (rd μ 38 false k).toNat := by rw [hla]
    refine ⟨⟨by omega, by omega⟩, ⟨by omega, by omega⟩, by omega, by omega⟩
  have hst := hSt.1
  have G : LG c lk la n := ⟨by omega, fun k hk => (hrow k hk).2.2⟩
  have y : SyX μ i c lk la n := ⟨hc.symm, by omega, fun k hk => (hrow k hk).1⟩
  -- the class
  obtain ⟨q1, m1, a1, a2, a3, a4⟩ := leg_10 (i := i) hw G n FU 0 μ (by omega) (FU_gt (by have := G.1; omega)) y (fun j hj => by omega) (fun k hk => by omega)
  have y1 := y.eq a3
  have hleg : D_X5_wrongLeg i μ = some (q1, m1) := by
    unfold D_X5_wrongLeg
    rw [cm y.1 (r := 2) (k := 0) (by omega)]
    exact a1
  -- the reference
  have M1 : MC m1 i c := by
    rw [hc]
    exact (MC_of I.1 c1.1 i).eq (fun r i j h => a3 r i j (by omega) (by omega))
  obtain ⟨m2, b1, b2⟩ := sets_M M1 hw h2 (B := 0) (by omega)
  rw [show ((0 : Nat) : Int) = 0 from rfl] at b1
  have eS : ∀ r i j, r < 65 → ¬ (r = 7 ∧ 33 ≤ j) → rd m2 r i j = rd m1 r i j := fun r i j h h' => frM (fr_X7_sets b1) (by decide) h h'
  have z2 : SyM m2 i c (SL c 0) (LL c 0) (PM c 0) lk la n := ⟨b2, by rw [eS 7 false 32 (by omega) (by omega), a3 7 false 32 (by omega) (by omega)]; omega, fun k hk => by
    rw [eS 63 false k (by omega) (by omega), a3 63 false k (by omega) (by omega), eS 64 false k (by omega) (by omega), a3 64 false k (by omega) (by omega)]
    exact (hrow k hk).2.1⟩
  obtain ⟨q1', m3, d1, d2, d3, d4⟩ := fol_14 (i := i) hw G n FU 0 m2 (by omega) (FU_gt (by have := G.1; omega)) z2 (fun j hj => by omega) (fun k hk => by omega)
  have z3 := z2.eq d3
  have hm := mi_le i
  have hfol : D_X7_follows m2 = some (q1', m3) := by
    unfold D_X7_follows
    rw [b2.2.2.2.1, wid (x := (mi i : Int)) (by omega) (by omega), if_pos (by omega), ixn (mi i) (by omega), b2.1.2.2.2.2.1.1]
    exact d1
  have hq1 : q1' = q1 := d2.uniq a2 (fun _ _ => Iff.rfl)
  subst hq1
  have hqr : -1 ≤ q1' ∧ q1' ≤ 20 := by
    rcases d2 with ⟨k, k1, k2, -⟩ | ⟨k1, -⟩
    · have := G.1; omega
    · omega
  have fin : ∀ r m, D_X5_barOf i μ = some (r, m1) → D_X7_barred x1 m1 = some (r, m) → OpI (D_X6_barred x1) (D_X7_barred x1) μ := fun r m p q => by
    have hX : D_X6_barred x1 μ = some (r, m1) := by
      unfold D_X6_barred
      rw [isMan_X hA r1, if_neg (nb10 c1), e2, p, bd_k]
    have eM : ∀ r i j, r < 65 → ¬ (r = 7 ∧ 33 ≤ j) → rd m r i j = rd m1 r i j := fun r i j h h' => frM (fr_X7_barred q) (by decide) h h'
    have eA : ∀ r i j, r < 65 → ¬ (r = 7 ∧ 33 ≤ j) → ¬ r = 39 → ¬ r = 40 → rd m r i j = rd μ r i j := fun r i j h h' h3 h4 => (eM r i j h h').trans (a3 r i j h3 h4)
    obtain ⟨hT, hA', hM, hS', hC⟩ := I.1
    refine OpI.of I ⟨r, m1, m, hX, q, ⟨hT.tr (fun r i j h => eA r i j (by omega) (by omega) (by omega) (by omega)), hA'.tr (fun r i j h => eA r i j (by omega) (by omega) (by omega) (by omega)), fun i => (hM i).tr (fun r j h => eA r i j (by omega) (by omega) (by omega) (by omega)) (fun r j h => eA r false j (by omega) (by omega) (by omega) (by omega)) (fun j h => eA 0 false j (by omega) (by omega) (by omega) (by omega)), hS'.tr (fun r i j h => eA r i j (by omega) (by omega) (by omega) (by omega)), chg.tr hC (fun i => Or.inl (eA 2 i 4 (by omega) (by omega) (by omega) (by omega)))⟩, fun i => Kp.of (fun r k h => eA r false k (by omega) (by omega) (by omega) (by omega)) (fun r k h => eA r i k (by omega) (by omega) (by omega) (by omega))⟩
  have preM : D_X7_barred x1 m1 = if q1' = -1 then (bp (D_X7_sleepless m3) fun r4 => if (w32 r4) = (-1) then bp (D_X7_wrongStamp m3) fun r5 => if (w32 r5) = (-1) then B_X7_barred_65 FU x1 1 m3 else some ((300 + r5), m3) else some ((200 + r4), m3)) else some ((100 + q1'), m3) := by
    unfold D_X7_barred
    rw [man_M hA (a3 7 false 17 (by omega) (by omega)) (a3 0 false 1 (by omega) (by omega)) r1, if_pos (fun w => nb10 c1 w), e1, b1, bm_k, hfol, bd_k, wid (x := q1') (by omega) (by omega)]
  have preX : D_X5_barOf i μ = if q1' = -1 then (bp (D_X5_sleeplessDay i m1) fun r2 => if (w32 r2) = (-1) then bp (D_X5_wrongStamp i m1) fun r3 => if (w32 r3) = (-1) then bp (D_X5_missedPaper i m1) fun r4 => if (w32 r4) = (-1) then bp (D_X5_missedLook i m1) fun r5 => if ¬ (w32 r5) = (-1) then some ((500 + r5), m1) else some (0, m1) else some ((400 + r4), m1) else some ((300 + r3), m1) else some ((200 + r2), m1)) else some ((100 + q1'), m1) := by
    unfold D_X5_barOf
    rw [hleg, bd_k, wid (x := q1') (by omega) (by omega)]
  by_cases u1 : q1' = -1
  rotate_left
  · rw [if_neg u1] at preM preX
    exact fin _ _ preX preM
  rw [if_pos u1] at preM preX
  obtain ⟨A1, A2⟩ := a4 u1
  obtain ⟨B1, B2⟩ := d4 u1
  have nobad : ∀ j, j < n → ¬ bdL c lk la j := by
    rcases d2 with ⟨k, k1, k2, -⟩ | ⟨-, k1⟩
    · omega
    · exact k1
  obtain ⟨U1, U2⟩ := A1.uniq hw G nobad B1 A2 B2
  obtain ⟨s1, sx1, sx2⟩ := slX (i := i) hw y1.1 4 FU 0 (by omega) (FU_gt (by omega)) (fun j hj => by omega)
  obtain ⟨s2, sm1, sm2⟩ := slM z3.1 4 FU 0 (by omega) (FU_gt (by omega)) (fun j hj => by omega)
  have hs12 : s2 = s1 := sm2.uniq sx2 (fun d _ => (sdP_cong U2 d).symm)
  subst hs12
  have hsr : -1 ≤ s2 ∧ s2 ≤ 4 := by
    rcases sm2 with ⟨k, k1, k2, -⟩ | ⟨k1, -⟩ <;> omega
  rw [show D_X7_sleepless m3 = some s2 from sm1, bp_k, wid (x := s2) (by omega) (by omega)] at preM
  rw [show D_X5_sleeplessDay i m1 = some s2 from sx1, bp_k, wid (x := s2) (by omega) (by omega)] at preX
  by_cases u2 : s2 = -1
  rotate_left
  · rw [if_neg u2] at preM preX
    exact fin _ _ preX preM
  rw [if_pos u2] at preM preX
  have wx := wsX (i := i) hw h2 G y1 n FU 0 0 (by omega) (FU_gt (by have := G.1; omega)) (by omega)
  have wm := wsM G z3 n FU 0 0 (by omega) (FU_gt (by have := G.1; omega)) (by omega)
  have ex : D_X5_wrongStamp i m1 = some (wSp c (SL c 0) lk la n 0 0) := by
    unfold D_X5_wrongStamp
    rw [beh_0 hw y1.1, bp_k]
    exact wx
  have em : D_X7_wrongStamp m3 = some (wSp c (SL c 0) lk la n 0 0) := wm
  have hwr : ∀ d k s, s ≤ (SL c 0).length → -1 ≤ wSp c (SL c 0) lk la d k s ∧ wSp c (SL c 0) lk la d k s ≤ 6 := by
    have hS6 := hs.1
    intro d
    induction d with
    | zero => intro k s h; rw [wSp]; split <;> omega
    | succ d ih =>
      intro k s h
      have o := stO_r (c := c) (S := SL c 0) (k := lk k) (h := la k) h
      rw [wSp]
      split
      · omega
      · have o2 := stI_r (c := c) (S := SL c 0) (k := lk k) (h := la k) (s := (stO c (SL c 0) (lk k) (la k) s).toNat) (by omega)
        split
        · omega
        · exact ih (k + 1) _ (by omega)
  have hwv := hwr n 0 0 (by omega)
  rw [em, bp_k, wid (x := wSp c (SL c 0) lk la n 0 0) (by omega) (by omega)] at preM
  rw [ex, bp_k, wid (x := wSp c (SL c 0) lk la n 0 0) (by omega) (by omega)] at preX
  by_cases u3 : wSp c (SL c 0) lk la n 0 0 = -1
  rotate_left
  · rw [if_neg u3] at preM preX
    exact fin _ _ preX preM
  rw [if_pos u3] at preM preX
  have hpap : ∀ t : Nat, (t : Int) < c 2 3 → c 24 t = 1 → c 27 t = c 26 t := fun t ht hk => by
    obtain ⟨-, -, Itr, -⟩ := I.1.2.2.1 i
    have e23 : c 2 3 = rd μ 2 i 3 := by rw [hc, cr_m (by omega)]
    have e24 : c 24 t = rd μ 24 i t := by rw [hc, cr_m (by omega)]
    have e26 : c 26 t = rd μ 26 i t := by rw [hc, cr_m (by omega)]
    have e27 : c 27 t = rd μ 27 i t := by rw [hc, cr_m (by omega)]
    obtain ⟨⟨-, -, -, -, -, -, -, q8, -⟩, -⟩ := Itr t (by omega)
    rw [e26, e27]
    exact q8 (by omega)
  obtain ⟨p1, px1, px2⟩ := paX (i := i) hw y1.1 hpap (c 2 3).toNat FU 0 (by omega) (FU_gt (by omega)) (fun j hj => by omega)
  obtain ⟨l1, lx1, lx2⟩ := loX (i := i) hw y1.1 (c 2 3).toNat FU 0 (by omega) (FU_gt (by omega)) (fun j hj => by omega)
  obtain ⟨p2, pm1, pm2⟩ := miM (k65 := B_X7_barred_65 999999) hw z3.1.1 (w := 1) (Or.inl rfl) (c 2 3).toNat FU 0 (by omega) (FU_gt (by omega)) (fun j hj => by omega)
  obtain ⟨l2, lm1, lm2⟩ := miM (k65 := B_X7_barred_65 999998) hw z3.1.1 (w := 2) (Or.inr rfl) (c 2 3).toNat FU 0 (by omega) (FU_gt (by omega)) (fun j hj => by omega)
  have hp12 : p2 = p1 := pm1.uniq px2 (fun t _ => (mis_cong U1 t).symm)
  have hl12 : l2 = l1 := lm1.uniq lx2 (fun t _ => (mis_cong U1 t).symm)
  subst hp12
  subst hl12
  have hpr : -1 ≤ p2 ∧ p2 ≤ 8 := by
    rcases px2 with ⟨k, k1, k2, -⟩ | ⟨k1, -⟩ <;> omega
  have hlr : -1 ≤ l2 ∧ l2 ≤ 8 := by
    rcases lx2 with ⟨k, k1, k2, -⟩ | ⟨k1, -⟩ <;> omega
  have bM : B_X7_barred_65 FU x1 1 m3 = if p2 = -1 then (if l2 = -1 then some (0, m3) else some (500 + l2, m3)) else some (400 + p2, m3) := by
    show B_X7_barred_65 (999999 + 1) x1 1 m3 = _
    rw [B_X7_barred_65_s, F_X7_barred_65, if_neg (by decide), e1]
    rw [show (((1 : Nat)) : Int) = 1 from rfl, show ((0 : Nat) : Int) = 0 from rfl] at pm2
    rw [pm2]
    by_cases v : p2 = -1
    · rw [if_pos v, if_pos v]
      show B_X7_barred_65 (999998 + 1) (mi i : Int) ((1 + 1 : Nat) : Int) m3 = _
      rw [B_X7_barred_65_s, F_X7_barred_65, if_neg (by decide)]
      rw [show (((2 : Nat)) : Int) = 2 from rfl, show ((0 : Nat) : Int) = 0 from rfl] at lm2
      rw [show ((1 + 1 : Nat) : Int) = 2 from rfl, lm2]
      by_cases v2 : l2 = -1
      · rw [if_pos v2, if_pos v2]
        show B_X7_barred_65 (999997 + 1) (mi i : Int) ((2 + 1 : Nat) : Int) m3 = _
        rw [B_X7_barred_65_s, F_X7_barred_65, if_pos (by decide)]
      · rw [if_neg v2, if_neg v2]
        rfl
    · rw [if_neg v, if_neg v]
      rfl
  rw [bM] at preM
  rw [show D_X5_missedPaper i m1 = some p2 from px1, bp_k, wid (x := p2) (by omega) (by omega), show D_X5_missedLook i m1 = some l2 from lx1, bp_k, wid (x := l2) (by omega) (by omega)] at preX
  by_cases u4 : p2 = -1
  · rw [if_pos u4] at preM preX
    by_cases u5 : l2 = -1
    · rw [if_pos u5] at preM
      rw [if_neg (fun w => w u5)] at preX
      exact fin _ _ preX preM
    · rw [if_neg u5] at preM
      rw [if_pos u5] at preX
      exact fin _ _ preX preM
  · rw [if_neg u4] at preM preX
    exact fin _ _ preX preM
