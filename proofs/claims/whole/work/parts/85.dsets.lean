/-! PURE: lists without some, sets and their weight -/
def flB (B : Nat) : List Nat → List Nat
  | [] => []
  | a :: l => if B.testBit a then flB B l else a :: flB B l
/-- how many of the first s are not of B -/
def psB (B : Nat) : List Nat → Nat → Nat
  | [], _ => 0
  | _ :: _, 0 => 0
  | a :: l, s + 1 => (if B.testBit a then 0 else 1) + psB B l s
theorem psB_step (B : Nat) : ∀ (l : List Nat) (s : Nat), s < l.length → psB B l (s + 1) = psB B l s + (if B.testBit (l.getD s 0) then 0 else 1)
  | [], s, h => by cases h
  | a :: l, 0, _ => by
    show (if B.testBit a then 0 else 1) + psB B l 0 = 0 + (if B.testBit a then 0 else 1)
    have : psB B l 0 = 0 := by cases l <;> rfl
    omega
  | a :: l, s + 1, h => by
    have := psB_step B l s (by rw [List.length_cons] at h; omega)
    show (if B.testBit a then 0 else 1) + psB B l (s + 1) = (if B.testBit a then 0 else 1) + psB B l s + (if B.testBit (l.getD s 0) then 0 else 1)
    omega
theorem psB_0 (B : Nat) (l : List Nat) : psB B l 0 = 0 := by cases l <;> rfl
theorem psB_end (B : Nat) : ∀ (l : List Nat) (s : Nat), l.length ≤ s → psB B l s = (flB B l).length
  | [], s, _ => rfl
  | a :: l, 0, h => by cases h
  | a :: l, s + 1, h => by
    have := psB_end B l s (by rw [List.length_cons] at h; omega)
    show (if B.testBit a then 0 else 1) + psB B l s = (if B.testBit a then flB B l else a :: flB B l).length
    split
    · omega
    · rw [List.length_cons]; omega
theorem psB_get (B : Nat) : ∀ (l : List Nat) (s : Nat), s < l.length → B.testBit (l.getD s 0) = false → psB B l s < (flB B l).length ∧ (flB B l).getD (psB B l s) 0 = l.getD s 0
  | [], s, h, _ => by cases h
  | a :: l, 0, _, q => by
    have q' : B.testBit a = false := q
    have e : flB B (a :: l) = a :: flB B l := by rw [flB, q']; rfl
    rw [e]
    exact ⟨by show 0 < _; rw [List.length_cons]; omega, rfl⟩
  | a :: l, s + 1, h, q => by
    obtain ⟨i1, i2⟩ := psB_get B l s (by rw [List.length_cons] at h; omega) q
    show (if B.testBit a then 0 else 1) + psB B l s < (if B.testBit a then flB B l else a :: flB B l).length ∧ (if B.testBit a then flB B l else a :: flB B l).getD ((if B.testBit a then 0 else 1) + psB B l s) 0 = l.getD s 0
    split
    · rw [Nat.zero_add]; exact ⟨i1, i2⟩
    · rw [List.length_cons, Nat.add_comm 1]
      exact ⟨by omega, i2⟩
theorem psB_surj (B : Nat) : ∀ (l : List Nat) (q : Nat), q < (flB B l).length → ∃ x, x < l.length ∧ B.testBit (l.getD x 0) = false ∧ psB B l x = q
  | [], q, h => by cases h
  | a :: l, q, h => by
    by_cases z : B.testBit a = true
    · have e : flB B (a :: l) = flB B l := by rw [flB, if_pos z]
      rw [e] at h
      obtain ⟨x, x1, x2, x3⟩ := psB_surj B l q h
      exact ⟨x + 1, by rw [List.length_cons]; omega, x2, by show (if B.testBit a then 0 else 1) + psB B l x = q; rw [if_pos z]; omega⟩
    · have e : flB B (a :: l) = a :: flB B l := by rw [flB, if_neg z]
      rw [e, List.length_cons] at h
      cases q with
      | zero => exact ⟨0, by rw [List.length_cons]; omega, by show B.testBit a = false; simpa using z, rfl⟩
      | succ q =>
        obtain ⟨x, x1, x2, x3⟩ := psB_surj B l q (by omega)
        exact ⟨x + 1, by rw [List.length_cons]; omega, x2, by show (if B.testBit a then 0 else 1) + psB B l x = q + 1; rw [if_neg z]; omega⟩
theorem psB_mono (B : Nat) (l : List Nat) : ∀ (d s : Nat), psB B l s ≤ psB B l (s + d)
  | 0, s => Nat.le_refl _
  | d + 1, s => by
    have ih := psB_mono B l d s
    by_cases h : s + d < l.length
    · have := psB_step B l (s + d) h
      rw [← Nat.add_assoc]
      omega
    · rw [← Nat.add_assoc, psB_end B l (s + d + 1) (by omega)]
      rw [psB_end B l (s + d) (by omega)] at ih
      exact ih
theorem psB_same (B : Nat) (l : List Nat) (s : Nat) : ∀ d : Nat, s + d ≤ l.length → (∀ y, s ≤ y → y < s + d → B.testBit (l.getD y 0) = true) → psB B l (s + d) = psB B l s
  | 0, _, _ => rfl
  | d + 1, h, q => by
    have ih := psB_same B l s d (by omega) (fun y h1 h2 => q y h1 (by omega))
    have := psB_step B l (s + d) (by omega)
    rw [if_pos (q (s + d) (by omega) (by omega))] at this
    rw [← Nat.add_assoc]
    omega
theorem flB_app (B : Nat) (m : List Nat) : ∀ l : List Nat, flB B (l ++ m) = flB B l ++ flB B m
  | [] => rfl
  | a :: l => by
    rw [List.cons_append, flB, flB, flB_app B m l]
    split
    · rfl
    · rfl
theorem sLn_fl (c : Co) (B : Nat) (w : Int) : ∀ n, sLn c B w n = flB B (sLn c 0 w n)
  | 0 => rfl
  | n + 1 => by
    have ih := sLn_fl c B w n
    rw [sLn, sLn]
    have k0 : kp c 0 n = decide (c 29 n = 0) := by unfold kp; rw [Nat.zero_testBit]; simp
    by_cases z : c 29 n = 0 ∧ c 24 n = w
    · rw [if_pos (show kp c 0 n = true ∧ c 24 n = w from ⟨by rw [k0]; simpa using z.1, z.2⟩), flB_app, ← ih]
      by_cases y : B.testBit n = true
      · rw [if_neg (fun u => by
          have := u.1
          unfold kp at this
          rw [y] at this
          simp at this)]
        have : flB B [n] = [] := by rw [flB, if_pos y]; rfl
        rw [this, List.append_nil]
      · rw [if_pos ⟨by unfold kp; simp at y ⊢; exact ⟨z.1, y⟩, z.2⟩]
        have : flB B [n] = [n] := by rw [flB, if_neg y]; rfl
        rw [this]
    · rw [if_neg (fun u => z ⟨by have := u.1; unfold kp at this; simp at this; exact this.1, u.2⟩), if_neg (fun u => z ⟨by have := u.1; rw [k0] at this; simpa using this, u.2⟩), ih]
theorem SL_fl (c : Co) (B : Nat) : SL c B = flB B (SL c 0) := sLn_fl c B 0 _
theorem LL_fl (c : Co) (B : Nat) : LL c B = flB B (LL c 0) := sLn_fl c B 2 _
theorem sLn_inc (c : Co) (B : Nat) (w : Int) : ∀ (n q x : Nat), q < x → x < (sLn c B w n).length → (sLn c B w n).getD q 0 < (sLn c B w n).getD x 0
  | 0, q, x, _, h => by cases h
  | n + 1, q, x, h1, h2 => by
    rw [sLn] at h2 ⊢
    by_cases z : kp c B n = true ∧ c 24 n = w
    · rw [if_pos z] at h2 ⊢
      rw [List.length_append] at h2
      have h3 : x < (sLn c B w n).length + 1 := h2
      by_cases e : x < (sLn c B w n).length
      · rw [getD_l e, getD_l (by omega)]
        exact sLn_inc c B w n q x h1 e
      · have e2 : x = (sLn c B w n).length := by omega
        rw [e2, getD_r, getD_l (by omega)]
        exact (sLn_at c B w n q (by omega)).1
    · rw [if_neg z] at h2 ⊢
      exact sLn_inc c B w n q x h1 h2
theorem PM_bit {c : Co} {B q : Nat} : (PM c B).testBit q = true ↔ (PM c 0).testBit q = true ∧ B.testBit q = false := by
  unfold PM
  rw [mb_bit, mb_bit]
  unfold pmk kp
  rw [Nat.zero_testBit]
  simp only [Bool.and_eq_true, decide_eq_true_eq, Bool.not_eq_true', Bool.not_false, Bool.and_true]
  constructor
  · rintro ⟨a, ⟨⟨b, d⟩, e⟩⟩
    exact ⟨⟨a, b, e⟩, d⟩
  · rintro ⟨⟨a, b, e⟩, d⟩
    exact ⟨a, ⟨b, d⟩, e⟩
/-- the weight of a set of traces: 256 and its bit for each -/
noncomputable def cs (p : Nat → Prop) : Nat → Int
  | 0 => 0
  | n + 1 => cs p n + @ite Int (p n) (Classical.propDecidable _) (256 + ((2 ^ n : Nat) : Int)) 0
theorem cs_le2 {p q r : Nat → Prop} : ∀ n, (∀ x, x < n → ¬ (p x ∧ q x)) → (∀ x, x < n → p x ∨ q x → r x) → cs p n + cs q n ≤ cs r n
  | 0, _, _ => by show (0 : Int) + 0 ≤ 0; omega
  | n + 1, h1, h2 => by
    have ih := cs_le2 n (fun x hx => h1 x (by omega)) (fun x hx => h2 x (by omega))
    have a := h1 n (by omega)
    have b := h2 n (by omega)
    rw [cs, cs, cs]
    by_cases z : p n
    · rw [if_pos z, if_neg (fun w => a ⟨z, w⟩), if_pos (b (Or.inl z))]
      omega
    · rw [if_neg z]
      by_cases y : q n
      · rw [if_pos y, if_pos (b (Or.inr y))]; omega
      · have h0 : (0 : Int) ≤ ((2 ^ n : Nat) : Int) := Int.natCast_nonneg _
        rw [if_neg y]
        split <;> omega
theorem cs_eq2 {p q r : Nat → Prop} : ∀ n, (∀ x, x < n → ¬ (p x ∧ q x)) → (∀ x, x < n → (r x ↔ p x ∨ q x)) → cs r n = cs p n + cs q n
  | 0, _, _ => by show (0 : Int) = 0 + 0; omega
  | n + 1, h1, h2 => by
    have ih := cs_eq2 n (fun x hx => h1 x (by omega)) (fun x hx => h2 x (by omega))
    have a := h1 n (by omega)
    have b := h2 n (by omega)
    rw [cs, cs, cs]
    by_cases z : p n
    · rw [if_pos z, if_neg (fun w => a ⟨z, w⟩), if_pos (b.mpr (Or.inl z))]
      omega
    · rw [if_neg z]
      by_cases y : q n
      · rw [if_pos y, if_pos (b.mpr (Or.inr y))]; omega
      · rw [if_neg y, if_neg (fun w => (b.mp w).elim z y)]; omega
theorem cs_mono {p r : Nat → Prop} {n : Nat} (h : ∀ x, x < n → p x → r x) : cs p n ≤ cs r n := by
  have h1 := cs_le2 (p := p) (q := fun _ => False) (r := r) n (fun x _ w => w.2) (fun x hx w => w.elim (h x hx) False.elim)
  have h2 : ∀ m, cs (fun _ => False) m = 0 := by
    intro m
    induction m with
    | zero => rfl
    | succ m ih => rw [cs, ih, if_neg id]; omega
  rw [h2] at h1
  omega
def csb (p : Nat → Bool) : Nat → Int
  | 0 => 0
  | n + 1 => csb p n + (if p n then 256 + ((2 ^ n : Nat) : Int) else 0)
theorem cs_csb {p : Nat → Bool} : ∀ n, cs (fun q => p q = true) n = csb p n
  | 0 => rfl
  | n + 1 => by
    rw [cs, csb, cs_csb n]
    by_cases z : p n = true
    · rw [if_pos z, if_pos z]
    · rw [if_neg z, if_neg z]
theorem csb_n : ∀ m, m < 256 → csb (fun q => m.testBit q) 8 = (bc m : Int) * 256 + (m : Int) := by decide +kernel
/-- the weight of a set of bits -/
noncomputable abbrev csm (m : Nat) : Int := cs (fun q => m.testBit q = true) 8
theorem csm_n {m : Nat} (h : m < 256) : csm m = (bc m : Int) * 256 + (m : Int) := (cs_csb 8).trans (csb_n m h)
theorem chg5 {v : Int} {m : Nat} (hv : 0 ≤ v) (hm : m < 256) : chg 5 v m = v + csm m := by
  rw [csm_n hm]
  unfold chg
  by_cases z : m = 0
  · subst z
    rw [if_pos (Or.inr rfl)]
    have : bc 0 = 0 := by decide
    rw [this]
    omega
  · rw [if_neg (by omega), if_pos rfl]
    omega
theorem chg5n {v : Int} {m : Nat} (hv : v < 0) : chg 5 v m = v := by
  unfold chg
  rw [if_pos (Or.inl hv)]
theorem jn5 {a b : Int} (ha : -1 ≤ a) (hb : -1 ≤ b) : (0 ≤ a → 0 ≤ jn 5 a b ∧ jn 5 a b ≤ a) ∧ (0 ≤ b → 0 ≤ jn 5 a b ∧ jn 5 a b ≤ b) ∧ (0 ≤ jn 5 a b → (0 ≤ a ∧ jn 5 a b = a) ∨ (0 ≤ b ∧ jn 5 a b = b)) := by
  unfold jn
  rw [if_neg (by omega : ¬ (5 : Nat) = 4), if_neg (by omega : ¬ ((5 : Nat) = 1 ∨ (5 : Nat) = 3))]
  split <;> omega
theorem jn4s {a b : Int} (ha : -1 ≤ a) (hb : -1 ≤ b) : 0 ≤ jn 4 a b ↔ 0 ≤ a ∨ 0 ≤ b := by
  unfold jn
  rw [if_pos (by omega : (4 : Nat) = 4)]
  split <;> omega
theorem chg4s {v : Int} {m : Nat} (hv : -1 ≤ v) : 0 ≤ chg 4 v m ↔ 0 ≤ v ∧ m = 0 := by
  unfold chg
  rw [if_neg (by omega : ¬ (4 : Nat) = 5)]
  split <;> omega
