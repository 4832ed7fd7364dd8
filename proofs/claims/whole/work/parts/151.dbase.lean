/-! PURE: numbers, memory, the words of the turned methods (no machine here) -/
abbrev Mi : Type := (Nat → Bool → Nat → Int) × (Nat → Bool → Nat → Int)
def rd (μ : Mi) (r : Nat) (i : Bool) (j : Nat) : Int := μ.1 r i j
def rl (μ : Mi) (r : Nat) (i : Bool) (j : Nat) : Int := μ.2 r i j
def wr (μ : Mi) (r : Nat) (i : Bool) (j : Nat) (v : Int) : Mi := (fun r' i' j' => if r' = r ∧ i' = i ∧ j' = j then v else μ.1 r' i' j', μ.2)
def wl (μ : Mi) (r : Nat) (i : Bool) (j : Nat) (v : Int) : Mi := (μ.1, fun r' i' j' => if r' = r ∧ i' = i ∧ j' = j then v else μ.2 r' i' j')
theorem rd_wr (μ : Mi) (r : Nat) (i : Bool) (j : Nat) (v : Int) (r' : Nat) (i' : Bool) (j' : Nat) : rd (wr μ r i j v) r' i' j' = if r' = r ∧ i' = i ∧ j' = j then v else rd μ r' i' j' := rfl
theorem rd_wl (μ : Mi) (r : Nat) (i : Bool) (j : Nat) (v : Int) (r' : Nat) (i' : Bool) (j' : Nat) : rd (wl μ r i j v) r' i' j' = rd μ r' i' j' := rfl
theorem rl_wr (μ : Mi) (r : Nat) (i : Bool) (j : Nat) (v : Int) (r' : Nat) (i' : Bool) (j' : Nat) : rl (wr μ r i j v) r' i' j' = rl μ r' i' j' := rfl
theorem rl_wl (μ : Mi) (r : Nat) (i : Bool) (j : Nat) (v : Int) (r' : Nat) (i' : Bool) (j' : Nat) : rl (wl μ r i j v) r' i' j' = if r' = r ∧ i' = i ∧ j' = j then v else rl μ r' i' j' := rfl
theorem rd_o {μ : Mi} {r : Nat} {i : Bool} {j : Nat} {v : Int} {r' : Nat} {i' : Bool} {j' : Nat} (h : r' ≠ r) : rd (wr μ r i j v) r' i' j' = rd μ r' i' j' := by rw [rd_wr, if_neg (fun q => h q.1)]
theorem rd_ob {μ : Mi} {r : Nat} {i : Bool} {j : Nat} {v : Int} {r' : Nat} {i' : Bool} {j' : Nat} (h : i' ≠ i) : rd (wr μ r i j v) r' i' j' = rd μ r' i' j' := by rw [rd_wr, if_neg (fun q => h q.2.1)]
theorem rd_oj {μ : Mi} {r : Nat} {i : Bool} {j : Nat} {v : Int} {r' : Nat} {i' : Bool} {j' : Nat} (h : j' ≠ j) : rd (wr μ r i j v) r' i' j' = rd μ r' i' j' := by rw [rd_wr, if_neg (fun q => h q.2.2)]
theorem rd_s {μ : Mi} {r : Nat} {i : Bool} {j : Nat} {v : Int} : rd (wr μ r i j v) r i j = v := by rw [rd_wr, if_pos ⟨rfl, rfl, rfl⟩]
theorem rl_o {μ : Mi} {r : Nat} {i : Bool} {j : Nat} {v : Int} {r' : Nat} {i' : Bool} {j' : Nat} (h : r' ≠ r) : rl (wl μ r i j v) r' i' j' = rl μ r' i' j' := by rw [rl_wl, if_neg (fun q => h q.1)]
theorem rl_oj {μ : Mi} {r : Nat} {i : Bool} {j : Nat} {v : Int} {r' : Nat} {i' : Bool} {j' : Nat} (h : j' ≠ j) : rl (wl μ r i j v) r' i' j' = rl μ r' i' j' := by rw [rl_wl, if_neg (fun q => h q.2.2)]
theorem rl_s {μ : Mi} {r : Nat} {i : Bool} {j : Nat} {v : Int} : rl (wl μ r i j v) r i j = v := by rw [rl_wl, if_pos ⟨rfl, rfl, rfl⟩]
/-- n cells of the role r are taken over from the other of two (true) to the first (false) -/
def cpy (μ : Mi) (r n : Nat) : Mi := (fun r' i' j' => if r' = r ∧ i' = false ∧ j' < n then μ.1 r true j' else μ.1 r' i' j', μ.2)
theorem rd_cpy (μ : Mi) (r n : Nat) (r' : Nat) (i' : Bool) (j' : Nat) : rd (cpy μ r n) r' i' j' = if r' = r ∧ i' = false ∧ j' < n then rd μ r true j' else rd μ r' i' j' := rfl
theorem rl_cpy (μ : Mi) (r n : Nat) (r' : Nat) (i' : Bool) (j' : Nat) : rl (cpy μ r n) r' i' j' = rl μ r' i' j' := rfl
theorem rd_cr {μ : Mi} {r n r' : Nat} {i' : Bool} {j' : Nat} (h : r' ≠ r) : rd (cpy μ r n) r' i' j' = rd μ r' i' j' := by rw [rd_cpy, if_neg (fun q => h q.1)]
theorem rd_ct {μ : Mi} {r n r' j' : Nat} : rd (cpy μ r n) r' true j' = rd μ r' true j' := by rw [rd_cpy, if_neg (fun q => by cases q.2.1)]
def w32 (x : Int) : Int := (Int32.ofInt x).toInt
def w64 (x : Int) : Int := (Int64.ofInt x).toInt
def ix (x : Int) : Nat := (w32 x).toNat
def iand (a b : Int) : Int := (Int32.ofInt a &&& Int32.ofInt b).toInt
def ior (a b : Int) : Int := (Int32.ofInt a ||| Int32.ofInt b).toInt
def ixor (a b : Int) : Int := (Int32.ofInt a ^^^ Int32.ofInt b).toInt
def ishl (a b : Int) : Int := (Int32.ofInt a <<< (Int32.ofInt b &&& 31)).toInt
def ishr (a b : Int) : Int := (Int32.ofInt a >>> (Int32.ofInt b &&& 31)).toInt
def iushr (a b : Int) : Int := (((Int32.ofInt a).toUInt32 >>> ((Int32.ofInt b).toUInt32 &&& Int32.toUInt32 31)).toInt32).toInt
def idiv (a b : Int) : Int := (Int32.ofInt a / Int32.ofInt b).toInt
def irem (a b : Int) : Int := (Int32.ofInt a - Int32.ofInt a / Int32.ofInt b * Int32.ofInt b).toInt
def i2b (a : Int) : Int := ((Int32.ofInt a).toInt8.toInt32).toInt
def lshl (a b : Int) : Int := (Int64.ofInt a <<< ((Int32.ofInt b).toInt64 &&& 63)).toInt
def lor (a b : Int) : Int := (Int64.ofInt a ||| Int64.ofInt b).toInt
def lcmp (a b : Int) : Int := if w64 b < w64 a then 1 else if w64 a = w64 b then 0 else -1
abbrev isB (x : Int) : Prop := w32 x = 0 ∨ w32 x = 1
def allB (μ : Mi) (r n : Nat) : Bool := (List.range n).all fun j => decide (isB (rd μ r true j))
theorem allB_at {μ : Mi} {r n : Nat} (h : allB μ r n = true) (j : Nat) (hj : j < n) : isB (rd μ r true j) := by
  have := List.all_eq_true.mp h j (List.mem_range.mpr hj)
  simpa using this
theorem allB_of {μ : Mi} {r n : Nat} (h : ∀ j, j < n → isB (rd μ r true j)) : allB μ r n = true := by
  refine List.all_eq_true.mpr fun j hj => ?_
  have := h j (List.mem_range.mp hj)
  simpa using this
def lp {α : Type} (F : α → α) (z : α) : Nat → α
  | 0 => z
  | n + 1 => F (lp F z n)
theorem lp_s {α : Type} (F : α → α) (z : α) (n : Nat) : lp F z (n + 1) = F (lp F z n) := rfl
def FU : Nat := 1000000
def bd {α : Type} (o : Option (Int × Mi)) (k : Int → Mi → Option α) : Option α := match o with
  | some q => k q.1 q.2
  | none => none
def bm {α : Type} (o : Option Mi) (k : Mi → Option α) : Option α := match o with
  | some q => k q
  | none => none
def bp {α : Type} (o : Option Int) (k : Int → Option α) : Option α := match o with
  | some q => k q
  | none => none
theorem bd_k {α : Type} (a : Int) (m : Mi) (k : Int → Mi → Option α) : bd (some (a, m)) k = k a m := rfl
theorem bm_k {α : Type} (m : Mi) (k : Mi → Option α) : bm (some m) k = k m := rfl
theorem bp_k {α : Type} (a : Int) (k : Int → Option α) : bp (some a) k = k a := rfl
theorem bd_some {α : Type} {o : Option (Int × Mi)} {k : Int → Mi → Option α} {z : α} (h : bd o k = some z) : ∃ a m, o = some (a, m) ∧ k a m = some z := by
  cases o with
  | none => cases h
  | some q => exact ⟨q.1, q.2, rfl, h⟩
theorem bm_some {α : Type} {o : Option Mi} {k : Mi → Option α} {z : α} (h : bm o k = some z) : ∃ m, o = some m ∧ k m = some z := by
  cases o with
  | none => cases h
  | some q => exact ⟨q, rfl, h⟩
theorem bp_some {α : Type} {o : Option Int} {k : Int → Option α} {z : α} (h : bp o k = some z) : ∃ a, o = some a ∧ k a = some z := by
  cases o with
  | none => cases h
  | some q => exact ⟨q, rfl, h⟩
theorem ifp {α : Type} {c : Prop} [Decidable c] {x y z : α} (hc : c) (h : (if c then x else y) = z) : x = z := by rw [if_pos hc] at h; exact h
theorem ifn {α : Type} {c : Prop} [Decidable c] {x y z : α} (hc : ¬ c) (h : (if c then x else y) = z) : y = z := by rw [if_neg hc] at h; exact h
theorem ift {α : Type} {c : Prop} [Decidable c] {x : Option α} {z : α} (h : (if c then x else none) = some z) : c ∧ x = some z := by
  by_cases hc : c
  · rw [if_pos hc] at h; exact ⟨hc, h⟩
  · rw [if_neg hc] at h; cases h
theorem ifz {α : Type} {c : Prop} [Decidable c] {x : Option α} {z : α} (h : (if c then none else x) = some z) : ¬ c ∧ x = some z := by
  by_cases hc : c
  · rw [if_pos hc] at h; cases h
  · rw [if_neg hc] at h; exact ⟨hc, h⟩
theorem nope {α : Type} {p : Prop} {x : α} (h : (none : Option α) = some x) : p := by cases h
/-- the texts -/
def stT : List (List Int) := [[108, 97, 110, 100], [116, 111, 119, 110], [105, 110], [111, 117, 116], [98, 111, 116, 104], [110, 111, 110, 101], [111, 102], [112, 108, 117, 115], [109, 105, 110, 117, 115], [114, 117, 110], [115, 97, 105, 108], [97, 116], [102, 111, 114], [99, 111, 115, 116]]
def sN (k : Nat) : Int := ((stT.getD k []).length : Int)
def sC (k j : Nat) : Int := (stT.getD k []).getD j 0
