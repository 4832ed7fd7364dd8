/-! the words that every method has: the good ones of the tables -/
def WT : List Cond := lw_tbl.filter goodWord
theorem wt_in {w : Cond} (h : w ∈ lw_tbl) (g : goodWord w = true) : w ∈ WT := List.mem_filter.mpr ⟨h, g⟩
theorem wt_at {w : Cond} (k : Nat) (h : tables_1[k]? = some w) (g : goodWord w = true) : w ∈ WT := wt_in (List.mem_append_right _ (List.mem_of_getElem? h)) g
theorem wt_sel {w : Cond} (k : Nat) (h : (k2_sels lw_privs)[k]? = some w) (g : goodWord w = true) : w ∈ WT := wt_in (List.mem_append_left _ (List.mem_of_getElem? h)) g
theorem wt_good : GoodIn WT WT := fun w h => ⟨h, good_of_word (List.mem_filter.mp h).2⟩
/-! the memory: numbers by kind of cell, which of two, and place -/
abbrev Mm : Type := (Nat → Bool → Nat → Int32) × (Nat → Bool → Nat → Int64)
def gI (σ : Mm) (r : Nat) (i : Bool) (j : Nat) : Int32 := σ.1 r i j
def gL (σ : Mm) (r : Nat) (i : Bool) (j : Nat) : Int64 := σ.2 r i j
def sI (σ : Mm) (r : Nat) (i : Bool) (j : Nat) (v : Int32) : Mm := (fun r' i' j' => if r' = r ∧ i' = i ∧ j' = j then v else σ.1 r' i' j', σ.2)
def sL (σ : Mm) (r : Nat) (i : Bool) (j : Nat) (v : Int64) : Mm := (σ.1, fun r' i' j' => if r' = r ∧ i' = i ∧ j' = j then v else σ.2 r' i' j')
theorem gI_sI (σ : Mm) (r : Nat) (i : Bool) (j : Nat) (v : Int32) (r' : Nat) (i' : Bool) (j' : Nat) : gI (sI σ r i j v) r' i' j' = if r' = r ∧ i' = i ∧ j' = j then v else gI σ r' i' j' := rfl
theorem gI_sL (σ : Mm) (r : Nat) (i : Bool) (j : Nat) (v : Int64) (r' : Nat) (i' : Bool) (j' : Nat) : gI (sL σ r i j v) r' i' j' = gI σ r' i' j' := rfl
theorem gL_sI (σ : Mm) (r : Nat) (i : Bool) (j : Nat) (v : Int32) (r' : Nat) (i' : Bool) (j' : Nat) : gL (sI σ r i j v) r' i' j' = gL σ r' i' j' := rfl
theorem gL_sL (σ : Mm) (r : Nat) (i : Bool) (j : Nat) (v : Int64) (r' : Nat) (i' : Bool) (j' : Nat) : gL (sL σ r i j v) r' i' j' = if r' = r ∧ i' = i ∧ j' = j then v else gL σ r' i' j' := rfl
theorem Mm_ext {σ τ : Mm} (h1 : ∀ r i j, gI σ r i j = gI τ r i j) (h2 : ∀ r i j, gL σ r i j = gL τ r i j) : σ = τ := by
  obtain ⟨a, b⟩ := σ
  obtain ⟨c, d⟩ := τ
  have e1 : a = c := funext fun r => funext fun i => funext fun j => h1 r i j
  have e2 : b = d := funext fun r => funext fun i => funext fun j => h2 r i j
  rw [e1, e2]
/-! the places: addresses, tables, array classes, texts -/
abbrev Cx : Type := (Nat → Bool → Nat) × va_G × (Nat → ClassId) × (Nat → Nat) × (Nat → Nat)
def rf (G : Cx) (r : Nat) (i : Bool) : Value := .ref (G.1 r i)
def sf (G : Cx) (k : Nat) : Value := .ref (G.2.2.2.1 k)
abbrev vwCl : List vw_C := [(RX0, TX0, 14), (RX1, TX1, 8), (RX2, TX2, 11), (RX3, TX3, 10), (RX4, TX4, 13), (RX5, TX5, 6), (RX6, TX6, 8), (RX7, TX7, 50)]
def NR : Nat := 75
def dblL : List Bool := [true, true, true, false, true, false, false, false, false, false, true, true, true, true, true, true, true, true, true, true, true, true, true, true, true, true, true, true, true, true, false, false, false, true, true, true, true, false, false, false, false, false, false, false, false, false, false, false, false, false, false, false, false, false, false, false, false, false, false, false, false, false, false, false, false, false, false, false, false, false, false, false, false, false, false]
def arKL : List Nat := [0, 0, 0, 0, 0, 0, 0, 0, 0, 0, 1, 1, 1, 1, 1, 1, 1, 1, 2, 1, 1, 1, 1, 1, 1, 1, 1, 1, 2, 2, 4, 4, 1, 1, 1, 1, 1, 1, 1, 1, 2, 3, 3, 4, 1, 4, 1, 1, 1, 1, 1, 1, 1, 1, 1, 1, 1, 1, 1, 1, 1, 1, 2, 1, 1, 1, 1, 1, 1, 1, 1, 1, 2, 1, 2]
def arNL : List Nat := [0, 0, 0, 0, 0, 0, 0, 0, 0, 0, 4, 8, 8, 16, 16, 16, 16, 16, 16, 16, 16, 97, 4, 96, 8, 8, 8, 8, 8, 8, 4, 8, 53504, 256, 97, 6, 2, 20, 20, 97, 97, 500, 500, 4, 4, 8, 8, 8, 96, 4, 8, 8, 96, 2, 2, 2, 2, 16, 16, 16, 16, 16, 16, 20, 20, 6, 97, 2, 2, 2, 108640, 108640, 108640, 97, 97]
def dbl (r : Nat) : Bool := dblL.getD r false
def arK (r : Nat) : Nat := arKL.getD r 0
def arN (r : Nat) : Nat := arNL.getD r 0
def okC (r : Nat) (i : Bool) : Bool := decide (r < NR) && (decide (r < 8) || decide (10 ≤ r)) && (dbl r || !i)
def cls0 : List (Nat × Bool) := [(0, false), (0, true), (1, false), (1, true), (2, false), (2, true), (3, false), (4, false), (4, true), (5, false), (6, false), (7, false), (10, false), (10, true), (11, false), (11, true), (12, false), (12, true), (13, false), (13, true), (14, false), (14, true), (15, false), (15, true), (16, false), (16, true), (17, false), (17, true), (18, false), (18, true), (19, false), (19, true), (20, false), (20, true), (21, false), (21, true), (22, false), (22, true), (23, false), (23, true), (24, false), (24, true), (25, false), (25, true), (26, false), (26, true), (27, false), (27, true), (28, false), (28, true), (29, false), (29, true), (30, false), (31, false), (32, false), (33, false), (33, true), (34, false), (34, true), (35, false), (35, true), (36, false), (36, true), (37, false), (38, false), (39, false), (40, false), (41, false), (42, false), (43, false), (44, false), (45, false), (46, false), (47, false), (48, false), (49, false), (50, false), (51, false), (52, false), (53, false), (54, false), (55, false), (56, false), (57, false), (58, false), (59, false), (60, false), (61, false), (62, false), (63, false), (64, false), (65, false), (66, false), (67, false), (68, false), (69, false), (70, false), (71, false), (72, false), (73, false), (74, false)]
theorem cls0_all : ∀ r, r < NR → ∀ i : Bool, okC r i = true → (r, i) ∈ cls0 := by decide +kernel
theorem cls0_ok : ∀ q ∈ cls0, okC q.1 q.2 = true := by decide +kernel
theorem cls0_nd : cls0.Nodup := by decide +kernel
theorem okC_at {r : Nat} {i : Bool} (h : okC r i = true) : ∃ k : Nat, cls0[k]? = some (r, i) := by
  have h1 : r < NR := by
    simp only [okC, Bool.and_eq_true, decide_eq_true_eq] at h
    exact h.1.1
  exact List.getElem?_of_mem (cls0_all r h1 i h)
theorem cls0_inj {j k : Nat} {q : Nat × Bool} (h1 : cls0[j]? = some q) (h2 : cls0[k]? = some q) : j = k := by
  obtain ⟨a1, e1⟩ := List.getElem?_eq_some_iff.mp h1
  obtain ⟨a2, e2⟩ := List.getElem?_eq_some_iff.mp h2
  have hp := List.pairwise_iff_getElem.mp cls0_nd
  rcases Nat.lt_trichotomy j k with h | h | h
  · exact absurd (e1.trans e2.symm) (hp j k a1 a2 h)
  · exact h
  · exact absurd (e2.trans e1.symm) (hp k j a2 a1 h)
def enO (G : Cx) (f : Nat → Int32) (g : Nat → Int64) (r : Nat) (i : Bool) : Nat × List Value := match r with
  | 0 => (0, [.int (f 0), .int (f 1), .int (f 2), rf G 10 i, rf G 11 i, rf G 12 i, rf G 13 i, rf G 14 i, rf G 15 i, rf G 16 i, rf G 17 i, rf G 18 i, rf G 19 i, rf G 20 i])
  | 1 => (1, [.int (f 0), .int (f 1), .int (f 2), .int (f 3), .int (f 4), rf G 21 i, rf G 22 i, rf G 23 i])
  | 2 => (2, [.int (f 0), .int (f 1), .int (f 2), .int (f 3), .int (f 4), rf G 24 i, rf G 25 i, rf G 26 i, rf G 27 i, rf G 28 i, rf G 29 i])
  | 3 => (3, [rf G 41 false, rf G 0 true, rf G 30 false, rf G 31 false, .int (f 4), .int (f 5), .int (f 6), .int (f 7), .int (f 8), .long (g 9)])
  | 4 => (4, [rf G 2 i, rf G 0 false, rf G 32 false, rf G 1 i, rf G 33 i, rf G 34 i, rf G 35 i, rf G 36 i, .int (f 8), .int (f 9), .int (f 10), .int (f 11), .int (f 12)])
  | 5 => (5, [.int (f 0), rf G 0 false, rf G 37 false, rf G 38 false, rf G 39 false, rf G 40 false])
  | 6 => (6, [rf G 41 false, .int (f 1), rf G 0 false, rf G 0 true, rf G 3 false, rf G 4 false, rf G 4 true, rf G 5 false])
  | _ => (7, [rf G 42 false, .int (f 1), .int (f 2), .int (f 3), .int (f 4), .long (g 5), .int (f 6), rf G 43 false, rf G 44 false, .int (f 9), rf G 45 false, rf G 46 false, rf G 47 false, .int (f 13), rf G 48 false, .int (f 15), rf G 49 false, .int (f 17), rf G 50 false, rf G 51 false, .int (f 20), rf G 52 false, rf G 53 false, rf G 54 false, rf G 55 false, rf G 56 false, rf G 57 false, rf G 58 false, rf G 59 false, rf G 60 false, rf G 61 false, rf G 62 false, .int (f 32), rf G 63 false, rf G 64 false, .int (f 35), .int (f 36), .int (f 37), rf G 65 false, rf G 66 false, .int (f 40), rf G 67 false, rf G 68 false, rf G 69 false, .int (f 44), rf G 70 false, rf G 71 false, rf G 72 false, rf G 73 false, rf G 74 false])
def en (G : Cx) (f : Nat → Int32) (g : Nat → Int64) (r : Nat) (i : Bool) : va_E := if arK r = 0 then .inr (enO G f g r i) else if arK r = 4 then .inl (G.2.2.1 4, (arN r, .inr (.inl g))) else .inl (G.2.2.1 (arK r), (arN r, .inl f))
def wW (G : Cx) (σ : Mm) : va_W := cls0.map fun q => (G.1 q.1 q.2, en G (gI σ q.1 q.2) (gL σ q.1 q.2) q.1 q.2)
theorem wW_at {G : Cx} {σ : Mm} {k r : Nat} {i : Bool} (h : cls0[k]? = some (r, i)) : (wW G σ)[k]? = some (G.1 r i, en G (gI σ r i) (gL σ r i) r i) := by
  rw [wW, List.getElem?_map, h]
  rfl
theorem wW_of {G : Cx} {σ : Mm} {k : Nat} {q : Nat × va_E} (h : (wW G σ)[k]? = some q) : ∃ r i, cls0[k]? = some (r, i) ∧ q = (G.1 r i, en G (gI σ r i) (gL σ r i) r i) := by
  rw [wW, List.getElem?_map] at h
  cases hk : cls0[k]? with
  | none => rw [hk] at h; cases h
  | some z =>
    obtain ⟨r, i⟩ := z
    rw [hk] at h
    cases h
    exact ⟨r, i, rfl, rfl⟩
theorem wW_set {G : Cx} {σ τ : Mm} {k r : Nat} {i : Bool} (h : cls0[k]? = some (r, i)) (hI : ∀ r' i', ¬ (r' = r ∧ i' = i) → gI τ r' i' = gI σ r' i') (hL : ∀ r' i', ¬ (r' = r ∧ i' = i) → gL τ r' i' = gL σ r' i') : (wW G σ).set k (G.1 r i, en G (gI τ r i) (gL τ r i) r i) = wW G τ := by
  refine List.ext_getElem? fun j => ?_
  have hlen : k < (wW G σ).length := (List.getElem?_eq_some_iff.mp (wW_at (G := G) (σ := σ) h)).1
  by_cases hj : j = k
  · subst hj
    rw [List.getElem?_set_self hlen, wW_at h]
  · rw [List.getElem?_set_ne (Ne.symm hj)]
    cases hc : cls0[j]? with
    | none => rw [wW, wW, List.getElem?_map, List.getElem?_map, hc]; rfl
    | some z =>
      obtain ⟨r', i'⟩ := z
      have hne : ¬ (r' = r ∧ i' = i) := by
        rintro ⟨rfl, rfl⟩
        exact hj (cls0_inj hc h)
      rw [wW_at hc, wW_at hc, hI r' i' hne, hL r' i' hne]
def wA (G : Cx) : Nat → Prop := fun q => ∃ r i, okC r i = true ∧ G.1 r i = q
def inj (G : Cx) : Prop := ∀ r i r' i', okC r i = true → okC r' i' = true → G.1 r i = G.1 r' i' → r = r' ∧ i = i'
def tyG (G : Cx) : List (ClassId × FieldType) := [(G.2.2.1 0, .int), (G.2.2.1 1, .int), (G.2.2.1 2, .boolean), (G.2.2.1 3, .byte), (G.2.2.1 4, .long)]
theorem wW_D {G : Cx} {σ : Mm} {A : Nat → Prop} (h : inj G) (hA : ∀ q, wA G q → A q) : va_D A (wW G σ) := by
  refine ⟨fun a b x y hx hy e => ?_, fun k q hk => ?_⟩
  · obtain ⟨r, i, h1, rfl⟩ := wW_of hx
    obtain ⟨r', i', h2, rfl⟩ := wW_of hy
    obtain ⟨rfl, rfl⟩ := h r i r' i' (cls0_ok _ (List.mem_of_getElem? h1)) (cls0_ok _ (List.mem_of_getElem? h2)) e
    exact cls0_inj h1 h2
  · obtain ⟨r, i, h1, rfl⟩ := wW_of hk
    exact hA _ ⟨r, i, cls0_ok _ (List.mem_of_getElem? h1), rfl⟩
def stL : List (List Int32) := [[108, 97, 110, 100], [116, 111, 119, 110], [105, 110], [111, 117, 116], [98, 111, 116, 104], [110, 111, 110, 101], [111, 102], [112, 108, 117, 115], [109, 105, 110, 117, 115], [114, 117, 110], [115, 97, 105, 108], [97, 116], [102, 111, 114], [99, 111, 115, 116]]
def stB (k : Nat) : List Int32 := stL.getD k []
def stN (k : Nat) : Nat := (stB k).length
def stW : List (String × Nat × String × Nat) := [(RX3, 60, "land", 0), (RX3, 139, "in", 2), (RX3, 141, "out", 3), (RX3, 143, "both", 4), (RX3, 145, "none", 5), (RX3, 69, "town", 1), (RX3, 100, "of", 6), (RX3, 108, "plus", 7), (RX3, 110, "minus", 8), (RX3, 74, "run", 9), (RX3, 80, "sail", 10), (RX3, 129, "at", 11), (RX3, 131, "for", 12), (RX3, 133, "cost", 13), (RX7, 161, "land", 0), (RX7, 167, "town", 1), (RX7, 169, "in", 2), (RX7, 170, "out", 3), (RX7, 172, "both", 4), (RX7, 174, "none", 5), (RX7, 176, "of", 6), (RX7, 178, "plus", 7), (RX7, 180, "minus", 8), (RX7, 182, "run", 9), (RX7, 184, "sail", 10), (RX7, 186, "at", 11), (RX7, 187, "for", 12), (RX7, 189, "cost", 13)]
def Sg (G : Cx) (A : Nat → Prop) (U : State) (H : Heap) : Prop :=
  (∀ k : Nat, k < 14 → va_O "java/lang/String" (G.2.2.2.1 k) A U H ∧ va_OF "java/lang/String" "coder" "B" (.int 0) (G.2.2.2.1 k) A U H ∧ va_OF "java/lang/String" "value" "[B" (.ref (G.2.2.2.2 k)) (G.2.2.2.1 k) A U H ∧ va_T .byte (G.2.2.2.2 k) (stN k) (fun j => .int ((stB k).getD j 0)) A U H) ∧
  (va_Z "java/lang/String" "COMPACT_STRINGS" "Z" (.int 1) A U H ∧ va_Zq "jdk/internal/util/Preconditions" "SIOOBE_FORMATTER" "Ljava/util/function/BiFunction;" A U H) ∧ ∀ q ∈ stW, vk_R q.1 q.2.1 q.2.2.1 (G.2.2.2.1 q.2.2.2) U
theorem Sg.warm {G : Cx} {A B : Nat → Prop} {s U : State} {H H1 : Heap} (hW : s.WarmedH U.vm) (hq : ∀ a : Nat, a < H.size → ¬ A a → H1[a]? = H[a]?) (hAB : ∀ q, B q → A q) (h : Sg G A s H) : Sg G B U H1 := by
  have hv : s.vm.Alike U.vm := hW.alike
  refine ⟨fun k hk => ?_, ?_, fun q hm => (h.2.2 q hm).warm hW⟩
  · obtain ⟨h1, h2, h3, h4⟩ := h.1 k hk
    exact ⟨((va_O.moved hv h1).kept hq).narrow hAB, ((va_OF.moved hv h2).kept hq).narrow hAB, ((va_OF.moved hv h3).kept hq).narrow hAB, ((va_T.moved hv h4).kept hq).narrow hAB⟩
  · exact ⟨((va_Z.moved hv h.2.1.1).kept hq).narrow hAB, ((va_Zq.moved hv h.2.1.2).kept hq).narrow hAB⟩
theorem Sg.same {G : Cx} {A : Nat → Prop} {s U : State} {H : Heap} (hv : U.vm = s.vm) (h : Sg G A s H) : Sg G A U H := by
  have hw : s.vm.Alike U.vm := by rw [hv]; exact Vm.Alike.refl _
  refine ⟨fun k hk => ?_, ⟨va_Z.moved hw h.2.1.1, va_Zq.moved hw h.2.1.2⟩, fun q hm => (h.2.2 q hm).same hv⟩
  obtain ⟨h1, h2, h3, h4⟩ := h.1 k hk
  exact ⟨va_O.moved hw h1, va_OF.moved hw h2, va_OF.moved hw h3, va_T.moved hw h4⟩
def Wd (G : Cx) (σ : Mm) (U : State) : Prop := va_P G.2.1 vwCl (wW G σ) U.heap ∧ va_K G.2.1 vwCl (tyG G) U ∧ inj G ∧ Sg G (wA G) U U.heap
/-! a method, an activation -/
abbrev Yd : Type := String × MethodName × ByteArray × Nat × Option FieldType × Nat × Nat
abbrev Ab : Type := Program × Launch × Env × Room × State × MethodId × Array Value × List Frame × Method × Code × (Nat × Nat) × (State → Prop) × (Nat → Prop)
abbrev yO (y : Yd) : String := y.1
abbrev yN (y : Yd) : MethodName := y.2.1
abbrev yC (y : Yd) : ByteArray := y.2.2.1
abbrev yL (y : Yd) : Nat := y.2.2.2.1
abbrev yT (y : Yd) : Option FieldType := y.2.2.2.2.1
abbrev yF (y : Yd) : Nat := y.2.2.2.2.2.1
abbrev yW (y : Yd) : Nat := y.2.2.2.2.2.2
abbrev yR (y : Yd) : Room := { frames := yF y, cells := 0, slots := 0, locals := yW y }
abbrev yWs (y : Yd) : List Cond := Cond.code (yN y) (yC y) (yL y) (yT y) :: WT
abbrev bR (b : Ab) : Room := b.2.2.2.1
abbrev bS (b : Ab) : State := b.2.2.2.2.1
abbrev bM (b : Ab) : MethodId := b.2.2.2.2.2.1
abbrev bX (b : Ab) : Array Value := b.2.2.2.2.2.2.1
abbrev bW (b : Ab) : List Frame := b.2.2.2.2.2.2.2.1
abbrev bT (b : Ab) : Method := b.2.2.2.2.2.2.2.2.1
abbrev bC (b : Ab) : Code := b.2.2.2.2.2.2.2.2.2.1
abbrev bN (b : Ab) : Nat × Nat := b.2.2.2.2.2.2.2.2.2.2.1
abbrev bQ (b : Ab) : State → Prop := b.2.2.2.2.2.2.2.2.2.2.2.1
abbrev bA (b : Ab) : Nat → Prop := b.2.2.2.2.2.2.2.2.2.2.2.2
abbrev Wb (b : Ab) (H : Heap) (locs : List Loc) (g : JFrame) : Prop := W b.1 b.2.1 b.2.2.1 (bR b) (bS b) (bM b) (bX b) (bW b) (bT b) (bC b) H locs (bN b).1 (bN b).2 (bQ b) g
def Gd (y : Yd) (G : Cx) (b : Ab) : Prop :=
  b.1.tables.exec = Jvm.exec ∧ (bC b).code = yC y ∧ (bC b).maxLocals = yL y ∧ (bS b).vm.findClass (yO y) = some (bM b).cls ∧ (∀ w ∈ WT, w.before (bX b) (bS b) = true) ∧ va_K G.2.1 vwCl (tyG G) (bS b) ∧ inj G ∧ (∀ q, wA G q → bA b q) ∧ Sg G (bA b) (bS b) (bS b).heap ∧ (bT b).locks = false ∧ yF y ≤ (bR b).frames ∧ yW y ≤ (bR b).locals ∧ (bN b).1 ≤ (bR b).cells ∧ (bN b).2 ≤ (bR b).slots
def Lc (la : Array Slot) (n : Nat) (ls : List (Option Value)) : Prop := la.size = n ∧ lv_wf la ∧ ∀ (k : Nat) (v : Value), ls[k]? = some (some v) → la[k]? = some (.val v)
def At (y : Yd) (G : Cx) (b : Ab) (pc : Nat) (ls : List (Option Value)) (st : List Value) (σ : Mm) : Prop :=
  Gd y G b → ∀ (H : Heap) (locs : List Loc) (la : Array Slot), va_P G.2.1 vwCl (wW G σ) H → va_S (bA b) (bS b).heap H locs → Lc la (yL y) ls → Wb b H locs (F0 (bM b) pc la st)
def Qc (G : Cx) (r : Option Value) (σ : Mm) : Array Value → State → Outcome → State → Prop := fun _ st oc t => oc = .returned r ∧ va_P G.2.1 vwCl (wW G σ) t.heap ∧ va_F (wA G) st t
def Spec (y : Yd) (G : Cx) (av : List Value) (σ : Mm) (r : Option Value) (τ : Mm) : Prop := ∀ l : Launch, Met l (yN y) (yWs y) (yR y) (va_Pc av (Wd G σ)) (Qc G r τ) 0 0 (wA G)
/-- the end that is wanted of an activation -/
def Fi (y : Yd) (G : Cx) (b : Ab) (r : Option Value) (τ : Mm) : Prop := bQ b = MQ (bW b) (Qc G r τ) (bX b) (bS b) 0 0 (wA G) ∧ bA b = wA G ∧ bN b = (0, 0) ∧ (bT b).sig.returnType = yT y
