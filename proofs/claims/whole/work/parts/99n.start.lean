/-! the law's start (made by wip/gen/start.py) -/
theorem lt_at {w : Cond} (k : Nat) (h : tables_1[k]? = some w) : w ∈ lw_tbl := List.mem_append_right _ (List.mem_of_getElem? h)
/-! the texts -/
def nfl : List Cond := flatC (Jvm.Cond.and given_1 narrow_1)
def tx3 : List Nat := [60, 69, 139, 141, 143, 145, 100, 108, 110, 74, 80, 129, 131, 133]
def tx7 : List Nat := [161, 167, 169, 170, 172, 174, 176, 178, 180, 182, 184, 186, 187, 189]
def tm3 (k : Nat) : Term := .string RX3 (tx3.getD k 0)
def tm7 (k : Nat) : Term := .string RX7 (tx7.getD k 0)
abbrev tv3 (k : Nat) : Term := .field (tm3 k) "java/lang/String" "value" "[B"
set_option maxRecDepth 100000 in
theorem tn_ex : ∀ k, k < 14 → Cond.exactly (tm3 k) "java/lang/String" ∈ nfl := by decide +kernel
set_option maxRecDepth 100000 in
theorem tn_co : ∀ k, k < 14 → Cond.eq (.field (tm3 k) "java/lang/String" "coder" "B") (.int 0) ∈ nfl := by decide +kernel
set_option maxRecDepth 100000 in
theorem tn_ar : ∀ k, k < 14 → Cond.arrayOf (tv3 k) .byte ∈ nfl := by decide +kernel
set_option maxRecDepth 100000 in
theorem tn_le : ∀ k, k < 14 → Cond.eq (.length (tv3 k)) (.int (Int32.ofNat (stN k))) ∈ nfl := by decide +kernel
set_option maxRecDepth 100000 in
theorem tn_el : ∀ k, k < 14 → ∀ j, j < stN k → Cond.eq (.elem (tv3 k) (.int (Int32.ofNat j))) (.int ((stB k).getD j 0)) ∈ nfl := by decide +kernel
set_option maxRecDepth 100000 in
theorem tn_eq : ∀ k, k < 14 → Cond.eq (tm3 k) (tm7 k) ∈ nfl := by decide +kernel
theorem tn_sN : ∀ k, k < 14 → stN k < 2 ^ 31 := by decide +kernel
theorem tn_w : ∀ q ∈ stW, q.2.2.2 < 14 ∧ ((q.1 = RX3 ∧ q.2.1 = tx3.getD q.2.2.2 0) ∨ (q.1 = RX7 ∧ q.2.1 = tx7.getD q.2.2.2 0)) := by decide +kernel
set_option maxRecDepth 100000 in
theorem tn_rf : ∀ q ∈ stW, Cond.stringRef q.1 q.2.1 q.2.2.1 ∈ tables_1 := by decide +kernel
theorem eqR {args : Array Value} {s : State} {t u : Term} {a : Nat} (h : (Cond.eq t u).before args s = true) (ht : t.eval args s none [] s = some (.ref a)) : u.eval args s none [] s = some (.ref a) := by
  cases hu : u.eval args s none [] s with
  | none => simp [Cond.before, Cond.holds, Cond.value, ht, hu] at h
  | some w =>
    simp only [Cond.before, Cond.holds, Cond.value, ht, hu] at h
    cases w <;> simp_all
theorem st_texts {args : Array Value} {s : State} {A : Nat → Prop} (hts : ∀ w ∈ lw_tbl, w.before args s = true) (hgv : (Jvm.Cond.and given_1 narrow_1).before args s = true) (hA : ∀ a : Nat, a < s.heap.size → ¬ A a) : ∃ adK adV : Nat → Nat, ∀ (g1 : Nat → Bool → Nat) (g2 : va_G) (g3 : Nat → ClassId), Sg (g1, g2, g3, adK, adV) A s s.heap := by
  have hfl : ∀ w ∈ nfl, w.before args s = true := flat_of_before _ hgv
  have h0 : ∀ i : Nat, ∃ q : Nat × Nat, i < 14 → (tm3 i).eval args s none [] s = some (.ref q.1) ∧ va_O "java/lang/String" q.1 A s s.heap ∧ va_OF "java/lang/String" "coder" "B" (.int 0) q.1 A s s.heap ∧ va_OF "java/lang/String" "value" "[B" (.ref q.2) q.1 A s s.heap ∧ va_T .byte q.2 (stN i) (fun j => .int ((stB i).getD j 0)) A s s.heap := by
    intro i
    by_cases hi : i < 14
    · obtain ⟨a, c, cA, kA, q1, q2, q3, q4, q5, q6, -⟩ := Cond.exactly_spec (args := args) (first := s) (o := none) (s := s) (idx := []) (t := tm3 i) (cls := "java/lang/String") (hfl _ (tn_ex i hi))
      obtain ⟨t, ht, hT⟩ := va_Tof (f := fun j => .int ((stB i).getD j 0)) (A := A) (tn_sN i hi) (hfl _ (tn_ar i hi)) (va_eqt (hfl _ (tn_le i hi))) (fun j hj => va_eqt (hfl _ (tn_el i hi j hj))) hA
      exact ⟨(a, t), fun _ => ⟨q1, ⟨cA, q3, q5, by rw [q6]; exact q2, hA a (Array.getElem?_eq_some_iff.mp q3).1⟩, vk_OFof q1 (va_eqt (hfl _ (tn_co i hi))) hA, vk_OFof q1 ht hA, hT⟩⟩
    · exact ⟨(0, 0), fun h => absurd h hi⟩
  obtain ⟨ad, had⟩ := Classical.axiomOfChoice h0
  refine ⟨fun i => (ad i).1, fun i => (ad i).2, fun g1 g2 g3 => ⟨fun k hk => (had k hk).2, ⟨?_, ?_⟩, fun q hq => ?_⟩⟩
  · exact va_Zof (hts _ (lt_at 404 (by decide +kernel))) (hts _ (lt_at 10 (by decide +kernel))) (va_eqi (hfl _ (by decide +kernel))) hA
  · exact va_Zqof (hts _ (lt_at 420 (by decide +kernel))) (hts _ (lt_at 12 (by decide +kernel))) (hfl _ (by decide +kernel)) hA
  · obtain ⟨own, k, tx, t⟩ := q
    have h1 := hts _ (List.mem_append_right (k2_sels lw_privs) (tn_rf _ hq))
    obtain ⟨ht, h2⟩ := tn_w _ hq
    have e3 := (had t ht).1
    rcases h2 with ⟨e1, e2⟩ | ⟨e1, e2⟩
    · refine vk_R.of h1 ?_
      show (Term.string own k).eval args s none [] s = some (.ref (ad t).1)
      rw [show own = RX3 from e1, show k = tx3.getD t 0 from e2]
      exact e3
    · refine vk_R.of h1 ?_
      show (Term.string own k).eval args s none [] s = some (.ref (ad t).1)
      rw [show own = RX7 from e1, show k = tx7.getD t 0 from e2]
      exact eqR (hfl _ (tn_eq t ht)) e3
/-! the classes -/
theorem st_arr {args : Array Value} {s : State} {ty : FieldType} (hp : (∃ cA : ClassId, s.vm.findClass ("[" ++ ty.toString) = some cA ∧ ArrOfT s cA ty) → ∃ cA : ClassId, ArrOfT s cA ty ∧ va_RA s cA ty) (h : (Cond.arrayClass ty).before args s = true) : ∃ cA : ClassId, ArrOfT s cA ty ∧ va_RA s cA ty := by
  obtain ⟨cA, kA, comp, h1, h2, h3⟩ := Cond.arrayClass_spec h
  exact hp ⟨cA, h1, fun n z => ⟨fun k h => (by cases h), kA, h2, comp, h3⟩⟩
theorem st_K {args : Array Value} {s : State} (hts : ∀ w ∈ lw_tbl, w.before args s = true) : ∃ (D : va_G) (cs : Nat → ClassId), va_K D vwCl (tyC cs) s := by
  have htw : ∀ w ∈ WT, w.before args s = true := fun w hw => hts w (List.mem_filter.mp hw).1
  obtain ⟨c0, i0, hK0⟩ := u_known (C := RX0) (T := TX0) (N := 14) (n := 14) htw inW0 (hts _ (lt_at 25 (by decide +kernel)))
  obtain ⟨c1, i1, hK1⟩ := u_known (C := RX1) (T := TX1) (N := 8) (n := 8) htw inW1 (hts _ (lt_at 213 (by decide +kernel)))
  obtain ⟨c2, i2, hK2⟩ := u_known (C := RX2) (T := TX2) (N := 11) (n := 11) htw inW2 (hts _ (lt_at 145 (by decide +kernel)))
  obtain ⟨c3, i3, hK3⟩ := u_known (C := RX3) (T := TX3) (N := 10) (n := 10) htw inW3 (hts _ (lt_at 104 (by decide +kernel)))
  obtain ⟨c4, i4, hK4⟩ := u_known (C := RX4) (T := TX4) (N := 13) (n := 13) htw inW4 (hts _ (lt_at 143 (by decide +kernel)))
  obtain ⟨c5, i5, hK5⟩ := u_known (C := RX5) (T := TX5) (N := 6) (n := 6) htw inW5 (hts _ (lt_at 288 (by decide +kernel)))
  obtain ⟨c6, i6, hK6⟩ := u_known (C := RX6) (T := TX6) (N := 8) (n := 8) htw inW6 (hts _ (lt_at 17 (by decide +kernel)))
  obtain ⟨c7, i7, hK7⟩ := u_known (C := RX7) (T := TX7) (N := 50) (n := 50) htw inW7 (hts _ (lt_at 896 (by decide +kernel)))
  obtain ⟨a1, ha1⟩ := st_arr (ty := .int) (fun q => by obtain ⟨cA, h1, h2⟩ := q; exact ⟨cA, h2, h1⟩) (hts _ (lt_at 101 (by decide +kernel)))
  obtain ⟨a2, ha2⟩ := st_arr (ty := .boolean) (fun q => by obtain ⟨cA, h1, h2⟩ := q; exact ⟨cA, h2, h1⟩) (hts _ (lt_at 102 (by decide +kernel)))
  obtain ⟨a3, ha3⟩ := st_arr (ty := .byte) (fun q => by obtain ⟨cA, h1, h2⟩ := q; exact ⟨cA, h2, h1⟩) (hts _ (lt_at 100 (by decide +kernel)))
  obtain ⟨a4, ha4⟩ := st_arr (ty := .long) (fun q => by obtain ⟨cA, h1, h2⟩ := q; exact ⟨cA, h2, h1⟩) (hts _ (lt_at 140 (by decide +kernel)))
  refine ⟨(fun k => match k with | 0 => c0 | 1 => c1 | 2 => c2 | 3 => c3 | 4 => c4 | 5 => c5 | 6 => c6 | _ => c7, fun k => match k with | 0 => i0 | 1 => i1 | 2 => i2 | 3 => i3 | 4 => i4 | 5 => i5 | 6 => i6 | _ => i7), fun k => match k with | 0 => a1 | 1 => a1 | 2 => a2 | 3 => a3 | _ => a4, fun k q hq => ?_, fun k q hq => ?_⟩
  · match k, hq with
    | 0, hq => cases hq; exact hK0
    | 1, hq => cases hq; exact hK1
    | 2, hq => cases hq; exact hK2
    | 3, hq => cases hq; exact hK3
    | 4, hq => cases hq; exact hK4
    | 5, hq => cases hq; exact hK5
    | 6, hq => cases hq; exact hK6
    | 7, hq => cases hq; exact hK7
    | k + 8, hq => simp [vwCl] at hq
  · match k, hq with
    | 0, hq => cases hq; exact ha1
    | 1, hq => cases hq; exact ha1
    | 2, hq => cases hq; exact ha2
    | 3, hq => cases hq; exact ha3
    | 4, hq => cases hq; exact ha4
    | k + 5, hq => simp [tyC] at hq
/-! the first memory -/
def mu0 : Mi := (fun r _ j => if r = 2 then (if j = 2 then 96 else if j = 4 then 1 else 0) else 0, fun _ _ _ => 0)
theorem inv_mu0 : Inv mu0 := by
  refine ⟨⟨⟨?_, ?_, ?_, fun j hj => ⟨?_, ?_, ?_⟩⟩, ⟨⟨?_, ?_, ?_⟩, ⟨?_, ?_, ?_⟩, ⟨?_, ?_, ?_⟩, fun k hk => ?_, fun k hk => ?_, fun k hk => ?_⟩, fun i => ⟨⟨?_, ?_, ?_⟩, fun h => ?_, fun t ht => ?_, ?_, ?_⟩, ⟨⟨?_, ?_, ?_⟩, fun k hk => ?_⟩, fun i => Or.inr rfl⟩, fun i h => ?_⟩
  all_goals first
    | rfl
    | exact (by decide : (0 : Int) ≤ 0)
    | exact (by decide : (0 : Int) ≤ 500)
    | exact (by decide : (-128 : Int) ≤ 0)
    | exact (by decide : (0 : Int) ≤ 127)
    | exact (by decide : (0 : Int) ≤ 4)
    | exact (by decide : (0 : Int) ≤ 8)
    | exact (by decide : (0 : Int) ≤ 16)
    | exact (by decide : (0 : Int) ≤ 20)
    | exact Nat.zero_le 6
    | exact Nat.zero_le 2
    | exact absurd (show (k : Int) < 0 from hk) (by omega)
    | exact absurd (show (t : Int) < 0 from ht) (by omega)
    | exact absurd (show (0 : Int) < 0 from h) (by decide)
theorem ib_mu0 : IB mu0 := fun k _ => Or.inl (show w32 0 = 0 by decide)
def fI0 (r j : Nat) : Int32 := if r = 2 then (if j = 2 then 96 else if j = 4 then 1 else 0) else 0
theorem gI0 (r : Nat) (i : Bool) : gI (Em mu0) r i = fI0 r := by
  funext j
  show Int32.ofInt (if r = 2 then (if j = 2 then 96 else if j = 4 then 1 else 0) else 0) = (if r = 2 then (if j = 2 then 96 else if j = 4 then 1 else 0) else 0)
  by_cases h : r = 2
  · rw [if_pos h, if_pos h]
    by_cases h2 : j = 2
    · rw [if_pos h2, if_pos h2]; decide
    · rw [if_neg h2, if_neg h2]
      by_cases h4 : j = 4
      · rw [if_pos h4, if_pos h4]; decide
      · rw [if_neg h4, if_neg h4]; decide
  · rw [if_neg h, if_neg h]; decide
theorem gL0 (r : Nat) (i : Bool) : gL (Em mu0) r i = fun _ => 0 := by
  funext j
  show Int64.ofInt 0 = 0
  decide
def adr (q6 q7 : Nat) (u v : Nat → Nat) (r : Nat) (i : Bool) : Nat := if i then ([u 13, u 53, u 46, 0, u 45, 0, 0, 0, 0, 0, u 14, u 15, u 16, u 17, u 18, u 19, u 20, u 21, u 22, u 23, u 24, u 54, u 55, u 56, u 47, u 48, u 49, u 50, u 51, u 52, 0, 0, 0, u 57, u 58, u 59, u 60, 0, 0, 0, 0, 0, 0, 0, 0, 0, 0, 0, 0, 0, 0, 0, 0, 0, 0, 0, 0, 0, 0, 0, 0, 0, 0, 0, 0, 0, 0, 0, 0, 0, 0, 0, 0, 0, 0] : List Nat).getD r 0 else ([u 1, u 37, u 30, u 25, u 29, u 61, q6, q7, 0, 0, u 2, u 3, u 4, u 5, u 6, u 7, u 8, u 9, u 10, u 11, u 12, u 38, u 39, u 40, u 31, u 32, u 33, u 34, u 35, u 36, u 26, u 27, u 28, u 41, u 42, u 43, u 44, u 62, u 63, u 64, u 65, u 0, v 0, v 1, v 2, v 3, v 4, v 5, v 6, v 7, v 8, v 9, v 10, v 11, v 12, v 13, v 14, v 15, v 16, v 17, v 18, v 19, v 20, v 21, v 22, v 23, v 24, v 25, v 26, v 27, v 28, v 29, v 30, v 31, v 32] : List Nat).getD r 0
abbrev wW1 (cs : Nat → ClassId) (q6 q7 : Nat) (u v : Nat → Nat) : va_W := [((u 1), .inr (0, [.int 0, .int 0, .int 0, .ref (u 2), .ref (u 3), .ref (u 4), .ref (u 5), .ref (u 6), .ref (u 7), .ref (u 8), .ref (u 9), .ref (u 10), .ref (u 11), .ref (u 12)])), ((u 13), .inr (0, [.int 0, .int 0, .int 0, .ref (u 14), .ref (u 15), .ref (u 16), .ref (u 17), .ref (u 18), .ref (u 19), .ref (u 20), .ref (u 21), .ref (u 22), .ref (u 23), .ref (u 24)])), ((u 37), .inr (1, [.int 0, .int 0, .int 0, .int 0, .int 0, .ref (u 38), .ref (u 39), .ref (u 40)])), ((u 53), .inr (1, [.int 0, .int 0, .int 0, .int 0, .int 0, .ref (u 54), .ref (u 55), .ref (u 56)])), ((u 30), .inr (2, [.int 0, .int 0, .int 96, .int 0, .int 1, .ref (u 31), .ref (u 32), .ref (u 33), .ref (u 34), .ref (u 35), .ref (u 36)])), ((u 46), .inr (2, [.int 0, .int 0, .int 96, .int 0, .int 1, .ref (u 47), .ref (u 48), .ref (u 49), .ref (u 50), .ref (u 51), .ref (u 52)])), ((u 25), .inr (3, [.ref (u 0), .ref (u 13), .ref (u 26), .ref (u 27), .int 0, .int 0, .int 0, .int 0, .int 0, .long 0])), ((u 29), .inr (4, [.ref (u 30), .ref (u 1), .ref (u 28), .ref (u 37), .ref (u 41), .ref (u 42), .ref (u 43), .ref (u 44), .int 0, .int 0, .int 0, .int 0, .int 0])), ((u 45), .inr (4, [.ref (u 46), .ref (u 1), .ref (u 28), .ref (u 53), .ref (u 57), .ref (u 58), .ref (u 59), .ref (u 60), .int 0, .int 0, .int 0, .int 0, .int 0])), ((u 61), .inr (5, [.int 0, .ref (u 1), .ref (u 62), .ref (u 63), .ref (u 64), .ref (u 65)])), (q6, .inr (6, [.ref (u 0), .int 0, .ref (u 1), .ref (u 13), .ref (u 25), .ref (u 29), .ref (u 45), .ref (u 61)])), (q7, .inr (7, [.ref (v 0), .int 0, .int 0, .int 0, .int 0, .long 0, .int 0, .ref (v 1), .ref (v 2), .int 0, .ref (v 3), .ref (v 4), .ref (v 5), .int 0, .ref (v 6), .int 0, .ref (v 7), .int 0, .ref (v 8), .ref (v 9), .int 0, .ref (v 10), .ref (v 11), .ref (v 12), .ref (v 13), .ref (v 14), .ref (v 15), .ref (v 16), .ref (v 17), .ref (v 18), .ref (v 19), .ref (v 20), .int 0, .ref (v 21), .ref (v 22), .int 0, .int 0, .int 0, .ref (v 23), .ref (v 24), .int 0, .ref (v 25), .ref (v 26), .ref (v 27), .int 0, .ref (v 28), .ref (v 29), .ref (v 30), .ref (v 31), .ref (v 32)])), ((u 2), aI cs 1 4), ((u 14), aI cs 1 4), ((u 3), aI cs 1 8), ((u 15), aI cs 1 8), ((u 4), aI cs 1 8), ((u 16), aI cs 1 8), ((u 5), aI cs 1 16), ((u 17), aI cs 1 16), ((u 6), aI cs 1 16), ((u 18), aI cs 1 16), ((u 7), aI cs 1 16), ((u 19), aI cs 1 16), ((u 8), aI cs 1 16), ((u 20), aI cs 1 16), ((u 9), aI cs 1 16), ((u 21), aI cs 1 16), ((u 10), aI cs 2 16), ((u 22), aI cs 2 16), ((u 11), aI cs 1 16), ((u 23), aI cs 1 16), ((u 12), aI cs 1 16), ((u 24), aI cs 1 16), ((u 38), aI cs 1 97), ((u 54), aI cs 1 97), ((u 39), aI cs 1 4), ((u 55), aI cs 1 4), ((u 40), aI cs 1 96), ((u 56), aI cs 1 96), ((u 31), aI cs 1 8), ((u 47), aI cs 1 8), ((u 32), aI cs 1 8), ((u 48), aI cs 1 8), ((u 33), aI cs 1 8), ((u 49), aI cs 1 8), ((u 34), aI cs 1 8), ((u 50), aI cs 1 8), ((u 35), aI cs 2 8), ((u 51), aI cs 2 8), ((u 36), aI cs 2 8), ((u 52), aI cs 2 8), ((u 26), aL cs 4), ((u 27), aL cs 8), ((u 28), aI cs 1 53504), ((u 41), aI cs 1 256), ((u 57), aI cs 1 256), ((u 42), aI cs 1 97), ((u 58), aI cs 1 97), ((u 43), aI cs 1 6), ((u 59), aI cs 1 6), ((u 44), aI cs 1 2), ((u 60), aI cs 1 2), ((u 62), aI cs 1 20), ((u 63), aI cs 1 20), ((u 64), aI cs 1 97), ((u 65), aI cs 2 97), ((u 0), aI cs 3 500), ((v 0), aI cs 3 500), ((v 1), aL cs 4), ((v 2), aI cs 1 4), ((v 3), aL cs 8), ((v 4), aI cs 1 8), ((v 5), aI cs 1 8), ((v 6), aI cs 1 96), ((v 7), aI cs 1 4), ((v 8), aI cs 1 8), ((v 9), aI cs 1 8), ((v 10), aI cs 1 96), ((v 11), aI cs 1 2), ((v 12), aI cs 1 2), ((v 13), aI cs 1 2), ((v 14), aI cs 1 2), ((v 15), aI cs 1 16), ((v 16), aI cs 1 16), ((v 17), aI cs 1 16), ((v 18), aI cs 1 16), ((v 19), aI cs 1 16), ((v 20), aI cs 2 16), ((v 21), aI cs 1 20), ((v 22), aI cs 1 20), ((v 23), aI cs 1 6), ((v 24), aI cs 1 97), ((v 25), aI cs 1 2), ((v 26), aI cs 1 2), ((v 27), aI cs 1 2), ((v 28), aI cs 1 108640), ((v 29), aI cs 1 108640), ((v 30), aI cs 2 108640), ((v 31), aI cs 1 97), ((v 32), aI cs 2 97)]
def psL : List Nat := [2, 14, 38, 54, 30, 46, 26, 37, 53, 62, 0, 67, 3, 15, 4, 16, 5, 17, 6, 18, 7, 19, 8, 20, 9, 21, 10, 22, 11, 23, 12, 24, 13, 25, 39, 55, 40, 56, 41, 57, 31, 47, 32, 48, 33, 49, 34, 50, 35, 51, 36, 52, 27, 28, 29, 42, 58, 43, 59, 44, 60, 45, 61, 63, 64, 65, 66, 1, 68, 69, 70, 71, 72, 73, 74, 75, 76, 77, 78, 79, 80, 81, 82, 83, 84, 85, 86, 87, 88, 89, 90, 91, 92, 93, 94, 95, 96, 97, 98, 99, 100]
set_option maxRecDepth 100000 in
set_option maxHeartbeats 4000000 in
theorem wW_1 (D : va_G) (cs : Nat → ClassId) (q6 q7 : Nat) (u v adK adV : Nat → Nat) : wW (adr q6 q7 u v, D, cs, adK, adV) (Em mu0) = wW1 cs q6 q7 u v := by
  have e : wW (adr q6 q7 u v, D, cs, adK, adV) (Em mu0) = cls0.map fun q => (adr q6 q7 u v q.1 q.2, en (adr q6 q7 u v, D, cs, adK, adV) (fI0 q.1) (fun _ => 0) q.1 q.2) := by
    unfold wW
    refine List.map_congr_left fun q _ => ?_
    rw [gI0, gL0]
  rw [e]
  rfl
set_option maxRecDepth 100000 in
set_option maxHeartbeats 4000000 in
theorem wW_2 (D : va_G) (cs : Nat → ClassId) (q6 q7 : Nat) (u v adK adV : Nat → Nat) : psL.map (fun i => (c1X6 cs q6 u ++ c1X7 cs q7 v)[i]?) = (wW (adr q6 q7 u v, D, cs, adK, adV) (Em mu0)).map some := by
  rw [wW_1]
  rfl
theorem psL_nd : va_nd psL = true := by decide +kernel
theorem inj_of {G : Cx} {σ : Mm} {A : Nat → Prop} (h : va_D A (wW G σ)) : inj G ∧ ∀ q, wA G q → A q := by
  refine ⟨fun r i r' i' h1 h2 e => ?_, fun q hq => ?_⟩
  · obtain ⟨k, hk⟩ := okC_at h1
    obtain ⟨k', hk'⟩ := okC_at h2
    have := h.1 k k' _ _ (wW_at hk) (wW_at hk') e
    subst this
    have e2 := Option.some.inj (hk.symm.trans hk')
    exact ⟨congrArg Prod.fst e2, congrArg Prod.snd e2⟩
  · obtain ⟨r, i, h1, rfl⟩ := hq
    obtain ⟨k, hk⟩ := okC_at h1
    exact h.2 k _ (wW_at hk)
/-! a constructor called by the law -/
theorem la_con {p : Program} {l : Launch} {e : Env} {s : State} {m : MethodId} {below : List Frame} {meth : Method} {c : Code} {bb : Nat} {D : va_G} {cs : Nat → ClassId} {z : Yd} {ix a pc k n mc ms : Nat} {rest : List Value} {wc wr ws : va_W} {w1 : (Nat → Nat) → va_W} {H : Heap} {locs : List Loc} {la : Array Slot} {ls : List (Option Value)} {Q : State → Prop} (isC isR : List Nat)
    (hx : p.tables.exec = Jvm.exec) (hb : c.code = cL_law) (hml : c.maxLocals = 4) (hown : s.vm.findClass RL = some m.cls) (htw : ∀ w ∈ WT, w.before #[Value.ref bb] s = true) (hKz : Kz (D, cs, mc, ms) s)
    (cw : Cond.methodLink RL ix (yN z) ∈ WT) (ci : Cond.instanceMethod (yN z) ∈ WT) (cn : Cond.initialized (yN z).cls ∈ WT) (cc : Cond.code (yN z) (yC z) (yL z) (yT z) ∈ WT) (cd : dsc (yN z) 0) (hnm : (yN z).name = "<init>") (hrt : yT z = none) (hR : yF z + 1 ≤ 16 ∧ 8 + (yL z + 11) + yW z ≤ 592)
    (hz : Con z (D, cs, mc, ms) [.ref a] wc w1) (hroom : (rest.map fun v => v.category).sum ≤ 8)
    (hC : isC.map (fun i => ws[i]?) = wc.map some) (hCn : va_nd isC = true) (hRr : isR.map (fun i => ws[i]?) = wr.map some) (hn : va_nd isR = true) (hdis : ∀ i ∈ isR, i ∉ isC) (h1 : k + mc ≤ 600000) (h2 : n + ms ≤ 7302250)
    (hd : decode cL_law pc = .ok (.invokespecial ix, 3)) (hP : va_P D vwCl ws H) (hD : va_D (fun q : Nat => s.heap.size ≤ q) ws) (hS : va_S (fun q : Nat => s.heap.size ≤ q) s.heap H locs) (hL : Lc la 4 ls)
    (kk : ∀ (q : Nat → Nat) (H1 : Heap) (locs1 : List Loc), va_P D vwCl (wr ++ w1 q) H1 → va_D (fun q : Nat => s.heap.size ≤ q) (wr ++ w1 q) → va_S (fun q : Nat => s.heap.size ≤ q) s.heap H1 locs1 → W p l e room_1 s m #[Value.ref bb] below meth c H1 locs1 (k + mc) (n + ms) Q (F0 m (pc + 3) la rest)) :
    W p l e room_1 s m #[Value.ref bb] below meth c H locs k n Q (F0 m pc la (.ref a :: rest)) := by
  have hA : ∀ q : Nat, s.heap.size ≤ q → (fun q : Nat => s.heap.size ≤ q) q := fun _ h => h
  have hs2 : isC.filterMap (fun i => ws[i]?) = wc := by
    have e : isC.filterMap (fun i => ws[i]?) = (isC.map (fun i => ws[i]?)).filterMap id := by rw [List.filterMap_map]; rfl
    rw [e, hC, List.filterMap_map]
    exact List.filterMap_some
  have hPc := hP.sub isC hs2
  have hDc := hD.sub isC hCn hC
  have hFc := va_free (wc := wc) hD hS hA isC hC
  have hpre : PreS s H (va_Pc [.ref a] (Pk (D, cs, mc, ms) wc H.size)) [.ref a] := ⟨fun a U g mk q => ⟨q.1, q.2.1, q.2.2.1, Kz.same (s := U) (U := U.calling g mk a) rfl q.2.2.2.1, q.2.2.2.2⟩, fun U hU hW => ⟨rfl, by rw [hU], by rw [hU]; exact hPc, Kz.warm (X := (D, cs, mc, ms)) hW hKz, hDc.weaken (fun _ _ _ _ => trivial)⟩⟩
  have hrun : va_Run p l e room_1 s m #[Value.ref bb] below meth c H locs k n mc ms (F0 m pc la ([].reverse ++ .ref a :: rest)) rest (Qk (D, cs, mc, ms) wc w1 H.size ([Value.ref a] : List Value).toArray) (va_A wc H.size) := by
    have hws : yWs z = Cond.code (yN z) (yC z) (yL z) none :: WT := by show Cond.code _ _ _ (yT z) :: WT = _; rw [hrt]
    exact va_runI (Ts := WT) ⟨hx, hb, hml, hown, htw⟩ (hz l H.size) (cwI 0 htw (ws_good cc) hws rfl rfl (htw _ cn) (htw _ cw) (htw _ ci) hnm cd hR) hpre rfl rfl hL.1 rfl (lv_room hroom) hd ⟨h1, h2⟩
  refine va_callv hrun hS (fun q _ h => hFc q h) hFc (fun u t H1 locs1 ht hvm _ hB hz1 hk1 hS1 => ?_)
  obtain ⟨hP1, hD1⟩ := hB
  rw [ht] at hP1
  obtain ⟨hP2, hD2⟩ := va_join (wr := wr) (w1 := w1 u) hP hD isC isR hC hRr hn hdis hk1 hFc hP1 hD1
  exact kk u H1 locs1 hP2 hD2 hS1
theorem ds_L6 : dsc (yN yk6) 0 := ⟨by decide +kernel, by decide +kernel, by decide +kernel⟩
theorem ds_L7 : dsc (yN yk7) 0 := ⟨by decide +kernel, by decide +kernel, by decide +kernel⟩
set_option maxRecDepth 100000 in
set_option maxHeartbeats 4000000 in
theorem whole_start {p : Program} {e : Env} {s : State} {m : MethodId} {below : List Frame} {meth : Method} {c : Code} (l : Launch) {b L : Nat} {xs : Nat → Int32} (hL : L ≤ 3072) (C0 : lw_At p s m meth c b L xs) : W p l e room_1 s m #[Value.ref b] below meth c s.heap [] 0 0 (lw_Z below #[Value.ref b] s) (entryFrame m ([Value.ref b] : List Value).toArray 4) := by
  obtain ⟨hx, hb, hr, hml, hown, hts, hX, hbl, hlocks, hgv⟩ := id C0
  have hown : s.vm.findClass RL = some m.cls := hown
  have hb : c.code = cL_law := hb
  have hA : ∀ q : Nat, s.heap.size ≤ q → (fun q : Nat => s.heap.size ≤ q) q := fun _ h => h
  have hbA : ¬ (fun q : Nat => s.heap.size ≤ q) b := Nat.not_le.mpr hbl
  have htw : ∀ w ∈ WT, w.before #[Value.ref b] s = true := fun w hw => hts w (List.mem_filter.mp hw).1
  obtain ⟨D, cs, hK⟩ := st_K hts
  obtain ⟨adK, adV, hSg⟩ := st_texts (A := fun q : Nat => s.heap.size ≤ q) hts hgv (fun a h => Nat.not_le.mpr h)
  have hn1 : va_Nw nw1 s := va_Nw.of rfl (hts nw1 (lt_at 26 (by decide +kernel)))
  have hn2 : va_Nw nw2 s := va_Nw.of rfl (hts nw2 (lt_at 146 (by decide +kernel)))
  have hn3 : va_Nw nw3 s := va_Nw.of rfl (hts nw3 (lt_at 214 (by decide +kernel)))
  have hKz : ∀ mc ms : Nat, Kz (D, cs, mc, ms) s := fun _ _ => ⟨hK, hn1, hn2, hn3⟩
  have hS : va_S (fun q : Nat => s.heap.size ≤ q) s.heap s.heap [] := va_S.rf
  have hP : va_P D vwCl [] s.heap := fun k q h => by simp at h
  have hD : va_D (fun q : Nat => s.heap.size ≤ q) [] := ⟨fun i j p q h => by simp at h, fun k q h => by simp at h⟩
  have hl : Lc ((lg_sl ([.ref b]) ++ List.replicate (4 - (lg_sl ([.ref b])).length) Slot.unset).toArray) 4 [some (.ref b), none, none, none] := Lc_entry (catL_ok rfl) (Nat.le_of_ble_eq_true rfl) rfl
  rw [lg_entry_eq]
  generalize (lg_sl ([.ref b]) ++ List.replicate (4 - (lg_sl ([.ref b])).length) Slot.unset).toArray = la at hl ⊢
  refine va_new (ci := 6) (fs := [.null, .int 0, .null, .null, .null, .null, .null, .null]) (C := RX6) (T := TX6) (N := 8) hx hb htw inW6 tyX6 tyX6_ok hown (htw _ (wt_at 16 (by decide +kernel) (by decide +kernel))) (htw _ (wt_at 17 (by decide +kernel) (by decide +kernel))) (htw _ (wt_at 1 (by decide +kernel) (by decide +kernel))) hK hP hD hS hA rfl (by decide +kernel) (Nat.le_of_ble_eq_true rfl) (Nat.le_of_ble_eq_true rfl) dL_law_0 (fun q6 H hP hD hS => ?_)
  refine W.widen (k := 1) (n := 8) (Nat.le_of_ble_eq_true rfl) (Nat.le_of_ble_eq_true rfl) ?_
  refine lv_dup hx hb dL_law_3 rfl ?_
  refine la_con (z := yk6) (mc := 66) (ms := 55866) (wc := [(q6, .inr (6, [.null, .int 0, .null, .null, .null, .null, .null, .null]))]) (wr := []) (w1 := c1X6 cs q6) (ls := [some (.ref b), none, none, none]) [0] [] hx hb hml hown htw (hKz _ _) (wt_at 18 (by decide +kernel) (by decide +kernel)) (wt_at 19 (by decide +kernel) (by decide +kernel)) (wt_at 1 (by decide +kernel) (by decide +kernel)) (wt_at 20 (by decide +kernel) (by decide +kernel)) ds_L6 rfl rfl ⟨by decide, by decide⟩ (con_X6 D cs q6) (Nat.le_of_ble_eq_true rfl) rfl (by decide) rfl (by decide) (by decide) (Nat.le_of_ble_eq_true rfl) (Nat.le_of_ble_eq_true rfl) dL_law_4 hP hD hS hl (fun u H locs hP hD hS => ?_)
  have hP : va_P D vwCl (c1X6 cs q6 u) H := hP
  have hD : va_D (fun q : Nat => s.heap.size ≤ q) (c1X6 cs q6 u) := hD
  refine lv_astore_n hx hb dL_law_7 rfl hl.has (by decide) rfl (fun la h2 => ?_)
  have hl : Lc la 4 [some (.ref b), some (.ref q6), none, none] := Lc.store1 (ls := [some (.ref b), none, none, none]) (k := 1) rfl h2
  refine va_new (ci := 7) (fs := [.null, .int 0, .int 0, .int 0, .int 0, .long 0, .int 0, .null, .null, .int 0, .null, .null, .null, .int 0, .null, .int 0, .null, .int 0, .null, .null, .int 0, .null, .null, .null, .null, .null, .null, .null, .null, .null, .null, .null, .int 0, .null, .null, .int 0, .int 0, .int 0, .null, .null, .int 0, .null, .null, .null, .int 0, .null, .null, .null, .null, .null]) (C := RX7) (T := TX7) (N := 50) hx hb htw inW7 tyX7 tyX7_ok hown (htw _ (wt_at 895 (by decide +kernel) (by decide +kernel))) (htw _ (wt_at 896 (by decide +kernel) (by decide +kernel))) (htw _ (wt_at 8 (by decide +kernel) (by decide +kernel))) hK hP hD hS hA rfl (by decide +kernel) (Nat.le_of_ble_eq_true rfl) (Nat.le_of_ble_eq_true rfl) dL_law_8 (fun q7 H hP hD hS => ?_)
  refine W.widen (k := 68) (n := 55924) (Nat.le_of_ble_eq_true rfl) (Nat.le_of_ble_eq_true rfl) ?_
  refine lv_dup hx hb dL_law_11 rfl ?_
  refine la_con (z := yk7) (mc := 33) (ms := 327111) (wc := [(q7, .inr (7, [.null, .int 0, .int 0, .int 0, .int 0, .long 0, .int 0, .null, .null, .int 0, .null, .null, .null, .int 0, .null, .int 0, .null, .int 0, .null, .null, .int 0, .null, .null, .null, .null, .null, .null, .null, .null, .null, .null, .null, .int 0, .null, .null, .int 0, .int 0, .int 0, .null, .null, .int 0, .null, .null, .null, .int 0, .null, .null, .null, .null, .null]))]) (wr := c1X6 cs q6 u) (w1 := c1X7 cs q7) (ls := [some (.ref b), some (.ref q6), none, none]) [67] [0, 1, 2, 3, 4, 5, 6, 7, 8, 9, 10, 11, 12, 13, 14, 15, 16, 17, 18, 19, 20, 21, 22, 23, 24, 25, 26, 27, 28, 29, 30, 31, 32, 33, 34, 35, 36, 37, 38, 39, 40, 41, 42, 43, 44, 45, 46, 47, 48, 49, 50, 51, 52, 53, 54, 55, 56, 57, 58, 59, 60, 61, 62, 63, 64, 65, 66] hx hb hml hown htw (hKz _ _) (wt_at 897 (by decide +kernel) (by decide +kernel)) (wt_at 898 (by decide +kernel) (by decide +kernel)) (wt_at 8 (by decide +kernel) (by decide +kernel)) (wt_at 899 (by decide +kernel) (by decide +kernel)) ds_L7 rfl rfl ⟨by decide, by decide⟩ (con_X7 D cs q7) (Nat.le_of_ble_eq_true rfl) rfl (by decide) rfl (by decide) (by decide) (Nat.le_of_ble_eq_true rfl) (Nat.le_of_ble_eq_true rfl) dL_law_12 hP hD hS hl (fun v H locs hP hD hS => ?_)
  refine lv_astore_n hx hb dL_law_15 rfl hl.has (by decide) rfl (fun la h2 => ?_)
  have hl : Lc la 4 [some (.ref b), some (.ref q6), some (.ref q7), none] := Lc.store1 (ls := [some (.ref b), some (.ref q6), none, none]) (k := 2) rfl h2
  refine lv_iconst (v := 0) hx hb dL_law_16 (by decide) ?_
  refine lv_istore_n hx hb dL_law_17 rfl hl.has (by decide) rfl (fun la h2 => ?_)
  have hl : Lc la 4 [some (.ref b), some (.ref q6), some (.ref q7), some (.int 0)] := Lc.store1 (ls := [some (.ref b), some (.ref q6), some (.ref q7), none]) (k := 3) rfl h2
  obtain ⟨G, hG⟩ : ∃ G : Cx, G = (adr q6 q7 u v, D, cs, adK, adV) := ⟨_, rfl⟩
  have hs := wW_2 D cs q6 q7 u v adK adV
  rw [← hG] at hs
  have hs2 : psL.filterMap (fun i => (c1X6 cs q6 u ++ c1X7 cs q7 v)[i]?) = wW G (Em mu0) := by
    have e : psL.filterMap (fun i => (c1X6 cs q6 u ++ c1X7 cs q7 v)[i]?) = (psL.map (fun i => (c1X6 cs q6 u ++ c1X7 cs q7 v)[i]?)).filterMap id := by rw [List.filterMap_map]; rfl
    rw [e, hs, List.filterMap_map]
    exact List.filterMap_some
  have hP := hP.sub psL hs2
  have hD := hD.sub psL psL_nd hs
  obtain ⟨hJ, hwA⟩ := inj_of hD
  have e6 : rf G 6 false = .ref q6 := by rw [hG]; rfl
  have e7 : rf G 7 false = .ref q7 := by rw [hG]; rfl
  have e0 : iv ((0 : Nat) : Int) = .int 0 := by show Value.int _ = _; rw [show Int32.ofInt ((0 : Nat) : Int) = 0 by decide]
  have hl : Lc la 4 (LLw G b 0) := by
    show Lc la 4 [some (.ref b), some (rf G 6 false), some (rf G 7 false), some (iv ((0 : Nat) : Int))]
    rw [e6, e7, e0]
    exact hl
  have hG1 : G.2.1 = D := by rw [hG]
  have hLX : LX (bLw p l e s m below meth c b) b L (fun j => (xs j).toInt) := ⟨hL, xs, hX, hbl, hbA, fun _ => rfl⟩
  have hgd : Gd yd_L G (bLw p l e s m below meth c b) := by
    refine ⟨hx, hb, hml, hown, htw, ?_, hJ, hwA, ?_, hlocks, Nat.le_refl _, Nat.le_refl _, Nat.le_of_ble_eq_true rfl, Nat.le_of_ble_eq_true rfl⟩
    · rw [hG]; exact hK
    · rw [hG]; exact hSg _ _ _
  exact l_loop hLX (fun n μ => l_end hr) (L + 1) 0 (by omega) (by omega) mu0 inv_mu0 ib_mu0 hgd H locs la (by rw [hG1]; exact hP) hS hl
