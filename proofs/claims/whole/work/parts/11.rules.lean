section Rules
variable {y : Yd} {G : Cx} {b : Ab} {pc : Nat} {ls : List (Option Value)} {st : List Value} {σ : Mm}
theorem At.eq {σ' : Mm} {st' : List Value} {ls' : List (Option Value)} (k : At y G b pc ls' st' σ') (h1 : ls = ls') (h2 : st = st') (h3 : σ = σ') : At y G b pc ls st σ := by
  subst h1; subst h2; subst h3; exact k
def al : Nat → List (Option Value) → List (Nat × Value)
  | _, [] => []
  | k, none :: t => al (k + 1) t
  | k, some v :: t => (k, v) :: al (k + 1) t
theorem al_mem : ∀ (l : List (Option Value)) (k j : Nat) (v : Value), (j, v) ∈ al k l ↔ ∃ q, j = k + q ∧ l[q]? = some (some v)
  | [], k, j, v => by simp [al]
  | none :: t, k, j, v => by
    rw [al, al_mem t (k + 1) j v]
    constructor
    · rintro ⟨q, rfl, h⟩
      exact ⟨q + 1, by omega, by simpa using h⟩
    · rintro ⟨q, rfl, h⟩
      cases q with
      | zero => simp at h
      | succ q => exact ⟨q, by omega, by simpa using h⟩
  | some w :: t, k, j, v => by
    rw [al, List.mem_cons, al_mem t (k + 1) j v]
    constructor
    · rintro (h | ⟨q, rfl, h⟩)
      · cases h
        exact ⟨0, by omega, by simp⟩
      · exact ⟨q + 1, by omega, by simpa using h⟩
    · rintro ⟨q, rfl, h⟩
      cases q with
      | zero =>
        simp at h
        exact Or.inl (by rw [h]; simp)
      | succ q => exact Or.inr ⟨q, by omega, by simpa using h⟩
theorem Lc.has {la : Array Slot} {n : Nat} (h : Lc la n ls) : lv_has la n (al 0 ls) := ⟨h.1, h.2.1, fun q hq => by
  obtain ⟨k, e, hk⟩ := (al_mem ls 0 q.1 q.2).mp hq
  have e2 : q.1 = k := by omega
  rw [e2]
  exact h.2.2 k q.2 hk⟩
def okp (ls : List (Option Value)) (k : Nat) : Bool := match k with
  | 0 => true
  | q + 1 => match ls[q]? with
    | some (some v) => v.category == 1
    | _ => true
theorem Lc.store1 {la' : Array Slot} {n k : Nat} {v : Value} (hk : okp ls k = true) (h' : lv_has la' n ((k, v) :: (al 0 ls).filter (fun q => !(q.1 == k) && !(q.1 + 1 == k && q.2.category == 2)))) : Lc la' n (ls.set k (some v)) := by
  refine ⟨h'.1, h'.2.1, fun j w hj => h'.2.2 (j, w) ?_⟩
  by_cases e : j = k
  · subst e
    rw [List.getElem?_set] at hj
    split at hj
    · split at hj
      · cases hj
        exact List.mem_cons_self
      · cases hj
    · contradiction
  · rw [List.getElem?_set_ne (Ne.symm e)] at hj
    refine List.mem_cons_of_mem _ (List.mem_filter.mpr ⟨(al_mem ls 0 j w).mpr ⟨j, by omega, hj⟩, ?_⟩)
    by_cases e2 : j + 1 = k
    · subst e2
      simp only [okp, hj] at hk
      have : w.category = 1 := by simpa using hk
      simp [this]
    · simp [e, e2]
theorem Lc.store2 {la' : Array Slot} {n k : Nat} {v : Value} (hk : okp ls k = true) (h' : lv_has la' n ((k, v) :: (al 0 ls).filter (fun q => !(q.1 == k) && (!(q.1 == k + 1) && !(q.1 + 1 == k && q.2.category == 2))))) : Lc la' n ((ls.set k (some v)).set (k + 1) none) := by
  refine ⟨h'.1, h'.2.1, fun j w hj => h'.2.2 (j, w) ?_⟩
  by_cases e1 : j = k + 1
  · subst e1
    rw [List.getElem?_set] at hj
    split at hj
    · split at hj
      · cases hj
      · cases hj
    · contradiction
  · rw [List.getElem?_set_ne (Ne.symm e1)] at hj
    by_cases e : j = k
    · subst e
      rw [List.getElem?_set] at hj
      split at hj
      · split at hj
        · cases hj
          exact List.mem_cons_self
        · cases hj
      · contradiction
    · rw [List.getElem?_set_ne (Ne.symm e)] at hj
      refine List.mem_cons_of_mem _ (List.mem_filter.mpr ⟨(al_mem ls 0 j w).mpr ⟨j, by omega, hj⟩, ?_⟩)
      by_cases e2 : j + 1 = k
      · subst e2
        simp only [okp, hj] at hk
        have : w.category = 1 := by simpa using hk
        simp [this, e1]
      · simp [e, e1, e2]
def isR : Value → Bool
  | .ref _ => true
  | _ => false
theorem isR_of {v : Value} (h : isR v = true) : ∃ q, v = .ref q := by
  cases v <;> simp [isR] at h ⊢
theorem st_iconst (n : Nat) {z : Int} {v : Int32} (hd : decode (yC y) pc = .ok (.iconst z, 1)) (hv : Int32.ofInt z = v) (hp : pc + 1 = n) (k : At y G b n ls (.int v :: st) σ) : At y G b pc ls (st) σ := by
  subst hp
  exact fun g H locs la hP hS hL => lv_iconst g.1 g.2.1 hd hv (k g H locs la hP hS hL)
theorem st_bipush (n : Nat) {z : Int} {v : Int32} (hd : decode (yC y) pc = .ok (.bipush z, 2)) (hv : (Int8.ofInt z).toInt32 = v) (hp : pc + 2 = n) (k : At y G b n ls (.int v :: st) σ) : At y G b pc ls (st) σ := by
  subst hp
  exact fun g H locs la hP hS hL => lv_bipush g.1 g.2.1 hd hv (k g H locs la hP hS hL)
theorem st_sipush (n : Nat) {z : Int} {v : Int32} (hd : decode (yC y) pc = .ok (.sipush z, 3)) (hv : (Int16.ofInt z).toInt32 = v) (hp : pc + 3 = n) (k : At y G b n ls (.int v :: st) σ) : At y G b pc ls (st) σ := by
  subst hp
  exact fun g H locs la hP hS hL => lv_sipush g.1 g.2.1 hd hv (k g H locs la hP hS hL)
theorem st_iadd (n : Nat) {x x2 : Int32} (hd : decode (yC y) pc = .ok (.iadd, 1))  (hp : pc + 1 = n) (k : At y G b n ls (.int (x + x2) :: st) σ) : At y G b pc ls (.int x2 :: .int x :: st) σ := by
  subst hp
  exact fun g H locs la hP hS hL => lv_iadd g.1 g.2.1 hd  (k g H locs la hP hS hL)
theorem st_isub (n : Nat) {x x2 : Int32} (hd : decode (yC y) pc = .ok (.isub, 1))  (hp : pc + 1 = n) (k : At y G b n ls (.int (x - x2) :: st) σ) : At y G b pc ls (.int x2 :: .int x :: st) σ := by
  subst hp
  exact fun g H locs la hP hS hL => lv_isub g.1 g.2.1 hd  (k g H locs la hP hS hL)
theorem st_imul (n : Nat) {x x2 : Int32} (hd : decode (yC y) pc = .ok (.imul, 1))  (hp : pc + 1 = n) (k : At y G b n ls (.int (x * x2) :: st) σ) : At y G b pc ls (.int x2 :: .int x :: st) σ := by
  subst hp
  exact fun g H locs la hP hS hL => lv_imul g.1 g.2.1 hd  (k g H locs la hP hS hL)
theorem st_iand (n : Nat) {x x2 : Int32} (hd : decode (yC y) pc = .ok (.iand, 1))  (hp : pc + 1 = n) (k : At y G b n ls (.int (x &&& x2) :: st) σ) : At y G b pc ls (.int x2 :: .int x :: st) σ := by
  subst hp
  exact fun g H locs la hP hS hL => lv_iand g.1 g.2.1 hd  (k g H locs la hP hS hL)
theorem st_ior (n : Nat) {x x2 : Int32} (hd : decode (yC y) pc = .ok (.ior, 1))  (hp : pc + 1 = n) (k : At y G b n ls (.int (x ||| x2) :: st) σ) : At y G b pc ls (.int x2 :: .int x :: st) σ := by
  subst hp
  exact fun g H locs la hP hS hL => lv_ior g.1 g.2.1 hd  (k g H locs la hP hS hL)
theorem st_ixor (n : Nat) {x x2 : Int32} (hd : decode (yC y) pc = .ok (.ixor, 1))  (hp : pc + 1 = n) (k : At y G b n ls (.int (x ^^^ x2) :: st) σ) : At y G b pc ls (.int x2 :: .int x :: st) σ := by
  subst hp
  exact fun g H locs la hP hS hL => lv_ixor g.1 g.2.1 hd  (k g H locs la hP hS hL)
theorem st_ishl (n : Nat) {x x2 : Int32} (hd : decode (yC y) pc = .ok (.ishl, 1))  (hp : pc + 1 = n) (k : At y G b n ls (.int (x <<< (x2 &&& 31)) :: st) σ) : At y G b pc ls (.int x2 :: .int x :: st) σ := by
  subst hp
  exact fun g H locs la hP hS hL => lv_ishl g.1 g.2.1 hd  (k g H locs la hP hS hL)
theorem st_ishr (n : Nat) {x x2 : Int32} (hd : decode (yC y) pc = .ok (.ishr, 1))  (hp : pc + 1 = n) (k : At y G b n ls (.int (x >>> (x2 &&& 31)) :: st) σ) : At y G b pc ls (.int x2 :: .int x :: st) σ := by
  subst hp
  exact fun g H locs la hP hS hL => lv_ishr g.1 g.2.1 hd  (k g H locs la hP hS hL)
theorem st_idiv (n : Nat) {x x2 : Int32} (hd : decode (yC y) pc = .ok (.idiv, 1)) (hne : ¬ x2 = 0) (hp : pc + 1 = n) (k : At y G b n ls (.int (x / x2) :: st) σ) : At y G b pc ls (.int x2 :: .int x :: st) σ := by
  subst hp
  exact fun g H locs la hP hS hL => lv_idiv g.1 g.2.1 hd hne (k g H locs la hP hS hL)
theorem st_irem (n : Nat) {x x2 : Int32} (hd : decode (yC y) pc = .ok (.irem, 1)) (hne : ¬ x2 = 0) (hp : pc + 1 = n) (k : At y G b n ls (.int (x - x / x2 * x2) :: st) σ) : At y G b pc ls (.int x2 :: .int x :: st) σ := by
  subst hp
  exact fun g H locs la hP hS hL => lv_irem g.1 g.2.1 hd hne (k g H locs la hP hS hL)
theorem st_ineg (n : Nat) {x : Int32} (hd : decode (yC y) pc = .ok (.ineg, 1))  (hp : pc + 1 = n) (k : At y G b n ls (.int (-x) :: st) σ) : At y G b pc ls (.int x :: st) σ := by
  subst hp
  exact fun g H locs la hP hS hL => lv_ineg g.1 g.2.1 hd  (k g H locs la hP hS hL)
theorem st_iushr (n : Nat) {x x2 : Int32} (hd : decode (yC y) pc = .ok (.iushr, 1))  (hp : pc + 1 = n) (k : At y G b n ls (.int (x.toUInt32 >>> (x2.toUInt32 &&& Int32.toUInt32 31)).toInt32 :: st) σ) : At y G b pc ls (.int x2 :: .int x :: st) σ := by
  subst hp
  exact fun g H locs la hP hS hL => lv_iushr g.1 g.2.1 hd rfl (k g H locs la hP hS hL)
theorem st_ladd (n : Nat) {x x2 : Int64} (hd : decode (yC y) pc = .ok (.ladd, 1))  (hp : pc + 1 = n) (k : At y G b n ls (.long (x + x2) :: st) σ) : At y G b pc ls (.long x2 :: .long x :: st) σ := by
  subst hp
  exact fun g H locs la hP hS hL => lv_ladd g.1 g.2.1 hd  (k g H locs la hP hS hL)
theorem st_lsub (n : Nat) {x x2 : Int64} (hd : decode (yC y) pc = .ok (.lsub, 1))  (hp : pc + 1 = n) (k : At y G b n ls (.long (x - x2) :: st) σ) : At y G b pc ls (.long x2 :: .long x :: st) σ := by
  subst hp
  exact fun g H locs la hP hS hL => lv_lsub g.1 g.2.1 hd  (k g H locs la hP hS hL)
theorem st_lmul (n : Nat) {x x2 : Int64} (hd : decode (yC y) pc = .ok (.lmul, 1))  (hp : pc + 1 = n) (k : At y G b n ls (.long (x * x2) :: st) σ) : At y G b pc ls (.long x2 :: .long x :: st) σ := by
  subst hp
  exact fun g H locs la hP hS hL => lv_lmul g.1 g.2.1 hd  (k g H locs la hP hS hL)
theorem st_land (n : Nat) {x x2 : Int64} (hd : decode (yC y) pc = .ok (.land, 1))  (hp : pc + 1 = n) (k : At y G b n ls (.long (x &&& x2) :: st) σ) : At y G b pc ls (.long x2 :: .long x :: st) σ := by
  subst hp
  exact fun g H locs la hP hS hL => lv_land g.1 g.2.1 hd  (k g H locs la hP hS hL)
theorem st_lor (n : Nat) {x x2 : Int64} (hd : decode (yC y) pc = .ok (.lor, 1))  (hp : pc + 1 = n) (k : At y G b n ls (.long (x ||| x2) :: st) σ) : At y G b pc ls (.long x2 :: .long x :: st) σ := by
  subst hp
  exact fun g H locs la hP hS hL => lv_lor g.1 g.2.1 hd  (k g H locs la hP hS hL)
theorem st_i2l (n : Nat) {x : Int32} (hd : decode (yC y) pc = .ok (.i2l, 1))  (hp : pc + 1 = n) (k : At y G b n ls (.long x.toInt64 :: st) σ) : At y G b pc ls (.int x :: st) σ := by
  subst hp
  exact fun g H locs la hP hS hL => lv_i2l g.1 g.2.1 hd rfl (k g H locs la hP hS hL)
theorem st_l2i (n : Nat) {x : Int64} (hd : decode (yC y) pc = .ok (.l2i, 1))  (hp : pc + 1 = n) (k : At y G b n ls (.int x.toInt32 :: st) σ) : At y G b pc ls (.long x :: st) σ := by
  subst hp
  exact fun g H locs la hP hS hL => lv_l2i g.1 g.2.1 hd rfl (k g H locs la hP hS hL)
theorem st_i2b (n : Nat) {x : Int32} (hd : decode (yC y) pc = .ok (.i2b, 1))  (hp : pc + 1 = n) (k : At y G b n ls (.int x.toInt8.toInt32 :: st) σ) : At y G b pc ls (.int x :: st) σ := by
  subst hp
  exact fun g H locs la hP hS hL => lv_i2b g.1 g.2.1 hd rfl (k g H locs la hP hS hL)
theorem st_dup (n : Nat) {v : Value} (hd : decode (yC y) pc = .ok (.dup, 1)) (hc : v.category = 1) (hp : pc + 1 = n) (k : At y G b n ls (v :: v :: st) σ) : At y G b pc ls (v :: st) σ := by
  subst hp
  exact fun g H locs la hP hS hL => lv_dup g.1 g.2.1 hd hc (k g H locs la hP hS hL)
theorem st_pop (n : Nat) {v : Value} (hd : decode (yC y) pc = .ok (.pop, 1)) (hc : v.category = 1) (hp : pc + 1 = n) (k : At y G b n ls (st) σ) : At y G b pc ls (v :: st) σ := by
  subst hp
  exact fun g H locs la hP hS hL => lv_pop g.1 g.2.1 hd hc (k g H locs la hP hS hL)
theorem st_dup2 (n : Nat) {v u : Value} (hd : decode (yC y) pc = .ok (.dup2, 1)) (hc : v.category = 1) (hc2 : u.category = 1) (hp : pc + 1 = n) (k : At y G b n ls (v :: u :: v :: u :: st) σ) : At y G b pc ls (v :: u :: st) σ := by
  subst hp
  exact fun g H locs la hP hS hL => lv_dup2_11 g.1 g.2.1 hd hc hc2 (k g H locs la hP hS hL)
theorem st_if_eq (n tgt : Nat) {x : Int32} {off : Int} (hd : decode (yC y) pc = .ok (.ifCond .eq off, 3)) (hp : pc + 3 = n) (ht : (pc : Int) + off = (tgt : Int)) (kt : x = 0 → At y G b tgt ls st σ) (kf : ¬ x = 0 → At y G b n ls st σ) : At y G b pc ls (.int x :: st) σ := by
  subst hp
  exact fun g H locs la hP hS hL => lv_if_eq g.1 g.2.1 hd ht (fun c => kt c g H locs la hP hS hL) (fun c => kf c g H locs la hP hS hL)
theorem st_if_ne (n tgt : Nat) {x : Int32} {off : Int} (hd : decode (yC y) pc = .ok (.ifCond .ne off, 3)) (hp : pc + 3 = n) (ht : (pc : Int) + off = (tgt : Int)) (kt : ¬ x = 0 → At y G b tgt ls st σ) (kf : x = 0 → At y G b n ls st σ) : At y G b pc ls (.int x :: st) σ := by
  subst hp
  exact fun g H locs la hP hS hL => lv_if_ne g.1 g.2.1 hd ht (fun c => kt c g H locs la hP hS hL) (fun c => kf c g H locs la hP hS hL)
theorem st_if_lt (n tgt : Nat) {x : Int32} {off : Int} (hd : decode (yC y) pc = .ok (.ifCond .lt off, 3)) (hp : pc + 3 = n) (ht : (pc : Int) + off = (tgt : Int)) (kt : x < 0 → At y G b tgt ls st σ) (kf : ¬ x < 0 → At y G b n ls st σ) : At y G b pc ls (.int x :: st) σ := by
  subst hp
  exact fun g H locs la hP hS hL => lv_if_lt g.1 g.2.1 hd ht (fun c => kt c g H locs la hP hS hL) (fun c => kf c g H locs la hP hS hL)
theorem st_if_ge (n tgt : Nat) {x : Int32} {off : Int} (hd : decode (yC y) pc = .ok (.ifCond .ge off, 3)) (hp : pc + 3 = n) (ht : (pc : Int) + off = (tgt : Int)) (kt : 0 ≤ x → At y G b tgt ls st σ) (kf : ¬ 0 ≤ x → At y G b n ls st σ) : At y G b pc ls (.int x :: st) σ := by
  subst hp
  exact fun g H locs la hP hS hL => lv_if_ge g.1 g.2.1 hd ht (fun c => kt c g H locs la hP hS hL) (fun c => kf c g H locs la hP hS hL)
theorem st_if_gt (n tgt : Nat) {x : Int32} {off : Int} (hd : decode (yC y) pc = .ok (.ifCond .gt off, 3)) (hp : pc + 3 = n) (ht : (pc : Int) + off = (tgt : Int)) (kt : 0 < x → At y G b tgt ls st σ) (kf : ¬ 0 < x → At y G b n ls st σ) : At y G b pc ls (.int x :: st) σ := by
  subst hp
  exact fun g H locs la hP hS hL => lv_if_gt g.1 g.2.1 hd ht (fun c => kt c g H locs la hP hS hL) (fun c => kf c g H locs la hP hS hL)
theorem st_if_le (n tgt : Nat) {x : Int32} {off : Int} (hd : decode (yC y) pc = .ok (.ifCond .le off, 3)) (hp : pc + 3 = n) (ht : (pc : Int) + off = (tgt : Int)) (kt : x ≤ 0 → At y G b tgt ls st σ) (kf : ¬ x ≤ 0 → At y G b n ls st σ) : At y G b pc ls (.int x :: st) σ := by
  subst hp
  exact fun g H locs la hP hS hL => lv_if_le g.1 g.2.1 hd ht (fun c => kt c g H locs la hP hS hL) (fun c => kf c g H locs la hP hS hL)
theorem st_icmp_eq (n tgt : Nat) {x x2 : Int32} {off : Int} (hd : decode (yC y) pc = .ok (.if_icmp .eq off, 3)) (hp : pc + 3 = n) (ht : (pc : Int) + off = (tgt : Int)) (kt : x = x2 → At y G b tgt ls st σ) (kf : ¬ x = x2 → At y G b n ls st σ) : At y G b pc ls (.int x2 :: .int x :: st) σ := by
  subst hp
  exact fun g H locs la hP hS hL => lv_icmp_eq g.1 g.2.1 hd ht (fun c => kt c g H locs la hP hS hL) (fun c => kf c g H locs la hP hS hL)
theorem st_icmp_ne (n tgt : Nat) {x x2 : Int32} {off : Int} (hd : decode (yC y) pc = .ok (.if_icmp .ne off, 3)) (hp : pc + 3 = n) (ht : (pc : Int) + off = (tgt : Int)) (kt : ¬ x = x2 → At y G b tgt ls st σ) (kf : x = x2 → At y G b n ls st σ) : At y G b pc ls (.int x2 :: .int x :: st) σ := by
  subst hp
  exact fun g H locs la hP hS hL => lv_icmp_ne g.1 g.2.1 hd ht (fun c => kt c g H locs la hP hS hL) (fun c => kf c g H locs la hP hS hL)
theorem st_icmp_lt (n tgt : Nat) {x x2 : Int32} {off : Int} (hd : decode (yC y) pc = .ok (.if_icmp .lt off, 3)) (hp : pc + 3 = n) (ht : (pc : Int) + off = (tgt : Int)) (kt : x < x2 → At y G b tgt ls st σ) (kf : ¬ x < x2 → At y G b n ls st σ) : At y G b pc ls (.int x2 :: .int x :: st) σ := by
  subst hp
  exact fun g H locs la hP hS hL => lv_icmp_lt g.1 g.2.1 hd ht (fun c => kt c g H locs la hP hS hL) (fun c => kf c g H locs la hP hS hL)
theorem st_icmp_ge (n tgt : Nat) {x x2 : Int32} {off : Int} (hd : decode (yC y) pc = .ok (.if_icmp .ge off, 3)) (hp : pc + 3 = n) (ht : (pc : Int) + off = (tgt : Int)) (kt : x2 ≤ x → At y G b tgt ls st σ) (kf : ¬ x2 ≤ x → At y G b n ls st σ) : At y G b pc ls (.int x2 :: .int x :: st) σ := by
  subst hp
  exact fun g H locs la hP hS hL => lv_icmp_ge g.1 g.2.1 hd ht (fun c => kt c g H locs la hP hS hL) (fun c => kf c g H locs la hP hS hL)
theorem st_icmp_gt (n tgt : Nat) {x x2 : Int32} {off : Int} (hd : decode (yC y) pc = .ok (.if_icmp .gt off, 3)) (hp : pc + 3 = n) (ht : (pc : Int) + off = (tgt : Int)) (kt : x2 < x → At y G b tgt ls st σ) (kf : ¬ x2 < x → At y G b n ls st σ) : At y G b pc ls (.int x2 :: .int x :: st) σ := by
  subst hp
  exact fun g H locs la hP hS hL => lv_icmp_gt g.1 g.2.1 hd ht (fun c => kt c g H locs la hP hS hL) (fun c => kf c g H locs la hP hS hL)
theorem st_icmp_le (n tgt : Nat) {x x2 : Int32} {off : Int} (hd : decode (yC y) pc = .ok (.if_icmp .le off, 3)) (hp : pc + 3 = n) (ht : (pc : Int) + off = (tgt : Int)) (kt : x ≤ x2 → At y G b tgt ls st σ) (kf : ¬ x ≤ x2 → At y G b n ls st σ) : At y G b pc ls (.int x2 :: .int x :: st) σ := by
  subst hp
  exact fun g H locs la hP hS hL => lv_icmp_le g.1 g.2.1 hd ht (fun c => kt c g H locs la hP hS hL) (fun c => kf c g H locs la hP hS hL)
theorem st_goto (tgt : Nat) {off : Int} (hd : decode (yC y) pc = .ok (.goto off, 3)) (ht : (pc : Int) + off = (tgt : Int)) (k : At y G b tgt ls st σ) : At y G b pc ls st σ := fun g H locs la hP hS hL => lv_goto g.1 g.2.1 hd ht (k g H locs la hP hS hL)
theorem st_ldc (n : Nat) {own : String} {ix : Nat} {v : Int32} (ho : yO y = own) (hw : Cond.constant own ix v ∈ WT) (hd : decode (yC y) pc = .ok (.ldc ix, 2)) (hp : pc + 2 = n) (k : At y G b n ls (.int v :: st) σ) : At y G b pc ls st σ := by
  subst hp; subst ho
  exact fun g H locs la hP hS hL => lv_ldc g.1 g.2.1 g.2.2.2.1 (g.2.2.2.2.1 _ hw) hd (k g H locs la hP hS hL)
theorem st_ldc2 (n : Nat) {own : String} {ix : Nat} {v : Int64} (ho : yO y = own) (hw : Cond.constantLong own ix v ∈ WT) (hd : decode (yC y) pc = .ok (.ldc2_w ix, 3)) (hp : pc + 3 = n) (k : At y G b n ls (.long v :: st) σ) : At y G b pc ls st σ := by
  subst hp; subst ho
  exact fun g H locs la hP hS hL => lv_ldc2 g.1 g.2.1 g.2.2.2.1 (g.2.2.2.2.1 _ hw) hd (k g H locs la hP hS hL)
theorem st_ldcS (n : Nat) {own tx : String} {ix q : Nat} (ho : yO y = own) (hw : (own, ix, tx, q) ∈ stW) (hd : decode (yC y) pc = .ok (.ldc ix, 2)) (hp : pc + 2 = n) (k : At y G b n ls (sf G q :: st) σ) : At y G b pc ls st σ := by
  subst hp; subst ho
  intro g H locs la hP hS hL
  have hs := g.2.2.2.2.2.2.2.2.1
  exact va_ldcS g.1 g.2.1 g.2.2.2.1 (hs.2.2 _ hw) hd (k g H locs la hP hS hL)
theorem st_tableIn (tgt : Nat) {dflt lo hi : Int} {offs : Array Int} {len : Nat} {x : Int32} {off : Int} (hd : decode (yC y) pc = .ok (.tableswitch dflt lo hi offs, len)) (h1 : ¬ x.toInt < lo) (h2 : ¬ hi < x.toInt) (ho : offs[(x.toInt - lo).toNat]? = some off) (ht : (pc : Int) + off = (tgt : Int)) (k : At y G b tgt ls st σ) : At y G b pc ls (.int x :: st) σ := fun g H locs la hP hS hL => lv_tableIn g.1 g.2.1 hd h1 h2 ho ht (k g H locs la hP hS hL)
theorem st_tableOut (tgt : Nat) {dflt lo hi : Int} {offs : Array Int} {len : Nat} {x : Int32} (hd : decode (yC y) pc = .ok (.tableswitch dflt lo hi offs, len)) (h : x.toInt < lo ∨ hi < x.toInt) (ht : (pc : Int) + dflt = (tgt : Int)) (k : At y G b tgt ls st σ) : At y G b pc ls (.int x :: st) σ := fun g H locs la hP hS hL => lv_tableOut g.1 g.2.1 hd h ht (k g H locs la hP hS hL)
end Rules
section Shapes
variable {y : Yd} {G : Cx} {b : Ab} {pc : Nat} {st : List Value} {σ : Mm}
theorem ald_1_0 (n : Nat) {v : Value} (hr : isR v = true) (hd : decode (yC y) pc = .ok (.aload_n 0, 1)) (hp : pc + 1 = n) (k : At y G b n [some (v)] (v :: st) σ) : At y G b pc [some (v)] st σ := by
  subst hp
  intro g H locs la hP hS hL
  obtain ⟨q, rfl⟩ := isR_of hr
  exact lv_aload_n g.1 g.2.1 hd rfl (hL.2.2 0 _ rfl) (k g H locs la hP hS hL)
theorem ald_2_0 (n : Nat) {a1 : Option Value} {v : Value} (hr : isR v = true) (hd : decode (yC y) pc = .ok (.aload_n 0, 1)) (hp : pc + 1 = n) (k : At y G b n [some (v), a1] (v :: st) σ) : At y G b pc [some (v), a1] st σ := by
  subst hp
  intro g H locs la hP hS hL
  obtain ⟨q, rfl⟩ := isR_of hr
  exact lv_aload_n g.1 g.2.1 hd rfl (hL.2.2 0 _ rfl) (k g H locs la hP hS hL)
theorem ald_2_1 (n : Nat) {a0 : Option Value} {v : Value} (hr : isR v = true) (hd : decode (yC y) pc = .ok (.aload_n 1, 1)) (hp : pc + 1 = n) (k : At y G b n [a0, some (v)] (v :: st) σ) : At y G b pc [a0, some (v)] st σ := by
  subst hp
  intro g H locs la hP hS hL
  obtain ⟨q, rfl⟩ := isR_of hr
  exact lv_aload_n g.1 g.2.1 hd rfl (hL.2.2 1 _ rfl) (k g H locs la hP hS hL)
theorem ald_3_0 (n : Nat) {a1 a2 : Option Value} {v : Value} (hr : isR v = true) (hd : decode (yC y) pc = .ok (.aload_n 0, 1)) (hp : pc + 1 = n) (k : At y G b n [some (v), a1, a2] (v :: st) σ) : At y G b pc [some (v), a1, a2] st σ := by
  subst hp
  intro g H locs la hP hS hL
  obtain ⟨q, rfl⟩ := isR_of hr
  exact lv_aload_n g.1 g.2.1 hd rfl (hL.2.2 0 _ rfl) (k g H locs la hP hS hL)
theorem ald_3_1 (n : Nat) {a0 a2 : Option Value} {v : Value} (hr : isR v = true) (hd : decode (yC y) pc = .ok (.aload_n 1, 1)) (hp : pc + 1 = n) (k : At y G b n [a0, some (v), a2] (v :: st) σ) : At y G b pc [a0, some (v), a2] st σ := by
  subst hp
  intro g H locs la hP hS hL
  obtain ⟨q, rfl⟩ := isR_of hr
  exact lv_aload_n g.1 g.2.1 hd rfl (hL.2.2 1 _ rfl) (k g H locs la hP hS hL)
theorem ald_3_2 (n : Nat) {a0 a1 : Option Value} {v : Value} (hr : isR v = true) (hd : decode (yC y) pc = .ok (.aload_n 2, 1)) (hp : pc + 1 = n) (k : At y G b n [a0, a1, some (v)] (v :: st) σ) : At y G b pc [a0, a1, some (v)] st σ := by
  subst hp
  intro g H locs la hP hS hL
  obtain ⟨q, rfl⟩ := isR_of hr
  exact lv_aload_n g.1 g.2.1 hd rfl (hL.2.2 2 _ rfl) (k g H locs la hP hS hL)
theorem ald_4_0 (n : Nat) {a1 a2 a3 : Option Value} {v : Value} (hr : isR v = true) (hd : decode (yC y) pc = .ok (.aload_n 0, 1)) (hp : pc + 1 = n) (k : At y G b n [some (v), a1, a2, a3] (v :: st) σ) : At y G b pc [some (v), a1, a2, a3] st σ := by
  subst hp
  intro g H locs la hP hS hL
  obtain ⟨q, rfl⟩ := isR_of hr
  exact lv_aload_n g.1 g.2.1 hd rfl (hL.2.2 0 _ rfl) (k g H locs la hP hS hL)
theorem ald_4_1 (n : Nat) {a0 a2 a3 : Option Value} {v : Value} (hr : isR v = true) (hd : decode (yC y) pc = .ok (.aload_n 1, 1)) (hp : pc + 1 = n) (k : At y G b n [a0, some (v), a2, a3] (v :: st) σ) : At y G b pc [a0, some (v), a2, a3] st σ := by
  subst hp
  intro g H locs la hP hS hL
  obtain ⟨q, rfl⟩ := isR_of hr
  exact lv_aload_n g.1 g.2.1 hd rfl (hL.2.2 1 _ rfl) (k g H locs la hP hS hL)
theorem ald_4_2 (n : Nat) {a0 a1 a3 : Option Value} {v : Value} (hr : isR v = true) (hd : decode (yC y) pc = .ok (.aload_n 2, 1)) (hp : pc + 1 = n) (k : At y G b n [a0, a1, some (v), a3] (v :: st) σ) : At y G b pc [a0, a1, some (v), a3] st σ := by
  subst hp
  intro g H locs la hP hS hL
  obtain ⟨q, rfl⟩ := isR_of hr
  exact lv_aload_n g.1 g.2.1 hd rfl (hL.2.2 2 _ rfl) (k g H locs la hP hS hL)
theorem ald_4_3 (n : Nat) {a0 a1 a2 : Option Value} {v : Value} (hr : isR v = true) (hd : decode (yC y) pc = .ok (.aload_n 3, 1)) (hp : pc + 1 = n) (k : At y G b n [a0, a1, a2, some (v)] (v :: st) σ) : At y G b pc [a0, a1, a2, some (v)] st σ := by
  subst hp
  intro g H locs la hP hS hL
  obtain ⟨q, rfl⟩ := isR_of hr
  exact lv_aload_n g.1 g.2.1 hd rfl (hL.2.2 3 _ rfl) (k g H locs la hP hS hL)
theorem ald_5_0 (n : Nat) {a1 a2 a3 a4 : Option Value} {v : Value} (hr : isR v = true) (hd : decode (yC y) pc = .ok (.aload_n 0, 1)) (hp : pc + 1 = n) (k : At y G b n [some (v), a1, a2, a3, a4] (v :: st) σ) : At y G b pc [some (v), a1, a2, a3, a4] st σ := by
  subst hp
  intro g H locs la hP hS hL
  obtain ⟨q, rfl⟩ := isR_of hr
  exact lv_aload_n g.1 g.2.1 hd rfl (hL.2.2 0 _ rfl) (k g H locs la hP hS hL)
theorem ald_5_1 (n : Nat) {a0 a2 a3 a4 : Option Value} {v : Value} (hr : isR v = true) (hd : decode (yC y) pc = .ok (.aload_n 1, 1)) (hp : pc + 1 = n) (k : At y G b n [a0, some (v), a2, a3, a4] (v :: st) σ) : At y G b pc [a0, some (v), a2, a3, a4] st σ := by
  subst hp
  intro g H locs la hP hS hL
  obtain ⟨q, rfl⟩ := isR_of hr
  exact lv_aload_n g.1 g.2.1 hd rfl (hL.2.2 1 _ rfl) (k g H locs la hP hS hL)
theorem ald_5_4 (n : Nat) {a0 a1 a2 a3 : Option Value} {v : Value} (hr : isR v = true) (hd : decode (yC y) pc = .ok (.aload 4, 2)) (hp : pc + 2 = n) (k : At y G b n [a0, a1, a2, a3, some (v)] (v :: st) σ) : At y G b pc [a0, a1, a2, a3, some (v)] st σ := by
  subst hp
  intro g H locs la hP hS hL
  obtain ⟨q, rfl⟩ := isR_of hr
  exact lv_aload g.1 g.2.1 hd (hL.2.2 4 _ rfl) (k g H locs la hP hS hL)
theorem ald_6_0 (n : Nat) {a1 a2 a3 a4 a5 : Option Value} {v : Value} (hr : isR v = true) (hd : decode (yC y) pc = .ok (.aload_n 0, 1)) (hp : pc + 1 = n) (k : At y G b n [some (v), a1, a2, a3, a4, a5] (v :: st) σ) : At y G b pc [some (v), a1, a2, a3, a4, a5] st σ := by
  subst hp
  intro g H locs la hP hS hL
  obtain ⟨q, rfl⟩ := isR_of hr
  exact lv_aload_n g.1 g.2.1 hd rfl (hL.2.2 0 _ rfl) (k g H locs la hP hS hL)
theorem ald_7_0 (n : Nat) {a1 a2 a3 a4 a5 a6 : Option Value} {v : Value} (hr : isR v = true) (hd : decode (yC y) pc = .ok (.aload_n 0, 1)) (hp : pc + 1 = n) (k : At y G b n [some (v), a1, a2, a3, a4, a5, a6] (v :: st) σ) : At y G b pc [some (v), a1, a2, a3, a4, a5, a6] st σ := by
  subst hp
  intro g H locs la hP hS hL
  obtain ⟨q, rfl⟩ := isR_of hr
  exact lv_aload_n g.1 g.2.1 hd rfl (hL.2.2 0 _ rfl) (k g H locs la hP hS hL)
theorem ald_8_0 (n : Nat) {a1 a2 a3 a4 a5 a6 a7 : Option Value} {v : Value} (hr : isR v = true) (hd : decode (yC y) pc = .ok (.aload_n 0, 1)) (hp : pc + 1 = n) (k : At y G b n [some (v), a1, a2, a3, a4, a5, a6, a7] (v :: st) σ) : At y G b pc [some (v), a1, a2, a3, a4, a5, a6, a7] st σ := by
  subst hp
  intro g H locs la hP hS hL
  obtain ⟨q, rfl⟩ := isR_of hr
  exact lv_aload_n g.1 g.2.1 hd rfl (hL.2.2 0 _ rfl) (k g H locs la hP hS hL)
theorem ald_8_1 (n : Nat) {a0 a2 a3 a4 a5 a6 a7 : Option Value} {v : Value} (hr : isR v = true) (hd : decode (yC y) pc = .ok (.aload_n 1, 1)) (hp : pc + 1 = n) (k : At y G b n [a0, some (v), a2, a3, a4, a5, a6, a7] (v :: st) σ) : At y G b pc [a0, some (v), a2, a3, a4, a5, a6, a7] st σ := by
  subst hp
  intro g H locs la hP hS hL
  obtain ⟨q, rfl⟩ := isR_of hr
  exact lv_aload_n g.1 g.2.1 hd rfl (hL.2.2 1 _ rfl) (k g H locs la hP hS hL)
theorem ald_8_6 (n : Nat) {a0 a1 a2 a3 a4 a5 a7 : Option Value} {v : Value} (hr : isR v = true) (hd : decode (yC y) pc = .ok (.aload 6, 2)) (hp : pc + 2 = n) (k : At y G b n [a0, a1, a2, a3, a4, a5, some (v), a7] (v :: st) σ) : At y G b pc [a0, a1, a2, a3, a4, a5, some (v), a7] st σ := by
  subst hp
  intro g H locs la hP hS hL
  obtain ⟨q, rfl⟩ := isR_of hr
  exact lv_aload g.1 g.2.1 hd (hL.2.2 6 _ rfl) (k g H locs la hP hS hL)
theorem ald_9_0 (n : Nat) {a1 a2 a3 a4 a5 a6 a7 a8 : Option Value} {v : Value} (hr : isR v = true) (hd : decode (yC y) pc = .ok (.aload_n 0, 1)) (hp : pc + 1 = n) (k : At y G b n [some (v), a1, a2, a3, a4, a5, a6, a7, a8] (v :: st) σ) : At y G b pc [some (v), a1, a2, a3, a4, a5, a6, a7, a8] st σ := by
  subst hp
  intro g H locs la hP hS hL
  obtain ⟨q, rfl⟩ := isR_of hr
  exact lv_aload_n g.1 g.2.1 hd rfl (hL.2.2 0 _ rfl) (k g H locs la hP hS hL)
theorem ald_9_1 (n : Nat) {a0 a2 a3 a4 a5 a6 a7 a8 : Option Value} {v : Value} (hr : isR v = true) (hd : decode (yC y) pc = .ok (.aload_n 1, 1)) (hp : pc + 1 = n) (k : At y G b n [a0, some (v), a2, a3, a4, a5, a6, a7, a8] (v :: st) σ) : At y G b pc [a0, some (v), a2, a3, a4, a5, a6, a7, a8] st σ := by
  subst hp
  intro g H locs la hP hS hL
  obtain ⟨q, rfl⟩ := isR_of hr
  exact lv_aload_n g.1 g.2.1 hd rfl (hL.2.2 1 _ rfl) (k g H locs la hP hS hL)
theorem ald_10_0 (n : Nat) {a1 a2 a3 a4 a5 a6 a7 a8 a9 : Option Value} {v : Value} (hr : isR v = true) (hd : decode (yC y) pc = .ok (.aload_n 0, 1)) (hp : pc + 1 = n) (k : At y G b n [some (v), a1, a2, a3, a4, a5, a6, a7, a8, a9] (v :: st) σ) : At y G b pc [some (v), a1, a2, a3, a4, a5, a6, a7, a8, a9] st σ := by
  subst hp
  intro g H locs la hP hS hL
  obtain ⟨q, rfl⟩ := isR_of hr
  exact lv_aload_n g.1 g.2.1 hd rfl (hL.2.2 0 _ rfl) (k g H locs la hP hS hL)
theorem ald_11_0 (n : Nat) {a1 a2 a3 a4 a5 a6 a7 a8 a9 a10 : Option Value} {v : Value} (hr : isR v = true) (hd : decode (yC y) pc = .ok (.aload_n 0, 1)) (hp : pc + 1 = n) (k : At y G b n [some (v), a1, a2, a3, a4, a5, a6, a7, a8, a9, a10] (v :: st) σ) : At y G b pc [some (v), a1, a2, a3, a4, a5, a6, a7, a8, a9, a10] st σ := by
  subst hp
  intro g H locs la hP hS hL
  obtain ⟨q, rfl⟩ := isR_of hr
  exact lv_aload_n g.1 g.2.1 hd rfl (hL.2.2 0 _ rfl) (k g H locs la hP hS hL)
theorem ast_2_1 (n : Nat) {a0 a1 : Option Value} {v : Value} (hr : isR v = true) (hd : decode (yC y) pc = .ok (.astore_n 1, 1)) (hn : yL y = 2) (ho : okp [a0, a1] 1 = true) (hp : pc + 1 = n) (k : At y G b n [a0, some (v)] st σ) : At y G b pc [a0, a1] (v :: st) σ := by
  subst hp
  intro g H locs la hP hS hL
  obtain ⟨q, rfl⟩ := isR_of hr
  exact lv_astore_n g.1 g.2.1 hd rfl hL.has (by rw [hn]; decide) rfl (fun la2 h2 => k g H locs la2 hP hS (Lc.store1 ho h2))
theorem ast_4_1 (n : Nat) {a0 a1 a2 a3 : Option Value} {v : Value} (hr : isR v = true) (hd : decode (yC y) pc = .ok (.astore_n 1, 1)) (hn : yL y = 4) (ho : okp [a0, a1, a2, a3] 1 = true) (hp : pc + 1 = n) (k : At y G b n [a0, some (v), a2, a3] st σ) : At y G b pc [a0, a1, a2, a3] (v :: st) σ := by
  subst hp
  intro g H locs la hP hS hL
  obtain ⟨q, rfl⟩ := isR_of hr
  exact lv_astore_n g.1 g.2.1 hd rfl hL.has (by rw [hn]; decide) rfl (fun la2 h2 => k g H locs la2 hP hS (Lc.store1 ho h2))
theorem ast_4_2 (n : Nat) {a0 a1 a2 a3 : Option Value} {v : Value} (hr : isR v = true) (hd : decode (yC y) pc = .ok (.astore_n 2, 1)) (hn : yL y = 4) (ho : okp [a0, a1, a2, a3] 2 = true) (hp : pc + 1 = n) (k : At y G b n [a0, a1, some (v), a3] st σ) : At y G b pc [a0, a1, a2, a3] (v :: st) σ := by
  subst hp
  intro g H locs la hP hS hL
  obtain ⟨q, rfl⟩ := isR_of hr
  exact lv_astore_n g.1 g.2.1 hd rfl hL.has (by rw [hn]; decide) rfl (fun la2 h2 => k g H locs la2 hP hS (Lc.store1 ho h2))
theorem ast_5_4 (n : Nat) {a0 a1 a2 a3 a4 : Option Value} {v : Value} (hr : isR v = true) (hd : decode (yC y) pc = .ok (.astore 4, 2)) (hn : yL y = 5) (ho : okp [a0, a1, a2, a3, a4] 4 = true) (hp : pc + 2 = n) (k : At y G b n [a0, a1, a2, a3, some (v)] st σ) : At y G b pc [a0, a1, a2, a3, a4] (v :: st) σ := by
  subst hp
  intro g H locs la hP hS hL
  obtain ⟨q, rfl⟩ := isR_of hr
  exact lv_astore g.1 g.2.1 hd hL.has (by rw [hn]; decide) rfl (fun la2 h2 => k g H locs la2 hP hS (Lc.store1 ho h2))
theorem ast_8_6 (n : Nat) {a0 a1 a2 a3 a4 a5 a6 a7 : Option Value} {v : Value} (hr : isR v = true) (hd : decode (yC y) pc = .ok (.astore 6, 2)) (hn : yL y = 8) (ho : okp [a0, a1, a2, a3, a4, a5, a6, a7] 6 = true) (hp : pc + 2 = n) (k : At y G b n [a0, a1, a2, a3, a4, a5, some (v), a7] st σ) : At y G b pc [a0, a1, a2, a3, a4, a5, a6, a7] (v :: st) σ := by
  subst hp
  intro g H locs la hP hS hL
  obtain ⟨q, rfl⟩ := isR_of hr
  exact lv_astore g.1 g.2.1 hd hL.has (by rw [hn]; decide) rfl (fun la2 h2 => k g H locs la2 hP hS (Lc.store1 ho h2))
theorem inc_2_1 (n : Nat) {a0 : Option Value} {x w : Int32} {z : Int} (hd : decode (yC y) pc = .ok (.iinc 1 z, 3)) (hw : Int32.ofInt z = w) (hn : yL y = 2) (ho : okp [a0, some (.int x)] 1 = true) (hp : pc + 3 = n) (k : At y G b n [a0, some (.int (x + w))] st σ) : At y G b pc [a0, some (.int x)] st σ := by
  subst hp; subst hw
  intro g H locs la hP hS hL
  obtain ⟨j, hj⟩ := List.getElem?_of_mem ((al_mem [a0, some (.int x)] 0 1 (.int x)).mpr ⟨1, rfl, rfl⟩)
  exact lv_iinc g.1 g.2.1 hd hL.has hj rfl (by rw [hn]; decide) rfl (fun la2 h2 => k g H locs la2 hP hS (Lc.store1 ho h2))
theorem inc_3_2 (n : Nat) {a0 a1 : Option Value} {x w : Int32} {z : Int} (hd : decode (yC y) pc = .ok (.iinc 2 z, 3)) (hw : Int32.ofInt z = w) (hn : yL y = 3) (ho : okp [a0, a1, some (.int x)] 2 = true) (hp : pc + 3 = n) (k : At y G b n [a0, a1, some (.int (x + w))] st σ) : At y G b pc [a0, a1, some (.int x)] st σ := by
  subst hp; subst hw
  intro g H locs la hP hS hL
  obtain ⟨j, hj⟩ := List.getElem?_of_mem ((al_mem [a0, a1, some (.int x)] 0 2 (.int x)).mpr ⟨2, rfl, rfl⟩)
  exact lv_iinc g.1 g.2.1 hd hL.has hj rfl (by rw [hn]; decide) rfl (fun la2 h2 => k g H locs la2 hP hS (Lc.store1 ho h2))
theorem inc_4_1 (n : Nat) {a0 a2 a3 : Option Value} {x w : Int32} {z : Int} (hd : decode (yC y) pc = .ok (.iinc 1 z, 3)) (hw : Int32.ofInt z = w) (hn : yL y = 4) (ho : okp [a0, some (.int x), a2, a3] 1 = true) (hp : pc + 3 = n) (k : At y G b n [a0, some (.int (x + w)), a2, a3] st σ) : At y G b pc [a0, some (.int x), a2, a3] st σ := by
  subst hp; subst hw
  intro g H locs la hP hS hL
  obtain ⟨j, hj⟩ := List.getElem?_of_mem ((al_mem [a0, some (.int x), a2, a3] 0 1 (.int x)).mpr ⟨1, rfl, rfl⟩)
  exact lv_iinc g.1 g.2.1 hd hL.has hj rfl (by rw [hn]; decide) rfl (fun la2 h2 => k g H locs la2 hP hS (Lc.store1 ho h2))
theorem inc_4_2 (n : Nat) {a0 a1 a3 : Option Value} {x w : Int32} {z : Int} (hd : decode (yC y) pc = .ok (.iinc 2 z, 3)) (hw : Int32.ofInt z = w) (hn : yL y = 4) (ho : okp [a0, a1, some (.int x), a3] 2 = true) (hp : pc + 3 = n) (k : At y G b n [a0, a1, some (.int (x + w)), a3] st σ) : At y G b pc [a0, a1, some (.int x), a3] st σ := by
  subst hp; subst hw
  intro g H locs la hP hS hL
  obtain ⟨j, hj⟩ := List.getElem?_of_mem ((al_mem [a0, a1, some (.int x), a3] 0 2 (.int x)).mpr ⟨2, rfl, rfl⟩)
  exact lv_iinc g.1 g.2.1 hd hL.has hj rfl (by rw [hn]; decide) rfl (fun la2 h2 => k g H locs la2 hP hS (Lc.store1 ho h2))
theorem inc_4_3 (n : Nat) {a0 a1 a2 : Option Value} {x w : Int32} {z : Int} (hd : decode (yC y) pc = .ok (.iinc 3 z, 3)) (hw : Int32.ofInt z = w) (hn : yL y = 4) (ho : okp [a0, a1, a2, some (.int x)] 3 = true) (hp : pc + 3 = n) (k : At y G b n [a0, a1, a2, some (.int (x + w))] st σ) : At y G b pc [a0, a1, a2, some (.int x)] st σ := by
  subst hp; subst hw
  intro g H locs la hP hS hL
  obtain ⟨j, hj⟩ := List.getElem?_of_mem ((al_mem [a0, a1, a2, some (.int x)] 0 3 (.int x)).mpr ⟨3, rfl, rfl⟩)
  exact lv_iinc g.1 g.2.1 hd hL.has hj rfl (by rw [hn]; decide) rfl (fun la2 h2 => k g H locs la2 hP hS (Lc.store1 ho h2))
theorem inc_5_2 (n : Nat) {a0 a1 a3 a4 : Option Value} {x w : Int32} {z : Int} (hd : decode (yC y) pc = .ok (.iinc 2 z, 3)) (hw : Int32.ofInt z = w) (hn : yL y = 5) (ho : okp [a0, a1, some (.int x), a3, a4] 2 = true) (hp : pc + 3 = n) (k : At y G b n [a0, a1, some (.int (x + w)), a3, a4] st σ) : At y G b pc [a0, a1, some (.int x), a3, a4] st σ := by
  subst hp; subst hw
  intro g H locs la hP hS hL
  obtain ⟨j, hj⟩ := List.getElem?_of_mem ((al_mem [a0, a1, some (.int x), a3, a4] 0 2 (.int x)).mpr ⟨2, rfl, rfl⟩)
  exact lv_iinc g.1 g.2.1 hd hL.has hj rfl (by rw [hn]; decide) rfl (fun la2 h2 => k g H locs la2 hP hS (Lc.store1 ho h2))
theorem inc_5_3 (n : Nat) {a0 a1 a2 a4 : Option Value} {x w : Int32} {z : Int} (hd : decode (yC y) pc = .ok (.iinc 3 z, 3)) (hw : Int32.ofInt z = w) (hn : yL y = 5) (ho : okp [a0, a1, a2, some (.int x), a4] 3 = true) (hp : pc + 3 = n) (k : At y G b n [a0, a1, a2, some (.int (x + w)), a4] st σ) : At y G b pc [a0, a1, a2, some (.int x), a4] st σ := by
  subst hp; subst hw
  intro g H locs la hP hS hL
  obtain ⟨j, hj⟩ := List.getElem?_of_mem ((al_mem [a0, a1, a2, some (.int x), a4] 0 3 (.int x)).mpr ⟨3, rfl, rfl⟩)
  exact lv_iinc g.1 g.2.1 hd hL.has hj rfl (by rw [hn]; decide) rfl (fun la2 h2 => k g H locs la2 hP hS (Lc.store1 ho h2))
theorem inc_5_4 (n : Nat) {a0 a1 a2 a3 : Option Value} {x w : Int32} {z : Int} (hd : decode (yC y) pc = .ok (.iinc 4 z, 3)) (hw : Int32.ofInt z = w) (hn : yL y = 5) (ho : okp [a0, a1, a2, a3, some (.int x)] 4 = true) (hp : pc + 3 = n) (k : At y G b n [a0, a1, a2, a3, some (.int (x + w))] st σ) : At y G b pc [a0, a1, a2, a3, some (.int x)] st σ := by
  subst hp; subst hw
  intro g H locs la hP hS hL
  obtain ⟨j, hj⟩ := List.getElem?_of_mem ((al_mem [a0, a1, a2, a3, some (.int x)] 0 4 (.int x)).mpr ⟨4, rfl, rfl⟩)
  exact lv_iinc g.1 g.2.1 hd hL.has hj rfl (by rw [hn]; decide) rfl (fun la2 h2 => k g H locs la2 hP hS (Lc.store1 ho h2))
theorem inc_6_1 (n : Nat) {a0 a2 a3 a4 a5 : Option Value} {x w : Int32} {z : Int} (hd : decode (yC y) pc = .ok (.iinc 1 z, 3)) (hw : Int32.ofInt z = w) (hn : yL y = 6) (ho : okp [a0, some (.int x), a2, a3, a4, a5] 1 = true) (hp : pc + 3 = n) (k : At y G b n [a0, some (.int (x + w)), a2, a3, a4, a5] st σ) : At y G b pc [a0, some (.int x), a2, a3, a4, a5] st σ := by
  subst hp; subst hw
  intro g H locs la hP hS hL
  obtain ⟨j, hj⟩ := List.getElem?_of_mem ((al_mem [a0, some (.int x), a2, a3, a4, a5] 0 1 (.int x)).mpr ⟨1, rfl, rfl⟩)
  exact lv_iinc g.1 g.2.1 hd hL.has hj rfl (by rw [hn]; decide) rfl (fun la2 h2 => k g H locs la2 hP hS (Lc.store1 ho h2))
theorem inc_6_2 (n : Nat) {a0 a1 a3 a4 a5 : Option Value} {x w : Int32} {z : Int} (hd : decode (yC y) pc = .ok (.iinc 2 z, 3)) (hw : Int32.ofInt z = w) (hn : yL y = 6) (ho : okp [a0, a1, some (.int x), a3, a4, a5] 2 = true) (hp : pc + 3 = n) (k : At y G b n [a0, a1, some (.int (x + w)), a3, a4, a5] st σ) : At y G b pc [a0, a1, some (.int x), a3, a4, a5] st σ := by
  subst hp; subst hw
  intro g H locs la hP hS hL
  obtain ⟨j, hj⟩ := List.getElem?_of_mem ((al_mem [a0, a1, some (.int x), a3, a4, a5] 0 2 (.int x)).mpr ⟨2, rfl, rfl⟩)
  exact lv_iinc g.1 g.2.1 hd hL.has hj rfl (by rw [hn]; decide) rfl (fun la2 h2 => k g H locs la2 hP hS (Lc.store1 ho h2))
theorem inc_6_3 (n : Nat) {a0 a1 a2 a4 a5 : Option Value} {x w : Int32} {z : Int} (hd : decode (yC y) pc = .ok (.iinc 3 z, 3)) (hw : Int32.ofInt z = w) (hn : yL y = 6) (ho : okp [a0, a1, a2, some (.int x), a4, a5] 3 = true) (hp : pc + 3 = n) (k : At y G b n [a0, a1, a2, some (.int (x + w)), a4, a5] st σ) : At y G b pc [a0, a1, a2, some (.int x), a4, a5] st σ := by
  subst hp; subst hw
  intro g H locs la hP hS hL
  obtain ⟨j, hj⟩ := List.getElem?_of_mem ((al_mem [a0, a1, a2, some (.int x), a4, a5] 0 3 (.int x)).mpr ⟨3, rfl, rfl⟩)
  exact lv_iinc g.1 g.2.1 hd hL.has hj rfl (by rw [hn]; decide) rfl (fun la2 h2 => k g H locs la2 hP hS (Lc.store1 ho h2))
theorem inc_6_4 (n : Nat) {a0 a1 a2 a3 a5 : Option Value} {x w : Int32} {z : Int} (hd : decode (yC y) pc = .ok (.iinc 4 z, 3)) (hw : Int32.ofInt z = w) (hn : yL y = 6) (ho : okp [a0, a1, a2, a3, some (.int x), a5] 4 = true) (hp : pc + 3 = n) (k : At y G b n [a0, a1, a2, a3, some (.int (x + w)), a5] st σ) : At y G b pc [a0, a1, a2, a3, some (.int x), a5] st σ := by
  subst hp; subst hw
  intro g H locs la hP hS hL
  obtain ⟨j, hj⟩ := List.getElem?_of_mem ((al_mem [a0, a1, a2, a3, some (.int x), a5] 0 4 (.int x)).mpr ⟨4, rfl, rfl⟩)
  exact lv_iinc g.1 g.2.1 hd hL.has hj rfl (by rw [hn]; decide) rfl (fun la2 h2 => k g H locs la2 hP hS (Lc.store1 ho h2))
theorem inc_6_5 (n : Nat) {a0 a1 a2 a3 a4 : Option Value} {x w : Int32} {z : Int} (hd : decode (yC y) pc = .ok (.iinc 5 z, 3)) (hw : Int32.ofInt z = w) (hn : yL y = 6) (ho : okp [a0, a1, a2, a3, a4, some (.int x)] 5 = true) (hp : pc + 3 = n) (k : At y G b n [a0, a1, a2, a3, a4, some (.int (x + w))] st σ) : At y G b pc [a0, a1, a2, a3, a4, some (.int x)] st σ := by
  subst hp; subst hw
  intro g H locs la hP hS hL
  obtain ⟨j, hj⟩ := List.getElem?_of_mem ((al_mem [a0, a1, a2, a3, a4, some (.int x)] 0 5 (.int x)).mpr ⟨5, rfl, rfl⟩)
  exact lv_iinc g.1 g.2.1 hd hL.has hj rfl (by rw [hn]; decide) rfl (fun la2 h2 => k g H locs la2 hP hS (Lc.store1 ho h2))
theorem inc_7_1 (n : Nat) {a0 a2 a3 a4 a5 a6 : Option Value} {x w : Int32} {z : Int} (hd : decode (yC y) pc = .ok (.iinc 1 z, 3)) (hw : Int32.ofInt z = w) (hn : yL y = 7) (ho : okp [a0, some (.int x), a2, a3, a4, a5, a6] 1 = true) (hp : pc + 3 = n) (k : At y G b n [a0, some (.int (x + w)), a2, a3, a4, a5, a6] st σ) : At y G b pc [a0, some (.int x), a2, a3, a4, a5, a6] st σ := by
  subst hp; subst hw
  intro g H locs la hP hS hL
  obtain ⟨j, hj⟩ := List.getElem?_of_mem ((al_mem [a0, some (.int x), a2, a3, a4, a5, a6] 0 1 (.int x)).mpr ⟨1, rfl, rfl⟩)
  exact lv_iinc g.1 g.2.1 hd hL.has hj rfl (by rw [hn]; decide) rfl (fun la2 h2 => k g H locs la2 hP hS (Lc.store1 ho h2))
theorem inc_7_2 (n : Nat) {a0 a1 a3 a4 a5 a6 : Option Value} {x w : Int32} {z : Int} (hd : decode (yC y) pc = .ok (.iinc 2 z, 3)) (hw : Int32.ofInt z = w) (hn : yL y = 7) (ho : okp [a0, a1, some (.int x), a3, a4, a5, a6] 2 = true) (hp : pc + 3 = n) (k : At y G b n [a0, a1, some (.int (x + w)), a3, a4, a5, a6] st σ) : At y G b pc [a0, a1, some (.int x), a3, a4, a5, a6] st σ := by
  subst hp; subst hw
  intro g H locs la hP hS hL
  obtain ⟨j, hj⟩ := List.getElem?_of_mem ((al_mem [a0, a1, some (.int x), a3, a4, a5, a6] 0 2 (.int x)).mpr ⟨2, rfl, rfl⟩)
  exact lv_iinc g.1 g.2.1 hd hL.has hj rfl (by rw [hn]; decide) rfl (fun la2 h2 => k g H locs la2 hP hS (Lc.store1 ho h2))
theorem inc_7_3 (n : Nat) {a0 a1 a2 a4 a5 a6 : Option Value} {x w : Int32} {z : Int} (hd : decode (yC y) pc = .ok (.iinc 3 z, 3)) (hw : Int32.ofInt z = w) (hn : yL y = 7) (ho : okp [a0, a1, a2, some (.int x), a4, a5, a6] 3 = true) (hp : pc + 3 = n) (k : At y G b n [a0, a1, a2, some (.int (x + w)), a4, a5, a6] st σ) : At y G b pc [a0, a1, a2, some (.int x), a4, a5, a6] st σ := by
  subst hp; subst hw
  intro g H locs la hP hS hL
  obtain ⟨j, hj⟩ := List.getElem?_of_mem ((al_mem [a0, a1, a2, some (.int x), a4, a5, a6] 0 3 (.int x)).mpr ⟨3, rfl, rfl⟩)
  exact lv_iinc g.1 g.2.1 hd hL.has hj rfl (by rw [hn]; decide) rfl (fun la2 h2 => k g H locs la2 hP hS (Lc.store1 ho h2))
theorem inc_7_4 (n : Nat) {a0 a1 a2 a3 a5 a6 : Option Value} {x w : Int32} {z : Int} (hd : decode (yC y) pc = .ok (.iinc 4 z, 3)) (hw : Int32.ofInt z = w) (hn : yL y = 7) (ho : okp [a0, a1, a2, a3, some (.int x), a5, a6] 4 = true) (hp : pc + 3 = n) (k : At y G b n [a0, a1, a2, a3, some (.int (x + w)), a5, a6] st σ) : At y G b pc [a0, a1, a2, a3, some (.int x), a5, a6] st σ := by
  subst hp; subst hw
  intro g H locs la hP hS hL
  obtain ⟨j, hj⟩ := List.getElem?_of_mem ((al_mem [a0, a1, a2, a3, some (.int x), a5, a6] 0 4 (.int x)).mpr ⟨4, rfl, rfl⟩)
  exact lv_iinc g.1 g.2.1 hd hL.has hj rfl (by rw [hn]; decide) rfl (fun la2 h2 => k g H locs la2 hP hS (Lc.store1 ho h2))
theorem inc_7_5 (n : Nat) {a0 a1 a2 a3 a4 a6 : Option Value} {x w : Int32} {z : Int} (hd : decode (yC y) pc = .ok (.iinc 5 z, 3)) (hw : Int32.ofInt z = w) (hn : yL y = 7) (ho : okp [a0, a1, a2, a3, a4, some (.int x), a6] 5 = true) (hp : pc + 3 = n) (k : At y G b n [a0, a1, a2, a3, a4, some (.int (x + w)), a6] st σ) : At y G b pc [a0, a1, a2, a3, a4, some (.int x), a6] st σ := by
  subst hp; subst hw
  intro g H locs la hP hS hL
  obtain ⟨j, hj⟩ := List.getElem?_of_mem ((al_mem [a0, a1, a2, a3, a4, some (.int x), a6] 0 5 (.int x)).mpr ⟨5, rfl, rfl⟩)
  exact lv_iinc g.1 g.2.1 hd hL.has hj rfl (by rw [hn]; decide) rfl (fun la2 h2 => k g H locs la2 hP hS (Lc.store1 ho h2))
theorem inc_8_2 (n : Nat) {a0 a1 a3 a4 a5 a6 a7 : Option Value} {x w : Int32} {z : Int} (hd : decode (yC y) pc = .ok (.iinc 2 z, 3)) (hw : Int32.ofInt z = w) (hn : yL y = 8) (ho : okp [a0, a1, some (.int x), a3, a4, a5, a6, a7] 2 = true) (hp : pc + 3 = n) (k : At y G b n [a0, a1, some (.int (x + w)), a3, a4, a5, a6, a7] st σ) : At y G b pc [a0, a1, some (.int x), a3, a4, a5, a6, a7] st σ := by
  subst hp; subst hw
  intro g H locs la hP hS hL
  obtain ⟨j, hj⟩ := List.getElem?_of_mem ((al_mem [a0, a1, some (.int x), a3, a4, a5, a6, a7] 0 2 (.int x)).mpr ⟨2, rfl, rfl⟩)
  exact lv_iinc g.1 g.2.1 hd hL.has hj rfl (by rw [hn]; decide) rfl (fun la2 h2 => k g H locs la2 hP hS (Lc.store1 ho h2))
theorem inc_8_3 (n : Nat) {a0 a1 a2 a4 a5 a6 a7 : Option Value} {x w : Int32} {z : Int} (hd : decode (yC y) pc = .ok (.iinc 3 z, 3)) (hw : Int32.ofInt z = w) (hn : yL y = 8) (ho : okp [a0, a1, a2, some (.int x), a4, a5, a6, a7] 3 = true) (hp : pc + 3 = n) (k : At y G b n [a0, a1, a2, some (.int (x + w)), a4, a5, a6, a7] st σ) : At y G b pc [a0, a1, a2, some (.int x), a4, a5, a6, a7] st σ := by
  subst hp; subst hw
  intro g H locs la hP hS hL
  obtain ⟨j, hj⟩ := List.getElem?_of_mem ((al_mem [a0, a1, a2, some (.int x), a4, a5, a6, a7] 0 3 (.int x)).mpr ⟨3, rfl, rfl⟩)
  exact lv_iinc g.1 g.2.1 hd hL.has hj rfl (by rw [hn]; decide) rfl (fun la2 h2 => k g H locs la2 hP hS (Lc.store1 ho h2))
theorem inc_8_4 (n : Nat) {a0 a1 a2 a3 a5 a6 a7 : Option Value} {x w : Int32} {z : Int} (hd : decode (yC y) pc = .ok (.iinc 4 z, 3)) (hw : Int32.ofInt z = w) (hn : yL y = 8) (ho : okp [a0, a1, a2, a3, some (.int x), a5, a6, a7] 4 = true) (hp : pc + 3 = n) (k : At y G b n [a0, a1, a2, a3, some (.int (x + w)), a5, a6, a7] st σ) : At y G b pc [a0, a1, a2, a3, some (.int x), a5, a6, a7] st σ := by
  subst hp; subst hw
  intro g H locs la hP hS hL
  obtain ⟨j, hj⟩ := List.getElem?_of_mem ((al_mem [a0, a1, a2, a3, some (.int x), a5, a6, a7] 0 4 (.int x)).mpr ⟨4, rfl, rfl⟩)
  exact lv_iinc g.1 g.2.1 hd hL.has hj rfl (by rw [hn]; decide) rfl (fun la2 h2 => k g H locs la2 hP hS (Lc.store1 ho h2))
theorem inc_8_5 (n : Nat) {a0 a1 a2 a3 a4 a6 a7 : Option Value} {x w : Int32} {z : Int} (hd : decode (yC y) pc = .ok (.iinc 5 z, 3)) (hw : Int32.ofInt z = w) (hn : yL y = 8) (ho : okp [a0, a1, a2, a3, a4, some (.int x), a6, a7] 5 = true) (hp : pc + 3 = n) (k : At y G b n [a0, a1, a2, a3, a4, some (.int (x + w)), a6, a7] st σ) : At y G b pc [a0, a1, a2, a3, a4, some (.int x), a6, a7] st σ := by
  subst hp; subst hw
  intro g H locs la hP hS hL
  obtain ⟨j, hj⟩ := List.getElem?_of_mem ((al_mem [a0, a1, a2, a3, a4, some (.int x), a6, a7] 0 5 (.int x)).mpr ⟨5, rfl, rfl⟩)
  exact lv_iinc g.1 g.2.1 hd hL.has hj rfl (by rw [hn]; decide) rfl (fun la2 h2 => k g H locs la2 hP hS (Lc.store1 ho h2))
theorem inc_8_6 (n : Nat) {a0 a1 a2 a3 a4 a5 a7 : Option Value} {x w : Int32} {z : Int} (hd : decode (yC y) pc = .ok (.iinc 6 z, 3)) (hw : Int32.ofInt z = w) (hn : yL y = 8) (ho : okp [a0, a1, a2, a3, a4, a5, some (.int x), a7] 6 = true) (hp : pc + 3 = n) (k : At y G b n [a0, a1, a2, a3, a4, a5, some (.int (x + w)), a7] st σ) : At y G b pc [a0, a1, a2, a3, a4, a5, some (.int x), a7] st σ := by
  subst hp; subst hw
  intro g H locs la hP hS hL
  obtain ⟨j, hj⟩ := List.getElem?_of_mem ((al_mem [a0, a1, a2, a3, a4, a5, some (.int x), a7] 0 6 (.int x)).mpr ⟨6, rfl, rfl⟩)
  exact lv_iinc g.1 g.2.1 hd hL.has hj rfl (by rw [hn]; decide) rfl (fun la2 h2 => k g H locs la2 hP hS (Lc.store1 ho h2))
theorem inc_8_7 (n : Nat) {a0 a1 a2 a3 a4 a5 a6 : Option Value} {x w : Int32} {z : Int} (hd : decode (yC y) pc = .ok (.iinc 7 z, 3)) (hw : Int32.ofInt z = w) (hn : yL y = 8) (ho : okp [a0, a1, a2, a3, a4, a5, a6, some (.int x)] 7 = true) (hp : pc + 3 = n) (k : At y G b n [a0, a1, a2, a3, a4, a5, a6, some (.int (x + w))] st σ) : At y G b pc [a0, a1, a2, a3, a4, a5, a6, some (.int x)] st σ := by
  subst hp; subst hw
  intro g H locs la hP hS hL
  obtain ⟨j, hj⟩ := List.getElem?_of_mem ((al_mem [a0, a1, a2, a3, a4, a5, a6, some (.int x)] 0 7 (.int x)).mpr ⟨7, rfl, rfl⟩)
  exact lv_iinc g.1 g.2.1 hd hL.has hj rfl (by rw [hn]; decide) rfl (fun la2 h2 => k g H locs la2 hP hS (Lc.store1 ho h2))
theorem inc_9_3 (n : Nat) {a0 a1 a2 a4 a5 a6 a7 a8 : Option Value} {x w : Int32} {z : Int} (hd : decode (yC y) pc = .ok (.iinc 3 z, 3)) (hw : Int32.ofInt z = w) (hn : yL y = 9) (ho : okp [a0, a1, a2, some (.int x), a4, a5, a6, a7, a8] 3 = true) (hp : pc + 3 = n) (k : At y G b n [a0, a1, a2, some (.int (x + w)), a4, a5, a6, a7, a8] st σ) : At y G b pc [a0, a1, a2, some (.int x), a4, a5, a6, a7, a8] st σ := by
  subst hp; subst hw
  intro g H locs la hP hS hL
  obtain ⟨j, hj⟩ := List.getElem?_of_mem ((al_mem [a0, a1, a2, some (.int x), a4, a5, a6, a7, a8] 0 3 (.int x)).mpr ⟨3, rfl, rfl⟩)
  exact lv_iinc g.1 g.2.1 hd hL.has hj rfl (by rw [hn]; decide) rfl (fun la2 h2 => k g H locs la2 hP hS (Lc.store1 ho h2))
theorem inc_9_4 (n : Nat) {a0 a1 a2 a3 a5 a6 a7 a8 : Option Value} {x w : Int32} {z : Int} (hd : decode (yC y) pc = .ok (.iinc 4 z, 3)) (hw : Int32.ofInt z = w) (hn : yL y = 9) (ho : okp [a0, a1, a2, a3, some (.int x), a5, a6, a7, a8] 4 = true) (hp : pc + 3 = n) (k : At y G b n [a0, a1, a2, a3, some (.int (x + w)), a5, a6, a7, a8] st σ) : At y G b pc [a0, a1, a2, a3, some (.int x), a5, a6, a7, a8] st σ := by
  subst hp; subst hw
  intro g H locs la hP hS hL
  obtain ⟨j, hj⟩ := List.getElem?_of_mem ((al_mem [a0, a1, a2, a3, some (.int x), a5, a6, a7, a8] 0 4 (.int x)).mpr ⟨4, rfl, rfl⟩)
  exact lv_iinc g.1 g.2.1 hd hL.has hj rfl (by rw [hn]; decide) rfl (fun la2 h2 => k g H locs la2 hP hS (Lc.store1 ho h2))
theorem inc_9_6 (n : Nat) {a0 a1 a2 a3 a4 a5 a7 a8 : Option Value} {x w : Int32} {z : Int} (hd : decode (yC y) pc = .ok (.iinc 6 z, 3)) (hw : Int32.ofInt z = w) (hn : yL y = 9) (ho : okp [a0, a1, a2, a3, a4, a5, some (.int x), a7, a8] 6 = true) (hp : pc + 3 = n) (k : At y G b n [a0, a1, a2, a3, a4, a5, some (.int (x + w)), a7, a8] st σ) : At y G b pc [a0, a1, a2, a3, a4, a5, some (.int x), a7, a8] st σ := by
  subst hp; subst hw
  intro g H locs la hP hS hL
  obtain ⟨j, hj⟩ := List.getElem?_of_mem ((al_mem [a0, a1, a2, a3, a4, a5, some (.int x), a7, a8] 0 6 (.int x)).mpr ⟨6, rfl, rfl⟩)
  exact lv_iinc g.1 g.2.1 hd hL.has hj rfl (by rw [hn]; decide) rfl (fun la2 h2 => k g H locs la2 hP hS (Lc.store1 ho h2))
theorem inc_9_7 (n : Nat) {a0 a1 a2 a3 a4 a5 a6 a8 : Option Value} {x w : Int32} {z : Int} (hd : decode (yC y) pc = .ok (.iinc 7 z, 3)) (hw : Int32.ofInt z = w) (hn : yL y = 9) (ho : okp [a0, a1, a2, a3, a4, a5, a6, some (.int x), a8] 7 = true) (hp : pc + 3 = n) (k : At y G b n [a0, a1, a2, a3, a4, a5, a6, some (.int (x + w)), a8] st σ) : At y G b pc [a0, a1, a2, a3, a4, a5, a6, some (.int x), a8] st σ := by
  subst hp; subst hw
  intro g H locs la hP hS hL
  obtain ⟨j, hj⟩ := List.getElem?_of_mem ((al_mem [a0, a1, a2, a3, a4, a5, a6, some (.int x), a8] 0 7 (.int x)).mpr ⟨7, rfl, rfl⟩)
  exact lv_iinc g.1 g.2.1 hd hL.has hj rfl (by rw [hn]; decide) rfl (fun la2 h2 => k g H locs la2 hP hS (Lc.store1 ho h2))
theorem inc_9_8 (n : Nat) {a0 a1 a2 a3 a4 a5 a6 a7 : Option Value} {x w : Int32} {z : Int} (hd : decode (yC y) pc = .ok (.iinc 8 z, 3)) (hw : Int32.ofInt z = w) (hn : yL y = 9) (ho : okp [a0, a1, a2, a3, a4, a5, a6, a7, some (.int x)] 8 = true) (hp : pc + 3 = n) (k : At y G b n [a0, a1, a2, a3, a4, a5, a6, a7, some (.int (x + w))] st σ) : At y G b pc [a0, a1, a2, a3, a4, a5, a6, a7, some (.int x)] st σ := by
  subst hp; subst hw
  intro g H locs la hP hS hL
  obtain ⟨j, hj⟩ := List.getElem?_of_mem ((al_mem [a0, a1, a2, a3, a4, a5, a6, a7, some (.int x)] 0 8 (.int x)).mpr ⟨8, rfl, rfl⟩)
  exact lv_iinc g.1 g.2.1 hd hL.has hj rfl (by rw [hn]; decide) rfl (fun la2 h2 => k g H locs la2 hP hS (Lc.store1 ho h2))
theorem inc_10_8 (n : Nat) {a0 a1 a2 a3 a4 a5 a6 a7 a9 : Option Value} {x w : Int32} {z : Int} (hd : decode (yC y) pc = .ok (.iinc 8 z, 3)) (hw : Int32.ofInt z = w) (hn : yL y = 10) (ho : okp [a0, a1, a2, a3, a4, a5, a6, a7, some (.int x), a9] 8 = true) (hp : pc + 3 = n) (k : At y G b n [a0, a1, a2, a3, a4, a5, a6, a7, some (.int (x + w)), a9] st σ) : At y G b pc [a0, a1, a2, a3, a4, a5, a6, a7, some (.int x), a9] st σ := by
  subst hp; subst hw
  intro g H locs la hP hS hL
  obtain ⟨j, hj⟩ := List.getElem?_of_mem ((al_mem [a0, a1, a2, a3, a4, a5, a6, a7, some (.int x), a9] 0 8 (.int x)).mpr ⟨8, rfl, rfl⟩)
  exact lv_iinc g.1 g.2.1 hd hL.has hj rfl (by rw [hn]; decide) rfl (fun la2 h2 => k g H locs la2 hP hS (Lc.store1 ho h2))
theorem inc_11_4 (n : Nat) {a0 a1 a2 a3 a5 a6 a7 a8 a9 a10 : Option Value} {x w : Int32} {z : Int} (hd : decode (yC y) pc = .ok (.iinc 4 z, 3)) (hw : Int32.ofInt z = w) (hn : yL y = 11) (ho : okp [a0, a1, a2, a3, some (.int x), a5, a6, a7, a8, a9, a10] 4 = true) (hp : pc + 3 = n) (k : At y G b n [a0, a1, a2, a3, some (.int (x + w)), a5, a6, a7, a8, a9, a10] st σ) : At y G b pc [a0, a1, a2, a3, some (.int x), a5, a6, a7, a8, a9, a10] st σ := by
  subst hp; subst hw
  intro g H locs la hP hS hL
  obtain ⟨j, hj⟩ := List.getElem?_of_mem ((al_mem [a0, a1, a2, a3, some (.int x), a5, a6, a7, a8, a9, a10] 0 4 (.int x)).mpr ⟨4, rfl, rfl⟩)
  exact lv_iinc g.1 g.2.1 hd hL.has hj rfl (by rw [hn]; decide) rfl (fun la2 h2 => k g H locs la2 hP hS (Lc.store1 ho h2))
theorem inc_11_10 (n : Nat) {a0 a1 a2 a3 a4 a5 a6 a7 a8 a9 : Option Value} {x w : Int32} {z : Int} (hd : decode (yC y) pc = .ok (.iinc 10 z, 3)) (hw : Int32.ofInt z = w) (hn : yL y = 11) (ho : okp [a0, a1, a2, a3, a4, a5, a6, a7, a8, a9, some (.int x)] 10 = true) (hp : pc + 3 = n) (k : At y G b n [a0, a1, a2, a3, a4, a5, a6, a7, a8, a9, some (.int (x + w))] st σ) : At y G b pc [a0, a1, a2, a3, a4, a5, a6, a7, a8, a9, some (.int x)] st σ := by
  subst hp; subst hw
  intro g H locs la hP hS hL
  obtain ⟨j, hj⟩ := List.getElem?_of_mem ((al_mem [a0, a1, a2, a3, a4, a5, a6, a7, a8, a9, some (.int x)] 0 10 (.int x)).mpr ⟨10, rfl, rfl⟩)
  exact lv_iinc g.1 g.2.1 hd hL.has hj rfl (by rw [hn]; decide) rfl (fun la2 h2 => k g H locs la2 hP hS (Lc.store1 ho h2))
theorem ild_1_0 (n : Nat) {x : Int32} (hd : decode (yC y) pc = .ok (.iload_n 0, 1)) (hp : pc + 1 = n) (k : At y G b n [some (.int x)] (.int x :: st) σ) : At y G b pc [some (.int x)] st σ := by
  subst hp
  intro g H locs la hP hS hL
  exact lv_iload_n g.1 g.2.1 hd rfl (hL.2.2 0 _ rfl) (k g H locs la hP hS hL)
theorem ild_2_0 (n : Nat) {a1 : Option Value} {x : Int32} (hd : decode (yC y) pc = .ok (.iload_n 0, 1)) (hp : pc + 1 = n) (k : At y G b n [some (.int x), a1] (.int x :: st) σ) : At y G b pc [some (.int x), a1] st σ := by
  subst hp
  intro g H locs la hP hS hL
  exact lv_iload_n g.1 g.2.1 hd rfl (hL.2.2 0 _ rfl) (k g H locs la hP hS hL)
theorem ild_2_1 (n : Nat) {a0 : Option Value} {x : Int32} (hd : decode (yC y) pc = .ok (.iload_n 1, 1)) (hp : pc + 1 = n) (k : At y G b n [a0, some (.int x)] (.int x :: st) σ) : At y G b pc [a0, some (.int x)] st σ := by
  subst hp
  intro g H locs la hP hS hL
  exact lv_iload_n g.1 g.2.1 hd rfl (hL.2.2 1 _ rfl) (k g H locs la hP hS hL)
theorem ild_3_0 (n : Nat) {a1 a2 : Option Value} {x : Int32} (hd : decode (yC y) pc = .ok (.iload_n 0, 1)) (hp : pc + 1 = n) (k : At y G b n [some (.int x), a1, a2] (.int x :: st) σ) : At y G b pc [some (.int x), a1, a2] st σ := by
  subst hp
  intro g H locs la hP hS hL
  exact lv_iload_n g.1 g.2.1 hd rfl (hL.2.2 0 _ rfl) (k g H locs la hP hS hL)
theorem ild_3_1 (n : Nat) {a0 a2 : Option Value} {x : Int32} (hd : decode (yC y) pc = .ok (.iload_n 1, 1)) (hp : pc + 1 = n) (k : At y G b n [a0, some (.int x), a2] (.int x :: st) σ) : At y G b pc [a0, some (.int x), a2] st σ := by
  subst hp
  intro g H locs la hP hS hL
  exact lv_iload_n g.1 g.2.1 hd rfl (hL.2.2 1 _ rfl) (k g H locs la hP hS hL)
theorem ild_3_2 (n : Nat) {a0 a1 : Option Value} {x : Int32} (hd : decode (yC y) pc = .ok (.iload_n 2, 1)) (hp : pc + 1 = n) (k : At y G b n [a0, a1, some (.int x)] (.int x :: st) σ) : At y G b pc [a0, a1, some (.int x)] st σ := by
  subst hp
  intro g H locs la hP hS hL
  exact lv_iload_n g.1 g.2.1 hd rfl (hL.2.2 2 _ rfl) (k g H locs la hP hS hL)
theorem ild_4_0 (n : Nat) {a1 a2 a3 : Option Value} {x : Int32} (hd : decode (yC y) pc = .ok (.iload_n 0, 1)) (hp : pc + 1 = n) (k : At y G b n [some (.int x), a1, a2, a3] (.int x :: st) σ) : At y G b pc [some (.int x), a1, a2, a3] st σ := by
  subst hp
  intro g H locs la hP hS hL
  exact lv_iload_n g.1 g.2.1 hd rfl (hL.2.2 0 _ rfl) (k g H locs la hP hS hL)
theorem ild_4_1 (n : Nat) {a0 a2 a3 : Option Value} {x : Int32} (hd : decode (yC y) pc = .ok (.iload_n 1, 1)) (hp : pc + 1 = n) (k : At y G b n [a0, some (.int x), a2, a3] (.int x :: st) σ) : At y G b pc [a0, some (.int x), a2, a3] st σ := by
  subst hp
  intro g H locs la hP hS hL
  exact lv_iload_n g.1 g.2.1 hd rfl (hL.2.2 1 _ rfl) (k g H locs la hP hS hL)
theorem ild_4_2 (n : Nat) {a0 a1 a3 : Option Value} {x : Int32} (hd : decode (yC y) pc = .ok (.iload_n 2, 1)) (hp : pc + 1 = n) (k : At y G b n [a0, a1, some (.int x), a3] (.int x :: st) σ) : At y G b pc [a0, a1, some (.int x), a3] st σ := by
  subst hp
  intro g H locs la hP hS hL
  exact lv_iload_n g.1 g.2.1 hd rfl (hL.2.2 2 _ rfl) (k g H locs la hP hS hL)
theorem ild_4_3 (n : Nat) {a0 a1 a2 : Option Value} {x : Int32} (hd : decode (yC y) pc = .ok (.iload_n 3, 1)) (hp : pc + 1 = n) (k : At y G b n [a0, a1, a2, some (.int x)] (.int x :: st) σ) : At y G b pc [a0, a1, a2, some (.int x)] st σ := by
  subst hp
  intro g H locs la hP hS hL
  exact lv_iload_n g.1 g.2.1 hd rfl (hL.2.2 3 _ rfl) (k g H locs la hP hS hL)
theorem ild_5_1 (n : Nat) {a0 a2 a3 a4 : Option Value} {x : Int32} (hd : decode (yC y) pc = .ok (.iload_n 1, 1)) (hp : pc + 1 = n) (k : At y G b n [a0, some (.int x), a2, a3, a4] (.int x :: st) σ) : At y G b pc [a0, some (.int x), a2, a3, a4] st σ := by
  subst hp
  intro g H locs la hP hS hL
  exact lv_iload_n g.1 g.2.1 hd rfl (hL.2.2 1 _ rfl) (k g H locs la hP hS hL)
theorem ild_5_2 (n : Nat) {a0 a1 a3 a4 : Option Value} {x : Int32} (hd : decode (yC y) pc = .ok (.iload_n 2, 1)) (hp : pc + 1 = n) (k : At y G b n [a0, a1, some (.int x), a3, a4] (.int x :: st) σ) : At y G b pc [a0, a1, some (.int x), a3, a4] st σ := by
  subst hp
  intro g H locs la hP hS hL
  exact lv_iload_n g.1 g.2.1 hd rfl (hL.2.2 2 _ rfl) (k g H locs la hP hS hL)
theorem ild_5_3 (n : Nat) {a0 a1 a2 a4 : Option Value} {x : Int32} (hd : decode (yC y) pc = .ok (.iload_n 3, 1)) (hp : pc + 1 = n) (k : At y G b n [a0, a1, a2, some (.int x), a4] (.int x :: st) σ) : At y G b pc [a0, a1, a2, some (.int x), a4] st σ := by
  subst hp
  intro g H locs la hP hS hL
  exact lv_iload_n g.1 g.2.1 hd rfl (hL.2.2 3 _ rfl) (k g H locs la hP hS hL)
theorem ild_5_4 (n : Nat) {a0 a1 a2 a3 : Option Value} {x : Int32} (hd : decode (yC y) pc = .ok (.iload 4, 2)) (hp : pc + 2 = n) (k : At y G b n [a0, a1, a2, a3, some (.int x)] (.int x :: st) σ) : At y G b pc [a0, a1, a2, a3, some (.int x)] st σ := by
  subst hp
  intro g H locs la hP hS hL
  exact lv_iload g.1 g.2.1 hd (hL.2.2 4 _ rfl) (k g H locs la hP hS hL)
theorem ild_6_1 (n : Nat) {a0 a2 a3 a4 a5 : Option Value} {x : Int32} (hd : decode (yC y) pc = .ok (.iload_n 1, 1)) (hp : pc + 1 = n) (k : At y G b n [a0, some (.int x), a2, a3, a4, a5] (.int x :: st) σ) : At y G b pc [a0, some (.int x), a2, a3, a4, a5] st σ := by
  subst hp
  intro g H locs la hP hS hL
  exact lv_iload_n g.1 g.2.1 hd rfl (hL.2.2 1 _ rfl) (k g H locs la hP hS hL)
theorem ild_6_2 (n : Nat) {a0 a1 a3 a4 a5 : Option Value} {x : Int32} (hd : decode (yC y) pc = .ok (.iload_n 2, 1)) (hp : pc + 1 = n) (k : At y G b n [a0, a1, some (.int x), a3, a4, a5] (.int x :: st) σ) : At y G b pc [a0, a1, some (.int x), a3, a4, a5] st σ := by
  subst hp
  intro g H locs la hP hS hL
  exact lv_iload_n g.1 g.2.1 hd rfl (hL.2.2 2 _ rfl) (k g H locs la hP hS hL)
theorem ild_6_3 (n : Nat) {a0 a1 a2 a4 a5 : Option Value} {x : Int32} (hd : decode (yC y) pc = .ok (.iload_n 3, 1)) (hp : pc + 1 = n) (k : At y G b n [a0, a1, a2, some (.int x), a4, a5] (.int x :: st) σ) : At y G b pc [a0, a1, a2, some (.int x), a4, a5] st σ := by
  subst hp
  intro g H locs la hP hS hL
  exact lv_iload_n g.1 g.2.1 hd rfl (hL.2.2 3 _ rfl) (k g H locs la hP hS hL)
theorem ild_6_4 (n : Nat) {a0 a1 a2 a3 a5 : Option Value} {x : Int32} (hd : decode (yC y) pc = .ok (.iload 4, 2)) (hp : pc + 2 = n) (k : At y G b n [a0, a1, a2, a3, some (.int x), a5] (.int x :: st) σ) : At y G b pc [a0, a1, a2, a3, some (.int x), a5] st σ := by
  subst hp
  intro g H locs la hP hS hL
  exact lv_iload g.1 g.2.1 hd (hL.2.2 4 _ rfl) (k g H locs la hP hS hL)
theorem ild_6_5 (n : Nat) {a0 a1 a2 a3 a4 : Option Value} {x : Int32} (hd : decode (yC y) pc = .ok (.iload 5, 2)) (hp : pc + 2 = n) (k : At y G b n [a0, a1, a2, a3, a4, some (.int x)] (.int x :: st) σ) : At y G b pc [a0, a1, a2, a3, a4, some (.int x)] st σ := by
  subst hp
  intro g H locs la hP hS hL
  exact lv_iload g.1 g.2.1 hd (hL.2.2 5 _ rfl) (k g H locs la hP hS hL)
theorem ild_7_1 (n : Nat) {a0 a2 a3 a4 a5 a6 : Option Value} {x : Int32} (hd : decode (yC y) pc = .ok (.iload_n 1, 1)) (hp : pc + 1 = n) (k : At y G b n [a0, some (.int x), a2, a3, a4, a5, a6] (.int x :: st) σ) : At y G b pc [a0, some (.int x), a2, a3, a4, a5, a6] st σ := by
  subst hp
  intro g H locs la hP hS hL
  exact lv_iload_n g.1 g.2.1 hd rfl (hL.2.2 1 _ rfl) (k g H locs la hP hS hL)
theorem ild_7_2 (n : Nat) {a0 a1 a3 a4 a5 a6 : Option Value} {x : Int32} (hd : decode (yC y) pc = .ok (.iload_n 2, 1)) (hp : pc + 1 = n) (k : At y G b n [a0, a1, some (.int x), a3, a4, a5, a6] (.int x :: st) σ) : At y G b pc [a0, a1, some (.int x), a3, a4, a5, a6] st σ := by
  subst hp
  intro g H locs la hP hS hL
  exact lv_iload_n g.1 g.2.1 hd rfl (hL.2.2 2 _ rfl) (k g H locs la hP hS hL)
theorem ild_7_3 (n : Nat) {a0 a1 a2 a4 a5 a6 : Option Value} {x : Int32} (hd : decode (yC y) pc = .ok (.iload_n 3, 1)) (hp : pc + 1 = n) (k : At y G b n [a0, a1, a2, some (.int x), a4, a5, a6] (.int x :: st) σ) : At y G b pc [a0, a1, a2, some (.int x), a4, a5, a6] st σ := by
  subst hp
  intro g H locs la hP hS hL
  exact lv_iload_n g.1 g.2.1 hd rfl (hL.2.2 3 _ rfl) (k g H locs la hP hS hL)
theorem ild_7_4 (n : Nat) {a0 a1 a2 a3 a5 a6 : Option Value} {x : Int32} (hd : decode (yC y) pc = .ok (.iload 4, 2)) (hp : pc + 2 = n) (k : At y G b n [a0, a1, a2, a3, some (.int x), a5, a6] (.int x :: st) σ) : At y G b pc [a0, a1, a2, a3, some (.int x), a5, a6] st σ := by
  subst hp
  intro g H locs la hP hS hL
  exact lv_iload g.1 g.2.1 hd (hL.2.2 4 _ rfl) (k g H locs la hP hS hL)
theorem ild_7_5 (n : Nat) {a0 a1 a2 a3 a4 a6 : Option Value} {x : Int32} (hd : decode (yC y) pc = .ok (.iload 5, 2)) (hp : pc + 2 = n) (k : At y G b n [a0, a1, a2, a3, a4, some (.int x), a6] (.int x :: st) σ) : At y G b pc [a0, a1, a2, a3, a4, some (.int x), a6] st σ := by
  subst hp
  intro g H locs la hP hS hL
  exact lv_iload g.1 g.2.1 hd (hL.2.2 5 _ rfl) (k g H locs la hP hS hL)
theorem ild_7_6 (n : Nat) {a0 a1 a2 a3 a4 a5 : Option Value} {x : Int32} (hd : decode (yC y) pc = .ok (.iload 6, 2)) (hp : pc + 2 = n) (k : At y G b n [a0, a1, a2, a3, a4, a5, some (.int x)] (.int x :: st) σ) : At y G b pc [a0, a1, a2, a3, a4, a5, some (.int x)] st σ := by
  subst hp
  intro g H locs la hP hS hL
  exact lv_iload g.1 g.2.1 hd (hL.2.2 6 _ rfl) (k g H locs la hP hS hL)
theorem ild_8_1 (n : Nat) {a0 a2 a3 a4 a5 a6 a7 : Option Value} {x : Int32} (hd : decode (yC y) pc = .ok (.iload_n 1, 1)) (hp : pc + 1 = n) (k : At y G b n [a0, some (.int x), a2, a3, a4, a5, a6, a7] (.int x :: st) σ) : At y G b pc [a0, some (.int x), a2, a3, a4, a5, a6, a7] st σ := by
  subst hp
  intro g H locs la hP hS hL
  exact lv_iload_n g.1 g.2.1 hd rfl (hL.2.2 1 _ rfl) (k g H locs la hP hS hL)
theorem ild_8_2 (n : Nat) {a0 a1 a3 a4 a5 a6 a7 : Option Value} {x : Int32} (hd : decode (yC y) pc = .ok (.iload_n 2, 1)) (hp : pc + 1 = n) (k : At y G b n [a0, a1, some (.int x), a3, a4, a5, a6, a7] (.int x :: st) σ) : At y G b pc [a0, a1, some (.int x), a3, a4, a5, a6, a7] st σ := by
  subst hp
  intro g H locs la hP hS hL
  exact lv_iload_n g.1 g.2.1 hd rfl (hL.2.2 2 _ rfl) (k g H locs la hP hS hL)
theorem ild_8_3 (n : Nat) {a0 a1 a2 a4 a5 a6 a7 : Option Value} {x : Int32} (hd : decode (yC y) pc = .ok (.iload_n 3, 1)) (hp : pc + 1 = n) (k : At y G b n [a0, a1, a2, some (.int x), a4, a5, a6, a7] (.int x :: st) σ) : At y G b pc [a0, a1, a2, some (.int x), a4, a5, a6, a7] st σ := by
  subst hp
  intro g H locs la hP hS hL
  exact lv_iload_n g.1 g.2.1 hd rfl (hL.2.2 3 _ rfl) (k g H locs la hP hS hL)
theorem ild_8_4 (n : Nat) {a0 a1 a2 a3 a5 a6 a7 : Option Value} {x : Int32} (hd : decode (yC y) pc = .ok (.iload 4, 2)) (hp : pc + 2 = n) (k : At y G b n [a0, a1, a2, a3, some (.int x), a5, a6, a7] (.int x :: st) σ) : At y G b pc [a0, a1, a2, a3, some (.int x), a5, a6, a7] st σ := by
  subst hp
  intro g H locs la hP hS hL
  exact lv_iload g.1 g.2.1 hd (hL.2.2 4 _ rfl) (k g H locs la hP hS hL)
theorem ild_8_5 (n : Nat) {a0 a1 a2 a3 a4 a6 a7 : Option Value} {x : Int32} (hd : decode (yC y) pc = .ok (.iload 5, 2)) (hp : pc + 2 = n) (k : At y G b n [a0, a1, a2, a3, a4, some (.int x), a6, a7] (.int x :: st) σ) : At y G b pc [a0, a1, a2, a3, a4, some (.int x), a6, a7] st σ := by
  subst hp
  intro g H locs la hP hS hL
  exact lv_iload g.1 g.2.1 hd (hL.2.2 5 _ rfl) (k g H locs la hP hS hL)
theorem ild_8_6 (n : Nat) {a0 a1 a2 a3 a4 a5 a7 : Option Value} {x : Int32} (hd : decode (yC y) pc = .ok (.iload 6, 2)) (hp : pc + 2 = n) (k : At y G b n [a0, a1, a2, a3, a4, a5, some (.int x), a7] (.int x :: st) σ) : At y G b pc [a0, a1, a2, a3, a4, a5, some (.int x), a7] st σ := by
  subst hp
  intro g H locs la hP hS hL
  exact lv_iload g.1 g.2.1 hd (hL.2.2 6 _ rfl) (k g H locs la hP hS hL)
theorem ild_8_7 (n : Nat) {a0 a1 a2 a3 a4 a5 a6 : Option Value} {x : Int32} (hd : decode (yC y) pc = .ok (.iload 7, 2)) (hp : pc + 2 = n) (k : At y G b n [a0, a1, a2, a3, a4, a5, a6, some (.int x)] (.int x :: st) σ) : At y G b pc [a0, a1, a2, a3, a4, a5, a6, some (.int x)] st σ := by
  subst hp
  intro g H locs la hP hS hL
  exact lv_iload g.1 g.2.1 hd (hL.2.2 7 _ rfl) (k g H locs la hP hS hL)
theorem ild_9_1 (n : Nat) {a0 a2 a3 a4 a5 a6 a7 a8 : Option Value} {x : Int32} (hd : decode (yC y) pc = .ok (.iload_n 1, 1)) (hp : pc + 1 = n) (k : At y G b n [a0, some (.int x), a2, a3, a4, a5, a6, a7, a8] (.int x :: st) σ) : At y G b pc [a0, some (.int x), a2, a3, a4, a5, a6, a7, a8] st σ := by
  subst hp
  intro g H locs la hP hS hL
  exact lv_iload_n g.1 g.2.1 hd rfl (hL.2.2 1 _ rfl) (k g H locs la hP hS hL)
theorem ild_9_2 (n : Nat) {a0 a1 a3 a4 a5 a6 a7 a8 : Option Value} {x : Int32} (hd : decode (yC y) pc = .ok (.iload_n 2, 1)) (hp : pc + 1 = n) (k : At y G b n [a0, a1, some (.int x), a3, a4, a5, a6, a7, a8] (.int x :: st) σ) : At y G b pc [a0, a1, some (.int x), a3, a4, a5, a6, a7, a8] st σ := by
  subst hp
  intro g H locs la hP hS hL
  exact lv_iload_n g.1 g.2.1 hd rfl (hL.2.2 2 _ rfl) (k g H locs la hP hS hL)
theorem ild_9_3 (n : Nat) {a0 a1 a2 a4 a5 a6 a7 a8 : Option Value} {x : Int32} (hd : decode (yC y) pc = .ok (.iload_n 3, 1)) (hp : pc + 1 = n) (k : At y G b n [a0, a1, a2, some (.int x), a4, a5, a6, a7, a8] (.int x :: st) σ) : At y G b pc [a0, a1, a2, some (.int x), a4, a5, a6, a7, a8] st σ := by
  subst hp
  intro g H locs la hP hS hL
  exact lv_iload_n g.1 g.2.1 hd rfl (hL.2.2 3 _ rfl) (k g H locs la hP hS hL)
theorem ild_9_4 (n : Nat) {a0 a1 a2 a3 a5 a6 a7 a8 : Option Value} {x : Int32} (hd : decode (yC y) pc = .ok (.iload 4, 2)) (hp : pc + 2 = n) (k : At y G b n [a0, a1, a2, a3, some (.int x), a5, a6, a7, a8] (.int x :: st) σ) : At y G b pc [a0, a1, a2, a3, some (.int x), a5, a6, a7, a8] st σ := by
  subst hp
  intro g H locs la hP hS hL
  exact lv_iload g.1 g.2.1 hd (hL.2.2 4 _ rfl) (k g H locs la hP hS hL)
theorem ild_9_5 (n : Nat) {a0 a1 a2 a3 a4 a6 a7 a8 : Option Value} {x : Int32} (hd : decode (yC y) pc = .ok (.iload 5, 2)) (hp : pc + 2 = n) (k : At y G b n [a0, a1, a2, a3, a4, some (.int x), a6, a7, a8] (.int x :: st) σ) : At y G b pc [a0, a1, a2, a3, a4, some (.int x), a6, a7, a8] st σ := by
  subst hp
  intro g H locs la hP hS hL
  exact lv_iload g.1 g.2.1 hd (hL.2.2 5 _ rfl) (k g H locs la hP hS hL)
theorem ild_9_6 (n : Nat) {a0 a1 a2 a3 a4 a5 a7 a8 : Option Value} {x : Int32} (hd : decode (yC y) pc = .ok (.iload 6, 2)) (hp : pc + 2 = n) (k : At y G b n [a0, a1, a2, a3, a4, a5, some (.int x), a7, a8] (.int x :: st) σ) : At y G b pc [a0, a1, a2, a3, a4, a5, some (.int x), a7, a8] st σ := by
  subst hp
  intro g H locs la hP hS hL
  exact lv_iload g.1 g.2.1 hd (hL.2.2 6 _ rfl) (k g H locs la hP hS hL)
theorem ild_9_7 (n : Nat) {a0 a1 a2 a3 a4 a5 a6 a8 : Option Value} {x : Int32} (hd : decode (yC y) pc = .ok (.iload 7, 2)) (hp : pc + 2 = n) (k : At y G b n [a0, a1, a2, a3, a4, a5, a6, some (.int x), a8] (.int x :: st) σ) : At y G b pc [a0, a1, a2, a3, a4, a5, a6, some (.int x), a8] st σ := by
  subst hp
  intro g H locs la hP hS hL
  exact lv_iload g.1 g.2.1 hd (hL.2.2 7 _ rfl) (k g H locs la hP hS hL)
theorem ild_9_8 (n : Nat) {a0 a1 a2 a3 a4 a5 a6 a7 : Option Value} {x : Int32} (hd : decode (yC y) pc = .ok (.iload 8, 2)) (hp : pc + 2 = n) (k : At y G b n [a0, a1, a2, a3, a4, a5, a6, a7, some (.int x)] (.int x :: st) σ) : At y G b pc [a0, a1, a2, a3, a4, a5, a6, a7, some (.int x)] st σ := by
  subst hp
  intro g H locs la hP hS hL
  exact lv_iload g.1 g.2.1 hd (hL.2.2 8 _ rfl) (k g H locs la hP hS hL)
theorem ild_10_1 (n : Nat) {a0 a2 a3 a4 a5 a6 a7 a8 a9 : Option Value} {x : Int32} (hd : decode (yC y) pc = .ok (.iload_n 1, 1)) (hp : pc + 1 = n) (k : At y G b n [a0, some (.int x), a2, a3, a4, a5, a6, a7, a8, a9] (.int x :: st) σ) : At y G b pc [a0, some (.int x), a2, a3, a4, a5, a6, a7, a8, a9] st σ := by
  subst hp
  intro g H locs la hP hS hL
  exact lv_iload_n g.1 g.2.1 hd rfl (hL.2.2 1 _ rfl) (k g H locs la hP hS hL)
theorem ild_10_2 (n : Nat) {a0 a1 a3 a4 a5 a6 a7 a8 a9 : Option Value} {x : Int32} (hd : decode (yC y) pc = .ok (.iload_n 2, 1)) (hp : pc + 1 = n) (k : At y G b n [a0, a1, some (.int x), a3, a4, a5, a6, a7, a8, a9] (.int x :: st) σ) : At y G b pc [a0, a1, some (.int x), a3, a4, a5, a6, a7, a8, a9] st σ := by
  subst hp
  intro g H locs la hP hS hL
  exact lv_iload_n g.1 g.2.1 hd rfl (hL.2.2 2 _ rfl) (k g H locs la hP hS hL)
theorem ild_10_3 (n : Nat) {a0 a1 a2 a4 a5 a6 a7 a8 a9 : Option Value} {x : Int32} (hd : decode (yC y) pc = .ok (.iload_n 3, 1)) (hp : pc + 1 = n) (k : At y G b n [a0, a1, a2, some (.int x), a4, a5, a6, a7, a8, a9] (.int x :: st) σ) : At y G b pc [a0, a1, a2, some (.int x), a4, a5, a6, a7, a8, a9] st σ := by
  subst hp
  intro g H locs la hP hS hL
  exact lv_iload_n g.1 g.2.1 hd rfl (hL.2.2 3 _ rfl) (k g H locs la hP hS hL)
theorem ild_10_4 (n : Nat) {a0 a1 a2 a3 a5 a6 a7 a8 a9 : Option Value} {x : Int32} (hd : decode (yC y) pc = .ok (.iload 4, 2)) (hp : pc + 2 = n) (k : At y G b n [a0, a1, a2, a3, some (.int x), a5, a6, a7, a8, a9] (.int x :: st) σ) : At y G b pc [a0, a1, a2, a3, some (.int x), a5, a6, a7, a8, a9] st σ := by
  subst hp
  intro g H locs la hP hS hL
  exact lv_iload g.1 g.2.1 hd (hL.2.2 4 _ rfl) (k g H locs la hP hS hL)
theorem ild_10_5 (n : Nat) {a0 a1 a2 a3 a4 a6 a7 a8 a9 : Option Value} {x : Int32} (hd : decode (yC y) pc = .ok (.iload 5, 2)) (hp : pc + 2 = n) (k : At y G b n [a0, a1, a2, a3, a4, some (.int x), a6, a7, a8, a9] (.int x :: st) σ) : At y G b pc [a0, a1, a2, a3, a4, some (.int x), a6, a7, a8, a9] st σ := by
  subst hp
  intro g H locs la hP hS hL
  exact lv_iload g.1 g.2.1 hd (hL.2.2 5 _ rfl) (k g H locs la hP hS hL)
theorem ild_10_6 (n : Nat) {a0 a1 a2 a3 a4 a5 a7 a8 a9 : Option Value} {x : Int32} (hd : decode (yC y) pc = .ok (.iload 6, 2)) (hp : pc + 2 = n) (k : At y G b n [a0, a1, a2, a3, a4, a5, some (.int x), a7, a8, a9] (.int x :: st) σ) : At y G b pc [a0, a1, a2, a3, a4, a5, some (.int x), a7, a8, a9] st σ := by
  subst hp
  intro g H locs la hP hS hL
  exact lv_iload g.1 g.2.1 hd (hL.2.2 6 _ rfl) (k g H locs la hP hS hL)
theorem ild_10_7 (n : Nat) {a0 a1 a2 a3 a4 a5 a6 a8 a9 : Option Value} {x : Int32} (hd : decode (yC y) pc = .ok (.iload 7, 2)) (hp : pc + 2 = n) (k : At y G b n [a0, a1, a2, a3, a4, a5, a6, some (.int x), a8, a9] (.int x :: st) σ) : At y G b pc [a0, a1, a2, a3, a4, a5, a6, some (.int x), a8, a9] st σ := by
  subst hp
  intro g H locs la hP hS hL
  exact lv_iload g.1 g.2.1 hd (hL.2.2 7 _ rfl) (k g H locs la hP hS hL)
theorem ild_10_8 (n : Nat) {a0 a1 a2 a3 a4 a5 a6 a7 a9 : Option Value} {x : Int32} (hd : decode (yC y) pc = .ok (.iload 8, 2)) (hp : pc + 2 = n) (k : At y G b n [a0, a1, a2, a3, a4, a5, a6, a7, some (.int x), a9] (.int x :: st) σ) : At y G b pc [a0, a1, a2, a3, a4, a5, a6, a7, some (.int x), a9] st σ := by
  subst hp
  intro g H locs la hP hS hL
  exact lv_iload g.1 g.2.1 hd (hL.2.2 8 _ rfl) (k g H locs la hP hS hL)
theorem ild_10_9 (n : Nat) {a0 a1 a2 a3 a4 a5 a6 a7 a8 : Option Value} {x : Int32} (hd : decode (yC y) pc = .ok (.iload 9, 2)) (hp : pc + 2 = n) (k : At y G b n [a0, a1, a2, a3, a4, a5, a6, a7, a8, some (.int x)] (.int x :: st) σ) : At y G b pc [a0, a1, a2, a3, a4, a5, a6, a7, a8, some (.int x)] st σ := by
  subst hp
  intro g H locs la hP hS hL
  exact lv_iload g.1 g.2.1 hd (hL.2.2 9 _ rfl) (k g H locs la hP hS hL)
theorem ild_11_1 (n : Nat) {a0 a2 a3 a4 a5 a6 a7 a8 a9 a10 : Option Value} {x : Int32} (hd : decode (yC y) pc = .ok (.iload_n 1, 1)) (hp : pc + 1 = n) (k : At y G b n [a0, some (.int x), a2, a3, a4, a5, a6, a7, a8, a9, a10] (.int x :: st) σ) : At y G b pc [a0, some (.int x), a2, a3, a4, a5, a6, a7, a8, a9, a10] st σ := by
  subst hp
  intro g H locs la hP hS hL
  exact lv_iload_n g.1 g.2.1 hd rfl (hL.2.2 1 _ rfl) (k g H locs la hP hS hL)
theorem ild_11_2 (n : Nat) {a0 a1 a3 a4 a5 a6 a7 a8 a9 a10 : Option Value} {x : Int32} (hd : decode (yC y) pc = .ok (.iload_n 2, 1)) (hp : pc + 1 = n) (k : At y G b n [a0, a1, some (.int x), a3, a4, a5, a6, a7, a8, a9, a10] (.int x :: st) σ) : At y G b pc [a0, a1, some (.int x), a3, a4, a5, a6, a7, a8, a9, a10] st σ := by
  subst hp
  intro g H locs la hP hS hL
  exact lv_iload_n g.1 g.2.1 hd rfl (hL.2.2 2 _ rfl) (k g H locs la hP hS hL)
theorem ild_11_3 (n : Nat) {a0 a1 a2 a4 a5 a6 a7 a8 a9 a10 : Option Value} {x : Int32} (hd : decode (yC y) pc = .ok (.iload_n 3, 1)) (hp : pc + 1 = n) (k : At y G b n [a0, a1, a2, some (.int x), a4, a5, a6, a7, a8, a9, a10] (.int x :: st) σ) : At y G b pc [a0, a1, a2, some (.int x), a4, a5, a6, a7, a8, a9, a10] st σ := by
  subst hp
  intro g H locs la hP hS hL
  exact lv_iload_n g.1 g.2.1 hd rfl (hL.2.2 3 _ rfl) (k g H locs la hP hS hL)
theorem ild_11_4 (n : Nat) {a0 a1 a2 a3 a5 a6 a7 a8 a9 a10 : Option Value} {x : Int32} (hd : decode (yC y) pc = .ok (.iload 4, 2)) (hp : pc + 2 = n) (k : At y G b n [a0, a1, a2, a3, some (.int x), a5, a6, a7, a8, a9, a10] (.int x :: st) σ) : At y G b pc [a0, a1, a2, a3, some (.int x), a5, a6, a7, a8, a9, a10] st σ := by
  subst hp
  intro g H locs la hP hS hL
  exact lv_iload g.1 g.2.1 hd (hL.2.2 4 _ rfl) (k g H locs la hP hS hL)
theorem ild_11_5 (n : Nat) {a0 a1 a2 a3 a4 a6 a7 a8 a9 a10 : Option Value} {x : Int32} (hd : decode (yC y) pc = .ok (.iload 5, 2)) (hp : pc + 2 = n) (k : At y G b n [a0, a1, a2, a3, a4, some (.int x), a6, a7, a8, a9, a10] (.int x :: st) σ) : At y G b pc [a0, a1, a2, a3, a4, some (.int x), a6, a7, a8, a9, a10] st σ := by
  subst hp
  intro g H locs la hP hS hL
  exact lv_iload g.1 g.2.1 hd (hL.2.2 5 _ rfl) (k g H locs la hP hS hL)
theorem ild_11_6 (n : Nat) {a0 a1 a2 a3 a4 a5 a7 a8 a9 a10 : Option Value} {x : Int32} (hd : decode (yC y) pc = .ok (.iload 6, 2)) (hp : pc + 2 = n) (k : At y G b n [a0, a1, a2, a3, a4, a5, some (.int x), a7, a8, a9, a10] (.int x :: st) σ) : At y G b pc [a0, a1, a2, a3, a4, a5, some (.int x), a7, a8, a9, a10] st σ := by
  subst hp
  intro g H locs la hP hS hL
  exact lv_iload g.1 g.2.1 hd (hL.2.2 6 _ rfl) (k g H locs la hP hS hL)
theorem ild_11_7 (n : Nat) {a0 a1 a2 a3 a4 a5 a6 a8 a9 a10 : Option Value} {x : Int32} (hd : decode (yC y) pc = .ok (.iload 7, 2)) (hp : pc + 2 = n) (k : At y G b n [a0, a1, a2, a3, a4, a5, a6, some (.int x), a8, a9, a10] (.int x :: st) σ) : At y G b pc [a0, a1, a2, a3, a4, a5, a6, some (.int x), a8, a9, a10] st σ := by
  subst hp
  intro g H locs la hP hS hL
  exact lv_iload g.1 g.2.1 hd (hL.2.2 7 _ rfl) (k g H locs la hP hS hL)
theorem ild_11_8 (n : Nat) {a0 a1 a2 a3 a4 a5 a6 a7 a9 a10 : Option Value} {x : Int32} (hd : decode (yC y) pc = .ok (.iload 8, 2)) (hp : pc + 2 = n) (k : At y G b n [a0, a1, a2, a3, a4, a5, a6, a7, some (.int x), a9, a10] (.int x :: st) σ) : At y G b pc [a0, a1, a2, a3, a4, a5, a6, a7, some (.int x), a9, a10] st σ := by
  subst hp
  intro g H locs la hP hS hL
  exact lv_iload g.1 g.2.1 hd (hL.2.2 8 _ rfl) (k g H locs la hP hS hL)
theorem ild_11_9 (n : Nat) {a0 a1 a2 a3 a4 a5 a6 a7 a8 a10 : Option Value} {x : Int32} (hd : decode (yC y) pc = .ok (.iload 9, 2)) (hp : pc + 2 = n) (k : At y G b n [a0, a1, a2, a3, a4, a5, a6, a7, a8, some (.int x), a10] (.int x :: st) σ) : At y G b pc [a0, a1, a2, a3, a4, a5, a6, a7, a8, some (.int x), a10] st σ := by
  subst hp
  intro g H locs la hP hS hL
  exact lv_iload g.1 g.2.1 hd (hL.2.2 9 _ rfl) (k g H locs la hP hS hL)
theorem ild_11_10 (n : Nat) {a0 a1 a2 a3 a4 a5 a6 a7 a8 a9 : Option Value} {x : Int32} (hd : decode (yC y) pc = .ok (.iload 10, 2)) (hp : pc + 2 = n) (k : At y G b n [a0, a1, a2, a3, a4, a5, a6, a7, a8, a9, some (.int x)] (.int x :: st) σ) : At y G b pc [a0, a1, a2, a3, a4, a5, a6, a7, a8, a9, some (.int x)] st σ := by
  subst hp
  intro g H locs la hP hS hL
  exact lv_iload g.1 g.2.1 hd (hL.2.2 10 _ rfl) (k g H locs la hP hS hL)
theorem ist_1_0 (n : Nat) {a0 : Option Value} {x : Int32} (hd : decode (yC y) pc = .ok (.istore_n 0, 1)) (hn : yL y = 1) (ho : okp [a0] 0 = true) (hp : pc + 1 = n) (k : At y G b n [some (.int x)] st σ) : At y G b pc [a0] (.int x :: st) σ := by
  subst hp
  intro g H locs la hP hS hL
  exact lv_istore_n g.1 g.2.1 hd rfl hL.has (by rw [hn]; decide) rfl (fun la2 h2 => k g H locs la2 hP hS (Lc.store1 ho h2))
theorem ist_2_0 (n : Nat) {a0 a1 : Option Value} {x : Int32} (hd : decode (yC y) pc = .ok (.istore_n 0, 1)) (hn : yL y = 2) (ho : okp [a0, a1] 0 = true) (hp : pc + 1 = n) (k : At y G b n [some (.int x), a1] st σ) : At y G b pc [a0, a1] (.int x :: st) σ := by
  subst hp
  intro g H locs la hP hS hL
  exact lv_istore_n g.1 g.2.1 hd rfl hL.has (by rw [hn]; decide) rfl (fun la2 h2 => k g H locs la2 hP hS (Lc.store1 ho h2))
theorem ist_2_1 (n : Nat) {a0 a1 : Option Value} {x : Int32} (hd : decode (yC y) pc = .ok (.istore_n 1, 1)) (hn : yL y = 2) (ho : okp [a0, a1] 1 = true) (hp : pc + 1 = n) (k : At y G b n [a0, some (.int x)] st σ) : At y G b pc [a0, a1] (.int x :: st) σ := by
  subst hp
  intro g H locs la hP hS hL
  exact lv_istore_n g.1 g.2.1 hd rfl hL.has (by rw [hn]; decide) rfl (fun la2 h2 => k g H locs la2 hP hS (Lc.store1 ho h2))
theorem ist_3_1 (n : Nat) {a0 a1 a2 : Option Value} {x : Int32} (hd : decode (yC y) pc = .ok (.istore_n 1, 1)) (hn : yL y = 3) (ho : okp [a0, a1, a2] 1 = true) (hp : pc + 1 = n) (k : At y G b n [a0, some (.int x), a2] st σ) : At y G b pc [a0, a1, a2] (.int x :: st) σ := by
  subst hp
  intro g H locs la hP hS hL
  exact lv_istore_n g.1 g.2.1 hd rfl hL.has (by rw [hn]; decide) rfl (fun la2 h2 => k g H locs la2 hP hS (Lc.store1 ho h2))
theorem ist_3_2 (n : Nat) {a0 a1 a2 : Option Value} {x : Int32} (hd : decode (yC y) pc = .ok (.istore_n 2, 1)) (hn : yL y = 3) (ho : okp [a0, a1, a2] 2 = true) (hp : pc + 1 = n) (k : At y G b n [a0, a1, some (.int x)] st σ) : At y G b pc [a0, a1, a2] (.int x :: st) σ := by
  subst hp
  intro g H locs la hP hS hL
  exact lv_istore_n g.1 g.2.1 hd rfl hL.has (by rw [hn]; decide) rfl (fun la2 h2 => k g H locs la2 hP hS (Lc.store1 ho h2))
theorem ist_4_1 (n : Nat) {a0 a1 a2 a3 : Option Value} {x : Int32} (hd : decode (yC y) pc = .ok (.istore_n 1, 1)) (hn : yL y = 4) (ho : okp [a0, a1, a2, a3] 1 = true) (hp : pc + 1 = n) (k : At y G b n [a0, some (.int x), a2, a3] st σ) : At y G b pc [a0, a1, a2, a3] (.int x :: st) σ := by
  subst hp
  intro g H locs la hP hS hL
  exact lv_istore_n g.1 g.2.1 hd rfl hL.has (by rw [hn]; decide) rfl (fun la2 h2 => k g H locs la2 hP hS (Lc.store1 ho h2))
theorem ist_4_2 (n : Nat) {a0 a1 a2 a3 : Option Value} {x : Int32} (hd : decode (yC y) pc = .ok (.istore_n 2, 1)) (hn : yL y = 4) (ho : okp [a0, a1, a2, a3] 2 = true) (hp : pc + 1 = n) (k : At y G b n [a0, a1, some (.int x), a3] st σ) : At y G b pc [a0, a1, a2, a3] (.int x :: st) σ := by
  subst hp
  intro g H locs la hP hS hL
  exact lv_istore_n g.1 g.2.1 hd rfl hL.has (by rw [hn]; decide) rfl (fun la2 h2 => k g H locs la2 hP hS (Lc.store1 ho h2))
theorem ist_4_3 (n : Nat) {a0 a1 a2 a3 : Option Value} {x : Int32} (hd : decode (yC y) pc = .ok (.istore_n 3, 1)) (hn : yL y = 4) (ho : okp [a0, a1, a2, a3] 3 = true) (hp : pc + 1 = n) (k : At y G b n [a0, a1, a2, some (.int x)] st σ) : At y G b pc [a0, a1, a2, a3] (.int x :: st) σ := by
  subst hp
  intro g H locs la hP hS hL
  exact lv_istore_n g.1 g.2.1 hd rfl hL.has (by rw [hn]; decide) rfl (fun la2 h2 => k g H locs la2 hP hS (Lc.store1 ho h2))
theorem ist_5_1 (n : Nat) {a0 a1 a2 a3 a4 : Option Value} {x : Int32} (hd : decode (yC y) pc = .ok (.istore_n 1, 1)) (hn : yL y = 5) (ho : okp [a0, a1, a2, a3, a4] 1 = true) (hp : pc + 1 = n) (k : At y G b n [a0, some (.int x), a2, a3, a4] st σ) : At y G b pc [a0, a1, a2, a3, a4] (.int x :: st) σ := by
  subst hp
  intro g H locs la hP hS hL
  exact lv_istore_n g.1 g.2.1 hd rfl hL.has (by rw [hn]; decide) rfl (fun la2 h2 => k g H locs la2 hP hS (Lc.store1 ho h2))
theorem ist_5_2 (n : Nat) {a0 a1 a2 a3 a4 : Option Value} {x : Int32} (hd : decode (yC y) pc = .ok (.istore_n 2, 1)) (hn : yL y = 5) (ho : okp [a0, a1, a2, a3, a4] 2 = true) (hp : pc + 1 = n) (k : At y G b n [a0, a1, some (.int x), a3, a4] st σ) : At y G b pc [a0, a1, a2, a3, a4] (.int x :: st) σ := by
  subst hp
  intro g H locs la hP hS hL
  exact lv_istore_n g.1 g.2.1 hd rfl hL.has (by rw [hn]; decide) rfl (fun la2 h2 => k g H locs la2 hP hS (Lc.store1 ho h2))
theorem ist_5_3 (n : Nat) {a0 a1 a2 a3 a4 : Option Value} {x : Int32} (hd : decode (yC y) pc = .ok (.istore_n 3, 1)) (hn : yL y = 5) (ho : okp [a0, a1, a2, a3, a4] 3 = true) (hp : pc + 1 = n) (k : At y G b n [a0, a1, a2, some (.int x), a4] st σ) : At y G b pc [a0, a1, a2, a3, a4] (.int x :: st) σ := by
  subst hp
  intro g H locs la hP hS hL
  exact lv_istore_n g.1 g.2.1 hd rfl hL.has (by rw [hn]; decide) rfl (fun la2 h2 => k g H locs la2 hP hS (Lc.store1 ho h2))
theorem ist_5_4 (n : Nat) {a0 a1 a2 a3 a4 : Option Value} {x : Int32} (hd : decode (yC y) pc = .ok (.istore 4, 2)) (hn : yL y = 5) (ho : okp [a0, a1, a2, a3, a4] 4 = true) (hp : pc + 2 = n) (k : At y G b n [a0, a1, a2, a3, some (.int x)] st σ) : At y G b pc [a0, a1, a2, a3, a4] (.int x :: st) σ := by
  subst hp
  intro g H locs la hP hS hL
  exact lv_istore g.1 g.2.1 hd hL.has (by rw [hn]; decide) rfl (fun la2 h2 => k g H locs la2 hP hS (Lc.store1 ho h2))
theorem ist_6_1 (n : Nat) {a0 a1 a2 a3 a4 a5 : Option Value} {x : Int32} (hd : decode (yC y) pc = .ok (.istore_n 1, 1)) (hn : yL y = 6) (ho : okp [a0, a1, a2, a3, a4, a5] 1 = true) (hp : pc + 1 = n) (k : At y G b n [a0, some (.int x), a2, a3, a4, a5] st σ) : At y G b pc [a0, a1, a2, a3, a4, a5] (.int x :: st) σ := by
  subst hp
  intro g H locs la hP hS hL
  exact lv_istore_n g.1 g.2.1 hd rfl hL.has (by rw [hn]; decide) rfl (fun la2 h2 => k g H locs la2 hP hS (Lc.store1 ho h2))
theorem ist_6_2 (n : Nat) {a0 a1 a2 a3 a4 a5 : Option Value} {x : Int32} (hd : decode (yC y) pc = .ok (.istore_n 2, 1)) (hn : yL y = 6) (ho : okp [a0, a1, a2, a3, a4, a5] 2 = true) (hp : pc + 1 = n) (k : At y G b n [a0, a1, some (.int x), a3, a4, a5] st σ) : At y G b pc [a0, a1, a2, a3, a4, a5] (.int x :: st) σ := by
  subst hp
  intro g H locs la hP hS hL
  exact lv_istore_n g.1 g.2.1 hd rfl hL.has (by rw [hn]; decide) rfl (fun la2 h2 => k g H locs la2 hP hS (Lc.store1 ho h2))
theorem ist_6_3 (n : Nat) {a0 a1 a2 a3 a4 a5 : Option Value} {x : Int32} (hd : decode (yC y) pc = .ok (.istore_n 3, 1)) (hn : yL y = 6) (ho : okp [a0, a1, a2, a3, a4, a5] 3 = true) (hp : pc + 1 = n) (k : At y G b n [a0, a1, a2, some (.int x), a4, a5] st σ) : At y G b pc [a0, a1, a2, a3, a4, a5] (.int x :: st) σ := by
  subst hp
  intro g H locs la hP hS hL
  exact lv_istore_n g.1 g.2.1 hd rfl hL.has (by rw [hn]; decide) rfl (fun la2 h2 => k g H locs la2 hP hS (Lc.store1 ho h2))
theorem ist_6_4 (n : Nat) {a0 a1 a2 a3 a4 a5 : Option Value} {x : Int32} (hd : decode (yC y) pc = .ok (.istore 4, 2)) (hn : yL y = 6) (ho : okp [a0, a1, a2, a3, a4, a5] 4 = true) (hp : pc + 2 = n) (k : At y G b n [a0, a1, a2, a3, some (.int x), a5] st σ) : At y G b pc [a0, a1, a2, a3, a4, a5] (.int x :: st) σ := by
  subst hp
  intro g H locs la hP hS hL
  exact lv_istore g.1 g.2.1 hd hL.has (by rw [hn]; decide) rfl (fun la2 h2 => k g H locs la2 hP hS (Lc.store1 ho h2))
theorem ist_6_5 (n : Nat) {a0 a1 a2 a3 a4 a5 : Option Value} {x : Int32} (hd : decode (yC y) pc = .ok (.istore 5, 2)) (hn : yL y = 6) (ho : okp [a0, a1, a2, a3, a4, a5] 5 = true) (hp : pc + 2 = n) (k : At y G b n [a0, a1, a2, a3, a4, some (.int x)] st σ) : At y G b pc [a0, a1, a2, a3, a4, a5] (.int x :: st) σ := by
  subst hp
  intro g H locs la hP hS hL
  exact lv_istore g.1 g.2.1 hd hL.has (by rw [hn]; decide) rfl (fun la2 h2 => k g H locs la2 hP hS (Lc.store1 ho h2))
theorem ist_7_1 (n : Nat) {a0 a1 a2 a3 a4 a5 a6 : Option Value} {x : Int32} (hd : decode (yC y) pc = .ok (.istore_n 1, 1)) (hn : yL y = 7) (ho : okp [a0, a1, a2, a3, a4, a5, a6] 1 = true) (hp : pc + 1 = n) (k : At y G b n [a0, some (.int x), a2, a3, a4, a5, a6] st σ) : At y G b pc [a0, a1, a2, a3, a4, a5, a6] (.int x :: st) σ := by
  subst hp
  intro g H locs la hP hS hL
  exact lv_istore_n g.1 g.2.1 hd rfl hL.has (by rw [hn]; decide) rfl (fun la2 h2 => k g H locs la2 hP hS (Lc.store1 ho h2))
theorem ist_7_2 (n : Nat) {a0 a1 a2 a3 a4 a5 a6 : Option Value} {x : Int32} (hd : decode (yC y) pc = .ok (.istore_n 2, 1)) (hn : yL y = 7) (ho : okp [a0, a1, a2, a3, a4, a5, a6] 2 = true) (hp : pc + 1 = n) (k : At y G b n [a0, a1, some (.int x), a3, a4, a5, a6] st σ) : At y G b pc [a0, a1, a2, a3, a4, a5, a6] (.int x :: st) σ := by
  subst hp
  intro g H locs la hP hS hL
  exact lv_istore_n g.1 g.2.1 hd rfl hL.has (by rw [hn]; decide) rfl (fun la2 h2 => k g H locs la2 hP hS (Lc.store1 ho h2))
theorem ist_7_3 (n : Nat) {a0 a1 a2 a3 a4 a5 a6 : Option Value} {x : Int32} (hd : decode (yC y) pc = .ok (.istore_n 3, 1)) (hn : yL y = 7) (ho : okp [a0, a1, a2, a3, a4, a5, a6] 3 = true) (hp : pc + 1 = n) (k : At y G b n [a0, a1, a2, some (.int x), a4, a5, a6] st σ) : At y G b pc [a0, a1, a2, a3, a4, a5, a6] (.int x :: st) σ := by
  subst hp
  intro g H locs la hP hS hL
  exact lv_istore_n g.1 g.2.1 hd rfl hL.has (by rw [hn]; decide) rfl (fun la2 h2 => k g H locs la2 hP hS (Lc.store1 ho h2))
theorem ist_7_4 (n : Nat) {a0 a1 a2 a3 a4 a5 a6 : Option Value} {x : Int32} (hd : decode (yC y) pc = .ok (.istore 4, 2)) (hn : yL y = 7) (ho : okp [a0, a1, a2, a3, a4, a5, a6] 4 = true) (hp : pc + 2 = n) (k : At y G b n [a0, a1, a2, a3, some (.int x), a5, a6] st σ) : At y G b pc [a0, a1, a2, a3, a4, a5, a6] (.int x :: st) σ := by
  subst hp
  intro g H locs la hP hS hL
  exact lv_istore g.1 g.2.1 hd hL.has (by rw [hn]; decide) rfl (fun la2 h2 => k g H locs la2 hP hS (Lc.store1 ho h2))
theorem ist_7_5 (n : Nat) {a0 a1 a2 a3 a4 a5 a6 : Option Value} {x : Int32} (hd : decode (yC y) pc = .ok (.istore 5, 2)) (hn : yL y = 7) (ho : okp [a0, a1, a2, a3, a4, a5, a6] 5 = true) (hp : pc + 2 = n) (k : At y G b n [a0, a1, a2, a3, a4, some (.int x), a6] st σ) : At y G b pc [a0, a1, a2, a3, a4, a5, a6] (.int x :: st) σ := by
  subst hp
  intro g H locs la hP hS hL
  exact lv_istore g.1 g.2.1 hd hL.has (by rw [hn]; decide) rfl (fun la2 h2 => k g H locs la2 hP hS (Lc.store1 ho h2))
theorem ist_7_6 (n : Nat) {a0 a1 a2 a3 a4 a5 a6 : Option Value} {x : Int32} (hd : decode (yC y) pc = .ok (.istore 6, 2)) (hn : yL y = 7) (ho : okp [a0, a1, a2, a3, a4, a5, a6] 6 = true) (hp : pc + 2 = n) (k : At y G b n [a0, a1, a2, a3, a4, a5, some (.int x)] st σ) : At y G b pc [a0, a1, a2, a3, a4, a5, a6] (.int x :: st) σ := by
  subst hp
  intro g H locs la hP hS hL
  exact lv_istore g.1 g.2.1 hd hL.has (by rw [hn]; decide) rfl (fun la2 h2 => k g H locs la2 hP hS (Lc.store1 ho h2))
theorem ist_8_2 (n : Nat) {a0 a1 a2 a3 a4 a5 a6 a7 : Option Value} {x : Int32} (hd : decode (yC y) pc = .ok (.istore_n 2, 1)) (hn : yL y = 8) (ho : okp [a0, a1, a2, a3, a4, a5, a6, a7] 2 = true) (hp : pc + 1 = n) (k : At y G b n [a0, a1, some (.int x), a3, a4, a5, a6, a7] st σ) : At y G b pc [a0, a1, a2, a3, a4, a5, a6, a7] (.int x :: st) σ := by
  subst hp
  intro g H locs la hP hS hL
  exact lv_istore_n g.1 g.2.1 hd rfl hL.has (by rw [hn]; decide) rfl (fun la2 h2 => k g H locs la2 hP hS (Lc.store1 ho h2))
theorem ist_8_3 (n : Nat) {a0 a1 a2 a3 a4 a5 a6 a7 : Option Value} {x : Int32} (hd : decode (yC y) pc = .ok (.istore_n 3, 1)) (hn : yL y = 8) (ho : okp [a0, a1, a2, a3, a4, a5, a6, a7] 3 = true) (hp : pc + 1 = n) (k : At y G b n [a0, a1, a2, some (.int x), a4, a5, a6, a7] st σ) : At y G b pc [a0, a1, a2, a3, a4, a5, a6, a7] (.int x :: st) σ := by
  subst hp
  intro g H locs la hP hS hL
  exact lv_istore_n g.1 g.2.1 hd rfl hL.has (by rw [hn]; decide) rfl (fun la2 h2 => k g H locs la2 hP hS (Lc.store1 ho h2))
theorem ist_8_4 (n : Nat) {a0 a1 a2 a3 a4 a5 a6 a7 : Option Value} {x : Int32} (hd : decode (yC y) pc = .ok (.istore 4, 2)) (hn : yL y = 8) (ho : okp [a0, a1, a2, a3, a4, a5, a6, a7] 4 = true) (hp : pc + 2 = n) (k : At y G b n [a0, a1, a2, a3, some (.int x), a5, a6, a7] st σ) : At y G b pc [a0, a1, a2, a3, a4, a5, a6, a7] (.int x :: st) σ := by
  subst hp
  intro g H locs la hP hS hL
  exact lv_istore g.1 g.2.1 hd hL.has (by rw [hn]; decide) rfl (fun la2 h2 => k g H locs la2 hP hS (Lc.store1 ho h2))
theorem ist_8_5 (n : Nat) {a0 a1 a2 a3 a4 a5 a6 a7 : Option Value} {x : Int32} (hd : decode (yC y) pc = .ok (.istore 5, 2)) (hn : yL y = 8) (ho : okp [a0, a1, a2, a3, a4, a5, a6, a7] 5 = true) (hp : pc + 2 = n) (k : At y G b n [a0, a1, a2, a3, a4, some (.int x), a6, a7] st σ) : At y G b pc [a0, a1, a2, a3, a4, a5, a6, a7] (.int x :: st) σ := by
  subst hp
  intro g H locs la hP hS hL
  exact lv_istore g.1 g.2.1 hd hL.has (by rw [hn]; decide) rfl (fun la2 h2 => k g H locs la2 hP hS (Lc.store1 ho h2))
theorem ist_8_6 (n : Nat) {a0 a1 a2 a3 a4 a5 a6 a7 : Option Value} {x : Int32} (hd : decode (yC y) pc = .ok (.istore 6, 2)) (hn : yL y = 8) (ho : okp [a0, a1, a2, a3, a4, a5, a6, a7] 6 = true) (hp : pc + 2 = n) (k : At y G b n [a0, a1, a2, a3, a4, a5, some (.int x), a7] st σ) : At y G b pc [a0, a1, a2, a3, a4, a5, a6, a7] (.int x :: st) σ := by
  subst hp
  intro g H locs la hP hS hL
  exact lv_istore g.1 g.2.1 hd hL.has (by rw [hn]; decide) rfl (fun la2 h2 => k g H locs la2 hP hS (Lc.store1 ho h2))
theorem ist_8_7 (n : Nat) {a0 a1 a2 a3 a4 a5 a6 a7 : Option Value} {x : Int32} (hd : decode (yC y) pc = .ok (.istore 7, 2)) (hn : yL y = 8) (ho : okp [a0, a1, a2, a3, a4, a5, a6, a7] 7 = true) (hp : pc + 2 = n) (k : At y G b n [a0, a1, a2, a3, a4, a5, a6, some (.int x)] st σ) : At y G b pc [a0, a1, a2, a3, a4, a5, a6, a7] (.int x :: st) σ := by
  subst hp
  intro g H locs la hP hS hL
  exact lv_istore g.1 g.2.1 hd hL.has (by rw [hn]; decide) rfl (fun la2 h2 => k g H locs la2 hP hS (Lc.store1 ho h2))
theorem ist_9_2 (n : Nat) {a0 a1 a2 a3 a4 a5 a6 a7 a8 : Option Value} {x : Int32} (hd : decode (yC y) pc = .ok (.istore_n 2, 1)) (hn : yL y = 9) (ho : okp [a0, a1, a2, a3, a4, a5, a6, a7, a8] 2 = true) (hp : pc + 1 = n) (k : At y G b n [a0, a1, some (.int x), a3, a4, a5, a6, a7, a8] st σ) : At y G b pc [a0, a1, a2, a3, a4, a5, a6, a7, a8] (.int x :: st) σ := by
  subst hp
  intro g H locs la hP hS hL
  exact lv_istore_n g.1 g.2.1 hd rfl hL.has (by rw [hn]; decide) rfl (fun la2 h2 => k g H locs la2 hP hS (Lc.store1 ho h2))
theorem ist_9_3 (n : Nat) {a0 a1 a2 a3 a4 a5 a6 a7 a8 : Option Value} {x : Int32} (hd : decode (yC y) pc = .ok (.istore_n 3, 1)) (hn : yL y = 9) (ho : okp [a0, a1, a2, a3, a4, a5, a6, a7, a8] 3 = true) (hp : pc + 1 = n) (k : At y G b n [a0, a1, a2, some (.int x), a4, a5, a6, a7, a8] st σ) : At y G b pc [a0, a1, a2, a3, a4, a5, a6, a7, a8] (.int x :: st) σ := by
  subst hp
  intro g H locs la hP hS hL
  exact lv_istore_n g.1 g.2.1 hd rfl hL.has (by rw [hn]; decide) rfl (fun la2 h2 => k g H locs la2 hP hS (Lc.store1 ho h2))
theorem ist_9_4 (n : Nat) {a0 a1 a2 a3 a4 a5 a6 a7 a8 : Option Value} {x : Int32} (hd : decode (yC y) pc = .ok (.istore 4, 2)) (hn : yL y = 9) (ho : okp [a0, a1, a2, a3, a4, a5, a6, a7, a8] 4 = true) (hp : pc + 2 = n) (k : At y G b n [a0, a1, a2, a3, some (.int x), a5, a6, a7, a8] st σ) : At y G b pc [a0, a1, a2, a3, a4, a5, a6, a7, a8] (.int x :: st) σ := by
  subst hp
  intro g H locs la hP hS hL
  exact lv_istore g.1 g.2.1 hd hL.has (by rw [hn]; decide) rfl (fun la2 h2 => k g H locs la2 hP hS (Lc.store1 ho h2))
theorem ist_9_5 (n : Nat) {a0 a1 a2 a3 a4 a5 a6 a7 a8 : Option Value} {x : Int32} (hd : decode (yC y) pc = .ok (.istore 5, 2)) (hn : yL y = 9) (ho : okp [a0, a1, a2, a3, a4, a5, a6, a7, a8] 5 = true) (hp : pc + 2 = n) (k : At y G b n [a0, a1, a2, a3, a4, some (.int x), a6, a7, a8] st σ) : At y G b pc [a0, a1, a2, a3, a4, a5, a6, a7, a8] (.int x :: st) σ := by
  subst hp
  intro g H locs la hP hS hL
  exact lv_istore g.1 g.2.1 hd hL.has (by rw [hn]; decide) rfl (fun la2 h2 => k g H locs la2 hP hS (Lc.store1 ho h2))
theorem ist_9_6 (n : Nat) {a0 a1 a2 a3 a4 a5 a6 a7 a8 : Option Value} {x : Int32} (hd : decode (yC y) pc = .ok (.istore 6, 2)) (hn : yL y = 9) (ho : okp [a0, a1, a2, a3, a4, a5, a6, a7, a8] 6 = true) (hp : pc + 2 = n) (k : At y G b n [a0, a1, a2, a3, a4, a5, some (.int x), a7, a8] st σ) : At y G b pc [a0, a1, a2, a3, a4, a5, a6, a7, a8] (.int x :: st) σ := by
  subst hp
  intro g H locs la hP hS hL
  exact lv_istore g.1 g.2.1 hd hL.has (by rw [hn]; decide) rfl (fun la2 h2 => k g H locs la2 hP hS (Lc.store1 ho h2))
theorem ist_9_7 (n : Nat) {a0 a1 a2 a3 a4 a5 a6 a7 a8 : Option Value} {x : Int32} (hd : decode (yC y) pc = .ok (.istore 7, 2)) (hn : yL y = 9) (ho : okp [a0, a1, a2, a3, a4, a5, a6, a7, a8] 7 = true) (hp : pc + 2 = n) (k : At y G b n [a0, a1, a2, a3, a4, a5, a6, some (.int x), a8] st σ) : At y G b pc [a0, a1, a2, a3, a4, a5, a6, a7, a8] (.int x :: st) σ := by
  subst hp
  intro g H locs la hP hS hL
  exact lv_istore g.1 g.2.1 hd hL.has (by rw [hn]; decide) rfl (fun la2 h2 => k g H locs la2 hP hS (Lc.store1 ho h2))
theorem ist_9_8 (n : Nat) {a0 a1 a2 a3 a4 a5 a6 a7 a8 : Option Value} {x : Int32} (hd : decode (yC y) pc = .ok (.istore 8, 2)) (hn : yL y = 9) (ho : okp [a0, a1, a2, a3, a4, a5, a6, a7, a8] 8 = true) (hp : pc + 2 = n) (k : At y G b n [a0, a1, a2, a3, a4, a5, a6, a7, some (.int x)] st σ) : At y G b pc [a0, a1, a2, a3, a4, a5, a6, a7, a8] (.int x :: st) σ := by
  subst hp
  intro g H locs la hP hS hL
  exact lv_istore g.1 g.2.1 hd hL.has (by rw [hn]; decide) rfl (fun la2 h2 => k g H locs la2 hP hS (Lc.store1 ho h2))
theorem ist_10_4 (n : Nat) {a0 a1 a2 a3 a4 a5 a6 a7 a8 a9 : Option Value} {x : Int32} (hd : decode (yC y) pc = .ok (.istore 4, 2)) (hn : yL y = 10) (ho : okp [a0, a1, a2, a3, a4, a5, a6, a7, a8, a9] 4 = true) (hp : pc + 2 = n) (k : At y G b n [a0, a1, a2, a3, some (.int x), a5, a6, a7, a8, a9] st σ) : At y G b pc [a0, a1, a2, a3, a4, a5, a6, a7, a8, a9] (.int x :: st) σ := by
  subst hp
  intro g H locs la hP hS hL
  exact lv_istore g.1 g.2.1 hd hL.has (by rw [hn]; decide) rfl (fun la2 h2 => k g H locs la2 hP hS (Lc.store1 ho h2))
theorem ist_10_5 (n : Nat) {a0 a1 a2 a3 a4 a5 a6 a7 a8 a9 : Option Value} {x : Int32} (hd : decode (yC y) pc = .ok (.istore 5, 2)) (hn : yL y = 10) (ho : okp [a0, a1, a2, a3, a4, a5, a6, a7, a8, a9] 5 = true) (hp : pc + 2 = n) (k : At y G b n [a0, a1, a2, a3, a4, some (.int x), a6, a7, a8, a9] st σ) : At y G b pc [a0, a1, a2, a3, a4, a5, a6, a7, a8, a9] (.int x :: st) σ := by
  subst hp
  intro g H locs la hP hS hL
  exact lv_istore g.1 g.2.1 hd hL.has (by rw [hn]; decide) rfl (fun la2 h2 => k g H locs la2 hP hS (Lc.store1 ho h2))
theorem ist_10_6 (n : Nat) {a0 a1 a2 a3 a4 a5 a6 a7 a8 a9 : Option Value} {x : Int32} (hd : decode (yC y) pc = .ok (.istore 6, 2)) (hn : yL y = 10) (ho : okp [a0, a1, a2, a3, a4, a5, a6, a7, a8, a9] 6 = true) (hp : pc + 2 = n) (k : At y G b n [a0, a1, a2, a3, a4, a5, some (.int x), a7, a8, a9] st σ) : At y G b pc [a0, a1, a2, a3, a4, a5, a6, a7, a8, a9] (.int x :: st) σ := by
  subst hp
  intro g H locs la hP hS hL
  exact lv_istore g.1 g.2.1 hd hL.has (by rw [hn]; decide) rfl (fun la2 h2 => k g H locs la2 hP hS (Lc.store1 ho h2))
theorem ist_10_7 (n : Nat) {a0 a1 a2 a3 a4 a5 a6 a7 a8 a9 : Option Value} {x : Int32} (hd : decode (yC y) pc = .ok (.istore 7, 2)) (hn : yL y = 10) (ho : okp [a0, a1, a2, a3, a4, a5, a6, a7, a8, a9] 7 = true) (hp : pc + 2 = n) (k : At y G b n [a0, a1, a2, a3, a4, a5, a6, some (.int x), a8, a9] st σ) : At y G b pc [a0, a1, a2, a3, a4, a5, a6, a7, a8, a9] (.int x :: st) σ := by
  subst hp
  intro g H locs la hP hS hL
  exact lv_istore g.1 g.2.1 hd hL.has (by rw [hn]; decide) rfl (fun la2 h2 => k g H locs la2 hP hS (Lc.store1 ho h2))
theorem ist_10_8 (n : Nat) {a0 a1 a2 a3 a4 a5 a6 a7 a8 a9 : Option Value} {x : Int32} (hd : decode (yC y) pc = .ok (.istore 8, 2)) (hn : yL y = 10) (ho : okp [a0, a1, a2, a3, a4, a5, a6, a7, a8, a9] 8 = true) (hp : pc + 2 = n) (k : At y G b n [a0, a1, a2, a3, a4, a5, a6, a7, some (.int x), a9] st σ) : At y G b pc [a0, a1, a2, a3, a4, a5, a6, a7, a8, a9] (.int x :: st) σ := by
  subst hp
  intro g H locs la hP hS hL
  exact lv_istore g.1 g.2.1 hd hL.has (by rw [hn]; decide) rfl (fun la2 h2 => k g H locs la2 hP hS (Lc.store1 ho h2))
theorem ist_10_9 (n : Nat) {a0 a1 a2 a3 a4 a5 a6 a7 a8 a9 : Option Value} {x : Int32} (hd : decode (yC y) pc = .ok (.istore 9, 2)) (hn : yL y = 10) (ho : okp [a0, a1, a2, a3, a4, a5, a6, a7, a8, a9] 9 = true) (hp : pc + 2 = n) (k : At y G b n [a0, a1, a2, a3, a4, a5, a6, a7, a8, some (.int x)] st σ) : At y G b pc [a0, a1, a2, a3, a4, a5, a6, a7, a8, a9] (.int x :: st) σ := by
  subst hp
  intro g H locs la hP hS hL
  exact lv_istore g.1 g.2.1 hd hL.has (by rw [hn]; decide) rfl (fun la2 h2 => k g H locs la2 hP hS (Lc.store1 ho h2))
theorem ist_11_4 (n : Nat) {a0 a1 a2 a3 a4 a5 a6 a7 a8 a9 a10 : Option Value} {x : Int32} (hd : decode (yC y) pc = .ok (.istore 4, 2)) (hn : yL y = 11) (ho : okp [a0, a1, a2, a3, a4, a5, a6, a7, a8, a9, a10] 4 = true) (hp : pc + 2 = n) (k : At y G b n [a0, a1, a2, a3, some (.int x), a5, a6, a7, a8, a9, a10] st σ) : At y G b pc [a0, a1, a2, a3, a4, a5, a6, a7, a8, a9, a10] (.int x :: st) σ := by
  subst hp
  intro g H locs la hP hS hL
  exact lv_istore g.1 g.2.1 hd hL.has (by rw [hn]; decide) rfl (fun la2 h2 => k g H locs la2 hP hS (Lc.store1 ho h2))
theorem ist_11_5 (n : Nat) {a0 a1 a2 a3 a4 a5 a6 a7 a8 a9 a10 : Option Value} {x : Int32} (hd : decode (yC y) pc = .ok (.istore 5, 2)) (hn : yL y = 11) (ho : okp [a0, a1, a2, a3, a4, a5, a6, a7, a8, a9, a10] 5 = true) (hp : pc + 2 = n) (k : At y G b n [a0, a1, a2, a3, a4, some (.int x), a6, a7, a8, a9, a10] st σ) : At y G b pc [a0, a1, a2, a3, a4, a5, a6, a7, a8, a9, a10] (.int x :: st) σ := by
  subst hp
  intro g H locs la hP hS hL
  exact lv_istore g.1 g.2.1 hd hL.has (by rw [hn]; decide) rfl (fun la2 h2 => k g H locs la2 hP hS (Lc.store1 ho h2))
theorem ist_11_6 (n : Nat) {a0 a1 a2 a3 a4 a5 a6 a7 a8 a9 a10 : Option Value} {x : Int32} (hd : decode (yC y) pc = .ok (.istore 6, 2)) (hn : yL y = 11) (ho : okp [a0, a1, a2, a3, a4, a5, a6, a7, a8, a9, a10] 6 = true) (hp : pc + 2 = n) (k : At y G b n [a0, a1, a2, a3, a4, a5, some (.int x), a7, a8, a9, a10] st σ) : At y G b pc [a0, a1, a2, a3, a4, a5, a6, a7, a8, a9, a10] (.int x :: st) σ := by
  subst hp
  intro g H locs la hP hS hL
  exact lv_istore g.1 g.2.1 hd hL.has (by rw [hn]; decide) rfl (fun la2 h2 => k g H locs la2 hP hS (Lc.store1 ho h2))
theorem ist_11_7 (n : Nat) {a0 a1 a2 a3 a4 a5 a6 a7 a8 a9 a10 : Option Value} {x : Int32} (hd : decode (yC y) pc = .ok (.istore 7, 2)) (hn : yL y = 11) (ho : okp [a0, a1, a2, a3, a4, a5, a6, a7, a8, a9, a10] 7 = true) (hp : pc + 2 = n) (k : At y G b n [a0, a1, a2, a3, a4, a5, a6, some (.int x), a8, a9, a10] st σ) : At y G b pc [a0, a1, a2, a3, a4, a5, a6, a7, a8, a9, a10] (.int x :: st) σ := by
  subst hp
  intro g H locs la hP hS hL
  exact lv_istore g.1 g.2.1 hd hL.has (by rw [hn]; decide) rfl (fun la2 h2 => k g H locs la2 hP hS (Lc.store1 ho h2))
theorem ist_11_8 (n : Nat) {a0 a1 a2 a3 a4 a5 a6 a7 a8 a9 a10 : Option Value} {x : Int32} (hd : decode (yC y) pc = .ok (.istore 8, 2)) (hn : yL y = 11) (ho : okp [a0, a1, a2, a3, a4, a5, a6, a7, a8, a9, a10] 8 = true) (hp : pc + 2 = n) (k : At y G b n [a0, a1, a2, a3, a4, a5, a6, a7, some (.int x), a9, a10] st σ) : At y G b pc [a0, a1, a2, a3, a4, a5, a6, a7, a8, a9, a10] (.int x :: st) σ := by
  subst hp
  intro g H locs la hP hS hL
  exact lv_istore g.1 g.2.1 hd hL.has (by rw [hn]; decide) rfl (fun la2 h2 => k g H locs la2 hP hS (Lc.store1 ho h2))
theorem ist_11_9 (n : Nat) {a0 a1 a2 a3 a4 a5 a6 a7 a8 a9 a10 : Option Value} {x : Int32} (hd : decode (yC y) pc = .ok (.istore 9, 2)) (hn : yL y = 11) (ho : okp [a0, a1, a2, a3, a4, a5, a6, a7, a8, a9, a10] 9 = true) (hp : pc + 2 = n) (k : At y G b n [a0, a1, a2, a3, a4, a5, a6, a7, a8, some (.int x), a10] st σ) : At y G b pc [a0, a1, a2, a3, a4, a5, a6, a7, a8, a9, a10] (.int x :: st) σ := by
  subst hp
  intro g H locs la hP hS hL
  exact lv_istore g.1 g.2.1 hd hL.has (by rw [hn]; decide) rfl (fun la2 h2 => k g H locs la2 hP hS (Lc.store1 ho h2))
theorem ist_11_10 (n : Nat) {a0 a1 a2 a3 a4 a5 a6 a7 a8 a9 a10 : Option Value} {x : Int32} (hd : decode (yC y) pc = .ok (.istore 10, 2)) (hn : yL y = 11) (ho : okp [a0, a1, a2, a3, a4, a5, a6, a7, a8, a9, a10] 10 = true) (hp : pc + 2 = n) (k : At y G b n [a0, a1, a2, a3, a4, a5, a6, a7, a8, a9, some (.int x)] st σ) : At y G b pc [a0, a1, a2, a3, a4, a5, a6, a7, a8, a9, a10] (.int x :: st) σ := by
  subst hp
  intro g H locs la hP hS hL
  exact lv_istore g.1 g.2.1 hd hL.has (by rw [hn]; decide) rfl (fun la2 h2 => k g H locs la2 hP hS (Lc.store1 ho h2))
theorem lld_4_1 (n : Nat) {a0 a2 a3 : Option Value} {x : Int64} (hd : decode (yC y) pc = .ok (.lload_n 1, 1)) (hp : pc + 1 = n) (k : At y G b n [a0, some (.long x), a2, a3] (.long x :: st) σ) : At y G b pc [a0, some (.long x), a2, a3] st σ := by
  subst hp
  intro g H locs la hP hS hL
  exact lv_lload_n g.1 g.2.1 hd rfl (hL.2.2 1 _ rfl) (k g H locs la hP hS hL)
theorem lld_6_1 (n : Nat) {a0 a2 a3 a4 a5 : Option Value} {x : Int64} (hd : decode (yC y) pc = .ok (.lload_n 1, 1)) (hp : pc + 1 = n) (k : At y G b n [a0, some (.long x), a2, a3, a4, a5] (.long x :: st) σ) : At y G b pc [a0, some (.long x), a2, a3, a4, a5] st σ := by
  subst hp
  intro g H locs la hP hS hL
  exact lv_lload_n g.1 g.2.1 hd rfl (hL.2.2 1 _ rfl) (k g H locs la hP hS hL)
theorem lst_4_1 (n : Nat) {a0 a1 a2 a3 : Option Value} {x : Int64} (hd : decode (yC y) pc = .ok (.lstore_n 1, 1)) (hn : yL y = 4) (ho : okp [a0, a1, a2, a3] 1 = true) (hp : pc + 1 = n) (k : At y G b n [a0, some (.long x), none, a3] st σ) : At y G b pc [a0, a1, a2, a3] (.long x :: st) σ := by
  subst hp
  intro g H locs la hP hS hL
  exact lv_lstore_n g.1 g.2.1 hd rfl hL.has (by rw [hn]; decide) rfl (fun la2 h2 => k g H locs la2 hP hS (Lc.store2 ho h2))
theorem lst_6_1 (n : Nat) {a0 a1 a2 a3 a4 a5 : Option Value} {x : Int64} (hd : decode (yC y) pc = .ok (.lstore_n 1, 1)) (hn : yL y = 6) (ho : okp [a0, a1, a2, a3, a4, a5] 1 = true) (hp : pc + 1 = n) (k : At y G b n [a0, some (.long x), none, a3, a4, a5] st σ) : At y G b pc [a0, a1, a2, a3, a4, a5] (.long x :: st) σ := by
  subst hp
  intro g H locs la hP hS hL
  exact lv_lstore_n g.1 g.2.1 hd rfl hL.has (by rw [hn]; decide) rfl (fun la2 h2 => k g H locs la2 hP hS (Lc.store2 ho h2))
end Shapes
theorem ic_m8 : Int32.ofInt (-8) = (-8) := by decide
theorem ic_m1 : Int32.ofInt (-1) = (-1) := by decide
theorem ic_0 : Int32.ofInt 0 = 0 := by decide
theorem ic_1 : Int32.ofInt 1 = 1 := by decide
theorem ic_2 : Int32.ofInt 2 = 2 := by decide
theorem ic_3 : Int32.ofInt 3 = 3 := by decide
theorem ic_4 : Int32.ofInt 4 = 4 := by decide
theorem ic_5 : Int32.ofInt 5 = 5 := by decide
theorem ic_6 : Int32.ofInt 6 = 6 := by decide
theorem ic_8 : Int32.ofInt 8 = 8 := by decide
theorem ic_16 : Int32.ofInt 16 = 16 := by decide
theorem bp_m99 : (Int8.ofInt (-99)).toInt32 = (-99) := by decide
theorem bp_6 : (Int8.ofInt 6).toInt32 = 6 := by decide
theorem bp_7 : (Int8.ofInt 7).toInt32 = 7 := by decide
theorem bp_8 : (Int8.ofInt 8).toInt32 = 8 := by decide
theorem bp_10 : (Int8.ofInt 10).toInt32 = 10 := by decide
theorem bp_12 : (Int8.ofInt 12).toInt32 = 12 := by decide
theorem bp_16 : (Int8.ofInt 16).toInt32 = 16 := by decide
theorem bp_20 : (Int8.ofInt 20).toInt32 = 20 := by decide
theorem bp_23 : (Int8.ofInt 23).toInt32 = 23 := by decide
theorem bp_24 : (Int8.ofInt 24).toInt32 = 24 := by decide
theorem bp_31 : (Int8.ofInt 31).toInt32 = 31 := by decide
theorem bp_32 : (Int8.ofInt 32).toInt32 = 32 := by decide
theorem bp_48 : (Int8.ofInt 48).toInt32 = 48 := by decide
theorem bp_52 : (Int8.ofInt 52).toInt32 = 52 := by decide
theorem bp_57 : (Int8.ofInt 57).toInt32 = 57 := by decide
theorem bp_59 : (Int8.ofInt 59).toInt32 = 59 := by decide
theorem bp_63 : (Int8.ofInt 63).toInt32 = 63 := by decide
theorem bp_95 : (Int8.ofInt 95).toInt32 = 95 := by decide
theorem bp_96 : (Int8.ofInt 96).toInt32 = 96 := by decide
theorem bp_97 : (Int8.ofInt 97).toInt32 = 97 := by decide
theorem bp_99 : (Int8.ofInt 99).toInt32 = 99 := by decide
theorem bp_100 : (Int8.ofInt 100).toInt32 = 100 := by decide
theorem bp_122 : (Int8.ofInt 122).toInt32 = 122 := by decide
theorem sp_m257 : (Int16.ofInt (-257)).toInt32 = (-257) := by decide
theorem sp_140 : (Int16.ofInt 140).toInt32 = 140 := by decide
theorem sp_200 : (Int16.ofInt 200).toInt32 = 200 := by decide
theorem sp_255 : (Int16.ofInt 255).toInt32 = 255 := by decide
theorem sp_256 : (Int16.ofInt 256).toInt32 = 256 := by decide
theorem sp_300 : (Int16.ofInt 300).toInt32 = 300 := by decide
theorem sp_400 : (Int16.ofInt 400).toInt32 = 400 := by decide
theorem sp_500 : (Int16.ofInt 500).toInt32 = 500 := by decide
theorem sp_1000 : (Int16.ofInt 1000).toInt32 = 1000 := by decide
theorem sp_1120 : (Int16.ofInt 1120).toInt32 = 1120 := by decide
