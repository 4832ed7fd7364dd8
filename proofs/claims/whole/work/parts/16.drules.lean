/-- memory of whole numbers, seen as the machine's -/
def Em (μ : Mi) : Mm := (fun r i j => Int32.ofInt (rd μ r i j), fun r i j => Int64.ofInt (rl μ r i j))
def iv (x : Int) : Value := .int (Int32.ofInt x)
def jv (x : Int) : Value := .long (Int64.ofInt x)
theorem of32 (x : Int32) : Int32.ofInt x.toInt = x := Int32.ofInt_toInt x
theorem of64 (x : Int64) : Int64.ofInt x.toInt = x := Int64.ofInt_toInt x
theorem Em_wr (μ : Mi) (r : Nat) (i : Bool) (j : Nat) (v : Int) : sI (Em μ) r i j (Int32.ofInt v) = Em (wr μ r i j v) := by
  refine Mm_ext (fun r' i' j' => ?_) (fun r' i' j' => rfl)
  rw [gI_sI]
  show _ = Int32.ofInt (rd (wr μ r i j v) r' i' j')
  rw [rd_wr]
  split <;> rfl
theorem Em_wl (μ : Mi) (r : Nat) (i : Bool) (j : Nat) (v : Int) : sL (Em μ) r i j (Int64.ofInt v) = Em (wl μ r i j v) := by
  refine Mm_ext (fun r' i' j' => rfl) (fun r' i' j' => ?_)
  rw [gL_sL]
  show _ = Int64.ofInt (rl (wl μ r i j v) r' i' j')
  rw [rl_wl]
  split <;> rfl
def catL (av : List Value) : Bool := av.all (fun v => v.category == 1)
theorem catL_ok {av : List Value} (h : catL av = true) : ∀ v ∈ av, v.category = 1 := fun v hv => by
  have := List.all_eq_true.mp h v hv
  simpa using this
def lsub : List (Option Value) → List (Option Value) → Prop
  | [], [] => True
  | none :: t, _ :: t' => lsub t t'
  | some v :: t, w :: t' => w = some v ∧ lsub t t'
  | _, _ => False
theorem ls_0 : lsub [] [] := trivial
theorem ls_n {a : Option Value} {t t' : List (Option Value)} (h : lsub t t') : lsub (none :: t) (a :: t') := h
theorem ls_s {v : Value} {t t' : List (Option Value)} (h : lsub t t') : lsub (some v :: t) (some v :: t') := ⟨rfl, h⟩
theorem lsub_at : ∀ (t t' : List (Option Value)), lsub t t' → ∀ (k : Nat) (v : Value), t[k]? = some (some v) → t'[k]? = some (some v)
  | [], [], _, k, v, h => by simp at h
  | [], _ :: _, hs, _, _, _ => hs.elim
  | none :: t, [], hs, _, _, _ => hs.elim
  | some _ :: t, [], hs, _, _, _ => hs.elim
  | none :: t, a :: t', hs, k, v, h => by
    cases k with
    | zero => simp at h
    | succ k =>
      have := lsub_at t t' hs k v (by simpa using h)
      simpa using this
  | some w :: t, a :: t', hs, k, v, h => by
    obtain ⟨h1, h2⟩ := hs
    cases k with
    | zero =>
      simp at h
      rw [h1, h]
      rfl
    | succ k =>
      have := lsub_at t t' h2 k v (by simpa using h)
      simpa using this
theorem At.weak {y : Yd} {G : Cx} {b : Ab} {pc : Nat} {ls ls' : List (Option Value)} {st : List Value} {σ : Mm} (hs : lsub ls' ls) (k : At y G b pc ls' st σ) : At y G b pc ls st σ :=
  fun g H locs la hP hS hL => k g H locs la hP hS ⟨hL.1, hL.2.1, fun q v h => hL.2.2 q v (lsub_at ls' ls hs q v h)⟩
theorem c_lt {x y a b : Int} (ha : w32 x = a) (hb : w32 y = b) : Int32.ofInt x < Int32.ofInt y ↔ a < b := by rw [Int32.lt_iff_toInt_lt, ← ha, ← hb]; rfl
theorem c_le {x y a b : Int} (ha : w32 x = a) (hb : w32 y = b) : Int32.ofInt x ≤ Int32.ofInt y ↔ a ≤ b := by rw [Int32.le_iff_toInt_le, ← ha, ← hb]; rfl
theorem c_eq {x y a b : Int} (ha : w32 x = a) (hb : w32 y = b) : Int32.ofInt x = Int32.ofInt y ↔ a = b := by rw [← Int32.toInt_inj, ← ha, ← hb]; rfl
theorem c0 : Int32.ofInt 0 = 0 := by decide
theorem w0 : w32 0 = 0 := by decide
theorem vin_of {x : Int} {N : Nat} {M : Int} (hM : (N : Int) = M) (h : 0 ≤ w32 x ∧ w32 x < M) : vp_in (Int32.ofInt x) N := by
  rintro (h1 | h1)
  · rw [← c0, c_lt rfl w0] at h1
    omega
  · have : N ≤ (w32 x).toNat := h1
    omega
theorem nz_of {x : Int} (h : isB x) : narrow .boolean (.int (Int32.ofInt x)) = .int (Int32.ofInt x) := by
  rcases h with h | h
  · have : Int32.ofInt x = 0 := Int32.toInt_inj.mp (by rw [show (Int32.ofInt x).toInt = 0 from h]; decide)
    rw [this]; rfl
  · have : Int32.ofInt x = 1 := Int32.toInt_inj.mp (by rw [show (Int32.ofInt x).toInt = 1 from h]; decide)
    rw [this]; rfl
theorem fz_of {x : Int} (h : isB x) : fits .boolean (.int (Int32.ofInt x)) = true := by
  rcases h with h | h
  · have : Int32.ofInt x = 0 := Int32.toInt_inj.mp (by rw [show (Int32.ofInt x).toInt = 0 from h]; decide)
    rw [this]; rfl
  · have : Int32.ofInt x = 1 := Int32.toInt_inj.mp (by rw [show (Int32.ofInt x).toInt = 1 from h]; decide)
    rw [this]; rfl
theorem vz_of {x : Int} (h : isB x) : vp_nar .boolean (Int32.ofInt x) = Int32.ofInt x := by
  rw [vp_nar, nz_of h]
theorem vb_of (x : Int) : vp_nar .byte (Int32.ofInt x) = Int32.ofInt (i2b x) := by
  rw [i2b, of32]; rfl
theorem isB_0 : isB 0 := Or.inl (by decide)
theorem isB_1 : isB 1 := Or.inr (by decide)
section DRules
variable {y : Yd} {G : Cx} {b : Ab} {pc : Nat} {ls : List (Option Value)} {st : List Value} {σ : Mm} {μ : Mi}
theorem dt_iconst (n : Nat) {z : Int} (hd : decode (yC y) pc = .ok (.iconst z, 1)) (hp : pc + 1 = n) (k : At y G b n ls (iv z :: st) σ) : At y G b pc ls st σ := st_iconst n hd rfl hp k
theorem dt_bipush (n : Nat) {z : Int} (hd : decode (yC y) pc = .ok (.bipush z, 2)) (hv : (Int8.ofInt z).toInt32 = Int32.ofInt z) (hp : pc + 2 = n) (k : At y G b n ls (iv z :: st) σ) : At y G b pc ls st σ := st_bipush n hd hv hp k
theorem dt_sipush (n : Nat) {z : Int} (hd : decode (yC y) pc = .ok (.sipush z, 3)) (hv : (Int16.ofInt z).toInt32 = Int32.ofInt z) (hp : pc + 3 = n) (k : At y G b n ls (iv z :: st) σ) : At y G b pc ls st σ := st_sipush n hd hv hp k
theorem dt_lconst (n : Nat) {z : Fin 2} (hd : decode (yC y) pc = .ok (.lconst z, 1)) (hp : pc + 1 = n) (k : At y G b n ls (jv (z : Nat) :: st) σ) : At y G b pc ls st σ := st_lconst n hd (Int64.ofInt_eq_ofNat).symm hp k
theorem dt_ldc (n : Nat) {own : String} {ix : Nat} {v : Int32} {z : Int} (ho : yO y = own) (hw : Cond.constant own ix v ∈ WT) (hv : Int32.ofInt z = v) (hd : decode (yC y) pc = .ok (.ldc ix, 2)) (hp : pc + 2 = n) (k : At y G b n ls (iv z :: st) σ) : At y G b pc ls st σ := by
  subst hv
  exact st_ldc n ho hw hd hp k
theorem dt_ldcw (n : Nat) {own : String} {ix : Nat} {v : Int32} {z : Int} (ho : yO y = own) (hw : Cond.constant own ix v ∈ WT) (hv : Int32.ofInt z = v) (hd : decode (yC y) pc = .ok (.ldc_w ix, 3)) (hp : pc + 3 = n) (k : At y G b n ls (iv z :: st) σ) : At y G b pc ls st σ := by
  subst hv
  exact st_ldcw n ho hw hd hp k
theorem dt_ldc2 (n : Nat) {own : String} {ix : Nat} {v : Int64} {z : Int} (ho : yO y = own) (hw : Cond.constantLong own ix v ∈ WT) (hv : Int64.ofInt z = v) (hd : decode (yC y) pc = .ok (.ldc2_w ix, 3)) (hp : pc + 3 = n) (k : At y G b n ls (jv z :: st) σ) : At y G b pc ls st σ := by
  subst hv
  exact st_ldc2 n ho hw hd hp k
theorem dt_iadd (n : Nat) {x x2 : Int} (hd : decode (yC y) pc = .ok (.iadd, 1)) (hp : pc + 1 = n) (k : At y G b n ls (iv (x + x2) :: st) σ) : At y G b pc ls (iv x2 :: iv x :: st) σ := st_iadd n hd hp (by rw [← Int32.ofInt_add]; exact k)
theorem dt_isub (n : Nat) {x x2 : Int} (hd : decode (yC y) pc = .ok (.isub, 1)) (hp : pc + 1 = n) (k : At y G b n ls (iv (x - x2) :: st) σ) : At y G b pc ls (iv x2 :: iv x :: st) σ := st_isub n hd hp (by rw [← Int32.ofInt_sub]; exact k)
theorem dt_imul (n : Nat) {x x2 : Int} (hd : decode (yC y) pc = .ok (.imul, 1)) (hp : pc + 1 = n) (k : At y G b n ls (iv (x * x2) :: st) σ) : At y G b pc ls (iv x2 :: iv x :: st) σ := st_imul n hd hp (by rw [← Int32.ofInt_mul]; exact k)
theorem dt_ladd (n : Nat) {x x2 : Int} (hd : decode (yC y) pc = .ok (.ladd, 1)) (hp : pc + 1 = n) (k : At y G b n ls (jv (x + x2) :: st) σ) : At y G b pc ls (jv x2 :: jv x :: st) σ := st_ladd n hd hp (by rw [← Int64.ofInt_add]; exact k)
theorem dt_lsub (n : Nat) {x x2 : Int} (hd : decode (yC y) pc = .ok (.lsub, 1)) (hp : pc + 1 = n) (k : At y G b n ls (jv (x - x2) :: st) σ) : At y G b pc ls (jv x2 :: jv x :: st) σ := st_lsub n hd hp (by rw [← Int64.ofInt_sub]; exact k)
theorem dt_lmul (n : Nat) {x x2 : Int} (hd : decode (yC y) pc = .ok (.lmul, 1)) (hp : pc + 1 = n) (k : At y G b n ls (jv (x * x2) :: st) σ) : At y G b pc ls (jv x2 :: jv x :: st) σ := st_lmul n hd hp (by rw [← Int64.ofInt_mul]; exact k)
theorem dt_iand (n : Nat) {x x2 : Int} (hd : decode (yC y) pc = .ok (.iand, 1)) (hp : pc + 1 = n) (k : At y G b n ls (iv (iand x x2) :: st) σ) : At y G b pc ls (iv x2 :: iv x :: st) σ := by
  rw [iv, iand, of32] at k
  exact st_iand n hd hp k
theorem dt_ior (n : Nat) {x x2 : Int} (hd : decode (yC y) pc = .ok (.ior, 1)) (hp : pc + 1 = n) (k : At y G b n ls (iv (ior x x2) :: st) σ) : At y G b pc ls (iv x2 :: iv x :: st) σ := by
  rw [iv, ior, of32] at k
  exact st_ior n hd hp k
theorem dt_ixor (n : Nat) {x x2 : Int} (hd : decode (yC y) pc = .ok (.ixor, 1)) (hp : pc + 1 = n) (k : At y G b n ls (iv (ixor x x2) :: st) σ) : At y G b pc ls (iv x2 :: iv x :: st) σ := by
  rw [iv, ixor, of32] at k
  exact st_ixor n hd hp k
theorem dt_ishl (n : Nat) {x x2 : Int} (hd : decode (yC y) pc = .ok (.ishl, 1)) (hp : pc + 1 = n) (k : At y G b n ls (iv (ishl x x2) :: st) σ) : At y G b pc ls (iv x2 :: iv x :: st) σ := by
  rw [iv, ishl, of32] at k
  exact st_ishl n hd hp k
theorem dt_ishr (n : Nat) {x x2 : Int} (hd : decode (yC y) pc = .ok (.ishr, 1)) (hp : pc + 1 = n) (k : At y G b n ls (iv (ishr x x2) :: st) σ) : At y G b pc ls (iv x2 :: iv x :: st) σ := by
  rw [iv, ishr, of32] at k
  exact st_ishr n hd hp k
theorem dt_iushr (n : Nat) {x x2 : Int} (hd : decode (yC y) pc = .ok (.iushr, 1)) (hp : pc + 1 = n) (k : At y G b n ls (iv (iushr x x2) :: st) σ) : At y G b pc ls (iv x2 :: iv x :: st) σ := by
  rw [iv, iushr, of32] at k
  exact st_iushr n hd hp k
theorem dt_lor (n : Nat) {x x2 : Int} (hd : decode (yC y) pc = .ok (.lor, 1)) (hp : pc + 1 = n) (k : At y G b n ls (jv (lor x x2) :: st) σ) : At y G b pc ls (jv x2 :: jv x :: st) σ := by
  rw [jv, lor, of64] at k
  exact st_lor n hd hp k
theorem dt_lshl (n : Nat) {x x2 : Int} (hd : decode (yC y) pc = .ok (.lshl, 1)) (hp : pc + 1 = n) (k : At y G b n ls (jv (lshl x x2) :: st) σ) : At y G b pc ls (iv x2 :: jv x :: st) σ := by
  rw [jv, lshl, of64] at k
  exact st_lshl n hd hp k
theorem dt_idiv (n : Nat) {x x2 : Int} (hd : decode (yC y) pc = .ok (.idiv, 1)) (hne : ¬ w32 x2 = 0) (hp : pc + 1 = n) (k : At y G b n ls (iv (idiv x x2) :: st) σ) : At y G b pc ls (iv x2 :: iv x :: st) σ := by
  rw [iv, idiv, of32] at k
  exact st_idiv n hd (fun h => hne ((c_eq rfl w0).mp (h.trans c0.symm))) hp k
theorem dt_irem (n : Nat) {x x2 : Int} (hd : decode (yC y) pc = .ok (.irem, 1)) (hne : ¬ w32 x2 = 0) (hp : pc + 1 = n) (k : At y G b n ls (iv (irem x x2) :: st) σ) : At y G b pc ls (iv x2 :: iv x :: st) σ := by
  rw [iv, irem, of32] at k
  exact st_irem n hd (fun h => hne ((c_eq rfl w0).mp (h.trans c0.symm))) hp k
theorem dt_ineg (n : Nat) {x : Int} (hd : decode (yC y) pc = .ok (.ineg, 1)) (hp : pc + 1 = n) (k : At y G b n ls (iv (-x) :: st) σ) : At y G b pc ls (iv x :: st) σ := by
  rw [iv, Int32.ofInt_neg] at k
  exact st_ineg n hd hp k
theorem dt_i2b (n : Nat) {x : Int} (hd : decode (yC y) pc = .ok (.i2b, 1)) (hp : pc + 1 = n) (k : At y G b n ls (iv (i2b x) :: st) σ) : At y G b pc ls (iv x :: st) σ := by
  rw [iv, i2b, of32] at k
  exact st_i2b n hd hp k
theorem dt_i2l (n : Nat) {x a : Int} (hd : decode (yC y) pc = .ok (.i2l, 1)) (ha : w32 x = a) (hp : pc + 1 = n) (k : At y G b n ls (jv a :: st) σ) : At y G b pc ls (iv x :: st) σ := by
  subst ha
  exact st_i2l n hd hp k
theorem dt_l2i (n : Nat) {x : Int} (hd : decode (yC y) pc = .ok (.l2i, 1)) (hp : pc + 1 = n) (k : At y G b n ls (iv x :: st) σ) : At y G b pc ls (jv x :: st) σ := by
  rw [iv, ← Int64.toInt32_ofInt] at k
  exact st_l2i n hd hp k
theorem dt_lcmp (n : Nat) {x x2 : Int} (hd : decode (yC y) pc = .ok (.lcmp, 1)) (hp : pc + 1 = n) (k : At y G b n ls (iv (lcmp x x2) :: st) σ) : At y G b pc ls (jv x2 :: jv x :: st) σ := by
  refine st_lcmp n hd hp ?_
  have e : lg_cmp (Int64.ofInt x) (Int64.ofInt x2) = Int32.ofInt (lcmp x x2) := by
    rw [lg_cmp, lcmp]
    by_cases h : w64 x2 < w64 x
    · rw [if_pos h, if_pos (show Int64.ofInt x2 < Int64.ofInt x from Int64.lt_iff_toInt_lt.mpr h)]; rfl
    · rw [if_neg h, if_neg (show ¬ Int64.ofInt x2 < Int64.ofInt x from fun q => h (Int64.lt_iff_toInt_lt.mp q))]
      by_cases h2 : w64 x = w64 x2
      · rw [if_pos h2, if_pos (Int64.toInt_inj.mp h2)]; rfl
      · rw [if_neg h2, if_neg (fun q => h2 (congrArg Int64.toInt q))]; rfl
  rw [e]
  exact k
theorem dt_if_eq (n tgt : Nat) {x a : Int} {off : Int} (hd : decode (yC y) pc = .ok (.ifCond .eq off, 3)) (hp : pc + 3 = n) (ht : (pc : Int) + off = (tgt : Int)) (ha : w32 x = a) (kt : a = 0 → At y G b tgt ls st σ) (kf : ¬ (a = 0) → At y G b n ls st σ) : At y G b pc ls (iv x :: st) σ := st_if_eq n tgt hd hp ht (fun c => kt (by rw [← c0, c_eq ha w0] at c; exact c)) (fun c => kf (by rw [← c0, c_eq ha w0] at c; exact c))
theorem dt_if_ne (n tgt : Nat) {x a : Int} {off : Int} (hd : decode (yC y) pc = .ok (.ifCond .ne off, 3)) (hp : pc + 3 = n) (ht : (pc : Int) + off = (tgt : Int)) (ha : w32 x = a) (kt : ¬ a = 0 → At y G b tgt ls st σ) (kf : ¬ (¬ a = 0) → At y G b n ls st σ) : At y G b pc ls (iv x :: st) σ := st_if_ne n tgt hd hp ht (fun c => kt (by rw [← c0, c_eq ha w0] at c; exact c)) (fun c => kf (by rw [← c0, c_eq ha w0] at c; exact fun q => q c))
theorem dt_if_lt (n tgt : Nat) {x a : Int} {off : Int} (hd : decode (yC y) pc = .ok (.ifCond .lt off, 3)) (hp : pc + 3 = n) (ht : (pc : Int) + off = (tgt : Int)) (ha : w32 x = a) (kt : a < 0 → At y G b tgt ls st σ) (kf : ¬ (a < 0) → At y G b n ls st σ) : At y G b pc ls (iv x :: st) σ := st_if_lt n tgt hd hp ht (fun c => kt (by rw [← c0, c_lt ha w0] at c; exact c)) (fun c => kf (by rw [← c0, c_lt ha w0] at c; exact c))
theorem dt_if_ge (n tgt : Nat) {x a : Int} {off : Int} (hd : decode (yC y) pc = .ok (.ifCond .ge off, 3)) (hp : pc + 3 = n) (ht : (pc : Int) + off = (tgt : Int)) (ha : w32 x = a) (kt : 0 ≤ a → At y G b tgt ls st σ) (kf : ¬ (0 ≤ a) → At y G b n ls st σ) : At y G b pc ls (iv x :: st) σ := st_if_ge n tgt hd hp ht (fun c => kt (by rw [← c0, c_le w0 ha] at c; exact c)) (fun c => kf (by rw [← c0, c_le w0 ha] at c; exact c))
theorem dt_if_gt (n tgt : Nat) {x a : Int} {off : Int} (hd : decode (yC y) pc = .ok (.ifCond .gt off, 3)) (hp : pc + 3 = n) (ht : (pc : Int) + off = (tgt : Int)) (ha : w32 x = a) (kt : 0 < a → At y G b tgt ls st σ) (kf : ¬ (0 < a) → At y G b n ls st σ) : At y G b pc ls (iv x :: st) σ := st_if_gt n tgt hd hp ht (fun c => kt (by rw [← c0, c_lt w0 ha] at c; exact c)) (fun c => kf (by rw [← c0, c_lt w0 ha] at c; exact c))
theorem dt_if_le (n tgt : Nat) {x a : Int} {off : Int} (hd : decode (yC y) pc = .ok (.ifCond .le off, 3)) (hp : pc + 3 = n) (ht : (pc : Int) + off = (tgt : Int)) (ha : w32 x = a) (kt : a ≤ 0 → At y G b tgt ls st σ) (kf : ¬ (a ≤ 0) → At y G b n ls st σ) : At y G b pc ls (iv x :: st) σ := st_if_le n tgt hd hp ht (fun c => kt (by rw [← c0, c_le ha w0] at c; exact c)) (fun c => kf (by rw [← c0, c_le ha w0] at c; exact c))
theorem dt_icmp_eq (n tgt : Nat) {x x2 a a2 : Int} {off : Int} (hd : decode (yC y) pc = .ok (.if_icmp .eq off, 3)) (hp : pc + 3 = n) (ht : (pc : Int) + off = (tgt : Int)) (ha : w32 x = a) (hb : w32 x2 = a2) (kt : a = a2 → At y G b tgt ls st σ) (kf : ¬ (a = a2) → At y G b n ls st σ) : At y G b pc ls (iv x2 :: iv x :: st) σ := st_icmp_eq n tgt hd hp ht (fun c => kt (by rw [c_eq ha hb] at c; exact c)) (fun c => kf (by rw [c_eq ha hb] at c; exact c))
theorem dt_icmp_ne (n tgt : Nat) {x x2 a a2 : Int} {off : Int} (hd : decode (yC y) pc = .ok (.if_icmp .ne off, 3)) (hp : pc + 3 = n) (ht : (pc : Int) + off = (tgt : Int)) (ha : w32 x = a) (hb : w32 x2 = a2) (kt : ¬ a = a2 → At y G b tgt ls st σ) (kf : ¬ (¬ a = a2) → At y G b n ls st σ) : At y G b pc ls (iv x2 :: iv x :: st) σ := st_icmp_ne n tgt hd hp ht (fun c => kt (by rw [c_eq ha hb] at c; exact c)) (fun c => kf (by rw [c_eq ha hb] at c; exact fun q => q c))
theorem dt_icmp_lt (n tgt : Nat) {x x2 a a2 : Int} {off : Int} (hd : decode (yC y) pc = .ok (.if_icmp .lt off, 3)) (hp : pc + 3 = n) (ht : (pc : Int) + off = (tgt : Int)) (ha : w32 x = a) (hb : w32 x2 = a2) (kt : a < a2 → At y G b tgt ls st σ) (kf : ¬ (a < a2) → At y G b n ls st σ) : At y G b pc ls (iv x2 :: iv x :: st) σ := st_icmp_lt n tgt hd hp ht (fun c => kt (by rw [c_lt ha hb] at c; exact c)) (fun c => kf (by rw [c_lt ha hb] at c; exact c))
theorem dt_icmp_ge (n tgt : Nat) {x x2 a a2 : Int} {off : Int} (hd : decode (yC y) pc = .ok (.if_icmp .ge off, 3)) (hp : pc + 3 = n) (ht : (pc : Int) + off = (tgt : Int)) (ha : w32 x = a) (hb : w32 x2 = a2) (kt : a2 ≤ a → At y G b tgt ls st σ) (kf : ¬ (a2 ≤ a) → At y G b n ls st σ) : At y G b pc ls (iv x2 :: iv x :: st) σ := st_icmp_ge n tgt hd hp ht (fun c => kt (by rw [c_le hb ha] at c; exact c)) (fun c => kf (by rw [c_le hb ha] at c; exact c))
theorem dt_icmp_gt (n tgt : Nat) {x x2 a a2 : Int} {off : Int} (hd : decode (yC y) pc = .ok (.if_icmp .gt off, 3)) (hp : pc + 3 = n) (ht : (pc : Int) + off = (tgt : Int)) (ha : w32 x = a) (hb : w32 x2 = a2) (kt : a2 < a → At y G b tgt ls st σ) (kf : ¬ (a2 < a) → At y G b n ls st σ) : At y G b pc ls (iv x2 :: iv x :: st) σ := st_icmp_gt n tgt hd hp ht (fun c => kt (by rw [c_lt hb ha] at c; exact c)) (fun c => kf (by rw [c_lt hb ha] at c; exact c))
theorem dt_icmp_le (n tgt : Nat) {x x2 a a2 : Int} {off : Int} (hd : decode (yC y) pc = .ok (.if_icmp .le off, 3)) (hp : pc + 3 = n) (ht : (pc : Int) + off = (tgt : Int)) (ha : w32 x = a) (hb : w32 x2 = a2) (kt : a ≤ a2 → At y G b tgt ls st σ) (kf : ¬ (a ≤ a2) → At y G b n ls st σ) : At y G b pc ls (iv x2 :: iv x :: st) σ := st_icmp_le n tgt hd hp ht (fun c => kt (by rw [c_le ha hb] at c; exact c)) (fun c => kf (by rw [c_le ha hb] at c; exact c))
theorem dt_tableIn (tgt : Nat) {dflt lo hi : Int} {offs : Array Int} {len : Nat} {x v : Int} {off : Int} (hd : decode (yC y) pc = .ok (.tableswitch dflt lo hi offs, len)) {a : Int} (c : a = v) (hv : w32 v = v) (ha : w32 x = a) (h1 : ¬ v < lo) (h2 : ¬ hi < v) (ho : offs[(v - lo).toNat]? = some off) (ht : (pc : Int) + off = (tgt : Int)) (k : At y G b tgt ls st σ) : At y G b pc ls (iv x :: st) σ := by
  have e : (Int32.ofInt x).toInt = v := ha.trans c
  exact st_tableIn tgt hd (by rw [e]; exact h1) (by rw [e]; exact h2) (by rw [e]; exact ho) ht k
theorem dt_tableOut (tgt : Nat) {dflt lo hi : Int} {offs : Array Int} {len : Nat} {x : Int} (hd : decode (yC y) pc = .ok (.tableswitch dflt lo hi offs, len)) (h : w32 x < lo ∨ hi < w32 x) (ht : (pc : Int) + dflt = (tgt : Int)) (k : At y G b tgt ls st σ) : At y G b pc ls (iv x :: st) σ := st_tableOut tgt hd h ht k
theorem dinc_2_1 (n : Nat) {a0 : Option Value} {x z : Int} (hd : decode (yC y) pc = .ok (.iinc 1 z, 3)) (hn : yL y = 2) (ho : okp [a0, some (iv x)] 1 = true) (hp : pc + 3 = n) (k : At y G b n [a0, some (iv (x + z))] st σ) : At y G b pc [a0, some (iv x)] st σ := inc_2_1 n hd rfl hn ho hp (by rw [← Int32.ofInt_add]; exact k)
theorem dinc_3_2 (n : Nat) {a0 a1 : Option Value} {x z : Int} (hd : decode (yC y) pc = .ok (.iinc 2 z, 3)) (hn : yL y = 3) (ho : okp [a0, a1, some (iv x)] 2 = true) (hp : pc + 3 = n) (k : At y G b n [a0, a1, some (iv (x + z))] st σ) : At y G b pc [a0, a1, some (iv x)] st σ := inc_3_2 n hd rfl hn ho hp (by rw [← Int32.ofInt_add]; exact k)
theorem dinc_4_1 (n : Nat) {a0 a2 a3 : Option Value} {x z : Int} (hd : decode (yC y) pc = .ok (.iinc 1 z, 3)) (hn : yL y = 4) (ho : okp [a0, some (iv x), a2, a3] 1 = true) (hp : pc + 3 = n) (k : At y G b n [a0, some (iv (x + z)), a2, a3] st σ) : At y G b pc [a0, some (iv x), a2, a3] st σ := inc_4_1 n hd rfl hn ho hp (by rw [← Int32.ofInt_add]; exact k)
theorem dinc_4_2 (n : Nat) {a0 a1 a3 : Option Value} {x z : Int} (hd : decode (yC y) pc = .ok (.iinc 2 z, 3)) (hn : yL y = 4) (ho : okp [a0, a1, some (iv x), a3] 2 = true) (hp : pc + 3 = n) (k : At y G b n [a0, a1, some (iv (x + z)), a3] st σ) : At y G b pc [a0, a1, some (iv x), a3] st σ := inc_4_2 n hd rfl hn ho hp (by rw [← Int32.ofInt_add]; exact k)
theorem dinc_4_3 (n : Nat) {a0 a1 a2 : Option Value} {x z : Int} (hd : decode (yC y) pc = .ok (.iinc 3 z, 3)) (hn : yL y = 4) (ho : okp [a0, a1, a2, some (iv x)] 3 = true) (hp : pc + 3 = n) (k : At y G b n [a0, a1, a2, some (iv (x + z))] st σ) : At y G b pc [a0, a1, a2, some (iv x)] st σ := inc_4_3 n hd rfl hn ho hp (by rw [← Int32.ofInt_add]; exact k)
theorem dinc_5_2 (n : Nat) {a0 a1 a3 a4 : Option Value} {x z : Int} (hd : decode (yC y) pc = .ok (.iinc 2 z, 3)) (hn : yL y = 5) (ho : okp [a0, a1, some (iv x), a3, a4] 2 = true) (hp : pc + 3 = n) (k : At y G b n [a0, a1, some (iv (x + z)), a3, a4] st σ) : At y G b pc [a0, a1, some (iv x), a3, a4] st σ := inc_5_2 n hd rfl hn ho hp (by rw [← Int32.ofInt_add]; exact k)
theorem dinc_5_3 (n : Nat) {a0 a1 a2 a4 : Option Value} {x z : Int} (hd : decode (yC y) pc = .ok (.iinc 3 z, 3)) (hn : yL y = 5) (ho : okp [a0, a1, a2, some (iv x), a4] 3 = true) (hp : pc + 3 = n) (k : At y G b n [a0, a1, a2, some (iv (x + z)), a4] st σ) : At y G b pc [a0, a1, a2, some (iv x), a4] st σ := inc_5_3 n hd rfl hn ho hp (by rw [← Int32.ofInt_add]; exact k)
theorem dinc_5_4 (n : Nat) {a0 a1 a2 a3 : Option Value} {x z : Int} (hd : decode (yC y) pc = .ok (.iinc 4 z, 3)) (hn : yL y = 5) (ho : okp [a0, a1, a2, a3, some (iv x)] 4 = true) (hp : pc + 3 = n) (k : At y G b n [a0, a1, a2, a3, some (iv (x + z))] st σ) : At y G b pc [a0, a1, a2, a3, some (iv x)] st σ := inc_5_4 n hd rfl hn ho hp (by rw [← Int32.ofInt_add]; exact k)
theorem dinc_6_1 (n : Nat) {a0 a2 a3 a4 a5 : Option Value} {x z : Int} (hd : decode (yC y) pc = .ok (.iinc 1 z, 3)) (hn : yL y = 6) (ho : okp [a0, some (iv x), a2, a3, a4, a5] 1 = true) (hp : pc + 3 = n) (k : At y G b n [a0, some (iv (x + z)), a2, a3, a4, a5] st σ) : At y G b pc [a0, some (iv x), a2, a3, a4, a5] st σ := inc_6_1 n hd rfl hn ho hp (by rw [← Int32.ofInt_add]; exact k)
theorem dinc_6_2 (n : Nat) {a0 a1 a3 a4 a5 : Option Value} {x z : Int} (hd : decode (yC y) pc = .ok (.iinc 2 z, 3)) (hn : yL y = 6) (ho : okp [a0, a1, some (iv x), a3, a4, a5] 2 = true) (hp : pc + 3 = n) (k : At y G b n [a0, a1, some (iv (x + z)), a3, a4, a5] st σ) : At y G b pc [a0, a1, some (iv x), a3, a4, a5] st σ := inc_6_2 n hd rfl hn ho hp (by rw [← Int32.ofInt_add]; exact k)
theorem dinc_6_3 (n : Nat) {a0 a1 a2 a4 a5 : Option Value} {x z : Int} (hd : decode (yC y) pc = .ok (.iinc 3 z, 3)) (hn : yL y = 6) (ho : okp [a0, a1, a2, some (iv x), a4, a5] 3 = true) (hp : pc + 3 = n) (k : At y G b n [a0, a1, a2, some (iv (x + z)), a4, a5] st σ) : At y G b pc [a0, a1, a2, some (iv x), a4, a5] st σ := inc_6_3 n hd rfl hn ho hp (by rw [← Int32.ofInt_add]; exact k)
theorem dinc_6_4 (n : Nat) {a0 a1 a2 a3 a5 : Option Value} {x z : Int} (hd : decode (yC y) pc = .ok (.iinc 4 z, 3)) (hn : yL y = 6) (ho : okp [a0, a1, a2, a3, some (iv x), a5] 4 = true) (hp : pc + 3 = n) (k : At y G b n [a0, a1, a2, a3, some (iv (x + z)), a5] st σ) : At y G b pc [a0, a1, a2, a3, some (iv x), a5] st σ := inc_6_4 n hd rfl hn ho hp (by rw [← Int32.ofInt_add]; exact k)
theorem dinc_6_5 (n : Nat) {a0 a1 a2 a3 a4 : Option Value} {x z : Int} (hd : decode (yC y) pc = .ok (.iinc 5 z, 3)) (hn : yL y = 6) (ho : okp [a0, a1, a2, a3, a4, some (iv x)] 5 = true) (hp : pc + 3 = n) (k : At y G b n [a0, a1, a2, a3, a4, some (iv (x + z))] st σ) : At y G b pc [a0, a1, a2, a3, a4, some (iv x)] st σ := inc_6_5 n hd rfl hn ho hp (by rw [← Int32.ofInt_add]; exact k)
theorem dinc_7_1 (n : Nat) {a0 a2 a3 a4 a5 a6 : Option Value} {x z : Int} (hd : decode (yC y) pc = .ok (.iinc 1 z, 3)) (hn : yL y = 7) (ho : okp [a0, some (iv x), a2, a3, a4, a5, a6] 1 = true) (hp : pc + 3 = n) (k : At y G b n [a0, some (iv (x + z)), a2, a3, a4, a5, a6] st σ) : At y G b pc [a0, some (iv x), a2, a3, a4, a5, a6] st σ := inc_7_1 n hd rfl hn ho hp (by rw [← Int32.ofInt_add]; exact k)
theorem dinc_7_2 (n : Nat) {a0 a1 a3 a4 a5 a6 : Option Value} {x z : Int} (hd : decode (yC y) pc = .ok (.iinc 2 z, 3)) (hn : yL y = 7) (ho : okp [a0, a1, some (iv x), a3, a4, a5, a6] 2 = true) (hp : pc + 3 = n) (k : At y G b n [a0, a1, some (iv (x + z)), a3, a4, a5, a6] st σ) : At y G b pc [a0, a1, some (iv x), a3, a4, a5, a6] st σ := inc_7_2 n hd rfl hn ho hp (by rw [← Int32.ofInt_add]; exact k)
theorem dinc_7_3 (n : Nat) {a0 a1 a2 a4 a5 a6 : Option Value} {x z : Int} (hd : decode (yC y) pc = .ok (.iinc 3 z, 3)) (hn : yL y = 7) (ho : okp [a0, a1, a2, some (iv x), a4, a5, a6] 3 = true) (hp : pc + 3 = n) (k : At y G b n [a0, a1, a2, some (iv (x + z)), a4, a5, a6] st σ) : At y G b pc [a0, a1, a2, some (iv x), a4, a5, a6] st σ := inc_7_3 n hd rfl hn ho hp (by rw [← Int32.ofInt_add]; exact k)
theorem dinc_7_4 (n : Nat) {a0 a1 a2 a3 a5 a6 : Option Value} {x z : Int} (hd : decode (yC y) pc = .ok (.iinc 4 z, 3)) (hn : yL y = 7) (ho : okp [a0, a1, a2, a3, some (iv x), a5, a6] 4 = true) (hp : pc + 3 = n) (k : At y G b n [a0, a1, a2, a3, some (iv (x + z)), a5, a6] st σ) : At y G b pc [a0, a1, a2, a3, some (iv x), a5, a6] st σ := inc_7_4 n hd rfl hn ho hp (by rw [← Int32.ofInt_add]; exact k)
theorem dinc_7_5 (n : Nat) {a0 a1 a2 a3 a4 a6 : Option Value} {x z : Int} (hd : decode (yC y) pc = .ok (.iinc 5 z, 3)) (hn : yL y = 7) (ho : okp [a0, a1, a2, a3, a4, some (iv x), a6] 5 = true) (hp : pc + 3 = n) (k : At y G b n [a0, a1, a2, a3, a4, some (iv (x + z)), a6] st σ) : At y G b pc [a0, a1, a2, a3, a4, some (iv x), a6] st σ := inc_7_5 n hd rfl hn ho hp (by rw [← Int32.ofInt_add]; exact k)
theorem dinc_8_2 (n : Nat) {a0 a1 a3 a4 a5 a6 a7 : Option Value} {x z : Int} (hd : decode (yC y) pc = .ok (.iinc 2 z, 3)) (hn : yL y = 8) (ho : okp [a0, a1, some (iv x), a3, a4, a5, a6, a7] 2 = true) (hp : pc + 3 = n) (k : At y G b n [a0, a1, some (iv (x + z)), a3, a4, a5, a6, a7] st σ) : At y G b pc [a0, a1, some (iv x), a3, a4, a5, a6, a7] st σ := inc_8_2 n hd rfl hn ho hp (by rw [← Int32.ofInt_add]; exact k)
theorem dinc_8_3 (n : Nat) {a0 a1 a2 a4 a5 a6 a7 : Option Value} {x z : Int} (hd : decode (yC y) pc = .ok (.iinc 3 z, 3)) (hn : yL y = 8) (ho : okp [a0, a1, a2, some (iv x), a4, a5, a6, a7] 3 = true) (hp : pc + 3 = n) (k : At y G b n [a0, a1, a2, some (iv (x + z)), a4, a5, a6, a7] st σ) : At y G b pc [a0, a1, a2, some (iv x), a4, a5, a6, a7] st σ := inc_8_3 n hd rfl hn ho hp (by rw [← Int32.ofInt_add]; exact k)
theorem dinc_8_4 (n : Nat) {a0 a1 a2 a3 a5 a6 a7 : Option Value} {x z : Int} (hd : decode (yC y) pc = .ok (.iinc 4 z, 3)) (hn : yL y = 8) (ho : okp [a0, a1, a2, a3, some (iv x), a5, a6, a7] 4 = true) (hp : pc + 3 = n) (k : At y G b n [a0, a1, a2, a3, some (iv (x + z)), a5, a6, a7] st σ) : At y G b pc [a0, a1, a2, a3, some (iv x), a5, a6, a7] st σ := inc_8_4 n hd rfl hn ho hp (by rw [← Int32.ofInt_add]; exact k)
theorem dinc_8_5 (n : Nat) {a0 a1 a2 a3 a4 a6 a7 : Option Value} {x z : Int} (hd : decode (yC y) pc = .ok (.iinc 5 z, 3)) (hn : yL y = 8) (ho : okp [a0, a1, a2, a3, a4, some (iv x), a6, a7] 5 = true) (hp : pc + 3 = n) (k : At y G b n [a0, a1, a2, a3, a4, some (iv (x + z)), a6, a7] st σ) : At y G b pc [a0, a1, a2, a3, a4, some (iv x), a6, a7] st σ := inc_8_5 n hd rfl hn ho hp (by rw [← Int32.ofInt_add]; exact k)
theorem dinc_8_6 (n : Nat) {a0 a1 a2 a3 a4 a5 a7 : Option Value} {x z : Int} (hd : decode (yC y) pc = .ok (.iinc 6 z, 3)) (hn : yL y = 8) (ho : okp [a0, a1, a2, a3, a4, a5, some (iv x), a7] 6 = true) (hp : pc + 3 = n) (k : At y G b n [a0, a1, a2, a3, a4, a5, some (iv (x + z)), a7] st σ) : At y G b pc [a0, a1, a2, a3, a4, a5, some (iv x), a7] st σ := inc_8_6 n hd rfl hn ho hp (by rw [← Int32.ofInt_add]; exact k)
theorem dinc_8_7 (n : Nat) {a0 a1 a2 a3 a4 a5 a6 : Option Value} {x z : Int} (hd : decode (yC y) pc = .ok (.iinc 7 z, 3)) (hn : yL y = 8) (ho : okp [a0, a1, a2, a3, a4, a5, a6, some (iv x)] 7 = true) (hp : pc + 3 = n) (k : At y G b n [a0, a1, a2, a3, a4, a5, a6, some (iv (x + z))] st σ) : At y G b pc [a0, a1, a2, a3, a4, a5, a6, some (iv x)] st σ := inc_8_7 n hd rfl hn ho hp (by rw [← Int32.ofInt_add]; exact k)
theorem dinc_9_3 (n : Nat) {a0 a1 a2 a4 a5 a6 a7 a8 : Option Value} {x z : Int} (hd : decode (yC y) pc = .ok (.iinc 3 z, 3)) (hn : yL y = 9) (ho : okp [a0, a1, a2, some (iv x), a4, a5, a6, a7, a8] 3 = true) (hp : pc + 3 = n) (k : At y G b n [a0, a1, a2, some (iv (x + z)), a4, a5, a6, a7, a8] st σ) : At y G b pc [a0, a1, a2, some (iv x), a4, a5, a6, a7, a8] st σ := inc_9_3 n hd rfl hn ho hp (by rw [← Int32.ofInt_add]; exact k)
theorem dinc_9_4 (n : Nat) {a0 a1 a2 a3 a5 a6 a7 a8 : Option Value} {x z : Int} (hd : decode (yC y) pc = .ok (.iinc 4 z, 3)) (hn : yL y = 9) (ho : okp [a0, a1, a2, a3, some (iv x), a5, a6, a7, a8] 4 = true) (hp : pc + 3 = n) (k : At y G b n [a0, a1, a2, a3, some (iv (x + z)), a5, a6, a7, a8] st σ) : At y G b pc [a0, a1, a2, a3, some (iv x), a5, a6, a7, a8] st σ := inc_9_4 n hd rfl hn ho hp (by rw [← Int32.ofInt_add]; exact k)
theorem dinc_9_6 (n : Nat) {a0 a1 a2 a3 a4 a5 a7 a8 : Option Value} {x z : Int} (hd : decode (yC y) pc = .ok (.iinc 6 z, 3)) (hn : yL y = 9) (ho : okp [a0, a1, a2, a3, a4, a5, some (iv x), a7, a8] 6 = true) (hp : pc + 3 = n) (k : At y G b n [a0, a1, a2, a3, a4, a5, some (iv (x + z)), a7, a8] st σ) : At y G b pc [a0, a1, a2, a3, a4, a5, some (iv x), a7, a8] st σ := inc_9_6 n hd rfl hn ho hp (by rw [← Int32.ofInt_add]; exact k)
theorem dinc_9_7 (n : Nat) {a0 a1 a2 a3 a4 a5 a6 a8 : Option Value} {x z : Int} (hd : decode (yC y) pc = .ok (.iinc 7 z, 3)) (hn : yL y = 9) (ho : okp [a0, a1, a2, a3, a4, a5, a6, some (iv x), a8] 7 = true) (hp : pc + 3 = n) (k : At y G b n [a0, a1, a2, a3, a4, a5, a6, some (iv (x + z)), a8] st σ) : At y G b pc [a0, a1, a2, a3, a4, a5, a6, some (iv x), a8] st σ := inc_9_7 n hd rfl hn ho hp (by rw [← Int32.ofInt_add]; exact k)
theorem dinc_9_8 (n : Nat) {a0 a1 a2 a3 a4 a5 a6 a7 : Option Value} {x z : Int} (hd : decode (yC y) pc = .ok (.iinc 8 z, 3)) (hn : yL y = 9) (ho : okp [a0, a1, a2, a3, a4, a5, a6, a7, some (iv x)] 8 = true) (hp : pc + 3 = n) (k : At y G b n [a0, a1, a2, a3, a4, a5, a6, a7, some (iv (x + z))] st σ) : At y G b pc [a0, a1, a2, a3, a4, a5, a6, a7, some (iv x)] st σ := inc_9_8 n hd rfl hn ho hp (by rw [← Int32.ofInt_add]; exact k)
theorem dinc_10_8 (n : Nat) {a0 a1 a2 a3 a4 a5 a6 a7 a9 : Option Value} {x z : Int} (hd : decode (yC y) pc = .ok (.iinc 8 z, 3)) (hn : yL y = 10) (ho : okp [a0, a1, a2, a3, a4, a5, a6, a7, some (iv x), a9] 8 = true) (hp : pc + 3 = n) (k : At y G b n [a0, a1, a2, a3, a4, a5, a6, a7, some (iv (x + z)), a9] st σ) : At y G b pc [a0, a1, a2, a3, a4, a5, a6, a7, some (iv x), a9] st σ := inc_10_8 n hd rfl hn ho hp (by rw [← Int32.ofInt_add]; exact k)
theorem dinc_11_4 (n : Nat) {a0 a1 a2 a3 a5 a6 a7 a8 a9 a10 : Option Value} {x z : Int} (hd : decode (yC y) pc = .ok (.iinc 4 z, 3)) (hn : yL y = 11) (ho : okp [a0, a1, a2, a3, some (iv x), a5, a6, a7, a8, a9, a10] 4 = true) (hp : pc + 3 = n) (k : At y G b n [a0, a1, a2, a3, some (iv (x + z)), a5, a6, a7, a8, a9, a10] st σ) : At y G b pc [a0, a1, a2, a3, some (iv x), a5, a6, a7, a8, a9, a10] st σ := inc_11_4 n hd rfl hn ho hp (by rw [← Int32.ofInt_add]; exact k)
theorem dinc_11_10 (n : Nat) {a0 a1 a2 a3 a4 a5 a6 a7 a8 a9 : Option Value} {x z : Int} (hd : decode (yC y) pc = .ok (.iinc 10 z, 3)) (hn : yL y = 11) (ho : okp [a0, a1, a2, a3, a4, a5, a6, a7, a8, a9, some (iv x)] 10 = true) (hp : pc + 3 = n) (k : At y G b n [a0, a1, a2, a3, a4, a5, a6, a7, a8, a9, some (iv (x + z))] st σ) : At y G b pc [a0, a1, a2, a3, a4, a5, a6, a7, a8, a9, some (iv x)] st σ := inc_11_10 n hd rfl hn ho hp (by rw [← Int32.ofInt_add]; exact k)
theorem dild_1_0 (n : Nat) {x : Int} (hd : decode (yC y) pc = .ok (.iload_n 0, 1)) (hp : pc + 1 = n) (k : At y G b n [some (iv x)] (iv x :: st) σ) : At y G b pc [some (iv x)] st σ := ild_1_0 n hd hp k
theorem dild_2_0 (n : Nat) {a1 : Option Value} {x : Int} (hd : decode (yC y) pc = .ok (.iload_n 0, 1)) (hp : pc + 1 = n) (k : At y G b n [some (iv x), a1] (iv x :: st) σ) : At y G b pc [some (iv x), a1] st σ := ild_2_0 n hd hp k
theorem dild_2_1 (n : Nat) {a0 : Option Value} {x : Int} (hd : decode (yC y) pc = .ok (.iload_n 1, 1)) (hp : pc + 1 = n) (k : At y G b n [a0, some (iv x)] (iv x :: st) σ) : At y G b pc [a0, some (iv x)] st σ := ild_2_1 n hd hp k
theorem dild_3_0 (n : Nat) {a1 a2 : Option Value} {x : Int} (hd : decode (yC y) pc = .ok (.iload_n 0, 1)) (hp : pc + 1 = n) (k : At y G b n [some (iv x), a1, a2] (iv x :: st) σ) : At y G b pc [some (iv x), a1, a2] st σ := ild_3_0 n hd hp k
theorem dild_3_1 (n : Nat) {a0 a2 : Option Value} {x : Int} (hd : decode (yC y) pc = .ok (.iload_n 1, 1)) (hp : pc + 1 = n) (k : At y G b n [a0, some (iv x), a2] (iv x :: st) σ) : At y G b pc [a0, some (iv x), a2] st σ := ild_3_1 n hd hp k
theorem dild_3_2 (n : Nat) {a0 a1 : Option Value} {x : Int} (hd : decode (yC y) pc = .ok (.iload_n 2, 1)) (hp : pc + 1 = n) (k : At y G b n [a0, a1, some (iv x)] (iv x :: st) σ) : At y G b pc [a0, a1, some (iv x)] st σ := ild_3_2 n hd hp k
theorem dild_4_0 (n : Nat) {a1 a2 a3 : Option Value} {x : Int} (hd : decode (yC y) pc = .ok (.iload_n 0, 1)) (hp : pc + 1 = n) (k : At y G b n [some (iv x), a1, a2, a3] (iv x :: st) σ) : At y G b pc [some (iv x), a1, a2, a3] st σ := ild_4_0 n hd hp k
theorem dild_4_1 (n : Nat) {a0 a2 a3 : Option Value} {x : Int} (hd : decode (yC y) pc = .ok (.iload_n 1, 1)) (hp : pc + 1 = n) (k : At y G b n [a0, some (iv x), a2, a3] (iv x :: st) σ) : At y G b pc [a0, some (iv x), a2, a3] st σ := ild_4_1 n hd hp k
theorem dild_4_2 (n : Nat) {a0 a1 a3 : Option Value} {x : Int} (hd : decode (yC y) pc = .ok (.iload_n 2, 1)) (hp : pc + 1 = n) (k : At y G b n [a0, a1, some (iv x), a3] (iv x :: st) σ) : At y G b pc [a0, a1, some (iv x), a3] st σ := ild_4_2 n hd hp k
theorem dild_4_3 (n : Nat) {a0 a1 a2 : Option Value} {x : Int} (hd : decode (yC y) pc = .ok (.iload_n 3, 1)) (hp : pc + 1 = n) (k : At y G b n [a0, a1, a2, some (iv x)] (iv x :: st) σ) : At y G b pc [a0, a1, a2, some (iv x)] st σ := ild_4_3 n hd hp k
theorem dild_5_1 (n : Nat) {a0 a2 a3 a4 : Option Value} {x : Int} (hd : decode (yC y) pc = .ok (.iload_n 1, 1)) (hp : pc + 1 = n) (k : At y G b n [a0, some (iv x), a2, a3, a4] (iv x :: st) σ) : At y G b pc [a0, some (iv x), a2, a3, a4] st σ := ild_5_1 n hd hp k
theorem dild_5_2 (n : Nat) {a0 a1 a3 a4 : Option Value} {x : Int} (hd : decode (yC y) pc = .ok (.iload_n 2, 1)) (hp : pc + 1 = n) (k : At y G b n [a0, a1, some (iv x), a3, a4] (iv x :: st) σ) : At y G b pc [a0, a1, some (iv x), a3, a4] st σ := ild_5_2 n hd hp k
theorem dild_5_3 (n : Nat) {a0 a1 a2 a4 : Option Value} {x : Int} (hd : decode (yC y) pc = .ok (.iload_n 3, 1)) (hp : pc + 1 = n) (k : At y G b n [a0, a1, a2, some (iv x), a4] (iv x :: st) σ) : At y G b pc [a0, a1, a2, some (iv x), a4] st σ := ild_5_3 n hd hp k
theorem dild_5_4 (n : Nat) {a0 a1 a2 a3 : Option Value} {x : Int} (hd : decode (yC y) pc = .ok (.iload 4, 2)) (hp : pc + 2 = n) (k : At y G b n [a0, a1, a2, a3, some (iv x)] (iv x :: st) σ) : At y G b pc [a0, a1, a2, a3, some (iv x)] st σ := ild_5_4 n hd hp k
theorem dild_6_1 (n : Nat) {a0 a2 a3 a4 a5 : Option Value} {x : Int} (hd : decode (yC y) pc = .ok (.iload_n 1, 1)) (hp : pc + 1 = n) (k : At y G b n [a0, some (iv x), a2, a3, a4, a5] (iv x :: st) σ) : At y G b pc [a0, some (iv x), a2, a3, a4, a5] st σ := ild_6_1 n hd hp k
theorem dild_6_2 (n : Nat) {a0 a1 a3 a4 a5 : Option Value} {x : Int} (hd : decode (yC y) pc = .ok (.iload_n 2, 1)) (hp : pc + 1 = n) (k : At y G b n [a0, a1, some (iv x), a3, a4, a5] (iv x :: st) σ) : At y G b pc [a0, a1, some (iv x), a3, a4, a5] st σ := ild_6_2 n hd hp k
theorem dild_6_3 (n : Nat) {a0 a1 a2 a4 a5 : Option Value} {x : Int} (hd : decode (yC y) pc = .ok (.iload_n 3, 1)) (hp : pc + 1 = n) (k : At y G b n [a0, a1, a2, some (iv x), a4, a5] (iv x :: st) σ) : At y G b pc [a0, a1, a2, some (iv x), a4, a5] st σ := ild_6_3 n hd hp k
theorem dild_6_4 (n : Nat) {a0 a1 a2 a3 a5 : Option Value} {x : Int} (hd : decode (yC y) pc = .ok (.iload 4, 2)) (hp : pc + 2 = n) (k : At y G b n [a0, a1, a2, a3, some (iv x), a5] (iv x :: st) σ) : At y G b pc [a0, a1, a2, a3, some (iv x), a5] st σ := ild_6_4 n hd hp k
theorem dild_6_5 (n : Nat) {a0 a1 a2 a3 a4 : Option Value} {x : Int} (hd : decode (yC y) pc = .ok (.iload 5, 2)) (hp : pc + 2 = n) (k : At y G b n [a0, a1, a2, a3, a4, some (iv x)] (iv x :: st) σ) : At y G b pc [a0, a1, a2, a3, a4, some (iv x)] st σ := ild_6_5 n hd hp k
theorem dild_7_1 (n : Nat) {a0 a2 a3 a4 a5 a6 : Option Value} {x : Int} (hd : decode (yC y) pc = .ok (.iload_n 1, 1)) (hp : pc + 1 = n) (k : At y G b n [a0, some (iv x), a2, a3, a4, a5, a6] (iv x :: st) σ) : At y G b pc [a0, some (iv x), a2, a3, a4, a5, a6] st σ := ild_7_1 n hd hp k
theorem dild_7_2 (n : Nat) {a0 a1 a3 a4 a5 a6 : Option Value} {x : Int} (hd : decode (yC y) pc = .ok (.iload_n 2, 1)) (hp : pc + 1 = n) (k : At y G b n [a0, a1, some (iv x), a3, a4, a5, a6] (iv x :: st) σ) : At y G b pc [a0, a1, some (iv x), a3, a4, a5, a6] st σ := ild_7_2 n hd hp k
theorem dild_7_3 (n : Nat) {a0 a1 a2 a4 a5 a6 : Option Value} {x : Int} (hd : decode (yC y) pc = .ok (.iload_n 3, 1)) (hp : pc + 1 = n) (k : At y G b n [a0, a1, a2, some (iv x), a4, a5, a6] (iv x :: st) σ) : At y G b pc [a0, a1, a2, some (iv x), a4, a5, a6] st σ := ild_7_3 n hd hp k
theorem dild_7_4 (n : Nat) {a0 a1 a2 a3 a5 a6 : Option Value} {x : Int} (hd : decode (yC y) pc = .ok (.iload 4, 2)) (hp : pc + 2 = n) (k : At y G b n [a0, a1, a2, a3, some (iv x), a5, a6] (iv x :: st) σ) : At y G b pc [a0, a1, a2, a3, some (iv x), a5, a6] st σ := ild_7_4 n hd hp k
theorem dild_7_5 (n : Nat) {a0 a1 a2 a3 a4 a6 : Option Value} {x : Int} (hd : decode (yC y) pc = .ok (.iload 5, 2)) (hp : pc + 2 = n) (k : At y G b n [a0, a1, a2, a3, a4, some (iv x), a6] (iv x :: st) σ) : At y G b pc [a0, a1, a2, a3, a4, some (iv x), a6] st σ := ild_7_5 n hd hp k
theorem dild_7_6 (n : Nat) {a0 a1 a2 a3 a4 a5 : Option Value} {x : Int} (hd : decode (yC y) pc = .ok (.iload 6, 2)) (hp : pc + 2 = n) (k : At y G b n [a0, a1, a2, a3, a4, a5, some (iv x)] (iv x :: st) σ) : At y G b pc [a0, a1, a2, a3, a4, a5, some (iv x)] st σ := ild_7_6 n hd hp k
theorem dild_8_1 (n : Nat) {a0 a2 a3 a4 a5 a6 a7 : Option Value} {x : Int} (hd : decode (yC y) pc = .ok (.iload_n 1, 1)) (hp : pc + 1 = n) (k : At y G b n [a0, some (iv x), a2, a3, a4, a5, a6, a7] (iv x :: st) σ) : At y G b pc [a0, some (iv x), a2, a3, a4, a5, a6, a7] st σ := ild_8_1 n hd hp k
theorem dild_8_2 (n : Nat) {a0 a1 a3 a4 a5 a6 a7 : Option Value} {x : Int} (hd : decode (yC y) pc = .ok (.iload_n 2, 1)) (hp : pc + 1 = n) (k : At y G b n [a0, a1, some (iv x), a3, a4, a5, a6, a7] (iv x :: st) σ) : At y G b pc [a0, a1, some (iv x), a3, a4, a5, a6, a7] st σ := ild_8_2 n hd hp k
theorem dild_8_3 (n : Nat) {a0 a1 a2 a4 a5 a6 a7 : Option Value} {x : Int} (hd : decode (yC y) pc = .ok (.iload_n 3, 1)) (hp : pc + 1 = n) (k : At y G b n [a0, a1, a2, some (iv x), a4, a5, a6, a7] (iv x :: st) σ) : At y G b pc [a0, a1, a2, some (iv x), a4, a5, a6, a7] st σ := ild_8_3 n hd hp k
theorem dild_8_4 (n : Nat) {a0 a1 a2 a3 a5 a6 a7 : Option Value} {x : Int} (hd : decode (yC y) pc = .ok (.iload 4, 2)) (hp : pc + 2 = n) (k : At y G b n [a0, a1, a2, a3, some (iv x), a5, a6, a7] (iv x :: st) σ) : At y G b pc [a0, a1, a2, a3, some (iv x), a5, a6, a7] st σ := ild_8_4 n hd hp k
theorem dild_8_5 (n : Nat) {a0 a1 a2 a3 a4 a6 a7 : Option Value} {x : Int} (hd : decode (yC y) pc = .ok (.iload 5, 2)) (hp : pc + 2 = n) (k : At y G b n [a0, a1, a2, a3, a4, some (iv x), a6, a7] (iv x :: st) σ) : At y G b pc [a0, a1, a2, a3, a4, some (iv x), a6, a7] st σ := ild_8_5 n hd hp k
theorem dild_8_6 (n : Nat) {a0 a1 a2 a3 a4 a5 a7 : Option Value} {x : Int} (hd : decode (yC y) pc = .ok (.iload 6, 2)) (hp : pc + 2 = n) (k : At y G b n [a0, a1, a2, a3, a4, a5, some (iv x), a7] (iv x :: st) σ) : At y G b pc [a0, a1, a2, a3, a4, a5, some (iv x), a7] st σ := ild_8_6 n hd hp k
theorem dild_8_7 (n : Nat) {a0 a1 a2 a3 a4 a5 a6 : Option Value} {x : Int} (hd : decode (yC y) pc = .ok (.iload 7, 2)) (hp : pc + 2 = n) (k : At y G b n [a0, a1, a2, a3, a4, a5, a6, some (iv x)] (iv x :: st) σ) : At y G b pc [a0, a1, a2, a3, a4, a5, a6, some (iv x)] st σ := ild_8_7 n hd hp k
theorem dild_9_1 (n : Nat) {a0 a2 a3 a4 a5 a6 a7 a8 : Option Value} {x : Int} (hd : decode (yC y) pc = .ok (.iload_n 1, 1)) (hp : pc + 1 = n) (k : At y G b n [a0, some (iv x), a2, a3, a4, a5, a6, a7, a8] (iv x :: st) σ) : At y G b pc [a0, some (iv x), a2, a3, a4, a5, a6, a7, a8] st σ := ild_9_1 n hd hp k
theorem dild_9_2 (n : Nat) {a0 a1 a3 a4 a5 a6 a7 a8 : Option Value} {x : Int} (hd : decode (yC y) pc = .ok (.iload_n 2, 1)) (hp : pc + 1 = n) (k : At y G b n [a0, a1, some (iv x), a3, a4, a5, a6, a7, a8] (iv x :: st) σ) : At y G b pc [a0, a1, some (iv x), a3, a4, a5, a6, a7, a8] st σ := ild_9_2 n hd hp k
theorem dild_9_3 (n : Nat) {a0 a1 a2 a4 a5 a6 a7 a8 : Option Value} {x : Int} (hd : decode (yC y) pc = .ok (.iload_n 3, 1)) (hp : pc + 1 = n) (k : At y G b n [a0, a1, a2, some (iv x), a4, a5, a6, a7, a8] (iv x :: st) σ) : At y G b pc [a0, a1, a2, some (iv x), a4, a5, a6, a7, a8] st σ := ild_9_3 n hd hp k
theorem dild_9_4 (n : Nat) {a0 a1 a2 a3 a5 a6 a7 a8 : Option Value} {x : Int} (hd : decode (yC y) pc = .ok (.iload 4, 2)) (hp : pc + 2 = n) (k : At y G b n [a0, a1, a2, a3, some (iv x), a5, a6, a7, a8] (iv x :: st) σ) : At y G b pc [a0, a1, a2, a3, some (iv x), a5, a6, a7, a8] st σ := ild_9_4 n hd hp k
theorem dild_9_5 (n : Nat) {a0 a1 a2 a3 a4 a6 a7 a8 : Option Value} {x : Int} (hd : decode (yC y) pc = .ok (.iload 5, 2)) (hp : pc + 2 = n) (k : At y G b n [a0, a1, a2, a3, a4, some (iv x), a6, a7, a8] (iv x :: st) σ) : At y G b pc [a0, a1, a2, a3, a4, some (iv x), a6, a7, a8] st σ := ild_9_5 n hd hp k
theorem dild_9_6 (n : Nat) {a0 a1 a2 a3 a4 a5 a7 a8 : Option Value} {x : Int} (hd : decode (yC y) pc = .ok (.iload 6, 2)) (hp : pc + 2 = n) (k : At y G b n [a0, a1, a2, a3, a4, a5, some (iv x), a7, a8] (iv x :: st) σ) : At y G b pc [a0, a1, a2, a3, a4, a5, some (iv x), a7, a8] st σ := ild_9_6 n hd hp k
theorem dild_9_7 (n : Nat) {a0 a1 a2 a3 a4 a5 a6 a8 : Option Value} {x : Int} (hd : decode (yC y) pc = .ok (.iload 7, 2)) (hp : pc + 2 = n) (k : At y G b n [a0, a1, a2, a3, a4, a5, a6, some (iv x), a8] (iv x :: st) σ) : At y G b pc [a0, a1, a2, a3, a4, a5, a6, some (iv x), a8] st σ := ild_9_7 n hd hp k
theorem dild_9_8 (n : Nat) {a0 a1 a2 a3 a4 a5 a6 a7 : Option Value} {x : Int} (hd : decode (yC y) pc = .ok (.iload 8, 2)) (hp : pc + 2 = n) (k : At y G b n [a0, a1, a2, a3, a4, a5, a6, a7, some (iv x)] (iv x :: st) σ) : At y G b pc [a0, a1, a2, a3, a4, a5, a6, a7, some (iv x)] st σ := ild_9_8 n hd hp k
theorem dild_10_1 (n : Nat) {a0 a2 a3 a4 a5 a6 a7 a8 a9 : Option Value} {x : Int} (hd : decode (yC y) pc = .ok (.iload_n 1, 1)) (hp : pc + 1 = n) (k : At y G b n [a0, some (iv x), a2, a3, a4, a5, a6, a7, a8, a9] (iv x :: st) σ) : At y G b pc [a0, some (iv x), a2, a3, a4, a5, a6, a7, a8, a9] st σ := ild_10_1 n hd hp k
theorem dild_10_2 (n : Nat) {a0 a1 a3 a4 a5 a6 a7 a8 a9 : Option Value} {x : Int} (hd : decode (yC y) pc = .ok (.iload_n 2, 1)) (hp : pc + 1 = n) (k : At y G b n [a0, a1, some (iv x), a3, a4, a5, a6, a7, a8, a9] (iv x :: st) σ) : At y G b pc [a0, a1, some (iv x), a3, a4, a5, a6, a7, a8, a9] st σ := ild_10_2 n hd hp k
theorem dild_10_3 (n : Nat) {a0 a1 a2 a4 a5 a6 a7 a8 a9 : Option Value} {x : Int} (hd : decode (yC y) pc = .ok (.iload_n 3, 1)) (hp : pc + 1 = n) (k : At y G b n [a0, a1, a2, some (iv x), a4, a5, a6, a7, a8, a9] (iv x :: st) σ) : At y G b pc [a0, a1, a2, some (iv x), a4, a5, a6, a7, a8, a9] st σ := ild_10_3 n hd hp k
theorem dild_10_4 (n : Nat) {a0 a1 a2 a3 a5 a6 a7 a8 a9 : Option Value} {x : Int} (hd : decode (yC y) pc = .ok (.iload 4, 2)) (hp : pc + 2 = n) (k : At y G b n [a0, a1, a2, a3, some (iv x), a5, a6, a7, a8, a9] (iv x :: st) σ) : At y G b pc [a0, a1, a2, a3, some (iv x), a5, a6, a7, a8, a9] st σ := ild_10_4 n hd hp k
theorem dild_10_5 (n : Nat) {a0 a1 a2 a3 a4 a6 a7 a8 a9 : Option Value} {x : Int} (hd : decode (yC y) pc = .ok (.iload 5, 2)) (hp : pc + 2 = n) (k : At y G b n [a0, a1, a2, a3, a4, some (iv x), a6, a7, a8, a9] (iv x :: st) σ) : At y G b pc [a0, a1, a2, a3, a4, some (iv x), a6, a7, a8, a9] st σ := ild_10_5 n hd hp k
theorem dild_10_6 (n : Nat) {a0 a1 a2 a3 a4 a5 a7 a8 a9 : Option Value} {x : Int} (hd : decode (yC y) pc = .ok (.iload 6, 2)) (hp : pc + 2 = n) (k : At y G b n [a0, a1, a2, a3, a4, a5, some (iv x), a7, a8, a9] (iv x :: st) σ) : At y G b pc [a0, a1, a2, a3, a4, a5, some (iv x), a7, a8, a9] st σ := ild_10_6 n hd hp k
theorem dild_10_7 (n : Nat) {a0 a1 a2 a3 a4 a5 a6 a8 a9 : Option Value} {x : Int} (hd : decode (yC y) pc = .ok (.iload 7, 2)) (hp : pc + 2 = n) (k : At y G b n [a0, a1, a2, a3, a4, a5, a6, some (iv x), a8, a9] (iv x :: st) σ) : At y G b pc [a0, a1, a2, a3, a4, a5, a6, some (iv x), a8, a9] st σ := ild_10_7 n hd hp k
theorem dild_10_8 (n : Nat) {a0 a1 a2 a3 a4 a5 a6 a7 a9 : Option Value} {x : Int} (hd : decode (yC y) pc = .ok (.iload 8, 2)) (hp : pc + 2 = n) (k : At y G b n [a0, a1, a2, a3, a4, a5, a6, a7, some (iv x), a9] (iv x :: st) σ) : At y G b pc [a0, a1, a2, a3, a4, a5, a6, a7, some (iv x), a9] st σ := ild_10_8 n hd hp k
theorem dild_10_9 (n : Nat) {a0 a1 a2 a3 a4 a5 a6 a7 a8 : Option Value} {x : Int} (hd : decode (yC y) pc = .ok (.iload 9, 2)) (hp : pc + 2 = n) (k : At y G b n [a0, a1, a2, a3, a4, a5, a6, a7, a8, some (iv x)] (iv x :: st) σ) : At y G b pc [a0, a1, a2, a3, a4, a5, a6, a7, a8, some (iv x)] st σ := ild_10_9 n hd hp k
theorem dild_11_1 (n : Nat) {a0 a2 a3 a4 a5 a6 a7 a8 a9 a10 : Option Value} {x : Int} (hd : decode (yC y) pc = .ok (.iload_n 1, 1)) (hp : pc + 1 = n) (k : At y G b n [a0, some (iv x), a2, a3, a4, a5, a6, a7, a8, a9, a10] (iv x :: st) σ) : At y G b pc [a0, some (iv x), a2, a3, a4, a5, a6, a7, a8, a9, a10] st σ := ild_11_1 n hd hp k
theorem dild_11_2 (n : Nat) {a0 a1 a3 a4 a5 a6 a7 a8 a9 a10 : Option Value} {x : Int} (hd : decode (yC y) pc = .ok (.iload_n 2, 1)) (hp : pc + 1 = n) (k : At y G b n [a0, a1, some (iv x), a3, a4, a5, a6, a7, a8, a9, a10] (iv x :: st) σ) : At y G b pc [a0, a1, some (iv x), a3, a4, a5, a6, a7, a8, a9, a10] st σ := ild_11_2 n hd hp k
theorem dild_11_3 (n : Nat) {a0 a1 a2 a4 a5 a6 a7 a8 a9 a10 : Option Value} {x : Int} (hd : decode (yC y) pc = .ok (.iload_n 3, 1)) (hp : pc + 1 = n) (k : At y G b n [a0, a1, a2, some (iv x), a4, a5, a6, a7, a8, a9, a10] (iv x :: st) σ) : At y G b pc [a0, a1, a2, some (iv x), a4, a5, a6, a7, a8, a9, a10] st σ := ild_11_3 n hd hp k
theorem dild_11_4 (n : Nat) {a0 a1 a2 a3 a5 a6 a7 a8 a9 a10 : Option Value} {x : Int} (hd : decode (yC y) pc = .ok (.iload 4, 2)) (hp : pc + 2 = n) (k : At y G b n [a0, a1, a2, a3, some (iv x), a5, a6, a7, a8, a9, a10] (iv x :: st) σ) : At y G b pc [a0, a1, a2, a3, some (iv x), a5, a6, a7, a8, a9, a10] st σ := ild_11_4 n hd hp k
theorem dild_11_5 (n : Nat) {a0 a1 a2 a3 a4 a6 a7 a8 a9 a10 : Option Value} {x : Int} (hd : decode (yC y) pc = .ok (.iload 5, 2)) (hp : pc + 2 = n) (k : At y G b n [a0, a1, a2, a3, a4, some (iv x), a6, a7, a8, a9, a10] (iv x :: st) σ) : At y G b pc [a0, a1, a2, a3, a4, some (iv x), a6, a7, a8, a9, a10] st σ := ild_11_5 n hd hp k
theorem dild_11_6 (n : Nat) {a0 a1 a2 a3 a4 a5 a7 a8 a9 a10 : Option Value} {x : Int} (hd : decode (yC y) pc = .ok (.iload 6, 2)) (hp : pc + 2 = n) (k : At y G b n [a0, a1, a2, a3, a4, a5, some (iv x), a7, a8, a9, a10] (iv x :: st) σ) : At y G b pc [a0, a1, a2, a3, a4, a5, some (iv x), a7, a8, a9, a10] st σ := ild_11_6 n hd hp k
theorem dild_11_7 (n : Nat) {a0 a1 a2 a3 a4 a5 a6 a8 a9 a10 : Option Value} {x : Int} (hd : decode (yC y) pc = .ok (.iload 7, 2)) (hp : pc + 2 = n) (k : At y G b n [a0, a1, a2, a3, a4, a5, a6, some (iv x), a8, a9, a10] (iv x :: st) σ) : At y G b pc [a0, a1, a2, a3, a4, a5, a6, some (iv x), a8, a9, a10] st σ := ild_11_7 n hd hp k
theorem dild_11_8 (n : Nat) {a0 a1 a2 a3 a4 a5 a6 a7 a9 a10 : Option Value} {x : Int} (hd : decode (yC y) pc = .ok (.iload 8, 2)) (hp : pc + 2 = n) (k : At y G b n [a0, a1, a2, a3, a4, a5, a6, a7, some (iv x), a9, a10] (iv x :: st) σ) : At y G b pc [a0, a1, a2, a3, a4, a5, a6, a7, some (iv x), a9, a10] st σ := ild_11_8 n hd hp k
theorem dild_11_9 (n : Nat) {a0 a1 a2 a3 a4 a5 a6 a7 a8 a10 : Option Value} {x : Int} (hd : decode (yC y) pc = .ok (.iload 9, 2)) (hp : pc + 2 = n) (k : At y G b n [a0, a1, a2, a3, a4, a5, a6, a7, a8, some (iv x), a10] (iv x :: st) σ) : At y G b pc [a0, a1, a2, a3, a4, a5, a6, a7, a8, some (iv x), a10] st σ := ild_11_9 n hd hp k
theorem dild_11_10 (n : Nat) {a0 a1 a2 a3 a4 a5 a6 a7 a8 a9 : Option Value} {x : Int} (hd : decode (yC y) pc = .ok (.iload 10, 2)) (hp : pc + 2 = n) (k : At y G b n [a0, a1, a2, a3, a4, a5, a6, a7, a8, a9, some (iv x)] (iv x :: st) σ) : At y G b pc [a0, a1, a2, a3, a4, a5, a6, a7, a8, a9, some (iv x)] st σ := ild_11_10 n hd hp k
theorem dist_1_0 (n : Nat) {a0 : Option Value} {x : Int} (hd : decode (yC y) pc = .ok (.istore_n 0, 1)) (hn : yL y = 1) (ho : okp [a0] 0 = true) (hp : pc + 1 = n) (k : At y G b n [some (iv x)] st σ) : At y G b pc [a0] (iv x :: st) σ := ist_1_0 n hd hn ho hp k
theorem dist_2_0 (n : Nat) {a0 a1 : Option Value} {x : Int} (hd : decode (yC y) pc = .ok (.istore_n 0, 1)) (hn : yL y = 2) (ho : okp [a0, a1] 0 = true) (hp : pc + 1 = n) (k : At y G b n [some (iv x), a1] st σ) : At y G b pc [a0, a1] (iv x :: st) σ := ist_2_0 n hd hn ho hp k
theorem dist_2_1 (n : Nat) {a0 a1 : Option Value} {x : Int} (hd : decode (yC y) pc = .ok (.istore_n 1, 1)) (hn : yL y = 2) (ho : okp [a0, a1] 1 = true) (hp : pc + 1 = n) (k : At y G b n [a0, some (iv x)] st σ) : At y G b pc [a0, a1] (iv x :: st) σ := ist_2_1 n hd hn ho hp k
theorem dist_3_1 (n : Nat) {a0 a1 a2 : Option Value} {x : Int} (hd : decode (yC y) pc = .ok (.istore_n 1, 1)) (hn : yL y = 3) (ho : okp [a0, a1, a2] 1 = true) (hp : pc + 1 = n) (k : At y G b n [a0, some (iv x), a2] st σ) : At y G b pc [a0, a1, a2] (iv x :: st) σ := ist_3_1 n hd hn ho hp k
theorem dist_3_2 (n : Nat) {a0 a1 a2 : Option Value} {x : Int} (hd : decode (yC y) pc = .ok (.istore_n 2, 1)) (hn : yL y = 3) (ho : okp [a0, a1, a2] 2 = true) (hp : pc + 1 = n) (k : At y G b n [a0, a1, some (iv x)] st σ) : At y G b pc [a0, a1, a2] (iv x :: st) σ := ist_3_2 n hd hn ho hp k
theorem dist_4_1 (n : Nat) {a0 a1 a2 a3 : Option Value} {x : Int} (hd : decode (yC y) pc = .ok (.istore_n 1, 1)) (hn : yL y = 4) (ho : okp [a0, a1, a2, a3] 1 = true) (hp : pc + 1 = n) (k : At y G b n [a0, some (iv x), a2, a3] st σ) : At y G b pc [a0, a1, a2, a3] (iv x :: st) σ := ist_4_1 n hd hn ho hp k
theorem dist_4_2 (n : Nat) {a0 a1 a2 a3 : Option Value} {x : Int} (hd : decode (yC y) pc = .ok (.istore_n 2, 1)) (hn : yL y = 4) (ho : okp [a0, a1, a2, a3] 2 = true) (hp : pc + 1 = n) (k : At y G b n [a0, a1, some (iv x), a3] st σ) : At y G b pc [a0, a1, a2, a3] (iv x :: st) σ := ist_4_2 n hd hn ho hp k
theorem dist_4_3 (n : Nat) {a0 a1 a2 a3 : Option Value} {x : Int} (hd : decode (yC y) pc = .ok (.istore_n 3, 1)) (hn : yL y = 4) (ho : okp [a0, a1, a2, a3] 3 = true) (hp : pc + 1 = n) (k : At y G b n [a0, a1, a2, some (iv x)] st σ) : At y G b pc [a0, a1, a2, a3] (iv x :: st) σ := ist_4_3 n hd hn ho hp k
theorem dist_5_1 (n : Nat) {a0 a1 a2 a3 a4 : Option Value} {x : Int} (hd : decode (yC y) pc = .ok (.istore_n 1, 1)) (hn : yL y = 5) (ho : okp [a0, a1, a2, a3, a4] 1 = true) (hp : pc + 1 = n) (k : At y G b n [a0, some (iv x), a2, a3, a4] st σ) : At y G b pc [a0, a1, a2, a3, a4] (iv x :: st) σ := ist_5_1 n hd hn ho hp k
theorem dist_5_2 (n : Nat) {a0 a1 a2 a3 a4 : Option Value} {x : Int} (hd : decode (yC y) pc = .ok (.istore_n 2, 1)) (hn : yL y = 5) (ho : okp [a0, a1, a2, a3, a4] 2 = true) (hp : pc + 1 = n) (k : At y G b n [a0, a1, some (iv x), a3, a4] st σ) : At y G b pc [a0, a1, a2, a3, a4] (iv x :: st) σ := ist_5_2 n hd hn ho hp k
theorem dist_5_3 (n : Nat) {a0 a1 a2 a3 a4 : Option Value} {x : Int} (hd : decode (yC y) pc = .ok (.istore_n 3, 1)) (hn : yL y = 5) (ho : okp [a0, a1, a2, a3, a4] 3 = true) (hp : pc + 1 = n) (k : At y G b n [a0, a1, a2, some (iv x), a4] st σ) : At y G b pc [a0, a1, a2, a3, a4] (iv x :: st) σ := ist_5_3 n hd hn ho hp k
theorem dist_5_4 (n : Nat) {a0 a1 a2 a3 a4 : Option Value} {x : Int} (hd : decode (yC y) pc = .ok (.istore 4, 2)) (hn : yL y = 5) (ho : okp [a0, a1, a2, a3, a4] 4 = true) (hp : pc + 2 = n) (k : At y G b n [a0, a1, a2, a3, some (iv x)] st σ) : At y G b pc [a0, a1, a2, a3, a4] (iv x :: st) σ := ist_5_4 n hd hn ho hp k
theorem dist_6_1 (n : Nat) {a0 a1 a2 a3 a4 a5 : Option Value} {x : Int} (hd : decode (yC y) pc = .ok (.istore_n 1, 1)) (hn : yL y = 6) (ho : okp [a0, a1, a2, a3, a4, a5] 1 = true) (hp : pc + 1 = n) (k : At y G b n [a0, some (iv x), a2, a3, a4, a5] st σ) : At y G b pc [a0, a1, a2, a3, a4, a5] (iv x :: st) σ := ist_6_1 n hd hn ho hp k
theorem dist_6_2 (n : Nat) {a0 a1 a2 a3 a4 a5 : Option Value} {x : Int} (hd : decode (yC y) pc = .ok (.istore_n 2, 1)) (hn : yL y = 6) (ho : okp [a0, a1, a2, a3, a4, a5] 2 = true) (hp : pc + 1 = n) (k : At y G b n [a0, a1, some (iv x), a3, a4, a5] st σ) : At y G b pc [a0, a1, a2, a3, a4, a5] (iv x :: st) σ := ist_6_2 n hd hn ho hp k
theorem dist_6_3 (n : Nat) {a0 a1 a2 a3 a4 a5 : Option Value} {x : Int} (hd : decode (yC y) pc = .ok (.istore_n 3, 1)) (hn : yL y = 6) (ho : okp [a0, a1, a2, a3, a4, a5] 3 = true) (hp : pc + 1 = n) (k : At y G b n [a0, a1, a2, some (iv x), a4, a5] st σ) : At y G b pc [a0, a1, a2, a3, a4, a5] (iv x :: st) σ := ist_6_3 n hd hn ho hp k
theorem dist_6_4 (n : Nat) {a0 a1 a2 a3 a4 a5 : Option Value} {x : Int} (hd : decode (yC y) pc = .ok (.istore 4, 2)) (hn : yL y = 6) (ho : okp [a0, a1, a2, a3, a4, a5] 4 = true) (hp : pc + 2 = n) (k : At y G b n [a0, a1, a2, a3, some (iv x), a5] st σ) : At y G b pc [a0, a1, a2, a3, a4, a5] (iv x :: st) σ := ist_6_4 n hd hn ho hp k
theorem dist_6_5 (n : Nat) {a0 a1 a2 a3 a4 a5 : Option Value} {x : Int} (hd : decode (yC y) pc = .ok (.istore 5, 2)) (hn : yL y = 6) (ho : okp [a0, a1, a2, a3, a4, a5] 5 = true) (hp : pc + 2 = n) (k : At y G b n [a0, a1, a2, a3, a4, some (iv x)] st σ) : At y G b pc [a0, a1, a2, a3, a4, a5] (iv x :: st) σ := ist_6_5 n hd hn ho hp k
theorem dist_7_1 (n : Nat) {a0 a1 a2 a3 a4 a5 a6 : Option Value} {x : Int} (hd : decode (yC y) pc = .ok (.istore_n 1, 1)) (hn : yL y = 7) (ho : okp [a0, a1, a2, a3, a4, a5, a6] 1 = true) (hp : pc + 1 = n) (k : At y G b n [a0, some (iv x), a2, a3, a4, a5, a6] st σ) : At y G b pc [a0, a1, a2, a3, a4, a5, a6] (iv x :: st) σ := ist_7_1 n hd hn ho hp k
theorem dist_7_2 (n : Nat) {a0 a1 a2 a3 a4 a5 a6 : Option Value} {x : Int} (hd : decode (yC y) pc = .ok (.istore_n 2, 1)) (hn : yL y = 7) (ho : okp [a0, a1, a2, a3, a4, a5, a6] 2 = true) (hp : pc + 1 = n) (k : At y G b n [a0, a1, some (iv x), a3, a4, a5, a6] st σ) : At y G b pc [a0, a1, a2, a3, a4, a5, a6] (iv x :: st) σ := ist_7_2 n hd hn ho hp k
theorem dist_7_3 (n : Nat) {a0 a1 a2 a3 a4 a5 a6 : Option Value} {x : Int} (hd : decode (yC y) pc = .ok (.istore_n 3, 1)) (hn : yL y = 7) (ho : okp [a0, a1, a2, a3, a4, a5, a6] 3 = true) (hp : pc + 1 = n) (k : At y G b n [a0, a1, a2, some (iv x), a4, a5, a6] st σ) : At y G b pc [a0, a1, a2, a3, a4, a5, a6] (iv x :: st) σ := ist_7_3 n hd hn ho hp k
theorem dist_7_4 (n : Nat) {a0 a1 a2 a3 a4 a5 a6 : Option Value} {x : Int} (hd : decode (yC y) pc = .ok (.istore 4, 2)) (hn : yL y = 7) (ho : okp [a0, a1, a2, a3, a4, a5, a6] 4 = true) (hp : pc + 2 = n) (k : At y G b n [a0, a1, a2, a3, some (iv x), a5, a6] st σ) : At y G b pc [a0, a1, a2, a3, a4, a5, a6] (iv x :: st) σ := ist_7_4 n hd hn ho hp k
theorem dist_7_5 (n : Nat) {a0 a1 a2 a3 a4 a5 a6 : Option Value} {x : Int} (hd : decode (yC y) pc = .ok (.istore 5, 2)) (hn : yL y = 7) (ho : okp [a0, a1, a2, a3, a4, a5, a6] 5 = true) (hp : pc + 2 = n) (k : At y G b n [a0, a1, a2, a3, a4, some (iv x), a6] st σ) : At y G b pc [a0, a1, a2, a3, a4, a5, a6] (iv x :: st) σ := ist_7_5 n hd hn ho hp k
theorem dist_7_6 (n : Nat) {a0 a1 a2 a3 a4 a5 a6 : Option Value} {x : Int} (hd : decode (yC y) pc = .ok (.istore 6, 2)) (hn : yL y = 7) (ho : okp [a0, a1, a2, a3, a4, a5, a6] 6 = true) (hp : pc + 2 = n) (k : At y G b n [a0, a1, a2, a3, a4, a5, some (iv x)] st σ) : At y G b pc [a0, a1, a2, a3, a4, a5, a6] (iv x :: st) σ := ist_7_6 n hd hn ho hp k
theorem dist_8_2 (n : Nat) {a0 a1 a2 a3 a4 a5 a6 a7 : Option Value} {x : Int} (hd : decode (yC y) pc = .ok (.istore_n 2, 1)) (hn : yL y = 8) (ho : okp [a0, a1, a2, a3, a4, a5, a6, a7] 2 = true) (hp : pc + 1 = n) (k : At y G b n [a0, a1, some (iv x), a3, a4, a5, a6, a7] st σ) : At y G b pc [a0, a1, a2, a3, a4, a5, a6, a7] (iv x :: st) σ := ist_8_2 n hd hn ho hp k
theorem dist_8_3 (n : Nat) {a0 a1 a2 a3 a4 a5 a6 a7 : Option Value} {x : Int} (hd : decode (yC y) pc = .ok (.istore_n 3, 1)) (hn : yL y = 8) (ho : okp [a0, a1, a2, a3, a4, a5, a6, a7] 3 = true) (hp : pc + 1 = n) (k : At y G b n [a0, a1, a2, some (iv x), a4, a5, a6, a7] st σ) : At y G b pc [a0, a1, a2, a3, a4, a5, a6, a7] (iv x :: st) σ := ist_8_3 n hd hn ho hp k
theorem dist_8_4 (n : Nat) {a0 a1 a2 a3 a4 a5 a6 a7 : Option Value} {x : Int} (hd : decode (yC y) pc = .ok (.istore 4, 2)) (hn : yL y = 8) (ho : okp [a0, a1, a2, a3, a4, a5, a6, a7] 4 = true) (hp : pc + 2 = n) (k : At y G b n [a0, a1, a2, a3, some (iv x), a5, a6, a7] st σ) : At y G b pc [a0, a1, a2, a3, a4, a5, a6, a7] (iv x :: st) σ := ist_8_4 n hd hn ho hp k
theorem dist_8_5 (n : Nat) {a0 a1 a2 a3 a4 a5 a6 a7 : Option Value} {x : Int} (hd : decode (yC y) pc = .ok (.istore 5, 2)) (hn : yL y = 8) (ho : okp [a0, a1, a2, a3, a4, a5, a6, a7] 5 = true) (hp : pc + 2 = n) (k : At y G b n [a0, a1, a2, a3, a4, some (iv x), a6, a7] st σ) : At y G b pc [a0, a1, a2, a3, a4, a5, a6, a7] (iv x :: st) σ := ist_8_5 n hd hn ho hp k
theorem dist_8_6 (n : Nat) {a0 a1 a2 a3 a4 a5 a6 a7 : Option Value} {x : Int} (hd : decode (yC y) pc = .ok (.istore 6, 2)) (hn : yL y = 8) (ho : okp [a0, a1, a2, a3, a4, a5, a6, a7] 6 = true) (hp : pc + 2 = n) (k : At y G b n [a0, a1, a2, a3, a4, a5, some (iv x), a7] st σ) : At y G b pc [a0, a1, a2, a3, a4, a5, a6, a7] (iv x :: st) σ := ist_8_6 n hd hn ho hp k
theorem dist_8_7 (n : Nat) {a0 a1 a2 a3 a4 a5 a6 a7 : Option Value} {x : Int} (hd : decode (yC y) pc = .ok (.istore 7, 2)) (hn : yL y = 8) (ho : okp [a0, a1, a2, a3, a4, a5, a6, a7] 7 = true) (hp : pc + 2 = n) (k : At y G b n [a0, a1, a2, a3, a4, a5, a6, some (iv x)] st σ) : At y G b pc [a0, a1, a2, a3, a4, a5, a6, a7] (iv x :: st) σ := ist_8_7 n hd hn ho hp k
theorem dist_9_2 (n : Nat) {a0 a1 a2 a3 a4 a5 a6 a7 a8 : Option Value} {x : Int} (hd : decode (yC y) pc = .ok (.istore_n 2, 1)) (hn : yL y = 9) (ho : okp [a0, a1, a2, a3, a4, a5, a6, a7, a8] 2 = true) (hp : pc + 1 = n) (k : At y G b n [a0, a1, some (iv x), a3, a4, a5, a6, a7, a8] st σ) : At y G b pc [a0, a1, a2, a3, a4, a5, a6, a7, a8] (iv x :: st) σ := ist_9_2 n hd hn ho hp k
theorem dist_9_3 (n : Nat) {a0 a1 a2 a3 a4 a5 a6 a7 a8 : Option Value} {x : Int} (hd : decode (yC y) pc = .ok (.istore_n 3, 1)) (hn : yL y = 9) (ho : okp [a0, a1, a2, a3, a4, a5, a6, a7, a8] 3 = true) (hp : pc + 1 = n) (k : At y G b n [a0, a1, a2, some (iv x), a4, a5, a6, a7, a8] st σ) : At y G b pc [a0, a1, a2, a3, a4, a5, a6, a7, a8] (iv x :: st) σ := ist_9_3 n hd hn ho hp k
theorem dist_9_4 (n : Nat) {a0 a1 a2 a3 a4 a5 a6 a7 a8 : Option Value} {x : Int} (hd : decode (yC y) pc = .ok (.istore 4, 2)) (hn : yL y = 9) (ho : okp [a0, a1, a2, a3, a4, a5, a6, a7, a8] 4 = true) (hp : pc + 2 = n) (k : At y G b n [a0, a1, a2, a3, some (iv x), a5, a6, a7, a8] st σ) : At y G b pc [a0, a1, a2, a3, a4, a5, a6, a7, a8] (iv x :: st) σ := ist_9_4 n hd hn ho hp k
theorem dist_9_5 (n : Nat) {a0 a1 a2 a3 a4 a5 a6 a7 a8 : Option Value} {x : Int} (hd : decode (yC y) pc = .ok (.istore 5, 2)) (hn : yL y = 9) (ho : okp [a0, a1, a2, a3, a4, a5, a6, a7, a8] 5 = true) (hp : pc + 2 = n) (k : At y G b n [a0, a1, a2, a3, a4, some (iv x), a6, a7, a8] st σ) : At y G b pc [a0, a1, a2, a3, a4, a5, a6, a7, a8] (iv x :: st) σ := ist_9_5 n hd hn ho hp k
theorem dist_9_6 (n : Nat) {a0 a1 a2 a3 a4 a5 a6 a7 a8 : Option Value} {x : Int} (hd : decode (yC y) pc = .ok (.istore 6, 2)) (hn : yL y = 9) (ho : okp [a0, a1, a2, a3, a4, a5, a6, a7, a8] 6 = true) (hp : pc + 2 = n) (k : At y G b n [a0, a1, a2, a3, a4, a5, some (iv x), a7, a8] st σ) : At y G b pc [a0, a1, a2, a3, a4, a5, a6, a7, a8] (iv x :: st) σ := ist_9_6 n hd hn ho hp k
theorem dist_9_7 (n : Nat) {a0 a1 a2 a3 a4 a5 a6 a7 a8 : Option Value} {x : Int} (hd : decode (yC y) pc = .ok (.istore 7, 2)) (hn : yL y = 9) (ho : okp [a0, a1, a2, a3, a4, a5, a6, a7, a8] 7 = true) (hp : pc + 2 = n) (k : At y G b n [a0, a1, a2, a3, a4, a5, a6, some (iv x), a8] st σ) : At y G b pc [a0, a1, a2, a3, a4, a5, a6, a7, a8] (iv x :: st) σ := ist_9_7 n hd hn ho hp k
theorem dist_9_8 (n : Nat) {a0 a1 a2 a3 a4 a5 a6 a7 a8 : Option Value} {x : Int} (hd : decode (yC y) pc = .ok (.istore 8, 2)) (hn : yL y = 9) (ho : okp [a0, a1, a2, a3, a4, a5, a6, a7, a8] 8 = true) (hp : pc + 2 = n) (k : At y G b n [a0, a1, a2, a3, a4, a5, a6, a7, some (iv x)] st σ) : At y G b pc [a0, a1, a2, a3, a4, a5, a6, a7, a8] (iv x :: st) σ := ist_9_8 n hd hn ho hp k
theorem dist_10_4 (n : Nat) {a0 a1 a2 a3 a4 a5 a6 a7 a8 a9 : Option Value} {x : Int} (hd : decode (yC y) pc = .ok (.istore 4, 2)) (hn : yL y = 10) (ho : okp [a0, a1, a2, a3, a4, a5, a6, a7, a8, a9] 4 = true) (hp : pc + 2 = n) (k : At y G b n [a0, a1, a2, a3, some (iv x), a5, a6, a7, a8, a9] st σ) : At y G b pc [a0, a1, a2, a3, a4, a5, a6, a7, a8, a9] (iv x :: st) σ := ist_10_4 n hd hn ho hp k
theorem dist_10_5 (n : Nat) {a0 a1 a2 a3 a4 a5 a6 a7 a8 a9 : Option Value} {x : Int} (hd : decode (yC y) pc = .ok (.istore 5, 2)) (hn : yL y = 10) (ho : okp [a0, a1, a2, a3, a4, a5, a6, a7, a8, a9] 5 = true) (hp : pc + 2 = n) (k : At y G b n [a0, a1, a2, a3, a4, some (iv x), a6, a7, a8, a9] st σ) : At y G b pc [a0, a1, a2, a3, a4, a5, a6, a7, a8, a9] (iv x :: st) σ := ist_10_5 n hd hn ho hp k
theorem dist_10_6 (n : Nat) {a0 a1 a2 a3 a4 a5 a6 a7 a8 a9 : Option Value} {x : Int} (hd : decode (yC y) pc = .ok (.istore 6, 2)) (hn : yL y = 10) (ho : okp [a0, a1, a2, a3, a4, a5, a6, a7, a8, a9] 6 = true) (hp : pc + 2 = n) (k : At y G b n [a0, a1, a2, a3, a4, a5, some (iv x), a7, a8, a9] st σ) : At y G b pc [a0, a1, a2, a3, a4, a5, a6, a7, a8, a9] (iv x :: st) σ := ist_10_6 n hd hn ho hp k
theorem dist_10_7 (n : Nat) {a0 a1 a2 a3 a4 a5 a6 a7 a8 a9 : Option Value} {x : Int} (hd : decode (yC y) pc = .ok (.istore 7, 2)) (hn : yL y = 10) (ho : okp [a0, a1, a2, a3, a4, a5, a6, a7, a8, a9] 7 = true) (hp : pc + 2 = n) (k : At y G b n [a0, a1, a2, a3, a4, a5, a6, some (iv x), a8, a9] st σ) : At y G b pc [a0, a1, a2, a3, a4, a5, a6, a7, a8, a9] (iv x :: st) σ := ist_10_7 n hd hn ho hp k
theorem dist_10_8 (n : Nat) {a0 a1 a2 a3 a4 a5 a6 a7 a8 a9 : Option Value} {x : Int} (hd : decode (yC y) pc = .ok (.istore 8, 2)) (hn : yL y = 10) (ho : okp [a0, a1, a2, a3, a4, a5, a6, a7, a8, a9] 8 = true) (hp : pc + 2 = n) (k : At y G b n [a0, a1, a2, a3, a4, a5, a6, a7, some (iv x), a9] st σ) : At y G b pc [a0, a1, a2, a3, a4, a5, a6, a7, a8, a9] (iv x :: st) σ := ist_10_8 n hd hn ho hp k
theorem dist_10_9 (n : Nat) {a0 a1 a2 a3 a4 a5 a6 a7 a8 a9 : Option Value} {x : Int} (hd : decode (yC y) pc = .ok (.istore 9, 2)) (hn : yL y = 10) (ho : okp [a0, a1, a2, a3, a4, a5, a6, a7, a8, a9] 9 = true) (hp : pc + 2 = n) (k : At y G b n [a0, a1, a2, a3, a4, a5, a6, a7, a8, some (iv x)] st σ) : At y G b pc [a0, a1, a2, a3, a4, a5, a6, a7, a8, a9] (iv x :: st) σ := ist_10_9 n hd hn ho hp k
theorem dist_11_4 (n : Nat) {a0 a1 a2 a3 a4 a5 a6 a7 a8 a9 a10 : Option Value} {x : Int} (hd : decode (yC y) pc = .ok (.istore 4, 2)) (hn : yL y = 11) (ho : okp [a0, a1, a2, a3, a4, a5, a6, a7, a8, a9, a10] 4 = true) (hp : pc + 2 = n) (k : At y G b n [a0, a1, a2, a3, some (iv x), a5, a6, a7, a8, a9, a10] st σ) : At y G b pc [a0, a1, a2, a3, a4, a5, a6, a7, a8, a9, a10] (iv x :: st) σ := ist_11_4 n hd hn ho hp k
theorem dist_11_5 (n : Nat) {a0 a1 a2 a3 a4 a5 a6 a7 a8 a9 a10 : Option Value} {x : Int} (hd : decode (yC y) pc = .ok (.istore 5, 2)) (hn : yL y = 11) (ho : okp [a0, a1, a2, a3, a4, a5, a6, a7, a8, a9, a10] 5 = true) (hp : pc + 2 = n) (k : At y G b n [a0, a1, a2, a3, a4, some (iv x), a6, a7, a8, a9, a10] st σ) : At y G b pc [a0, a1, a2, a3, a4, a5, a6, a7, a8, a9, a10] (iv x :: st) σ := ist_11_5 n hd hn ho hp k
theorem dist_11_6 (n : Nat) {a0 a1 a2 a3 a4 a5 a6 a7 a8 a9 a10 : Option Value} {x : Int} (hd : decode (yC y) pc = .ok (.istore 6, 2)) (hn : yL y = 11) (ho : okp [a0, a1, a2, a3, a4, a5, a6, a7, a8, a9, a10] 6 = true) (hp : pc + 2 = n) (k : At y G b n [a0, a1, a2, a3, a4, a5, some (iv x), a7, a8, a9, a10] st σ) : At y G b pc [a0, a1, a2, a3, a4, a5, a6, a7, a8, a9, a10] (iv x :: st) σ := ist_11_6 n hd hn ho hp k
theorem dist_11_7 (n : Nat) {a0 a1 a2 a3 a4 a5 a6 a7 a8 a9 a10 : Option Value} {x : Int} (hd : decode (yC y) pc = .ok (.istore 7, 2)) (hn : yL y = 11) (ho : okp [a0, a1, a2, a3, a4, a5, a6, a7, a8, a9, a10] 7 = true) (hp : pc + 2 = n) (k : At y G b n [a0, a1, a2, a3, a4, a5, a6, some (iv x), a8, a9, a10] st σ) : At y G b pc [a0, a1, a2, a3, a4, a5, a6, a7, a8, a9, a10] (iv x :: st) σ := ist_11_7 n hd hn ho hp k
theorem dist_11_8 (n : Nat) {a0 a1 a2 a3 a4 a5 a6 a7 a8 a9 a10 : Option Value} {x : Int} (hd : decode (yC y) pc = .ok (.istore 8, 2)) (hn : yL y = 11) (ho : okp [a0, a1, a2, a3, a4, a5, a6, a7, a8, a9, a10] 8 = true) (hp : pc + 2 = n) (k : At y G b n [a0, a1, a2, a3, a4, a5, a6, a7, some (iv x), a9, a10] st σ) : At y G b pc [a0, a1, a2, a3, a4, a5, a6, a7, a8, a9, a10] (iv x :: st) σ := ist_11_8 n hd hn ho hp k
theorem dist_11_9 (n : Nat) {a0 a1 a2 a3 a4 a5 a6 a7 a8 a9 a10 : Option Value} {x : Int} (hd : decode (yC y) pc = .ok (.istore 9, 2)) (hn : yL y = 11) (ho : okp [a0, a1, a2, a3, a4, a5, a6, a7, a8, a9, a10] 9 = true) (hp : pc + 2 = n) (k : At y G b n [a0, a1, a2, a3, a4, a5, a6, a7, a8, some (iv x), a10] st σ) : At y G b pc [a0, a1, a2, a3, a4, a5, a6, a7, a8, a9, a10] (iv x :: st) σ := ist_11_9 n hd hn ho hp k
theorem dist_11_10 (n : Nat) {a0 a1 a2 a3 a4 a5 a6 a7 a8 a9 a10 : Option Value} {x : Int} (hd : decode (yC y) pc = .ok (.istore 10, 2)) (hn : yL y = 11) (ho : okp [a0, a1, a2, a3, a4, a5, a6, a7, a8, a9, a10] 10 = true) (hp : pc + 2 = n) (k : At y G b n [a0, a1, a2, a3, a4, a5, a6, a7, a8, a9, some (iv x)] st σ) : At y G b pc [a0, a1, a2, a3, a4, a5, a6, a7, a8, a9, a10] (iv x :: st) σ := ist_11_10 n hd hn ho hp k
theorem dlld_4_1 (n : Nat) {a0 a2 a3 : Option Value} {x : Int} (hd : decode (yC y) pc = .ok (.lload_n 1, 1)) (hp : pc + 1 = n) (k : At y G b n [a0, some (jv x), a2, a3] (jv x :: st) σ) : At y G b pc [a0, some (jv x), a2, a3] st σ := lld_4_1 n hd hp k
theorem dlld_6_1 (n : Nat) {a0 a2 a3 a4 a5 : Option Value} {x : Int} (hd : decode (yC y) pc = .ok (.lload_n 1, 1)) (hp : pc + 1 = n) (k : At y G b n [a0, some (jv x), a2, a3, a4, a5] (jv x :: st) σ) : At y G b pc [a0, some (jv x), a2, a3, a4, a5] st σ := lld_6_1 n hd hp k
theorem dlst_4_1 (n : Nat) {a0 a1 a2 a3 : Option Value} {x : Int} (hd : decode (yC y) pc = .ok (.lstore_n 1, 1)) (hn : yL y = 4) (ho : okp [a0, a1, a2, a3] 1 = true) (hp : pc + 1 = n) (k : At y G b n [a0, some (jv x), none, a3] st σ) : At y G b pc [a0, a1, a2, a3] (jv x :: st) σ := lst_4_1 n hd hn ho hp k
theorem dlst_6_1 (n : Nat) {a0 a1 a2 a3 a4 a5 : Option Value} {x : Int} (hd : decode (yC y) pc = .ok (.lstore_n 1, 1)) (hn : yL y = 6) (ho : okp [a0, a1, a2, a3, a4, a5] 1 = true) (hp : pc + 1 = n) (k : At y G b n [a0, some (jv x), none, a3, a4, a5] st σ) : At y G b pc [a0, a1, a2, a3, a4, a5] (jv x :: st) σ := lst_6_1 n hd hn ho hp k
theorem diald (n : Nat) {r j : Nat} {M : Int} {i : Bool} {x : Int} (hK : arK r = 1) (hN : (arN r : Int) = M) (ho : okC r i = true) (hin : 0 ≤ w32 x ∧ w32 x < M) (hj : ix x = j) {v : Int} (hv : rd μ r i j = v) (hd : decode (yC y) pc = .ok (.iaload, 1)) (hp : pc + 1 = n) (k : At y G b n ls (iv v :: st) (Em μ)) : At y G b pc ls (iv x :: rf G r i :: st) (Em μ) := by
  subst hv; subst hj
  exact st_iald n hK rfl ho (vin_of hN hin) hd hp k
theorem dzald (n : Nat) {r j : Nat} {M : Int} {i : Bool} {x : Int} (hK : arK r = 2) (hN : (arN r : Int) = M) (ho : okC r i = true) (hin : 0 ≤ w32 x ∧ w32 x < M) (hj : ix x = j) {v : Int} (hv : rd μ r i j = v) (hd : decode (yC y) pc = .ok (.baload, 1)) (hp : pc + 1 = n) (k : At y G b n ls (iv v :: st) (Em μ)) : At y G b pc ls (iv x :: rf G r i :: st) (Em μ) := by
  subst hv; subst hj
  exact st_zald n hK rfl ho (vin_of hN hin) hd hp k
theorem dbald (n : Nat) {r j : Nat} {M : Int} {i : Bool} {x : Int} (hK : arK r = 3) (hN : (arN r : Int) = M) (ho : okC r i = true) (hin : 0 ≤ w32 x ∧ w32 x < M) (hj : ix x = j) {v : Int} (hv : rd μ r i j = v) (hd : decode (yC y) pc = .ok (.baload, 1)) (hp : pc + 1 = n) (k : At y G b n ls (iv v :: st) (Em μ)) : At y G b pc ls (iv x :: rf G r i :: st) (Em μ) := by
  subst hv; subst hj
  exact st_bald n hK rfl ho (vin_of hN hin) hd hp k
theorem dlald (n : Nat) {r j : Nat} {M : Int} {i : Bool} {x : Int} (hK : arK r = 4) (hN : (arN r : Int) = M) (ho : okC r i = true) (hin : 0 ≤ w32 x ∧ w32 x < M) (hj : ix x = j) {v : Int} (hv : rl μ r i j = v) (hd : decode (yC y) pc = .ok (.laload, 1)) (hp : pc + 1 = n) (k : At y G b n ls (jv v :: st) (Em μ)) : At y G b pc ls (iv x :: rf G r i :: st) (Em μ) := by
  subst hv; subst hj
  exact st_lald n hK rfl ho (vin_of hN hin) hd hp k
theorem diast (n : Nat) {r j : Nat} {M : Int} {i : Bool} {x v : Int} (hK : arK r = 1) (hN : (arN r : Int) = M) (ho : okC r i = true) (hin : 0 ≤ w32 x ∧ w32 x < M) (hj : ix x = j) (hd : decode (yC y) pc = .ok (.iastore, 1)) (hp : pc + 1 = n) (k : At y G b n ls st (Em (wr μ r i j v))) : At y G b pc ls (iv v :: iv x :: rf G r i :: st) (Em μ) := by
  subst hj
  rw [← Em_wr] at k
  exact st_iast n hK rfl ho (vin_of hN hin) hd hp k
theorem dzast (n : Nat) {r j : Nat} {M : Int} {i : Bool} {x v : Int} (hK : arK r = 2) (hN : (arN r : Int) = M) (ho : okC r i = true) (hin : 0 ≤ w32 x ∧ w32 x < M) (hj : ix x = j) (hb : isB v) (hd : decode (yC y) pc = .ok (.bastore, 1)) (hp : pc + 1 = n) (k : At y G b n ls st (Em (wr μ r i j v))) : At y G b pc ls (iv v :: iv x :: rf G r i :: st) (Em μ) := by
  subst hj
  rw [← Em_wr] at k
  exact st_zast n hK rfl ho (vin_of hN hin) hd hp (by rw [vz_of hb]; exact k)
theorem dbast (n : Nat) {r j : Nat} {M : Int} {i : Bool} {x v : Int} (hK : arK r = 3) (hN : (arN r : Int) = M) (ho : okC r i = true) (hin : 0 ≤ w32 x ∧ w32 x < M) (hj : ix x = j) (hd : decode (yC y) pc = .ok (.bastore, 1)) (hp : pc + 1 = n) (k : At y G b n ls st (Em (wr μ r i j (i2b v)))) : At y G b pc ls (iv v :: iv x :: rf G r i :: st) (Em μ) := by
  subst hj
  rw [← Em_wr] at k
  exact st_bast n hK rfl ho (vin_of hN hin) hd hp (by rw [vb_of]; exact k)
theorem dlast (n : Nat) {r j : Nat} {M : Int} {i : Bool} {x v : Int} (hK : arK r = 4) (hN : (arN r : Int) = M) (ho : okC r i = true) (hin : 0 ≤ w32 x ∧ w32 x < M) (hj : ix x = j) (hd : decode (yC y) pc = .ok (.lastore, 1)) (hp : pc + 1 = n) (k : At y G b n ls st (Em (wl μ r i j v))) : At y G b pc ls (jv v :: iv x :: rf G r i :: st) (Em μ) := by
  subst hj
  rw [← Em_wl] at k
  exact st_last n hK rfl ho (vin_of hN hin) hd hp k
theorem dr_i {r e : Int} {mm : Mi} (hF : Fi y G b (some (iv r)) (Em mm)) (hT : yT y = some .int) (hd : decode (yC y) pc = .ok (.ireturn, 1)) (h : some (e, μ) = some (r, mm)) : At y G b pc ls [iv e] (Em μ) := by
  cases h
  exact rt_i hF hT hd rfl rfl
theorem dr_ip {r e : Int} (hF : Fi y G b (some (iv r)) (Em μ)) (hT : yT y = some .int) (hd : decode (yC y) pc = .ok (.ireturn, 1)) (h : some e = some r) : At y G b pc ls [iv e] (Em μ) := by
  cases h
  exact rt_i hF hT hd rfl rfl
theorem dr_it {r e : Int} (hF : Fi y G b (some (iv r)) (Em μ)) (hT : yT y = some .int) (hd : decode (yC y) pc = .ok (.ireturn, 1)) (h : e = r) : At y G b pc ls [iv e] (Em μ) := by
  cases h
  exact rt_i hF hT hd rfl rfl
theorem dr_z {r e : Int} {mm : Mi} (hF : Fi y G b (some (iv r)) (Em mm)) (hT : yT y = some .boolean) (hb : isB e) (hd : decode (yC y) pc = .ok (.ireturn, 1)) (h : some (e, μ) = some (r, mm)) : At y G b pc ls [iv e] (Em μ) := by
  cases h
  exact rt_z hF hT (nz_of hb) hd rfl rfl
theorem dr_zp {r e : Int} (hF : Fi y G b (some (iv r)) (Em μ)) (hT : yT y = some .boolean) (hb : isB e) (hd : decode (yC y) pc = .ok (.ireturn, 1)) (h : some e = some r) : At y G b pc ls [iv e] (Em μ) := by
  cases h
  exact rt_z hF hT (nz_of hb) hd rfl rfl
theorem dr_zt {r e : Int} (hF : Fi y G b (some (iv r)) (Em μ)) (hT : yT y = some .boolean) (hb : isB e) (hd : decode (yC y) pc = .ok (.ireturn, 1)) (h : e = r) : At y G b pc ls [iv e] (Em μ) := by
  cases h
  exact rt_z hF hT (nz_of hb) hd rfl rfl
theorem dr_lp {r e : Int} (hF : Fi y G b (some (jv r)) (Em μ)) (hT : yT y = some .long) (hd : decode (yC y) pc = .ok (.lreturn, 1)) (h : some e = some r) : At y G b pc ls [jv e] (Em μ) := by
  cases h
  exact rt_l hF hT hd rfl rfl
theorem dr_v {mm : Mi} (hF : Fi y G b none (Em mm)) (hT : yT y = none) (hd : decode (yC y) pc = .ok (.return_, 1)) (h : some μ = some mm) : At y G b pc ls [] (Em μ) := by
  cases h
  exact rt_v hF hT hd rfl rfl
theorem dr_at {q : Nat} {r e : Bool} {nm : String} (hF : Fi y G b (some (rf G q r)) (Em μ)) (hT : yT y = some (.object nm)) (hd : decode (yC y) pc = .ok (.areturn, 1)) (h : e = r) : At y G b pc ls [rf G q e] (Em μ) := by
  cases h
  exact rt_a hF hT (Or.inl ⟨_, rfl⟩) rfl hd rfl rfl
theorem dgf_X0_11 (n : Nat) {i : Bool} (ho : yO y = RX0) (hd : decode (yC y) pc = .ok (.getfield 11, 3)) (hp : pc + 3 = n) (kk : At y G b n ls (rf G 10 i :: st) (Em μ)) : At y G b pc ls (rf G 0 i :: st) (Em μ) := gf_X0_11 n ho hd hp kk
theorem dgf_X0_15 (n : Nat) {i : Bool} (ho : yO y = RX0) (hd : decode (yC y) pc = .ok (.getfield 15, 3)) (hp : pc + 3 = n) (kk : At y G b n ls (rf G 11 i :: st) (Em μ)) : At y G b pc ls (rf G 0 i :: st) (Em μ) := gf_X0_15 n ho hd hp kk
theorem dgf_X0_18 (n : Nat) {i : Bool} (ho : yO y = RX0) (hd : decode (yC y) pc = .ok (.getfield 18, 3)) (hp : pc + 3 = n) (kk : At y G b n ls (rf G 12 i :: st) (Em μ)) : At y G b pc ls (rf G 0 i :: st) (Em μ) := gf_X0_18 n ho hd hp kk
theorem dgf_X0_21 (n : Nat) {i : Bool} (ho : yO y = RX0) (hd : decode (yC y) pc = .ok (.getfield 21, 3)) (hp : pc + 3 = n) (kk : At y G b n ls (rf G 13 i :: st) (Em μ)) : At y G b pc ls (rf G 0 i :: st) (Em μ) := gf_X0_21 n ho hd hp kk
theorem dgf_X0_24 (n : Nat) {i : Bool} (ho : yO y = RX0) (hd : decode (yC y) pc = .ok (.getfield 24, 3)) (hp : pc + 3 = n) (kk : At y G b n ls (rf G 14 i :: st) (Em μ)) : At y G b pc ls (rf G 0 i :: st) (Em μ) := gf_X0_24 n ho hd hp kk
theorem dgf_X0_27 (n : Nat) {i : Bool} (ho : yO y = RX0) (hd : decode (yC y) pc = .ok (.getfield 27, 3)) (hp : pc + 3 = n) (kk : At y G b n ls (rf G 15 i :: st) (Em μ)) : At y G b pc ls (rf G 0 i :: st) (Em μ) := gf_X0_27 n ho hd hp kk
theorem dgf_X0_30 (n : Nat) {i : Bool} (ho : yO y = RX0) (hd : decode (yC y) pc = .ok (.getfield 30, 3)) (hp : pc + 3 = n) (kk : At y G b n ls (rf G 16 i :: st) (Em μ)) : At y G b pc ls (rf G 0 i :: st) (Em μ) := gf_X0_30 n ho hd hp kk
theorem dgf_X0_33 (n : Nat) {i : Bool} (ho : yO y = RX0) (hd : decode (yC y) pc = .ok (.getfield 33, 3)) (hp : pc + 3 = n) (kk : At y G b n ls (rf G 17 i :: st) (Em μ)) : At y G b pc ls (rf G 0 i :: st) (Em μ) := gf_X0_33 n ho hd hp kk
theorem dgf_X0_36 (n : Nat) {i : Bool} (ho : yO y = RX0) (hd : decode (yC y) pc = .ok (.getfield 36, 3)) (hp : pc + 3 = n) (kk : At y G b n ls (rf G 18 i :: st) (Em μ)) : At y G b pc ls (rf G 0 i :: st) (Em μ) := gf_X0_36 n ho hd hp kk
theorem dgf_X0_40 (n : Nat) {i : Bool} (ho : yO y = RX0) (hd : decode (yC y) pc = .ok (.getfield 40, 3)) (hp : pc + 3 = n) (kk : At y G b n ls (rf G 19 i :: st) (Em μ)) : At y G b pc ls (rf G 0 i :: st) (Em μ) := gf_X0_40 n ho hd hp kk
theorem dgf_X0_43 (n : Nat) {i : Bool} (ho : yO y = RX0) (hd : decode (yC y) pc = .ok (.getfield 43, 3)) (hp : pc + 3 = n) (kk : At y G b n ls (rf G 20 i :: st) (Em μ)) : At y G b pc ls (rf G 0 i :: st) (Em μ) := gf_X0_43 n ho hd hp kk
theorem dgf_X0_46 (n : Nat) {i : Bool} {v : Int} (ho : yO y = RX0) (hd : decode (yC y) pc = .ok (.getfield 46, 3)) (hp : pc + 3 = n) (hv : rd μ 0 i 0 = v) (kk : At y G b n ls (iv v :: st) (Em μ)) : At y G b pc ls (rf G 0 i :: st) (Em μ) := by
  subst hv
  exact gf_X0_46 n ho hd hp kk
theorem dgf_X0_50 (n : Nat) {i : Bool} {v : Int} (ho : yO y = RX0) (hd : decode (yC y) pc = .ok (.getfield 50, 3)) (hp : pc + 3 = n) (hv : rd μ 0 i 1 = v) (kk : At y G b n ls (iv v :: st) (Em μ)) : At y G b pc ls (rf G 0 i :: st) (Em μ) := by
  subst hv
  exact gf_X0_50 n ho hd hp kk
theorem dgf_X0_53 (n : Nat) {i : Bool} {v : Int} (ho : yO y = RX0) (hd : decode (yC y) pc = .ok (.getfield 53, 3)) (hp : pc + 3 = n) (hv : rd μ 0 i 2 = v) (kk : At y G b n ls (iv v :: st) (Em μ)) : At y G b pc ls (rf G 0 i :: st) (Em μ) := by
  subst hv
  exact gf_X0_53 n ho hd hp kk
theorem dgf_X2_19 (n : Nat) {i : Bool} (ho : yO y = RX2) (hd : decode (yC y) pc = .ok (.getfield 19, 3)) (hp : pc + 3 = n) (kk : At y G b n ls (rf G 24 i :: st) (Em μ)) : At y G b pc ls (rf G 2 i :: st) (Em μ) := gf_X2_19 n ho hd hp kk
theorem dgf_X2_23 (n : Nat) {i : Bool} (ho : yO y = RX2) (hd : decode (yC y) pc = .ok (.getfield 23, 3)) (hp : pc + 3 = n) (kk : At y G b n ls (rf G 25 i :: st) (Em μ)) : At y G b pc ls (rf G 2 i :: st) (Em μ) := gf_X2_23 n ho hd hp kk
theorem dgf_X2_26 (n : Nat) {i : Bool} (ho : yO y = RX2) (hd : decode (yC y) pc = .ok (.getfield 26, 3)) (hp : pc + 3 = n) (kk : At y G b n ls (rf G 26 i :: st) (Em μ)) : At y G b pc ls (rf G 2 i :: st) (Em μ) := gf_X2_26 n ho hd hp kk
theorem dgf_X2_29 (n : Nat) {i : Bool} (ho : yO y = RX2) (hd : decode (yC y) pc = .ok (.getfield 29, 3)) (hp : pc + 3 = n) (kk : At y G b n ls (rf G 27 i :: st) (Em μ)) : At y G b pc ls (rf G 2 i :: st) (Em μ) := gf_X2_29 n ho hd hp kk
theorem dgf_X2_32 (n : Nat) {i : Bool} (ho : yO y = RX2) (hd : decode (yC y) pc = .ok (.getfield 32, 3)) (hp : pc + 3 = n) (kk : At y G b n ls (rf G 28 i :: st) (Em μ)) : At y G b pc ls (rf G 2 i :: st) (Em μ) := gf_X2_32 n ho hd hp kk
theorem dgf_X2_36 (n : Nat) {i : Bool} (ho : yO y = RX2) (hd : decode (yC y) pc = .ok (.getfield 36, 3)) (hp : pc + 3 = n) (kk : At y G b n ls (rf G 29 i :: st) (Em μ)) : At y G b pc ls (rf G 2 i :: st) (Em μ) := gf_X2_36 n ho hd hp kk
theorem dgf_X2_39 (n : Nat) {i : Bool} {v : Int} (ho : yO y = RX2) (hd : decode (yC y) pc = .ok (.getfield 39, 3)) (hp : pc + 3 = n) (hv : rd μ 2 i 3 = v) (kk : At y G b n ls (iv v :: st) (Em μ)) : At y G b pc ls (rf G 2 i :: st) (Em μ) := by
  subst hv
  exact gf_X2_39 n ho hd hp kk
theorem dgf_X3_11 (n : Nat) (ho : yO y = RX3) (hd : decode (yC y) pc = .ok (.getfield 11, 3)) (hp : pc + 3 = n) (kk : At y G b n ls (rf G 30 false :: st) (Em μ)) : At y G b pc ls (rf G 3 false :: st) (Em μ) := gf_X3_11 n ho hd hp kk
theorem dgf_X3_17 (n : Nat) (ho : yO y = RX3) (hd : decode (yC y) pc = .ok (.getfield 17, 3)) (hp : pc + 3 = n) (kk : At y G b n ls (rf G 31 false :: st) (Em μ)) : At y G b pc ls (rf G 3 false :: st) (Em μ) := gf_X3_17 n ho hd hp kk
theorem dgf_X3_20 (n : Nat) (ho : yO y = RX3) (hd : decode (yC y) pc = .ok (.getfield 20, 3)) (hp : pc + 3 = n) (kk : At y G b n ls (rf G 41 false :: st) (Em μ)) : At y G b pc ls (rf G 3 false :: st) (Em μ) := gf_X3_20 n ho hd hp kk
theorem dgf_X3_24 (n : Nat) (ho : yO y = RX3) (hd : decode (yC y) pc = .ok (.getfield 24, 3)) (hp : pc + 3 = n) (kk : At y G b n ls (rf G 0 true :: st) (Em μ)) : At y G b pc ls (rf G 3 false :: st) (Em μ) := gf_X3_24 n ho hd hp kk
theorem dgf_X3_34 (n : Nat) {v : Int} (ho : yO y = RX3) (hd : decode (yC y) pc = .ok (.getfield 34, 3)) (hp : pc + 3 = n) (hv : rd μ 3 false 4 = v) (kk : At y G b n ls (iv v :: st) (Em μ)) : At y G b pc ls (rf G 3 false :: st) (Em μ) := by
  subst hv
  exact gf_X3_34 n ho hd hp kk
theorem dgf_X3_38 (n : Nat) {v : Int} (ho : yO y = RX3) (hd : decode (yC y) pc = .ok (.getfield 38, 3)) (hp : pc + 3 = n) (hv : rd μ 3 false 6 = v) (kk : At y G b n ls (iv v :: st) (Em μ)) : At y G b pc ls (rf G 3 false :: st) (Em μ) := by
  subst hv
  exact gf_X3_38 n ho hd hp kk
theorem dgf_X3_47 (n : Nat) {v : Int} (ho : yO y = RX3) (hd : decode (yC y) pc = .ok (.getfield 47, 3)) (hp : pc + 3 = n) (hv : rd μ 3 false 7 = v) (kk : At y G b n ls (iv v :: st) (Em μ)) : At y G b pc ls (rf G 3 false :: st) (Em μ) := by
  subst hv
  exact gf_X3_47 n ho hd hp kk
theorem dgf_X3_54 (n : Nat) {v : Int} (ho : yO y = RX3) (hd : decode (yC y) pc = .ok (.getfield 54, 3)) (hp : pc + 3 = n) (hv : rd μ 3 false 5 = v) (kk : At y G b n ls (iv v :: st) (Em μ)) : At y G b pc ls (rf G 3 false :: st) (Em μ) := by
  subst hv
  exact gf_X3_54 n ho hd hp kk
theorem dgf_X3_57 (n : Nat) {i : Bool} {v : Int} (ho : yO y = RX3) (hd : decode (yC y) pc = .ok (.getfield 57, 3)) (hp : pc + 3 = n) (hv : rd μ 0 i 1 = v) (kk : At y G b n ls (iv v :: st) (Em μ)) : At y G b pc ls (rf G 0 i :: st) (Em μ) := by
  subst hv
  exact gf_X3_57 n ho hd hp kk
theorem dgf_X3_82 (n : Nat) {i : Bool} {v : Int} (ho : yO y = RX3) (hd : decode (yC y) pc = .ok (.getfield 82, 3)) (hp : pc + 3 = n) (hv : rd μ 0 i 0 = v) (kk : At y G b n ls (iv v :: st) (Em μ)) : At y G b pc ls (rf G 0 i :: st) (Em μ) := by
  subst hv
  exact gf_X3_82 n ho hd hp kk
theorem dgf_X3_88 (n : Nat) {v : Int} (ho : yO y = RX3) (hd : decode (yC y) pc = .ok (.getfield 88, 3)) (hp : pc + 3 = n) (hv : rl μ 3 false 9 = v) (kk : At y G b n ls (jv v :: st) (Em μ)) : At y G b pc ls (rf G 3 false :: st) (Em μ) := by
  subst hv
  exact gf_X3_88 n ho hd hp kk
theorem dgf_X3_116 (n : Nat) {v : Int} (ho : yO y = RX3) (hd : decode (yC y) pc = .ok (.getfield 116, 3)) (hp : pc + 3 = n) (hv : rd μ 3 false 8 = v) (kk : At y G b n ls (iv v :: st) (Em μ)) : At y G b pc ls (rf G 3 false :: st) (Em μ) := by
  subst hv
  exact gf_X3_116 n ho hd hp kk
theorem dgf_X3_123 (n : Nat) {i : Bool} {v : Int} (ho : yO y = RX3) (hd : decode (yC y) pc = .ok (.getfield 123, 3)) (hp : pc + 3 = n) (hv : rd μ 0 i 2 = v) (kk : At y G b n ls (iv v :: st) (Em μ)) : At y G b pc ls (rf G 0 i :: st) (Em μ) := by
  subst hv
  exact gf_X3_123 n ho hd hp kk
theorem dgf_X4_14 (n : Nat) {i : Bool} (ho : yO y = RX4) (hd : decode (yC y) pc = .ok (.getfield 14, 3)) (hp : pc + 3 = n) (kk : At y G b n ls (rf G 1 i :: st) (Em μ)) : At y G b pc ls (rf G 4 i :: st) (Em μ) := gf_X4_14 n ho hd hp kk
theorem dgf_X4_18 (n : Nat) {i : Bool} (ho : yO y = RX4) (hd : decode (yC y) pc = .ok (.getfield 18, 3)) (hp : pc + 3 = n) (kk : At y G b n ls (rf G 33 i :: st) (Em μ)) : At y G b pc ls (rf G 4 i :: st) (Em μ) := gf_X4_18 n ho hd hp kk
theorem dgf_X4_22 (n : Nat) {i : Bool} (ho : yO y = RX4) (hd : decode (yC y) pc = .ok (.getfield 22, 3)) (hp : pc + 3 = n) (kk : At y G b n ls (rf G 34 i :: st) (Em μ)) : At y G b pc ls (rf G 4 i :: st) (Em μ) := gf_X4_22 n ho hd hp kk
theorem dgf_X4_27 (n : Nat) {i : Bool} (ho : yO y = RX4) (hd : decode (yC y) pc = .ok (.getfield 27, 3)) (hp : pc + 3 = n) (kk : At y G b n ls (rf G 35 i :: st) (Em μ)) : At y G b pc ls (rf G 4 i :: st) (Em μ) := gf_X4_27 n ho hd hp kk
theorem dgf_X4_30 (n : Nat) {i : Bool} (ho : yO y = RX4) (hd : decode (yC y) pc = .ok (.getfield 30, 3)) (hp : pc + 3 = n) (kk : At y G b n ls (rf G 36 i :: st) (Em μ)) : At y G b pc ls (rf G 4 i :: st) (Em μ) := gf_X4_30 n ho hd hp kk
theorem dgf_X4_33 (n : Nat) {i : Bool} (ho : yO y = RX4) (hd : decode (yC y) pc = .ok (.getfield 33, 3)) (hp : pc + 3 = n) (kk : At y G b n ls (rf G 0 false :: st) (Em μ)) : At y G b pc ls (rf G 4 i :: st) (Em μ) := gf_X4_33 n ho hd hp kk
theorem dgf_X4_37 (n : Nat) {i : Bool} (ho : yO y = RX4) (hd : decode (yC y) pc = .ok (.getfield 37, 3)) (hp : pc + 3 = n) (kk : At y G b n ls (rf G 2 i :: st) (Em μ)) : At y G b pc ls (rf G 4 i :: st) (Em μ) := gf_X4_37 n ho hd hp kk
theorem dgf_X4_41 (n : Nat) {i : Bool} (ho : yO y = RX4) (hd : decode (yC y) pc = .ok (.getfield 41, 3)) (hp : pc + 3 = n) (kk : At y G b n ls (rf G 32 false :: st) (Em μ)) : At y G b pc ls (rf G 4 i :: st) (Em μ) := gf_X4_41 n ho hd hp kk
theorem dgf_X4_47 (n : Nat) {i : Bool} {v : Int} (ho : yO y = RX4) (hd : decode (yC y) pc = .ok (.getfield 47, 3)) (hp : pc + 3 = n) (hv : rd μ 1 i 1 = v) (kk : At y G b n ls (iv v :: st) (Em μ)) : At y G b pc ls (rf G 1 i :: st) (Em μ) := by
  subst hv
  exact gf_X4_47 n ho hd hp kk
theorem dgf_X4_51 (n : Nat) {i : Bool} (ho : yO y = RX4) (hd : decode (yC y) pc = .ok (.getfield 51, 3)) (hp : pc + 3 = n) (kk : At y G b n ls (rf G 21 i :: st) (Em μ)) : At y G b pc ls (rf G 1 i :: st) (Em μ) := gf_X4_51 n ho hd hp kk
theorem dgf_X4_65 (n : Nat) {i : Bool} (ho : yO y = RX4) (hd : decode (yC y) pc = .ok (.getfield 65, 3)) (hp : pc + 3 = n) (kk : At y G b n ls (rf G 22 i :: st) (Em μ)) : At y G b pc ls (rf G 1 i :: st) (Em μ) := gf_X4_65 n ho hd hp kk
theorem dgf_X4_75 (n : Nat) {i : Bool} {v : Int} (ho : yO y = RX4) (hd : decode (yC y) pc = .ok (.getfield 75, 3)) (hp : pc + 3 = n) (hv : rd μ 1 i 2 = v) (kk : At y G b n ls (iv v :: st) (Em μ)) : At y G b pc ls (rf G 1 i :: st) (Em μ) := by
  subst hv
  exact gf_X4_75 n ho hd hp kk
theorem dgf_X4_78 (n : Nat) {i : Bool} (ho : yO y = RX4) (hd : decode (yC y) pc = .ok (.getfield 78, 3)) (hp : pc + 3 = n) (kk : At y G b n ls (rf G 23 i :: st) (Em μ)) : At y G b pc ls (rf G 1 i :: st) (Em μ) := gf_X4_78 n ho hd hp kk
theorem dgf_X4_81 (n : Nat) {i : Bool} {v : Int} (ho : yO y = RX4) (hd : decode (yC y) pc = .ok (.getfield 81, 3)) (hp : pc + 3 = n) (hv : rd μ 1 i 3 = v) (kk : At y G b n ls (iv v :: st) (Em μ)) : At y G b pc ls (rf G 1 i :: st) (Em μ) := by
  subst hv
  exact gf_X4_81 n ho hd hp kk
theorem dgf_X4_84 (n : Nat) {i : Bool} {v : Int} (ho : yO y = RX4) (hd : decode (yC y) pc = .ok (.getfield 84, 3)) (hp : pc + 3 = n) (hv : rd μ 1 i 4 = v) (kk : At y G b n ls (iv v :: st) (Em μ)) : At y G b pc ls (rf G 1 i :: st) (Em μ) := by
  subst hv
  exact gf_X4_84 n ho hd hp kk
theorem dgf_X4_87 (n : Nat) {i : Bool} {v : Int} (ho : yO y = RX4) (hd : decode (yC y) pc = .ok (.getfield 87, 3)) (hp : pc + 3 = n) (hv : rd μ 2 i 3 = v) (kk : At y G b n ls (iv v :: st) (Em μ)) : At y G b pc ls (rf G 2 i :: st) (Em μ) := by
  subst hv
  exact gf_X4_87 n ho hd hp kk
theorem dgf_X4_90 (n : Nat) {i : Bool} (ho : yO y = RX4) (hd : decode (yC y) pc = .ok (.getfield 90, 3)) (hp : pc + 3 = n) (kk : At y G b n ls (rf G 29 i :: st) (Em μ)) : At y G b pc ls (rf G 2 i :: st) (Em μ) := gf_X4_90 n ho hd hp kk
theorem dgf_X4_94 (n : Nat) {i : Bool} {v : Int} (ho : yO y = RX4) (hd : decode (yC y) pc = .ok (.getfield 94, 3)) (hp : pc + 3 = n) (hv : rd μ 2 i 4 = v) (kk : At y G b n ls (iv v :: st) (Em μ)) : At y G b pc ls (rf G 2 i :: st) (Em μ) := by
  subst hv
  exact gf_X4_94 n ho hd hp kk
theorem dgf_X4_98 (n : Nat) {i : Bool} {v : Int} (ho : yO y = RX4) (hd : decode (yC y) pc = .ok (.getfield 98, 3)) (hp : pc + 3 = n) (hv : rd μ 1 i 0 = v) (kk : At y G b n ls (iv v :: st) (Em μ)) : At y G b pc ls (rf G 1 i :: st) (Em μ) := by
  subst hv
  exact gf_X4_98 n ho hd hp kk
theorem dgf_X4_114 (n : Nat) {i : Bool} {v : Int} (ho : yO y = RX4) (hd : decode (yC y) pc = .ok (.getfield 114, 3)) (hp : pc + 3 = n) (hv : rd μ 2 i 2 = v) (kk : At y G b n ls (iv v :: st) (Em μ)) : At y G b pc ls (rf G 2 i :: st) (Em μ) := by
  subst hv
  exact gf_X4_114 n ho hd hp kk
theorem dgf_X4_121 (n : Nat) {i : Bool} {v : Int} (ho : yO y = RX4) (hd : decode (yC y) pc = .ok (.getfield 121, 3)) (hp : pc + 3 = n) (hv : rd μ 4 i 8 = v) (kk : At y G b n ls (iv v :: st) (Em μ)) : At y G b pc ls (rf G 4 i :: st) (Em μ) := by
  subst hv
  exact gf_X4_121 n ho hd hp kk
theorem dgf_X4_138 (n : Nat) {i : Bool} {v : Int} (ho : yO y = RX4) (hd : decode (yC y) pc = .ok (.getfield 138, 3)) (hp : pc + 3 = n) (hv : rd μ 0 i 2 = v) (kk : At y G b n ls (iv v :: st) (Em μ)) : At y G b pc ls (rf G 0 i :: st) (Em μ) := by
  subst hv
  exact gf_X4_138 n ho hd hp kk
theorem dgf_X4_150 (n : Nat) {i : Bool} (ho : yO y = RX4) (hd : decode (yC y) pc = .ok (.getfield 150, 3)) (hp : pc + 3 = n) (kk : At y G b n ls (rf G 16 i :: st) (Em μ)) : At y G b pc ls (rf G 0 i :: st) (Em μ) := gf_X4_150 n ho hd hp kk
theorem dgf_X4_164 (n : Nat) {i : Bool} {v : Int} (ho : yO y = RX4) (hd : decode (yC y) pc = .ok (.getfield 164, 3)) (hp : pc + 3 = n) (hv : rd μ 4 i 9 = v) (kk : At y G b n ls (iv v :: st) (Em μ)) : At y G b pc ls (rf G 4 i :: st) (Em μ) := by
  subst hv
  exact gf_X4_164 n ho hd hp kk
theorem dgf_X4_167 (n : Nat) {i : Bool} {v : Int} (ho : yO y = RX4) (hd : decode (yC y) pc = .ok (.getfield 167, 3)) (hp : pc + 3 = n) (hv : rd μ 4 i 10 = v) (kk : At y G b n ls (iv v :: st) (Em μ)) : At y G b pc ls (rf G 4 i :: st) (Em μ) := by
  subst hv
  exact gf_X4_167 n ho hd hp kk
theorem dgf_X4_170 (n : Nat) {i : Bool} {v : Int} (ho : yO y = RX4) (hd : decode (yC y) pc = .ok (.getfield 170, 3)) (hp : pc + 3 = n) (hv : rd μ 4 i 11 = v) (kk : At y G b n ls (iv v :: st) (Em μ)) : At y G b pc ls (rf G 4 i :: st) (Em μ) := by
  subst hv
  exact gf_X4_170 n ho hd hp kk
theorem dgf_X4_176 (n : Nat) {i : Bool} (ho : yO y = RX4) (hd : decode (yC y) pc = .ok (.getfield 176, 3)) (hp : pc + 3 = n) (kk : At y G b n ls (rf G 26 i :: st) (Em μ)) : At y G b pc ls (rf G 2 i :: st) (Em μ) := gf_X4_176 n ho hd hp kk
theorem dgf_X4_188 (n : Nat) {i : Bool} {v : Int} (ho : yO y = RX4) (hd : decode (yC y) pc = .ok (.getfield 188, 3)) (hp : pc + 3 = n) (hv : rd μ 0 i 1 = v) (kk : At y G b n ls (iv v :: st) (Em μ)) : At y G b pc ls (rf G 0 i :: st) (Em μ) := by
  subst hv
  exact gf_X4_188 n ho hd hp kk
theorem dgf_X4_194 (n : Nat) {i : Bool} {v : Int} (ho : yO y = RX4) (hd : decode (yC y) pc = .ok (.getfield 194, 3)) (hp : pc + 3 = n) (hv : rd μ 4 i 12 = v) (kk : At y G b n ls (iv v :: st) (Em μ)) : At y G b pc ls (rf G 4 i :: st) (Em μ) := by
  subst hv
  exact gf_X4_194 n ho hd hp kk
theorem dgf_X4_218 (n : Nat) {i : Bool} (ho : yO y = RX4) (hd : decode (yC y) pc = .ok (.getfield 218, 3)) (hp : pc + 3 = n) (kk : At y G b n ls (rf G 19 i :: st) (Em μ)) : At y G b pc ls (rf G 0 i :: st) (Em μ) := gf_X4_218 n ho hd hp kk
theorem dgf_X4_221 (n : Nat) {i : Bool} (ho : yO y = RX4) (hd : decode (yC y) pc = .ok (.getfield 221, 3)) (hp : pc + 3 = n) (kk : At y G b n ls (rf G 20 i :: st) (Em μ)) : At y G b pc ls (rf G 0 i :: st) (Em μ) := gf_X4_221 n ho hd hp kk
theorem dgf_X4_227 (n : Nat) {i : Bool} (ho : yO y = RX4) (hd : decode (yC y) pc = .ok (.getfield 227, 3)) (hp : pc + 3 = n) (kk : At y G b n ls (rf G 17 i :: st) (Em μ)) : At y G b pc ls (rf G 0 i :: st) (Em μ) := gf_X4_227 n ho hd hp kk
theorem dgf_X4_239 (n : Nat) {i : Bool} (ho : yO y = RX4) (hd : decode (yC y) pc = .ok (.getfield 239, 3)) (hp : pc + 3 = n) (kk : At y G b n ls (rf G 13 i :: st) (Em μ)) : At y G b pc ls (rf G 0 i :: st) (Em μ) := gf_X4_239 n ho hd hp kk
theorem dgf_X4_240 (n : Nat) {i : Bool} {v : Int} (ho : yO y = RX4) (hd : decode (yC y) pc = .ok (.getfield 240, 3)) (hp : pc + 3 = n) (hv : rd μ 2 i 1 = v) (kk : At y G b n ls (iv v :: st) (Em μ)) : At y G b pc ls (rf G 2 i :: st) (Em μ) := by
  subst hv
  exact gf_X4_240 n ho hd hp kk
theorem dgf_X4_256 (n : Nat) {i : Bool} (ho : yO y = RX4) (hd : decode (yC y) pc = .ok (.getfield 256, 3)) (hp : pc + 3 = n) (kk : At y G b n ls (rf G 14 i :: st) (Em μ)) : At y G b pc ls (rf G 0 i :: st) (Em μ) := gf_X4_256 n ho hd hp kk
theorem dgf_X4_259 (n : Nat) {i : Bool} (ho : yO y = RX4) (hd : decode (yC y) pc = .ok (.getfield 259, 3)) (hp : pc + 3 = n) (kk : At y G b n ls (rf G 25 i :: st) (Em μ)) : At y G b pc ls (rf G 2 i :: st) (Em μ) := gf_X4_259 n ho hd hp kk
theorem dgf_X4_262 (n : Nat) {i : Bool} (ho : yO y = RX4) (hd : decode (yC y) pc = .ok (.getfield 262, 3)) (hp : pc + 3 = n) (kk : At y G b n ls (rf G 27 i :: st) (Em μ)) : At y G b pc ls (rf G 2 i :: st) (Em μ) := gf_X4_262 n ho hd hp kk
theorem dgf_X4_263 (n : Nat) {i : Bool} {v : Int} (ho : yO y = RX4) (hd : decode (yC y) pc = .ok (.getfield 263, 3)) (hp : pc + 3 = n) (hv : rd μ 2 i 0 = v) (kk : At y G b n ls (iv v :: st) (Em μ)) : At y G b pc ls (rf G 2 i :: st) (Em μ) := by
  subst hv
  exact gf_X4_263 n ho hd hp kk
theorem dgf_X5_11 (n : Nat) (ho : yO y = RX5) (hd : decode (yC y) pc = .ok (.getfield 11, 3)) (hp : pc + 3 = n) (kk : At y G b n ls (rf G 37 false :: st) (Em μ)) : At y G b pc ls (rf G 5 false :: st) (Em μ) := gf_X5_11 n ho hd hp kk
theorem dgf_X5_15 (n : Nat) (ho : yO y = RX5) (hd : decode (yC y) pc = .ok (.getfield 15, 3)) (hp : pc + 3 = n) (kk : At y G b n ls (rf G 38 false :: st) (Em μ)) : At y G b pc ls (rf G 5 false :: st) (Em μ) := gf_X5_15 n ho hd hp kk
theorem dgf_X5_18 (n : Nat) (ho : yO y = RX5) (hd : decode (yC y) pc = .ok (.getfield 18, 3)) (hp : pc + 3 = n) (kk : At y G b n ls (rf G 39 false :: st) (Em μ)) : At y G b pc ls (rf G 5 false :: st) (Em μ) := gf_X5_18 n ho hd hp kk
theorem dgf_X5_21 (n : Nat) (ho : yO y = RX5) (hd : decode (yC y) pc = .ok (.getfield 21, 3)) (hp : pc + 3 = n) (kk : At y G b n ls (rf G 40 false :: st) (Em μ)) : At y G b pc ls (rf G 5 false :: st) (Em μ) := gf_X5_21 n ho hd hp kk
theorem dgf_X5_25 (n : Nat) (ho : yO y = RX5) (hd : decode (yC y) pc = .ok (.getfield 25, 3)) (hp : pc + 3 = n) (kk : At y G b n ls (rf G 0 false :: st) (Em μ)) : At y G b pc ls (rf G 5 false :: st) (Em μ) := gf_X5_25 n ho hd hp kk
theorem dgf_X5_29 (n : Nat) {v : Int} (ho : yO y = RX5) (hd : decode (yC y) pc = .ok (.getfield 29, 3)) (hp : pc + 3 = n) (hv : rd μ 5 false 0 = v) (kk : At y G b n ls (iv v :: st) (Em μ)) : At y G b pc ls (rf G 5 false :: st) (Em μ) := by
  subst hv
  exact gf_X5_29 n ho hd hp kk
theorem dgf_X5_49 (n : Nat) {i : Bool} {v : Int} (ho : yO y = RX5) (hd : decode (yC y) pc = .ok (.getfield 49, 3)) (hp : pc + 3 = n) (hv : rd μ 2 i 0 = v) (kk : At y G b n ls (iv v :: st) (Em μ)) : At y G b pc ls (rf G 2 i :: st) (Em μ) := by
  subst hv
  exact gf_X5_49 n ho hd hp kk
theorem dgf_X5_54 (n : Nat) {i : Bool} (ho : yO y = RX5) (hd : decode (yC y) pc = .ok (.getfield 54, 3)) (hp : pc + 3 = n) (kk : At y G b n ls (rf G 16 i :: st) (Em μ)) : At y G b pc ls (rf G 0 i :: st) (Em μ) := gf_X5_54 n ho hd hp kk
theorem dgf_X5_59 (n : Nat) {i : Bool} (ho : yO y = RX5) (hd : decode (yC y) pc = .ok (.getfield 59, 3)) (hp : pc + 3 = n) (kk : At y G b n ls (rf G 13 i :: st) (Em μ)) : At y G b pc ls (rf G 0 i :: st) (Em μ) := gf_X5_59 n ho hd hp kk
theorem dgf_X5_66 (n : Nat) {i : Bool} {v : Int} (ho : yO y = RX5) (hd : decode (yC y) pc = .ok (.getfield 66, 3)) (hp : pc + 3 = n) (hv : rd μ 2 i 2 = v) (kk : At y G b n ls (iv v :: st) (Em μ)) : At y G b pc ls (rf G 2 i :: st) (Em μ) := by
  subst hv
  exact gf_X5_66 n ho hd hp kk
theorem dgf_X5_73 (n : Nat) {i : Bool} (ho : yO y = RX5) (hd : decode (yC y) pc = .ok (.getfield 73, 3)) (hp : pc + 3 = n) (kk : At y G b n ls (rf G 14 i :: st) (Em μ)) : At y G b pc ls (rf G 0 i :: st) (Em μ) := gf_X5_73 n ho hd hp kk
theorem dgf_X5_76 (n : Nat) {i : Bool} {v : Int} (ho : yO y = RX5) (hd : decode (yC y) pc = .ok (.getfield 76, 3)) (hp : pc + 3 = n) (hv : rd μ 2 i 1 = v) (kk : At y G b n ls (iv v :: st) (Em μ)) : At y G b pc ls (rf G 2 i :: st) (Em μ) := by
  subst hv
  exact gf_X5_76 n ho hd hp kk
theorem dgf_X5_83 (n : Nat) {i : Bool} (ho : yO y = RX5) (hd : decode (yC y) pc = .ok (.getfield 83, 3)) (hp : pc + 3 = n) (kk : At y G b n ls (rf G 19 i :: st) (Em μ)) : At y G b pc ls (rf G 0 i :: st) (Em μ) := gf_X5_83 n ho hd hp kk
theorem dgf_X5_94 (n : Nat) {i : Bool} (ho : yO y = RX5) (hd : decode (yC y) pc = .ok (.getfield 94, 3)) (hp : pc + 3 = n) (kk : At y G b n ls (rf G 20 i :: st) (Em μ)) : At y G b pc ls (rf G 0 i :: st) (Em μ) := gf_X5_94 n ho hd hp kk
theorem dgf_X5_97 (n : Nat) {i : Bool} {v : Int} (ho : yO y = RX5) (hd : decode (yC y) pc = .ok (.getfield 97, 3)) (hp : pc + 3 = n) (hv : rd μ 2 i 3 = v) (kk : At y G b n ls (iv v :: st) (Em μ)) : At y G b pc ls (rf G 2 i :: st) (Em μ) := by
  subst hv
  exact gf_X5_97 n ho hd hp kk
theorem dgf_X5_101 (n : Nat) {i : Bool} (ho : yO y = RX5) (hd : decode (yC y) pc = .ok (.getfield 101, 3)) (hp : pc + 3 = n) (kk : At y G b n ls (rf G 26 i :: st) (Em μ)) : At y G b pc ls (rf G 2 i :: st) (Em μ) := gf_X5_101 n ho hd hp kk
theorem dgf_X5_102 (n : Nat) {i : Bool} (ho : yO y = RX5) (hd : decode (yC y) pc = .ok (.getfield 102, 3)) (hp : pc + 3 = n) (kk : At y G b n ls (rf G 25 i :: st) (Em μ)) : At y G b pc ls (rf G 2 i :: st) (Em μ) := gf_X5_102 n ho hd hp kk
theorem dgf_X5_109 (n : Nat) {i : Bool} (ho : yO y = RX5) (hd : decode (yC y) pc = .ok (.getfield 109, 3)) (hp : pc + 3 = n) (kk : At y G b n ls (rf G 27 i :: st) (Em μ)) : At y G b pc ls (rf G 2 i :: st) (Em μ) := gf_X5_109 n ho hd hp kk
theorem dgf_X6_9 (n : Nat) (ho : yO y = RX6) (hd : decode (yC y) pc = .ok (.getfield 9, 3)) (hp : pc + 3 = n) (kk : At y G b n ls (rf G 41 false :: st) (Em μ)) : At y G b pc ls (rf G 6 false :: st) (Em μ) := gf_X6_9 n ho hd hp kk
theorem dgf_X6_16 (n : Nat) (ho : yO y = RX6) (hd : decode (yC y) pc = .ok (.getfield 16, 3)) (hp : pc + 3 = n) (kk : At y G b n ls (rf G 0 false :: st) (Em μ)) : At y G b pc ls (rf G 6 false :: st) (Em μ) := gf_X6_16 n ho hd hp kk
theorem dgf_X6_20 (n : Nat) (ho : yO y = RX6) (hd : decode (yC y) pc = .ok (.getfield 20, 3)) (hp : pc + 3 = n) (kk : At y G b n ls (rf G 0 true :: st) (Em μ)) : At y G b pc ls (rf G 6 false :: st) (Em μ) := gf_X6_20 n ho hd hp kk
theorem dgf_X6_28 (n : Nat) (ho : yO y = RX6) (hd : decode (yC y) pc = .ok (.getfield 28, 3)) (hp : pc + 3 = n) (kk : At y G b n ls (rf G 3 false :: st) (Em μ)) : At y G b pc ls (rf G 6 false :: st) (Em μ) := gf_X6_28 n ho hd hp kk
theorem dgf_X6_41 (n : Nat) (ho : yO y = RX6) (hd : decode (yC y) pc = .ok (.getfield 41, 3)) (hp : pc + 3 = n) (kk : At y G b n ls (rf G 4 false :: st) (Em μ)) : At y G b pc ls (rf G 6 false :: st) (Em μ) := gf_X6_41 n ho hd hp kk
theorem dgf_X6_45 (n : Nat) (ho : yO y = RX6) (hd : decode (yC y) pc = .ok (.getfield 45, 3)) (hp : pc + 3 = n) (kk : At y G b n ls (rf G 4 true :: st) (Em μ)) : At y G b pc ls (rf G 6 false :: st) (Em μ) := gf_X6_45 n ho hd hp kk
theorem dgf_X6_53 (n : Nat) (ho : yO y = RX6) (hd : decode (yC y) pc = .ok (.getfield 53, 3)) (hp : pc + 3 = n) (kk : At y G b n ls (rf G 5 false :: st) (Em μ)) : At y G b pc ls (rf G 6 false :: st) (Em μ) := gf_X6_53 n ho hd hp kk
theorem dgf_X6_57 (n : Nat) {v : Int} (ho : yO y = RX6) (hd : decode (yC y) pc = .ok (.getfield 57, 3)) (hp : pc + 3 = n) (hv : rd μ 6 false 1 = v) (kk : At y G b n ls (iv v :: st) (Em μ)) : At y G b pc ls (rf G 6 false :: st) (Em μ) := by
  subst hv
  exact gf_X6_57 n ho hd hp kk
theorem dgf_X6_72 (n : Nat) {i : Bool} (ho : yO y = RX6) (hd : decode (yC y) pc = .ok (.getfield 72, 3)) (hp : pc + 3 = n) (kk : At y G b n ls (rf G 2 i :: st) (Em μ)) : At y G b pc ls (rf G 4 i :: st) (Em μ) := gf_X6_72 n ho hd hp kk
theorem dgf_X6_79 (n : Nat) {v : Int} (ho : yO y = RX6) (hd : decode (yC y) pc = .ok (.getfield 79, 3)) (hp : pc + 3 = n) (hv : rd μ 5 false 0 = v) (kk : At y G b n ls (iv v :: st) (Em μ)) : At y G b pc ls (rf G 5 false :: st) (Em μ) := by
  subst hv
  exact gf_X6_79 n ho hd hp kk
theorem dgf_X6_82 (n : Nat) {i : Bool} {v : Int} (ho : yO y = RX6) (hd : decode (yC y) pc = .ok (.getfield 82, 3)) (hp : pc + 3 = n) (hv : rd μ 0 i 1 = v) (kk : At y G b n ls (iv v :: st) (Em μ)) : At y G b pc ls (rf G 0 i :: st) (Em μ) := by
  subst hv
  exact gf_X6_82 n ho hd hp kk
theorem dgf_X6_107 (n : Nat) {i : Bool} (ho : yO y = RX6) (hd : decode (yC y) pc = .ok (.getfield 107, 3)) (hp : pc + 3 = n) (kk : At y G b n ls (rf G 28 i :: st) (Em μ)) : At y G b pc ls (rf G 2 i :: st) (Em μ) := gf_X6_107 n ho hd hp kk
theorem dgf_X6_125 (n : Nat) {i : Bool} (ho : yO y = RX6) (hd : decode (yC y) pc = .ok (.getfield 125, 3)) (hp : pc + 3 = n) (kk : At y G b n ls (rf G 13 i :: st) (Em μ)) : At y G b pc ls (rf G 0 i :: st) (Em μ) := gf_X6_125 n ho hd hp kk
theorem dgf_X6_129 (n : Nat) {i : Bool} (ho : yO y = RX6) (hd : decode (yC y) pc = .ok (.getfield 129, 3)) (hp : pc + 3 = n) (kk : At y G b n ls (rf G 14 i :: st) (Em μ)) : At y G b pc ls (rf G 0 i :: st) (Em μ) := gf_X6_129 n ho hd hp kk
theorem dgf_X6_132 (n : Nat) {i : Bool} (ho : yO y = RX6) (hd : decode (yC y) pc = .ok (.getfield 132, 3)) (hp : pc + 3 = n) (kk : At y G b n ls (rf G 15 i :: st) (Em μ)) : At y G b pc ls (rf G 0 i :: st) (Em μ) := gf_X6_132 n ho hd hp kk
theorem dgf_X6_135 (n : Nat) {i : Bool} (ho : yO y = RX6) (hd : decode (yC y) pc = .ok (.getfield 135, 3)) (hp : pc + 3 = n) (kk : At y G b n ls (rf G 16 i :: st) (Em μ)) : At y G b pc ls (rf G 0 i :: st) (Em μ) := gf_X6_135 n ho hd hp kk
theorem dgf_X6_138 (n : Nat) {i : Bool} (ho : yO y = RX6) (hd : decode (yC y) pc = .ok (.getfield 138, 3)) (hp : pc + 3 = n) (kk : At y G b n ls (rf G 17 i :: st) (Em μ)) : At y G b pc ls (rf G 0 i :: st) (Em μ) := gf_X6_138 n ho hd hp kk
theorem dgf_X6_141 (n : Nat) {i : Bool} (ho : yO y = RX6) (hd : decode (yC y) pc = .ok (.getfield 141, 3)) (hp : pc + 3 = n) (kk : At y G b n ls (rf G 18 i :: st) (Em μ)) : At y G b pc ls (rf G 0 i :: st) (Em μ) := gf_X6_141 n ho hd hp kk
theorem dgf_X6_144 (n : Nat) {i : Bool} (ho : yO y = RX6) (hd : decode (yC y) pc = .ok (.getfield 144, 3)) (hp : pc + 3 = n) (kk : At y G b n ls (rf G 11 i :: st) (Em μ)) : At y G b pc ls (rf G 0 i :: st) (Em μ) := gf_X6_144 n ho hd hp kk
theorem dgf_X6_147 (n : Nat) {i : Bool} (ho : yO y = RX6) (hd : decode (yC y) pc = .ok (.getfield 147, 3)) (hp : pc + 3 = n) (kk : At y G b n ls (rf G 12 i :: st) (Em μ)) : At y G b pc ls (rf G 0 i :: st) (Em μ) := gf_X6_147 n ho hd hp kk
theorem dgf_X6_153 (n : Nat) {i : Bool} (ho : yO y = RX6) (hd : decode (yC y) pc = .ok (.getfield 153, 3)) (hp : pc + 3 = n) (kk : At y G b n ls (rf G 24 i :: st) (Em μ)) : At y G b pc ls (rf G 2 i :: st) (Em μ) := gf_X6_153 n ho hd hp kk
theorem dgf_X6_156 (n : Nat) {i : Bool} (ho : yO y = RX6) (hd : decode (yC y) pc = .ok (.getfield 156, 3)) (hp : pc + 3 = n) (kk : At y G b n ls (rf G 25 i :: st) (Em μ)) : At y G b pc ls (rf G 2 i :: st) (Em μ) := gf_X6_156 n ho hd hp kk
theorem dgf_X6_159 (n : Nat) {i : Bool} (ho : yO y = RX6) (hd : decode (yC y) pc = .ok (.getfield 159, 3)) (hp : pc + 3 = n) (kk : At y G b n ls (rf G 26 i :: st) (Em μ)) : At y G b pc ls (rf G 2 i :: st) (Em μ) := gf_X6_159 n ho hd hp kk
theorem dgf_X6_160 (n : Nat) {i : Bool} (ho : yO y = RX6) (hd : decode (yC y) pc = .ok (.getfield 160, 3)) (hp : pc + 3 = n) (kk : At y G b n ls (rf G 27 i :: st) (Em μ)) : At y G b pc ls (rf G 2 i :: st) (Em μ) := gf_X6_160 n ho hd hp kk
theorem dgf_X6_161 (n : Nat) {i : Bool} (ho : yO y = RX6) (hd : decode (yC y) pc = .ok (.getfield 161, 3)) (hp : pc + 3 = n) (kk : At y G b n ls (rf G 29 i :: st) (Em μ)) : At y G b pc ls (rf G 2 i :: st) (Em μ) := gf_X6_161 n ho hd hp kk
theorem dgf_X6_201 (n : Nat) {i : Bool} {v : Int} (ho : yO y = RX6) (hd : decode (yC y) pc = .ok (.getfield 201, 3)) (hp : pc + 3 = n) (hv : rd μ 0 i 0 = v) (kk : At y G b n ls (iv v :: st) (Em μ)) : At y G b pc ls (rf G 0 i :: st) (Em μ) := by
  subst hv
  exact gf_X6_201 n ho hd hp kk
theorem dgf_X6_204 (n : Nat) {i : Bool} {v : Int} (ho : yO y = RX6) (hd : decode (yC y) pc = .ok (.getfield 204, 3)) (hp : pc + 3 = n) (hv : rd μ 0 i 2 = v) (kk : At y G b n ls (iv v :: st) (Em μ)) : At y G b pc ls (rf G 0 i :: st) (Em μ) := by
  subst hv
  exact gf_X6_204 n ho hd hp kk
theorem dgf_X6_207 (n : Nat) {i : Bool} {v : Int} (ho : yO y = RX6) (hd : decode (yC y) pc = .ok (.getfield 207, 3)) (hp : pc + 3 = n) (hv : rd μ 2 i 3 = v) (kk : At y G b n ls (iv v :: st) (Em μ)) : At y G b pc ls (rf G 2 i :: st) (Em μ) := by
  subst hv
  exact gf_X6_207 n ho hd hp kk
theorem dgf_X6_208 (n : Nat) {i : Bool} {v : Int} (ho : yO y = RX6) (hd : decode (yC y) pc = .ok (.getfield 208, 3)) (hp : pc + 3 = n) (hv : rd μ 2 i 2 = v) (kk : At y G b n ls (iv v :: st) (Em μ)) : At y G b pc ls (rf G 2 i :: st) (Em μ) := by
  subst hv
  exact gf_X6_208 n ho hd hp kk
theorem dgf_X7_9 (n : Nat) (ho : yO y = RX7) (hd : decode (yC y) pc = .ok (.getfield 9, 3)) (hp : pc + 3 = n) (kk : At y G b n ls (rf G 42 false :: st) (Em μ)) : At y G b pc ls (rf G 7 false :: st) (Em μ) := gf_X7_9 n ho hd hp kk
theorem dgf_X7_13 (n : Nat) (ho : yO y = RX7) (hd : decode (yC y) pc = .ok (.getfield 13, 3)) (hp : pc + 3 = n) (kk : At y G b n ls (rf G 43 false :: st) (Em μ)) : At y G b pc ls (rf G 7 false :: st) (Em μ) := gf_X7_13 n ho hd hp kk
theorem dgf_X7_17 (n : Nat) (ho : yO y = RX7) (hd : decode (yC y) pc = .ok (.getfield 17, 3)) (hp : pc + 3 = n) (kk : At y G b n ls (rf G 44 false :: st) (Em μ)) : At y G b pc ls (rf G 7 false :: st) (Em μ) := gf_X7_17 n ho hd hp kk
theorem dgf_X7_21 (n : Nat) (ho : yO y = RX7) (hd : decode (yC y) pc = .ok (.getfield 21, 3)) (hp : pc + 3 = n) (kk : At y G b n ls (rf G 45 false :: st) (Em μ)) : At y G b pc ls (rf G 7 false :: st) (Em μ) := gf_X7_21 n ho hd hp kk
theorem dgf_X7_24 (n : Nat) (ho : yO y = RX7) (hd : decode (yC y) pc = .ok (.getfield 24, 3)) (hp : pc + 3 = n) (kk : At y G b n ls (rf G 46 false :: st) (Em μ)) : At y G b pc ls (rf G 7 false :: st) (Em μ) := gf_X7_24 n ho hd hp kk
theorem dgf_X7_27 (n : Nat) (ho : yO y = RX7) (hd : decode (yC y) pc = .ok (.getfield 27, 3)) (hp : pc + 3 = n) (kk : At y G b n ls (rf G 47 false :: st) (Em μ)) : At y G b pc ls (rf G 7 false :: st) (Em μ) := gf_X7_27 n ho hd hp kk
theorem dgf_X7_30 (n : Nat) (ho : yO y = RX7) (hd : decode (yC y) pc = .ok (.getfield 30, 3)) (hp : pc + 3 = n) (kk : At y G b n ls (rf G 48 false :: st) (Em μ)) : At y G b pc ls (rf G 7 false :: st) (Em μ) := gf_X7_30 n ho hd hp kk
theorem dgf_X7_33 (n : Nat) (ho : yO y = RX7) (hd : decode (yC y) pc = .ok (.getfield 33, 3)) (hp : pc + 3 = n) (kk : At y G b n ls (rf G 49 false :: st) (Em μ)) : At y G b pc ls (rf G 7 false :: st) (Em μ) := gf_X7_33 n ho hd hp kk
theorem dgf_X7_36 (n : Nat) (ho : yO y = RX7) (hd : decode (yC y) pc = .ok (.getfield 36, 3)) (hp : pc + 3 = n) (kk : At y G b n ls (rf G 50 false :: st) (Em μ)) : At y G b pc ls (rf G 7 false :: st) (Em μ) := gf_X7_36 n ho hd hp kk
theorem dgf_X7_39 (n : Nat) (ho : yO y = RX7) (hd : decode (yC y) pc = .ok (.getfield 39, 3)) (hp : pc + 3 = n) (kk : At y G b n ls (rf G 51 false :: st) (Em μ)) : At y G b pc ls (rf G 7 false :: st) (Em μ) := gf_X7_39 n ho hd hp kk
theorem dgf_X7_42 (n : Nat) (ho : yO y = RX7) (hd : decode (yC y) pc = .ok (.getfield 42, 3)) (hp : pc + 3 = n) (kk : At y G b n ls (rf G 52 false :: st) (Em μ)) : At y G b pc ls (rf G 7 false :: st) (Em μ) := gf_X7_42 n ho hd hp kk
theorem dgf_X7_45 (n : Nat) (ho : yO y = RX7) (hd : decode (yC y) pc = .ok (.getfield 45, 3)) (hp : pc + 3 = n) (kk : At y G b n ls (rf G 53 false :: st) (Em μ)) : At y G b pc ls (rf G 7 false :: st) (Em μ) := gf_X7_45 n ho hd hp kk
theorem dgf_X7_48 (n : Nat) (ho : yO y = RX7) (hd : decode (yC y) pc = .ok (.getfield 48, 3)) (hp : pc + 3 = n) (kk : At y G b n ls (rf G 54 false :: st) (Em μ)) : At y G b pc ls (rf G 7 false :: st) (Em μ) := gf_X7_48 n ho hd hp kk
theorem dgf_X7_51 (n : Nat) (ho : yO y = RX7) (hd : decode (yC y) pc = .ok (.getfield 51, 3)) (hp : pc + 3 = n) (kk : At y G b n ls (rf G 55 false :: st) (Em μ)) : At y G b pc ls (rf G 7 false :: st) (Em μ) := gf_X7_51 n ho hd hp kk
theorem dgf_X7_54 (n : Nat) (ho : yO y = RX7) (hd : decode (yC y) pc = .ok (.getfield 54, 3)) (hp : pc + 3 = n) (kk : At y G b n ls (rf G 56 false :: st) (Em μ)) : At y G b pc ls (rf G 7 false :: st) (Em μ) := gf_X7_54 n ho hd hp kk
theorem dgf_X7_57 (n : Nat) (ho : yO y = RX7) (hd : decode (yC y) pc = .ok (.getfield 57, 3)) (hp : pc + 3 = n) (kk : At y G b n ls (rf G 57 false :: st) (Em μ)) : At y G b pc ls (rf G 7 false :: st) (Em μ) := gf_X7_57 n ho hd hp kk
theorem dgf_X7_60 (n : Nat) (ho : yO y = RX7) (hd : decode (yC y) pc = .ok (.getfield 60, 3)) (hp : pc + 3 = n) (kk : At y G b n ls (rf G 58 false :: st) (Em μ)) : At y G b pc ls (rf G 7 false :: st) (Em μ) := gf_X7_60 n ho hd hp kk
theorem dgf_X7_63 (n : Nat) (ho : yO y = RX7) (hd : decode (yC y) pc = .ok (.getfield 63, 3)) (hp : pc + 3 = n) (kk : At y G b n ls (rf G 59 false :: st) (Em μ)) : At y G b pc ls (rf G 7 false :: st) (Em μ) := gf_X7_63 n ho hd hp kk
theorem dgf_X7_66 (n : Nat) (ho : yO y = RX7) (hd : decode (yC y) pc = .ok (.getfield 66, 3)) (hp : pc + 3 = n) (kk : At y G b n ls (rf G 60 false :: st) (Em μ)) : At y G b pc ls (rf G 7 false :: st) (Em μ) := gf_X7_66 n ho hd hp kk
theorem dgf_X7_69 (n : Nat) (ho : yO y = RX7) (hd : decode (yC y) pc = .ok (.getfield 69, 3)) (hp : pc + 3 = n) (kk : At y G b n ls (rf G 61 false :: st) (Em μ)) : At y G b pc ls (rf G 7 false :: st) (Em μ) := gf_X7_69 n ho hd hp kk
theorem dgf_X7_72 (n : Nat) (ho : yO y = RX7) (hd : decode (yC y) pc = .ok (.getfield 72, 3)) (hp : pc + 3 = n) (kk : At y G b n ls (rf G 62 false :: st) (Em μ)) : At y G b pc ls (rf G 7 false :: st) (Em μ) := gf_X7_72 n ho hd hp kk
theorem dgf_X7_76 (n : Nat) (ho : yO y = RX7) (hd : decode (yC y) pc = .ok (.getfield 76, 3)) (hp : pc + 3 = n) (kk : At y G b n ls (rf G 63 false :: st) (Em μ)) : At y G b pc ls (rf G 7 false :: st) (Em μ) := gf_X7_76 n ho hd hp kk
theorem dgf_X7_79 (n : Nat) (ho : yO y = RX7) (hd : decode (yC y) pc = .ok (.getfield 79, 3)) (hp : pc + 3 = n) (kk : At y G b n ls (rf G 64 false :: st) (Em μ)) : At y G b pc ls (rf G 7 false :: st) (Em μ) := gf_X7_79 n ho hd hp kk
theorem dgf_X7_82 (n : Nat) (ho : yO y = RX7) (hd : decode (yC y) pc = .ok (.getfield 82, 3)) (hp : pc + 3 = n) (kk : At y G b n ls (rf G 65 false :: st) (Em μ)) : At y G b pc ls (rf G 7 false :: st) (Em μ) := gf_X7_82 n ho hd hp kk
theorem dgf_X7_85 (n : Nat) (ho : yO y = RX7) (hd : decode (yC y) pc = .ok (.getfield 85, 3)) (hp : pc + 3 = n) (kk : At y G b n ls (rf G 66 false :: st) (Em μ)) : At y G b pc ls (rf G 7 false :: st) (Em μ) := gf_X7_85 n ho hd hp kk
theorem dgf_X7_88 (n : Nat) (ho : yO y = RX7) (hd : decode (yC y) pc = .ok (.getfield 88, 3)) (hp : pc + 3 = n) (kk : At y G b n ls (rf G 67 false :: st) (Em μ)) : At y G b pc ls (rf G 7 false :: st) (Em μ) := gf_X7_88 n ho hd hp kk
theorem dgf_X7_91 (n : Nat) (ho : yO y = RX7) (hd : decode (yC y) pc = .ok (.getfield 91, 3)) (hp : pc + 3 = n) (kk : At y G b n ls (rf G 68 false :: st) (Em μ)) : At y G b pc ls (rf G 7 false :: st) (Em μ) := gf_X7_91 n ho hd hp kk
theorem dgf_X7_94 (n : Nat) (ho : yO y = RX7) (hd : decode (yC y) pc = .ok (.getfield 94, 3)) (hp : pc + 3 = n) (kk : At y G b n ls (rf G 69 false :: st) (Em μ)) : At y G b pc ls (rf G 7 false :: st) (Em μ) := gf_X7_94 n ho hd hp kk
theorem dgf_X7_98 (n : Nat) (ho : yO y = RX7) (hd : decode (yC y) pc = .ok (.getfield 98, 3)) (hp : pc + 3 = n) (kk : At y G b n ls (rf G 70 false :: st) (Em μ)) : At y G b pc ls (rf G 7 false :: st) (Em μ) := gf_X7_98 n ho hd hp kk
theorem dgf_X7_101 (n : Nat) (ho : yO y = RX7) (hd : decode (yC y) pc = .ok (.getfield 101, 3)) (hp : pc + 3 = n) (kk : At y G b n ls (rf G 71 false :: st) (Em μ)) : At y G b pc ls (rf G 7 false :: st) (Em μ) := gf_X7_101 n ho hd hp kk
theorem dgf_X7_104 (n : Nat) (ho : yO y = RX7) (hd : decode (yC y) pc = .ok (.getfield 104, 3)) (hp : pc + 3 = n) (kk : At y G b n ls (rf G 72 false :: st) (Em μ)) : At y G b pc ls (rf G 7 false :: st) (Em μ) := gf_X7_104 n ho hd hp kk
theorem dgf_X7_107 (n : Nat) (ho : yO y = RX7) (hd : decode (yC y) pc = .ok (.getfield 107, 3)) (hp : pc + 3 = n) (kk : At y G b n ls (rf G 73 false :: st) (Em μ)) : At y G b pc ls (rf G 7 false :: st) (Em μ) := gf_X7_107 n ho hd hp kk
theorem dgf_X7_110 (n : Nat) (ho : yO y = RX7) (hd : decode (yC y) pc = .ok (.getfield 110, 3)) (hp : pc + 3 = n) (kk : At y G b n ls (rf G 74 false :: st) (Em μ)) : At y G b pc ls (rf G 7 false :: st) (Em μ) := gf_X7_110 n ho hd hp kk
theorem dgf_X7_113 (n : Nat) {v : Int} (ho : yO y = RX7) (hd : decode (yC y) pc = .ok (.getfield 113, 3)) (hp : pc + 3 = n) (hv : rd μ 7 false 1 = v) (kk : At y G b n ls (iv v :: st) (Em μ)) : At y G b pc ls (rf G 7 false :: st) (Em μ) := by
  subst hv
  exact gf_X7_113 n ho hd hp kk
theorem dgf_X7_121 (n : Nat) {v : Int} (ho : yO y = RX7) (hd : decode (yC y) pc = .ok (.getfield 121, 3)) (hp : pc + 3 = n) (hv : rd μ 7 false 2 = v) (kk : At y G b n ls (iv v :: st) (Em μ)) : At y G b pc ls (rf G 7 false :: st) (Em μ) := by
  subst hv
  exact gf_X7_121 n ho hd hp kk
theorem dgf_X7_124 (n : Nat) {v : Int} (ho : yO y = RX7) (hd : decode (yC y) pc = .ok (.getfield 124, 3)) (hp : pc + 3 = n) (hv : rd μ 7 false 4 = v) (kk : At y G b n ls (iv v :: st) (Em μ)) : At y G b pc ls (rf G 7 false :: st) (Em μ) := by
  subst hv
  exact gf_X7_124 n ho hd hp kk
theorem dgf_X7_127 (n : Nat) {v : Int} (ho : yO y = RX7) (hd : decode (yC y) pc = .ok (.getfield 127, 3)) (hp : pc + 3 = n) (hv : rl μ 7 false 5 = v) (kk : At y G b n ls (jv v :: st) (Em μ)) : At y G b pc ls (rf G 7 false :: st) (Em μ) := by
  subst hv
  exact gf_X7_127 n ho hd hp kk
theorem dgf_X7_131 (n : Nat) {v : Int} (ho : yO y = RX7) (hd : decode (yC y) pc = .ok (.getfield 131, 3)) (hp : pc + 3 = n) (hv : rd μ 7 false 3 = v) (kk : At y G b n ls (iv v :: st) (Em μ)) : At y G b pc ls (rf G 7 false :: st) (Em μ) := by
  subst hv
  exact gf_X7_131 n ho hd hp kk
theorem dgf_X7_194 (n : Nat) {v : Int} (ho : yO y = RX7) (hd : decode (yC y) pc = .ok (.getfield 194, 3)) (hp : pc + 3 = n) (hv : rd μ 7 false 35 = v) (kk : At y G b n ls (iv v :: st) (Em μ)) : At y G b pc ls (rf G 7 false :: st) (Em μ) := by
  subst hv
  exact gf_X7_194 n ho hd hp kk
theorem dgf_X7_197 (n : Nat) {v : Int} (ho : yO y = RX7) (hd : decode (yC y) pc = .ok (.getfield 197, 3)) (hp : pc + 3 = n) (hv : rd μ 7 false 6 = v) (kk : At y G b n ls (iv v :: st) (Em μ)) : At y G b pc ls (rf G 7 false :: st) (Em μ) := by
  subst hv
  exact gf_X7_197 n ho hd hp kk
theorem dgf_X7_204 (n : Nat) {v : Int} (ho : yO y = RX7) (hd : decode (yC y) pc = .ok (.getfield 204, 3)) (hp : pc + 3 = n) (hv : rd μ 7 false 9 = v) (kk : At y G b n ls (iv v :: st) (Em μ)) : At y G b pc ls (rf G 7 false :: st) (Em μ) := by
  subst hv
  exact gf_X7_204 n ho hd hp kk
theorem dgf_X7_225 (n : Nat) {v : Int} (ho : yO y = RX7) (hd : decode (yC y) pc = .ok (.getfield 225, 3)) (hp : pc + 3 = n) (hv : rd μ 7 false 13 = v) (kk : At y G b n ls (iv v :: st) (Em μ)) : At y G b pc ls (rf G 7 false :: st) (Em μ) := by
  subst hv
  exact gf_X7_225 n ho hd hp kk
theorem dgf_X7_244 (n : Nat) {v : Int} (ho : yO y = RX7) (hd : decode (yC y) pc = .ok (.getfield 244, 3)) (hp : pc + 3 = n) (hv : rd μ 7 false 15 = v) (kk : At y G b n ls (iv v :: st) (Em μ)) : At y G b pc ls (rf G 7 false :: st) (Em μ) := by
  subst hv
  exact gf_X7_244 n ho hd hp kk
theorem dgf_X7_247 (n : Nat) {v : Int} (ho : yO y = RX7) (hd : decode (yC y) pc = .ok (.getfield 247, 3)) (hp : pc + 3 = n) (hv : rd μ 7 false 17 = v) (kk : At y G b n ls (iv v :: st) (Em μ)) : At y G b pc ls (rf G 7 false :: st) (Em μ) := by
  subst hv
  exact gf_X7_247 n ho hd hp kk
theorem dgf_X7_250 (n : Nat) {v : Int} (ho : yO y = RX7) (hd : decode (yC y) pc = .ok (.getfield 250, 3)) (hp : pc + 3 = n) (hv : rd μ 7 false 20 = v) (kk : At y G b n ls (iv v :: st) (Em μ)) : At y G b pc ls (rf G 7 false :: st) (Em μ) := by
  subst hv
  exact gf_X7_250 n ho hd hp kk
theorem dgf_X7_253 (n : Nat) {v : Int} (ho : yO y = RX7) (hd : decode (yC y) pc = .ok (.getfield 253, 3)) (hp : pc + 3 = n) (hv : rd μ 7 false 32 = v) (kk : At y G b n ls (iv v :: st) (Em μ)) : At y G b pc ls (rf G 7 false :: st) (Em μ) := by
  subst hv
  exact gf_X7_253 n ho hd hp kk
theorem dgf_X7_279 (n : Nat) {v : Int} (ho : yO y = RX7) (hd : decode (yC y) pc = .ok (.getfield 279, 3)) (hp : pc + 3 = n) (hv : rd μ 7 false 36 = v) (kk : At y G b n ls (iv v :: st) (Em μ)) : At y G b pc ls (rf G 7 false :: st) (Em μ) := by
  subst hv
  exact gf_X7_279 n ho hd hp kk
theorem dgf_X7_282 (n : Nat) {v : Int} (ho : yO y = RX7) (hd : decode (yC y) pc = .ok (.getfield 282, 3)) (hp : pc + 3 = n) (hv : rd μ 7 false 37 = v) (kk : At y G b n ls (iv v :: st) (Em μ)) : At y G b pc ls (rf G 7 false :: st) (Em μ) := by
  subst hv
  exact gf_X7_282 n ho hd hp kk
theorem dgf_X7_285 (n : Nat) {v : Int} (ho : yO y = RX7) (hd : decode (yC y) pc = .ok (.getfield 285, 3)) (hp : pc + 3 = n) (hv : rd μ 7 false 40 = v) (kk : At y G b n ls (iv v :: st) (Em μ)) : At y G b pc ls (rf G 7 false :: st) (Em μ) := by
  subst hv
  exact gf_X7_285 n ho hd hp kk
theorem dgf_X7_297 (n : Nat) {v : Int} (ho : yO y = RX7) (hd : decode (yC y) pc = .ok (.getfield 297, 3)) (hp : pc + 3 = n) (hv : rd μ 7 false 44 = v) (kk : At y G b n ls (iv v :: st) (Em μ)) : At y G b pc ls (rf G 7 false :: st) (Em μ) := by
  subst hv
  exact gf_X7_297 n ho hd hp kk
theorem dpf_X0_46 (n : Nat) {i : Bool} {x : Int} (ho : yO y = RX0) (hd : decode (yC y) pc = .ok (.putfield 46, 3)) (hp : pc + 3 = n) (kk : At y G b n ls st (Em (wr μ 0 i 0 x))) : At y G b pc ls (iv x :: rf G 0 i :: st) (Em μ) := pf_X0_46 n ho hd hp (by rw [Em_wr]; exact kk)
theorem dpf_X0_50 (n : Nat) {i : Bool} {x : Int} (ho : yO y = RX0) (hd : decode (yC y) pc = .ok (.putfield 50, 3)) (hp : pc + 3 = n) (kk : At y G b n ls st (Em (wr μ 0 i 1 x))) : At y G b pc ls (iv x :: rf G 0 i :: st) (Em μ) := pf_X0_50 n ho hd hp (by rw [Em_wr]; exact kk)
theorem dpf_X0_53 (n : Nat) {i : Bool} {x : Int} (ho : yO y = RX0) (hd : decode (yC y) pc = .ok (.putfield 53, 3)) (hp : pc + 3 = n) (kk : At y G b n ls st (Em (wr μ 0 i 2 x))) : At y G b pc ls (iv x :: rf G 0 i :: st) (Em μ) := pf_X0_53 n ho hd hp (by rw [Em_wr]; exact kk)
theorem dpf_X2_9 (n : Nat) {i : Bool} {x : Int} (ho : yO y = RX2) (hd : decode (yC y) pc = .ok (.putfield 9, 3)) (hp : pc + 3 = n) (kk : At y G b n ls st (Em (wr μ 2 i 2 x))) : At y G b pc ls (iv x :: rf G 2 i :: st) (Em μ) := pf_X2_9 n ho hd hp (by rw [Em_wr]; exact kk)
theorem dpf_X2_15 (n : Nat) {i : Bool} {x : Int} (hb : isB x) (ho : yO y = RX2) (hd : decode (yC y) pc = .ok (.putfield 15, 3)) (hp : pc + 3 = n) (kk : At y G b n ls st (Em (wr μ 2 i 4 x))) : At y G b pc ls (iv x :: rf G 2 i :: st) (Em μ) := pf_X2_15 n (nz_of hb) (fz_of hb) ho hd hp (by rw [Em_wr]; exact kk)
theorem dpf_X2_39 (n : Nat) {i : Bool} {x : Int} (ho : yO y = RX2) (hd : decode (yC y) pc = .ok (.putfield 39, 3)) (hp : pc + 3 = n) (kk : At y G b n ls st (Em (wr μ 2 i 3 x))) : At y G b pc ls (iv x :: rf G 2 i :: st) (Em μ) := pf_X2_39 n ho hd hp (by rw [Em_wr]; exact kk)
theorem dpf_X2_46 (n : Nat) {i : Bool} {x : Int} (ho : yO y = RX2) (hd : decode (yC y) pc = .ok (.putfield 46, 3)) (hp : pc + 3 = n) (kk : At y G b n ls st (Em (wr μ 2 i 0 x))) : At y G b pc ls (iv x :: rf G 2 i :: st) (Em μ) := pf_X2_46 n ho hd hp (by rw [Em_wr]; exact kk)
theorem dpf_X2_49 (n : Nat) {i : Bool} {x : Int} (ho : yO y = RX2) (hd : decode (yC y) pc = .ok (.putfield 49, 3)) (hp : pc + 3 = n) (kk : At y G b n ls st (Em (wr μ 2 i 1 x))) : At y G b pc ls (iv x :: rf G 2 i :: st) (Em μ) := pf_X2_49 n ho hd hp (by rw [Em_wr]; exact kk)
theorem dpf_X3_34 (n : Nat) {x : Int} (ho : yO y = RX3) (hd : decode (yC y) pc = .ok (.putfield 34, 3)) (hp : pc + 3 = n) (kk : At y G b n ls st (Em (wr μ 3 false 4 x))) : At y G b pc ls (iv x :: rf G 3 false :: st) (Em μ) := pf_X3_34 n ho hd hp (by rw [Em_wr]; exact kk)
theorem dpf_X3_38 (n : Nat) {x : Int} (ho : yO y = RX3) (hd : decode (yC y) pc = .ok (.putfield 38, 3)) (hp : pc + 3 = n) (kk : At y G b n ls st (Em (wr μ 3 false 6 x))) : At y G b pc ls (iv x :: rf G 3 false :: st) (Em μ) := pf_X3_38 n ho hd hp (by rw [Em_wr]; exact kk)
theorem dpf_X3_47 (n : Nat) {x : Int} (ho : yO y = RX3) (hd : decode (yC y) pc = .ok (.putfield 47, 3)) (hp : pc + 3 = n) (kk : At y G b n ls st (Em (wr μ 3 false 7 x))) : At y G b pc ls (iv x :: rf G 3 false :: st) (Em μ) := pf_X3_47 n ho hd hp (by rw [Em_wr]; exact kk)
theorem dpf_X3_54 (n : Nat) {x : Int} (ho : yO y = RX3) (hd : decode (yC y) pc = .ok (.putfield 54, 3)) (hp : pc + 3 = n) (kk : At y G b n ls st (Em (wr μ 3 false 5 x))) : At y G b pc ls (iv x :: rf G 3 false :: st) (Em μ) := pf_X3_54 n ho hd hp (by rw [Em_wr]; exact kk)
theorem dpf_X3_88 (n : Nat) {x : Int} (ho : yO y = RX3) (hd : decode (yC y) pc = .ok (.putfield 88, 3)) (hp : pc + 3 = n) (kk : At y G b n ls st (Em (wl μ 3 false 9 x))) : At y G b pc ls (jv x :: rf G 3 false :: st) (Em μ) := pf_X3_88 n ho hd hp (by rw [Em_wl]; exact kk)
theorem dpf_X3_116 (n : Nat) {x : Int} (ho : yO y = RX3) (hd : decode (yC y) pc = .ok (.putfield 116, 3)) (hp : pc + 3 = n) (kk : At y G b n ls st (Em (wr μ 3 false 8 x))) : At y G b pc ls (iv x :: rf G 3 false :: st) (Em μ) := pf_X3_116 n ho hd hp (by rw [Em_wr]; exact kk)
theorem dpf_X4_47 (n : Nat) {i : Bool} {x : Int} (ho : yO y = RX4) (hd : decode (yC y) pc = .ok (.putfield 47, 3)) (hp : pc + 3 = n) (kk : At y G b n ls st (Em (wr μ 1 i 1 x))) : At y G b pc ls (iv x :: rf G 1 i :: st) (Em μ) := pf_X4_47 n ho hd hp (by rw [Em_wr]; exact kk)
theorem dpf_X4_75 (n : Nat) {i : Bool} {x : Int} (ho : yO y = RX4) (hd : decode (yC y) pc = .ok (.putfield 75, 3)) (hp : pc + 3 = n) (kk : At y G b n ls st (Em (wr μ 1 i 2 x))) : At y G b pc ls (iv x :: rf G 1 i :: st) (Em μ) := pf_X4_75 n ho hd hp (by rw [Em_wr]; exact kk)
theorem dpf_X4_81 (n : Nat) {i : Bool} {x : Int} (ho : yO y = RX4) (hd : decode (yC y) pc = .ok (.putfield 81, 3)) (hp : pc + 3 = n) (kk : At y G b n ls st (Em (wr μ 1 i 3 x))) : At y G b pc ls (iv x :: rf G 1 i :: st) (Em μ) := pf_X4_81 n ho hd hp (by rw [Em_wr]; exact kk)
theorem dpf_X4_84 (n : Nat) {i : Bool} {x : Int} (ho : yO y = RX4) (hd : decode (yC y) pc = .ok (.putfield 84, 3)) (hp : pc + 3 = n) (kk : At y G b n ls st (Em (wr μ 1 i 4 x))) : At y G b pc ls (iv x :: rf G 1 i :: st) (Em μ) := pf_X4_84 n ho hd hp (by rw [Em_wr]; exact kk)
theorem dpf_X4_94 (n : Nat) {i : Bool} {x : Int} (hb : isB x) (ho : yO y = RX4) (hd : decode (yC y) pc = .ok (.putfield 94, 3)) (hp : pc + 3 = n) (kk : At y G b n ls st (Em (wr μ 2 i 4 x))) : At y G b pc ls (iv x :: rf G 2 i :: st) (Em μ) := pf_X4_94 n (nz_of hb) (fz_of hb) ho hd hp (by rw [Em_wr]; exact kk)
theorem dpf_X4_98 (n : Nat) {i : Bool} {x : Int} (ho : yO y = RX4) (hd : decode (yC y) pc = .ok (.putfield 98, 3)) (hp : pc + 3 = n) (kk : At y G b n ls st (Em (wr μ 1 i 0 x))) : At y G b pc ls (iv x :: rf G 1 i :: st) (Em μ) := pf_X4_98 n ho hd hp (by rw [Em_wr]; exact kk)
theorem dpf_X4_121 (n : Nat) {i : Bool} {x : Int} (ho : yO y = RX4) (hd : decode (yC y) pc = .ok (.putfield 121, 3)) (hp : pc + 3 = n) (kk : At y G b n ls st (Em (wr μ 4 i 8 x))) : At y G b pc ls (iv x :: rf G 4 i :: st) (Em μ) := pf_X4_121 n ho hd hp (by rw [Em_wr]; exact kk)
theorem dpf_X4_164 (n : Nat) {i : Bool} {x : Int} (ho : yO y = RX4) (hd : decode (yC y) pc = .ok (.putfield 164, 3)) (hp : pc + 3 = n) (kk : At y G b n ls st (Em (wr μ 4 i 9 x))) : At y G b pc ls (iv x :: rf G 4 i :: st) (Em μ) := pf_X4_164 n ho hd hp (by rw [Em_wr]; exact kk)
theorem dpf_X4_167 (n : Nat) {i : Bool} {x : Int} (ho : yO y = RX4) (hd : decode (yC y) pc = .ok (.putfield 167, 3)) (hp : pc + 3 = n) (kk : At y G b n ls st (Em (wr μ 4 i 10 x))) : At y G b pc ls (iv x :: rf G 4 i :: st) (Em μ) := pf_X4_167 n ho hd hp (by rw [Em_wr]; exact kk)
theorem dpf_X4_170 (n : Nat) {i : Bool} {x : Int} (ho : yO y = RX4) (hd : decode (yC y) pc = .ok (.putfield 170, 3)) (hp : pc + 3 = n) (kk : At y G b n ls st (Em (wr μ 4 i 11 x))) : At y G b pc ls (iv x :: rf G 4 i :: st) (Em μ) := pf_X4_170 n ho hd hp (by rw [Em_wr]; exact kk)
theorem dpf_X4_194 (n : Nat) {i : Bool} {x : Int} (ho : yO y = RX4) (hd : decode (yC y) pc = .ok (.putfield 194, 3)) (hp : pc + 3 = n) (kk : At y G b n ls st (Em (wr μ 4 i 12 x))) : At y G b pc ls (iv x :: rf G 4 i :: st) (Em μ) := pf_X4_194 n ho hd hp (by rw [Em_wr]; exact kk)
theorem dpf_X5_29 (n : Nat) {x : Int} (ho : yO y = RX5) (hd : decode (yC y) pc = .ok (.putfield 29, 3)) (hp : pc + 3 = n) (kk : At y G b n ls st (Em (wr μ 5 false 0 x))) : At y G b pc ls (iv x :: rf G 5 false :: st) (Em μ) := pf_X5_29 n ho hd hp (by rw [Em_wr]; exact kk)
theorem dpf_X6_57 (n : Nat) {x : Int} (ho : yO y = RX6) (hd : decode (yC y) pc = .ok (.putfield 57, 3)) (hp : pc + 3 = n) (kk : At y G b n ls st (Em (wr μ 6 false 1 x))) : At y G b pc ls (iv x :: rf G 6 false :: st) (Em μ) := pf_X6_57 n ho hd hp (by rw [Em_wr]; exact kk)
theorem dpf_X6_79 (n : Nat) {x : Int} (ho : yO y = RX6) (hd : decode (yC y) pc = .ok (.putfield 79, 3)) (hp : pc + 3 = n) (kk : At y G b n ls st (Em (wr μ 5 false 0 x))) : At y G b pc ls (iv x :: rf G 5 false :: st) (Em μ) := pf_X6_79 n ho hd hp (by rw [Em_wr]; exact kk)
theorem dpf_X7_113 (n : Nat) {x : Int} (ho : yO y = RX7) (hd : decode (yC y) pc = .ok (.putfield 113, 3)) (hp : pc + 3 = n) (kk : At y G b n ls st (Em (wr μ 7 false 1 x))) : At y G b pc ls (iv x :: rf G 7 false :: st) (Em μ) := pf_X7_113 n ho hd hp (by rw [Em_wr]; exact kk)
theorem dpf_X7_121 (n : Nat) {x : Int} (ho : yO y = RX7) (hd : decode (yC y) pc = .ok (.putfield 121, 3)) (hp : pc + 3 = n) (kk : At y G b n ls st (Em (wr μ 7 false 2 x))) : At y G b pc ls (iv x :: rf G 7 false :: st) (Em μ) := pf_X7_121 n ho hd hp (by rw [Em_wr]; exact kk)
theorem dpf_X7_124 (n : Nat) {x : Int} (ho : yO y = RX7) (hd : decode (yC y) pc = .ok (.putfield 124, 3)) (hp : pc + 3 = n) (kk : At y G b n ls st (Em (wr μ 7 false 4 x))) : At y G b pc ls (iv x :: rf G 7 false :: st) (Em μ) := pf_X7_124 n ho hd hp (by rw [Em_wr]; exact kk)
theorem dpf_X7_127 (n : Nat) {x : Int} (ho : yO y = RX7) (hd : decode (yC y) pc = .ok (.putfield 127, 3)) (hp : pc + 3 = n) (kk : At y G b n ls st (Em (wl μ 7 false 5 x))) : At y G b pc ls (jv x :: rf G 7 false :: st) (Em μ) := pf_X7_127 n ho hd hp (by rw [Em_wl]; exact kk)
theorem dpf_X7_131 (n : Nat) {x : Int} (ho : yO y = RX7) (hd : decode (yC y) pc = .ok (.putfield 131, 3)) (hp : pc + 3 = n) (kk : At y G b n ls st (Em (wr μ 7 false 3 x))) : At y G b pc ls (iv x :: rf G 7 false :: st) (Em μ) := pf_X7_131 n ho hd hp (by rw [Em_wr]; exact kk)
theorem dpf_X7_194 (n : Nat) {x : Int} (ho : yO y = RX7) (hd : decode (yC y) pc = .ok (.putfield 194, 3)) (hp : pc + 3 = n) (kk : At y G b n ls st (Em (wr μ 7 false 35 x))) : At y G b pc ls (iv x :: rf G 7 false :: st) (Em μ) := pf_X7_194 n ho hd hp (by rw [Em_wr]; exact kk)
theorem dpf_X7_197 (n : Nat) {x : Int} (ho : yO y = RX7) (hd : decode (yC y) pc = .ok (.putfield 197, 3)) (hp : pc + 3 = n) (kk : At y G b n ls st (Em (wr μ 7 false 6 x))) : At y G b pc ls (iv x :: rf G 7 false :: st) (Em μ) := pf_X7_197 n ho hd hp (by rw [Em_wr]; exact kk)
theorem dpf_X7_204 (n : Nat) {x : Int} (ho : yO y = RX7) (hd : decode (yC y) pc = .ok (.putfield 204, 3)) (hp : pc + 3 = n) (kk : At y G b n ls st (Em (wr μ 7 false 9 x))) : At y G b pc ls (iv x :: rf G 7 false :: st) (Em μ) := pf_X7_204 n ho hd hp (by rw [Em_wr]; exact kk)
theorem dpf_X7_225 (n : Nat) {x : Int} (ho : yO y = RX7) (hd : decode (yC y) pc = .ok (.putfield 225, 3)) (hp : pc + 3 = n) (kk : At y G b n ls st (Em (wr μ 7 false 13 x))) : At y G b pc ls (iv x :: rf G 7 false :: st) (Em μ) := pf_X7_225 n ho hd hp (by rw [Em_wr]; exact kk)
theorem dpf_X7_244 (n : Nat) {x : Int} (ho : yO y = RX7) (hd : decode (yC y) pc = .ok (.putfield 244, 3)) (hp : pc + 3 = n) (kk : At y G b n ls st (Em (wr μ 7 false 15 x))) : At y G b pc ls (iv x :: rf G 7 false :: st) (Em μ) := pf_X7_244 n ho hd hp (by rw [Em_wr]; exact kk)
theorem dpf_X7_247 (n : Nat) {x : Int} (ho : yO y = RX7) (hd : decode (yC y) pc = .ok (.putfield 247, 3)) (hp : pc + 3 = n) (kk : At y G b n ls st (Em (wr μ 7 false 17 x))) : At y G b pc ls (iv x :: rf G 7 false :: st) (Em μ) := pf_X7_247 n ho hd hp (by rw [Em_wr]; exact kk)
theorem dpf_X7_250 (n : Nat) {x : Int} (ho : yO y = RX7) (hd : decode (yC y) pc = .ok (.putfield 250, 3)) (hp : pc + 3 = n) (kk : At y G b n ls st (Em (wr μ 7 false 20 x))) : At y G b pc ls (iv x :: rf G 7 false :: st) (Em μ) := pf_X7_250 n ho hd hp (by rw [Em_wr]; exact kk)
theorem dpf_X7_253 (n : Nat) {x : Int} (ho : yO y = RX7) (hd : decode (yC y) pc = .ok (.putfield 253, 3)) (hp : pc + 3 = n) (kk : At y G b n ls st (Em (wr μ 7 false 32 x))) : At y G b pc ls (iv x :: rf G 7 false :: st) (Em μ) := pf_X7_253 n ho hd hp (by rw [Em_wr]; exact kk)
theorem dpf_X7_279 (n : Nat) {x : Int} (ho : yO y = RX7) (hd : decode (yC y) pc = .ok (.putfield 279, 3)) (hp : pc + 3 = n) (kk : At y G b n ls st (Em (wr μ 7 false 36 x))) : At y G b pc ls (iv x :: rf G 7 false :: st) (Em μ) := pf_X7_279 n ho hd hp (by rw [Em_wr]; exact kk)
theorem dpf_X7_282 (n : Nat) {x : Int} (ho : yO y = RX7) (hd : decode (yC y) pc = .ok (.putfield 282, 3)) (hp : pc + 3 = n) (kk : At y G b n ls st (Em (wr μ 7 false 37 x))) : At y G b pc ls (iv x :: rf G 7 false :: st) (Em μ) := pf_X7_282 n ho hd hp (by rw [Em_wr]; exact kk)
theorem dpf_X7_285 (n : Nat) {x : Int} (ho : yO y = RX7) (hd : decode (yC y) pc = .ok (.putfield 285, 3)) (hp : pc + 3 = n) (kk : At y G b n ls st (Em (wr μ 7 false 40 x))) : At y G b pc ls (iv x :: rf G 7 false :: st) (Em μ) := pf_X7_285 n ho hd hp (by rw [Em_wr]; exact kk)
theorem dpf_X7_297 (n : Nat) {x : Int} (ho : yO y = RX7) (hd : decode (yC y) pc = .ok (.putfield 297, 3)) (hp : pc + 3 = n) (kk : At y G b n ls st (Em (wr μ 7 false 44 x))) : At y G b pc ls (iv x :: rf G 7 false :: st) (Em μ) := pf_X7_297 n ho hd hp (by rw [Em_wr]; exact kk)
end DRules
theorem wk_m1 : w32 (-1) = (-1) := by decide
theorem wk_0 : w32 0 = 0 := by decide
theorem wk_1 : w32 1 = 1 := by decide
theorem wk_2 : w32 2 = 2 := by decide
theorem wk_3 : w32 3 = 3 := by decide
theorem wk_4 : w32 4 = 4 := by decide
theorem wk_5 : w32 5 = 5 := by decide
theorem wk_6 : w32 6 = 6 := by decide
theorem wk_7 : w32 7 = 7 := by decide
theorem wk_8 : w32 8 = 8 := by decide
theorem wk_10 : w32 10 = 10 := by decide
theorem wk_12 : w32 12 = 12 := by decide
theorem wk_16 : w32 16 = 16 := by decide
theorem wk_20 : w32 20 = 20 := by decide
theorem wk_24 : w32 24 = 24 := by decide
theorem wk_32 : w32 32 = 32 := by decide
theorem wk_48 : w32 48 = 48 := by decide
theorem wk_57 : w32 57 = 57 := by decide
theorem wk_59 : w32 59 = 59 := by decide
theorem wk_96 : w32 96 = 96 := by decide
theorem wk_97 : w32 97 = 97 := by decide
theorem wk_122 : w32 122 = 122 := by decide
theorem wk_140 : w32 140 = 140 := by decide
theorem wk_256 : w32 256 = 256 := by decide
theorem wk_500 : w32 500 = 500 := by decide
theorem wk_1120 : w32 1120 = 1120 := by decide
theorem wk_65536 : w32 65536 = 65536 := by decide
theorem wk_1000000 : w32 1000000 = 1000000 := by decide
theorem wk_1073741824 : w32 1073741824 = 1073741824 := by decide
theorem ixk_0 : ix 0 = 0 := by decide
theorem ixk_1 : ix 1 = 1 := by decide
theorem bq_m99 : (Int8.ofInt (-99)).toInt32 = Int32.ofInt (-99) := by decide
theorem bq_6 : (Int8.ofInt 6).toInt32 = Int32.ofInt 6 := by decide
theorem bq_7 : (Int8.ofInt 7).toInt32 = Int32.ofInt 7 := by decide
theorem bq_8 : (Int8.ofInt 8).toInt32 = Int32.ofInt 8 := by decide
theorem bq_10 : (Int8.ofInt 10).toInt32 = Int32.ofInt 10 := by decide
theorem bq_12 : (Int8.ofInt 12).toInt32 = Int32.ofInt 12 := by decide
theorem bq_16 : (Int8.ofInt 16).toInt32 = Int32.ofInt 16 := by decide
theorem bq_20 : (Int8.ofInt 20).toInt32 = Int32.ofInt 20 := by decide
theorem bq_23 : (Int8.ofInt 23).toInt32 = Int32.ofInt 23 := by decide
theorem bq_24 : (Int8.ofInt 24).toInt32 = Int32.ofInt 24 := by decide
theorem bq_31 : (Int8.ofInt 31).toInt32 = Int32.ofInt 31 := by decide
theorem bq_32 : (Int8.ofInt 32).toInt32 = Int32.ofInt 32 := by decide
theorem bq_48 : (Int8.ofInt 48).toInt32 = Int32.ofInt 48 := by decide
theorem bq_52 : (Int8.ofInt 52).toInt32 = Int32.ofInt 52 := by decide
theorem bq_57 : (Int8.ofInt 57).toInt32 = Int32.ofInt 57 := by decide
theorem bq_59 : (Int8.ofInt 59).toInt32 = Int32.ofInt 59 := by decide
theorem bq_63 : (Int8.ofInt 63).toInt32 = Int32.ofInt 63 := by decide
theorem bq_95 : (Int8.ofInt 95).toInt32 = Int32.ofInt 95 := by decide
theorem bq_96 : (Int8.ofInt 96).toInt32 = Int32.ofInt 96 := by decide
theorem bq_97 : (Int8.ofInt 97).toInt32 = Int32.ofInt 97 := by decide
theorem bq_99 : (Int8.ofInt 99).toInt32 = Int32.ofInt 99 := by decide
theorem bq_100 : (Int8.ofInt 100).toInt32 = Int32.ofInt 100 := by decide
theorem bq_122 : (Int8.ofInt 122).toInt32 = Int32.ofInt 122 := by decide
theorem sq_m257 : (Int16.ofInt (-257)).toInt32 = Int32.ofInt (-257) := by decide
theorem sq_140 : (Int16.ofInt 140).toInt32 = Int32.ofInt 140 := by decide
theorem sq_200 : (Int16.ofInt 200).toInt32 = Int32.ofInt 200 := by decide
theorem sq_255 : (Int16.ofInt 255).toInt32 = Int32.ofInt 255 := by decide
theorem sq_256 : (Int16.ofInt 256).toInt32 = Int32.ofInt 256 := by decide
theorem sq_300 : (Int16.ofInt 300).toInt32 = Int32.ofInt 300 := by decide
theorem sq_400 : (Int16.ofInt 400).toInt32 = Int32.ofInt 400 := by decide
theorem sq_500 : (Int16.ofInt 500).toInt32 = Int32.ofInt 500 := by decide
theorem sq_1000 : (Int16.ofInt 1000).toInt32 = Int32.ofInt 1000 := by decide
theorem sq_1120 : (Int16.ofInt 1120).toInt32 = Int32.ofInt 1120 := by decide
