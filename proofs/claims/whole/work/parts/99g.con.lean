/-! constructors: a point of a walk over an open list of cells -/
def tyC (cs : Nat → ClassId) : List (ClassId × FieldType) := [(cs 0, .int), (cs 1, .int), (cs 2, .boolean), (cs 3, .byte), (cs 4, .long)]
abbrev Kx : Type := va_G × (Nat → ClassId) × Nat × Nat
def nw1 : Cond := .methodLinkNest RX6 15 yX0_init RX6
def nw2 : Cond := .methodLinkNest RX6 37 yX2_init RX6
def nw3 : Cond := .methodLinkNest RX4 13 yX1_init RX6
def Kz (X : Kx) (U : State) : Prop := va_K X.1 vwCl (tyC X.2.1) U ∧ va_Nw nw1 U ∧ va_Nw nw2 U ∧ va_Nw nw3 U
theorem Kz.warm {X : Kx} {s U : State} (hW : s.WarmedH U.vm) (h : Kz X s) : Kz X U := ⟨va_K.moved hW.alike h.1, va_Nw.warmM hW h.2.1, va_Nw.warmM hW h.2.2.1, va_Nw.warmM hW h.2.2.2⟩
theorem Kz.same {X : Kx} {s U : State} (hv : s.vm = U.vm) (h : Kz X s) : Kz X U := ⟨va_K.moved (by rw [hv]; exact Vm.Alike.refl _) h.1, va_Nw.same rfl hv h.2.1, va_Nw.same rfl hv h.2.2.1, va_Nw.same rfl hv h.2.2.2⟩
def Gk (y : Yd) (X : Kx) (b : Ab) : Prop :=
  b.1.tables.exec = Jvm.exec ∧ (bC b).code = yC y ∧ (bC b).maxLocals = yL y ∧ (bS b).vm.findClass (yO y) = some (bM b).cls ∧ (∀ w ∈ WT, w.before (bX b) (bS b) = true) ∧ Kz X (bS b) ∧ (∀ q, (bS b).heap.size ≤ q → bA b q) ∧ (bT b).locks = false ∧ (bT b).name = "<init>" ∧ yF y ≤ (bR b).frames ∧ yW y ≤ (bR b).locals ∧ (bR b).cells = X.2.2.1 ∧ (bR b).slots = X.2.2.2
def Ck (y : Yd) (X : Kx) (b : Ab) (pc : Nat) (ls : List (Option Value)) (st : List Value) (ws : va_W) (k n : Nat) : Prop :=
  Gk y X b → ∀ (H : Heap) (locs : List Loc) (la : Array Slot), va_P X.1 vwCl ws H → va_D (bA b) ws → va_S (bA b) (bS b).heap H locs → Lc la (yL y) ls → W b.1 b.2.1 b.2.2.1 (bR b) (bS b) (bM b) (bX b) (bW b) (bT b) (bC b) H locs k n (bQ b) (F0 (bM b) pc la st)
def Pk (X : Kx) (w0 : va_W) (sz : Nat) : State → Prop := fun U => U.heap.size = sz ∧ va_P X.1 vwCl w0 U.heap ∧ Kz X U ∧ va_D (fun _ => True) w0
def Qk (X : Kx) (w0 : va_W) (w1 : (Nat → Nat) → va_W) (sz : Nat) : Array Value → State → Outcome → State → Prop := va_Qv (fun _ : Nat → Nat => True) (fun q t => va_P X.1 vwCl (w1 q) t.heap ∧ va_D (va_A w0 sz) (w1 q)) (va_A w0 sz)
def Con (y : Yd) (X : Kx) (av : List Value) (w0 : va_W) (w1 : (Nat → Nat) → va_W) : Prop := ∀ (l : Launch) (sz : Nat), Met l (yN y) (yWs y) { frames := yF y, cells := X.2.2.1, slots := X.2.2.2, locals := yW y } (va_Pc av (Pk X w0 sz)) (Qk X w0 w1 sz) X.2.2.1 X.2.2.2 (va_A w0 sz)
def Ek (X : Kx) (b : Ab) (w0 : va_W) (w1 : (Nat → Nat) → va_W) : Prop := bQ b = MQ (bW b) (Qk X w0 w1 (bS b).heap.size) (bX b) (bS b) X.2.2.1 X.2.2.2 (va_A w0 (bS b).heap.size) ∧ bA b = va_A w0 (bS b).heap.size ∧ (bT b).sig.returnType = none
theorem Con.of {y : Yd} {X : Kx} {w0 : va_W} {w1 : (Nat → Nat) → va_W} {av : List Value} {ls0 : List (Option Value)} (hpl : plainName (yN y).cls = true) (hown : yO y = (yN y).cls) (hnm : (yN y).name = "<init>") (hrt : yT y = none) (hc : ∀ v ∈ av, v.category = 1) (hn : av.length ≤ yL y) (hls : av.map some ++ List.replicate (yL y - av.length) none = ls0) (h : ∀ b : Ab, Ek X b w0 w1 → Ck y X b 0 ls0 [] w0 0 0) : Con y X av w0 w1 := by
  intro l sz
  refine Met.ofW (cc := yC y) (maxL := yL y) (ret := yT y) hpl rfl ?_
  intro p e s m args below meth c s₁ B hml hv
  obtain ⟨rfl, hsz, hP, hK, hD⟩ := hv
  subst hsz
  have hts := atoms_spec (ws := yWs y) B.pre
  have ho : s.vm.findClass (yO y) = some m.cls := by rw [hown]; exact findClass_of_methodNamed B.named
  have hin : meth.name = "<init>" := (name_of_methodNamed B.named B.method).1.trans hnm
  rw [lg_entry_eq]
  exact h (p, l, e, { frames := yF y, cells := X.2.2.1, slots := X.2.2.2, locals := yW y }, s, m, av.toArray, below, meth, c, (0, 0), MQ below (Qk X w0 w1 s.heap.size) av.toArray s X.2.2.1 X.2.2.2 (va_A w0 s.heap.size), va_A w0 s.heap.size) ⟨rfl, rfl, B.returns.trans hrt⟩ ⟨B.exec, B.bytes, hml, ho, fun w hw => hts w (List.mem_cons_of_mem _ hw), hK, fun q hq => Or.inr hq, B.notSynchronized, hin, Nat.le_refl _, Nat.le_refl _, rfl, rfl⟩ s.heap [] _ hP hD.self va_S.rf (Lc_entry hc hn hls)
section Cks
variable {y : Yd} {X : Kx} {b : Ab} {pc : Nat} {ls : List (Option Value)} {st : List Value} {ws : va_W} {k n : Nat}
theorem k9_ald (n' : Nat) {j : _root_.Fin 4} {i a : Nat} (hl : ls[i]? = some (some (.ref a))) (hj : (j : Nat) = i) (hd : decode (yC y) pc = .ok (.aload_n j, 1)) (hp : pc + 1 = n') (kk : Ck y X b n' ls (.ref a :: st) ws k n) : Ck y X b pc ls st ws k n := by
  subst hp
  exact fun g H locs la hP hD hS hL => lv_aload_n g.1 g.2.1 hd hj (hL.2.2 i _ hl) (kk g H locs la hP hD hS hL)
theorem k9_iconst (n' : Nat) {z : Int} {v : Int32} (hd : decode (yC y) pc = .ok (.iconst z, 1)) (hv : Int32.ofInt z = v) (hp : pc + 1 = n') (kk : Ck y X b n' ls (.int v :: st) ws k n) : Ck y X b pc ls st ws k n := by
  subst hp
  exact fun g H locs la hP hD hS hL => lv_iconst g.1 g.2.1 hd hv (kk g H locs la hP hD hS hL)
theorem k9_bipush (n' : Nat) {z : Int} {v : Int32} (hd : decode (yC y) pc = .ok (.bipush z, 2)) (hv : (Int8.ofInt z).toInt32 = v) (hp : pc + 2 = n') (kk : Ck y X b n' ls (.int v :: st) ws k n) : Ck y X b pc ls st ws k n := by
  subst hp
  exact fun g H locs la hP hD hS hL => lv_bipush g.1 g.2.1 hd hv (kk g H locs la hP hD hS hL)
theorem k9_sipush (n' : Nat) {z : Int} {v : Int32} (hd : decode (yC y) pc = .ok (.sipush z, 3)) (hv : (Int16.ofInt z).toInt32 = v) (hp : pc + 3 = n') (kk : Ck y X b n' ls (.int v :: st) ws k n) : Ck y X b pc ls st ws k n := by
  subst hp
  exact fun g H locs la hP hD hS hL => lv_sipush g.1 g.2.1 hd hv (kk g H locs la hP hD hS hL)
theorem k9_ldc (n' : Nat) {own : String} {ix : Nat} {v : Int32} (ho : yO y = own) (hw : Cond.constant own ix v ∈ WT) (hd : decode (yC y) pc = .ok (.ldc ix, 2)) (hp : pc + 2 = n') (kk : Ck y X b n' ls (.int v :: st) ws k n) : Ck y X b pc ls st ws k n := by
  subst hp; subst ho
  exact fun g H locs la hP hD hS hL => lv_ldc g.1 g.2.1 g.2.2.2.1 (g.2.2.2.2.1 _ hw) hd (kk g H locs la hP hD hS hL)
theorem k9_dup (n' : Nat) {v : Value} (hd : decode (yC y) pc = .ok (.dup, 1)) (hc : v.category = 1) (hp : pc + 1 = n') (kk : Ck y X b n' ls (v :: v :: st) ws k n) : Ck y X b pc ls (v :: st) ws k n := by
  subst hp
  exact fun g H locs la hP hD hS hL => lv_dup g.1 g.2.1 hd hc (kk g H locs la hP hD hS hL)
theorem k9_ast1 (n' : Nat) {a0 a1 : Option Value} {a : Nat} (hd : decode (yC y) pc = .ok (.astore_n 1, 1)) (hn : yL y = 2) (ho : okp [a0, a1] 1 = true) (hp : pc + 1 = n') (kk : Ck y X b n' [a0, some (.ref a)] st ws k n) : Ck y X b pc [a0, a1] (.ref a :: st) ws k n := by
  subst hp
  intro g H locs la hP hD hS hL
  exact lv_astore_n g.1 g.2.1 hd rfl hL.has (by rw [hn]; decide) rfl (fun la2 h2 => kk g H locs la2 hP hD hS (Lc.store1 ho h2))
theorem k9_obj (n' : Nat) {own : String} {ix a : Nat} (ho : yO y = own) (hw : Cond.methodLink own ix objectInit ∈ WT) (hi : Cond.instanceMethod objectInit ∈ WT) (hc : Cond.code objectInit ⟨#[0xb1]⟩ 1 none ∈ WT) (hR : 1 ≤ yF y ∧ 12 ≤ yW y) (hd : decode (yC y) pc = .ok (.invokespecial ix, 3)) (hp : pc + 3 = n') (kk : Ck y X b n' ls [] ws k n) : Ck y X b pc ls [.ref a] ws k n := by
  subst hp; subst ho
  intro g H locs la hP hD hS hL
  have hts := g.2.2.2.2.1
  have hr := g.2.2.2.2.2.2.2.2.2
  refine W.objInit g.1 g.2.1 g.2.2.2.1 (hts _ hw) (hts _ hi) (hts _ hc) (g := F0 (bM b) pc la [.ref a]) (rest := []) (a := a) rfl (by rw [g.2.2.1]; exact hL.1) rfl hd (Nat.le_trans hR.1 hr.1) (Nat.le_trans hR.2 hr.2.1) ?_
  exact kk g H locs la hP hD hS hL
theorem k9_uq {U : State} {a c : ClassId} {ty : FieldType} (h1 : va_RA U a ty) (h2 : va_RA U c ty) : a = c := by
  cases ty with
  | object C =>
    obtain ⟨_, _, _, _, _, e1⟩ := h1
    obtain ⟨_, _, _, _, _, e2⟩ := h2
    exact Option.some.inj (e1.symm.trans e2)
  | _ => exact Option.some.inj (Eq.trans (Eq.symm h1) h2)
theorem k9_newa (n' : Nat) {atype : ArrayType} {ty : FieldType} {kd N' : Nat} {z : Int32} {a0 : vp_A} (hkd : (tyC X.2.1)[kd]? = some (X.2.1 kd, ty)) (hw : Cond.arrayClass (newarray.typeOf atype) ∈ WT) (hty : newarray.typeOf atype = ty) (ha : ∀ cA : ClassId, vp_cell cA a0 = arrV cA N' (fun _ => defaultValue ty)) (hz : ¬ z < 0) (hN : z.toNatClampNeg = N') (hbytes : N' * componentBytes ty ≤ 536870912) (hc : k + 1 ≤ X.2.2.1) (hs : n + N' ≤ X.2.2.2) (hd : decode (yC y) pc = .ok (.newarray atype, 2)) (hp : pc + 2 = n')
    (kk : ∀ q : Nat, Ck y X b n' ls (.ref q :: st) (ws ++ [(q, .inl (X.2.1 kd, a0))]) (k + 1) (n + N')) : Ck y X b pc ls (.int z :: st) ws k n := by
  subst hp
  intro g H locs la hP hD hS hL
  have hr := g.2.2.2.2.2.2.2.2.2.2.2
  refine va_newa g.1 g.2.1 (g.2.2.2.2.1 _ hw) hty g.2.2.2.2.2.1.1 hP hD hS g.2.2.2.2.2.2.1 ha hz hN hbytes (by rw [hr.1]; exact hc) (by rw [hr.2]; exact hs) hd (fun q cA H1 hK1 hP1 hD1 hS1 => ?_)
  have e : cA = X.2.1 kd := k9_uq (hK1.2 5 (cA, ty) rfl).2 (g.2.2.2.2.2.1.1.2 kd _ hkd).2
  subst e
  exact kk q g H1 locs la hP1 hD1 hS1 hL
theorem k9_new (n' : Nat) {own C : String} {T : u_T} {N ci ix : Nat} {fs : List Value} (ho : yO y = own) (hin : ∀ w ∈ u_ws C T N, w ∈ WT) (ty : Nat → FieldType) (hty : ∀ k, k < N → parseFieldDescriptor (T k).2.2.1 = some (ty k)) (hcl : Cond.classLink own ix C ∈ WT) (hinst : Cond.instantiable C N ∈ WT) (hini : Cond.initialized C ∈ WT) (hc : vwCl[ci]? = some (C, T, N)) (hfs : ∀ j, j < N → defaultValue (ty j) = vp_V fs j) (h1 : k + 1 ≤ X.2.2.1) (h2 : n + N ≤ X.2.2.2) (hd : decode (yC y) pc = .ok (.new ix, 3)) (hp : pc + 3 = n')
    (kk : ∀ q : Nat, Ck y X b n' ls (.ref q :: st) (ws ++ [(q, .inr (ci, fs))]) (k + 1) (n + N)) : Ck y X b pc ls st ws k n := by
  subst hp; subst ho
  intro g H locs la hP hD hS hL
  have hts := g.2.2.2.2.1
  have hr := g.2.2.2.2.2.2.2.2.2.2.2
  exact va_new g.1 g.2.1 hts hin ty hty g.2.2.2.1 (hts _ hcl) (hts _ hinst) (hts _ hini) g.2.2.2.2.2.1.1 hP hD hS g.2.2.2.2.2.2.1 hc hfs (by rw [hr.1]; exact h1) (by rw [hr.2]; exact h2) hd (fun q H1 hP1 hD1 hS1 => kk q g H1 locs la hP1 hD1 hS1 hL)
theorem k9_put (n' : Nat) {own C : String} {T : u_T} {N ci ix a : Nat} {fs : List Value} {v : Value} {ty : FieldType} (q0 j : Nat) (ho : yO y = own) (hC : C = own) (hin : ∀ w ∈ u_ws C T N, w ∈ WT) (ty0 : Nat → FieldType) (hty : ∀ k, k < N → parseFieldDescriptor (T k).2.2.1 = some (ty0 k)) (hnm : ∀ a, a < N → ∀ b, b < N → a ≠ b → (T a).2.1 ≠ (T b).2.1) (hc : vwCl[ci]? = some (C, T, N)) (hj : j < N) (hT : (T j).1 = own) (hl : Cond.fieldLink own ix (T j).1 (T j).2.1 (T j).2.2.1 ∈ WT) (hpd : parseFieldDescriptor (T j).2.2.1 = some ty) (hn : narrow ty v = v) (hfit : fits ty v = true) (he : ws[q0]? = some (a, .inr (ci, fs))) (hlen : j < fs.length) (hd : decode (yC y) pc = .ok (.putfield ix, 3)) (hp : pc + 3 = n') (kk : Ck y X b n' ls st (ws.set q0 (a, .inr (ci, fs.set j v))) k n) : Ck y X b pc ls (v :: .ref a :: st) ws k n := by
  subst hp; subst ho
  intro g H locs la hP hD hS hL
  have hts := g.2.2.2.2.1
  cases hf : (T j).2.2.2 with
  | false => exact va_put g.1 g.2.1 hts hin ty0 hty hnm g.2.2.2.1 g.2.2.2.2.2.1.1 hP hD hS q0 he hc j hj (hts _ hl) (fun _ h9 => h9) hf hpd hn hfit hlen hd (fun H1 locs1 hP1 hD1 hS1 => kk g H1 locs1 la hP1 hD1 hS1 hL)
  | true => exact va_putF g.1 g.2.1 hts hin ty0 hty hnm g.2.2.2.1 g.2.2.2.2.2.1.1 hP hD hS q0 he hc j hj (hts _ hl) (fun _ h9 => h9) hf g.2.2.2.2.2.2.2.2.1 hT hpd hn hfit hlen hd (fun H1 locs1 hP1 hD1 hS1 => kk g H1 locs1 la hP1 hD1 hS1 hL)
theorem k9_get (n' : Nat) {own C : String} {T : u_T} {N ci ix a : Nat} {fs : List Value} {v : Value} (q0 j : Nat) (ho : yO y = own) (hin : ∀ w ∈ u_ws C T N, w ∈ WT) (hc : vwCl[ci]? = some (C, T, N)) (hj : j < N) (hl : Cond.fieldLink own ix (T j).1 (T j).2.1 (T j).2.2.1 ∈ WT) (he : ws[q0]? = some (a, .inr (ci, fs))) (hv : fs[j]? = some v) (hd : decode (yC y) pc = .ok (.getfield ix, 3)) (hp : pc + 3 = n') (kk : Ck y X b n' ls (v :: st) ws k n) : Ck y X b pc ls (.ref a :: st) ws k n := by
  subst hp; subst ho
  intro g H locs la hP hD hS hL
  exact va_get g.1 g.2.1 g.2.2.2.2.1 hin g.2.2.2.1 g.2.2.2.2.2.1.1 hP q0 he hc j hj (g.2.2.2.2.1 _ hl) (fun _ h9 => h9) hv hd (kk g H locs la hP hD hS hL)
theorem k9_ret {w0 : va_W} {w1 : (Nat → Nat) → va_W} (hE : Ek X b w0 w1) (q : Nat → Nat) (is : List Nat) (hn : va_nd is = true) (hs : is.map (fun i => ws[i]?) = (w1 q).map some) (h1 : k = X.2.2.1) (h2 : n = X.2.2.2) (hd : decode (yC y) pc = .ok (.return_, 1)) : Ck y X b pc ls [] ws k n := by
  subst h1; subst h2
  intro g H locs la hP hD hS hL
  obtain ⟨hQ, hA, hR⟩ := hE
  rw [hA] at hS hD
  have hs2 : is.filterMap (fun i => ws[i]?) = w1 q := by
    have e : is.filterMap (fun i => ws[i]?) = (is.map (fun i => ws[i]?)).filterMap id := by rw [List.filterMap_map]; rfl
    rw [e, hs, List.filterMap_map]
    exact List.filterMap_some
  have hP2 := hP.sub is hs2
  have hD2 := hD.sub is hn hs
  show W _ _ _ _ _ _ _ _ _ _ H locs _ _ (bQ b) _
  rw [hQ]
  exact W.vret g.1 g.2.1 hR (fun t ht hW => ⟨⟨q, rfl, trivial, by rw [ht]; exact hP2, hD2⟩, hS.F ht⟩) hS.2.2 hd g.2.2.2.2.2.2.2.1
theorem k9_call (n' : Nat) {z : Yd} {own : String} {ix a mc ms : Nat} {As rest : List Value} {wc wr : va_W} {w1 : (Nat → Nat) → va_W} (isC isR : List Nat) (ho : yO y = own)
    (cw : (Cond.methodLink own ix (yN z) ∈ WT) ∨ (∃ host, ∀ U, Kz X U → va_Nw (.methodLinkNest own ix (yN z) host) U)) (ci : Cond.instanceMethod (yN z) ∈ WT) (cn : Cond.initialized (yN z).cls ∈ WT) (cc : Cond.code (yN z) (yC z) (yL z) (yT z) ∈ WT) (cd : dsc (yN z) As.length) (hnm : (yN z).name = "<init>") (hrt : yT z = none) (hR : yF z + 1 ≤ yF y ∧ 8 + (yL z + 11) + yW z ≤ yW y)
    (hz : Con z (X.1, X.2.1, mc, ms) (.ref a :: As) wc w1) (hroom : (rest.map fun v => v.category).sum ≤ 8)
    (hC : isC.map (fun i => ws[i]?) = wc.map some) (hCn : va_nd isC = true) (hRr : isR.map (fun i => ws[i]?) = wr.map some) (hn : va_nd isR = true) (hdis : ∀ i ∈ isR, i ∉ isC) (h1 : k + mc ≤ X.2.2.1) (h2 : n + ms ≤ X.2.2.2)
    (hd : decode (yC y) pc = .ok (.invokespecial ix, 3)) (hp : pc + 3 = n') (kk : ∀ q : Nat → Nat, Ck y X b n' ls rest (wr ++ w1 q) (k + mc) (n + ms)) : Ck y X b pc ls (As.reverse ++ .ref a :: rest) ws k n := by
  subst hp; subst ho
  intro g H locs la hP hD hS hL
  have hts := g.2.2.2.2.1
  have hr := g.2.2.2.2.2.2.2.2.2
  have hA := g.2.2.2.2.2.2.1
  have hs2 : isC.filterMap (fun i => ws[i]?) = wc := by
    have e : isC.filterMap (fun i => ws[i]?) = (isC.map (fun i => ws[i]?)).filterMap id := by rw [List.filterMap_map]; rfl
    rw [e, hC, List.filterMap_map]
    exact List.filterMap_some
  have hPc := hP.sub isC hs2
  have hDc := hD.sub isC hCn hC
  have hFc := va_free (wc := wc) hD hS hA isC hC
  have hcl : k + mc ≤ (bR b).cells ∧ n + ms ≤ (bR b).slots := ⟨by rw [hr.2.2.1]; exact h1, by rw [hr.2.2.2]; exact h2⟩
  have hfl : yF z + 1 ≤ (bR b).frames ∧ 8 + (yL z + 11) + yW z ≤ (bR b).locals := ⟨Nat.le_trans hR.1 hr.1, Nat.le_trans hR.2 hr.2.1⟩
  have hpre : PreS (bS b) H (va_Pc (.ref a :: As) (Pk (X.1, X.2.1, mc, ms) wc H.size)) (.ref a :: As) := ⟨fun a U g mk q => ⟨q.1, q.2.1, q.2.2.1, Kz.same (s := U) (U := U.calling g mk a) rfl q.2.2.2.1, q.2.2.2.2⟩, fun U hU hW => ⟨rfl, by rw [hU], by rw [hU]; exact hPc, Kz.warm (X := (X.1, X.2.1, mc, ms)) hW g.2.2.2.2.2.1, hDc.weaken (fun _ _ _ _ => trivial)⟩⟩
  have hrun : va_Run b.1 b.2.1 b.2.2.1 (bR b) (bS b) (bM b) (bX b) (bW b) (bT b) (bC b) H locs k n mc ms (F0 (bM b) pc la (As.reverse ++ .ref a :: rest)) rest (Qk (X.1, X.2.1, mc, ms) wc w1 H.size (Value.ref a :: As).toArray) (va_A wc H.size) := by
    have hcode := cc
    rw [hrt] at hcode
    have hws : yWs z = Cond.code (yN z) (yC z) (yL z) none :: WT := by show Cond.code _ _ _ (yT z) :: WT = _; rw [hrt]
    rcases cw with cw | ⟨host, cw⟩
    · exact va_runI (Ts := WT) ⟨g.1, g.2.1, g.2.2.1, g.2.2.2.1, hts⟩ (hz b.2.1 H.size) (cwI As.length hts (ws_good cc) hws rfl rfl (hts _ cn) (hts _ cw) (hts _ ci) hnm cd hfl) hpre rfl rfl hL.1 rfl (lv_room hroom) hd hcl
    · exact va_runIN (Ts := WT) ⟨g.1, g.2.1, g.2.2.1, g.2.2.2.1, hts⟩ (hz b.2.1 H.size) ⟨va_cnB As.length hts (ws_good cc) hws rfl rfl (cw _ g.2.2.2.2.2.1) (hts _ cn) cd hfl, hnm, hts _ ci⟩ hpre rfl rfl hL.1 rfl (lv_room hroom) hd hcl
  refine va_callv hrun hS (fun q _ h => hFc q h) hFc (fun u t H1 locs1 ht hvm _ hB hz1 hk1 hS1 => ?_)
  obtain ⟨hP1, hD1⟩ := hB
  rw [ht] at hP1
  obtain ⟨hP2, hD2⟩ := va_join (wr := wr) (w1 := w1 u) hP hD isC isR hC hRr hn hdis hk1 hFc hP1 hD1
  exact kk u g H1 locs1 la hP2 hD2 hS1 hL
end Cks
