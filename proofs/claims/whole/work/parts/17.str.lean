section StrM
variable {y : Yd} {G : Cx} {b : Ab} {pc : Nat} {ls : List (Option Value)} {st : List Value} {σ : Mm} {μ : Mi}
theorem dt_lookIn (tgt : Nat) {dflt : Int} {ps : Array (Int × Int)} {len : Nat} {x v : Int} {off : Int} (hd : decode (yC y) pc = .ok (.lookupswitch dflt ps, len)) {a : Int} (c : a = v) (hv : w32 v = v) (ha : w32 x = a) (hp : (ps.toList.zip (ps.toList.drop 1)).all (fun (a, next) => a.1 < next.1) = true) (ho : Op.lookupswitch.offset ps.toList dflt v = off) (ht : (pc : Int) + off = (tgt : Int)) (k : At y G b tgt ls st σ) : At y G b pc ls (iv x :: st) σ := by
  have e : (Int32.ofInt x).toInt = v := ha.trans c
  exact fun g H locs la hP hS hL => lv_lookup g.1 g.2.1 hd hp (by rw [e]; exact ho) ht (k g H locs la hP hS hL)
theorem dt_lookOut (tgt : Nat) {dflt : Int} {ps : Array (Int × Int)} {len : Nat} {x : Int} (hd : decode (yC y) pc = .ok (.lookupswitch dflt ps, len)) (hp : (ps.toList.zip (ps.toList.drop 1)).all (fun (a, next) => a.1 < next.1) = true) (ho : Op.lookupswitch.offset ps.toList dflt (w32 x) = dflt) (ht : (pc : Int) + dflt = (tgt : Int)) (k : At y G b tgt ls st σ) : At y G b pc ls (iv x :: st) σ :=
  fun g H locs la hP hS hL => lv_lookup g.1 g.2.1 hd hp ho ht (k g H locs la hP hS hL)
def CcW (own : String) (ix : Nat) : Prop := Cond.methodLink own ix arraycopyName ∈ WT ∧ Cond.native arraycopyName ∈ WT ∧ Cond.static arraycopyName ∈ WT ∧ Cond.initialized "java/lang/System" ∈ WT
theorem cwc_X0_56 : CcW RX0 56 := ⟨wt_at 524 (by decide +kernel) (by decide +kernel), wt_at 526 (by decide +kernel) (by decide +kernel), wt_at 525 (by decide +kernel) (by decide +kernel), wt_at 14 (by decide +kernel) (by decide +kernel)⟩
theorem Em_cpy (μ : Mi) (r n : Nat) (f : Nat → Int32) (hf : f = gI (Em (cpy μ r n)) r false) (k : Nat) (hq : cls0[k]? = some (r, false)) (h0 : ¬ arK r = 0) (h4 : ¬ arK r = 4) : (wW G (Em μ)).set k (G.1 r false, .inl (G.2.2.1 (arK r), (arN r, .inl f))) = wW G (Em (cpy μ r n)) := by
  rw [← wW_set (σ := Em μ) (τ := Em (cpy μ r n)) hq (fun r' i' h => funext fun j => ?_) (fun _ _ _ => rfl), en_arr h0 h4, hf]
  show Int32.ofInt (rd (cpy μ r n) r' i' j) = Int32.ofInt (rd μ r' i' j)
  rw [rd_cpy, if_neg (fun z => h ⟨z.1, z.2.1⟩)]
theorem dcpy {own : String} {ix0 r N K : Nat} {nn : Int} (n : Nat) (ho : yO y = own) (cw : CcW own ix0) (hK : arK r = K) (hK2 : K = 1 ∨ K = 2) (hok : okC r true = true) (hok2 : okC r false = true) (hN : arN r = N) (hn : Int32.ofInt nn = Int32.ofNat N) (hN3 : N < 1000) (hR : 1 ≤ yF y ∧ nativeFrameWords "java/lang/System" "arraycopy" 5 + 11 ≤ yW y) (hb : K = 2 → ∀ j, j < N → isB (rd μ r true j)) (hd : decode (yC y) pc = .ok (.invokestatic ix0, 3)) (hp : pc + 3 = n) (k : At y G b n ls [] (Em (cpy μ r N))) : At y G b pc ls [iv nn, iv 0, rf G r false, iv 0, rf G r true] (Em μ) := by
  subst hp; subst ho; subst hN
  intro g H locs la hP hS hL
  obtain ⟨q0, hq0, he0⟩ := arr_at (G := G) (σ := Em μ) hok (by omega) (by omega)
  obtain ⟨q1, hq1, he1⟩ := arr_at (G := G) (σ := Em μ) hok2 (by omega) (by omega)
  have hts := g.2.2.2.2.1
  have hlo := g.2.2.2.2.2.2.2.2.2.2
  have z0 : (Int32.ofInt 0).toNatClampNeg = 0 := by decide
  have zn : (Int32.ofInt nn).toNatClampNeg = arN r := by
    rw [hn]
    exact Int32.toNatClampNeg_ofNat_of_lt (by omega)
  have zp : ¬ Int32.ofInt nn < 0 := by
    rw [hn, Int32.lt_iff_toInt_lt, Int32.toInt_ofNat_of_lt (by omega)]
    have : (0 : Int32).toInt = 0 := by decide
    omega
  have hset : ∀ f : Nat → Int32, f = gI (Em (cpy μ r (arN r))) r false → (wW G (Em μ)).set q1 (G.1 r false, .inl (G.2.2.1 (arK r), (arN r, .inl f))) = wW G (Em (cpy μ r (arN r))) := fun f hf => Em_cpy μ r (arN r) f hf q1 hq1 (by omega) (by omega)
  have hcp : va_cpy (gI (Em μ) r true) (gI (Em μ) r false) (Int32.ofInt 0).toNatClampNeg (Int32.ofInt 0).toNatClampNeg (Int32.ofInt nn).toNatClampNeg = gI (Em (cpy μ r (arN r))) r false := by
    funext j
    rw [va_cpy, z0, zn]
    show _ = Int32.ofInt (rd (cpy μ r (arN r)) r false j)
    rw [rd_cpy]
    by_cases h : j < arN r
    · rw [if_pos ⟨Nat.zero_le _, by omega⟩, if_pos ⟨rfl, rfl, h⟩, Nat.zero_add, Nat.sub_zero]; rfl
    · rw [if_neg (by omega), if_neg (fun z => h z.2.2)]; rfl
  have kk : ∀ (H1 : Heap) (locs1 : List Loc), va_P G.2.1 vwCl ((wW G (Em μ)).set q1 (G.1 r false, .inl (G.2.2.1 (arK r), (arN r, .inl (va_cpy (gI (Em μ) r true) (gI (Em μ) r false) (Int32.ofInt 0).toNatClampNeg (Int32.ofInt 0).toNatClampNeg (Int32.ofInt nn).toNatClampNeg))))) H1 → va_S (bA b) (bS b).heap H1 locs1 → Wb b H1 locs1 (F0 (bM b) (pc + 3) la []) := by
    intro H1 locs1 hP1 hS1
    rw [hset _ hcp] at hP1
    exact k g H1 locs1 la hP1 hS1 hL
  have hD := wW_D (σ := Em μ) g.2.2.2.2.2.2.1 g.2.2.2.2.2.2.2.1
  have hfr : (([] : List Value).map fun v => v.category).sum + (nativeFrameWords "java/lang/System" "arraycopy" 5 + 11) ≤ (bR b).locals := by
    have := Nat.le_trans hR.2 hlo.2.1
    simpa using this
  rcases hK2 with e | e
  · rw [hK, e] at he0 he1 kk
    exact va_copyi g.1 g.2.1 (by rw [g.2.2.1, hL.1]) g.2.2.2.1 (hts _ cw.1) (hts _ cw.2.1) (hts _ cw.2.2.1) (hts _ cw.2.2.2) g.2.2.2.2.2.1 hP hD hS q0 q1 1 1 he0 he1 (ty := .int) rfl rfl rfl (by decide) (by decide) zp (by rw [z0, zn]; omega) (by rw [z0, zn]; omega) (fun i hi => rfl) (Nat.le_trans hR.1 hlo.1) hfr hd (fun H1 locs1 hP1 _ hS1 => kk H1 locs1 hP1 hS1)
  · rw [hK, e] at he0 he1 kk
    refine va_copyi g.1 g.2.1 (by rw [g.2.2.1, hL.1]) g.2.2.2.1 (hts _ cw.1) (hts _ cw.2.1) (hts _ cw.2.2.1) (hts _ cw.2.2.2) g.2.2.2.2.2.1 hP hD hS q0 q1 2 2 he0 he1 (ty := .boolean) rfl rfl rfl (by decide) (by decide) zp (by rw [z0, zn]; omega) (by rw [z0, zn]; omega) (fun i hi => ?_) (Nat.le_trans hR.1 hlo.1) hfr hd (fun H1 locs1 hP1 _ hS1 => kk H1 locs1 hP1 hS1)
    rw [z0, Nat.zero_add]
    rw [zn] at hi
    exact fz_of (hb e i hi)
theorem flJ_9 : Cond.fieldLink RJ0 9 "java/lang/String" "value" "[B" ∈ WT := wt_at 1333 (by decide +kernel) (by decide +kernel)
theorem flJ_15 : Cond.fieldLink RJ0 15 "java/lang/String" "coder" "B" ∈ WT := wt_at 1334 (by decide +kernel) (by decide +kernel)
theorem flJ_38 : Cond.fieldLink RJ0 38 "java/lang/String" "COMPACT_STRINGS" "Z" ∈ WT := wt_at 403 (by decide +kernel) (by decide +kernel)
theorem flJ_1053 : Cond.fieldLink RJ0 1053 "jdk/internal/util/Preconditions" "SIOOBE_FORMATTER" "Ljava/util/function/BiFunction;" ∈ WT := wt_at 419 (by decide +kernel) (by decide +kernel)
theorem st_gs38 (n : Nat) (ho : yO y = RJ0) (hd : decode (yC y) pc = .ok (.getstatic 38, 3)) (hp : pc + 3 = n) (k : At y G b n ls (iv 1 :: st) σ) : At y G b pc ls st σ := by
  subst hp
  intro g H locs la hP hS hL
  have hs := g.2.2.2.2.2.2.2.2.1
  exact va_gets g.1 g.2.1 hs.2.1.1 hS (ho ▸ g.2.2.2.1) (g.2.2.2.2.1 _ flJ_38) (fun _ q => q) hd (k g H locs la hP hS hL)
theorem st_gs1053 (n : Nat) (ho : yO y = RJ0) (hd : decode (yC y) pc = .ok (.getstatic 1053, 3)) (hp : pc + 3 = n) (k : ∀ v : Value, v.category = 1 → At y G b n ls (v :: st) σ) : At y G b pc ls st σ := by
  subst hp
  intro g H locs la hP hS hL
  have hs := g.2.2.2.2.2.2.2.2.1
  rcases hs.2.1.2 with h | ⟨t, h⟩
  · exact va_gets g.1 g.2.1 h hS (ho ▸ g.2.2.2.1) (g.2.2.2.2.1 _ flJ_1053) (fun _ q => q) hd (k .null rfl g H locs la hP hS hL)
  · exact va_gets g.1 g.2.1 h hS (ho ▸ g.2.2.2.1) (g.2.2.2.2.1 _ flJ_1053) (fun _ q => q) hd (k (.ref t) rfl g H locs la hP hS hL)
theorem st_gf9 (n : Nat) {q : Nat} (hq : q < 14) (ho : yO y = RJ0) (hd : decode (yC y) pc = .ok (.getfield 9, 3)) (hp : pc + 3 = n) (k : At y G b n ls (.ref (G.2.2.2.2 q) :: st) σ) : At y G b pc ls (sf G q :: st) σ := by
  subst hp
  intro g H locs la hP hS hL
  have hs := g.2.2.2.2.2.2.2.2.1
  exact vk_getf g.1 g.2.1 (hs.1 q hq).2.2.1 hS (ho ▸ g.2.2.2.1) (g.2.2.2.2.1 _ flJ_9) (fun _ q => q) hd (k g H locs la hP hS hL)
theorem st_gf15 (n : Nat) {q : Nat} (hq : q < 14) (ho : yO y = RJ0) (hd : decode (yC y) pc = .ok (.getfield 15, 3)) (hp : pc + 3 = n) (k : At y G b n ls (iv 0 :: st) σ) : At y G b pc ls (sf G q :: st) σ := by
  subst hp
  intro g H locs la hP hS hL
  have hs := g.2.2.2.2.2.2.2.2.1
  exact vk_getf g.1 g.2.1 (hs.1 q hq).2.1 hS (ho ▸ g.2.2.2.1) (g.2.2.2.2.1 _ flJ_15) (fun _ q => q) hd (k g H locs la hP hS hL)
theorem st_len : ∀ k, k < 14 → Int32.ofNat (stN k) = Int32.ofInt (sN k) ∧ ishr (sN k) 0 = sN k ∧ stN k = (stT.getD k []).length ∧ w32 (sN k) = sN k := by decide +kernel
theorem st_tlen (n : Nat) {q : Nat} (hq : q < 14) (hd : decode (yC y) pc = .ok (.arraylength, 1)) (hp : pc + 1 = n) (k : At y G b n ls (iv (sN q) :: st) σ) : At y G b pc ls (.ref (G.2.2.2.2 q) :: st) σ := by
  subst hp
  intro g H locs la hP hS hL
  have hs := g.2.2.2.2.2.2.2.2.1
  exact va_tlen g.1 g.2.1 (hs.1 q hq).2.2.2 hS (st_len q hq).1 hd (k g H locs la hP hS hL)
theorem st_tb (n : Nat) {q : Nat} {x : Int} (hq : q < 14) (hx : 0 ≤ w32 x ∧ w32 x < sN q) (hd : decode (yC y) pc = .ok (.baload, 1)) (hp : pc + 1 = n) (k : At y G b n ls (.int ((stB q).getD (ix x) 0) :: st) σ) : At y G b pc ls (iv x :: .ref (G.2.2.2.2 q) :: st) σ := by
  subst hp
  intro g H locs la hP hS hL
  have hs := g.2.2.2.2.2.2.2.2.1
  have e : (stN q : Int) = sN q := by rw [(st_len q hq).2.2.1]; rfl
  exact va_tb g.1 g.2.1 (hs.1 q hq).2.2.2 hS (vin_of e hx) rfl hd (k g H locs la hP hS hL)
end StrM
theorem ch_ok : ∀ k, k < 14 → ∀ j, j < (stT.getD k []).length → (((((stB k).getD j 0) &&& (255 : Int32))).toUInt32 % 65536).toInt32 = Int32.ofInt (sC k j) ∧ vp_nar .char (Int32.ofInt (sC k j)) = Int32.ofInt (sC k j) := by decide +kernel
theorem nar_c (x : Int32) : narrow .char (.int x) = .int (vp_nar .char x) := rfl
theorem S_J3c {G : Cx} {μ : Mi} {x n : Int} {v : Value} (hv : v.category = 1) (h : 0 ≤ w32 x ∧ w32 x < w32 n) : Spec yd_J3_checkIndex_8e157 G [iv x, iv n, v] (Em μ) (some (iv x)) (Em μ) := by
  refine Spec.of (by decide) rfl (fun w hw => ?_) (Nat.le_of_ble_eq_true rfl) rfl (fun b hF => ?_)
  · simp only [List.mem_cons, List.not_mem_nil, or_false] at hw
    rcases hw with rfl | rfl | rfl
    · rfl
    · rfl
    · exact hv
  refine dild_3_0 1 dJ3_checkIndex_8e157_0 rfl ?_
  refine dt_if_lt 4 9 dJ3_checkIndex_8e157_1 rfl (by decide) rfl (fun c => ?_) (fun c => ?_)
  · omega
  refine dild_3_0 5 dJ3_checkIndex_8e157_4 rfl ?_
  refine dild_3_1 6 dJ3_checkIndex_8e157_5 rfl ?_
  refine dt_icmp_lt 9 16 dJ3_checkIndex_8e157_6 rfl (by decide) rfl rfl (fun c => ?_) (fun c => ?_)
  · refine dild_3_0 17 dJ3_checkIndex_8e157_16 rfl ?_
    exact dr_ip hF rfl dJ3_checkIndex_8e157_17 rfl
  · omega
theorem S_J0ci {G : Cx} {μ : Mi} {x n : Int} (h : 0 ≤ w32 x ∧ w32 x < w32 n) : Spec yd_J0_checkIndex_df160 G [iv x, iv n] (Em μ) none (Em μ) := by
  refine Spec.of (by decide) rfl (catL_ok rfl) (Nat.le_of_ble_eq_true rfl) rfl (fun b hF => ?_)
  refine dild_2_0 1 dJ0_checkIndex_df160_0 rfl ?_
  refine dild_2_1 2 dJ0_checkIndex_df160_1 rfl ?_
  refine st_gs1053 5 rfl dJ0_checkIndex_df160_2 rfl (fun v hv => ?_)
  refine csi_3 8 cw_J0_1059 (S_J3c hv h) rfl ⟨by decide, by decide⟩ (Nat.le_of_ble_eq_true rfl) dJ0_checkIndex_df160_5 rfl ?_
  refine st_pop 9 dJ0_checkIndex_df160_8 rfl rfl ?_
  exact dr_v hF rfl dJ0_checkIndex_df160_9 rfl
theorem S_J1c {G : Cx} {μ : Mi} {k : Nat} {x : Int} (hk : k < 14) (h : 0 ≤ w32 x ∧ w32 x < sN k) : Spec yd_J1_charAt_3b067 G [.ref (G.2.2.2.2 k), iv x] (Em μ) (some (iv (sC k (ix x)))) (Em μ) := by
  refine Spec.of (by decide) rfl (catL_ok rfl) (Nat.le_of_ble_eq_true rfl) rfl (fun b hF => ?_)
  refine dild_2_1 1 dJ1_charAt_3b067_0 rfl ?_
  refine ald_2_0 2 rfl dJ1_charAt_3b067_1 rfl ?_
  refine st_tlen 3 hk dJ1_charAt_3b067_2 rfl ?_
  refine csv_2 6 cw_J1_9 (S_J0ci (by rw [(st_len k hk).2.2.2]; exact h)) rfl ⟨by decide, by decide⟩ (Nat.le_of_ble_eq_true rfl) dJ1_charAt_3b067_3 rfl ?_
  refine ald_2_0 7 rfl dJ1_charAt_3b067_6 rfl ?_
  refine dild_2_1 8 dJ1_charAt_3b067_7 rfl ?_
  refine st_tb 9 hk h dJ1_charAt_3b067_8 rfl ?_
  refine st_sipush (v := 255) 12 dJ1_charAt_3b067_9 (by decide) rfl ?_
  refine st_iand 13 dJ1_charAt_3b067_12 rfl ?_
  refine st_i2c 14 dJ1_charAt_3b067_13 rfl ?_
  have hl : ix x < (stT.getD k []).length := by
    have : (w32 x).toNat < (stT.getD k []).length := by
      have h2 : w32 x < ((stT.getD k []).length : Int) := h.2
      omega
    exact this
  have hc := ch_ok k hk (ix x) hl
  rw [hc.1]
  exact rt_z hF rfl (by rw [nar_c, hc.2]) dJ1_charAt_3b067_14 rfl rfl
theorem S_J0l {G : Cx} {μ : Mi} {k : Nat} (hk : k < 14) : Spec yd_J0_isLatin1_aae02 G [sf G k] (Em μ) (some (iv 1)) (Em μ) := by
  refine Spec.of (by decide) rfl (catL_ok rfl) (Nat.le_of_ble_eq_true rfl) rfl (fun b hF => ?_)
  refine st_gs38 3 rfl dJ0_isLatin1_aae02_0 rfl ?_
  refine dt_if_eq 6 17 dJ0_isLatin1_aae02_3 rfl (by decide) wk_1 (fun c => absurd c (by decide)) (fun c => ?_)
  refine ald_1_0 7 rfl dJ0_isLatin1_aae02_6 rfl ?_
  refine st_gf15 10 hk rfl dJ0_isLatin1_aae02_7 rfl ?_
  refine dt_if_ne 13 17 dJ0_isLatin1_aae02_10 rfl (by decide) wk_0 (fun c => absurd c (by decide)) (fun c => ?_)
  refine dt_iconst 14 dJ0_isLatin1_aae02_13 rfl ?_
  refine st_goto 18 dJ0_isLatin1_aae02_14 (by decide) ?_
  exact dr_zp hF rfl isB_1 dJ0_isLatin1_aae02_18 rfl
theorem S_J0d {G : Cx} {μ : Mi} {k : Nat} (hk : k < 14) : Spec yd_J0_coder_7d493 G [sf G k] (Em μ) (some (iv 0)) (Em μ) := by
  refine Spec.of (by decide) rfl (catL_ok rfl) (Nat.le_of_ble_eq_true rfl) rfl (fun b hF => ?_)
  refine st_gs38 3 rfl dJ0_coder_7d493_0 rfl ?_
  refine dt_if_eq 6 13 dJ0_coder_7d493_3 rfl (by decide) wk_1 (fun c => absurd c (by decide)) (fun c => ?_)
  refine ald_1_0 7 rfl dJ0_coder_7d493_6 rfl ?_
  refine st_gf15 10 hk rfl dJ0_coder_7d493_7 rfl ?_
  refine st_goto 14 dJ0_coder_7d493_10 (by decide) ?_
  exact rt_z hF rfl (by decide) dJ0_coder_7d493_14 rfl rfl
theorem S_strlen {G : Cx} {μ : Mi} {k : Nat} (hk : k < 14) : Spec yd_J0_length_8abf5 G [sf G k] (Em μ) (some (iv (sN k))) (Em μ) := by
  refine Spec.of (by decide) rfl (catL_ok rfl) (Nat.le_of_ble_eq_true rfl) rfl (fun b hF => ?_)
  refine ald_1_0 1 rfl dJ0_length_8abf5_0 rfl ?_
  refine st_gf9 4 hk rfl dJ0_length_8abf5_1 rfl ?_
  refine st_tlen 5 hk dJ0_length_8abf5_4 rfl ?_
  refine ald_1_0 6 rfl dJ0_length_8abf5_5 rfl ?_
  refine cti_0 9 cw_J0_335 (S_J0d hk) hk rfl ⟨by decide, by decide⟩ rfl (Nat.le_of_ble_eq_true rfl) dJ0_length_8abf5_6 rfl ?_
  refine dt_ishr 10 dJ0_length_8abf5_9 rfl ?_
  rw [(st_len k hk).2.1]
  exact dr_ip hF rfl dJ0_length_8abf5_10 rfl
theorem S_charAt {G : Cx} {μ : Mi} {k : Nat} {x : Int} (hk : k < 14) (h : 0 ≤ w32 x ∧ w32 x < sN k) : Spec yd_J0_charAt_5068e G [sf G k, iv x] (Em μ) (some (iv (sC k (ix x)))) (Em μ) := by
  refine Spec.of (by decide) rfl (catL_ok rfl) (Nat.le_of_ble_eq_true rfl) rfl (fun b hF => ?_)
  refine ald_2_0 1 rfl dJ0_charAt_5068e_0 rfl ?_
  refine cti_0 4 cw_J0_492 (S_J0l hk) hk rfl ⟨by decide, by decide⟩ rfl (Nat.le_of_ble_eq_true rfl) dJ0_charAt_5068e_1 rfl ?_
  refine dt_if_eq 7 16 dJ0_charAt_5068e_4 rfl (by decide) wk_1 (fun c => absurd c (by decide)) (fun c => ?_)
  refine ald_2_0 8 rfl dJ0_charAt_5068e_7 rfl ?_
  refine st_gf9 11 hk rfl dJ0_charAt_5068e_8 rfl ?_
  refine dild_2_1 12 dJ0_charAt_5068e_11 rfl ?_
  refine csi_2 15 cw_J0_495 (S_J1c hk h) rfl ⟨by decide, by decide⟩ (Nat.le_of_ble_eq_true rfl) dJ0_charAt_5068e_12 rfl ?_
  have hl : ix x < (stT.getD k []).length := by
    have : (w32 x).toNat < (stT.getD k []).length := by
      have h2 : w32 x < ((stT.getD k []).length : Int) := h.2
      omega
    exact this
  have hc := ch_ok k hk (ix x) hl
  exact rt_z hF rfl (by rw [nar_c, hc.2]) dJ0_charAt_5068e_15 rfl rfl
section MathM
variable {y : Yd} {G : Cx} {b : Ab} {pc : Nat} {ls : List (Option Value)} {st : List Value} {σ : Mm}
theorem dmmax (n : Nat) {own : String} {ix : Nat} {x x2 : Int} (ho : yO y = own) (cw : CsW own ix yd_J9_max_7cf53 2) (hR : 1 ≤ yF y ∧ 21 ≤ yW y) (hroom : (st.map fun v => v.category).sum ≤ 8) (hd : decode (yC y) pc = .ok (.invokestatic ix, 3)) (hp : pc + 3 = n) (k : At y G b n ls (iv (D_J9_max_7cf53 x x2) :: st) σ) : At y G b pc ls (iv x2 :: iv x :: st) σ := by
  subst hp; subst ho
  intro g H locs la hP hS hL
  have hts := g.2.2.2.2.1
  have hlo := g.2.2.2.2.2.2.2.2.2.2
  refine va_mmax g.1 g.2.1 (by rw [g.2.2.1, hL.1]) g.2.2.2.1 (hts _ cw.1) (hts _ cw.2.1) (hts _ cw.2.2.1) (hts _ cw.2.2.2.1) (Nat.le_trans hR.1 hlo.1) (Nat.le_trans (Nat.add_le_add_right hroom 13) (Nat.le_trans hR.2 hlo.2.1)) hlo.2.2.1 hlo.2.2.2 hd ?_
  have e : iv (D_J9_max_7cf53 x x2) = .int (if Int32.ofInt x < Int32.ofInt x2 then Int32.ofInt x2 else Int32.ofInt x) := by
    unfold D_J9_max_7cf53
    by_cases h : w32 x < w32 x2
    · rw [if_pos h, if_pos ((c_lt rfl rfl).mpr h)]; rfl
    · rw [if_neg h, if_neg (fun q => h ((c_lt rfl rfl).mp q))]; rfl
  rw [← e]
  exact k g H locs la hP hS hL
theorem dmmin (n : Nat) {own : String} {ix : Nat} {x x2 : Int} (ho : yO y = own) (cw : CsW own ix yd_J9_min_7cf53 2) (hR : 1 ≤ yF y ∧ 21 ≤ yW y) (hroom : (st.map fun v => v.category).sum ≤ 8) (hd : decode (yC y) pc = .ok (.invokestatic ix, 3)) (hp : pc + 3 = n) (k : At y G b n ls (iv (D_J9_min_7cf53 x x2) :: st) σ) : At y G b pc ls (iv x2 :: iv x :: st) σ := by
  subst hp; subst ho
  intro g H locs la hP hS hL
  have hts := g.2.2.2.2.1
  have hlo := g.2.2.2.2.2.2.2.2.2.2
  refine va_mmin g.1 g.2.1 (by rw [g.2.2.1, hL.1]) g.2.2.2.1 (hts _ cw.1) (hts _ cw.2.1) (hts _ cw.2.2.1) (hts _ cw.2.2.2.1) (Nat.le_trans hR.1 hlo.1) (Nat.le_trans (Nat.add_le_add_right hroom 13) (Nat.le_trans hR.2 hlo.2.1)) hlo.2.2.1 hlo.2.2.2 hd ?_
  have e : iv (D_J9_min_7cf53 x x2) = .int (if Int32.ofInt x2 < Int32.ofInt x then Int32.ofInt x2 else Int32.ofInt x) := by
    unfold D_J9_min_7cf53
    by_cases h : w32 x2 < w32 x
    · rw [if_pos h, if_pos ((c_lt rfl rfl).mpr h)]; rfl
    · rw [if_neg h, if_neg (fun q => h ((c_lt rfl rfl).mp q))]; rfl
  rw [← e]
  exact k g H locs la hP hS hL
end MathM
theorem S_J9_floorDiv_7cf53 {G : Cx} {μ : Mi} {x0 x1 r : Int} (h : D_J9_floorDiv_7cf53 x0 x1 = some r) : Spec yd_J9_floorDiv_7cf53 G [iv x0, iv x1] (Em μ) (some (iv r)) (Em μ) := S_J9_fdiv h
