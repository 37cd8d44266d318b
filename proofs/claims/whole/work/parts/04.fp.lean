/-! ===== doubles: magnitudes, whole numbers, the functions that class and reference share ===== -/
/-- the magnitude of x is at most 2^(K - 1023) -/
def mg (K : Nat) (x : UInt64) : Prop := x.toNat % 2 ^ 63 ≤ K * 2 ^ 52
theorem mg_mono {K L : Nat} {x : UInt64} (h : mg K x) (hl : K ≤ L) : mg L x := Nat.le_trans h (Nat.mul_le_mul_right _ hl)
theorem mg_n64 {K : Nat} {x : UInt64} (h : mg K x) (hK : K ≤ 2046) : vf_n64 x := by
  unfold vf_n64
  unfold mg at h
  rw [UInt64.le_iff_toNat_le, UInt64.toNat_and]
  rw [show (0x7fffffffffffffff : UInt64).toNat = 2 ^ 63 - 1 by decide +kernel, Nat.and_two_pow_sub_one_eq_mod]
  rw [show (0x7ff0000000000000 : UInt64).toNat = 2047 * 2 ^ 52 by decide +kernel]
  exact Nat.le_trans h (Nat.mul_le_mul_right _ (Nat.le_succ_of_le hK))
theorem mg_fin {K : Nat} {x : UInt64} (h : mg K x) (hK : K ≤ 2046) : ∃ s c q, FP.Core.val64 x = .fin s c q ∧ FP.Core.fits FP.Core.b64 (.fin s c q) ∧ FP.Core.zmag FP.Core.b64 (.fin s c q) = FP.Core.unitsOf FP.Core.b64 (x.toNat % 2 ^ 63) := by
  unfold mg at h
  have h1 : FP.Core.DFin x := FP.Core.fin_of_lt (K := 2047) (by
    have : K * 2 ^ 52 ≤ 2046 * 2 ^ 52 := Nat.mul_le_mul_right _ hK
    omega) (by decide)
  obtain ⟨s, c, q, h2⟩ := h1
  refine ⟨s, c, q, h2, h2 ▸ FP.Core.val64_fits x, ?_⟩
  have := FP.Core.zmag_bits (a := x) (by rw [h2]; exact FP.Core.Datum.noConfusion)
  rw [h2] at this
  exact this
theorem mg_units {K : Nat} {x : UInt64} (h : mg K x) (hK : 1 ≤ K) : FP.Core.unitsOf FP.Core.b64 (x.toNat % 2 ^ 63) ≤ 2 ^ (52 + (K - 1)) := by
  unfold mg at h
  have h1 : FP.Core.unitsOf FP.Core.b64 (x.toNat % 2 ^ 63) ≤ FP.Core.unitsOf FP.Core.b64 (K * FP.Core.b64.tails) := FP.Core.unitsOf_le_iff.mpr (by rw [FP.Core.tails_b64]; exact h)
  rw [FP.Core.unitsOf_start hK, FP.Core.tails_b64, ← Nat.pow_add] at h1
  exact h1
theorem mg_dmul {Ka Kb K : Nat} {a b : UInt64} (ha : mg Ka a) (hb : mg Kb b) (h1 : 1 ≤ Ka) (h2 : 1 ≤ Kb) (h3 : Ka ≤ 2046) (h4 : Kb ≤ 2046) (hK : 1 ≤ K) (h : Ka + Kb ≤ K + 1023) : mg K (FP.dmul a b) := by
  obtain ⟨s, c, q, x1, x2, x3⟩ := mg_fin ha h3
  obtain ⟨t, d, r, y1, y2, y3⟩ := mg_fin hb h4
  obtain ⟨p1, p2, p3⟩ := FP.Core.product_units x2 y2
  have hd : FP.Core.decode FP.Core.b64 (FP.dmul a b).toNat = FP.Core.roundRatio FP.Core.b64 (s != t) (c * d) 1 (q + r) := by
    have e := FP.Core.val64_dmul a b
    rw [x1, y1, p1] at e
    exact e
  have hm := FP.Core.mag_le (m := K * FP.Core.b64.tails) FP.Core.good_b64 hd (by decide) (e0 := 2 * FP.Core.b64.qmin) (by rw [FP.Core.qmin_b64]; decide) p2 (by
    rw [p3, x3, y3, FP.Core.unitsOf_start hK, Nat.mul_one, FP.Core.tails_b64, FP.Core.qmin_b64]
    have e1 : ((-1074 : Int) - 2 * -1074).toNat = 1074 := by decide
    rw [e1, ← Nat.pow_add, ← Nat.pow_add]
    refine Nat.le_trans (Nat.mul_le_mul (mg_units ha h1) (mg_units hb h2)) ?_
    rw [← Nat.pow_add]
    exact Nat.pow_le_pow_right (by decide) (by omega))
  rw [FP.Core.mag_toNat64, FP.Core.tails_b64] at hm
  exact hm
theorem mg_sum {K : Nat} {a b n : UInt64} {y : FP.Core.Datum} (hn : FP.Core.val64 n = FP.Core.round FP.Core.b64 (FP.Core.exactSum (FP.Core.val64 a) y)) (ha : mg K a) (hy : ∃ t d r, y = .fin t d r ∧ FP.Core.fits FP.Core.b64 (.fin t d r) ∧ FP.Core.zmag FP.Core.b64 (.fin t d r) = FP.Core.unitsOf FP.Core.b64 (b.toNat % 2 ^ 63)) (hb : mg K b) (h1 : 1 ≤ K) (h2 : K ≤ 2046) : mg (K + 1) n := by
  obtain ⟨s, c, q, x1, x2, x3⟩ := mg_fin ha h2
  obtain ⟨t, d, r, rfl, y2, y3⟩ := hy
  obtain ⟨sg, v, e, p1, p2, p3⟩ := FP.Core.sum_units x2 y2
  rw [x1, p1] at hn
  have hm := FP.Core.mag_le (m := (K + 1) * FP.Core.b64.tails) (s := sg) (A := v) (B := 1) (e := e) FP.Core.good_b64 hn (by decide) (e0 := FP.Core.b64.qmin) (by omega) p2 (by
    rw [FP.Core.unitsOf_start (by omega), Int.sub_self, Int.toNat_zero, Nat.pow_zero, Nat.mul_one, Nat.mul_one]
    have h5 : FP.Core.inUnits v e FP.Core.b64.qmin ≤ FP.Core.zmag FP.Core.b64 (.fin s c q) + FP.Core.zmag FP.Core.b64 (.fin t d r) := by
      have := congrArg Int.natAbs p3
      rw [FP.Core.natAbs_signed] at this
      rw [this]
      refine Nat.le_trans (Int.natAbs_add_le _ _) ?_
      unfold FP.Core.zval
      rw [FP.Core.natAbs_signed, FP.Core.natAbs_signed]
      exact Nat.le_refl _
    rw [x3, y3] at h5
    have u1 := mg_units ha h1
    have u2 := mg_units hb h1
    rw [FP.Core.tails_b64, ← Nat.pow_add, show 52 + (K + 1 - 1) = (52 + (K - 1)) + 1 by omega, Nat.pow_succ]
    omega)
  rw [FP.Core.mag_toNat64, FP.Core.tails_b64] at hm
  exact hm
theorem mg_dadd {K L : Nat} {a b : UInt64} (ha : mg K a) (hb : mg K b) (h1 : 1 ≤ K) (h2 : K ≤ 2046) (hL : K + 1 ≤ L) : mg L (FP.dadd a b) := by
  obtain ⟨t, d, r, y1, y2, y3⟩ := mg_fin hb h2
  exact mg_mono (mg_sum (b := b) (FP.Core.val64_dadd a b) ha ⟨t, d, r, y1, y2, y3⟩ hb h1 h2) hL
theorem mg_dsub {K L : Nat} {a b : UInt64} (ha : mg K a) (hb : mg K b) (h1 : 1 ≤ K) (h2 : K ≤ 2046) (hL : K + 1 ≤ L) : mg L (FP.dsub a b) := by
  obtain ⟨t, d, r, y1, y2, y3⟩ := mg_fin hb h2
  exact mg_mono (mg_sum (b := b) (FP.Core.val64_dsub a b) ha ⟨!t, d, r, by rw [y1]; rfl, y2, y3⟩ hb h1 h2) hL
theorem mg_dneg {K : Nat} {a : UInt64} (h : mg K a) : mg K (FP.dneg a) := by
  unfold mg at h ⊢
  unfold FP.dneg
  rw [UInt64.toNat_xor, show (0x8000000000000000 : UInt64).toNat = 2 ^ 63 by decide +kernel, Nat.xor_mod_two_pow]
  simpa using h
theorem mg_i2d (v : Int32) : mg 1056 (FP.i2d v) := Nat.le_of_lt (FP.Core.i2d_mag v)
theorem mg_ddiv (a : Int32) {b : Int32} (hb : b ≠ 0) : mg 1057 (FP.ddiv (FP.i2d a) (FP.i2d b)) := by
  have h1 := FP.Core.i2d_big (v := b) (FP.Core.int32_ne hb)
  exact Nat.le_of_lt (FP.Core.ddiv_mag (K := 1056) (L := 1023) (FP.Core.i2d_mag a) h1.1 h1.2 (by decide) (by decide))
theorem mg_0 : mg 1 FP.dconst0 := Nat.le_of_ble_eq_true (by decide +kernel)
theorem mg_1 : mg 1023 FP.dconst1 := Nat.le_of_ble_eq_true (by decide +kernel)
/-- 0.875, 1.125 and 1000.0 -/
def k875 : UInt64 := 4606056518893174784
def k1125 : UInt64 := 4607745368753438720
def k1000 : UInt64 := 4652007308841189376
theorem mg_875 : mg 1023 k875 := Nat.le_of_ble_eq_true (by decide +kernel)
theorem mg_1125 : mg 1024 k1125 := Nat.le_of_ble_eq_true (by decide +kernel)
theorem mg_1000 : mg 1033 k1000 := Nat.le_of_ble_eq_true (by decide +kernel)
/-- the size of a number, as both write it -/
def szF (x : UInt64) : UInt64 := if 0 ≤ Op.cmpValue (FP.dcmp x FP.dconst0) CmpOp.g then x else FP.dneg x
theorem mg_szF {K : Nat} {x : UInt64} (h : mg K x) : mg K (szF x) := by
  unfold szF
  split
  · exact h
  · exact mg_dneg h
/-- whole numbers add as they should -/
theorem i2d_add {a b : Nat} (h : a + b < 2 ^ 31) : FP.dadd (FP.i2d (nI a)) (FP.i2d (nI b)) = FP.i2d (nI (a + b)) := by
  have e : ∀ n : Nat, n < 2 ^ 31 → FP.i2d (nI n) = FP.l2d (lN n) := fun n hn => (FP.Core.i2d_l2d (nI n)).trans (congrArg FP.l2d (nI_l hn))
  have sm : ∀ n : Nat, n < 2 ^ 31 → FP.Core.Small53 (lN n) := fun n hn => by
    unfold FP.Core.Small53
    rw [lN_toInt hn]
    omega
  rw [e a (by omega), e b (by omega), e (a + b) h]
  exact (FP.Core.dadd_l2d (sm a (by omega)) (sm b (by omega))).trans (congrArg FP.l2d (lN_add a b))
theorem i2d_0 : FP.i2d (nI 0) = FP.dconst0 := by decide +kernel
/-- the distance of the values v to a class of weights w and means u, over the first n features -/
def dsF (w u : Nat → UInt64) (v : Nat → Nat) : Nat → UInt64
  | 0 => FP.dconst0
  | f + 1 => FP.dadd (dsF w u v f) (FP.dmul (w f) (szF (FP.dsub (FP.i2d (nI (v f))) (u f))))
theorem dsF_congr {w u w' u' : Nat → UInt64} {v v' : Nat → Nat} : ∀ {n : Nat}, (∀ f, f < n → w f = w' f ∧ u f = u' f ∧ v f = v' f) → dsF w u v n = dsF w' u' v' n
  | 0, _ => rfl
  | n + 1, h => by
    obtain ⟨h1, h2, h3⟩ := h n (Nat.lt_succ_self n)
    rw [dsF, dsF, dsF_congr (fun f hf => h f (Nat.lt_succ_of_lt hf)), h1, h2, h3]
/-- one feature's part of a distance -/
def dtF (w u : UInt64) (v : Nat) : UInt64 := FP.dmul w (szF (FP.dsub (FP.i2d (nI v)) u))
theorem mg_df {u : UInt64} (v : Nat) (hu : mg 1057 u) : mg 1058 (FP.dsub (FP.i2d (nI v)) u) := mg_dsub (mg_mono (mg_i2d _) (by decide)) hu (by decide) (by decide) (by decide)
theorem mg_dt {K : Nat} {w u : UInt64} {v : Nat} (hw : mg K w) (hu : mg 1057 u) (h1 : 1023 ≤ K) (h2 : K ≤ 1900) : mg (K + 35) (FP.dmul w (szF (FP.dsub (FP.i2d (nI v)) u))) :=
  mg_dmul hw (mg_szF (mg_df v hu)) (by omega) (by decide) (by omega) (by decide) (by omega) (by omega)
theorem mg_ds {K : Nat} {w u : Nat → UInt64} {v : Nat → Nat} (h1 : 1023 ≤ K) (h2 : K ≤ 1900) : ∀ {n : Nat}, n ≤ 16 → (∀ f, f < n → mg K (w f) ∧ mg 1057 (u f)) → mg (K + 35 + n) (dsF w u v n)
  | 0, _, _ => mg_mono mg_0 (by omega)
  | n + 1, hn, h => by
    have hq := h n (Nat.lt_succ_self n)
    exact mg_dadd (mg_ds h1 h2 (by omega) (fun f hf => h f (Nat.lt_succ_of_lt hf))) (mg_mono (mg_dt hq.1 hq.2 h1 h2) (by omega)) (by omega) (by omega) (by omega)
/-- a is above b -/
def gtF (a b : UInt64) : Prop := ¬ Op.cmpValue (FP.dcmp a b) CmpOp.l ≤ 0
theorem gtF_anti {a b : UInt64} (h : gtF a b) : ¬ gtF b a := by
  have key : ∀ x y : UInt64, gtF x y → FP.dcmp x y = some .gt := by
    intro x y hxy
    unfold gtF at hxy
    cases hc : FP.dcmp x y with
    | none => rw [hc] at hxy; exact absurd (by decide) hxy
    | some o => cases o with
      | gt => rfl
      | lt => rw [hc] at hxy; exact absurd (by decide) hxy
      | eq => rw [hc] at hxy; exact absurd (by decide) hxy
  intro h2
  have e1 := key _ _ h
  have e2 := key _ _ h2
  have n1 := FP.Core.dcmp_notNaN e1
  have na := (FP.Core.notNaN_iff a).mp n1.1
  have nb := (FP.Core.notNaN_iff b).mp n1.2
  have k1 := (FP.Core.dcmp_gt_key na nb).mp e1
  have k2 := (FP.Core.dcmp_gt_key nb na).mp e2
  omega
/-- the nearest class among the first n: has says which there are, dd their distances, but which is left out -/
def nrF (has : Nat → Bool) (dd : Nat → UInt64) (but : Int32) : Nat → Int32 × UInt64
  | 0 => (-1, FP.dconst0)
  | c + 1 => if has c = true ∧ ¬ nI c = but ∧ ((nrF has dd but c).1 = -1 ∨ ¬ 0 ≤ Op.cmpValue (FP.dcmp (dd c) (nrF has dd but c).2) CmpOp.g) then (nI c, dd c) else nrF has dd but c
