/-! ===== what the class's writing methods do, as folds over its rows ===== -/
/-- the first j places of row i become z -/
def zrow {α : Type} (g : Nat → Nat → α) (i : Nat) (z : α) : Nat → Nat → Nat → α
  | 0 => g
  | j + 1 => up2 (zrow g i z j) i j z
/-- the first k rows, n places each -/
def zrows {α : Type} (g : Nat → Nat → α) (n : Nat) (z : Nat → α) : Nat → Nat → Nat → α
  | 0 => g
  | k + 1 => zrow (zrows g n z k) k (z k) n
/-- the first k places become 0 -/
def zline (g : Nat → Nat) : Nat → Nat → Nat
  | 0 => g
  | k + 1 => va_up (zline g k) k 0
/-- how many of the first k examples each class has, g at first -/
def cnE (ec : Nat → Nat) (g : Nat → Nat) : Nat → Nat → Nat
  | 0 => g
  | k + 1 => va_up (cnE ec g k) (ec k) (cnE ec g k (ec k) + 1)
/-- the values v come to the first f places of row c -/
def adR (g : Nat → Nat → UInt64) (c : Nat) (v : Nat → Nat) : Nat → Nat → Nat → UInt64
  | 0 => g
  | f + 1 => up2 (adR g c v f) c f (FP.dadd (adR g c v f c f) (FP.i2d (nI (v f))))
def adE (n : Nat) (ec : Nat → Nat) (ev : Nat → Nat → Nat) (g : Nat → Nat → UInt64) : Nat → Nat → Nat → UInt64
  | 0 => g
  | k + 1 => adR (adE n ec ev g k) (ec k) (ev k) n
/-- the first f places of row c by x -/
def dvR (g : Nat → Nat → UInt64) (c : Nat) (x : UInt64) : Nat → Nat → Nat → UInt64
  | 0 => g
  | f + 1 => up2 (dvR g c x f) c f (FP.ddiv (dvR g c x f c f) x)
def dvE (n : Nat) (mb : Nat → Nat) (g : Nat → Nat → UInt64) : Nat → Nat → Nat → UInt64
  | 0 => g
  | c + 1 => if 0 < mb c then dvR (dvE n mb g c) c (FP.i2d (nI (mb c))) n else dvE n mb g c
/-- one example's round: from its class c to the nearest n -/
def shW (mn : Nat → Nat → UInt64) (v : Nat → Nat) (c n : Nat) (w : Nat → Nat → UInt64) : Nat → Nat → Nat → UInt64
  | 0 => w
  | f + 1 =>
    if ¬ Op.cmpValue (FP.dcmp (szF (FP.dsub (FP.i2d (nI (v f))) (mn c f))) (szF (FP.dsub (FP.i2d (nI (v f))) (mn n f)))) CmpOp.l ≤ 0 then up2 (shW mn v c n w f) c f (FP.dmul (shW mn v c n w f c f) k875)
    else if ¬ Op.cmpValue (FP.dcmp (szF (FP.dsub (FP.i2d (nI (v f))) (mn n f))) (szF (FP.dsub (FP.i2d (nI (v f))) (mn c f)))) CmpOp.l ≤ 0 then up2 (shW mn v c n w f) n f (FP.dmul (shW mn v c n w f n f) k1125)
    else shW mn v c n w f
/-- a round over the first k examples: the weights -/
def rdX (κ : SX) (w : Nat → Nat → UInt64) : Nat → Nat → Nat → UInt64
  | 0 => w
  | k + 1 =>
    if nearX (sxWt κ (rdX κ w k)) (xEv κ k) (-1) = -1 ∨ nearX (sxWt κ (rdX κ w k)) (xEv κ k) (-1) = nI (xEc κ k) then rdX κ w k
    else shW (xMn κ) (xEv κ k) (xEc κ k) (nearX (sxWt κ (rdX κ w k)) (xEv κ k) (-1)).toNatClampNeg (rdX κ w k) (xF κ)
/-- rounds -/
def rdsX (κ : SX) : Nat → Nat → Nat → UInt64
  | 0 => xWt κ
  | r + 1 => rdX κ (rdsX κ r) (xN κ)
/-- told once more: how often each class was told for each -/
def cfX (κ : SX) (g : Nat → Nat → Nat) : Nat → Nat → Nat → Nat
  | 0 => g
  | k + 1 =>
    if nearX κ (xEv κ k) (-1) = -1 then cfX κ g k
    else up2 (cfX κ g k) (xEc κ k) (nearX κ (xEv κ k) (-1)).toNatClampNeg (cfX κ g k (xEc κ k) (nearX κ (xEv κ k) (-1)).toNatClampNeg + 1)
/-- an example more -/
def addX (κ : SX) (c : Nat) : SX := sxN (sxEv (sxEc κ (va_up (xEc κ) (xN κ) c)) (zrow (xEv κ) (xN κ) 0 (xF κ))) (xN κ + 1)
def exP (κ : SX) (x r : Int32) (κ' : SX) : Prop := (∃ c : Nat, c < 16 ∧ x = nI c ∧ ((40 ≤ xN κ ∧ r = -14 ∧ κ' = κ) ∨ (xN κ < 40 ∧ r = nI (xN κ) ∧ κ' = addX κ c))) ∨ ((∀ j : Nat, j < 16 → x ≠ nI j) ∧ r = -12 ∧ κ' = κ)
/-- the means, and how many each class has -/
def mmB (κ : SX) : Nat → Nat := cnE (xEc κ) (zline (xMb κ) 16) (xN κ)
def mmS (κ : SX) : Nat → Nat → UInt64 := adE (xF κ) (xEc κ) (xEv κ) (zrows (xMn κ) (xF κ) (fun _ => FP.dconst0) 16) (xN κ)
def mmX (κ : SX) : SX := sxMn (sxMb κ (mmB κ)) (dvE (xF κ) (mmB κ) (mmS κ) 16)
def fwX (κ : SX) : SX := sxWt κ (zrows (xWt κ) (xF κ) (fun c => if 0 < xMb κ c then FP.dconst1 else FP.dconst0) 16)
/-- ===== bounds ===== -/
theorem up2_ij {α : Type} (g : Nat → Nat → α) (i j : Nat) (v : α) : up2 g i j v i j = v := by rw [up2_self, va_up_self]
theorem up2_nj {α : Type} (g : Nat → Nat → α) {i j b : Nat} (a : Nat) (v : α) (h : b ≠ j) : up2 g i j v a b = g a b := by
  by_cases e : a = i
  · subst e
    rw [up2_self, va_up_ne _ _ h]
  · rw [up2_ne _ _ _ e]
theorem shW_rest {mn : Nat → Nat → UInt64} {v : Nat → Nat} {c n : Nat} {w : Nat → Nat → UInt64} : ∀ {f a j : Nat}, f ≤ j → shW mn v c n w f a j = w a j
  | 0, _, _, _ => rfl
  | f + 1, a, j, h => by
    have ih : shW mn v c n w f a j = w a j := shW_rest (by omega)
    rw [shW]
    split
    · rw [up2_nj _ _ _ (by omega), ih]
    · split
      · rw [up2_nj _ _ _ (by omega), ih]
      · exact ih
theorem up2_P {α : Type} {P : α → Prop} {q : Nat → Nat → Prop} {g : Nat → Nat → α} {i j : Nat} {v : α} (hg : ∀ a b, q a b → P (g a b)) (hv : P v) (a b : Nat) (h : q a b) : P (up2 g i j v a b) := by
  by_cases e : b = j
  · by_cases e2 : a = i
    · subst e; subst e2
      rw [up2_ij]; exact hv
    · rw [up2_ne _ _ _ e2]; exact hg a b h
  · rw [up2_nj _ _ _ e]; exact hg a b h
/-- the weights of the places that there are, at most so great -/
def wB (F K : Nat) (w : Nat → Nat → UInt64) : Prop := ∀ a b, (a < 16 ∧ b < F) → mg K (w a b)
theorem shW_mg {F K : Nat} {mn : Nat → Nat → UInt64} {v : Nat → Nat} {c n : Nat} {w : Nat → Nat → UInt64} (hc : c < 16) (hn : n < 16) (h1 : 1023 ≤ K) (h2 : K ≤ 1900) (hw : wB F K w) : ∀ f, f ≤ F → wB F (K + 1) (shW mn v c n w f)
  | 0, _ => fun a b h => mg_mono (hw a b h) (by omega)
  | f + 1, hf => fun a b h => by
    have ih := shW_mg (mn := mn) (v := v) hc hn h1 h2 hw f (by omega)
    rw [shW]
    split
    · exact up2_P ih (by rw [shW_rest (Nat.le_refl f)]; exact mg_dmul (hw c f ⟨hc, hf⟩) mg_875 (by omega) (by decide) (by omega) (by decide) (by omega) (by omega)) a b h
    · split
      · exact up2_P ih (by rw [shW_rest (Nat.le_refl f)]; exact mg_dmul (hw n f ⟨hn, hf⟩) mg_1125 (by omega) (by decide) (by omega) (by decide) (by omega) (by omega)) a b h
      · exact ih a b h
/-- the nearest class, where there is one -/
theorem nearX_cases (κ : SX) (v : Nat → Nat) (but : Int32) : nearX κ v but = -1 ∨ ∃ j : Nat, j < 16 ∧ hasX κ j = true ∧ nI j ≠ but ∧ nearX κ v but = nI j := nrF_fst 16
theorem rdX_mg {K : Nat} {κ : SX} {w : Nat → Nat → UInt64} (hec : ∀ e, xEc κ e < 16) (h1 : 1023 ≤ K) (hw : wB (xF κ) K w) : ∀ k, K + k ≤ 1900 → wB (xF κ) (K + k) (rdX κ w k)
  | 0, _ => hw
  | k + 1, h2 => fun a b h => by
    have ih := rdX_mg (κ := κ) hec h1 hw k (by omega)
    rw [rdX]
    split
    · exact mg_mono (ih a b h) (by omega)
    · rename_i hq
      rcases nearX_cases (sxWt κ (rdX κ w k)) (xEv κ k) (-1) with e | ⟨j, hj, -, -, e⟩
      · exact absurd (Or.inl e) hq
      · rw [e, nI_clamp (by omega)]
        exact shW_mg (K := K + k) (hec k) hj (by omega) (by omega) ih _ (Nat.le_refl _) a b h
theorem rdsX_mg {K : Nat} {κ : SX} (hec : ∀ e, xEc κ e < 16) (h1 : 1023 ≤ K) (hN : xN κ ≤ 40) (hw : wB (xF κ) K (xWt κ)) : ∀ r, K + 40 * r ≤ 1860 → wB (xF κ) (K + 40 * r) (rdsX κ r)
  | 0, _ => hw
  | r + 1, h2 => fun a b h => mg_mono (rdX_mg (κ := κ) (K := K + 40 * r) hec (by omega) (rdsX_mg hec h1 hN hw r (by omega)) (xN κ) (by omega) a b h) (by omega)
/-- what is in the first k rows and n places -/
theorem zrow_in {α : Type} {g : Nat → Nat → α} {i : Nat} {z : α} : ∀ {n b : Nat}, b < n → zrow g i z n i b = z
  | n + 1, b, h => by
    rw [zrow]
    by_cases e : b = n
    · subst e; rw [up2_ij]
    · rw [up2_nj _ _ _ e]; exact zrow_in (by omega)
theorem zrow_out {α : Type} {g : Nat → Nat → α} {i : Nat} {z : α} : ∀ {n a b : Nat}, (a ≠ i ∨ n ≤ b) → zrow g i z n a b = g a b
  | 0, _, _, _ => rfl
  | n + 1, a, b, h => by
    rw [zrow]
    by_cases e : a = i
    · rw [up2_nj _ _ _ (show b ≠ n by omega)]; exact zrow_out (by omega)
    · rw [up2_ne _ _ _ e]; exact zrow_out (Or.inl e)
theorem zrows_in {α : Type} {g : Nat → Nat → α} {n : Nat} {z : Nat → α} : ∀ {k a b : Nat}, a < k → b < n → zrows g n z k a b = z a
  | k + 1, a, b, h, hb => by
    rw [zrows]
    by_cases e : a = k
    · subst e; exact zrow_in hb
    · rw [zrow_out (Or.inl e)]; exact zrows_in (by omega) hb
theorem zline_in {g : Nat → Nat} : ∀ {k a : Nat}, a < k → zline g k a = 0
  | k + 1, a, h => by
    rw [zline]
    by_cases e : a = k
    · subst e; rw [va_up_self]
    · rw [va_up_ne _ _ e]; exact zline_in (by omega)
/-- counted and summed -/
def ctE (ec : Nat → Nat) (c : Nat) : Nat → Nat
  | 0 => 0
  | k + 1 => ctE ec c k + if ec k = c then 1 else 0
def smE (ec : Nat → Nat) (ev : Nat → Nat → Nat) (c f : Nat) : Nat → Nat
  | 0 => 0
  | k + 1 => smE ec ev c f k + if ec k = c then ev k f else 0
theorem ctE_le (ec : Nat → Nat) (c : Nat) : ∀ k, ctE ec c k ≤ k
  | 0 => Nat.le_refl 0
  | k + 1 => by
    have := ctE_le ec c k
    rw [ctE]
    split <;> omega
theorem smE_le {ec : Nat → Nat} {ev : Nat → Nat → Nat} (h : ∀ e f, ev e f < 256) (c f : Nat) : ∀ k, smE ec ev c f k ≤ 255 * k
  | 0 => Nat.le_refl 0
  | k + 1 => by
    have := smE_le (ec := ec) h c f k
    have := h k f
    rw [smE]
    split <;> omega
theorem cnE_ct {ec g : Nat → Nat} {c : Nat} (hg : g c = 0) : ∀ k, cnE ec g k c = ctE ec c k
  | 0 => hg
  | k + 1 => by
    have ih := cnE_ct (ec := ec) hg k
    rw [cnE, ctE]
    by_cases e : ec k = c
    · rw [if_pos e, ← ih, ← e, va_up_self]
    · rw [if_neg e, va_up_ne _ _ (Ne.symm e), ih, Nat.add_zero]
theorem adR_rest {g : Nat → Nat → UInt64} {c : Nat} {v : Nat → Nat} : ∀ {f a b : Nat}, (a ≠ c ∨ f ≤ b) → adR g c v f a b = g a b
  | 0, _, _, _ => rfl
  | f + 1, a, b, h => by
    rw [adR]
    by_cases e : a = c
    · rw [up2_nj _ _ _ (show b ≠ f by omega)]; exact adR_rest (by omega)
    · rw [up2_ne _ _ _ e]; exact adR_rest (Or.inl e)
theorem adR_in {g : Nat → Nat → UInt64} {c : Nat} {v : Nat → Nat} : ∀ {f b : Nat}, b < f → adR g c v f c b = FP.dadd (g c b) (FP.i2d (nI (v b)))
  | f + 1, b, h => by
    rw [adR]
    by_cases e : b = f
    · subst e; rw [up2_ij, adR_rest (Or.inr (Nat.le_refl _))]
    · rw [up2_nj _ _ _ e]; exact adR_in (by omega)
theorem adE_sm {n : Nat} {ec : Nat → Nat} {ev : Nat → Nat → Nat} {g : Nat → Nat → UInt64} (hev : ∀ e f, ev e f < 256) {c f : Nat} (hf : f < n) (hg : g c f = FP.i2d (nI 0)) : ∀ k, k ≤ 40 → adE n ec ev g k c f = FP.i2d (nI (smE ec ev c f k))
  | 0, _ => hg
  | k + 1, hk => by
    have ih := adE_sm (n := n) (ec := ec) hev hf hg k (by omega)
    have b1 := smE_le (ec := ec) hev c f k
    have b2 := hev k f
    rw [adE, smE]
    by_cases e : ec k = c
    · rw [if_pos e, e, adR_in hf, ih, i2d_add (by omega)]
    · rw [if_neg e, adR_rest (Or.inl (Ne.symm e)), ih, Nat.add_zero]
theorem dvR_rest {g : Nat → Nat → UInt64} {c : Nat} {x : UInt64} : ∀ {f a b : Nat}, (a ≠ c ∨ f ≤ b) → dvR g c x f a b = g a b
  | 0, _, _, _ => rfl
  | f + 1, a, b, h => by
    rw [dvR]
    by_cases e : a = c
    · rw [up2_nj _ _ _ (show b ≠ f by omega)]; exact dvR_rest (by omega)
    · rw [up2_ne _ _ _ e]; exact dvR_rest (Or.inl e)
theorem dvR_in {g : Nat → Nat → UInt64} {c : Nat} {x : UInt64} : ∀ {f b : Nat}, b < f → dvR g c x f c b = FP.ddiv (g c b) x
  | f + 1, b, h => by
    rw [dvR]
    by_cases e : b = f
    · subst e; rw [up2_ij, dvR_rest (Or.inr (Nat.le_refl _))]
    · rw [up2_nj _ _ _ e]; exact dvR_in (by omega)
theorem dvE_rest {n : Nat} {mb : Nat → Nat} {g : Nat → Nat → UInt64} : ∀ {k c f : Nat}, k ≤ c → dvE n mb g k c f = g c f
  | 0, _, _, _ => rfl
  | k + 1, c, f, h => by
    rw [dvE]
    split
    · rw [dvR_rest (Or.inl (show c ≠ k by omega))]; exact dvE_rest (by omega)
    · exact dvE_rest (by omega)
theorem dvE_in {n : Nat} {mb : Nat → Nat} {g : Nat → Nat → UInt64} : ∀ {k c f : Nat}, c < k → f < n → dvE n mb g k c f = if 0 < mb c then FP.ddiv (g c f) (FP.i2d (nI (mb c))) else g c f
  | k + 1, c, f, h, hf => by
    rw [dvE]
    by_cases e : c = k
    · subst e
      split
      · rw [dvR_in hf, dvE_rest (Nat.le_refl _)]
      · exact dvE_rest (Nat.le_refl _)
    · split
      · rw [dvR_rest (Or.inl e)]; exact dvE_in (by omega) hf
      · exact dvE_in (by omega) hf
