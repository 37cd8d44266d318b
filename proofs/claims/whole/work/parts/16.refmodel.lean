/-! ===== what the reference's writing methods do, as folds over its rows ===== -/
/-- from place b on, the first k places get v -/
def fl {α : Type} (g : Nat → α) (b : Nat) (v : Nat → α) : Nat → Nat → α
  | 0 => g
  | k + 1 => va_up (fl g b v k) (b + k) (v k)
def fl0 {α : Type} (g : Nat → α) (v : Nat → α) : Nat → Nat → α
  | 0 => g
  | k + 1 => va_up (fl0 g v k) k (v k)
/-- rows of sixteen -/
def flc {α : Type} (g : Nat → α) (v : Nat → Nat → α) : Nat → Nat → α
  | 0 => g
  | c + 1 => fl (flc g v c) (16 * c) (v c) 16
theorem fl_out {α : Type} {g : Nat → α} {b : Nat} {v : Nat → α} : ∀ {k a : Nat}, (a < b ∨ b + k ≤ a) → fl g b v k a = g a
  | 0, _, _ => rfl
  | k + 1, a, h => by
    rw [fl, va_up_ne _ _ (by omega)]
    exact fl_out (by omega)
theorem fl_in {α : Type} {g : Nat → α} {b : Nat} {v : Nat → α} : ∀ {k j : Nat}, j < k → fl g b v k (b + j) = v j
  | k + 1, j, h => by
    rw [fl]
    by_cases e : j = k
    · subst e; rw [va_up_self]
    · rw [va_up_ne _ _ (by omega)]; exact fl_in (by omega)
theorem fl0_out {α : Type} {g : Nat → α} {v : Nat → α} : ∀ {k a : Nat}, k ≤ a → fl0 g v k a = g a
  | 0, _, _ => rfl
  | k + 1, a, h => by
    rw [fl0, va_up_ne _ _ (by omega)]
    exact fl0_out (by omega)
theorem fl0_in {α : Type} {g : Nat → α} {v : Nat → α} : ∀ {k j : Nat}, j < k → fl0 g v k j = v j
  | k + 1, j, h => by
    rw [fl0]
    by_cases e : j = k
    · subst e; rw [va_up_self]
    · rw [va_up_ne _ _ (by omega)]; exact fl0_in (by omega)
theorem flc_in {α : Type} {g : Nat → α} {v : Nat → Nat → α} : ∀ {k c f : Nat}, c < k → f < 16 → flc g v k (16 * c + f) = v c f
  | k + 1, c, f, h, hf => by
    rw [flc]
    by_cases e : c = k
    · subst e; exact fl_in hf
    · rw [fl_out (by omega)]; exact flc_in (by omega) hf
/-- the values of example e -/
def vwM (τ : SM) : Nat → Nat → Nat := fun e f => mVl τ (16 * e + f)
/-- how many examples of class c, their sum at f -/
def ctM (τ : SM) (c : Nat) : Nat := ctE (mCl τ) c (mN τ)
def smM (τ : SM) (c f : Nat) : Nat := smE (mCl τ) (vwM τ) c f (mN τ)
def mnV (τ : SM) (c f : Nat) : UInt64 := if 0 < ctM τ c then FP.ddiv (FP.i2d (nI (smM τ c f))) (FP.i2d (nI (ctM τ c))) else FP.dconst0
def wtV (τ : SM) (c : Nat) (_ : Nat) : UInt64 := if 0 < ctM τ c then FP.dconst1 else FP.dconst0
def hsV (τ : SM) (c : Nat) : Nat := if 0 < ctM τ c then 1 else 0
/-- the means, the weights, the classes that there are -/
def mmM (τ : SM) : SM := smWt (smMn (smHs τ (fl0 (mHs τ) (hsV τ) 16)) (flc (mMn τ) (mnV τ) 16)) (flc (mWt τ) (wtV τ) 16)
/-- one example's round -/
def shM (mn : Nat → UInt64) (v : Nat → Nat) (c n : Nat) (w : Nat → UInt64) : Nat → Nat → UInt64
  | 0 => w
  | f + 1 =>
    if ¬ Op.cmpValue (FP.dcmp (szF (FP.dsub (FP.i2d (nI (v f))) (mn (16 * c + f)))) (szF (FP.dsub (FP.i2d (nI (v f))) (mn (16 * n + f))))) CmpOp.l ≤ 0 then va_up (shM mn v c n w f) (16 * c + f) (FP.dmul (shM mn v c n w f (16 * c + f)) k875)
    else if ¬ Op.cmpValue (FP.dcmp (szF (FP.dsub (FP.i2d (nI (v f))) (mn (16 * n + f)))) (szF (FP.dsub (FP.i2d (nI (v f))) (mn (16 * c + f))))) CmpOp.l ≤ 0 then va_up (shM mn v c n w f) (16 * n + f) (FP.dmul (shM mn v c n w f (16 * n + f)) k1125)
    else shM mn v c n w f
theorem shM_rest {mn : Nat → UInt64} {v : Nat → Nat} {c n : Nat} {w : Nat → UInt64} : ∀ {f a j : Nat}, f ≤ j → j < 16 → shM mn v c n w f (16 * a + j) = w (16 * a + j)
  | 0, _, _, _, _ => rfl
  | f + 1, a, j, h, hj => by
    have ih : shM mn v c n w f (16 * a + j) = w (16 * a + j) := shM_rest (by omega) hj
    rw [shM]
    split
    · rw [va_up_ne _ _ (by omega), ih]
    · split
      · rw [va_up_ne _ _ (by omega), ih]
      · exact ih
/-- a round over the first k examples: the weights -/
def rdM (τ : SM) (w : Nat → UInt64) : Nat → Nat → UInt64
  | 0 => w
  | k + 1 =>
    if nearM (smWt τ (rdM τ w k)) (mVl τ) (16 * k) (-1) = nI (mCl τ k) then rdM τ w k
    else shM (mMn τ) (fun f => mVl τ (16 * k + f)) (mCl τ k) (nearM (smWt τ (rdM τ w k)) (mVl τ) (16 * k) (-1)).toNatClampNeg (rdM τ w k) (mF τ)
def rdsM (τ : SM) : Nat → Nat → UInt64
  | 0 => mWt τ
  | r + 1 => rdM τ (rdsM τ r) (mN τ)
theorem rdM_wt (τ : SM) (a w : Nat → UInt64) : ∀ k, rdM (smWt τ a) w k = rdM τ w k
  | 0 => rfl
  | k + 1 => by
    rw [rdM, rdM, rdM_wt τ a w k]
    rfl
/-- told once more -/
def cfM (τ : SM) (g : Nat → Nat) : Nat → Nat → Nat
  | 0 => g
  | k + 1 => va_up (cfM τ g k) (16 * mCl τ k + (nearM τ (mVl τ) (16 * k) (-1)).toNatClampNeg) (cfM τ g k (16 * mCl τ k + (nearM τ (mVl τ) (16 * k) (-1)).toNatClampNeg) + 1)
/-- a class that is there is found -/
theorem nrF_some {has : Nat → Bool} {dd : Nat → UInt64} {but : Int32} {c : Nat} (hc : has c = true) (hb : ¬ nI c = but) : ∀ {n : Nat}, c < n → ∃ j, j < n ∧ has j = true ∧ nI j ≠ but ∧ (nrF has dd but n).1 = nI j
  | n + 1, h => by
    rw [nrF]
    split
    · rename_i q
      exact ⟨n, Nat.lt_succ_self n, q.1, q.2.1, rfl⟩
    · rename_i q
      by_cases e : c = n
      · subst e
        rcases nrF_fst (has := has) (dd := dd) (but := but) c with h1 | ⟨j, h1, h2, h3, h4⟩
        · exact absurd ⟨hc, hb, Or.inl h1⟩ q
        · exact ⟨j, by omega, h2, h3, h4⟩
      · obtain ⟨j, h1, h2, h3, h4⟩ := nrF_some (dd := dd) hc hb (show c < n by omega)
        exact ⟨j, by omega, h2, h3, h4⟩
theorem nearM_some (τ : SM) (v : Nat → Nat) (fr c : Nat) (hc : c < 16) (h : 0 < mHs τ c) : ∃ j : Nat, j < 16 ∧ nearM τ v fr (-1) = nI j := by
  obtain ⟨j, h1, -, -, h4⟩ := nrF_some (has := hasM τ) (dd := ddM τ v fr) (but := -1) (c := c) (decide_eq_true (Nat.ne_of_gt h)) (m1_ne (by omega)) hc
  exact ⟨j, h1, h4⟩
/-- an example more -/
def addM (τ : SM) (c : Nat) : SM := smN (smVl (smCl (smC τ 0) (va_up (mCl τ) (mN τ) c)) (fl (mVl τ) (16 * mN τ) (fun _ => 0) 16)) (mN τ + 1)
def exQ (τ : SM) (x r : Int32) (τ' : SM) : Prop := (∃ c : Nat, c < 16 ∧ x = nI c ∧ ((mN τ = 40 ∧ r = -14 ∧ τ' = smC τ 0) ∨ (mN τ ≠ 40 ∧ r = nI (mN τ) ∧ τ' = addM τ c))) ∨ ((∀ j : Nat, j < 16 → x ≠ nI j) ∧ r = -12 ∧ τ' = smC τ 0)
