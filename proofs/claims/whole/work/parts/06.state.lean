/-! ===== the states, as numbers and functions; their cells; their fields ===== -/
/-- two places deep -/
def up2 {α : Type} (g : Nat → Nat → α) (i j : Nat) (v : α) : Nat → Nat → α := va_up g i (va_up (g i) j v)
theorem up2_self {α : Type} (g : Nat → Nat → α) (i j : Nat) (v : α) : up2 g i j v i = va_up (g i) j v := va_up_self _ _ _
theorem up2_ne {α : Type} (g : Nat → Nat → α) {i a : Nat} (j : Nat) (v : α) (h : a ≠ i) : up2 g i j v a = g a := va_up_ne _ _ h
theorem up_fun {α β : Type} (F : α → β) (g : Nat → α) (i : Nat) (v : α) : va_up (fun j => F (g j)) i (F v) = fun j => F (va_up g i v j) := by
  funext j
  by_cases h : j = i <;> simp [va_up, h]
abbrev SX : Type := Nat × (Nat → Nat) × (Nat → Nat → Nat) × Nat × (Nat → Nat) × Nat × Nat × (Nat → Nat) × (Nat → Nat → UInt64) × (Nat → Nat → UInt64) × (Nat → Nat → Nat)
def xF (κ : SX) : Nat := κ.1
def xEc (κ : SX) : Nat → Nat := κ.2.1
def xEv (κ : SX) : Nat → Nat → Nat := κ.2.2.1
def xN (κ : SX) : Nat := κ.2.2.2.1
def xSg (κ : SX) : Nat → Nat := κ.2.2.2.2.1
def xLd (κ : SX) : Nat := κ.2.2.2.2.2.1
def xMd (κ : SX) : Nat := κ.2.2.2.2.2.2.1
def xMb (κ : SX) : Nat → Nat := κ.2.2.2.2.2.2.2.1
def xMn (κ : SX) : Nat → Nat → UInt64 := κ.2.2.2.2.2.2.2.2.1
def xWt (κ : SX) : Nat → Nat → UInt64 := κ.2.2.2.2.2.2.2.2.2.1
def xCf (κ : SX) : Nat → Nat → Nat := κ.2.2.2.2.2.2.2.2.2.2
def sxF (κ : SX) (z : Nat) : SX := (z, κ.2)
def sxEc (κ : SX) (z : Nat → Nat) : SX := (κ.1, z, κ.2.2)
def sxEv (κ : SX) (z : Nat → Nat → Nat) : SX := (κ.1, κ.2.1, z, κ.2.2.2)
def sxN (κ : SX) (z : Nat) : SX := (κ.1, κ.2.1, κ.2.2.1, z, κ.2.2.2.2)
def sxSg (κ : SX) (z : Nat → Nat) : SX := (κ.1, κ.2.1, κ.2.2.1, κ.2.2.2.1, z, κ.2.2.2.2.2)
def sxLd (κ : SX) (z : Nat) : SX := (κ.1, κ.2.1, κ.2.2.1, κ.2.2.2.1, κ.2.2.2.2.1, z, κ.2.2.2.2.2.2)
def sxMd (κ : SX) (z : Nat) : SX := (κ.1, κ.2.1, κ.2.2.1, κ.2.2.2.1, κ.2.2.2.2.1, κ.2.2.2.2.2.1, z, κ.2.2.2.2.2.2.2)
def sxMb (κ : SX) (z : Nat → Nat) : SX := (κ.1, κ.2.1, κ.2.2.1, κ.2.2.2.1, κ.2.2.2.2.1, κ.2.2.2.2.2.1, κ.2.2.2.2.2.2.1, z, κ.2.2.2.2.2.2.2.2)
def sxMn (κ : SX) (z : Nat → Nat → UInt64) : SX := (κ.1, κ.2.1, κ.2.2.1, κ.2.2.2.1, κ.2.2.2.2.1, κ.2.2.2.2.2.1, κ.2.2.2.2.2.2.1, κ.2.2.2.2.2.2.2.1, z, κ.2.2.2.2.2.2.2.2.2)
def sxWt (κ : SX) (z : Nat → Nat → UInt64) : SX := (κ.1, κ.2.1, κ.2.2.1, κ.2.2.2.1, κ.2.2.2.2.1, κ.2.2.2.2.2.1, κ.2.2.2.2.2.2.1, κ.2.2.2.2.2.2.2.1, κ.2.2.2.2.2.2.2.2.1, z, κ.2.2.2.2.2.2.2.2.2.2)
def sxCf (κ : SX) (z : Nat → Nat → Nat) : SX := (κ.1, κ.2.1, κ.2.2.1, κ.2.2.2.1, κ.2.2.2.2.1, κ.2.2.2.2.2.1, κ.2.2.2.2.2.2.1, κ.2.2.2.2.2.2.2.1, κ.2.2.2.2.2.2.2.2.1, κ.2.2.2.2.2.2.2.2.2.1, z)
abbrev SM : Type := Nat × Nat × Nat × (Nat → Nat) × (Nat → Nat) × (Nat → Nat) × Nat × (Nat → Nat) × (Nat → UInt64) × (Nat → UInt64) × (Nat → Nat) × Nat
def mC (τ : SM) : Nat := τ.1
def mF (τ : SM) : Nat := τ.2.1
def mN (τ : SM) : Nat := τ.2.2.1
def mCl (τ : SM) : Nat → Nat := τ.2.2.2.1
def mVl (τ : SM) : Nat → Nat := τ.2.2.2.2.1
def mSg (τ : SM) : Nat → Nat := τ.2.2.2.2.2.1
def mMd (τ : SM) : Nat := τ.2.2.2.2.2.2.1
def mHs (τ : SM) : Nat → Nat := τ.2.2.2.2.2.2.2.1
def mMn (τ : SM) : Nat → UInt64 := τ.2.2.2.2.2.2.2.2.1
def mWt (τ : SM) : Nat → UInt64 := τ.2.2.2.2.2.2.2.2.2.1
def mCf (τ : SM) : Nat → Nat := τ.2.2.2.2.2.2.2.2.2.2.1
def mMg (τ : SM) : Nat := τ.2.2.2.2.2.2.2.2.2.2.2
def smC (τ : SM) (z : Nat) : SM := (z, τ.2)
def smF (τ : SM) (z : Nat) : SM := (τ.1, z, τ.2.2)
def smN (τ : SM) (z : Nat) : SM := (τ.1, τ.2.1, z, τ.2.2.2)
def smCl (τ : SM) (z : Nat → Nat) : SM := (τ.1, τ.2.1, τ.2.2.1, z, τ.2.2.2.2)
def smVl (τ : SM) (z : Nat → Nat) : SM := (τ.1, τ.2.1, τ.2.2.1, τ.2.2.2.1, z, τ.2.2.2.2.2)
def smSg (τ : SM) (z : Nat → Nat) : SM := (τ.1, τ.2.1, τ.2.2.1, τ.2.2.2.1, τ.2.2.2.2.1, z, τ.2.2.2.2.2.2)
def smMd (τ : SM) (z : Nat) : SM := (τ.1, τ.2.1, τ.2.2.1, τ.2.2.2.1, τ.2.2.2.2.1, τ.2.2.2.2.2.1, z, τ.2.2.2.2.2.2.2)
def smHs (τ : SM) (z : Nat → Nat) : SM := (τ.1, τ.2.1, τ.2.2.1, τ.2.2.2.1, τ.2.2.2.2.1, τ.2.2.2.2.2.1, τ.2.2.2.2.2.2.1, z, τ.2.2.2.2.2.2.2.2)
def smMn (τ : SM) (z : Nat → UInt64) : SM := (τ.1, τ.2.1, τ.2.2.1, τ.2.2.2.1, τ.2.2.2.2.1, τ.2.2.2.2.2.1, τ.2.2.2.2.2.2.1, τ.2.2.2.2.2.2.2.1, z, τ.2.2.2.2.2.2.2.2.2)
def smWt (τ : SM) (z : Nat → UInt64) : SM := (τ.1, τ.2.1, τ.2.2.1, τ.2.2.2.1, τ.2.2.2.2.1, τ.2.2.2.2.2.1, τ.2.2.2.2.2.2.1, τ.2.2.2.2.2.2.2.1, τ.2.2.2.2.2.2.2.2.1, z, τ.2.2.2.2.2.2.2.2.2.2)
def smCf (τ : SM) (z : Nat → Nat) : SM := (τ.1, τ.2.1, τ.2.2.1, τ.2.2.2.1, τ.2.2.2.2.1, τ.2.2.2.2.2.1, τ.2.2.2.2.2.2.1, τ.2.2.2.2.2.2.2.1, τ.2.2.2.2.2.2.2.2.1, τ.2.2.2.2.2.2.2.2.2.1, z, τ.2.2.2.2.2.2.2.2.2.2.2)
def smMg (τ : SM) (z : Nat) : SM := (τ.1, τ.2.1, τ.2.2.1, τ.2.2.2.1, τ.2.2.2.2.1, τ.2.2.2.2.2.1, τ.2.2.2.2.2.2.1, τ.2.2.2.2.2.2.2.1, τ.2.2.2.2.2.2.2.2.1, τ.2.2.2.2.2.2.2.2.2.1, τ.2.2.2.2.2.2.2.2.2.2.1, z)
def fx (ad : Nat → Nat) (κ : SX) : List Value := [.int (nI (xF κ)), .ref (ad 1), .ref (ad 2), .int (nI (xN κ)), .ref (ad 43), .int (nI (xLd κ)), .int (nI (xMd κ)), .ref (ad 44), .ref (ad 45), .ref (ad 62), .ref (ad 79)]
def cx (E : zE) (ad : Nat → Nat) (κ : SX) (k : Nat) : va_E :=
  if k = 0 then .inr (1, fx ad κ)
  else if k = 1 then hI (eI E) 40 (fun i => nI (xEc κ i))
  else if k = 2 then hQ (eII E) 40 (fun i => if i < 40 then some (ad (3 + i)) else none)
  else if k < 43 then hI (eI E) (xF κ) (fun j => nI (xEv κ (k - 3) j))
  else if k = 43 then hI (eI E) (xF κ) (fun j => nI (xSg κ j))
  else if k = 44 then hI (eI E) 16 (fun j => nI (xMb κ j))
  else if k = 45 then hQ (eDD E) 16 (fun i => if i < 16 then some (ad (46 + i)) else none)
  else if k < 62 then hD (eD E) (xF κ) (xMn κ (k - 46))
  else if k = 62 then hQ (eDD E) 16 (fun i => if i < 16 then some (ad (63 + i)) else none)
  else if k < 79 then hD (eD E) (xF κ) (xWt κ (k - 63))
  else if k = 79 then hQ (eII E) 16 (fun i => if i < 16 then some (ad (80 + i)) else none)
  else hI (eI E) 16 (fun j => nI (xCf κ (k - 80) j))
abbrev PX (E : zE) (ad : Nat → Nat) (κ : SX) (H : Heap) : Prop := va_P E.1 vwCl (wn 96 ad (cx E ad κ)) H
section CXROWS
variable {E : zE} {ad : Nat → Nat} {κ : SX} {H : Heap}
theorem cx_obj : cx E ad κ 0 = .inr (1, fx ad κ) := rfl
theorem cx_ec : cx E ad κ 1 = hI (eI E) 40 (fun i => nI (xEc κ i)) := rfl
theorem cx_evO : cx E ad κ 2 = hQ (eII E) 40 (fun i => if i < 40 then some (ad (3 + i)) else none) := rfl
theorem cx_sg : cx E ad κ 43 = hI (eI E) (xF κ) (fun j => nI (xSg κ j)) := rfl
theorem cx_mb : cx E ad κ 44 = hI (eI E) 16 (fun j => nI (xMb κ j)) := rfl
theorem cx_mnO : cx E ad κ 45 = hQ (eDD E) 16 (fun i => if i < 16 then some (ad (46 + i)) else none) := rfl
theorem cx_wtO : cx E ad κ 62 = hQ (eDD E) 16 (fun i => if i < 16 then some (ad (63 + i)) else none) := rfl
theorem cx_cfO : cx E ad κ 79 = hQ (eII E) 16 (fun i => if i < 16 then some (ad (80 + i)) else none) := rfl
theorem cx_ev {i : Nat} (h : i < 40) : cx E ad κ (3 + i) = hI (eI E) (xF κ) (fun j => nI (xEv κ i j)) := by
  unfold cx
  rw [if_neg (show ¬ 3 + i = 0 by omega)]
  rw [if_neg (show ¬ 3 + i = 1 by omega)]
  rw [if_neg (show ¬ 3 + i = 2 by omega)]
  rw [if_pos (show 3 + i < 43 by omega)]
  rw [Nat.add_sub_cancel_left]
theorem cx_mn {i : Nat} (h : i < 16) : cx E ad κ (46 + i) = hD (eD E) (xF κ) (xMn κ i) := by
  unfold cx
  rw [if_neg (show ¬ 46 + i = 0 by omega)]
  rw [if_neg (show ¬ 46 + i = 1 by omega)]
  rw [if_neg (show ¬ 46 + i = 2 by omega)]
  rw [if_neg (show ¬ 46 + i < 43 by omega)]
  rw [if_neg (show ¬ 46 + i = 43 by omega)]
  rw [if_neg (show ¬ 46 + i = 44 by omega)]
  rw [if_neg (show ¬ 46 + i = 45 by omega)]
  rw [if_pos (show 46 + i < 62 by omega)]
  rw [Nat.add_sub_cancel_left]
theorem cx_wt {i : Nat} (h : i < 16) : cx E ad κ (63 + i) = hD (eD E) (xF κ) (xWt κ i) := by
  unfold cx
  rw [if_neg (show ¬ 63 + i = 0 by omega)]
  rw [if_neg (show ¬ 63 + i = 1 by omega)]
  rw [if_neg (show ¬ 63 + i = 2 by omega)]
  rw [if_neg (show ¬ 63 + i < 43 by omega)]
  rw [if_neg (show ¬ 63 + i = 43 by omega)]
  rw [if_neg (show ¬ 63 + i = 44 by omega)]
  rw [if_neg (show ¬ 63 + i = 45 by omega)]
  rw [if_neg (show ¬ 63 + i < 62 by omega)]
  rw [if_neg (show ¬ 63 + i = 62 by omega)]
  rw [if_pos (show 63 + i < 79 by omega)]
  rw [Nat.add_sub_cancel_left]
theorem cx_cf {i : Nat} (h : i < 16) : cx E ad κ (80 + i) = hI (eI E) 16 (fun j => nI (xCf κ i j)) := by
  unfold cx
  rw [if_neg (show ¬ 80 + i = 0 by omega)]
  rw [if_neg (show ¬ 80 + i = 1 by omega)]
  rw [if_neg (show ¬ 80 + i = 2 by omega)]
  rw [if_neg (show ¬ 80 + i < 43 by omega)]
  rw [if_neg (show ¬ 80 + i = 43 by omega)]
  rw [if_neg (show ¬ 80 + i = 44 by omega)]
  rw [if_neg (show ¬ 80 + i = 45 by omega)]
  rw [if_neg (show ¬ 80 + i < 62 by omega)]
  rw [if_neg (show ¬ 80 + i = 62 by omega)]
  rw [if_neg (show ¬ 80 + i < 79 by omega)]
  rw [if_neg (show ¬ 80 + i = 79 by omega)]
  rw [Nat.add_sub_cancel_left]
theorem cx_all {P : Nat → Prop} (h0 : P 0) (h1 : P 1) (h2 : P 2) (h3 : ∀ i, i < 40 → P (3 + i)) (h4 : P 43) (h5 : P 44) (h6 : P 45) (h7 : ∀ i, i < 16 → P (46 + i)) (h8 : P 62) (h9 : ∀ i, i < 16 → P (63 + i)) (h10 : P 79) (h11 : ∀ i, i < 16 → P (80 + i)) : ∀ k, k < 96 → P k := by
  intro k hk
  by_cases e0 : k = 0
  · exact e0 ▸ h0
  by_cases e1 : k = 1
  · exact e1 ▸ h1
  by_cases e2 : k = 2
  · exact e2 ▸ h2
  by_cases f43 : k < 43
  · have := h3 (k - 3) (by omega)
    rw [show 3 + (k - 3) = k by omega] at this
    exact this
  by_cases e43 : k = 43
  · exact e43 ▸ h4
  by_cases e44 : k = 44
  · exact e44 ▸ h5
  by_cases e45 : k = 45
  · exact e45 ▸ h6
  by_cases f62 : k < 62
  · have := h7 (k - 46) (by omega)
    rw [show 46 + (k - 46) = k by omega] at this
    exact this
  by_cases e62 : k = 62
  · exact e62 ▸ h8
  by_cases f79 : k < 79
  · have := h9 (k - 63) (by omega)
    rw [show 63 + (k - 63) = k by omega] at this
    exact this
  by_cases e79 : k = 79
  · exact e79 ▸ h10
  have := h11 (k - 80) (by omega)
  rw [show 80 + (k - 80) = k by omega] at this
  exact this
theorem px_ec {i v : Nat} (h : va_P E.1 vwCl (wn 96 ad (va_up (cx E ad κ) 1 (hI (eI E) 40 (va_up (fun j => nI (xEc κ j)) i (nI v))))) H) : PX E ad (sxEc κ (va_up (xEc κ) i v)) H := by
  refine wn_congr h (cx_all ?_ ?_ ?_ ?_ ?_ ?_ ?_ ?_ ?_ ?_ ?_ ?_)
  · rw [va_up_ne _ _ (show 0 ≠ 1 by omega)]
    rfl
  · rw [va_up_self]
    rw [up_fun nI]
    rfl
  · rw [va_up_ne _ _ (show 2 ≠ 1 by omega)]
    rfl
  · intro a ha
    rw [va_up_ne _ _ (show 3 + a ≠ 1 by omega), cx_ev ha, cx_ev ha]
    rfl
  · rw [va_up_ne _ _ (show 43 ≠ 1 by omega)]
    rfl
  · rw [va_up_ne _ _ (show 44 ≠ 1 by omega)]
    rfl
  · rw [va_up_ne _ _ (show 45 ≠ 1 by omega)]
    rfl
  · intro a ha
    rw [va_up_ne _ _ (show 46 + a ≠ 1 by omega), cx_mn ha, cx_mn ha]
    rfl
  · rw [va_up_ne _ _ (show 62 ≠ 1 by omega)]
    rfl
  · intro a ha
    rw [va_up_ne _ _ (show 63 + a ≠ 1 by omega), cx_wt ha, cx_wt ha]
    rfl
  · rw [va_up_ne _ _ (show 79 ≠ 1 by omega)]
    rfl
  · intro a ha
    rw [va_up_ne _ _ (show 80 + a ≠ 1 by omega), cx_cf ha, cx_cf ha]
    rfl
theorem px_sg {i v : Nat} (h : va_P E.1 vwCl (wn 96 ad (va_up (cx E ad κ) 43 (hI (eI E) (xF κ) (va_up (fun j => nI (xSg κ j)) i (nI v))))) H) : PX E ad (sxSg κ (va_up (xSg κ) i v)) H := by
  refine wn_congr h (cx_all ?_ ?_ ?_ ?_ ?_ ?_ ?_ ?_ ?_ ?_ ?_ ?_)
  · rw [va_up_ne _ _ (show 0 ≠ 43 by omega)]
    rfl
  · rw [va_up_ne _ _ (show 1 ≠ 43 by omega)]
    rfl
  · rw [va_up_ne _ _ (show 2 ≠ 43 by omega)]
    rfl
  · intro a ha
    rw [va_up_ne _ _ (show 3 + a ≠ 43 by omega), cx_ev ha, cx_ev ha]
    rfl
  · rw [va_up_self]
    rw [up_fun nI]
    rfl
  · rw [va_up_ne _ _ (show 44 ≠ 43 by omega)]
    rfl
  · rw [va_up_ne _ _ (show 45 ≠ 43 by omega)]
    rfl
  · intro a ha
    rw [va_up_ne _ _ (show 46 + a ≠ 43 by omega), cx_mn ha, cx_mn ha]
    rfl
  · rw [va_up_ne _ _ (show 62 ≠ 43 by omega)]
    rfl
  · intro a ha
    rw [va_up_ne _ _ (show 63 + a ≠ 43 by omega), cx_wt ha, cx_wt ha]
    rfl
  · rw [va_up_ne _ _ (show 79 ≠ 43 by omega)]
    rfl
  · intro a ha
    rw [va_up_ne _ _ (show 80 + a ≠ 43 by omega), cx_cf ha, cx_cf ha]
    rfl
theorem px_mb {i v : Nat} (h : va_P E.1 vwCl (wn 96 ad (va_up (cx E ad κ) 44 (hI (eI E) 16 (va_up (fun j => nI (xMb κ j)) i (nI v))))) H) : PX E ad (sxMb κ (va_up (xMb κ) i v)) H := by
  refine wn_congr h (cx_all ?_ ?_ ?_ ?_ ?_ ?_ ?_ ?_ ?_ ?_ ?_ ?_)
  · rw [va_up_ne _ _ (show 0 ≠ 44 by omega)]
    rfl
  · rw [va_up_ne _ _ (show 1 ≠ 44 by omega)]
    rfl
  · rw [va_up_ne _ _ (show 2 ≠ 44 by omega)]
    rfl
  · intro a ha
    rw [va_up_ne _ _ (show 3 + a ≠ 44 by omega), cx_ev ha, cx_ev ha]
    rfl
  · rw [va_up_ne _ _ (show 43 ≠ 44 by omega)]
    rfl
  · rw [va_up_self]
    rw [up_fun nI]
    rfl
  · rw [va_up_ne _ _ (show 45 ≠ 44 by omega)]
    rfl
  · intro a ha
    rw [va_up_ne _ _ (show 46 + a ≠ 44 by omega), cx_mn ha, cx_mn ha]
    rfl
  · rw [va_up_ne _ _ (show 62 ≠ 44 by omega)]
    rfl
  · intro a ha
    rw [va_up_ne _ _ (show 63 + a ≠ 44 by omega), cx_wt ha, cx_wt ha]
    rfl
  · rw [va_up_ne _ _ (show 79 ≠ 44 by omega)]
    rfl
  · intro a ha
    rw [va_up_ne _ _ (show 80 + a ≠ 44 by omega), cx_cf ha, cx_cf ha]
    rfl
theorem px_ev {i j9 v : Nat} (hi : i < 40) (h : va_P E.1 vwCl (wn 96 ad (va_up (cx E ad κ) (3 + i) (hI (eI E) (xF κ) (va_up (fun j => nI (xEv κ i j)) j9 (nI v))))) H) : PX E ad (sxEv κ (up2 (xEv κ) i j9 v)) H := by
  refine wn_congr h (cx_all ?_ ?_ ?_ ?_ ?_ ?_ ?_ ?_ ?_ ?_ ?_ ?_)
  · rw [va_up_ne _ _ (show 0 ≠ 3 + i by omega)]
    rfl
  · rw [va_up_ne _ _ (show 1 ≠ 3 + i by omega)]
    rfl
  · rw [va_up_ne _ _ (show 2 ≠ 3 + i by omega)]
    rfl
  · intro a ha
    by_cases e : a = i
    · subst e
      rw [va_up_self, cx_ev ha]
      show _ = hI (eI E) (xF κ) (fun j => nI (up2 (xEv κ) a j9 v a j))
      rw [up_fun nI, up2_self]
    · rw [va_up_ne _ _ (show 3 + a ≠ 3 + i by omega), cx_ev ha, cx_ev ha]
      show _ = hI (eI E) (xF κ) (fun j => nI (up2 (xEv κ) i j9 v a j))
      rw [up2_ne _ _ _ e]
  · rw [va_up_ne _ _ (show 43 ≠ 3 + i by omega)]
    rfl
  · rw [va_up_ne _ _ (show 44 ≠ 3 + i by omega)]
    rfl
  · rw [va_up_ne _ _ (show 45 ≠ 3 + i by omega)]
    rfl
  · intro a ha
    rw [va_up_ne _ _ (show 46 + a ≠ 3 + i by omega), cx_mn ha, cx_mn ha]
    rfl
  · rw [va_up_ne _ _ (show 62 ≠ 3 + i by omega)]
    rfl
  · intro a ha
    rw [va_up_ne _ _ (show 63 + a ≠ 3 + i by omega), cx_wt ha, cx_wt ha]
    rfl
  · rw [va_up_ne _ _ (show 79 ≠ 3 + i by omega)]
    rfl
  · intro a ha
    rw [va_up_ne _ _ (show 80 + a ≠ 3 + i by omega), cx_cf ha, cx_cf ha]
    rfl
theorem px_cf {i j9 v : Nat} (hi : i < 16) (h : va_P E.1 vwCl (wn 96 ad (va_up (cx E ad κ) (80 + i) (hI (eI E) 16 (va_up (fun j => nI (xCf κ i j)) j9 (nI v))))) H) : PX E ad (sxCf κ (up2 (xCf κ) i j9 v)) H := by
  refine wn_congr h (cx_all ?_ ?_ ?_ ?_ ?_ ?_ ?_ ?_ ?_ ?_ ?_ ?_)
  · rw [va_up_ne _ _ (show 0 ≠ 80 + i by omega)]
    rfl
  · rw [va_up_ne _ _ (show 1 ≠ 80 + i by omega)]
    rfl
  · rw [va_up_ne _ _ (show 2 ≠ 80 + i by omega)]
    rfl
  · intro a ha
    rw [va_up_ne _ _ (show 3 + a ≠ 80 + i by omega), cx_ev ha, cx_ev ha]
    rfl
  · rw [va_up_ne _ _ (show 43 ≠ 80 + i by omega)]
    rfl
  · rw [va_up_ne _ _ (show 44 ≠ 80 + i by omega)]
    rfl
  · rw [va_up_ne _ _ (show 45 ≠ 80 + i by omega)]
    rfl
  · intro a ha
    rw [va_up_ne _ _ (show 46 + a ≠ 80 + i by omega), cx_mn ha, cx_mn ha]
    rfl
  · rw [va_up_ne _ _ (show 62 ≠ 80 + i by omega)]
    rfl
  · intro a ha
    rw [va_up_ne _ _ (show 63 + a ≠ 80 + i by omega), cx_wt ha, cx_wt ha]
    rfl
  · rw [va_up_ne _ _ (show 79 ≠ 80 + i by omega)]
    rfl
  · intro a ha
    by_cases e : a = i
    · subst e
      rw [va_up_self, cx_cf ha]
      show _ = hI (eI E) 16 (fun j => nI (up2 (xCf κ) a j9 v a j))
      rw [up_fun nI, up2_self]
    · rw [va_up_ne _ _ (show 80 + a ≠ 80 + i by omega), cx_cf ha, cx_cf ha]
      show _ = hI (eI E) 16 (fun j => nI (up2 (xCf κ) i j9 v a j))
      rw [up2_ne _ _ _ e]
theorem px_mn {i j9 : Nat} {v : UInt64} (hi : i < 16) (h : va_P E.1 vwCl (wn 96 ad (va_up (cx E ad κ) (46 + i) (hD (eD E) (xF κ) (va_up (xMn κ i) j9 v)))) H) : PX E ad (sxMn κ (up2 (xMn κ) i j9 v)) H := by
  refine wn_congr h (cx_all ?_ ?_ ?_ ?_ ?_ ?_ ?_ ?_ ?_ ?_ ?_ ?_)
  · rw [va_up_ne _ _ (show 0 ≠ 46 + i by omega)]
    rfl
  · rw [va_up_ne _ _ (show 1 ≠ 46 + i by omega)]
    rfl
  · rw [va_up_ne _ _ (show 2 ≠ 46 + i by omega)]
    rfl
  · intro a ha
    rw [va_up_ne _ _ (show 3 + a ≠ 46 + i by omega), cx_ev ha, cx_ev ha]
    rfl
  · rw [va_up_ne _ _ (show 43 ≠ 46 + i by omega)]
    rfl
  · rw [va_up_ne _ _ (show 44 ≠ 46 + i by omega)]
    rfl
  · rw [va_up_ne _ _ (show 45 ≠ 46 + i by omega)]
    rfl
  · intro a ha
    by_cases e : a = i
    · subst e
      rw [va_up_self, cx_mn ha]
      show _ = hD (eD E) (xF κ) (up2 (xMn κ) a j9 v a)
      rw [up2_self]
    · rw [va_up_ne _ _ (show 46 + a ≠ 46 + i by omega), cx_mn ha, cx_mn ha]
      show _ = hD (eD E) (xF κ) (up2 (xMn κ) i j9 v a)
      rw [up2_ne _ _ _ e]
  · rw [va_up_ne _ _ (show 62 ≠ 46 + i by omega)]
    rfl
  · intro a ha
    rw [va_up_ne _ _ (show 63 + a ≠ 46 + i by omega), cx_wt ha, cx_wt ha]
    rfl
  · rw [va_up_ne _ _ (show 79 ≠ 46 + i by omega)]
    rfl
  · intro a ha
    rw [va_up_ne _ _ (show 80 + a ≠ 46 + i by omega), cx_cf ha, cx_cf ha]
    rfl
theorem px_wt {i j9 : Nat} {v : UInt64} (hi : i < 16) (h : va_P E.1 vwCl (wn 96 ad (va_up (cx E ad κ) (63 + i) (hD (eD E) (xF κ) (va_up (xWt κ i) j9 v)))) H) : PX E ad (sxWt κ (up2 (xWt κ) i j9 v)) H := by
  refine wn_congr h (cx_all ?_ ?_ ?_ ?_ ?_ ?_ ?_ ?_ ?_ ?_ ?_ ?_)
  · rw [va_up_ne _ _ (show 0 ≠ 63 + i by omega)]
    rfl
  · rw [va_up_ne _ _ (show 1 ≠ 63 + i by omega)]
    rfl
  · rw [va_up_ne _ _ (show 2 ≠ 63 + i by omega)]
    rfl
  · intro a ha
    rw [va_up_ne _ _ (show 3 + a ≠ 63 + i by omega), cx_ev ha, cx_ev ha]
    rfl
  · rw [va_up_ne _ _ (show 43 ≠ 63 + i by omega)]
    rfl
  · rw [va_up_ne _ _ (show 44 ≠ 63 + i by omega)]
    rfl
  · rw [va_up_ne _ _ (show 45 ≠ 63 + i by omega)]
    rfl
  · intro a ha
    rw [va_up_ne _ _ (show 46 + a ≠ 63 + i by omega), cx_mn ha, cx_mn ha]
    rfl
  · rw [va_up_ne _ _ (show 62 ≠ 63 + i by omega)]
    rfl
  · intro a ha
    by_cases e : a = i
    · subst e
      rw [va_up_self, cx_wt ha]
      show _ = hD (eD E) (xF κ) (up2 (xWt κ) a j9 v a)
      rw [up2_self]
    · rw [va_up_ne _ _ (show 63 + a ≠ 63 + i by omega), cx_wt ha, cx_wt ha]
      show _ = hD (eD E) (xF κ) (up2 (xWt κ) i j9 v a)
      rw [up2_ne _ _ _ e]
  · rw [va_up_ne _ _ (show 79 ≠ 63 + i by omega)]
    rfl
  · intro a ha
    rw [va_up_ne _ _ (show 80 + a ≠ 63 + i by omega), cx_cf ha, cx_cf ha]
    rfl
theorem px_n {v : Nat} (h : va_P E.1 vwCl (wn 96 ad (va_up (cx E ad κ) 0 (.inr (1, (fx ad κ).set 3 (.int (nI v)))))) H) : PX E ad (sxN κ v) H := by
  refine wn_congr h (cx_all ?_ ?_ ?_ ?_ ?_ ?_ ?_ ?_ ?_ ?_ ?_ ?_)
  · rw [va_up_self]
    rfl
  · rw [va_up_ne _ _ (show 1 ≠ 0 by omega)]
    rfl
  · rw [va_up_ne _ _ (show 2 ≠ 0 by omega)]
    rfl
  · intro a ha
    rw [va_up_ne _ _ (show 3 + a ≠ 0 by omega), cx_ev ha, cx_ev ha]
    rfl
  · rw [va_up_ne _ _ (show 43 ≠ 0 by omega)]
    rfl
  · rw [va_up_ne _ _ (show 44 ≠ 0 by omega)]
    rfl
  · rw [va_up_ne _ _ (show 45 ≠ 0 by omega)]
    rfl
  · intro a ha
    rw [va_up_ne _ _ (show 46 + a ≠ 0 by omega), cx_mn ha, cx_mn ha]
    rfl
  · rw [va_up_ne _ _ (show 62 ≠ 0 by omega)]
    rfl
  · intro a ha
    rw [va_up_ne _ _ (show 63 + a ≠ 0 by omega), cx_wt ha, cx_wt ha]
    rfl
  · rw [va_up_ne _ _ (show 79 ≠ 0 by omega)]
    rfl
  · intro a ha
    rw [va_up_ne _ _ (show 80 + a ≠ 0 by omega), cx_cf ha, cx_cf ha]
    rfl
theorem px_ld {v : Nat} (h : va_P E.1 vwCl (wn 96 ad (va_up (cx E ad κ) 0 (.inr (1, (fx ad κ).set 5 (.int (nI v)))))) H) : PX E ad (sxLd κ v) H := by
  refine wn_congr h (cx_all ?_ ?_ ?_ ?_ ?_ ?_ ?_ ?_ ?_ ?_ ?_ ?_)
  · rw [va_up_self]
    rfl
  · rw [va_up_ne _ _ (show 1 ≠ 0 by omega)]
    rfl
  · rw [va_up_ne _ _ (show 2 ≠ 0 by omega)]
    rfl
  · intro a ha
    rw [va_up_ne _ _ (show 3 + a ≠ 0 by omega), cx_ev ha, cx_ev ha]
    rfl
  · rw [va_up_ne _ _ (show 43 ≠ 0 by omega)]
    rfl
  · rw [va_up_ne _ _ (show 44 ≠ 0 by omega)]
    rfl
  · rw [va_up_ne _ _ (show 45 ≠ 0 by omega)]
    rfl
  · intro a ha
    rw [va_up_ne _ _ (show 46 + a ≠ 0 by omega), cx_mn ha, cx_mn ha]
    rfl
  · rw [va_up_ne _ _ (show 62 ≠ 0 by omega)]
    rfl
  · intro a ha
    rw [va_up_ne _ _ (show 63 + a ≠ 0 by omega), cx_wt ha, cx_wt ha]
    rfl
  · rw [va_up_ne _ _ (show 79 ≠ 0 by omega)]
    rfl
  · intro a ha
    rw [va_up_ne _ _ (show 80 + a ≠ 0 by omega), cx_cf ha, cx_cf ha]
    rfl
theorem px_md {v : Nat} (h : va_P E.1 vwCl (wn 96 ad (va_up (cx E ad κ) 0 (.inr (1, (fx ad κ).set 6 (.int (nI v)))))) H) : PX E ad (sxMd κ v) H := by
  refine wn_congr h (cx_all ?_ ?_ ?_ ?_ ?_ ?_ ?_ ?_ ?_ ?_ ?_ ?_)
  · rw [va_up_self]
    rfl
  · rw [va_up_ne _ _ (show 1 ≠ 0 by omega)]
    rfl
  · rw [va_up_ne _ _ (show 2 ≠ 0 by omega)]
    rfl
  · intro a ha
    rw [va_up_ne _ _ (show 3 + a ≠ 0 by omega), cx_ev ha, cx_ev ha]
    rfl
  · rw [va_up_ne _ _ (show 43 ≠ 0 by omega)]
    rfl
  · rw [va_up_ne _ _ (show 44 ≠ 0 by omega)]
    rfl
  · rw [va_up_ne _ _ (show 45 ≠ 0 by omega)]
    rfl
  · intro a ha
    rw [va_up_ne _ _ (show 46 + a ≠ 0 by omega), cx_mn ha, cx_mn ha]
    rfl
  · rw [va_up_ne _ _ (show 62 ≠ 0 by omega)]
    rfl
  · intro a ha
    rw [va_up_ne _ _ (show 63 + a ≠ 0 by omega), cx_wt ha, cx_wt ha]
    rfl
  · rw [va_up_ne _ _ (show 79 ≠ 0 by omega)]
    rfl
  · intro a ha
    rw [va_up_ne _ _ (show 80 + a ≠ 0 by omega), cx_cf ha, cx_cf ha]
    rfl
def fm (ad : Nat → Nat) (τ : SM) : List Value := [.int (nI (mC τ)), .int (nI (mF τ)), .int (nI (mN τ)), .ref (ad 1), .ref (ad 2), .ref (ad 3), .int (nI (mMd τ)), .ref (ad 4), .ref (ad 5), .ref (ad 6), .ref (ad 7), .int (nI (mMg τ))]
def cm (E : zE) (ad : Nat → Nat) (τ : SM) (k : Nat) : va_E :=
  if k = 0 then .inr (2, fm ad τ)
  else if k = 1 then hI (eI E) 40 (fun i => nI (mCl τ i))
  else if k = 2 then hI (eI E) 640 (fun i => nI (mVl τ i))
  else if k = 3 then hI (eI E) 16 (fun i => nI (mSg τ i))
  else if k = 4 then hI (eZ E) 16 (fun i => nI (mHs τ i))
  else if k = 5 then hD (eD E) 256 (mMn τ)
  else if k = 6 then hD (eD E) 256 (mWt τ)
  else hI (eI E) 256 (fun i => nI (mCf τ i))
abbrev PM (E : zE) (ad : Nat → Nat) (τ : SM) (H : Heap) : Prop := va_P E.1 vwCl (wn 8 ad (cm E ad τ)) H
variable {τ : SM}
theorem cm_obj : cm E ad τ 0 = .inr (2, fm ad τ) := rfl
theorem cm_cl : cm E ad τ 1 = hI (eI E) 40 (fun i => nI (mCl τ i)) := rfl
theorem cm_vl : cm E ad τ 2 = hI (eI E) 640 (fun i => nI (mVl τ i)) := rfl
theorem cm_sg : cm E ad τ 3 = hI (eI E) 16 (fun i => nI (mSg τ i)) := rfl
theorem cm_hs : cm E ad τ 4 = hI (eZ E) 16 (fun i => nI (mHs τ i)) := rfl
theorem cm_mn : cm E ad τ 5 = hD (eD E) 256 (mMn τ) := rfl
theorem cm_wt : cm E ad τ 6 = hD (eD E) 256 (mWt τ) := rfl
theorem cm_cf : cm E ad τ 7 = hI (eI E) 256 (fun i => nI (mCf τ i)) := rfl
theorem cm_all {P : Nat → Prop} (h0 : P 0) (h1 : P 1) (h2 : P 2) (h3 : P 3) (h4 : P 4) (h5 : P 5) (h6 : P 6) (h7 : P 7) : ∀ k, k < 8 → P k := by
  intro k hk
  by_cases e0 : k = 0
  · exact e0 ▸ h0
  by_cases e1 : k = 1
  · exact e1 ▸ h1
  by_cases e2 : k = 2
  · exact e2 ▸ h2
  by_cases e3 : k = 3
  · exact e3 ▸ h3
  by_cases e4 : k = 4
  · exact e4 ▸ h4
  by_cases e5 : k = 5
  · exact e5 ▸ h5
  by_cases e6 : k = 6
  · exact e6 ▸ h6
  exact (show k = 7 by omega) ▸ h7
theorem pm_cl {i v : Nat} (h : va_P E.1 vwCl (wn 8 ad (va_up (cm E ad τ) 1 (hI (eI E) 40 (va_up (fun j => nI (mCl τ j)) i (nI v))))) H) : PM E ad (smCl τ (va_up (mCl τ) i v)) H := by
  refine wn_congr h (cm_all ?_ ?_ ?_ ?_ ?_ ?_ ?_ ?_)
  · rw [va_up_ne _ _ (show 0 ≠ 1 by omega)]
    rfl
  · rw [va_up_self]
    rw [up_fun nI]
    rfl
  · rw [va_up_ne _ _ (show 2 ≠ 1 by omega)]
    rfl
  · rw [va_up_ne _ _ (show 3 ≠ 1 by omega)]
    rfl
  · rw [va_up_ne _ _ (show 4 ≠ 1 by omega)]
    rfl
  · rw [va_up_ne _ _ (show 5 ≠ 1 by omega)]
    rfl
  · rw [va_up_ne _ _ (show 6 ≠ 1 by omega)]
    rfl
  · rw [va_up_ne _ _ (show 7 ≠ 1 by omega)]
    rfl
theorem pm_vl {i v : Nat} (h : va_P E.1 vwCl (wn 8 ad (va_up (cm E ad τ) 2 (hI (eI E) 640 (va_up (fun j => nI (mVl τ j)) i (nI v))))) H) : PM E ad (smVl τ (va_up (mVl τ) i v)) H := by
  refine wn_congr h (cm_all ?_ ?_ ?_ ?_ ?_ ?_ ?_ ?_)
  · rw [va_up_ne _ _ (show 0 ≠ 2 by omega)]
    rfl
  · rw [va_up_ne _ _ (show 1 ≠ 2 by omega)]
    rfl
  · rw [va_up_self]
    rw [up_fun nI]
    rfl
  · rw [va_up_ne _ _ (show 3 ≠ 2 by omega)]
    rfl
  · rw [va_up_ne _ _ (show 4 ≠ 2 by omega)]
    rfl
  · rw [va_up_ne _ _ (show 5 ≠ 2 by omega)]
    rfl
  · rw [va_up_ne _ _ (show 6 ≠ 2 by omega)]
    rfl
  · rw [va_up_ne _ _ (show 7 ≠ 2 by omega)]
    rfl
theorem pm_sg {i v : Nat} (h : va_P E.1 vwCl (wn 8 ad (va_up (cm E ad τ) 3 (hI (eI E) 16 (va_up (fun j => nI (mSg τ j)) i (nI v))))) H) : PM E ad (smSg τ (va_up (mSg τ) i v)) H := by
  refine wn_congr h (cm_all ?_ ?_ ?_ ?_ ?_ ?_ ?_ ?_)
  · rw [va_up_ne _ _ (show 0 ≠ 3 by omega)]
    rfl
  · rw [va_up_ne _ _ (show 1 ≠ 3 by omega)]
    rfl
  · rw [va_up_ne _ _ (show 2 ≠ 3 by omega)]
    rfl
  · rw [va_up_self]
    rw [up_fun nI]
    rfl
  · rw [va_up_ne _ _ (show 4 ≠ 3 by omega)]
    rfl
  · rw [va_up_ne _ _ (show 5 ≠ 3 by omega)]
    rfl
  · rw [va_up_ne _ _ (show 6 ≠ 3 by omega)]
    rfl
  · rw [va_up_ne _ _ (show 7 ≠ 3 by omega)]
    rfl
theorem pm_hs {i v : Nat} (h : va_P E.1 vwCl (wn 8 ad (va_up (cm E ad τ) 4 (hI (eZ E) 16 (va_up (fun j => nI (mHs τ j)) i (nI v))))) H) : PM E ad (smHs τ (va_up (mHs τ) i v)) H := by
  refine wn_congr h (cm_all ?_ ?_ ?_ ?_ ?_ ?_ ?_ ?_)
  · rw [va_up_ne _ _ (show 0 ≠ 4 by omega)]
    rfl
  · rw [va_up_ne _ _ (show 1 ≠ 4 by omega)]
    rfl
  · rw [va_up_ne _ _ (show 2 ≠ 4 by omega)]
    rfl
  · rw [va_up_ne _ _ (show 3 ≠ 4 by omega)]
    rfl
  · rw [va_up_self]
    rw [up_fun nI]
    rfl
  · rw [va_up_ne _ _ (show 5 ≠ 4 by omega)]
    rfl
  · rw [va_up_ne _ _ (show 6 ≠ 4 by omega)]
    rfl
  · rw [va_up_ne _ _ (show 7 ≠ 4 by omega)]
    rfl
theorem pm_cf {i v : Nat} (h : va_P E.1 vwCl (wn 8 ad (va_up (cm E ad τ) 7 (hI (eI E) 256 (va_up (fun j => nI (mCf τ j)) i (nI v))))) H) : PM E ad (smCf τ (va_up (mCf τ) i v)) H := by
  refine wn_congr h (cm_all ?_ ?_ ?_ ?_ ?_ ?_ ?_ ?_)
  · rw [va_up_ne _ _ (show 0 ≠ 7 by omega)]
    rfl
  · rw [va_up_ne _ _ (show 1 ≠ 7 by omega)]
    rfl
  · rw [va_up_ne _ _ (show 2 ≠ 7 by omega)]
    rfl
  · rw [va_up_ne _ _ (show 3 ≠ 7 by omega)]
    rfl
  · rw [va_up_ne _ _ (show 4 ≠ 7 by omega)]
    rfl
  · rw [va_up_ne _ _ (show 5 ≠ 7 by omega)]
    rfl
  · rw [va_up_ne _ _ (show 6 ≠ 7 by omega)]
    rfl
  · rw [va_up_self]
    rw [up_fun nI]
    rfl
theorem pm_mn {i : Nat} {v : UInt64} (h : va_P E.1 vwCl (wn 8 ad (va_up (cm E ad τ) 5 (hD (eD E) 256 (va_up (mMn τ) i v)))) H) : PM E ad (smMn τ (va_up (mMn τ) i v)) H := by
  refine wn_congr h (cm_all ?_ ?_ ?_ ?_ ?_ ?_ ?_ ?_)
  · rw [va_up_ne _ _ (show 0 ≠ 5 by omega)]
    rfl
  · rw [va_up_ne _ _ (show 1 ≠ 5 by omega)]
    rfl
  · rw [va_up_ne _ _ (show 2 ≠ 5 by omega)]
    rfl
  · rw [va_up_ne _ _ (show 3 ≠ 5 by omega)]
    rfl
  · rw [va_up_ne _ _ (show 4 ≠ 5 by omega)]
    rfl
  · rw [va_up_self]
    rfl
  · rw [va_up_ne _ _ (show 6 ≠ 5 by omega)]
    rfl
  · rw [va_up_ne _ _ (show 7 ≠ 5 by omega)]
    rfl
theorem pm_wt {i : Nat} {v : UInt64} (h : va_P E.1 vwCl (wn 8 ad (va_up (cm E ad τ) 6 (hD (eD E) 256 (va_up (mWt τ) i v)))) H) : PM E ad (smWt τ (va_up (mWt τ) i v)) H := by
  refine wn_congr h (cm_all ?_ ?_ ?_ ?_ ?_ ?_ ?_ ?_)
  · rw [va_up_ne _ _ (show 0 ≠ 6 by omega)]
    rfl
  · rw [va_up_ne _ _ (show 1 ≠ 6 by omega)]
    rfl
  · rw [va_up_ne _ _ (show 2 ≠ 6 by omega)]
    rfl
  · rw [va_up_ne _ _ (show 3 ≠ 6 by omega)]
    rfl
  · rw [va_up_ne _ _ (show 4 ≠ 6 by omega)]
    rfl
  · rw [va_up_ne _ _ (show 5 ≠ 6 by omega)]
    rfl
  · rw [va_up_self]
    rfl
  · rw [va_up_ne _ _ (show 7 ≠ 6 by omega)]
    rfl
theorem pm_c {v : Nat} (h : va_P E.1 vwCl (wn 8 ad (va_up (cm E ad τ) 0 (.inr (2, (fm ad τ).set 0 (.int (nI v)))))) H) : PM E ad (smC τ v) H := by
  refine wn_congr h (cm_all ?_ ?_ ?_ ?_ ?_ ?_ ?_ ?_)
  · rw [va_up_self]
    rfl
  · rw [va_up_ne _ _ (show 1 ≠ 0 by omega)]
    rfl
  · rw [va_up_ne _ _ (show 2 ≠ 0 by omega)]
    rfl
  · rw [va_up_ne _ _ (show 3 ≠ 0 by omega)]
    rfl
  · rw [va_up_ne _ _ (show 4 ≠ 0 by omega)]
    rfl
  · rw [va_up_ne _ _ (show 5 ≠ 0 by omega)]
    rfl
  · rw [va_up_ne _ _ (show 6 ≠ 0 by omega)]
    rfl
  · rw [va_up_ne _ _ (show 7 ≠ 0 by omega)]
    rfl
theorem pm_n {v : Nat} (h : va_P E.1 vwCl (wn 8 ad (va_up (cm E ad τ) 0 (.inr (2, (fm ad τ).set 2 (.int (nI v)))))) H) : PM E ad (smN τ v) H := by
  refine wn_congr h (cm_all ?_ ?_ ?_ ?_ ?_ ?_ ?_ ?_)
  · rw [va_up_self]
    rfl
  · rw [va_up_ne _ _ (show 1 ≠ 0 by omega)]
    rfl
  · rw [va_up_ne _ _ (show 2 ≠ 0 by omega)]
    rfl
  · rw [va_up_ne _ _ (show 3 ≠ 0 by omega)]
    rfl
  · rw [va_up_ne _ _ (show 4 ≠ 0 by omega)]
    rfl
  · rw [va_up_ne _ _ (show 5 ≠ 0 by omega)]
    rfl
  · rw [va_up_ne _ _ (show 6 ≠ 0 by omega)]
    rfl
  · rw [va_up_ne _ _ (show 7 ≠ 0 by omega)]
    rfl
theorem pm_md {v : Nat} (h : va_P E.1 vwCl (wn 8 ad (va_up (cm E ad τ) 0 (.inr (2, (fm ad τ).set 6 (.int (nI v)))))) H) : PM E ad (smMd τ v) H := by
  refine wn_congr h (cm_all ?_ ?_ ?_ ?_ ?_ ?_ ?_ ?_)
  · rw [va_up_self]
    rfl
  · rw [va_up_ne _ _ (show 1 ≠ 0 by omega)]
    rfl
  · rw [va_up_ne _ _ (show 2 ≠ 0 by omega)]
    rfl
  · rw [va_up_ne _ _ (show 3 ≠ 0 by omega)]
    rfl
  · rw [va_up_ne _ _ (show 4 ≠ 0 by omega)]
    rfl
  · rw [va_up_ne _ _ (show 5 ≠ 0 by omega)]
    rfl
  · rw [va_up_ne _ _ (show 6 ≠ 0 by omega)]
    rfl
  · rw [va_up_ne _ _ (show 7 ≠ 0 by omega)]
    rfl
theorem pm_mg {v : Nat} (h : va_P E.1 vwCl (wn 8 ad (va_up (cm E ad τ) 0 (.inr (2, (fm ad τ).set 11 (.int (nI v)))))) H) : PM E ad (smMg τ v) H := by
  refine wn_congr h (cm_all ?_ ?_ ?_ ?_ ?_ ?_ ?_ ?_)
  · rw [va_up_self]
    rfl
  · rw [va_up_ne _ _ (show 1 ≠ 0 by omega)]
    rfl
  · rw [va_up_ne _ _ (show 2 ≠ 0 by omega)]
    rfl
  · rw [va_up_ne _ _ (show 3 ≠ 0 by omega)]
    rfl
  · rw [va_up_ne _ _ (show 4 ≠ 0 by omega)]
    rfl
  · rw [va_up_ne _ _ (show 5 ≠ 0 by omega)]
    rfl
  · rw [va_up_ne _ _ (show 6 ≠ 0 by omega)]
    rfl
  · rw [va_up_ne _ _ (show 7 ≠ 0 by omega)]
    rfl
end CXROWS
section FROWS
variable {p : Program} {l : Launch} {e : Env} {R : Room} {s : State} {m : MethodId} {args : Array Value} {below : List Frame} {meth : Method} {c : Code} {H : Heap} {locs : List Loc} {cells slots : Nat} {Q : State → Prop}
variable {cc : ByteArray} {pc : Nat} {ls : Array Slot} {rest : List Value} {E : zE} {ad : Nat → Nat} {κ : SX} {τ : SM} {A : Nat → Prop} {H0 : Heap} {Ts : List Cond}
theorem gx (hx : p.tables.exec = Jvm.exec) (hb : c.code = cc) (hts : ∀ w ∈ Ts, w.before args s = true) (hin : ∀ w ∈ wsX00, w ∈ Ts) (hown : s.vm.findClass RX0 = some m.cls) (hK : zK E s) (hP : PX E ad κ H) (k : Nat) (hk : k < 11) {index : Nat} (hlink : Cond.fieldLink RX0 index RX0 (TX0 k).2.1 (TX0 k).2.2.1 ∈ Ts) (hr : (TX0 k).1 = RX0) {v : Value} (hv : (fx ad κ)[k]? = some v) (hdg : decode cc pc = .ok (.getfield index, 3))
    (kk : W p l e R s m args below meth c H locs cells slots Q (F0 m (pc + 3) ls (v :: rest))) : W p l e R s m args below meth c H locs cells slots Q (F0 m pc ls (.ref (ad 0) :: rest)) :=
  va_get (C := RX0) (T := TX0) (N := 11) (ci := 1) hx hb hts hin hown hK hP 0 (fs := fx ad κ) (wn_at (show 0 < 96 by decide)) rfl k hk (hts _ hlink) (fun x h => by rw [hr] at h; exact h) hv hdg kk
theorem gxput (hx : p.tables.exec = Jvm.exec) (hb : c.code = cc) (hts : ∀ w ∈ Ts, w.before args s = true) (hin : ∀ w ∈ wsX00, w ∈ Ts) (hown : s.vm.findClass RX0 = some m.cls) (hK : zK E s) (hP : PX E ad κ H) (hap : apart 96 ad) (hA : ∀ k, k < 96 → A (ad k)) (hS : va_S A H0 H locs) (k : Nat) (hk : k < 11) {index : Nat} (hlink : Cond.fieldLink RX0 index RX0 (TX0 k).2.1 (TX0 k).2.2.1 ∈ Ts) (hr : (TX0 k).1 = RX0) (hfin : (TX0 k).2.2.2 = false) {v : Value} (hn : narrow (tyX0 k) v = v) (hf : Jvm.fits (tyX0 k) v = true) (hl : k < (fx ad κ).length) (hdg : decode cc pc = .ok (.putfield index, 3))
    (kk : ∀ (H1 : Heap) (locs1 : List Loc), va_P E.1 vwCl (wn 96 ad (va_up (cx E ad κ) 0 (.inr (1, (fx ad κ).set k v)))) H1 → va_S A H0 H1 locs1 → W p l e R s m args below meth c H1 locs1 cells slots Q (F0 m (pc + 3) ls rest)) : W p l e R s m args below meth c H locs cells slots Q (F0 m pc ls (v :: .ref (ad 0) :: rest)) := by
  refine va_put (C := RX0) (T := TX0) (N := 11) (ci := 1) hx hb hts hin tyX0 tyX0_ok nmX0 hown hK hP (wn_D hap hA) hS 0 (fs := fx ad κ) (wn_at (show 0 < 96 by decide)) rfl k hk (hts _ hlink) (fun x h => by rw [hr] at h; exact h) hfin (tyX0_ok k hk) hn hf hl hdg fun H1 locs1 h1 _ h3 => ?_
  rw [wn_set (show 0 < 96 by decide)] at h1
  exact kk H1 locs1 h1 h3
theorem gm (hx : p.tables.exec = Jvm.exec) (hb : c.code = cc) (hts : ∀ w ∈ Ts, w.before args s = true) (hin : ∀ w ∈ wsX10, w ∈ Ts) (hown : s.vm.findClass RX1 = some m.cls) (hK : zK E s) (hP : PM E ad τ H) (k : Nat) (hk : k < 12) {index : Nat} (hlink : Cond.fieldLink RX1 index RX1 (TX1 k).2.1 (TX1 k).2.2.1 ∈ Ts) (hr : (TX1 k).1 = RX1) {v : Value} (hv : (fm ad τ)[k]? = some v) (hdg : decode cc pc = .ok (.getfield index, 3))
    (kk : W p l e R s m args below meth c H locs cells slots Q (F0 m (pc + 3) ls (v :: rest))) : W p l e R s m args below meth c H locs cells slots Q (F0 m pc ls (.ref (ad 0) :: rest)) :=
  va_get (C := RX1) (T := TX1) (N := 12) (ci := 2) hx hb hts hin hown hK hP 0 (fs := fm ad τ) (wn_at (show 0 < 8 by decide)) rfl k hk (hts _ hlink) (fun x h => by rw [hr] at h; exact h) hv hdg kk
theorem gmput (hx : p.tables.exec = Jvm.exec) (hb : c.code = cc) (hts : ∀ w ∈ Ts, w.before args s = true) (hin : ∀ w ∈ wsX10, w ∈ Ts) (hown : s.vm.findClass RX1 = some m.cls) (hK : zK E s) (hP : PM E ad τ H) (hap : apart 8 ad) (hA : ∀ k, k < 8 → A (ad k)) (hS : va_S A H0 H locs) (k : Nat) (hk : k < 12) {index : Nat} (hlink : Cond.fieldLink RX1 index RX1 (TX1 k).2.1 (TX1 k).2.2.1 ∈ Ts) (hr : (TX1 k).1 = RX1) (hfin : (TX1 k).2.2.2 = false) {v : Value} (hn : narrow (tyX1 k) v = v) (hf : Jvm.fits (tyX1 k) v = true) (hl : k < (fm ad τ).length) (hdg : decode cc pc = .ok (.putfield index, 3))
    (kk : ∀ (H1 : Heap) (locs1 : List Loc), va_P E.1 vwCl (wn 8 ad (va_up (cm E ad τ) 0 (.inr (2, (fm ad τ).set k v)))) H1 → va_S A H0 H1 locs1 → W p l e R s m args below meth c H1 locs1 cells slots Q (F0 m (pc + 3) ls rest)) : W p l e R s m args below meth c H locs cells slots Q (F0 m pc ls (v :: .ref (ad 0) :: rest)) := by
  refine va_put (C := RX1) (T := TX1) (N := 12) (ci := 2) hx hb hts hin tyX1 tyX1_ok nmX1 hown hK hP (wn_D hap hA) hS 0 (fs := fm ad τ) (wn_at (show 0 < 8 by decide)) rfl k hk (hts _ hlink) (fun x h => by rw [hr] at h; exact h) hfin (tyX1_ok k hk) hn hf hl hdg fun H1 locs1 h1 _ h3 => ?_
  rw [wn_set (show 0 < 8 by decide)] at h1
  exact kk H1 locs1 h1 h3
end FROWS
