/-! ===== class and reference side by side ===== -/
/-- the reference's line g' holds what the class's rows g hold, at sixteen rows of F places -/
def dm {α : Type} (F : Nat) (g : Nat → Nat → α) (g' : Nat → α) : Prop := ∀ a, a < 16 → ∀ b, b < F → g' (16 * a + b) = g a b
theorem dm_up {α : Type} {F c f : Nat} {g : Nat → Nat → α} {g' : Nat → α} {x y : α} (h : dm F g g') (hF : F ≤ 16) (hf : f < 16) (e : y = x) : dm F (up2 g c f x) (va_up g' (16 * c + f) y) := by
  intro a ha b hb
  by_cases e1 : a = c
  · subst e1
    by_cases e2 : b = f
    · subst e2; rw [va_up_self, up2_ij, e]
    · rw [va_up_ne _ _ (by omega), up2_nj _ _ _ e2, h a ha b hb]
  · rw [va_up_ne _ _ (by omega), up2_ne _ _ _ e1, h a ha b hb]
theorem nrF_congr {has has' : Nat → Bool} {dd dd' : Nat → UInt64} {but : Int32} : ∀ {n : Nat}, (∀ c, c < n → has c = has' c ∧ dd c = dd' c) → nrF has dd but n = nrF has' dd' but n
  | 0, _ => rfl
  | n + 1, h => by
    obtain ⟨h1, h2⟩ := h n (Nat.lt_succ_self n)
    rw [nrF, nrF, nrF_congr (fun c hc => h c (Nat.lt_succ_of_lt hc)), h1, h2]
/-- the same classes, means and weights -/
def Same (κ : SX) (τ : SM) : Prop := mF τ = xF κ ∧ (∀ c, c < 16 → (mHs τ c ≠ 0 ↔ xMb κ c ≠ 0)) ∧ dm (xF κ) (xMn κ) (mMn τ) ∧ dm (xF κ) (xWt κ) (mWt τ)
theorem Same.dd {κ : SX} {τ : SM} (h : Same κ τ) {v v' : Nat → Nat} {fr : Nat} (hv : ∀ f, f < xF κ → v' (fr + f) = v f) {c : Nat} (hc : c < 16) : ddX κ v c = ddM τ v' fr c := by
  obtain ⟨h1, -, h3, h4⟩ := h
  unfold ddX ddM
  rw [h1]
  exact dsF_congr fun f hf => ⟨(h4 c hc f hf).symm, (h3 c hc f hf).symm, (hv f hf).symm⟩
theorem Same.near {κ : SX} {τ : SM} (h : Same κ τ) {v v' : Nat → Nat} {fr : Nat} (hv : ∀ f, f < xF κ → v' (fr + f) = v f) (but : Int32) : nearX κ v but = nearM τ v' fr but := by
  unfold nearX nearM
  rw [nrF_congr (has' := hasM τ) (dd' := ddM τ v' fr) fun c hc => ⟨by
    unfold hasX hasM
    rw [decide_eq_decide]
    exact (h.2.1 c hc).symm, h.dd hv hc⟩]
theorem sh_dm {F c n : Nat} {mn : Nat → Nat → UInt64} {mn' : Nat → UInt64} {v v' : Nat → Nat} {w : Nat → Nat → UInt64} {w' : Nat → UInt64} (hF : F ≤ 16) (hc : c < 16) (hn : n < 16) (hm : dm F mn mn') (hv : ∀ f, f < F → v' f = v f) (hw : dm F w w') : ∀ f, f ≤ F → dm F (shW mn v c n w f) (shM mn' v' c n w' f)
  | 0, _ => hw
  | f + 1, hf => by
    have ih := sh_dm hF hc hn hm hv hw f (by omega)
    rw [shW, shM, hv f (by omega), hm c hc f (by omega), hm n hn f (by omega)]
    split
    · exact dm_up ih hF (by omega) (by rw [ih c hc f (by omega)])
    · split
      · exact dm_up ih hF (by omega) (by rw [ih n hn f (by omega)])
      · exact ih
/-- the same examples -/
def SameE (κ : SX) (τ : SM) : Prop := mN τ = xN κ ∧ (∀ e, e < xN κ → mCl τ e = xEc κ e) ∧ ∀ e, e < xN κ → ∀ f, f < xF κ → mVl τ (16 * e + f) = xEv κ e f
theorem Same.some {κ : SX} {τ : SM} (h : Same κ τ) {v v' : Nat → Nat} {fr : Nat} (hv : ∀ f, f < xF κ → v' (fr + f) = v f) {c : Nat} (hc : c < 16) (hb : xMb κ c ≠ 0) : ∃ j : Nat, j < 16 ∧ nearX κ v (-1) = nI j ∧ nearM τ v' fr (-1) = nI j := by
  obtain ⟨j, h1, h2⟩ := nearM_some τ v' fr c hc (Nat.pos_of_ne_zero ((h.2.1 c hc).mpr hb))
  exact ⟨j, h1, (h.near hv (-1)).trans h2, h2⟩
theorem rd_dm {κ : SX} {τ : SM} {w : Nat → Nat → UInt64} {w' : Nat → UInt64} (h : Same κ τ) (hE : SameE κ τ) (hF : xF κ ≤ 16) (hec : ∀ e, xEc κ e < 16) (hmb : ∀ e, e < xN κ → xMb κ (xEc κ e) ≠ 0) (hw : dm (xF κ) w w') : ∀ k, k ≤ xN κ → dm (xF κ) (rdX κ w k) (rdM τ w' k)
  | 0, _ => hw
  | k + 1, hk => by
    have ih := rd_dm h hE hF hec hmb hw k (by omega)
    have hS : Same (sxWt κ (rdX κ w k)) (smWt τ (rdM τ w' k)) := ⟨h.1, h.2.1, h.2.2.1, ih⟩
    have hv : ∀ f, f < xF κ → mVl τ (16 * k + f) = xEv κ k f := hE.2.2 k (by omega)
    obtain ⟨j, hj, e1, e2⟩ := hS.some (v := xEv κ k) (v' := mVl τ) (fr := 16 * k) hv (hec k) (hmb k (by omega))
    have hcl := hE.2.1 k (by omega)
    rw [rdX, rdM, e1, e2, hcl, h.1]
    by_cases q : nI j = nI (xEc κ k)
    · rw [if_pos (Or.inr q), if_pos q]
      exact ih
    · rw [if_neg (fun z => z.elim (m1_ne (by omega)) q), if_neg q]
      exact sh_dm hF (hec k) (by rw [nI_clamp (by omega)]; exact hj) h.2.2.1 hv ih _ (Nat.le_refl _)
theorem rds_dm {κ : SX} {τ : SM} (h : Same κ τ) (hE : SameE κ τ) (hF : xF κ ≤ 16) (hec : ∀ e, xEc κ e < 16) (hmb : ∀ e, e < xN κ → xMb κ (xEc κ e) ≠ 0) : ∀ r, dm (xF κ) (rdsX κ r) (rdsM τ r)
  | 0 => h.2.2.2
  | r + 1 => by
    rw [rdsX, rdsM, hE.1]
    exact rd_dm h hE hF hec hmb (rds_dm h hE hF hec hmb r) _ (Nat.le_refl _)
theorem cf_dm {κ : SX} {τ : SM} {g : Nat → Nat → Nat} {g' : Nat → Nat} (h : Same κ τ) (hE : SameE κ τ) (hec : ∀ e, xEc κ e < 16) (hmb : ∀ e, e < xN κ → xMb κ (xEc κ e) ≠ 0) (hg : dm 16 g g') : ∀ k, k ≤ xN κ → dm 16 (cfX κ g k) (cfM τ g' k)
  | 0, _ => hg
  | k + 1, hk => by
    have ih := cf_dm h hE hec hmb hg k (by omega)
    have hv : ∀ f, f < xF κ → mVl τ (16 * k + f) = xEv κ k f := hE.2.2 k (by omega)
    obtain ⟨j, hj, e1, e2⟩ := h.some (v := xEv κ k) (v' := mVl τ) (fr := 16 * k) hv (hec k) (hmb k (by omega))
    rw [cfX, cfM, e1, e2, hE.2.1 k (by omega), nI_clamp (by omega), if_neg (m1_ne (by omega))]
    exact dm_up ih (Nat.le_refl _) hj (by rw [ih _ (hec k) j hj])
theorem ct_congr {ec cl : Nat → Nat} {c : Nat} : ∀ {n : Nat}, (∀ e, e < n → cl e = ec e) → ctE cl c n = ctE ec c n
  | 0, _ => rfl
  | n + 1, h => by rw [ctE, ctE, ct_congr (fun e he => h e (Nat.lt_succ_of_lt he)), h n (Nat.lt_succ_self n)]
theorem sm_congr {ec cl : Nat → Nat} {ev vl : Nat → Nat → Nat} {c f : Nat} : ∀ {n : Nat}, (∀ e, e < n → cl e = ec e ∧ vl e f = ev e f) → smE cl vl c f n = smE ec ev c f n
  | 0, _ => rfl
  | n + 1, h => by rw [smE, smE, sm_congr (fun e he => h e (Nat.lt_succ_of_lt he)), (h n (Nat.lt_succ_self n)).1, (h n (Nat.lt_succ_self n)).2]
theorem sm_0 {ec : Nat → Nat} {ev : Nat → Nat → Nat} {c f : Nat} : ∀ {n : Nat}, ctE ec c n = 0 → smE ec ev c f n = 0
  | 0, _ => rfl
  | n + 1, h => by
    rw [ctE] at h
    rw [smE, sm_0 (by omega)]
    by_cases q : ec n = c
    · rw [if_pos q] at h; omega
    · rw [if_neg q]
/-- after the means and the first weights -/
theorem mm_same {κ : SX} {τ : SM} (hFF : mF τ = xF κ) (hE : SameE κ τ) (hF : xF κ ≤ 16) (hN : xN κ ≤ 40) (hev : ∀ e f, xEv κ e f < 256) : Same (fwX (mmX κ)) (mmM (smC τ 0)) := by
  have hct : ∀ c, ctM (smC τ 0) c = ctE (xEc κ) c (xN κ) := fun c => by
    show ctE (mCl τ) c (mN τ) = _
    rw [hE.1]
    exact ct_congr hE.2.1
  have hsm : ∀ c f, f < xF κ → smM (smC τ 0) c f = smE (xEc κ) (xEv κ) c f (xN κ) := fun c f hf => by
    show smE (mCl τ) (vwM τ) c f (mN τ) = _
    rw [hE.1]
    exact sm_congr fun e he => ⟨hE.2.1 e he, hE.2.2 e he f hf⟩
  refine ⟨hFF, fun c hc => ?_, fun a ha b hb => ?_, fun a ha b hb => ?_⟩
  · show mHs (mmM (smC τ 0)) c ≠ 0 ↔ mmB κ c ≠ 0
    rw [hsM_in _ hc, mmB_ct κ hc]
    unfold hsV
    rw [hct]
    by_cases q : 0 < ctE (xEc κ) c (xN κ)
    · rw [if_pos q]; omega
    · rw [if_neg q]; omega
  · show flc (mMn τ) (mnV (smC τ 0)) 16 (16 * a + b) = dvE (xF κ) (mmB κ) (mmS κ) 16 a b
    have hb : b < xF κ := hb
    rw [flc_in ha (by omega), dvE_in ha hb, mmB_ct κ ha, mmS_sm κ hN hev ha hb]
    unfold mnV
    rw [hct, hsm a b hb]
    by_cases q : 0 < ctE (xEc κ) a (xN κ)
    · rw [if_pos q, if_pos q]
    · rw [if_neg q, if_neg q, sm_0 (by omega), i2d_0]
  · show flc (mWt τ) (wtV (smC τ 0)) 16 (16 * a + b) = zrows (xWt κ) (xF κ) (fun c => if 0 < mmB κ c then FP.dconst1 else FP.dconst0) 16 a b
    have hb : b < xF κ := hb
    rw [flc_in ha (by omega), zrows_in ha hb, mmB_ct κ ha]
    unfold wtV
    rw [hct]
/-- what ties the two -/
def Rel (κ : SX) (τ : SM) : Prop := Same κ τ ∧ SameE κ τ ∧ (mMd τ = xMd κ ∧ mMg τ = xLd κ) ∧ (∀ f, f < xF κ → mSg τ f = xSg κ f) ∧ dm 16 (xCf κ) (mCf τ)
/-- what holds of the class's state -/
def wfX (κ : SX) : Prop := (1 ≤ xF κ ∧ xF κ ≤ 16 ∧ xN κ ≤ 40 ∧ xMd κ ≤ 1 ∧ xLd κ ≤ 100000) ∧ (∀ e, xEc κ e < 16) ∧ (∀ e f, xEv κ e f < 256) ∧ (∀ f, xSg κ f < 256) ∧ (∀ c, c < 16 → xMb κ c ≤ 40) ∧ (xMd κ = 0 → ∀ c, c < 16 → ∀ f, f < xF κ → xWt κ c f = FP.dconst0) ∧ (0 < xMd κ → ∃ c, c < 16 ∧ xMb κ c ≠ 0) ∧ (∀ c, c < 16 → ∀ f, f < xF κ → mg 1900 (xWt κ c f) ∧ mg 1057 (xMn κ c f))
/-- what holds of the reference's -/
def wfM (τ : SM) : Prop := (∀ e, mCl τ e < 16) ∧ (∀ k, mVl τ k < 256) ∧ ∀ c, c < 16 → mHs τ c ≤ 1
/-- all of it -/
def Tie (κ : SX) (τ : SM) : Prop := Rel κ τ ∧ wfX κ ∧ wfM τ
theorem va_up_P {α : Type} {P : α → Prop} {g : Nat → α} {k : Nat} {v : α} (h : ∀ j, P (g j)) (hv : P v) (j : Nat) : P (va_up g k v j) := by
  by_cases e : j = k
  · subst e; rw [va_up_self]; exact hv
  · rw [va_up_ne _ _ e]; exact h j
/-- what the contracts of the class ask -/
theorem wfX.w {κ : SX} (h : wfX κ) : ∀ c, c < 16 → ∀ f, f < xF κ → mg 1900 (xWt κ c f) ∧ mg 1057 (xMn κ c f) := h.2.2.2.2.2.2.2
theorem Tie.c {κ : SX} {τ : SM} (h : Tie κ τ) (z : Nat) : Tie κ (smC τ z) := h
theorem Tie.w {κ : SX} {τ : SM} (h : Tie κ τ) : ∀ c, c < 16 → ∀ f, f < mF τ → mg 1900 (mWt τ (16 * c + f)) ∧ mg 1057 (mMn τ (16 * c + f)) := fun c hc f hf => by
  obtain ⟨⟨⟨h1, -, h3, h4⟩, -⟩, h2, -⟩ := h
  rw [h1] at hf
  rw [h3 c hc f hf, h4 c hc f hf]
  exact h2.w c hc f hf
theorem Tie.start {F : Nat} (h1 : 1 ≤ F) (h2 : F ≤ 16) : Tie (nwX F) (nwM F) := by
  refine ⟨⟨⟨rfl, fun _ _ => Iff.rfl, fun _ _ _ _ => rfl, fun _ _ _ _ => rfl⟩, ⟨rfl, fun _ _ => rfl, fun _ _ _ _ => rfl⟩, ⟨rfl, rfl⟩, fun _ _ => rfl, fun _ _ _ _ => rfl⟩, ⟨⟨h1, h2, Nat.zero_le _, Nat.zero_le _, Nat.zero_le _⟩, fun _ => Nat.zero_lt_succ _, fun _ _ => Nat.zero_lt_succ _, fun _ => Nat.zero_lt_succ _, fun _ _ => Nat.zero_le _, fun _ _ _ _ _ => ?_, fun h => absurd h (Nat.lt_irrefl 0), fun _ _ _ _ => ⟨?_, ?_⟩⟩, fun _ => Nat.zero_lt_succ _, fun _ => Nat.zero_lt_succ _, fun _ _ => Nat.zero_le _⟩
  · show (0 : UInt64) = FP.dconst0
    decide +kernel
  · show mg 1900 (0 : UInt64)
    exact Nat.zero_le _
  · show mg 1057 (0 : UInt64)
    exact Nat.zero_le _
