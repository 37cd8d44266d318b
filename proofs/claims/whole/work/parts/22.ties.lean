/-! ===== each call keeps the tie, and answers the same ===== -/
theorem va_up_lt {g : Nat → Nat} {n k v : Nat} (h : ∀ j, g j < n) (hv : v < n) (j : Nat) : va_up g k v j < n := va_up_P (P := fun z => z < n) h hv j
theorem ni16 {i j : Nat} (hi : i < 2 ^ 31) (hj : j < 2 ^ 31) (h : nI i = nI j) : i = j := (nI_eq hi hj).mp h
theorem tie_clear {κ : SX} {τ : SM} (h : Tie κ τ) : nI (xN κ) = nI (mN τ) ∧ Tie (sxN κ 0) (smN (smC τ 0) 0) := by
  obtain ⟨⟨h1, h2, h3, h4, h5⟩, ⟨⟨a1, a2, a3, a4, a5⟩, b⟩, c⟩ := h
  exact ⟨by rw [h2.1], ⟨h1, ⟨rfl, fun e he => absurd he (Nat.not_lt_zero e), fun e he => absurd he (Nat.not_lt_zero e)⟩, h3, h4, h5⟩, ⟨⟨a1, a2, Nat.zero_le _, a4, a5⟩, b⟩, c⟩
theorem tie_margin {κ κ' : SX} {τ τ' : SM} {x r r' : Int32} (h : Tie κ τ) (hx : mgP κ x r κ') (hm : mgQ τ x r' τ') : r = r' ∧ Tie κ' τ' := by
  obtain ⟨⟨h1, h2, h3, h4, h5⟩, ⟨⟨a1, a2, a3, a4, a5⟩, b⟩, c⟩ := h
  rcases hx with ⟨j, hj, e1, rfl, rfl⟩ | ⟨n1, rfl, rfl⟩
  · rcases hm with ⟨i, hi, e2, rfl, rfl⟩ | ⟨n2, -, -⟩
    · obtain rfl : j = i := ni16 (by omega) (by omega) (e1.symm.trans e2)
      exact ⟨by rw [h3.2], ⟨h1, h2, ⟨h3.1, rfl⟩, h4, h5⟩, ⟨⟨a1, a2, a3, a4, by show j ≤ 100000; omega⟩, b⟩, c⟩
    · exact absurd e1 (n2 j hj)
  · rcases hm with ⟨i, hi, e2, -, -⟩ | ⟨n2, rfl, rfl⟩
    · exact absurd e2 (n1 i hi)
    · exact ⟨rfl, ⟨h1, h2, h3, h4, h5⟩, ⟨⟨a1, a2, a3, a4, a5⟩, b⟩, c⟩
theorem tie_add {κ : SX} {τ : SM} {c : Nat} (h : Tie κ τ) (hc : c < 16) (hN : xN κ < 40) : Tie (addX κ c) (addM τ c) := by
  obtain ⟨⟨h1, ⟨e1, e2, e3⟩, h3, h4, h5⟩, ⟨⟨a1, a2, a3, a4, a5⟩, b1, b2, b3⟩, c1, c2, c3⟩ := h
  refine ⟨⟨h1, ⟨congrArg (· + 1) e1, fun e he => ?_, fun e he f hf => ?_⟩, h3, h4, h5⟩, ⟨⟨a1, a2, hN, a4, a5⟩, fun e => ?_, fun e f => ?_, b3⟩, fun e => ?_, fun k => ?_, c3⟩
  · have he : e < xN κ + 1 := he
    show va_up (mCl τ) (mN τ) c e = va_up (xEc κ) (xN κ) c e
    rw [e1]
    by_cases q : e = xN κ
    · subst q; rw [va_up_self, va_up_self]
    · rw [va_up_ne _ _ q, va_up_ne _ _ q]; exact e2 e (by omega)
  · have he : e < xN κ + 1 := he
    have hf : f < xF κ := hf
    show fl (mVl τ) (16 * mN τ) (fun _ => 0) 16 (16 * e + f) = zrow (xEv κ) (xN κ) 0 (xF κ) e f
    rw [e1]
    by_cases q : e = xN κ
    · subst q; rw [fl_in (by omega), zrow_in hf]
    · rw [fl_out (by omega), zrow_out (Or.inl q)]; exact e3 e (by omega) f hf
  · exact va_up_lt b1 hc e
  · show zrow (xEv κ) (xN κ) 0 (xF κ) e f < 256
    by_cases q : e = xN κ ∧ f < xF κ
    · rw [q.1, zrow_in q.2]; decide
    · rw [zrow_out (by omega)]; exact b2 e f
  · exact va_up_lt c1 hc e
  · show fl (mVl τ) (16 * mN τ) (fun _ => 0) 16 k < 256
    by_cases q : k < 16 * mN τ ∨ 16 * mN τ + 16 ≤ k
    · rw [fl_out q]; exact c2 k
    · rw [show k = 16 * mN τ + (k - 16 * mN τ) by omega, fl_in (by omega)]; decide
theorem tie_example {κ κ' : SX} {τ τ' : SM} {x r r' : Int32} (h : Tie κ τ) (hx : exP κ x r κ') (hm : exQ τ x r' τ') : r = r' ∧ Tie κ' τ' := by
  have hN := h.1.2.1.1
  have h40 := h.2.1.1.2.2.1
  rcases hx with ⟨c, hc, e1, q⟩ | ⟨n1, rfl, rfl⟩
  · rcases hm with ⟨c', hc', e2, q'⟩ | ⟨n2, -, -⟩
    · obtain rfl : c = c' := ni16 (by omega) (by omega) (e1.symm.trans e2)
      rcases q with ⟨g1, rfl, rfl⟩ | ⟨g1, rfl, rfl⟩ <;> rcases q' with ⟨g2, rfl, rfl⟩ | ⟨g2, rfl, rfl⟩
      · exact ⟨rfl, h⟩
      · omega
      · omega
      · exact ⟨by rw [hN], tie_add h hc g1⟩
    · exact absurd e1 (n2 c hc)
  · rcases hm with ⟨c', hc', e2, -⟩ | ⟨n2, rfl, rfl⟩
    · exact absurd e2 (n1 c' hc')
    · exact ⟨rfl, h⟩
theorem tie_featureV {κ κ' : SX} {τ τ' : SM} {x y z : Int32} (h : Tie κ τ) (hx : ftP κ x y z κ') (hm : ftQ τ x y z τ') : mC τ' = 0 ∧ Tie κ' τ' := by
  obtain ⟨i, j, hi, hj, rfl, rfl, rfl⟩ := hx
  obtain ⟨⟨h1, ⟨e1, e2, e3⟩, h3, h4, h5⟩, ⟨⟨a1, a2, a3, a4, a5⟩, b1, b2, b3⟩, c1, c2, c3⟩ := h
  rcases hm with ⟨i', j', hi', hj', q1, q2, rfl⟩ | ⟨no, -⟩
  · rw [e1] at hi'
    rw [h1.1] at hj'
    obtain rfl : i = i' := ni16 (by omega) (by omega) q1
    obtain rfl : j = j' := ni16 (by omega) (by omega) q2
    refine ⟨rfl, ⟨h1, ⟨e1, e2, fun e he f hf => ?_⟩, h3, h4, h5⟩, ⟨⟨a1, a2, a3, a4, a5⟩, b1, fun e f => ?_, b3⟩, c1, fun k => va_up_lt c2 (lbN_lt z) k, c3⟩
    · have he : e < xN κ := he
      have hf : f < xF κ := hf
      show va_up (mVl τ) (16 * i + j) (lbN z) (16 * e + f) = up2 (xEv κ) i j (lbN z) e f
      by_cases q : e = i ∧ f = j
      · obtain ⟨rfl, rfl⟩ := q
        rw [va_up_self, up2_ij]
      · rw [va_up_ne _ _ (by omega), e3 e he f hf]
        by_cases q2 : f = j
        · rw [up2_ne _ _ _ (fun g => q ⟨g, q2⟩)]
        · rw [up2_nj _ _ _ q2]
    · exact up2_P (P := fun n => n < 256) (q := fun _ _ => True) (fun a b _ => b2 a b) (lbN_lt z) e f trivial
  · exact absurd ⟨i, j, by rw [e1]; exact hi, by rw [h1.1]; exact hj, rfl, rfl⟩ no
theorem tie_featureX {κ : SX} {τ τ' : SM} {x y z : Int32} (h : Tie κ τ) (hx : ftX κ x y) (hm : ftQ τ x y z τ') : mC τ' = 1 ∧ Tie κ τ' := by
  rcases hm with ⟨i, j, hi, hj, q1, q2, -⟩ | ⟨-, rfl⟩
  · exact absurd ⟨i, j, by rw [← h.1.2.1.1]; exact hi, by rw [← h.1.1.1]; exact hj, q1, q2⟩ hx
  · exact ⟨rfl, h⟩
theorem tie_signV {κ κ' : SX} {τ τ' : SM} {x z : Int32} (h : Tie κ τ) (hx : sgP κ x z κ') (hm : sgQ τ x z τ') : mC τ' = 0 ∧ Tie κ' τ' := by
  obtain ⟨j, hj, rfl, rfl⟩ := hx
  obtain ⟨⟨h1, h2, h3, h4, h5⟩, ⟨⟨a1, a2, a3, a4, a5⟩, b1, b2, b3, b4⟩, c⟩ := h
  rcases hm with ⟨j', hj', q1, rfl⟩ | ⟨no, -⟩
  · rw [h1.1] at hj'
    obtain rfl : j = j' := ni16 (by omega) (by omega) q1
    refine ⟨rfl, ⟨h1, h2, h3, fun f hf => ?_, h5⟩, ⟨⟨a1, a2, a3, a4, a5⟩, b1, b2, fun f => va_up_lt b3 (lbN_lt z) f, b4⟩, c⟩
    show va_up (mSg τ) j (lbN z) f = va_up (xSg κ) j (lbN z) f
    by_cases q : f = j
    · subst q; rw [va_up_self, va_up_self]
    · rw [va_up_ne _ _ q, va_up_ne _ _ q]; exact h4 f hf
  · exact absurd ⟨j, by rw [h1.1]; exact hj, rfl⟩ no
theorem tie_signX {κ : SX} {τ τ' : SM} {x z : Int32} (h : Tie κ τ) (hx : sgX κ x) (hm : sgQ τ x z τ') : mC τ' = 1 ∧ Tie κ τ' := by
  rcases hm with ⟨j, hj, q1, -⟩ | ⟨-, rfl⟩
  · exact absurd ⟨j, by rw [← h.1.1.1]; exact hj, q1⟩ hx
  · exact ⟨rfl, h⟩
theorem tie_weightV {κ : SX} {τ τ' : SM} {x y : Int32} {r r' : UInt64} (h : Tie κ τ) (hx : wtP κ x y r) (hm : wtQ τ x y r' τ') : mC τ' = 0 ∧ r = r' ∧ Tie κ τ' := by
  obtain ⟨i, j, hi, hj, rfl, rfl, rfl⟩ := hx
  rcases hm with ⟨i', j', hi', hj', q1, q2, rfl, rfl⟩ | ⟨no, -⟩
  · have hF := h.2.1.1.2.1
    rw [h.1.1.1] at hj'
    obtain rfl : i = i' := ni16 (by omega) (by omega) q1
    obtain rfl : j = j' := ni16 (by omega) (by omega) q2
    refine ⟨rfl, ?_, h⟩
    rw [h.1.2.2.1.1]
    by_cases q : xMd κ = 0
    · rw [if_pos q]; exact h.2.1.2.2.2.2.2.1 q i hi j hj
    · rw [if_neg q]; exact (h.1.1.2.2.2 i hi j hj).symm
  · exact absurd ⟨i, j, hi, by rw [h.1.1.1]; exact hj, rfl, rfl⟩ no
theorem tie_weightX {κ : SX} {τ τ' : SM} {x y : Int32} {r' : UInt64} (h : Tie κ τ) (hx : wtX κ x y) (hm : wtQ τ x y r' τ') : mC τ' = 1 ∧ Tie κ τ' := by
  rcases hm with ⟨i, j, hi, hj, q1, q2, -, -⟩ | ⟨-, rfl, -⟩
  · exact absurd ⟨i, j, hi, by rw [← h.1.1.1]; exact hj, q1, q2⟩ hx
  · exact ⟨rfl, h⟩
theorem tie_confused {κ : SX} {τ : SM} {x y r r' : Int32} (h : Tie κ τ) (hx : cnP κ x y r) (hm : cnQ τ x y r') : r = r' := by
  rcases hx with ⟨i, j, hi, hj, e1, e2, rfl⟩ | ⟨n1, rfl⟩
  · rcases hm with ⟨i', j', hi', hj', q1, q2, rfl⟩ | ⟨n2, -⟩
    · obtain rfl : i = i' := ni16 (by omega) (by omega) (e1.symm.trans q1)
      obtain rfl : j = j' := ni16 (by omega) (by omega) (e2.symm.trans q2)
      rw [h.1.2.2.2.2 i hi j hj]
    · exact n2.elim (fun q => absurd e1 (q i hi)) (fun q => absurd e2 (q j hj))
  · rcases hm with ⟨i', j', hi', hj', q1, q2, -⟩ | ⟨-, rfl⟩
    · exact n1.elim (fun q => absurd q1 (q i' hi')) (fun q => absurd q2 (q j' hj'))
    · rfl
theorem tie_n1 {κ : SX} {τ : SM} (h : Tie κ τ) : n1X κ = n1M τ := h.1.1.near (fun f hf => by rw [Nat.zero_add]; exact h.1.2.2.2.1 f hf) _
theorem tie_n2 {κ : SX} {τ : SM} (h : Tie κ τ) : n2X κ = n2M τ := by
  unfold n2X n2M
  rw [tie_n1 h]
  exact h.1.1.near (fun f hf => by rw [Nat.zero_add]; exact h.1.2.2.2.1 f hf) _
theorem tie_dd {κ : SX} {τ : SM} (h : Tie κ τ) {c : Nat} (hc : c < 16) : ddX κ (xSg κ) c = ddM τ (mSg τ) 0 c := h.1.1.dd (fun f hf => by rw [Nat.zero_add]; exact h.1.2.2.2.1 f hf) hc
theorem tie_too {κ : SX} {τ : SM} {z z' : Int32} (h : Tie κ τ) (hx : tooX κ (n1X κ) (n2X κ) z) (hm : tooM τ z') : z = z' := by
  rw [tie_n1 h, tie_n2 h] at hx
  rcases hx with ⟨i, j, hi, hj, e1, e2, rfl⟩ | ⟨n1, rfl⟩
  · rcases hm with ⟨i', j', hi', hj', q1, q2, rfl⟩ | ⟨q, -⟩
    · obtain rfl : i = i' := ni16 (by omega) (by omega) (e1.symm.trans q1)
      obtain rfl : j = j' := ni16 (by omega) (by omega) (e2.symm.trans q2)
      rw [tie_dd h hi, tie_dd h hj, h.1.2.2.1.2]
    · exact absurd (e2.symm.trans q) (m1_ne (by omega))
  · rcases hm with ⟨i', j', hi', hj', q1, q2, -⟩ | ⟨-, rfl⟩
    · exact n1.elim (fun q => absurd q1 (q i' hi')) (fun q => absurd q2 (q j' hj'))
    · rfl
theorem tie_tell {κ : SX} {τ : SM} {x r r' : Int32} (h : Tie κ τ) (hx : tlP κ x r) (hm : tlQ τ x r') : r = r' := by
  have hmd := h.1.2.2.1.1
  have hsg := h.1.2.2.2.1
  have hF := h.1.1.1
  rcases hx with ⟨n1, rfl⟩ | ⟨j, hj, e1, q⟩
  · rcases hm with ⟨-, rfl⟩ | ⟨j', hj', e2, -⟩
    · rfl
    · exact absurd e2 (n1 j' hj')
  · rcases hm with ⟨n2, -⟩ | ⟨j', hj', e2, q'⟩
    · exact absurd e1 (n2 j hj)
    · obtain rfl : j = j' := ni16 (by omega) (by omega) (e1.symm.trans e2)
      rcases q with ⟨g1, rfl⟩ | ⟨g1, q⟩ <;> rcases q' with ⟨g2, rfl⟩ | ⟨g2, q'⟩
      · rfl
      · omega
      · omega
      · rcases q with ⟨b1, rfl⟩ | ⟨⟨f, hf, hf0⟩, z, hz, q⟩ <;> rcases q' with ⟨b2, rfl⟩ | ⟨b2, z', hz', q'⟩
        · rfl
        · exact absurd (fun f hf => by rw [hF] at hf; rw [hsg f hf]; exact b1 f hf) b2
        · have := b2 f (by rw [hF]; exact hf)
          rw [hsg f hf] at this
          omega
        · obtain rfl := tie_too h hz hz'
          rcases q with ⟨c1, rfl⟩ | ⟨c1, rfl⟩ <;> rcases q' with ⟨c2, rfl⟩ | ⟨c2, rfl⟩
          · rfl
          · exact absurd c2 c1
          · exact absurd c1 c2
          · rw [tie_n1 h, tie_n2 h]
theorem tie_distance {κ : SX} {τ : SM} {x : Int32} {r r' : Int64} (h : Tie κ τ) (hx : dsP κ x r) (hm : dsQ τ x r') : r = r' := by
  have hmd := h.1.2.2.1.1
  rcases hx with ⟨n1, rfl⟩ | ⟨j, hj, e1, q⟩
  · rcases hm with ⟨-, rfl⟩ | ⟨j', hj', e2, -⟩
    · rfl
    · exact absurd e2 (n1 j' hj')
  · rcases hm with ⟨n2, -⟩ | ⟨j', hj', e2, q'⟩
    · exact absurd e1 (n2 j hj)
    · obtain rfl : j = j' := ni16 (by omega) (by omega) (e1.symm.trans e2)
      have hrk : rkX κ j = rkM τ j := by unfold rkX rkM; rw [tie_n1 h, tie_n2 h]
      rcases q with ⟨g1, rfl⟩ | ⟨g1, q⟩ <;> rcases q' with ⟨g2, rfl⟩ | ⟨g2, q'⟩
      · rfl
      · omega
      · omega
      · rw [hrk] at q
        rcases q with ⟨b1, rfl⟩ | ⟨c, hc, b1, rfl⟩ <;> rcases q' with ⟨b2, rfl⟩ | ⟨c', hc', b2, rfl⟩
        · rfl
        · exact absurd (b2.symm.trans b1) (m1_ne (by omega))
        · exact absurd (b1.symm.trans b2) (m1_ne (by omega))
        · obtain rfl : c = c' := ni16 (by omega) (by omega) (b1.symm.trans b2)
          rw [tie_dd h hc]
/-- the making -/
theorem tie_mm {κ : SX} {τ : SM} (h : Tie κ τ) : Same (fwX (mmX κ)) (mmM (smC τ 0)) := mm_same h.1.1.1 h.1.2.1 h.2.1.1.2.1 h.2.1.1.2.2.1 h.2.1.2.2.1
theorem tie_mmE {κ : SX} {τ : SM} (h : Tie κ τ) : SameE (fwX (mmX κ)) (mmM (smC τ 0)) := h.1.2.1
theorem mk_F (κ : SX) : xF (fwX (mmX κ)) = xF κ := rfl
theorem mk_N (κ : SX) : xN (fwX (mmX κ)) = xN κ := rfl
theorem mk_Ec (κ : SX) : xEc (fwX (mmX κ)) = xEc κ := rfl
theorem mk_Mb (κ : SX) : xMb (fwX (mmX κ)) = mmB κ := rfl
theorem mk_Mn (κ : SX) : xMn (fwX (mmX κ)) = xMn (mmX κ) := rfl
theorem tie_mb {κ : SX} (hec : ∀ e, xEc κ e < 16) : ∀ e, e < xN (fwX (mmX κ)) → xMb (fwX (mmX κ)) (xEc (fwX (mmX κ)) e) ≠ 0 := fun e he => by
  rw [mk_N] at he
  rw [mk_Mb, mk_Ec, mmB_ct κ (hec e)]
  have := ctE_pos (ec := xEc κ) he
  omega
theorem tie_hmn {κ : SX} {τ : SM} (h : Tie κ τ) : ∀ c, c < 16 → ∀ f, f < mF τ → mg 1057 (mMn (mmM (smC τ 0)) (16 * c + f)) := fun c hc f hf => by
  rw [h.1.1.1] at hf
  rw [(tie_mm h).2.2.1 c hc f (by rw [mk_F]; exact hf), mk_Mn]
  exact mm_mg κ h.2.1.1.2.2.1 h.2.1.2.2.1 c hc f hf
theorem rds_wB {κ : SX} (hec : ∀ e, xEc κ e < 16) (hN : xN κ ≤ 40) (hw : wB (xF κ) 1023 (xWt κ)) (r : Nat) (hr : r ≤ 20) : wB (xF κ) 1823 (rdsX κ r) := fun c f q =>
  mg_mono (rdsX_mg (K := 1023) (κ := κ) hec (Nat.le_refl _) hN hw r (by omega) c f q) (by omega)
theorem rd_bd {κ : SX} {τ : SM} (hS : Same κ τ) (hE : SameE κ τ) (hF : xF κ ≤ 16) (hec : ∀ e, xEc κ e < 16) (hmb : ∀ e, e < xN κ → xMb κ (xEc κ e) ≠ 0) (hN : xN κ ≤ 40) (hw : wB (xF κ) 1023 (xWt κ)) (r : Nat) (hr : r ≤ 20) (i : Nat) (hi : i ≤ xN κ) (c f : Nat) (hc : c < 16) (hf : f < xF κ) : mg 1900 (rdM τ (rdsM τ r) i (16 * c + f)) := by
  have d := rd_dm hS hE hF hec hmb (rds_dm hS hE hF hec hmb r) i hi c hc f hf
  rw [d]
  exact mg_mono (rdX_mg (κ := κ) (K := 1823) hec (by omega) (rds_wB hec hN hw r hr) i (by omega) c f ⟨hc, hf⟩) (by omega)
theorem tie_hbd {κ : SX} {τ : SM} (h : Tie κ τ) : ∀ r, r ≤ 20 → ∀ i, i ≤ mN τ → ∀ c f, c < 16 → f < mF τ → mg 1900 (rdM (mmM (smC τ 0)) (rdsM (mmM (smC τ 0)) r) i (16 * c + f)) := fun r hr i hi c f hc hf => by
  rw [h.1.1.1] at hf
  rw [h.1.2.1.1] at hi
  exact rd_bd (tie_mm h) (tie_mmE h) (by rw [mk_F]; exact h.2.1.1.2.1) (by rw [mk_Ec]; exact h.2.1.2.1) (tie_mb h.2.1.2.1) (by rw [mk_N]; exact h.2.1.1.2.2.1) (by rw [mk_F]; exact fw_mg (mmX κ)) r hr i (by rw [mk_N]; exact hi) c f hc (by rw [mk_F]; exact hf)
theorem mk_tie {κ : SX} {τ : SM} (hS : Same κ τ) (hE : SameE κ τ) (hF1 : 1 ≤ xF κ) (hF : xF κ ≤ 16) (hec : ∀ e, xEc κ e < 16) (hev : ∀ e f, xEv κ e f < 256) (hmb : ∀ e, e < xN κ → xMb κ (xEc κ e) ≠ 0) (hN : xN κ ≤ 40) (hN0 : 0 < xN κ) (hw : wB (xF κ) 1023 (xWt κ)) (hld : mMg τ = xLd κ) (hl5 : xLd κ ≤ 100000) (hsg : ∀ f, f < xF κ → mSg τ f = xSg κ f) (hs6 : ∀ f, xSg κ f < 256) (hb : ∀ c, c < 16 → xMb κ c ≤ 40) (hmn : ∀ c, c < 16 → ∀ f, f < xF κ → mg 1057 (xMn κ c f)) (hM : wfM τ) (j : Nat) (hj : j ≤ 20) : Tie (mkc (mkr κ j)) (mkcM (mkrM τ j)) := by
  have hrd := rds_dm hS hE hF hec hmb j
  have hS2 : Same (mkr κ j) (mkrM τ j) := ⟨hS.1, hS.2.1, hS.2.2.1, hrd⟩
  have hz : dm 16 (zrows (xCf κ) 16 (fun _ => 0) 16) (zline (mCf τ) 256) := fun a ha b hb9 => by rw [zline_in (by omega), zrows_in ha hb9]
  have hE2 : SameE (mkr κ j) (mkrM τ j) := hE
  have hcf := cf_dm (κ := mkr κ j) (τ := mkrM τ j) hS2 hE2 hec hmb hz (xN κ) (Nat.le_refl _)
  have hwj := rds_wB hec hN hw j hj
  have hcf2 : dm 16 (cfX (mkr κ j) (zrows (xCf κ) 16 (fun _ => 0) 16) (xN κ)) (cfM (mkrM τ j) (zline (mCf τ) 256) (mN τ)) := by
    rw [hE.1]
    exact hcf
  exact ⟨⟨⟨hS.1, hS.2.1, hS.2.2.1, hrd⟩, hE, ⟨rfl, hld⟩, hsg, hcf2⟩, ⟨⟨hF1, hF, hN, Nat.le_refl 1, hl5⟩, hec, hev, hs6, hb, fun q => absurd q Nat.one_ne_zero, fun _ => ⟨xEc κ 0, hec 0, hmb 0 hN0⟩, fun c hc f hf => ⟨mg_mono (hwj c f ⟨hc, hf⟩) (by omega), hmn c hc f hf⟩⟩, hM⟩
theorem tie_mk {κ : SX} {τ : SM} (h : Tie κ τ) (j : Nat) (hj : j < 21) (hN : 0 < xN κ) : Tie (mkX κ j) (mkM τ j) := by
  have hb := h.2.1.2.1
  refine mk_tie (κ := fwX (mmX κ)) (τ := mmM (smC τ 0)) (tie_mm h) (tie_mmE h) (by rw [mk_F]; exact h.2.1.1.1) (by rw [mk_F]; exact h.2.1.1.2.1) (by rw [mk_Ec]; exact hb) h.2.1.2.2.1 (tie_mb hb) (by rw [mk_N]; exact h.2.1.1.2.2.1) (by rw [mk_N]; exact hN) (by rw [mk_F]; exact fw_mg (mmX κ)) h.1.2.2.1.2 h.2.1.1.2.2.2.2 h.1.2.2.2.1 h.2.1.2.2.2.1 (fun c hc => ?_) (fun c hc f hf => ?_) ⟨h.2.2.1, h.2.2.2.1, fun c hc => ?_⟩ j (by omega)
  · rw [mk_Mb]
    have := mmB_le κ hc
    have := h.2.1.1.2.2.1
    omega
  · rw [mk_F] at hf
    rw [mk_Mn]
    exact mm_mg κ h.2.1.1.2.2.1 h.2.1.2.2.1 c hc f hf
  · rw [hsM_in _ hc]
    unfold hsV
    split <;> decide
theorem tie_makeV {κ κ' : SX} {τ τ' : SM} {x r r' : Int32} (h : Tie κ τ) (hx : mkP κ x r κ') (hm : mkQ τ x r' τ') : mC τ' = 0 ∧ r = r' ∧ Tie κ' τ' := by
  have hN := h.1.2.1.1
  rcases hx with ⟨j, hj, e1, h0, rfl, rfl⟩ | ⟨n1, rfl, rfl⟩
  · rcases hm with ⟨n2, -, -⟩ | ⟨j', hj', e2, ⟨q, -, -⟩ | ⟨q, rfl, rfl⟩⟩
    · exact absurd e1 (n2 j hj)
    · omega
    · obtain rfl : j = j' := ni16 (by omega) (by omega) (e1.symm.trans e2)
      exact ⟨rfl, rfl, tie_mk h j hj h0⟩
  · rcases hm with ⟨n2, rfl, rfl⟩ | ⟨j', hj', e2, -⟩
    · exact ⟨rfl, rfl, h⟩
    · exact absurd e2 (n1 j' hj')
theorem tie_makeX {κ : SX} {τ τ' : SM} {x r' : Int32} (h : Tie κ τ) (hx : mkT κ x) (hm : mkQ τ x r' τ') : mC τ' = 1 ∧ Tie κ τ' := by
  obtain ⟨j, hj, e1, h0⟩ := hx
  have hN := h.1.2.1.1
  rcases hm with ⟨n2, -, -⟩ | ⟨j', hj', e2, ⟨q, -, rfl⟩ | ⟨q, -, -⟩⟩
  · exact absurd e1 (n2 j hj)
  · exact ⟨rfl, h⟩
  · omega
/-- what the reference's contracts ask besides -/
theorem tie_ex {κ : SX} {τ : SM} (h : Tie κ τ) (q : 0 < mMd τ) : ∃ c, c < 16 ∧ 0 < mHs τ c := by
  rw [h.1.2.2.1.1] at q
  obtain ⟨c, hc, hb⟩ := h.2.1.2.2.2.2.2.2.1 q
  exact ⟨c, hc, Nat.pos_of_ne_zero ((h.1.1.2.1 c hc).mpr hb)⟩
theorem tie_mF {κ : SX} {τ : SM} (h : Tie κ τ) : mF τ ≤ 16 := by rw [h.1.1.1]; exact h.2.1.1.2.1
theorem tie_mN {κ : SX} {τ : SM} (h : Tie κ τ) : mN τ ≤ 40 := by rw [h.1.2.1.1]; exact h.2.1.1.2.2.1
theorem tie_mMd {κ : SX} {τ : SM} (h : Tie κ τ) : mMd τ ≤ 1 := by rw [h.1.2.2.1.1]; exact h.2.1.1.2.2.2.1
theorem tie_mHs {κ : SX} {τ : SM} (h : Tie κ τ) : ∀ c, c < 16 → mHs τ c < 2 ^ 31 := fun c hc => by have := h.2.2.2.2 c hc; omega
theorem tie_mSg {κ : SX} {τ : SM} (h : Tie κ τ) : ∀ f, f < mF τ → mSg τ f < 2 ^ 31 := fun f hf => by
  rw [h.1.1.1] at hf
  rw [h.1.2.2.2.1 f hf]
  have := h.2.1.2.2.2.1 f
  omega
theorem tie_xMb {κ : SX} {τ : SM} (h : Tie κ τ) : ∀ c, c < 16 → xMb κ c < 2 ^ 31 := fun c hc => by have := h.2.1.2.2.2.2.1 c hc; omega
theorem tie_xSg {κ : SX} {τ : SM} (h : Tie κ τ) : ∀ f, f < xF κ → xSg κ f < 2 ^ 31 := fun f _ => by have := h.2.1.2.2.2.1 f; omega
