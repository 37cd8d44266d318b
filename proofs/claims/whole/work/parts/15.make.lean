theorem rdX_wt (κ : SX) (a w : Nat → Nat → UInt64) : ∀ k, rdX (sxWt κ a) w k = rdX κ w k
  | 0 => rfl
  | k + 1 => by
    rw [rdX, rdX, rdX_wt κ a w k]
    rfl
theorem mm_mg (κ : SX) (hN : xN κ ≤ 40) (hev : ∀ e f, xEv κ e f < 256) : ∀ c, c < 16 → ∀ f, f < xF κ → mg 1057 (xMn (mmX κ) c f) := by
  intro c hc f hf
  show mg 1057 (dvE (xF κ) (mmB κ) (mmS κ) 16 c f)
  have h1 := mmB_le κ hc
  rw [dvE_in hc hf, mmS_sm κ hN hev hc hf]
  split
  · rename_i h0
    exact mg_ddiv _ (nI_ne0 h0 (by omega))
  · exact mg_mono (mg_i2d _) (by decide)
theorem fw_mg (κ : SX) : wB (xF κ) 1023 (xWt (fwX κ)) := by
  intro c f h
  show mg 1023 (zrows (xWt κ) (xF κ) (fun c => if 0 < xMb κ c then FP.dconst1 else FP.dconst0) 16 c f)
  rw [zrows_in h.1 h.2]
  split
  · exact mg_1
  · exact mg_mono mg_0 (by decide)
/-- the making with j rounds -/
def mkr (κ : SX) (j : Nat) : SX := sxWt κ (rdsX κ j)
def mkc (κ : SX) : SX := sxMd (sxCf κ (cfX κ (zrows (xCf κ) 16 (fun _ => 0) 16) (xN κ))) 1
def mkX (κ : SX) (j : Nat) : SX := mkc (mkr (fwX (mmX κ)) j)
def mkP (κ : SX) (x r : Int32) (κ' : SX) : Prop := (∃ j : Nat, j < 21 ∧ x = nI j ∧ 0 < xN κ ∧ r = nI 1 ∧ κ' = mkX κ j) ∨ ((∀ j : Nat, j < 21 → x ≠ nI j) ∧ r = -12 ∧ κ' = κ)
set_option maxHeartbeats 4000000 in
set_option maxRecDepth 100000 in
theorem lp_X0_make {p : Program} {l : Launch} {e : Env} {R : Room} {s : State} {m : MethodId} {args : Array Value} {below : List Frame} {meth : Method} {c : Code} {Q : State → Prop} {E : zE} {ad : Nat → Nat} (hx : p.tables.exec = Jvm.exec) (hb : c.code = cX0_make) (hml : c.maxLocals = 3) (hts : ∀ w ∈ wsX0_make, w.before args s = true) (hown : s.vm.findClass RX0 = some m.cls) (hK : zK E s) (hap : apart 96 ad) {H0 : Heap} (hRf : 4 ≤ R.frames) (hRl : 97 ≤ R.locals) (κ : SX) (j9 : Nat) (hj9 : j9 < 21) (hF : xF κ ≤ 16) (hN : xN κ ≤ 40) (hec : ∀ e, xEc κ e < 16) (hmb : ∀ c, c < 16 → xMb κ c < 2 ^ 31) (hwB : wB (xF κ) 1023 (xWt κ)) (hmn : ∀ c, c < 16 → ∀ f, f < xF κ → mg 1057 (xMn κ c f))
    (exit : ∀ (H : Heap) (locs : List Loc) (ls : Array Slot), PX E ad (sxWt κ (rdsX κ j9)) H → va_S (aX 96 ad) H0 H locs → lv_has ls 3 [(0, .ref (ad 0)), (1, .int (nI (j9)))] → W p l e R s m args below meth c H locs 0 0 Q (F0 m 55 ls [])) :
    ∀ (n i : Nat) (H : Heap) (locs : List Loc) (ls : Array Slot), i ≤ j9 → j9 - i < n → PX E ad (sxWt κ (rdsX κ i)) H → va_S (aX 96 ad) H0 H locs → lv_has ls 3 [(2, .int (nI (i))), (0, .ref (ad 0)), (1, .int (nI (j9)))] → W p l e R s m args below meth c H locs 0 0 Q (F0 m 40 ls []) := by
  have hA : ∀ k, k < 96 → aX 96 ad (ad k) := fun k hk => ⟨k, hk, rfl⟩
  intro n
  induction n with
  | zero => intro i H locs ls h1 h2; omega
  | succ n ih =>
    intro i H locs ls hi hn hP hS hl
    refine lv_iload_n hx hb dX0_make_40 rfl (lv_at hl 0 rfl) ?_
    refine lv_iload_n hx hb dX0_make_41 rfl (lv_at hl 2 rfl) ?_
    refine zb_ge (tgt := 55) hx hb (show i < 2 ^ 31 by omega) (show j9 < 2 ^ 31 by omega) dX0_make_42 (by decide) (fun h => ?_) (fun h => ?_)
    · have h : j9 ≤ i := h
      have hend : i = j9 := by omega
      subst hend
      exact exit _ _ _ hP hS (lv_sub hl [1, 2] rfl)
    · have h : i < j9 := h
      refine lv_aload_n hx hb dX0_make_45 rfl (lv_at hl 1 rfl) ?_
      refine va_callv (va_runV (As := []) (rest := []) ⟨hx, hb, hml, hown, hts⟩ (kX0_goRound l E ad hap (sxWt κ (rdsX κ i)) (1023 + 40 * i) hF hN hec hmb (by omega) (by omega) (rdsX_mg (κ := κ) (K := 1023) hec (by omega) hN hwB i (by omega)) hmn) (cwV 0 hts gX0_make_X0_goRound rfl rfl rfl (by decide +kernel) ⟨Nat.le_trans (Nat.le_of_ble_eq_true rfl) hRf, Nat.le_trans (Nat.le_of_ble_eq_true rfl) hRl⟩) (zpx hK hP) rfl rfl hl.1 rfl (lv_room (Nat.le_of_ble_eq_true rfl)) dX0_make_46 ⟨Nat.zero_le _, Nat.zero_le _⟩) hS (fun q _ h => h) (fun q h => h) (fun u9 t9 H locs ht9 hvm9 hw9 hB9 hz9 hk9 hS => ?_)
      rw [ht9] at hB9
      have hP := hB9
      subst hw9
      have e8 : rdsX κ (i + 1) = rdX (sxWt κ (rdsX κ i)) (rdsX κ i) (xN κ) := (rdX_wt κ _ _ _).symm
      refine lv_iinc (v := nI (i + 1)) (lv' := [(2, .int (nI (i + 1))), (0, .ref (ad 0)), (1, .int (nI (j9)))]) hx hb dX0_make_49 hl (k := 0) rfl (nI_1 _) (by decide) rfl (fun ls hl => ?_)
      refine lv_goto (tgt := 40) hx hb dX0_make_52 (by decide) ?_
      exact ih (i + 1) _ _ _ (by omega) (by omega) (by rw [e8]; exact hP) hS (lv_sub hl [0, 1, 2] rfl)
def mkT (κ : SX) (x : Int32) : Prop := ∃ j : Nat, j < 21 ∧ x = nI j ∧ xN κ = 0
set_option maxHeartbeats 4000000 in
set_option maxRecDepth 100000 in
theorem kX0_make (l : Launch) (hst9 : l.stackTraces = false) (E : zE) (ad : Nat → Nat) (hap : apart 96 ad) (κ : SX) (x : Int32) (hF : xF κ ≤ 16) (hN : xN κ ≤ 40) (hec : ∀ e, xEc κ e < 16) (hev : ∀ e f, xEv κ e f < 256) : vx_Met l yX0_make wsX0_make ({ frames := 6, cells := 1, slots := 6, locals := 97 }) (va_Pc [.ref (ad 0), .int (x)] (fun U => PX E ad κ U.heap ∧ zK E U ∧ zTh (aX 96 ad) U)) (va_Qi (fun (r : Int32) (κ' : SX) => mkP κ x r κ') (fun κ' t => PX E ad κ' t.heap) (aX 96 ad)) (vx_X (fun _ : Unit => mkT κ x) (fun E9 _ t => E9 = "java/lang/ArithmeticException" ∧ PX E ad κ t.heap) (aX 96 ad)) 1 6 (aX 96 ad) := by
  refine vx_ofW (cc := cX0_make) (maxL := 3) (ret := some .int) (by decide) rfl ?_
  intro p e s m args below meth c s₁ B hml hno9 hv
  obtain ⟨rfl, hP, hK, hT9⟩ := hv
  have hx := B.exec
  have hb := B.bytes
  have hr := B.returns
  have hts := atoms_spec (ws := wsX0_make) B.pre
  have hown : s.vm.findClass RX0 = some m.cls := findClass_of_methodNamed B.named
  have hlocks := B.notSynchronized
  have hS : va_S (aX 96 ad) s.heap s.heap [] := va_S.rf
  have hA : ∀ k, k < 96 → aX 96 ad (ad k) := fun k hk => ⟨k, hk, rfl⟩
  have hRf : 6 ≤ ((headSpec wsX0_make ({ frames := 6, cells := 1, slots := 6, locals := 97 })).room).frames := Nat.le_of_ble_eq_true rfl
  have hRl : 97 ≤ ((headSpec wsX0_make ({ frames := 6, cells := 1, slots := 6, locals := 97 })).room).locals := Nat.le_of_ble_eq_true rfl
  have hl := lv_entry ([.ref (ad 0), .int (x)]) (n := 3) (Nat.le_of_ble_eq_true rfl)
  rw [lg_entry_eq]
  generalize (lg_sl ([.ref (ad 0), .int (x)]) ++ List.replicate (3 - (lg_sl ([.ref (ad 0), .int (x)])).length) Slot.unset).toArray = ls at hl ⊢
  have hl : lv_has ls 3 [(0, .ref (ad 0)), (1, .int (x))] := hl
  refine lv_iload_n hx hb dX0_make_0 rfl (lv_at hl 1 rfl) ?_
  refine lv_if_lt (tgt := 10) hx hb dX0_make_1 (by decide) (fun h => ?_) (fun h => ?_)
  · refine lv_bipush (v := -12) hx hb dX0_make_10 (by decide +kernel) ?_
    refine W.widen (k := 1) (n := 6) (by omega) (by omega) (vx_ret ?_)
    exact W.iret hx hb hr (fun t ht hW => ⟨⟨_, κ, rfl, Or.inr ⟨fun j hj e => nI_pos (show j < 2 ^ 31 by omega) (e ▸ h), rfl, rfl⟩, (wn_h ht hP)⟩, hS.F ht⟩) hS.2.2 dX0_make_12
  · refine lv_iload_n hx hb dX0_make_4 rfl (lv_at hl 1 rfl) ?_
    refine lv_bipush (v := nI 20) hx hb dX0_make_5 (by decide +kernel) ?_
    refine lv_icmp_le (tgt := 13) hx hb dX0_make_7 (by decide) (fun h2 => ?_) (fun h2 => ?_)
    · obtain ⟨j, hj, rfl⟩ : ∃ j : Nat, j < 21 ∧ x = nI j := by
        rcases pk_ix x (n := 21) (by decide) with q | q | ⟨j, hj, e⟩
        · exact absurd q h
        · have q1 := Int32.le_trans q h2; exact absurd q1 (by decide)
        · exact ⟨j, hj, e⟩
      refine lv_aload_n hx hb dX0_make_13 rfl (lv_at hl 0 rfl) ?_
      refine gx hx hb hts innX0_make hown hK hP 3 (by decide) (by decide +kernel) rfl (v := .int (nI ((xN κ)))) rfl dX0_make_14 ?_
      refine zu_ne (tgt := 30) hx hb (show (xN κ) < 2 ^ 31 by omega) dX0_make_17 (by decide) (fun h3 => ?_) (fun h3 => ?_)
      · have h3 : 0 < (xN κ) := h3
        refine lv_aload_n hx hb dX0_make_30 rfl (lv_at hl 0 rfl) ?_
        refine va_callv (va_runV (As := []) (rest := []) ⟨hx, hb, hml, hown, hts⟩ (kX0_makeMeans l E ad hap κ hF hN hec hev) (cwV 0 hts gX0_make_X0_makeMeans rfl rfl rfl (by decide +kernel) ⟨Nat.le_trans (Nat.le_of_ble_eq_true rfl) hRf, Nat.le_trans (Nat.le_of_ble_eq_true rfl) hRl⟩) (zpx hK hP) rfl rfl hl.1 rfl (lv_room (Nat.le_of_ble_eq_true rfl)) dX0_make_31 ⟨Nat.zero_le _, Nat.zero_le _⟩) hS (fun q _ h => h) (fun q h => h) (fun u9 t9 H locs ht9 hvm9 hw9 hB9 hz9 hk9 hS => ?_)
        rw [ht9] at hB9
        have hP := hB9
        subst hw9
        obtain ⟨κ0, hk0⟩ : ∃ z, z = mmX κ := ⟨_, rfl⟩
        rw [← hk0] at hP
        have hF0 : xF κ0 ≤ 16 := by rw [hk0]; exact hF
        have hmb0 : ∀ c, c < 16 → xMb κ0 c < 2 ^ 31 := by rw [hk0]; exact fun c hc => by have := mmB_le κ hc; show mmB κ c < 2 ^ 31; omega
        refine lv_aload_n hx hb dX0_make_34 rfl (lv_at hl 0 rfl) ?_
        refine va_callv (va_runV (As := []) (rest := []) ⟨hx, hb, hml, hown, hts⟩ (kX0_makeFirstWeights l E ad hap κ0 hF0 hmb0) (cwV 0 hts gX0_make_X0_makeFirstWeights rfl rfl rfl (by decide +kernel) ⟨Nat.le_trans (Nat.le_of_ble_eq_true rfl) hRf, Nat.le_trans (Nat.le_of_ble_eq_true rfl) hRl⟩) (zpx hK hP) rfl rfl hl.1 rfl (lv_room (Nat.le_of_ble_eq_true rfl)) dX0_make_35 ⟨Nat.zero_le _, Nat.zero_le _⟩) hS (fun q _ h => h) (fun q h => h) (fun u9 t9 H locs ht9 hvm9 hw9 hB9 hz9 hk9 hS => ?_)
        rw [ht9] at hB9
        have hP := hB9
        subst hw9
        obtain ⟨κ1, hk1⟩ : ∃ z, z = fwX κ0 := ⟨_, rfl⟩
        rw [← hk1] at hP
        have hF1 : xF κ1 ≤ 16 := by rw [hk1]; exact hF0
        have hN1 : xN κ1 ≤ 40 := by rw [hk1, hk0]; exact hN
        have hec1 : ∀ e, xEc κ1 e < 16 := by rw [hk1, hk0]; exact hec
        have hmb1 : ∀ c, c < 16 → xMb κ1 c < 2 ^ 31 := by rw [hk1]; exact hmb0
        have hwB1 : wB (xF κ1) 1023 (xWt κ1) := by rw [hk1]; exact fw_mg κ0
        have hmn1 : ∀ c, c < 16 → ∀ f, f < xF κ1 → mg 1057 (xMn κ1 c f) := by rw [hk1, hk0]; exact mm_mg κ hN hev
        refine lv_iconst (v := nI 0) hx hb dX0_make_38 (by decide +kernel) ?_
        refine lv_istore_n (lv' := [(2, .int (nI (0))), (0, .ref (ad 0)), (1, .int (nI (j)))]) hx hb dX0_make_39 rfl hl (by decide) rfl (fun ls hl => ?_)
        refine lp_X0_make hx hb hml hts hown hK hap (Nat.le_trans (Nat.le_of_ble_eq_true rfl) hRf) (Nat.le_trans (Nat.le_of_ble_eq_true rfl) hRl) κ1 j hj hF1 hN1 hec1 hmb1 hwB1 hmn1 (fun H locs ls hP hS hl => ?_) (j + 1) 0 _ _ _ (by omega) (by omega) hP hS (lv_sub hl [0, 1, 2] rfl)
        obtain ⟨κ2, hk2⟩ : ∃ z, z = mkr κ1 j := ⟨_, rfl⟩
        have hP : PX E ad κ2 H := by rw [hk2]; exact hP
        have hF2 : xF κ2 ≤ 16 := by rw [hk2]; exact hF1
        have hN2 : xN κ2 ≤ 40 := by rw [hk2]; exact hN1
        have hec2 : ∀ e, xEc κ2 e < 16 := by rw [hk2]; exact hec1
        have hmb2 : ∀ c, c < 16 → xMb κ2 c < 2 ^ 31 := by rw [hk2]; exact hmb1
        have hwB2 : wB (xF κ2) (1023 + 40 * j) (xWt κ2) := by rw [hk2]; exact rdsX_mg (κ := κ1) (K := 1023) hec1 (by omega) hN1 hwB1 j (by omega)
        have hmn2 : ∀ c, c < 16 → ∀ f, f < xF κ2 → mg 1057 (xMn κ2 c f) := by rw [hk2]; exact hmn1
        refine lv_aload_n hx hb dX0_make_55 rfl (lv_at hl 0 rfl) ?_
        refine va_callv (va_runV (As := []) (rest := []) ⟨hx, hb, hml, hown, hts⟩ (kX0_countConfusions l E ad hap κ2 (1023 + 40 * j) hF2 hN2 hec2 hmb2 (by omega) (by omega) hwB2 hmn2) (cwV 0 hts gX0_make_X0_countConfusions rfl rfl rfl (by decide +kernel) ⟨Nat.le_trans (Nat.le_of_ble_eq_true rfl) hRf, Nat.le_trans (Nat.le_of_ble_eq_true rfl) hRl⟩) (zpx hK hP) rfl rfl hl.1 rfl (lv_room (Nat.le_of_ble_eq_true rfl)) dX0_make_56 ⟨Nat.zero_le _, Nat.zero_le _⟩) hS (fun q _ h => h) (fun q h => h) (fun u9 t9 H locs ht9 hvm9 hw9 hB9 hz9 hk9 hS => ?_)
        rw [ht9] at hB9
        have hP := hB9
        subst hw9
        obtain ⟨κ3, hk3⟩ : ∃ z, z = sxCf κ2 (cfX κ2 (zrows (xCf κ2) 16 (fun _ => 0) 16) (xN κ2)) := ⟨_, rfl⟩
        rw [← hk3] at hP
        refine lv_aload_n hx hb dX0_make_59 rfl (lv_at hl 0 rfl) ?_
        refine lv_iconst (v := nI 1) hx hb dX0_make_60 (by decide +kernel) ?_
        refine gxput hx hb hts innX0_make hown hK hP hap hA hS 6 (by decide) (by decide +kernel) rfl rfl (v := .int (nI (1))) rfl rfl (by show 6 < (List.length _); exact Nat.le_of_ble_eq_true rfl) dX0_make_61 (fun H locs hP hS => ?_)
        have hP := px_md hP
        refine lv_iconst (v := nI 1) hx hb dX0_make_64 (by decide +kernel) ?_
        have e9 : mkX κ j = sxMd κ3 1 := by rw [hk3, hk2, hk1, hk0]; rfl
        have hP : PX E ad (mkX κ j) H := by rw [e9]; exact hP
        refine W.widen (k := 1) (n := 6) (by omega) (by omega) (vx_ret ?_)
        exact W.iret hx hb hr (fun t ht hW => ⟨⟨_, (mkX κ j), rfl, Or.inl ⟨j, hj, rfl, h3, rfl, rfl⟩, (wn_h ht hP)⟩, hS.F ht⟩) hS.2.2 dX0_make_65
      · have h3 : (xN κ) = 0 := h3
        obtain ⟨sa9, hsa9⟩ := hT9.2.2.2.2.1
        refine vx_throwS (own := RX0) (cls := "java/lang/ArithmeticException") (text := "no examples") (names := nmA) (ik := 60) (is := 62) (ic := 64) (sa := sa9) (A := aX 96 ad) hx hb hst9 hown fitA fitNA (hts (.classLink RX0 60 "java/lang/ArithmeticException") (by decide +kernel)) (hts (.initialized "java/lang/ArithmeticException") (by decide +kernel)) hsa9 (vx_hat (fun w hw => hts w (atg_X0_make w hw)) atA_bad (atB_use hT9)) (List.all_eq_true.mp atA_ot) hT9.2.1 hT9.2.2.1 hS (hl.1.trans hml.symm) dX0_make_20 dX0_make_23 dX0_make_24 dX0_make_26 dX0_make_29 (fun x9 h9 => (hno9 x9 h9).elim) (Nat.lt_of_lt_of_le (show List.length nmA + 3 < 6 by decide +kernel) hRf) (Nat.le_trans (Nat.le_of_ble_eq_true rfl) hRl) (Nat.le_of_ble_eq_true rfl) (Nat.le_of_ble_eq_true rfl) hlocks (fun t9 hvm9 hsz9 hq9 => ⟨(), ⟨j, hj, rfl, h3⟩, ⟨rfl, zPx hP hq9⟩, zFx hS hsz9 hq9⟩) hS.2.2 (Nat.le_of_ble_eq_true rfl) (Nat.le_of_ble_eq_true rfl)
    · refine lv_bipush (v := -12) hx hb dX0_make_10 (by decide +kernel) ?_
      refine W.widen (k := 1) (n := 6) (by omega) (by omega) (vx_ret ?_)
      exact W.iret hx hb hr (fun t ht hW => ⟨⟨_, κ, rfl, Or.inr ⟨fun j hj e => h2 (by rw [e]; exact nI_le (by omega) (by decide)), rfl, rfl⟩, (wn_h ht hP)⟩, hS.F ht⟩) hS.2.2 dX0_make_12
