def ftP (κ : SX) (x y z : Int32) (κ' : SX) : Prop := ∃ i j : Nat, i < xN κ ∧ j < xF κ ∧ x = nI i ∧ y = nI j ∧ κ' = sxEv κ (up2 (xEv κ) i j (lbN z))
def ftX (κ : SX) (x y : Int32) : Prop := ¬ ∃ i j : Nat, i < xN κ ∧ j < xF κ ∧ x = nI i ∧ y = nI j
set_option maxHeartbeats 4000000 in
set_option maxRecDepth 100000 in
theorem kX0_feature (l : Launch) (hst9 : l.stackTraces = false) (E : zE) (ad : Nat → Nat) (hap : apart 96 ad) (κ : SX) (x y z : Int32) (hF : xF κ ≤ 16) (hN : xN κ ≤ 40) : vx_Met l yX0_feature wtX0_feature ({ frames := 7, cells := 1, slots := 6, locals := 95 }) (va_Pc [.ref (ad 0), .int (x), .int (y), .int (z)] (fun U => PX E ad κ U.heap ∧ zK E U ∧ zTh (aX 96 ad) U)) (va_Qv (fun κ' : SX => ftP κ x y z κ') (fun κ' t => PX E ad κ' t.heap) (aX 96 ad)) (vx_X (fun _ : Unit => ftX κ x y) (fun E9 _ t => E9 = RJx00060 ∧ PX E ad κ t.heap) (aX 96 ad)) 1 6 (aX 96 ad) := by
  refine vx_ofW (cc := cX0_feature) (maxL := 4) (ret := none) (by decide) rfl ?_
  intro p e s m args below meth c s₁ B hml hno9 hv
  obtain ⟨rfl, hP, hK, hT9⟩ := hv
  have hx := B.exec
  have hb := B.bytes
  have hr := B.returns
  have hts := atoms_spec (ws := wtX0_feature) B.pre
  have hown : s.vm.findClass RX0 = some m.cls := findClass_of_methodNamed B.named
  have hlocks := B.notSynchronized
  have hS : va_S (aX 96 ad) s.heap s.heap [] := va_S.rf
  have hA : ∀ k, k < 96 → aX 96 ad (ad k) := fun k hk => ⟨k, hk, rfl⟩
  have hRf : 7 ≤ ((headSpec wtX0_feature ({ frames := 7, cells := 1, slots := 6, locals := 95 })).room).frames := Nat.le_of_ble_eq_true rfl
  have hRl : 95 ≤ ((headSpec wtX0_feature ({ frames := 7, cells := 1, slots := 6, locals := 95 })).room).locals := Nat.le_of_ble_eq_true rfl
  have hl := lv_entry ([.ref (ad 0), .int (x), .int (y), .int (z)]) (n := 4) (Nat.le_of_ble_eq_true rfl)
  rw [lg_entry_eq]
  generalize (lg_sl ([.ref (ad 0), .int (x), .int (y), .int (z)]) ++ List.replicate (4 - (lg_sl ([.ref (ad 0), .int (x), .int (y), .int (z)])).length) Slot.unset).toArray = ls at hl ⊢
  have hl : lv_has ls 4 [(0, .ref (ad 0)), (1, .int (x)), (2, .int (y)), (3, .int (z))] := hl
  refine lv_iload_n hx hb dX0_feature_0 rfl (lv_at hl 1 rfl) ?_
  refine lv_if_lt (tgt := 20) hx hb dX0_feature_1 (by decide) (fun h => ?_) (fun h => ?_)
  · obtain ⟨sa9, hsa9⟩ := hT9.2.2.2.1
    refine vx_throwS (own := RX0) (cls := RJx00060) (text := "no such example or feature") (names := nmI) (ik := 49) (is := 51) (ic := 53) (sa := sa9) (A := aX 96 ad) hx hb hst9 hown fitI fitNI (hts (.classLink RX0 49 RJx00060) (by decide +kernel)) (hts (.initialized RJx00060) (by decide +kernel)) hsa9 (vx_hat (fun w hw => hts w (atg_X0_feature w hw)) atI_bad (atB_use hT9)) (List.all_eq_true.mp atI_ot) hT9.2.1 hT9.2.2.1 hS (hl.1.trans hml.symm) dX0_feature_20 dX0_feature_23 dX0_feature_24 dX0_feature_26 dX0_feature_29 (fun x9 h9 => (hno9 x9 h9).elim) (Nat.lt_of_lt_of_le (show List.length nmI + 3 < 7 by decide +kernel) hRf) (Nat.le_trans (Nat.le_of_ble_eq_true rfl) hRl) (Nat.le_of_ble_eq_true rfl) (Nat.le_of_ble_eq_true rfl) hlocks (fun t9 hvm9 hsz9 hq9 => ⟨(), fun ⟨i, j, h1, _, h3, _⟩ => nI_pos (show i < 2 ^ 31 by omega) (h3 ▸ h), ⟨rfl, zPx hP hq9⟩, zFx hS hsz9 hq9⟩) hS.2.2 (Nat.le_of_ble_eq_true rfl) (Nat.le_of_ble_eq_true rfl)
  · refine lv_iload_n hx hb dX0_feature_4 rfl (lv_at hl 1 rfl) ?_
    refine lv_aload_n hx hb dX0_feature_5 rfl (lv_at hl 0 rfl) ?_
    refine gx hx hb hts intX0_feature hown hK hP 3 (by decide) (by decide +kernel) rfl (v := .int (nI ((xN κ)))) rfl dX0_feature_6 ?_
    refine lv_icmp_ge (tgt := 20) hx hb dX0_feature_9 (by decide) (fun h2 => ?_) (fun h2 => ?_)
    · obtain ⟨sa9, hsa9⟩ := hT9.2.2.2.1
      refine vx_throwS (own := RX0) (cls := RJx00060) (text := "no such example or feature") (names := nmI) (ik := 49) (is := 51) (ic := 53) (sa := sa9) (A := aX 96 ad) hx hb hst9 hown fitI fitNI (hts (.classLink RX0 49 RJx00060) (by decide +kernel)) (hts (.initialized RJx00060) (by decide +kernel)) hsa9 (vx_hat (fun w hw => hts w (atg_X0_feature w hw)) atI_bad (atB_use hT9)) (List.all_eq_true.mp atI_ot) hT9.2.1 hT9.2.2.1 hS (hl.1.trans hml.symm) dX0_feature_20 dX0_feature_23 dX0_feature_24 dX0_feature_26 dX0_feature_29 (fun x9 h9 => (hno9 x9 h9).elim) (Nat.lt_of_lt_of_le (show List.length nmI + 3 < 7 by decide +kernel) hRf) (Nat.le_trans (Nat.le_of_ble_eq_true rfl) hRl) (Nat.le_of_ble_eq_true rfl) (Nat.le_of_ble_eq_true rfl) hlocks (fun t9 hvm9 hsz9 hq9 => ⟨(), fun ⟨i, j, h1, _, h3, _⟩ => nI_ge h1 (by omega) (h3 ▸ h2), ⟨rfl, zPx hP hq9⟩, zFx hS hsz9 hq9⟩) hS.2.2 (Nat.le_of_ble_eq_true rfl) (Nat.le_of_ble_eq_true rfl)
    · obtain ⟨i, hi, rfl⟩ := (pk_ix x (n := xN κ) (by omega)).resolve_left h |>.resolve_left h2
      refine lv_aload_n hx hb dX0_feature_12 rfl (lv_at hl 0 rfl) ?_
      refine lv_iload_n hx hb dX0_feature_13 rfl (lv_at hl 2 rfl) ?_
      refine va_calli (va_runV (As := [.int (y)]) (rest := []) ⟨hx, hb, hml, hown, hts⟩ (kX0_isFeature l E ad hap κ y hF) (cwV 1 hts gtX0_feature_X0_isFeature rfl rfl rfl (by decide +kernel) ⟨Nat.le_trans (Nat.le_of_ble_eq_true rfl) hRf, Nat.le_trans (Nat.le_of_ble_eq_true rfl) hRl⟩) (zpx hK hP) rfl rfl hl.1 rfl (lv_room (Nat.le_of_ble_eq_true rfl)) dX0_feature_14 ⟨Nat.zero_le _, Nat.zero_le _⟩) hS (fun q _ h => h.elim) (fun q h => h.elim) (fun r u9 t9 H locs ht9 hvm9 hw9 hB9 hz9 hk9 hS => ?_)
      have hP := wn_ro hP hk9
      rcases hw9 with ⟨j, hj, rfl, rfl⟩ | ⟨hno, rfl⟩
      · refine zu_ne (tgt := 30) hx hb (show 1 < 2 ^ 31 by omega) dX0_feature_17 (by decide) (fun h3 => ?_) (fun h3 => ?_)
        · have h3 : 0 < 1 := h3
          refine lv_aload_n hx hb dX0_feature_30 rfl (lv_at hl 0 rfl) ?_
          refine gx hx hb hts intX0_feature hown hK hP 2 (by decide) (by decide +kernel) rfl (v := .ref (ad 2)) rfl dX0_feature_31 ?_
          refine lv_iload_n hx hb dX0_feature_34 rfl (lv_at hl 1 rfl) ?_
          refine z_aald 1 hx hb hK hP 2 (by decide) cx_evO rfl rfl (show i < 40 by omega) (by decide) (if_pos (show i < 40 by omega)) dX0_feature_35 ?_
          refine lv_iload_n hx hb dX0_feature_36 rfl (lv_at hl 2 rfl) ?_
          refine lv_iload_n hx hb dX0_feature_37 rfl (lv_at hl 3 rfl) ?_
          refine va_calli (va_runS (As := [.int (z)]) (rest := [.int (nI (j)), .ref (ad (3 + i))]) ⟨hx, hb, hml, hown, hts⟩ (kX0_lowestByte l z) (va_cwS 1 hts gtX0_feature_X0_lowestByte rfl rfl rfl (by decide +kernel) ⟨Nat.le_trans (Nat.le_of_ble_eq_true rfl) hRf, Nat.le_trans (Nat.le_of_ble_eq_true rfl) hRl⟩) zps rfl rfl hl.1 rfl (lv_room (Nat.le_of_ble_eq_true rfl)) dX0_feature_38 ⟨Nat.zero_le _, Nat.zero_le _⟩) hS (fun q _ h => h.elim) (fun q h => h.elim) (fun r u9 t9 H locs ht9 hvm9 hw9 hB9 hz9 hk9 hS => ?_)
          have hP := wn_ro hP hk9
          subst hw9
          refine z_iast hx hb hK hP hap hA hS (3 + i) (show 3 + i < 96 by omega) (cx_ev (show i < 40 by omega)) (show j < xF κ by omega) (show xF κ < 2 ^ 31 by omega) dX0_feature_41 (fun H locs hP hS => ?_)
          have hP := px_ev (show i < 40 by omega) hP
          refine W.widen (k := 1) (n := 6) (by omega) (by omega) (vx_ret ?_)
          exact W.vret hx hb hr (fun t ht hW => ⟨⟨_, rfl, ⟨i, j, hi, hj, rfl, rfl, rfl⟩, (wn_h ht hP)⟩, hS.F ht⟩) hS.2.2 dX0_feature_42
        · have h3 : 1 = 0 := h3
          exact absurd h3 (by decide)
      · refine zu_ne (tgt := 30) hx hb (show 0 < 2 ^ 31 by omega) dX0_feature_17 (by decide) (fun h3 => ?_) (fun h3 => ?_)
        · have h3 : 0 < 0 := h3
          exact absurd h3 (by decide)
        · have h3 : 0 = 0 := h3
          obtain ⟨sa9, hsa9⟩ := hT9.2.2.2.1
          refine vx_throwS (own := RX0) (cls := RJx00060) (text := "no such example or feature") (names := nmI) (ik := 49) (is := 51) (ic := 53) (sa := sa9) (A := aX 96 ad) hx hb hst9 hown fitI fitNI (hts (.classLink RX0 49 RJx00060) (by decide +kernel)) (hts (.initialized RJx00060) (by decide +kernel)) hsa9 (vx_hat (fun w hw => hts w (atg_X0_feature w hw)) atI_bad (atB_use hT9)) (List.all_eq_true.mp atI_ot) hT9.2.1 hT9.2.2.1 hS (hl.1.trans hml.symm) dX0_feature_20 dX0_feature_23 dX0_feature_24 dX0_feature_26 dX0_feature_29 (fun x9 h9 => (hno9 x9 h9).elim) (Nat.lt_of_lt_of_le (show List.length nmI + 3 < 7 by decide +kernel) hRf) (Nat.le_trans (Nat.le_of_ble_eq_true rfl) hRl) (Nat.le_of_ble_eq_true rfl) (Nat.le_of_ble_eq_true rfl) hlocks (fun t9 hvm9 hsz9 hq9 => ⟨(), fun ⟨_, j, _, h6, _, h7⟩ => hno j h6 h7, ⟨rfl, zPx hP hq9⟩, zFx hS hsz9 hq9⟩) hS.2.2 (Nat.le_of_ble_eq_true rfl) (Nat.le_of_ble_eq_true rfl)
def sgP (κ : SX) (x z : Int32) (κ' : SX) : Prop := ∃ j : Nat, j < xF κ ∧ x = nI j ∧ κ' = sxSg κ (va_up (xSg κ) j (lbN z))
def sgX (κ : SX) (x : Int32) : Prop := ¬ ∃ j : Nat, j < xF κ ∧ x = nI j
set_option maxHeartbeats 4000000 in
set_option maxRecDepth 100000 in
theorem kX0_sign (l : Launch) (hst9 : l.stackTraces = false) (E : zE) (ad : Nat → Nat) (hap : apart 96 ad) (κ : SX) (x z : Int32) (hF : xF κ ≤ 16) : vx_Met l yX0_sign wtX0_sign ({ frames := 7, cells := 1, slots := 6, locals := 95 }) (va_Pc [.ref (ad 0), .int (x), .int (z)] (fun U => PX E ad κ U.heap ∧ zK E U ∧ zTh (aX 96 ad) U)) (va_Qv (fun κ' : SX => sgP κ x z κ') (fun κ' t => PX E ad κ' t.heap) (aX 96 ad)) (vx_X (fun _ : Unit => sgX κ x) (fun E9 _ t => E9 = RJx00060 ∧ PX E ad κ t.heap) (aX 96 ad)) 1 6 (aX 96 ad) := by
  refine vx_ofW (cc := cX0_sign) (maxL := 3) (ret := none) (by decide) rfl ?_
  intro p e s m args below meth c s₁ B hml hno9 hv
  obtain ⟨rfl, hP, hK, hT9⟩ := hv
  have hx := B.exec
  have hb := B.bytes
  have hr := B.returns
  have hts := atoms_spec (ws := wtX0_sign) B.pre
  have hown : s.vm.findClass RX0 = some m.cls := findClass_of_methodNamed B.named
  have hlocks := B.notSynchronized
  have hS : va_S (aX 96 ad) s.heap s.heap [] := va_S.rf
  have hA : ∀ k, k < 96 → aX 96 ad (ad k) := fun k hk => ⟨k, hk, rfl⟩
  have hRf : 7 ≤ ((headSpec wtX0_sign ({ frames := 7, cells := 1, slots := 6, locals := 95 })).room).frames := Nat.le_of_ble_eq_true rfl
  have hRl : 95 ≤ ((headSpec wtX0_sign ({ frames := 7, cells := 1, slots := 6, locals := 95 })).room).locals := Nat.le_of_ble_eq_true rfl
  have hl := lv_entry ([.ref (ad 0), .int (x), .int (z)]) (n := 3) (Nat.le_of_ble_eq_true rfl)
  rw [lg_entry_eq]
  generalize (lg_sl ([.ref (ad 0), .int (x), .int (z)]) ++ List.replicate (3 - (lg_sl ([.ref (ad 0), .int (x), .int (z)])).length) Slot.unset).toArray = ls at hl ⊢
  have hl : lv_has ls 3 [(0, .ref (ad 0)), (1, .int (x)), (2, .int (z))] := hl
  refine lv_aload_n hx hb dX0_sign_0 rfl (lv_at hl 0 rfl) ?_
  refine lv_iload_n hx hb dX0_sign_1 rfl (lv_at hl 1 rfl) ?_
  refine va_calli (va_runV (As := [.int (x)]) (rest := []) ⟨hx, hb, hml, hown, hts⟩ (kX0_isFeature l E ad hap κ x hF) (cwV 1 hts gtX0_sign_X0_isFeature rfl rfl rfl (by decide +kernel) ⟨Nat.le_trans (Nat.le_of_ble_eq_true rfl) hRf, Nat.le_trans (Nat.le_of_ble_eq_true rfl) hRl⟩) (zpx hK hP) rfl rfl hl.1 rfl (lv_room (Nat.le_of_ble_eq_true rfl)) dX0_sign_2 ⟨Nat.zero_le _, Nat.zero_le _⟩) hS (fun q _ h => h.elim) (fun q h => h.elim) (fun r u9 t9 H locs ht9 hvm9 hw9 hB9 hz9 hk9 hS => ?_)
  have hP := wn_ro hP hk9
  rcases hw9 with ⟨j, hj, rfl, rfl⟩ | ⟨hno, rfl⟩
  · refine zu_ne (tgt := 18) hx hb (show 1 < 2 ^ 31 by omega) dX0_sign_5 (by decide) (fun h3 => ?_) (fun h3 => ?_)
    · have h3 : 0 < 1 := h3
      refine lv_aload_n hx hb dX0_sign_18 rfl (lv_at hl 0 rfl) ?_
      refine gx hx hb hts intX0_sign hown hK hP 4 (by decide) (by decide +kernel) rfl (v := .ref (ad 43)) rfl dX0_sign_19 ?_
      refine lv_iload_n hx hb dX0_sign_22 rfl (lv_at hl 1 rfl) ?_
      refine lv_iload_n hx hb dX0_sign_23 rfl (lv_at hl 2 rfl) ?_
      refine va_calli (va_runS (As := [.int (z)]) (rest := [.int (nI (j)), .ref (ad 43)]) ⟨hx, hb, hml, hown, hts⟩ (kX0_lowestByte l z) (va_cwS 1 hts gtX0_sign_X0_lowestByte rfl rfl rfl (by decide +kernel) ⟨Nat.le_trans (Nat.le_of_ble_eq_true rfl) hRf, Nat.le_trans (Nat.le_of_ble_eq_true rfl) hRl⟩) zps rfl rfl hl.1 rfl (lv_room (Nat.le_of_ble_eq_true rfl)) dX0_sign_24 ⟨Nat.zero_le _, Nat.zero_le _⟩) hS (fun q _ h => h.elim) (fun q h => h.elim) (fun r u9 t9 H locs ht9 hvm9 hw9 hB9 hz9 hk9 hS => ?_)
      have hP := wn_ro hP hk9
      subst hw9
      refine z_iast hx hb hK hP hap hA hS 43 (by decide) cx_sg (show j < xF κ by omega) (show xF κ < 2 ^ 31 by omega) dX0_sign_27 (fun H locs hP hS => ?_)
      have hP := px_sg hP
      refine W.widen (k := 1) (n := 6) (by omega) (by omega) (vx_ret ?_)
      exact W.vret hx hb hr (fun t ht hW => ⟨⟨_, rfl, ⟨j, hj, rfl, rfl⟩, (wn_h ht hP)⟩, hS.F ht⟩) hS.2.2 dX0_sign_28
    · have h3 : 1 = 0 := h3
      exact absurd h3 (by decide)
  · refine zu_ne (tgt := 18) hx hb (show 0 < 2 ^ 31 by omega) dX0_sign_5 (by decide) (fun h3 => ?_) (fun h3 => ?_)
    · have h3 : 0 < 0 := h3
      exact absurd h3 (by decide)
    · have h3 : 0 = 0 := h3
      obtain ⟨sa9, hsa9⟩ := hT9.2.2.2.2.2.1
      refine vx_throwS (own := RX0) (cls := RJx00060) (text := "no such feature") (names := nmI) (ik := 49) (is := 81) (ic := 53) (sa := sa9) (A := aX 96 ad) hx hb hst9 hown fitI fitNI (hts (.classLink RX0 49 RJx00060) (by decide +kernel)) (hts (.initialized RJx00060) (by decide +kernel)) hsa9 (vx_hat (fun w hw => hts w (atg_X0_sign w hw)) atI_bad (atB_use hT9)) (List.all_eq_true.mp atI_ot) hT9.2.1 hT9.2.2.1 hS (hl.1.trans hml.symm) dX0_sign_8 dX0_sign_11 dX0_sign_12 dX0_sign_14 dX0_sign_17 (fun x9 h9 => (hno9 x9 h9).elim) (Nat.lt_of_lt_of_le (show List.length nmI + 3 < 7 by decide +kernel) hRf) (Nat.le_trans (Nat.le_of_ble_eq_true rfl) hRl) (Nat.le_of_ble_eq_true rfl) (Nat.le_of_ble_eq_true rfl) hlocks (fun t9 hvm9 hsz9 hq9 => ⟨(), fun ⟨j, h6, h7⟩ => hno j h6 h7, ⟨rfl, zPx hP hq9⟩, zFx hS hsz9 hq9⟩) hS.2.2 (Nat.le_of_ble_eq_true rfl) (Nat.le_of_ble_eq_true rfl)
def wtP (κ : SX) (x y : Int32) (r : UInt64) : Prop := ∃ i j : Nat, i < 16 ∧ j < xF κ ∧ x = nI i ∧ y = nI j ∧ r = xWt κ i j
def wtX (κ : SX) (x y : Int32) : Prop := ¬ ∃ i j : Nat, i < 16 ∧ j < xF κ ∧ x = nI i ∧ y = nI j
set_option maxHeartbeats 4000000 in
set_option maxRecDepth 100000 in
theorem kX0_weight (l : Launch) (hst9 : l.stackTraces = false) (E : zE) (ad : Nat → Nat) (hap : apart 96 ad) (κ : SX) (x y : Int32) (hF : xF κ ≤ 16) : vx_Met l yX0_weight wtX0_weight ({ frames := 7, cells := 1, slots := 6, locals := 95 }) (va_Pc [.ref (ad 0), .int (x), .int (y)] (fun U => PX E ad κ U.heap ∧ zK E U ∧ zTh (aX 96 ad) U)) (va_Qd (fun (r : UInt64) (_ : Unit) => wtP κ x y r) (fun _ t => PX E ad κ t.heap) (aX 96 ad)) (vx_X (fun _ : Unit => wtX κ x y) (fun E9 _ t => E9 = RJx00060 ∧ PX E ad κ t.heap) (aX 96 ad)) 1 6 (aX 96 ad) := by
  refine vx_ofW (cc := cX0_weight) (maxL := 3) (ret := some .double) (by decide) rfl ?_
  intro p e s m args below meth c s₁ B hml hno9 hv
  obtain ⟨rfl, hP, hK, hT9⟩ := hv
  have hx := B.exec
  have hb := B.bytes
  have hr := B.returns
  have hts := atoms_spec (ws := wtX0_weight) B.pre
  have hown : s.vm.findClass RX0 = some m.cls := findClass_of_methodNamed B.named
  have hlocks := B.notSynchronized
  have hS : va_S (aX 96 ad) s.heap s.heap [] := va_S.rf
  have hA : ∀ k, k < 96 → aX 96 ad (ad k) := fun k hk => ⟨k, hk, rfl⟩
  have hRf : 7 ≤ ((headSpec wtX0_weight ({ frames := 7, cells := 1, slots := 6, locals := 95 })).room).frames := Nat.le_of_ble_eq_true rfl
  have hRl : 95 ≤ ((headSpec wtX0_weight ({ frames := 7, cells := 1, slots := 6, locals := 95 })).room).locals := Nat.le_of_ble_eq_true rfl
  have hl := lv_entry ([.ref (ad 0), .int (x), .int (y)]) (n := 3) (Nat.le_of_ble_eq_true rfl)
  rw [lg_entry_eq]
  generalize (lg_sl ([.ref (ad 0), .int (x), .int (y)]) ++ List.replicate (3 - (lg_sl ([.ref (ad 0), .int (x), .int (y)])).length) Slot.unset).toArray = ls at hl ⊢
  have hl : lv_has ls 3 [(0, .ref (ad 0)), (1, .int (x)), (2, .int (y))] := hl
  refine lv_iload_n hx hb dX0_weight_0 rfl (lv_at hl 1 rfl) ?_
  refine va_calli (va_runS (As := [.int (x)]) (rest := []) ⟨hx, hb, hml, hown, hts⟩ (kX0_isClass l x) (va_cwS 1 hts gtX0_weight_X0_isClass rfl rfl rfl (by decide +kernel) ⟨Nat.le_trans (Nat.le_of_ble_eq_true rfl) hRf, Nat.le_trans (Nat.le_of_ble_eq_true rfl) hRl⟩) zps rfl rfl hl.1 rfl (lv_room (Nat.le_of_ble_eq_true rfl)) dX0_weight_1 ⟨Nat.zero_le _, Nat.zero_le _⟩) hS (fun q _ h => h.elim) (fun q h => h.elim) (fun r u9 t9 H locs ht9 hvm9 hw9 hB9 hz9 hk9 hS => ?_)
  have hP := wn_ro hP hk9
  rcases hw9 with ⟨i, hi, rfl, rfl⟩ | ⟨hno, rfl⟩
  · refine zu_eq (tgt := 15) hx hb (show 1 < 2 ^ 31 by omega) dX0_weight_4 (by decide) (fun h2 => ?_) (fun h2 => ?_)
    · have h2 : 1 = 0 := h2
      exact absurd h2 (by decide)
    · have h2 : 0 < 1 := h2
      refine lv_aload_n hx hb dX0_weight_7 rfl (lv_at hl 0 rfl) ?_
      refine lv_iload_n hx hb dX0_weight_8 rfl (lv_at hl 2 rfl) ?_
      refine va_calli (va_runV (As := [.int (y)]) (rest := []) ⟨hx, hb, hml, hown, hts⟩ (kX0_isFeature l E ad hap κ y hF) (cwV 1 hts gtX0_weight_X0_isFeature rfl rfl rfl (by decide +kernel) ⟨Nat.le_trans (Nat.le_of_ble_eq_true rfl) hRf, Nat.le_trans (Nat.le_of_ble_eq_true rfl) hRl⟩) (zpx hK hP) rfl rfl hl.1 rfl (lv_room (Nat.le_of_ble_eq_true rfl)) dX0_weight_9 ⟨Nat.zero_le _, Nat.zero_le _⟩) hS (fun q _ h => h.elim) (fun q h => h.elim) (fun r u9 t9 H locs ht9 hvm9 hw9 hB9 hz9 hk9 hS => ?_)
      have hP := wn_ro hP hk9
      rcases hw9 with ⟨j, hj, rfl, rfl⟩ | ⟨hno, rfl⟩
      · refine zu_ne (tgt := 25) hx hb (show 1 < 2 ^ 31 by omega) dX0_weight_12 (by decide) (fun h3 => ?_) (fun h3 => ?_)
        · have h3 : 0 < 1 := h3
          refine lv_aload_n hx hb dX0_weight_25 rfl (lv_at hl 0 rfl) ?_
          refine gx hx hb hts intX0_weight hown hK hP 9 (by decide) (by decide +kernel) rfl (v := .ref (ad 62)) rfl dX0_weight_26 ?_
          refine lv_iload_n hx hb dX0_weight_29 rfl (lv_at hl 1 rfl) ?_
          refine z_aald 3 hx hb hK hP 62 (by decide) cx_wtO rfl rfl (show i < 16 by omega) (by decide) (if_pos (show i < 16 by omega)) dX0_weight_30 ?_
          refine lv_iload_n hx hb dX0_weight_31 rfl (lv_at hl 2 rfl) ?_
          refine z_dald hx hb hK hP (63 + i) (show 63 + i < 96 by omega) (cx_wt (show i < 16 by omega)) (show j < xF κ by omega) (show xF κ < 2 ^ 31 by omega) dX0_weight_32 ?_
          refine W.widen (k := 1) (n := 6) (by omega) (by omega) (vx_ret ?_)
          exact W.dret hx hb hr (fun t ht hW => ⟨⟨_, (), rfl, ⟨i, j, hi, hj, rfl, rfl, rfl⟩, (wn_h ht hP)⟩, hS.F ht⟩) hS.2.2 dX0_weight_33
        · have h3 : 1 = 0 := h3
          exact absurd h3 (by decide)
      · refine zu_ne (tgt := 25) hx hb (show 0 < 2 ^ 31 by omega) dX0_weight_12 (by decide) (fun h3 => ?_) (fun h3 => ?_)
        · have h3 : 0 < 0 := h3
          exact absurd h3 (by decide)
        · have h3 : 0 = 0 := h3
          obtain ⟨sa9, hsa9⟩ := hT9.2.2.2.2.2.2
          refine vx_throwS (own := RX0) (cls := RJx00060) (text := "no such class or feature") (names := nmI) (ik := 49) (is := 110) (ic := 53) (sa := sa9) (A := aX 96 ad) hx hb hst9 hown fitI fitNI (hts (.classLink RX0 49 RJx00060) (by decide +kernel)) (hts (.initialized RJx00060) (by decide +kernel)) hsa9 (vx_hat (fun w hw => hts w (atg_X0_weight w hw)) atI_bad (atB_use hT9)) (List.all_eq_true.mp atI_ot) hT9.2.1 hT9.2.2.1 hS (hl.1.trans hml.symm) dX0_weight_15 dX0_weight_18 dX0_weight_19 dX0_weight_21 dX0_weight_24 (fun x9 h9 => (hno9 x9 h9).elim) (Nat.lt_of_lt_of_le (show List.length nmI + 3 < 7 by decide +kernel) hRf) (Nat.le_trans (Nat.le_of_ble_eq_true rfl) hRl) (Nat.le_of_ble_eq_true rfl) (Nat.le_of_ble_eq_true rfl) hlocks (fun t9 hvm9 hsz9 hq9 => ⟨(), fun ⟨_, j, _, h6, _, h7⟩ => hno j h6 h7, ⟨rfl, zPx hP hq9⟩, zFx hS hsz9 hq9⟩) hS.2.2 (Nat.le_of_ble_eq_true rfl) (Nat.le_of_ble_eq_true rfl)
  · refine zu_eq (tgt := 15) hx hb (show 0 < 2 ^ 31 by omega) dX0_weight_4 (by decide) (fun h2 => ?_) (fun h2 => ?_)
    · have h2 : 0 = 0 := h2
      obtain ⟨sa9, hsa9⟩ := hT9.2.2.2.2.2.2
      refine vx_throwS (own := RX0) (cls := RJx00060) (text := "no such class or feature") (names := nmI) (ik := 49) (is := 110) (ic := 53) (sa := sa9) (A := aX 96 ad) hx hb hst9 hown fitI fitNI (hts (.classLink RX0 49 RJx00060) (by decide +kernel)) (hts (.initialized RJx00060) (by decide +kernel)) hsa9 (vx_hat (fun w hw => hts w (atg_X0_weight w hw)) atI_bad (atB_use hT9)) (List.all_eq_true.mp atI_ot) hT9.2.1 hT9.2.2.1 hS (hl.1.trans hml.symm) dX0_weight_15 dX0_weight_18 dX0_weight_19 dX0_weight_21 dX0_weight_24 (fun x9 h9 => (hno9 x9 h9).elim) (Nat.lt_of_lt_of_le (show List.length nmI + 3 < 7 by decide +kernel) hRf) (Nat.le_trans (Nat.le_of_ble_eq_true rfl) hRl) (Nat.le_of_ble_eq_true rfl) (Nat.le_of_ble_eq_true rfl) hlocks (fun t9 hvm9 hsz9 hq9 => ⟨(), fun ⟨i, _, h6, _, h7, _⟩ => hno i h6 h7, ⟨rfl, zPx hP hq9⟩, zFx hS hsz9 hq9⟩) hS.2.2 (Nat.le_of_ble_eq_true rfl) (Nat.le_of_ble_eq_true rfl)
    · have h2 : 0 < 0 := h2
      exact absurd h2 (by decide)
