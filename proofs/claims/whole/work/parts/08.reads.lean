/-! ===== the class: reads ===== -/
set_option maxHeartbeats 4000000 in
set_option maxRecDepth 100000 in
theorem kX0_isFeature (l : Launch) (E : zE) (ad : Nat → Nat) (hap : apart 96 ad) (κ : SX) (x : Int32) (hF : xF κ ≤ 16) : Met l yX0_isFeature wsX0_isFeature ({ frames := 0, cells := 0, slots := 0, locals := 0 }) (va_Pc [.ref (ad 0), .int (x)] (fun U => PX E ad κ U.heap ∧ zK E U)) (va_Qi (fun (r : Int32) (_ : Unit) => among (xF κ) x r) (fun _ _ => True) (fun _ => False)) 0 0 (fun _ => False) := by
  refine Met.ofW (cc := cX0_isFeature) (maxL := 2) (ret := some .boolean) (by decide) rfl ?_
  intro p e s m args below meth c s₁ B hml hv
  obtain ⟨rfl, hP, hK⟩ := hv
  have hx := B.exec
  have hb := B.bytes
  have hr := B.returns
  have hts := atoms_spec (ws := wsX0_isFeature) B.pre
  have hown : s.vm.findClass RX0 = some m.cls := findClass_of_methodNamed B.named
  have hlocks := B.notSynchronized
  have hS : va_S (fun _ => False) s.heap s.heap [] := va_S.rf
  have hRf : 0 ≤ ((headSpec wsX0_isFeature ({ frames := 0, cells := 0, slots := 0, locals := 0 })).room).frames := Nat.le_of_ble_eq_true rfl
  have hRl : 0 ≤ ((headSpec wsX0_isFeature ({ frames := 0, cells := 0, slots := 0, locals := 0 })).room).locals := Nat.le_of_ble_eq_true rfl
  have hl := lv_entry ([.ref (ad 0), .int (x)]) (n := 2) (Nat.le_of_ble_eq_true rfl)
  rw [lg_entry_eq]
  generalize (lg_sl ([.ref (ad 0), .int (x)]) ++ List.replicate (2 - (lg_sl ([.ref (ad 0), .int (x)])).length) Slot.unset).toArray = ls at hl ⊢
  have hl : lv_has ls 2 [(0, .ref (ad 0)), (1, .int (x))] := hl
  refine lv_iload_n hx hb dX0_isFeature_0 rfl (lv_at hl 1 rfl) ?_
  refine lv_if_lt (tgt := 16) hx hb dX0_isFeature_1 (by decide) (fun h => ?_) (fun h => ?_)
  · refine lv_iconst (v := nI 0) hx hb dX0_isFeature_16 (by decide +kernel) ?_
    exact W.zret hx hb hr (by decide +kernel) (fun t ht hW => ⟨⟨_, (), rfl, among_lo (by omega) h rfl, trivial⟩, hS.F ht⟩) hS.2.2 dX0_isFeature_17
  · refine lv_iload_n hx hb dX0_isFeature_4 rfl (lv_at hl 1 rfl) ?_
    refine lv_aload_n hx hb dX0_isFeature_5 rfl (lv_at hl 0 rfl) ?_
    refine gx hx hb hts innX0_isFeature hown hK hP 0 (by decide) (by decide +kernel) rfl (v := .int (nI ((xF κ)))) rfl dX0_isFeature_6 ?_
    refine lv_icmp_ge (tgt := 16) hx hb dX0_isFeature_9 (by decide) (fun h2 => ?_) (fun h2 => ?_)
    · refine lv_iconst (v := nI 0) hx hb dX0_isFeature_16 (by decide +kernel) ?_
      exact W.zret hx hb hr (by decide +kernel) (fun t ht hW => ⟨⟨_, (), rfl, among_hi (by omega) h2 rfl, trivial⟩, hS.F ht⟩) hS.2.2 dX0_isFeature_17
    · obtain ⟨j, hj, rfl⟩ := (pk_ix x (n := xF κ) (by omega)).resolve_left h |>.resolve_left h2
      refine lv_iconst (v := nI 1) hx hb dX0_isFeature_12 (by decide +kernel) ?_
      refine lv_goto (tgt := 17) hx hb dX0_isFeature_13 (by decide) ?_
      exact W.zret hx hb hr (by decide +kernel) (fun t ht hW => ⟨⟨_, (), rfl, among_y hj rfl rfl, trivial⟩, hS.F ht⟩) hS.2.2 dX0_isFeature_17
set_option maxHeartbeats 4000000 in
set_option maxRecDepth 100000 in
theorem lp_X0_distanceTo {p : Program} {l : Launch} {e : Env} {R : Room} {s : State} {m : MethodId} {args : Array Value} {below : List Frame} {meth : Method} {c : Code} {Q : State → Prop} {E : zE} {ad : Nat → Nat} (hx : p.tables.exec = Jvm.exec) (hb : c.code = cX0_distanceTo) (hml : c.maxLocals = 6) (hts : ∀ w ∈ wsX0_distanceTo, w.before args s = true) (hown : s.vm.findClass RX0 = some m.cls) (hK : zK E s) (hap : apart 96 ad) {H0 : Heap} (hRf : 1 ≤ R.frames) (hRl : 21 ≤ R.locals) (κ : SX) (c9 kv K : Nat) (v : Nat → Nat) (hF : xF κ ≤ 16) (hc : c9 < 16) (hkv : kv < 96) (hdv : cx E ad κ kv = hI (eI E) (xF κ) (fun j => nI (v j))) (hK1 : 1023 ≤ K) (hK2 : K ≤ 1900) (hw : ∀ f, f < xF κ → mg K (xWt κ c9 f) ∧ mg 1057 (xMn κ c9 f))
    (exit : ∀ (H : Heap) (locs : List Loc) (ls : Array Slot), PX E ad κ H → va_S (fun _ => False) H0 H locs → lv_has ls 6 [(3, .double (dsF (xWt κ c9) (xMn κ c9) v (xF κ))), (0, .ref (ad 0)), (1, .int (nI (c9))), (2, .ref (ad kv))] → W p l e R s m args below meth c H locs 0 0 Q (F0 m 51 ls [])) :
    ∀ (n i : Nat) (H : Heap) (locs : List Loc) (ls : Array Slot), i ≤ xF κ → xF κ - i < n → PX E ad κ H → va_S (fun _ => False) H0 H locs → lv_has ls 6 [(5, .int (nI (i))), (3, .double (dsF (xWt κ c9) (xMn κ c9) v i)), (0, .ref (ad 0)), (1, .int (nI (c9))), (2, .ref (ad kv))] → W p l e R s m args below meth c H locs 0 0 Q (F0 m 5 ls []) := by
  intro n
  induction n with
  | zero => intro i H locs ls h1 h2; omega
  | succ n ih =>
    intro i H locs ls hi hn hP hS hl
    refine lv_iload hx hb dX0_distanceTo_5 (lv_at hl 0 rfl) ?_
    refine lv_aload_n hx hb dX0_distanceTo_7 rfl (lv_at hl 2 rfl) ?_
    refine gx hx hb hts innX0_distanceTo hown hK hP 0 (by decide) (by decide +kernel) rfl (v := .int (nI ((xF κ)))) rfl dX0_distanceTo_8 ?_
    refine zb_ge (tgt := 51) hx hb (show i < 2 ^ 31 by omega) (show (xF κ) < 2 ^ 31 by omega) dX0_distanceTo_11 (by decide) (fun h => ?_) (fun h => ?_)
    · have h : (xF κ) ≤ i := h
      have hend : i = xF κ := by omega
      subst hend
      exact exit _ _ _ hP hS (lv_sub hl [1, 2, 3, 4] rfl)
    · have h : i < (xF κ) := h
      have hq := hw i h
      refine lv_dload_n hx hb dX0_distanceTo_14 rfl (lv_at hl 1 rfl) ?_
      refine lv_aload_n hx hb dX0_distanceTo_15 rfl (lv_at hl 2 rfl) ?_
      refine gx hx hb hts innX0_distanceTo hown hK hP 9 (by decide) (by decide +kernel) rfl (v := .ref (ad 62)) rfl dX0_distanceTo_16 ?_
      refine lv_iload_n hx hb dX0_distanceTo_19 rfl (lv_at hl 3 rfl) ?_
      refine z_aald 3 hx hb hK hP 62 (by decide) cx_wtO rfl rfl (show c9 < 16 by omega) (by decide) (if_pos (show c9 < 16 by omega)) dX0_distanceTo_20 ?_
      refine lv_iload hx hb dX0_distanceTo_21 (lv_at hl 0 rfl) ?_
      refine z_dald hx hb hK hP (63 + c9) (show 63 + c9 < 96 by omega) (cx_wt (show c9 < 16 by omega)) (show i < xF κ by omega) (show xF κ < 2 ^ 31 by omega) dX0_distanceTo_23 ?_
      refine lv_aload_n hx hb dX0_distanceTo_24 rfl (lv_at hl 4 rfl) ?_
      refine lv_iload hx hb dX0_distanceTo_25 (lv_at hl 0 rfl) ?_
      refine z_iald hx hb hK hP kv hkv hdv (show i < xF κ by omega) (show xF κ < 2 ^ 31 by omega) dX0_distanceTo_27 ?_
      refine lv_i2d hx hb dX0_distanceTo_28 ?_
      refine lv_aload_n hx hb dX0_distanceTo_29 rfl (lv_at hl 2 rfl) ?_
      refine gx hx hb hts innX0_distanceTo hown hK hP 8 (by decide) (by decide +kernel) rfl (v := .ref (ad 45)) rfl dX0_distanceTo_30 ?_
      refine lv_iload_n hx hb dX0_distanceTo_33 rfl (lv_at hl 3 rfl) ?_
      refine z_aald 3 hx hb hK hP 45 (by decide) cx_mnO rfl rfl (show c9 < 16 by omega) (by decide) (if_pos (show c9 < 16 by omega)) dX0_distanceTo_34 ?_
      refine lv_iload hx hb dX0_distanceTo_35 (lv_at hl 0 rfl) ?_
      refine z_dald hx hb hK hP (46 + c9) (show 46 + c9 < 96 by omega) (cx_mn (show c9 < 16 by omega)) (show i < xF κ by omega) (show xF κ < 2 ^ 31 by omega) dX0_distanceTo_37 ?_
      refine lv_dsub hx hb dX0_distanceTo_38 (mg_n64 (mg_df _ hq.2) (by decide)) ?_
      refine va_calld (va_runS (As := [.double (FP.dsub (FP.i2d (nI (v (i)))) ((xMn κ) (c9) (i)))]) (rest := [.double ((xWt κ) (c9) (i)), .double (dsF (xWt κ c9) (xMn κ c9) v i)]) ⟨hx, hb, hml, hown, hts⟩ (kX0_size l _) (va_cwS 1 hts gX0_distanceTo_X0_size rfl rfl rfl (by decide +kernel) ⟨Nat.le_trans (Nat.le_of_ble_eq_true rfl) hRf, Nat.le_trans (Nat.le_of_ble_eq_true rfl) hRl⟩) zps rfl rfl hl.1 rfl (lv_room (Nat.le_of_ble_eq_true rfl)) dX0_distanceTo_39 ⟨Nat.zero_le _, Nat.zero_le _⟩) hS (fun q _ h => h.elim) (fun q h => h.elim) (fun r u9 t9 H locs ht9 hvm9 hw9 hB9 hz9 hk9 hS => ?_)
      have hP := wn_ro hP hk9
      subst hw9
      refine lv_dmul hx hb dX0_distanceTo_42 (mg_n64 (mg_dt hq.1 hq.2 hK1 hK2) (by omega)) ?_
      refine lv_dadd hx hb dX0_distanceTo_43 (mg_n64 (mg_dadd (L := K + 52) (mg_mono (mg_ds hK1 hK2 (show i ≤ 16 by omega) (fun f hf => hw f (by omega))) (show _ ≤ K + 51 by omega)) (mg_mono (mg_dt hq.1 hq.2 hK1 hK2) (by omega)) (by omega) (by omega) (by omega)) (by omega)) ?_
      refine lv_dstore_n (lv' := [(3, .double (dsF (xWt κ c9) (xMn κ c9) v (i + 1))), (5, .int (nI (i))), (0, .ref (ad 0)), (1, .int (nI (c9))), (2, .ref (ad kv))]) hx hb dX0_distanceTo_44 rfl hl (by decide) rfl (fun ls hl => ?_)
      refine lv_iinc (v := nI (i + 1)) (lv' := [(5, .int (nI (i + 1))), (3, .double (dsF (xWt κ c9) (xMn κ c9) v (i + 1))), (0, .ref (ad 0)), (1, .int (nI (c9))), (2, .ref (ad kv))]) hx hb dX0_distanceTo_45 hl (k := 1) rfl (nI_1 _) (by decide) rfl (fun ls hl => ?_)
      refine lv_goto (tgt := 5) hx hb dX0_distanceTo_48 (by decide) ?_
      exact ih (i + 1) _ _ _ (by omega) (by omega) hP hS (lv_sub hl [0, 1, 2, 3, 4] rfl)
set_option maxHeartbeats 4000000 in
set_option maxRecDepth 100000 in
theorem kX0_distanceTo (l : Launch) (E : zE) (ad : Nat → Nat) (hap : apart 96 ad) (κ : SX) (c9 kv K : Nat) (v : Nat → Nat) (hF : xF κ ≤ 16) (hc : c9 < 16) (hkv : kv < 96) (hdv : cx E ad κ kv = hI (eI E) (xF κ) (fun j => nI (v j))) (hK1 : 1023 ≤ K) (hK2 : K ≤ 1900) (hw : ∀ f, f < xF κ → mg K (xWt κ c9 f) ∧ mg 1057 (xMn κ c9 f)) : Met l yX0_distanceTo wsX0_distanceTo ({ frames := 1, cells := 0, slots := 0, locals := 21 }) (va_Pc [.ref (ad 0), .int (nI (c9)), .ref (ad kv)] (fun U => PX E ad κ U.heap ∧ zK E U)) (va_Qd (fun (r : UInt64) (_ : Unit) => r = dsF (xWt κ c9) (xMn κ c9) v (xF κ)) (fun _ _ => True) (fun _ => False)) 0 0 (fun _ => False) := by
  refine Met.ofW (cc := cX0_distanceTo) (maxL := 6) (ret := some .double) (by decide) rfl ?_
  intro p e s m args below meth c s₁ B hml hv
  obtain ⟨rfl, hP, hK⟩ := hv
  have hx := B.exec
  have hb := B.bytes
  have hr := B.returns
  have hts := atoms_spec (ws := wsX0_distanceTo) B.pre
  have hown : s.vm.findClass RX0 = some m.cls := findClass_of_methodNamed B.named
  have hlocks := B.notSynchronized
  have hS : va_S (fun _ => False) s.heap s.heap [] := va_S.rf
  have hRf : 1 ≤ ((headSpec wsX0_distanceTo ({ frames := 1, cells := 0, slots := 0, locals := 21 })).room).frames := Nat.le_of_ble_eq_true rfl
  have hRl : 21 ≤ ((headSpec wsX0_distanceTo ({ frames := 1, cells := 0, slots := 0, locals := 21 })).room).locals := Nat.le_of_ble_eq_true rfl
  have hl := lv_entry ([.ref (ad 0), .int (nI (c9)), .ref (ad kv)]) (n := 6) (Nat.le_of_ble_eq_true rfl)
  rw [lg_entry_eq]
  generalize (lg_sl ([.ref (ad 0), .int (nI (c9)), .ref (ad kv)]) ++ List.replicate (6 - (lg_sl ([.ref (ad 0), .int (nI (c9)), .ref (ad kv)])).length) Slot.unset).toArray = ls at hl ⊢
  have hl : lv_has ls 6 [(0, .ref (ad 0)), (1, .int (nI (c9))), (2, .ref (ad kv))] := hl
  refine lv_dconst0 hx hb dX0_distanceTo_0 ?_
  refine lv_dstore_n (lv' := [(3, .double (FP.dconst0)), (0, .ref (ad 0)), (1, .int (nI (c9))), (2, .ref (ad kv))]) hx hb dX0_distanceTo_1 rfl hl (by decide) rfl (fun ls hl => ?_)
  refine lv_iconst (v := nI 0) hx hb dX0_distanceTo_2 (by decide +kernel) ?_
  refine lv_istore (lv' := [(5, .int (nI (0))), (3, .double (FP.dconst0)), (0, .ref (ad 0)), (1, .int (nI (c9))), (2, .ref (ad kv))]) hx hb dX0_distanceTo_3 hl (by decide) rfl (fun ls hl => ?_)
  refine lp_X0_distanceTo hx hb hml hts hown hK hap hRf hRl κ c9 kv K v hF hc hkv hdv hK1 hK2 hw (fun H locs ls hP hS hl => ?_) (xF κ + 1) 0 _ _ _ (by omega) (by omega) hP hS (lv_sub hl [0, 1, 2, 3, 4] rfl)
  refine lv_dload_n hx hb dX0_distanceTo_51 rfl (lv_at hl 0 rfl) ?_
  exact W.dret hx hb hr (fun t ht hW => ⟨⟨_, (), rfl, rfl, trivial⟩, hS.F ht⟩) hS.2.2 dX0_distanceTo_52
/-- which classes there are, and how far they are -/
def hasX (κ : SX) : Nat → Bool := fun c => decide (xMb κ c ≠ 0)
def ddX (κ : SX) (v : Nat → Nat) : Nat → UInt64 := fun c => dsF (xWt κ c) (xMn κ c) v (xF κ)
def nearX (κ : SX) (v : Nat → Nat) (but : Int32) : Int32 := (nrF (hasX κ) (ddX κ v) but 16).1
theorem nrF_fst {has : Nat → Bool} {dd : Nat → UInt64} {but : Int32} : ∀ n : Nat, (nrF has dd but n).1 = -1 ∨ ∃ j, j < n ∧ has j = true ∧ nI j ≠ but ∧ (nrF has dd but n).1 = nI j
  | 0 => Or.inl rfl
  | n + 1 => by
    rw [nrF]
    split
    · rename_i h
      exact Or.inr ⟨n, Nat.lt_succ_self n, h.1, h.2.1, rfl⟩
    · rcases nrF_fst n with h | ⟨j, h1, h2, h3, h4⟩
      · exact Or.inl h
      · exact Or.inr ⟨j, Nat.lt_succ_of_lt h1, h2, h3, h4⟩
theorem m1_ne {j : Nat} (h : j < 2 ^ 31) : nI j ≠ -1 := fun e => nI_pos h (by rw [e]; decide)
theorem nrF_neg {has : Nat → Bool} {dd : Nat → UInt64} {but : Int32} {n : Nat} (hn : n ≤ 16) : (nrF has dd but n).1 < 0 ↔ (nrF has dd but n).1 = -1 := by
  rcases nrF_fst (has := has) (dd := dd) (but := but) n with h | ⟨j, h1, h2, h3, h4⟩
  · rw [h]; exact ⟨fun _ => rfl, fun _ => by decide⟩
  · rw [h4]; exact ⟨fun q => absurd q (nI_pos (by omega)), fun q => absurd q (m1_ne (by omega))⟩
set_option maxHeartbeats 4000000 in
set_option maxRecDepth 100000 in
theorem lp_X0_nearestClass {p : Program} {l : Launch} {e : Env} {R : Room} {s : State} {m : MethodId} {args : Array Value} {below : List Frame} {meth : Method} {c : Code} {Q : State → Prop} {E : zE} {ad : Nat → Nat} (hx : p.tables.exec = Jvm.exec) (hb : c.code = cX0_nearestClass) (hml : c.maxLocals = 9) (hts : ∀ w ∈ wsX0_nearestClass, w.before args s = true) (hown : s.vm.findClass RX0 = some m.cls) (hK : zK E s) (hap : apart 96 ad) {H0 : Heap} (hRf : 2 ≤ R.frames) (hRl : 46 ≤ R.locals) (κ : SX) (kv K : Nat) (v : Nat → Nat) (but : Int32) (hF : xF κ ≤ 16) (hmb : ∀ c, c < 16 → xMb κ c < 2 ^ 31) (hkv : kv < 96) (hdv : cx E ad κ kv = hI (eI E) (xF κ) (fun j => nI (v j))) (hK1 : 1023 ≤ K) (hK2 : K ≤ 1900) (hw : ∀ c, c < 16 → ∀ f, f < xF κ → mg K (xWt κ c f) ∧ mg 1057 (xMn κ c f))
    (exit : ∀ (H : Heap) (locs : List Loc) (ls : Array Slot), PX E ad κ H → va_S (fun _ => False) H0 H locs → lv_has ls 9 [(3, .int ((nrF (hasX κ) (ddX κ v) but 16).1)), (0, .ref (ad 0)), (1, .ref (ad kv)), (2, .int (but))] → W p l e R s m args below meth c H locs 0 0 Q (F0 m 69 ls [])) :
    ∀ (n i : Nat) (H : Heap) (locs : List Loc) (ls : Array Slot), i ≤ 16 → 16 - i < n → PX E ad κ H → va_S (fun _ => False) H0 H locs → lv_has ls 9 [(6, .int (nI (i))), (4, .double ((nrF (hasX κ) (ddX κ v) but i).2)), (3, .int ((nrF (hasX κ) (ddX κ v) but i).1)), (0, .ref (ad 0)), (1, .ref (ad kv)), (2, .int (but))] → W p l e R s m args below meth c H locs 0 0 Q (F0 m 8 ls []) := by
  intro n
  induction n with
  | zero => intro i H locs ls h1 h2; omega
  | succ n ih =>
    intro i H locs ls hi hn hP hS hl
    refine lv_iload hx hb dX0_nearestClass_8 (lv_at hl 0 rfl) ?_
    refine lv_bipush (v := nI 16) hx hb dX0_nearestClass_10 (by decide +kernel) ?_
    refine zb_ge (tgt := 69) hx hb (show i < 2 ^ 31 by omega) (show 16 < 2 ^ 31 by omega) dX0_nearestClass_12 (by decide) (fun h => ?_) (fun h => ?_)
    · have h : 16 ≤ i := h
      have hend : i = 16 := by omega
      subst hend
      exact exit _ _ _ hP hS (lv_sub hl [2, 3, 4, 5] rfl)
    · have h : i < 16 := h
      have hmi := hmb i h
      refine lv_aload_n hx hb dX0_nearestClass_15 rfl (lv_at hl 3 rfl) ?_
      refine gx hx hb hts innX0_nearestClass hown hK hP 7 (by decide) (by decide +kernel) rfl (v := .ref (ad 44)) rfl dX0_nearestClass_16 ?_
      refine lv_iload hx hb dX0_nearestClass_19 (lv_at hl 0 rfl) ?_
      refine z_iald hx hb hK hP 44 (by decide) cx_mb (show i < 16 by omega) (by decide) dX0_nearestClass_21 ?_
      refine zu_eq (tgt := 63) hx hb (show (xMb κ) (i) < 2 ^ 31 by omega) dX0_nearestClass_22 (by decide) (fun h1 => ?_) (fun h1 => ?_)
      · have h1 : ((xMb κ) (i)) = 0 := h1
        have e9 : (nrF (hasX κ) (ddX κ v) but (i + 1)) = (nrF (hasX κ) (ddX κ v) but i) := if_neg (fun q => absurd q.1 (by unfold hasX; rw [h1]; decide))
        refine lv_iinc (v := nI (i + 1)) (lv' := [(6, .int (nI (i + 1))), (4, .double ((nrF (hasX κ) (ddX κ v) but i).2)), (3, .int ((nrF (hasX κ) (ddX κ v) but i).1)), (0, .ref (ad 0)), (1, .ref (ad kv)), (2, .int (but))]) hx hb dX0_nearestClass_63 hl (k := 0) rfl (nI_1 _) (by decide) rfl (fun ls hl => ?_)
        refine lv_goto (tgt := 8) hx hb dX0_nearestClass_66 (by decide) ?_
        exact ih (i + 1) _ _ _ (by omega) (by omega) hP hS (by rw [e9]; exact lv_sub hl [0, 1, 2, 3, 4, 5] rfl)
      · have h1 : 0 < ((xMb κ) (i)) := h1
        refine lv_iload hx hb dX0_nearestClass_25 (lv_at hl 0 rfl) ?_
        refine lv_iload_n hx hb dX0_nearestClass_27 rfl (lv_at hl 5 rfl) ?_
        refine lv_icmp_ne (tgt := 34) hx hb dX0_nearestClass_28 (by decide) (fun h2 => ?_) (fun h2 => ?_)
        · refine lv_aload_n hx hb dX0_nearestClass_34 rfl (lv_at hl 3 rfl) ?_
          refine lv_iload hx hb dX0_nearestClass_35 (lv_at hl 0 rfl) ?_
          refine lv_aload_n hx hb dX0_nearestClass_37 rfl (lv_at hl 4 rfl) ?_
          refine va_calld (va_runV (As := [.int (nI (i)), .ref (ad kv)]) (rest := []) ⟨hx, hb, hml, hown, hts⟩ (kX0_distanceTo l E ad hap κ i kv K v hF h hkv hdv hK1 hK2 (hw i h)) (cwV 2 hts gX0_nearestClass_X0_distanceTo rfl rfl rfl (by decide +kernel) ⟨Nat.le_trans (Nat.le_of_ble_eq_true rfl) hRf, Nat.le_trans (Nat.le_of_ble_eq_true rfl) hRl⟩) (zpx hK hP) rfl rfl hl.1 rfl (lv_room (Nat.le_of_ble_eq_true rfl)) dX0_nearestClass_38 ⟨Nat.zero_le _, Nat.zero_le _⟩) hS (fun q _ h => h.elim) (fun q h => h.elim) (fun r u9 t9 H locs ht9 hvm9 hw9 hB9 hz9 hk9 hS => ?_)
          have hP := wn_ro hP hk9
          subst hw9
          show W p l e R s m args below meth c H locs 0 0 Q (F0 m 41 ls [.double (ddX κ v i)])
          refine lv_dstore (lv' := [(7, .double (ddX κ v i)), (6, .int (nI (i))), (4, .double ((nrF (hasX κ) (ddX κ v) but i).2)), (3, .int ((nrF (hasX κ) (ddX κ v) but i).1)), (0, .ref (ad 0)), (1, .ref (ad kv)), (2, .int (but))]) hx hb dX0_nearestClass_41 hl (by decide) rfl (fun ls hl => ?_)
          refine lv_iload_n hx hb dX0_nearestClass_43 rfl (lv_at hl 3 rfl) ?_
          refine lv_iconst (v := -1) hx hb dX0_nearestClass_44 (by decide +kernel) ?_
          refine lv_icmp_eq (tgt := 56) hx hb dX0_nearestClass_45 (by decide) (fun h3 => ?_) (fun h3 => ?_)
          · have e9 : (nrF (hasX κ) (ddX κ v) but (i + 1)) = (nI i, ddX κ v i) := if_pos ⟨decide_eq_true (Nat.ne_of_gt h1), h2, Or.inl h3⟩
            refine lv_iload hx hb dX0_nearestClass_56 (lv_at hl 1 rfl) ?_
            refine lv_istore_n (lv' := [(3, .int (nI (i))), (7, .double (ddX κ v i)), (6, .int (nI (i))), (4, .double ((nrF (hasX κ) (ddX κ v) but i).2)), (0, .ref (ad 0)), (1, .ref (ad kv)), (2, .int (but))]) hx hb dX0_nearestClass_58 rfl hl (by decide) rfl (fun ls hl => ?_)
            refine lv_dload hx hb dX0_nearestClass_59 (lv_at hl 1 rfl) ?_
            refine lv_dstore (lv' := [(4, .double (ddX κ v i)), (3, .int (nI (i))), (7, .double (ddX κ v i)), (6, .int (nI (i))), (0, .ref (ad 0)), (1, .ref (ad kv)), (2, .int (but))]) hx hb dX0_nearestClass_61 hl (by decide) rfl (fun ls hl => ?_)
            refine lv_iinc (v := nI (i + 1)) (lv' := [(6, .int (nI (i + 1))), (4, .double (ddX κ v i)), (3, .int (nI (i))), (7, .double (ddX κ v i)), (0, .ref (ad 0)), (1, .ref (ad kv)), (2, .int (but))]) hx hb dX0_nearestClass_63 hl (k := 3) rfl (nI_1 _) (by decide) rfl (fun ls hl => ?_)
            refine lv_goto (tgt := 8) hx hb dX0_nearestClass_66 (by decide) ?_
            exact ih (i + 1) _ _ _ (by omega) (by omega) hP hS (by rw [e9]; exact lv_sub hl [0, 1, 2, 4, 5, 6] rfl)
          · refine lv_dload hx hb dX0_nearestClass_48 (lv_at hl 0 rfl) ?_
            refine lv_dload hx hb dX0_nearestClass_50 (lv_at hl 2 rfl) ?_
            refine lv_dcmp hx hb dX0_nearestClass_52 ?_
            refine lv_if_ge (tgt := 63) hx hb dX0_nearestClass_53 (by decide) (fun h4 => ?_) (fun h4 => ?_)
            · have e9 : (nrF (hasX κ) (ddX κ v) but (i + 1)) = (nrF (hasX κ) (ddX κ v) but i) := if_neg (fun q => q.2.2.elim h3 (fun z => z h4))
              refine lv_iinc (v := nI (i + 1)) (lv' := [(6, .int (nI (i + 1))), (7, .double (ddX κ v i)), (4, .double ((nrF (hasX κ) (ddX κ v) but i).2)), (3, .int ((nrF (hasX κ) (ddX κ v) but i).1)), (0, .ref (ad 0)), (1, .ref (ad kv)), (2, .int (but))]) hx hb dX0_nearestClass_63 hl (k := 1) rfl (nI_1 _) (by decide) rfl (fun ls hl => ?_)
              refine lv_goto (tgt := 8) hx hb dX0_nearestClass_66 (by decide) ?_
              exact ih (i + 1) _ _ _ (by omega) (by omega) hP hS (by rw [e9]; exact lv_sub hl [0, 2, 3, 4, 5, 6] rfl)
            · have e9 : (nrF (hasX κ) (ddX κ v) but (i + 1)) = (nI i, ddX κ v i) := if_pos ⟨decide_eq_true (Nat.ne_of_gt h1), h2, Or.inr h4⟩
              refine lv_iload hx hb dX0_nearestClass_56 (lv_at hl 1 rfl) ?_
              refine lv_istore_n (lv' := [(3, .int (nI (i))), (7, .double (ddX κ v i)), (6, .int (nI (i))), (4, .double ((nrF (hasX κ) (ddX κ v) but i).2)), (0, .ref (ad 0)), (1, .ref (ad kv)), (2, .int (but))]) hx hb dX0_nearestClass_58 rfl hl (by decide) rfl (fun ls hl => ?_)
              refine lv_dload hx hb dX0_nearestClass_59 (lv_at hl 1 rfl) ?_
              refine lv_dstore (lv' := [(4, .double (ddX κ v i)), (3, .int (nI (i))), (7, .double (ddX κ v i)), (6, .int (nI (i))), (0, .ref (ad 0)), (1, .ref (ad kv)), (2, .int (but))]) hx hb dX0_nearestClass_61 hl (by decide) rfl (fun ls hl => ?_)
              refine lv_iinc (v := nI (i + 1)) (lv' := [(6, .int (nI (i + 1))), (4, .double (ddX κ v i)), (3, .int (nI (i))), (7, .double (ddX κ v i)), (0, .ref (ad 0)), (1, .ref (ad kv)), (2, .int (but))]) hx hb dX0_nearestClass_63 hl (k := 3) rfl (nI_1 _) (by decide) rfl (fun ls hl => ?_)
              refine lv_goto (tgt := 8) hx hb dX0_nearestClass_66 (by decide) ?_
              exact ih (i + 1) _ _ _ (by omega) (by omega) hP hS (by rw [e9]; exact lv_sub hl [0, 1, 2, 4, 5, 6] rfl)
        · refine lv_goto (tgt := 63) hx hb dX0_nearestClass_31 (by decide) ?_
          have e9 : (nrF (hasX κ) (ddX κ v) but (i + 1)) = (nrF (hasX κ) (ddX κ v) but i) := if_neg (fun q => q.2.1 h2)
          refine lv_iinc (v := nI (i + 1)) (lv' := [(6, .int (nI (i + 1))), (4, .double ((nrF (hasX κ) (ddX κ v) but i).2)), (3, .int ((nrF (hasX κ) (ddX κ v) but i).1)), (0, .ref (ad 0)), (1, .ref (ad kv)), (2, .int (but))]) hx hb dX0_nearestClass_63 hl (k := 0) rfl (nI_1 _) (by decide) rfl (fun ls hl => ?_)
          refine lv_goto (tgt := 8) hx hb dX0_nearestClass_66 (by decide) ?_
          exact ih (i + 1) _ _ _ (by omega) (by omega) hP hS (by rw [e9]; exact lv_sub hl [0, 1, 2, 3, 4, 5] rfl)
set_option maxHeartbeats 4000000 in
set_option maxRecDepth 100000 in
theorem kX0_nearestClass (l : Launch) (E : zE) (ad : Nat → Nat) (hap : apart 96 ad) (κ : SX) (kv K : Nat) (v : Nat → Nat) (but : Int32) (hF : xF κ ≤ 16) (hmb : ∀ c, c < 16 → xMb κ c < 2 ^ 31) (hkv : kv < 96) (hdv : cx E ad κ kv = hI (eI E) (xF κ) (fun j => nI (v j))) (hK1 : 1023 ≤ K) (hK2 : K ≤ 1900) (hw : ∀ c, c < 16 → ∀ f, f < xF κ → mg K (xWt κ c f) ∧ mg 1057 (xMn κ c f)) : Met l yX0_nearestClass wsX0_nearestClass ({ frames := 2, cells := 0, slots := 0, locals := 46 }) (va_Pc [.ref (ad 0), .ref (ad kv), .int (but)] (fun U => PX E ad κ U.heap ∧ zK E U)) (va_Qi (fun (r : Int32) (_ : Unit) => r = nearX κ v but) (fun _ _ => True) (fun _ => False)) 0 0 (fun _ => False) := by
  refine Met.ofW (cc := cX0_nearestClass) (maxL := 9) (ret := some .int) (by decide) rfl ?_
  intro p e s m args below meth c s₁ B hml hv
  obtain ⟨rfl, hP, hK⟩ := hv
  have hx := B.exec
  have hb := B.bytes
  have hr := B.returns
  have hts := atoms_spec (ws := wsX0_nearestClass) B.pre
  have hown : s.vm.findClass RX0 = some m.cls := findClass_of_methodNamed B.named
  have hlocks := B.notSynchronized
  have hS : va_S (fun _ => False) s.heap s.heap [] := va_S.rf
  have hRf : 2 ≤ ((headSpec wsX0_nearestClass ({ frames := 2, cells := 0, slots := 0, locals := 46 })).room).frames := Nat.le_of_ble_eq_true rfl
  have hRl : 46 ≤ ((headSpec wsX0_nearestClass ({ frames := 2, cells := 0, slots := 0, locals := 46 })).room).locals := Nat.le_of_ble_eq_true rfl
  have hl := lv_entry ([.ref (ad 0), .ref (ad kv), .int (but)]) (n := 9) (Nat.le_of_ble_eq_true rfl)
  rw [lg_entry_eq]
  generalize (lg_sl ([.ref (ad 0), .ref (ad kv), .int (but)]) ++ List.replicate (9 - (lg_sl ([.ref (ad 0), .ref (ad kv), .int (but)])).length) Slot.unset).toArray = ls at hl ⊢
  have hl : lv_has ls 9 [(0, .ref (ad 0)), (1, .ref (ad kv)), (2, .int (but))] := hl
  refine lv_iconst (v := -1) hx hb dX0_nearestClass_0 (by decide +kernel) ?_
  refine lv_istore_n (lv' := [(3, .int (-1)), (0, .ref (ad 0)), (1, .ref (ad kv)), (2, .int (but))]) hx hb dX0_nearestClass_1 rfl hl (by decide) rfl (fun ls hl => ?_)
  refine lv_dconst0 hx hb dX0_nearestClass_2 ?_
  refine lv_dstore (lv' := [(4, .double (FP.dconst0)), (3, .int (-1)), (0, .ref (ad 0)), (1, .ref (ad kv)), (2, .int (but))]) hx hb dX0_nearestClass_3 hl (by decide) rfl (fun ls hl => ?_)
  refine lv_iconst (v := nI 0) hx hb dX0_nearestClass_5 (by decide +kernel) ?_
  refine lv_istore (lv' := [(6, .int (nI (0))), (4, .double (FP.dconst0)), (3, .int (-1)), (0, .ref (ad 0)), (1, .ref (ad kv)), (2, .int (but))]) hx hb dX0_nearestClass_6 hl (by decide) rfl (fun ls hl => ?_)
  refine lp_X0_nearestClass hx hb hml hts hown hK hap hRf hRl κ kv K v but hF hmb hkv hdv hK1 hK2 hw (fun H locs ls hP hS hl => ?_) (16 + 1) 0 _ _ _ (by omega) (by omega) hP hS (lv_sub hl [0, 1, 2, 3, 4, 5] rfl)
  refine lv_iload_n hx hb dX0_nearestClass_69 rfl (lv_at hl 0 rfl) ?_
  exact W.iret hx hb hr (fun t ht hW => ⟨⟨_, (), rfl, rfl, trivial⟩, hS.F ht⟩) hS.2.2 dX0_nearestClass_70
set_option maxHeartbeats 4000000 in
set_option maxRecDepth 100000 in
theorem lp_X0_isSignBlank {p : Program} {l : Launch} {e : Env} {R : Room} {s : State} {m : MethodId} {args : Array Value} {below : List Frame} {meth : Method} {c : Code} {Q : State → Prop} {E : zE} {ad : Nat → Nat} (hx : p.tables.exec = Jvm.exec) (hb : c.code = cX0_isSignBlank) (hml : c.maxLocals = 2) (hts : ∀ w ∈ wsX0_isSignBlank, w.before args s = true) (hown : s.vm.findClass RX0 = some m.cls) (hK : zK E s) (hap : apart 96 ad) {H0 : Heap} (hRf : 0 ≤ R.frames) (hRl : 0 ≤ R.locals) (κ : SX) (hF : xF κ ≤ 16) (hsg : ∀ f, f < xF κ → xSg κ f < 2 ^ 31)
    (exit : ∀ (H : Heap) (locs : List Loc) (ls : Array Slot), PX E ad κ H → va_S (fun _ => False) H0 H locs → lv_has ls 2 [(0, .ref (ad 0))] → (∀ f, f < xF κ → xSg κ f = 0) → W p l e R s m args below meth c H locs 0 0 Q (F0 m 27 ls []))
    (exit2 : ∀ (H : Heap) (locs : List Loc) (ls : Array Slot) (i : Nat), i < xF κ → 0 < xSg κ i → va_S (fun _ => False) H0 H locs → W p l e R s m args below meth c H locs 0 0 Q (F0 m 19 ls [])) :
    ∀ (n i : Nat) (H : Heap) (locs : List Loc) (ls : Array Slot), i ≤ xF κ → xF κ - i < n → (∀ f, f < i → xSg κ f = 0) → PX E ad κ H → va_S (fun _ => False) H0 H locs → lv_has ls 2 [(1, .int (nI (i))), (0, .ref (ad 0))] → W p l e R s m args below meth c H locs 0 0 Q (F0 m 2 ls []) := by
  intro n
  induction n with
  | zero => intro i H locs ls h1 h2; omega
  | succ n ih =>
    intro i H locs ls hi hn hz hP hS hl
    refine lv_iload_n hx hb dX0_isSignBlank_2 rfl (lv_at hl 0 rfl) ?_
    refine lv_aload_n hx hb dX0_isSignBlank_3 rfl (lv_at hl 1 rfl) ?_
    refine gx hx hb hts innX0_isSignBlank hown hK hP 0 (by decide) (by decide +kernel) rfl (v := .int (nI ((xF κ)))) rfl dX0_isSignBlank_4 ?_
    refine zb_ge (tgt := 27) hx hb (show i < 2 ^ 31 by omega) (show (xF κ) < 2 ^ 31 by omega) dX0_isSignBlank_7 (by decide) (fun h => ?_) (fun h => ?_)
    · have h : (xF κ) ≤ i := h
      exact exit _ _ _ hP hS (lv_sub hl [1] rfl) (fun f hf => hz f (by omega))
    · have h : i < (xF κ) := h
      have hsi := hsg i h
      refine lv_aload_n hx hb dX0_isSignBlank_10 rfl (lv_at hl 1 rfl) ?_
      refine gx hx hb hts innX0_isSignBlank hown hK hP 4 (by decide) (by decide +kernel) rfl (v := .ref (ad 43)) rfl dX0_isSignBlank_11 ?_
      refine lv_iload_n hx hb dX0_isSignBlank_14 rfl (lv_at hl 0 rfl) ?_
      refine z_iald hx hb hK hP 43 (by decide) cx_sg (show i < xF κ by omega) (show xF κ < 2 ^ 31 by omega) dX0_isSignBlank_15 ?_
      refine zu_eq (tgt := 21) hx hb (show (xSg κ) (i) < 2 ^ 31 by omega) dX0_isSignBlank_16 (by decide) (fun h1 => ?_) (fun h1 => ?_)
      · have h1 : ((xSg κ) (i)) = 0 := h1
        refine lv_iinc (v := nI (i + 1)) (lv' := [(1, .int (nI (i + 1))), (0, .ref (ad 0))]) hx hb dX0_isSignBlank_21 hl (k := 0) rfl (nI_1 _) (by decide) rfl (fun ls hl => ?_)
        refine lv_goto (tgt := 2) hx hb dX0_isSignBlank_24 (by decide) ?_
        exact ih (i + 1) _ _ _ (by omega) (by omega) (fun f hf => by rcases Nat.lt_or_ge f i with q | q; exact hz f q; exact (show f = i by omega) ▸ h1) hP hS (lv_sub hl [0, 1] rfl)
      · have h1 : 0 < ((xSg κ) (i)) := h1
        exact exit2 _ _ _ i h h1 hS
set_option maxHeartbeats 4000000 in
set_option maxRecDepth 100000 in
theorem kX0_isSignBlank (l : Launch) (E : zE) (ad : Nat → Nat) (hap : apart 96 ad) (κ : SX) (hF : xF κ ≤ 16) (hsg : ∀ f, f < xF κ → xSg κ f < 2 ^ 31) : Met l yX0_isSignBlank wsX0_isSignBlank ({ frames := 0, cells := 0, slots := 0, locals := 0 }) (va_Pc [.ref (ad 0)] (fun U => PX E ad κ U.heap ∧ zK E U)) (va_Qi (fun (r : Int32) (_ : Unit) => (r = nI 1 ∧ ∀ f, f < xF κ → xSg κ f = 0) ∨ (r = nI 0 ∧ ∃ f, f < xF κ ∧ 0 < xSg κ f)) (fun _ _ => True) (fun _ => False)) 0 0 (fun _ => False) := by
  refine Met.ofW (cc := cX0_isSignBlank) (maxL := 2) (ret := some .boolean) (by decide) rfl ?_
  intro p e s m args below meth c s₁ B hml hv
  obtain ⟨rfl, hP, hK⟩ := hv
  have hx := B.exec
  have hb := B.bytes
  have hr := B.returns
  have hts := atoms_spec (ws := wsX0_isSignBlank) B.pre
  have hown : s.vm.findClass RX0 = some m.cls := findClass_of_methodNamed B.named
  have hlocks := B.notSynchronized
  have hS : va_S (fun _ => False) s.heap s.heap [] := va_S.rf
  have hRf : 0 ≤ ((headSpec wsX0_isSignBlank ({ frames := 0, cells := 0, slots := 0, locals := 0 })).room).frames := Nat.le_of_ble_eq_true rfl
  have hRl : 0 ≤ ((headSpec wsX0_isSignBlank ({ frames := 0, cells := 0, slots := 0, locals := 0 })).room).locals := Nat.le_of_ble_eq_true rfl
  have hl := lv_entry ([.ref (ad 0)]) (n := 2) (Nat.le_of_ble_eq_true rfl)
  rw [lg_entry_eq]
  generalize (lg_sl ([.ref (ad 0)]) ++ List.replicate (2 - (lg_sl ([.ref (ad 0)])).length) Slot.unset).toArray = ls at hl ⊢
  have hl : lv_has ls 2 [(0, .ref (ad 0))] := hl
  refine lv_iconst (v := nI 0) hx hb dX0_isSignBlank_0 (by decide +kernel) ?_
  refine lv_istore_n (lv' := [(1, .int (nI (0))), (0, .ref (ad 0))]) hx hb dX0_isSignBlank_1 rfl hl (by decide) rfl (fun ls hl => ?_)
  refine lp_X0_isSignBlank hx hb hml hts hown hK hap hRf hRl κ hF hsg (fun H locs ls hP hS hl hz => ?_) (fun H locs ls i hi h1 hS => ?_) (xF κ + 1) 0 _ _ _ (by omega) (by omega) (fun f hf => absurd hf (Nat.not_lt_zero f)) hP hS (lv_sub hl [0, 1] rfl)
  · refine lv_iconst (v := nI 1) hx hb dX0_isSignBlank_27 (by decide +kernel) ?_
    exact W.zret hx hb hr (by decide +kernel) (fun t ht hW => ⟨⟨_, (), rfl, Or.inl ⟨rfl, hz⟩, trivial⟩, hS.F ht⟩) hS.2.2 dX0_isSignBlank_28
  · refine lv_iconst (v := nI 0) hx hb dX0_isSignBlank_19 (by decide +kernel) ?_
    exact W.zret hx hb hr (by decide +kernel) (fun t ht hW => ⟨⟨_, (), rfl, Or.inr ⟨rfl, i, hi, h1⟩, trivial⟩, hS.F ht⟩) hS.2.2 dX0_isSignBlank_20
/-- 1 where the lead of b over a is below l -/
def ldF (a b : UInt64) (l : Nat) : Int32 := if 0 ≤ Op.cmpValue (FP.dcmp (FP.dsub b a) (FP.i2d (nI l))) CmpOp.g then nI 0 else nI 1
def tooX (κ : SX) (x y r : Int32) : Prop := (∃ i j : Nat, i < 16 ∧ j < 16 ∧ x = nI i ∧ y = nI j ∧ r = ldF (ddX κ (xSg κ) i) (ddX κ (xSg κ) j) (xLd κ)) ∨ (((∀ j : Nat, j < 16 → x ≠ nI j) ∨ ∀ j : Nat, j < 16 → y ≠ nI j) ∧ r = nI 0)
set_option maxHeartbeats 4000000 in
set_option maxRecDepth 100000 in
theorem kX0_isTooClose (l : Launch) (E : zE) (ad : Nat → Nat) (hap : apart 96 ad) (κ : SX) (x y : Int32) (K : Nat) (hF : xF κ ≤ 16) (hK1 : 1023 ≤ K) (hK2 : K ≤ 1900) (hw : ∀ c, c < 16 → ∀ f, f < xF κ → mg K (xWt κ c f) ∧ mg 1057 (xMn κ c f)) : Met l yX0_isTooClose wsX0_isTooClose ({ frames := 2, cells := 0, slots := 0, locals := 46 }) (va_Pc [.ref (ad 0), .int (x), .int (y)] (fun U => PX E ad κ U.heap ∧ zK E U)) (va_Qi (fun (r : Int32) (_ : Unit) => tooX κ x y r) (fun _ _ => True) (fun _ => False)) 0 0 (fun _ => False) := by
  refine Met.ofW (cc := cX0_isTooClose) (maxL := 5) (ret := some .boolean) (by decide) rfl ?_
  intro p e s m args below meth c s₁ B hml hv
  obtain ⟨rfl, hP, hK⟩ := hv
  have hx := B.exec
  have hb := B.bytes
  have hr := B.returns
  have hts := atoms_spec (ws := wsX0_isTooClose) B.pre
  have hown : s.vm.findClass RX0 = some m.cls := findClass_of_methodNamed B.named
  have hlocks := B.notSynchronized
  have hS : va_S (fun _ => False) s.heap s.heap [] := va_S.rf
  have hRf : 2 ≤ ((headSpec wsX0_isTooClose ({ frames := 2, cells := 0, slots := 0, locals := 46 })).room).frames := Nat.le_of_ble_eq_true rfl
  have hRl : 46 ≤ ((headSpec wsX0_isTooClose ({ frames := 2, cells := 0, slots := 0, locals := 46 })).room).locals := Nat.le_of_ble_eq_true rfl
  have hl := lv_entry ([.ref (ad 0), .int (x), .int (y)]) (n := 5) (Nat.le_of_ble_eq_true rfl)
  rw [lg_entry_eq]
  generalize (lg_sl ([.ref (ad 0), .int (x), .int (y)]) ++ List.replicate (5 - (lg_sl ([.ref (ad 0), .int (x), .int (y)])).length) Slot.unset).toArray = ls at hl ⊢
  have hl : lv_has ls 5 [(0, .ref (ad 0)), (1, .int (x)), (2, .int (y))] := hl
  refine lv_iload_n hx hb dX0_isTooClose_0 rfl (lv_at hl 1 rfl) ?_
  refine va_calli (va_runS (As := [.int (x)]) (rest := []) ⟨hx, hb, hml, hown, hts⟩ (kX0_isClass l x) (va_cwS 1 hts gX0_isTooClose_X0_isClass rfl rfl rfl (by decide +kernel) ⟨Nat.le_trans (Nat.le_of_ble_eq_true rfl) hRf, Nat.le_trans (Nat.le_of_ble_eq_true rfl) hRl⟩) zps rfl rfl hl.1 rfl (lv_room (Nat.le_of_ble_eq_true rfl)) dX0_isTooClose_1 ⟨Nat.zero_le _, Nat.zero_le _⟩) hS (fun q _ h => h.elim) (fun q h => h.elim) (fun r u9 t9 H locs ht9 hvm9 hw9 hB9 hz9 hk9 hS => ?_)
  have hP := wn_ro hP hk9
  rcases hw9 with ⟨i, hi, rfl, rfl⟩ | ⟨hno, rfl⟩
  · refine zu_eq (tgt := 14) hx hb (show 1 < 2 ^ 31 by omega) dX0_isTooClose_4 (by decide) (fun h => ?_) (fun h => ?_)
    · have h : 1 = 0 := h
      exact absurd h (by decide)
    · have h : 0 < 1 := h
      refine lv_iload_n hx hb dX0_isTooClose_7 rfl (lv_at hl 2 rfl) ?_
      refine va_calli (va_runS (As := [.int (y)]) (rest := []) ⟨hx, hb, hml, hown, hts⟩ (kX0_isClass l y) (va_cwS 1 hts gX0_isTooClose_X0_isClass rfl rfl rfl (by decide +kernel) ⟨Nat.le_trans (Nat.le_of_ble_eq_true rfl) hRf, Nat.le_trans (Nat.le_of_ble_eq_true rfl) hRl⟩) zps rfl rfl hl.1 rfl (lv_room (Nat.le_of_ble_eq_true rfl)) dX0_isTooClose_8 ⟨Nat.zero_le _, Nat.zero_le _⟩) hS (fun q _ h => h.elim) (fun q h => h.elim) (fun r u9 t9 H locs ht9 hvm9 hw9 hB9 hz9 hk9 hS => ?_)
      have hP := wn_ro hP hk9
      rcases hw9 with ⟨j, hj, rfl, rfl⟩ | ⟨hno, rfl⟩
      · refine zu_ne (tgt := 16) hx hb (show 1 < 2 ^ 31 by omega) dX0_isTooClose_11 (by decide) (fun h => ?_) (fun h => ?_)
        · have h : 0 < 1 := h
          refine lv_aload_n hx hb dX0_isTooClose_16 rfl (lv_at hl 0 rfl) ?_
          refine lv_iload_n hx hb dX0_isTooClose_17 rfl (lv_at hl 2 rfl) ?_
          refine lv_aload_n hx hb dX0_isTooClose_18 rfl (lv_at hl 0 rfl) ?_
          refine gx hx hb hts innX0_isTooClose hown hK hP 4 (by decide) (by decide +kernel) rfl (v := .ref (ad 43)) rfl dX0_isTooClose_19 ?_
          have hdv : cx E ad κ 43 = hI (eI E) (xF κ) (fun j => nI (xSg κ j)) := cx_sg
          refine va_calld (va_runV (As := [.int (nI (j)), .ref (ad 43)]) (rest := []) ⟨hx, hb, hml, hown, hts⟩ (kX0_distanceTo l E ad hap κ j 43 K (xSg κ) hF hj (by decide) hdv hK1 hK2 (hw j hj)) (cwV 2 hts gX0_isTooClose_X0_distanceTo rfl rfl rfl (by decide +kernel) ⟨Nat.le_trans (Nat.le_of_ble_eq_true rfl) hRf, Nat.le_trans (Nat.le_of_ble_eq_true rfl) hRl⟩) (zpx hK hP) rfl rfl hl.1 rfl (lv_room (Nat.le_of_ble_eq_true rfl)) dX0_isTooClose_22 ⟨Nat.zero_le _, Nat.zero_le _⟩) hS (fun q _ h => h.elim) (fun q h => h.elim) (fun r u9 t9 H locs ht9 hvm9 hw9 hB9 hz9 hk9 hS => ?_)
          have hP := wn_ro hP hk9
          subst hw9
          refine lv_aload_n hx hb dX0_isTooClose_25 rfl (lv_at hl 0 rfl) ?_
          refine lv_iload_n hx hb dX0_isTooClose_26 rfl (lv_at hl 1 rfl) ?_
          refine lv_aload_n hx hb dX0_isTooClose_27 rfl (lv_at hl 0 rfl) ?_
          refine gx hx hb hts innX0_isTooClose hown hK hP 4 (by decide) (by decide +kernel) rfl (v := .ref (ad 43)) rfl dX0_isTooClose_28 ?_
          refine va_calld (va_runV (As := [.int (nI (i)), .ref (ad 43)]) (rest := [.double (ddX κ (xSg κ) j)]) ⟨hx, hb, hml, hown, hts⟩ (kX0_distanceTo l E ad hap κ i 43 K (xSg κ) hF hi (by decide) hdv hK1 hK2 (hw i hi)) (cwV 2 hts gX0_isTooClose_X0_distanceTo rfl rfl rfl (by decide +kernel) ⟨Nat.le_trans (Nat.le_of_ble_eq_true rfl) hRf, Nat.le_trans (Nat.le_of_ble_eq_true rfl) hRl⟩) (zpx hK hP) rfl rfl hl.1 rfl (lv_room (Nat.le_of_ble_eq_true rfl)) dX0_isTooClose_31 ⟨Nat.zero_le _, Nat.zero_le _⟩) hS (fun q _ h => h.elim) (fun q h => h.elim) (fun r u9 t9 H locs ht9 hvm9 hw9 hB9 hz9 hk9 hS => ?_)
          have hP := wn_ro hP hk9
          subst hw9
          refine lv_dsub hx hb dX0_isTooClose_34 (mg_n64 (mg_dsub (L := K + 52) (mg_ds hK1 hK2 (n := xF κ) hF (hw j hj)) (mg_ds hK1 hK2 (n := xF κ) hF (hw i hi)) (by omega) (by omega) (by omega)) (by omega)) ?_
          refine lv_dstore_n (lv' := [(3, .double (FP.dsub (ddX κ (xSg κ) j) (ddX κ (xSg κ) i))), (0, .ref (ad 0)), (1, .int (nI (i))), (2, .int (nI (j)))]) hx hb dX0_isTooClose_35 rfl hl (by decide) rfl (fun ls hl => ?_)
          refine lv_dload_n hx hb dX0_isTooClose_36 rfl (lv_at hl 0 rfl) ?_
          refine lv_aload_n hx hb dX0_isTooClose_37 rfl (lv_at hl 1 rfl) ?_
          refine gx hx hb hts innX0_isTooClose hown hK hP 5 (by decide) (by decide +kernel) rfl (v := .int (nI ((xLd κ)))) rfl dX0_isTooClose_38 ?_
          refine lv_i2d hx hb dX0_isTooClose_41 ?_
          refine lv_dcmp hx hb dX0_isTooClose_42 ?_
          refine lv_if_ge (tgt := 50) hx hb dX0_isTooClose_43 (by decide) (fun h => ?_) (fun h => ?_)
          · refine lv_iconst (v := nI 0) hx hb dX0_isTooClose_50 (by decide +kernel) ?_
            exact W.zret hx hb hr (by decide +kernel) (fun t ht hW => ⟨⟨_, (), rfl, Or.inl ⟨i, j, hi, hj, rfl, rfl, (if_pos h).symm⟩, trivial⟩, hS.F ht⟩) hS.2.2 dX0_isTooClose_51
          · refine lv_iconst (v := nI 1) hx hb dX0_isTooClose_46 (by decide +kernel) ?_
            refine lv_goto (tgt := 51) hx hb dX0_isTooClose_47 (by decide) ?_
            exact W.zret hx hb hr (by decide +kernel) (fun t ht hW => ⟨⟨_, (), rfl, Or.inl ⟨i, j, hi, hj, rfl, rfl, (if_neg h).symm⟩, trivial⟩, hS.F ht⟩) hS.2.2 dX0_isTooClose_51
        · have h : 1 = 0 := h
          exact absurd h (by decide)
      · refine zu_ne (tgt := 16) hx hb (show 0 < 2 ^ 31 by omega) dX0_isTooClose_11 (by decide) (fun h => ?_) (fun h => ?_)
        · have h : 0 < 0 := h
          exact absurd h (by decide)
        · have h : 0 = 0 := h
          refine lv_iconst (v := nI 0) hx hb dX0_isTooClose_14 (by decide +kernel) ?_
          exact W.zret hx hb hr (by decide +kernel) (fun t ht hW => ⟨⟨_, (), rfl, Or.inr ⟨Or.inr hno, rfl⟩, trivial⟩, hS.F ht⟩) hS.2.2 dX0_isTooClose_15
  · refine zu_eq (tgt := 14) hx hb (show 0 < 2 ^ 31 by omega) dX0_isTooClose_4 (by decide) (fun h => ?_) (fun h => ?_)
    · have h : 0 = 0 := h
      refine lv_iconst (v := nI 0) hx hb dX0_isTooClose_14 (by decide +kernel) ?_
      exact W.zret hx hb hr (by decide +kernel) (fun t ht hW => ⟨⟨_, (), rfl, Or.inr ⟨Or.inl hno, rfl⟩, trivial⟩, hS.F ht⟩) hS.2.2 dX0_isTooClose_15
    · have h : 0 < 0 := h
      exact absurd h (by decide)
