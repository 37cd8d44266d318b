/-! ===== the class: reads ===== -/
set_option maxHeartbeats 4000000 in
set_option maxRecDepth 100000 in
theorem kX0_isFeature (l : Launch) (E : zE) (ad : Nat → Nat) (hap : apart 96 ad) (κ : SX) (x : Int32) (hF : xF κ ≤ 16) : Met l yX0_isFeature wsX0_isFeature ({ frames := 0, cells := 0, slots := 0, locals := 0 }) (va_Pc [.ref (ad 0), .int (x)] (fun U => PX E ad κ U.heap ∧ zK E U)) (va_Qi (fun (r : Int32) (_ : Unit) => among (xF κ) x r) (fun _ _ => True) (fun _ => False)) 0 0 (fun _ => False) := by
  refine Met.ofW (cc := cX0_isFeature) (maxL := 2) (ret := some .boolean) (by decide) rfl ?_
  intro p e s m args below meth c s₁ B hml hv
  obtain ⟨rfl, hP, hK⟩ := hv
  have hx := B.exec
  have hb := B.bytes
  have hr := B.returns
  have hts := atoms_spec (ws := wsX0_isFeature) B.pre
  have hown : s.vm.findClass RX0 = some m.cls := findClass_of_methodNamed B.named
  have hlocks := B.notSynchronized
  have hS : va_S (fun _ => False) s.heap s.heap [] := va_S.rf
  have hRf : 0 ≤ ((headSpec wsX0_isFeature ({ frames := 0, cells := 0, slots := 0, locals := 0 })).room).frames := Nat.le_of_ble_eq_true rfl
  have hRl : 0 ≤ ((headSpec wsX0_isFeature ({ frames := 0, cells := 0, slots := 0, locals := 0 })).room).locals := Nat.le_of_ble_eq_true rfl
  have hl := lv_entry ([.ref (ad 0), .int (x)]) (n := 2) (Nat.le_of_ble_eq_true rfl)
  rw [lg_entry_eq]
  generalize (lg_sl ([.ref (ad 0), .int (x)]) ++ List.replicate (2 - (lg_sl ([.ref (ad 0), .int (x)])).length) Slot.unset).toArray = ls at hl ⊢
  have hl : lv_has ls 2 [(0, .ref (ad 0)), (1, .int (x))] := hl
  refine lv_iload_n hx hb dX0_isFeature_0 rfl (lv_at hl 1 rfl) ?_
  refine lv_if_lt (tgt := 16) hx hb dX0_isFeature_1 (by decide) (fun h => ?_) (fun h => ?_)
  · refine lv_iconst (v := nI 0) hx hb dX0_isFeature_16 (by decide +kernel) ?_
    exact W.zret hx hb hr (by decide +kernel) (fun t ht hW => ⟨⟨_, (), rfl, among_lo (by omega) h rfl, trivial⟩, hS.F ht⟩) hS.2.2 dX0_isFeature_17
  · refine lv_iload_n hx hb dX0_isFeature_4 rfl (lv_at hl 1 rfl) ?_
    refine lv_aload_n hx hb dX0_isFeature_5 rfl (lv_at hl 0 rfl) ?_
    refine gx hx hb hts innX0_isFeature hown hK hP 0 (by decide) (by decide +kernel) rfl (v := .int (nI ((xF κ)))) rfl dX0_isFeature_6 ?_
    refine lv_icmp_ge (tgt := 16) hx hb dX0_isFeature_9 (by decide) (fun h2 => ?_) (fun h2 => ?_)
    · refine lv_iconst (v := nI 0) hx hb dX0_isFeature_16 (by decide +kernel) ?_
      exact W.zret hx hb hr (by decide +kernel) (fun t ht hW => ⟨⟨_, (), rfl, among_hi (by omega) h2 rfl, trivial⟩, hS.F ht⟩) hS.2.2 dX0_isFeature_17
    · obtain ⟨j, hj, rfl⟩ := (pk_ix x (n := xF κ) (by omega)).resolve_left h |>.resolve_left h2
      refine lv_iconst (v := nI 1) hx hb dX0_isFeature_12 (by decide +kernel) ?_
      refine lv_goto (tgt := 17) hx hb dX0_isFeature_13 (by decide) ?_
      exact W.zret hx hb hr (by decide +kernel) (fun t ht hW => ⟨⟨_, (), rfl, among_y hj rfl rfl, trivial⟩, hS.F ht⟩) hS.2.2 dX0_isFeature_17
set_option maxHeartbeats 4000000 in
set_option maxRecDepth 100000 in
theorem lp_X0_distanceTo {p : Program} {l : Launch} {e : Env} {R : Room} {s : State} {m : MethodId} {args : Array Value} {below : List Frame} {meth : Method} {c : Code} {Q : State → Prop} {E : zE} {ad : Nat → Nat} (hx : p.tables.exec = Jvm.exec) (hb : c.code = cX0_distanceTo) (hml : c.maxLocals = 6) (hts : ∀ w ∈ wsX0_distanceTo, w.before args s = true) (hown : s.vm.findClass RX0 = some m.cls) (hK : zK E s) (hap : apart 96 ad) {H0 : Heap} (hRf : 1 ≤ R.frames) (hRl : 21 ≤ R.locals) (κ : SX) (c9 kv K : Nat) (v : Nat → Nat) (hF : xF κ ≤ 16) (hc : c9 < 16) (hkv : kv < 96) (hdv : cx E ad κ kv = hI (eI E) (xF κ) (fun j => nI (v j))) (hK1 : 1023 ≤ K) (hK2 : K ≤ 1900) (hw : ∀ f, f < xF κ → mg K (xWt κ c9 f) ∧ mg 1057 (xMn κ c9 f))
    (exit : ∀ (H : Heap) (locs : List Loc) (ls : Array Slot), PX E ad κ H → va_S (fun _ => False) H0 H locs → lv_has ls 6 [(3, .double (dsF (xWt κ c9) (xMn κ c9) v (xF κ))), (0, .ref (ad 0)), (1, .int (nI (c9))), (2, .ref (ad kv))] → W p l e R s m args below meth c H locs 0 0 Q (F0 m 51 ls [])) :
    ∀ (n i : Nat) (H : Heap) (locs : List Loc) (ls : Array Slot), i ≤ xF κ → xF κ - i < n → PX E ad κ H → va_S (fun _ => False) H0 H locs → lv_has ls 6 [(5, .int (nI (i))), (3, .double (dsF (xWt κ c9) (xMn κ c9) v i)), (0, .ref (ad 0)), (1, .int (nI (c9))), (2, .ref (ad kv))] → W p l e R s m args below meth c H locs 0 0 Q (F0 m 5 ls []) := by
  intro n
  induction n with
  | zero => intro i H locs ls h1 h2; omega
  | succ n ih =>
    intro i H locs ls hi hn hP hS hl
    refine lv_iload hx hb dX0_distanceTo_5 (lv_at hl 0 rfl) ?_
    refine lv_aload_n hx hb dX0_distanceTo_7 rfl (lv_at hl 2 rfl) ?_
    refine gx hx hb hts innX0_distanceTo hown hK hP 0 (by decide) (by decide +kernel) rfl (v := .int (nI ((xF κ)))) rfl dX0_distanceTo_8 ?_
    refine zb_ge (tgt := 51) hx hb (show i < 2 ^ 31 by omega) (show (xF κ) < 2 ^ 31 by omega) dX0_distanceTo_11 (by decide) (fun h => ?_) (fun h => ?_)
    · have hend : i = xF κ := by omega
      subst hend
      exact exit _ _ _ hP hS (lv_sub hl [1, 2, 3, 4] rfl)
    · have hq := hw i h
      refine lv_dload_n hx hb dX0_distanceTo_14 rfl (lv_at hl 1 rfl) ?_
      refine lv_aload_n hx hb dX0_distanceTo_15 rfl (lv_at hl 2 rfl) ?_
      refine gx hx hb hts innX0_distanceTo hown hK hP 9 (by decide) (by decide +kernel) rfl (v := .ref (ad 62)) rfl dX0_distanceTo_16 ?_
      refine lv_iload_n hx hb dX0_distanceTo_19 rfl (lv_at hl 3 rfl) ?_
      refine z_aald 3 hx hb hK hP 62 (by decide) cx_wtO rfl rfl (show c9 < 16 by omega) (by decide) (if_pos (show c9 < 16 by omega)) dX0_distanceTo_20 ?_
      refine lv_iload hx hb dX0_distanceTo_21 (lv_at hl 0 rfl) ?_
      refine z_dald hx hb hK hP (63 + c9) (show 63 + c9 < 96 by omega) (cx_wt (show c9 < 16 by omega)) (show i < xF κ by omega) (show xF κ < 2 ^ 31 by omega) dX0_distanceTo_23 ?_
      refine lv_aload_n hx hb dX0_distanceTo_24 rfl (lv_at hl 4 rfl) ?_
      refine lv_iload hx hb dX0_distanceTo_25 (lv_at hl 0 rfl) ?_
      refine z_iald hx hb hK hP kv hkv hdv (show i < xF κ by omega) (show xF κ < 2 ^ 31 by omega) dX0_distanceTo_27 ?_
      refine lv_i2d hx hb dX0_distanceTo_28 ?_
      refine lv_aload_n hx hb dX0_distanceTo_29 rfl (lv_at hl 2 rfl) ?_
      refine gx hx hb hts innX0_distanceTo hown hK hP 8 (by decide) (by decide +kernel) rfl (v := .ref (ad 45)) rfl dX0_distanceTo_30 ?_
      refine lv_iload_n hx hb dX0_distanceTo_33 rfl (lv_at hl 3 rfl) ?_
      refine z_aald 3 hx hb hK hP 45 (by decide) cx_mnO rfl rfl (show c9 < 16 by omega) (by decide) (if_pos (show c9 < 16 by omega)) dX0_distanceTo_34 ?_
      refine lv_iload hx hb dX0_distanceTo_35 (lv_at hl 0 rfl) ?_
      refine z_dald hx hb hK hP (46 + c9) (show 46 + c9 < 96 by omega) (cx_mn (show c9 < 16 by omega)) (show i < xF κ by omega) (show xF κ < 2 ^ 31 by omega) dX0_distanceTo_37 ?_
      refine lv_dsub hx hb dX0_distanceTo_38 (mg_n64 (mg_df _ hq.2) (by decide)) ?_
      refine va_calld (va_runS (As := [.double (FP.dsub (FP.i2d (nI (v (i)))) ((xMn κ) (c9) (i)))]) (rest := [.double ((xWt κ) (c9) (i)), .double (dsF (xWt κ c9) (xMn κ c9) v i)]) ⟨hx, hb, hml, hown, hts⟩ (kX0_size l _) (va_cwS 1 hts gX0_distanceTo_X0_size rfl rfl rfl (by decide +kernel) ⟨Nat.le_trans (Nat.le_of_ble_eq_true rfl) hRf, Nat.le_trans (Nat.le_of_ble_eq_true rfl) hRl⟩) zps rfl rfl hl.1 rfl (lv_room (Nat.le_of_ble_eq_true rfl)) dX0_distanceTo_39 ⟨Nat.zero_le _, Nat.zero_le _⟩) hS (fun q _ h => h.elim) (fun q h => h.elim) (fun r u9 t9 H locs ht9 hvm9 hw9 hB9 hz9 hk9 hS => ?_)
      have hP := wn_ro hP hk9
      subst hw9
      refine lv_dmul hx hb dX0_distanceTo_42 (mg_n64 (mg_dt hq.1 hq.2 hK1 hK2) (by omega)) ?_
      refine lv_dadd hx hb dX0_distanceTo_43 (mg_n64 (mg_dadd (L := K + 52) (mg_mono (mg_ds hK1 hK2 (show i ≤ 16 by omega) (fun f hf => hw f (by omega))) (show _ ≤ K + 51 by omega)) (mg_mono (mg_dt hq.1 hq.2 hK1 hK2) (by omega)) (by omega) (by omega) (by omega)) (by omega)) ?_
      refine lv_dstore_n (lv' := [(3, .double (dsF (xWt κ c9) (xMn κ c9) v (i + 1))), (5, .int (nI (i))), (0, .ref (ad 0)), (1, .int (nI (c9))), (2, .ref (ad kv))]) hx hb dX0_distanceTo_44 rfl hl (by decide) rfl (fun ls hl => ?_)
      refine lv_iinc (v := nI (i + 1)) (lv' := [(5, .int (nI (i + 1))), (3, .double (dsF (xWt κ c9) (xMn κ c9) v (i + 1))), (0, .ref (ad 0)), (1, .int (nI (c9))), (2, .ref (ad kv))]) hx hb dX0_distanceTo_45 hl (k := 1) rfl (nI_1 _) (by decide) rfl (fun ls hl => ?_)
      refine lv_goto (tgt := 5) hx hb dX0_distanceTo_48 (by decide) ?_
      exact ih (i + 1) _ _ _ (by omega) (by omega) hP hS (lv_sub hl [0, 1, 2, 3, 4] rfl)
set_option maxHeartbeats 4000000 in
set_option maxRecDepth 100000 in
theorem kX0_distanceTo (l : Launch) (E : zE) (ad : Nat → Nat) (hap : apart 96 ad) (κ : SX) (c9 kv K : Nat) (v : Nat → Nat) (hF : xF κ ≤ 16) (hc : c9 < 16) (hkv : kv < 96) (hdv : cx E ad κ kv = hI (eI E) (xF κ) (fun j => nI (v j))) (hK1 : 1023 ≤ K) (hK2 : K ≤ 1900) (hw : ∀ f, f < xF κ → mg K (xWt κ c9 f) ∧ mg 1057 (xMn κ c9 f)) : Met l yX0_distanceTo wsX0_distanceTo ({ frames := 1, cells := 0, slots := 0, locals := 21 }) (va_Pc [.ref (ad 0), .int (nI (c9)), .ref (ad kv)] (fun U => PX E ad κ U.heap ∧ zK E U)) (va_Qd (fun (r : UInt64) (_ : Unit) => r = dsF (xWt κ c9) (xMn κ c9) v (xF κ)) (fun _ _ => True) (fun _ => False)) 0 0 (fun _ => False) := by
  refine Met.ofW (cc := cX0_distanceTo) (maxL := 6) (ret := some .double) (by decide) rfl ?_
  intro p e s m args below meth c s₁ B hml hv
  obtain ⟨rfl, hP, hK⟩ := hv
  have hx := B.exec
  have hb := B.bytes
  have hr := B.returns
  have hts := atoms_spec (ws := wsX0_distanceTo) B.pre
  have hown : s.vm.findClass RX0 = some m.cls := findClass_of_methodNamed B.named
  have hlocks := B.notSynchronized
  have hS : va_S (fun _ => False) s.heap s.heap [] := va_S.rf
  have hRf : 1 ≤ ((headSpec wsX0_distanceTo ({ frames := 1, cells := 0, slots := 0, locals := 21 })).room).frames := Nat.le_of_ble_eq_true rfl
  have hRl : 21 ≤ ((headSpec wsX0_distanceTo ({ frames := 1, cells := 0, slots := 0, locals := 21 })).room).locals := Nat.le_of_ble_eq_true rfl
  have hl := lv_entry ([.ref (ad 0), .int (nI (c9)), .ref (ad kv)]) (n := 6) (Nat.le_of_ble_eq_true rfl)
  rw [lg_entry_eq]
  generalize (lg_sl ([.ref (ad 0), .int (nI (c9)), .ref (ad kv)]) ++ List.replicate (6 - (lg_sl ([.ref (ad 0), .int (nI (c9)), .ref (ad kv)])).length) Slot.unset).toArray = ls at hl ⊢
  have hl : lv_has ls 6 [(0, .ref (ad 0)), (1, .int (nI (c9))), (2, .ref (ad kv))] := hl
  refine lv_dconst0 hx hb dX0_distanceTo_0 ?_
  refine lv_dstore_n (lv' := [(3, .double (FP.dconst0)), (0, .ref (ad 0)), (1, .int (nI (c9))), (2, .ref (ad kv))]) hx hb dX0_distanceTo_1 rfl hl (by decide) rfl (fun ls hl => ?_)
  refine lv_iconst (v := nI 0) hx hb dX0_distanceTo_2 (by decide +kernel) ?_
  refine lv_istore (lv' := [(5, .int (nI (0))), (3, .double (FP.dconst0)), (0, .ref (ad 0)), (1, .int (nI (c9))), (2, .ref (ad kv))]) hx hb dX0_distanceTo_3 hl (by decide) rfl (fun ls hl => ?_)
  refine lp_X0_distanceTo hx hb hml hts hown hK hap hRf hRl κ c9 kv K v hF hc hkv hdv hK1 hK2 hw (fun H locs ls hP hS hl => ?_) (xF κ + 1) 0 _ _ _ (by omega) (by omega) hP hS (lv_sub hl [0, 1, 2, 3, 4] rfl)
  refine lv_dload_n hx hb dX0_distanceTo_51 rfl (lv_at hl 0 rfl) ?_
  exact W.dret hx hb hr (fun t ht hW => ⟨⟨_, (), rfl, rfl, trivial⟩, hS.F ht⟩) hS.2.2 dX0_distanceTo_52
