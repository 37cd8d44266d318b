/-! ===== the reference: reads ===== -/
set_option maxHeartbeats 4000000 in
set_option maxRecDepth 100000 in
theorem kX1_isFeature (l : Launch) (E : zE) (ad : Nat → Nat) (hap : apart 8 ad) (τ : SM) (x : Int32) (hF : mF τ ≤ 16) : Met l yX1_isFeature wsX1_isFeature ({ frames := 0, cells := 0, slots := 0, locals := 0 }) (va_Pc [.ref (ad 0), .int (x)] (fun U => PM E ad τ U.heap ∧ zK E U)) (va_Qi (fun (r : Int32) (_ : Unit) => among (mF τ) x r) (fun _ _ => True) (fun _ => False)) 0 0 (fun _ => False) := by
  refine Met.ofW (cc := cX1_isFeature) (maxL := 2) (ret := some .boolean) (by decide) rfl ?_
  intro p e s m args below meth c s₁ B hml hv
  obtain ⟨rfl, hP, hK⟩ := hv
  have hx := B.exec
  have hb := B.bytes
  have hr := B.returns
  have hts := atoms_spec (ws := wsX1_isFeature) B.pre
  have hown : s.vm.findClass RX1 = some m.cls := findClass_of_methodNamed B.named
  have hlocks := B.notSynchronized
  have hS : va_S (fun _ => False) s.heap s.heap [] := va_S.rf
  have hRf : 0 ≤ ((headSpec wsX1_isFeature ({ frames := 0, cells := 0, slots := 0, locals := 0 })).room).frames := Nat.le_of_ble_eq_true rfl
  have hRl : 0 ≤ ((headSpec wsX1_isFeature ({ frames := 0, cells := 0, slots := 0, locals := 0 })).room).locals := Nat.le_of_ble_eq_true rfl
  have hl := lv_entry ([.ref (ad 0), .int (x)]) (n := 2) (Nat.le_of_ble_eq_true rfl)
  rw [lg_entry_eq]
  generalize (lg_sl ([.ref (ad 0), .int (x)]) ++ List.replicate (2 - (lg_sl ([.ref (ad 0), .int (x)])).length) Slot.unset).toArray = ls at hl ⊢
  have hl : lv_has ls 2 [(0, .ref (ad 0)), (1, .int (x))] := hl
  refine lv_iload_n hx hb dX1_isFeature_0 rfl (lv_at hl 1 rfl) ?_
  refine lv_if_lt (tgt := 16) hx hb dX1_isFeature_1 (by decide) (fun h => ?_) (fun h => ?_)
  · refine lv_iconst (v := nI 0) hx hb dX1_isFeature_16 (by decide +kernel) ?_
    exact W.zret hx hb hr (by decide +kernel) (fun t ht hW => ⟨⟨_, (), rfl, among_lo (by omega) h rfl, trivial⟩, hS.F ht⟩) hS.2.2 dX1_isFeature_17
  · refine lv_iload_n hx hb dX1_isFeature_4 rfl (lv_at hl 1 rfl) ?_
    refine lv_aload_n hx hb dX1_isFeature_5 rfl (lv_at hl 0 rfl) ?_
    refine gm hx hb hts innX1_isFeature hown hK hP 1 (by decide) (by decide +kernel) rfl (v := .int (nI ((mF τ)))) rfl dX1_isFeature_6 ?_
    refine lv_icmp_ge (tgt := 16) hx hb dX1_isFeature_9 (by decide) (fun h2 => ?_) (fun h2 => ?_)
    · refine lv_iconst (v := nI 0) hx hb dX1_isFeature_16 (by decide +kernel) ?_
      exact W.zret hx hb hr (by decide +kernel) (fun t ht hW => ⟨⟨_, (), rfl, among_hi (by omega) h2 rfl, trivial⟩, hS.F ht⟩) hS.2.2 dX1_isFeature_17
    · obtain ⟨j, hj, rfl⟩ := (pk_ix x (n := mF τ) (by omega)).resolve_left h |>.resolve_left h2
      refine lv_iconst (v := nI 1) hx hb dX1_isFeature_12 (by decide +kernel) ?_
      refine lv_goto (tgt := 17) hx hb dX1_isFeature_13 (by decide) ?_
      exact W.zret hx hb hr (by decide +kernel) (fun t ht hW => ⟨⟨_, (), rfl, among_y hj rfl rfl, trivial⟩, hS.F ht⟩) hS.2.2 dX1_isFeature_17
set_option maxHeartbeats 4000000 in
set_option maxRecDepth 100000 in
theorem kX1_thrown (l : Launch) (E : zE) (ad : Nat → Nat) (hap : apart 8 ad) (τ : SM) : Met l yX1_thrown wsX1_thrown ({ frames := 0, cells := 0, slots := 0, locals := 0 }) (va_Pc [.ref (ad 0)] (fun U => PM E ad τ U.heap ∧ zK E U)) (va_Qi (fun (r : Int32) (_ : Unit) => r = nI (mC τ)) (fun _ _ => True) (fun _ => False)) 0 0 (fun _ => False) := by
  refine Met.ofW (cc := cX1_thrown) (maxL := 1) (ret := some .int) (by decide) rfl ?_
  intro p e s m args below meth c s₁ B hml hv
  obtain ⟨rfl, hP, hK⟩ := hv
  have hx := B.exec
  have hb := B.bytes
  have hr := B.returns
  have hts := atoms_spec (ws := wsX1_thrown) B.pre
  have hown : s.vm.findClass RX1 = some m.cls := findClass_of_methodNamed B.named
  have hlocks := B.notSynchronized
  have hS : va_S (fun _ => False) s.heap s.heap [] := va_S.rf
  have hRf : 0 ≤ ((headSpec wsX1_thrown ({ frames := 0, cells := 0, slots := 0, locals := 0 })).room).frames := Nat.le_of_ble_eq_true rfl
  have hRl : 0 ≤ ((headSpec wsX1_thrown ({ frames := 0, cells := 0, slots := 0, locals := 0 })).room).locals := Nat.le_of_ble_eq_true rfl
  have hl := lv_entry ([.ref (ad 0)]) (n := 1) (Nat.le_of_ble_eq_true rfl)
  rw [lg_entry_eq]
  generalize (lg_sl ([.ref (ad 0)]) ++ List.replicate (1 - (lg_sl ([.ref (ad 0)])).length) Slot.unset).toArray = ls at hl ⊢
  have hl : lv_has ls 1 [(0, .ref (ad 0))] := hl
  refine lv_aload_n hx hb dX1_thrown_0 rfl (lv_at hl 0 rfl) ?_
  refine gm hx hb hts innX1_thrown hown hK hP 0 (by decide) (by decide +kernel) rfl (v := .int (nI ((mC τ)))) rfl dX1_thrown_1 ?_
  exact W.iret hx hb hr (fun t ht hW => ⟨⟨_, (), rfl, rfl, trivial⟩, hS.F ht⟩) hS.2.2 dX1_thrown_4
set_option maxHeartbeats 4000000 in
set_option maxRecDepth 100000 in
theorem lp_X1_distanceTo {p : Program} {l : Launch} {e : Env} {R : Room} {s : State} {m : MethodId} {args : Array Value} {below : List Frame} {meth : Method} {c : Code} {Q : State → Prop} {E : zE} {ad : Nat → Nat} (hx : p.tables.exec = Jvm.exec) (hb : c.code = cX1_distanceTo) (hml : c.maxLocals = 7) (hts : ∀ w ∈ wsX1_distanceTo, w.before args s = true) (hown : s.vm.findClass RX1 = some m.cls) (hK : zK E s) (hap : apart 8 ad) {H0 : Heap} (hRf : 1 ≤ R.frames) (hRl : 21 ≤ R.locals) (τ : SM) (kv nv fr c9 K : Nat) (v : Nat → Nat) (hF : mF τ ≤ 16) (hc : c9 < 16) (hkv : kv < 8) (hdv : cm E ad τ kv = hI (eI E) nv (fun j => nI (v j))) (hnv : nv < 2 ^ 31) (hfr : fr + mF τ ≤ nv) (hK1 : 1023 ≤ K) (hK2 : K ≤ 1900) (hw : ∀ f, f < mF τ → mg K (mWt τ (16 * c9 + f)) ∧ mg 1057 (mMn τ (16 * c9 + f)))
    (exit : ∀ (H : Heap) (locs : List Loc) (ls : Array Slot), PM E ad τ H → va_S (fun _ => False) H0 H locs → lv_has ls 7 [(4, .double (dsF (fun f => mWt τ (16 * c9 + f)) (fun f => mMn τ (16 * c9 + f)) (fun f => v (fr + f)) (mF τ))), (0, .ref (ad 0)), (1, .ref (ad kv)), (2, .int (nI (fr))), (3, .int (nI (c9)))] → W p l e R s m args below meth c H locs 0 0 Q (F0 m 62 ls [])) :
    ∀ (n i : Nat) (H : Heap) (locs : List Loc) (ls : Array Slot), i ≤ mF τ → mF τ - i < n → PM E ad τ H → va_S (fun _ => False) H0 H locs → lv_has ls 7 [(6, .int (nI (i))), (4, .double (dsF (fun f => mWt τ (16 * c9 + f)) (fun f => mMn τ (16 * c9 + f)) (fun f => v (fr + f)) i)), (0, .ref (ad 0)), (1, .ref (ad kv)), (2, .int (nI (fr))), (3, .int (nI (c9)))] → W p l e R s m args below meth c H locs 0 0 Q (F0 m 6 ls []) := by
  intro n
  induction n with
  | zero => intro i H locs ls h1 h2; omega
  | succ n ih =>
    intro i H locs ls hi hn hP hS hl
    refine lv_iload hx hb dX1_distanceTo_6 (lv_at hl 0 rfl) ?_
    refine lv_aload_n hx hb dX1_distanceTo_8 rfl (lv_at hl 2 rfl) ?_
    refine gm hx hb hts innX1_distanceTo hown hK hP 1 (by decide) (by decide +kernel) rfl (v := .int (nI ((mF τ)))) rfl dX1_distanceTo_9 ?_
    refine zb_ge (tgt := 62) hx hb (show i < 2 ^ 31 by omega) (show (mF τ) < 2 ^ 31 by omega) dX1_distanceTo_12 (by decide) (fun h => ?_) (fun h => ?_)
    · have h : (mF τ) ≤ i := h
      have hend : i = mF τ := by omega
      subst hend
      exact exit _ _ _ hP hS (lv_sub hl [1, 2, 3, 4, 5] rfl)
    · have h : i < (mF τ) := h
      have hq := hw i h
      refine lv_dload hx hb dX1_distanceTo_15 (lv_at hl 1 rfl) ?_
      refine lv_aload_n hx hb dX1_distanceTo_17 rfl (lv_at hl 2 rfl) ?_
      refine gm hx hb hts innX1_distanceTo hown hK hP 9 (by decide) (by decide +kernel) rfl (v := .ref (ad 6)) rfl dX1_distanceTo_18 ?_
      refine lv_bipush (v := nI 16) hx hb dX1_distanceTo_21 (by decide +kernel) ?_
      refine lv_iload_n hx hb dX1_distanceTo_23 rfl (lv_at hl 5 rfl) ?_
      refine zv_imul (v := (nI (16 * c9))) hx hb dX1_distanceTo_24 (pk_mul _ _) ?_
      refine lv_iload hx hb dX1_distanceTo_25 (lv_at hl 0 rfl) ?_
      refine zv_iadd (v := (nI ((16 * c9) + i))) hx hb dX1_distanceTo_27 (nI_add _ _) ?_
      refine z_dald hx hb hK hP 6 (by decide) cm_wt (show (16 * c9) + i < 256 by omega) (by decide) dX1_distanceTo_28 ?_
      refine lv_aload_n hx hb dX1_distanceTo_29 rfl (lv_at hl 3 rfl) ?_
      refine lv_iload_n hx hb dX1_distanceTo_30 rfl (lv_at hl 4 rfl) ?_
      refine lv_iload hx hb dX1_distanceTo_31 (lv_at hl 0 rfl) ?_
      refine zv_iadd (v := (nI (fr + i))) hx hb dX1_distanceTo_33 (nI_add _ _) ?_
      refine z_iald hx hb hK hP kv hkv hdv (show fr + i < nv by omega) (show nv < 2 ^ 31 by omega) dX1_distanceTo_34 ?_
      refine lv_i2d hx hb dX1_distanceTo_35 ?_
      refine lv_aload_n hx hb dX1_distanceTo_36 rfl (lv_at hl 2 rfl) ?_
      refine gm hx hb hts innX1_distanceTo hown hK hP 8 (by decide) (by decide +kernel) rfl (v := .ref (ad 5)) rfl dX1_distanceTo_37 ?_
      refine lv_bipush (v := nI 16) hx hb dX1_distanceTo_40 (by decide +kernel) ?_
      refine lv_iload_n hx hb dX1_distanceTo_42 rfl (lv_at hl 5 rfl) ?_
      refine zv_imul (v := (nI (16 * c9))) hx hb dX1_distanceTo_43 (pk_mul _ _) ?_
      refine lv_iload hx hb dX1_distanceTo_44 (lv_at hl 0 rfl) ?_
      refine zv_iadd (v := (nI ((16 * c9) + i))) hx hb dX1_distanceTo_46 (nI_add _ _) ?_
      refine z_dald hx hb hK hP 5 (by decide) cm_mn (show (16 * c9) + i < 256 by omega) (by decide) dX1_distanceTo_47 ?_
      refine lv_dsub hx hb dX1_distanceTo_48 (mg_n64 (mg_df _ hq.2) (by decide)) ?_
      refine va_calld (va_runS (As := [.double (FP.dsub (FP.i2d (nI (v (fr + i)))) ((mMn τ) ((16 * c9) + i)))]) (rest := [.double ((mWt τ) ((16 * c9) + i)), .double (dsF (fun f => mWt τ (16 * c9 + f)) (fun f => mMn τ (16 * c9 + f)) (fun f => v (fr + f)) i)]) ⟨hx, hb, hml, hown, hts⟩ (kX1_size l _) (va_cwS 1 hts gX1_distanceTo_X1_size rfl rfl rfl (by decide +kernel) ⟨Nat.le_trans (Nat.le_of_ble_eq_true rfl) hRf, Nat.le_trans (Nat.le_of_ble_eq_true rfl) hRl⟩) zps rfl rfl hl.1 rfl (lv_room (Nat.le_of_ble_eq_true rfl)) dX1_distanceTo_49 ⟨Nat.zero_le _, Nat.zero_le _⟩) hS (fun q _ h => h.elim) (fun q h => h.elim) (fun r u9 t9 H locs ht9 hvm9 hw9 hB9 hz9 hk9 hS => ?_)
      have hP := wn_ro hP hk9
      subst hw9
      refine lv_dmul hx hb dX1_distanceTo_52 (mg_n64 (mg_dt hq.1 hq.2 hK1 hK2) (by omega)) ?_
      refine lv_dadd hx hb dX1_distanceTo_53 (mg_n64 (mg_dadd (L := K + 52) (mg_mono (mg_ds hK1 hK2 (show i ≤ 16 by omega) (fun f hf => hw f (by omega))) (show _ ≤ K + 51 by omega)) (mg_mono (mg_dt hq.1 hq.2 hK1 hK2) (by omega)) (by omega) (by omega) (by omega)) (by omega)) ?_
      refine lv_dstore (lv' := [(4, .double (dsF (fun f => mWt τ (16 * c9 + f)) (fun f => mMn τ (16 * c9 + f)) (fun f => v (fr + f)) (i + 1))), (6, .int (nI (i))), (0, .ref (ad 0)), (1, .ref (ad kv)), (2, .int (nI (fr))), (3, .int (nI (c9)))]) hx hb dX1_distanceTo_54 hl (by decide) rfl (fun ls hl => ?_)
      refine lv_iinc (v := nI (i + 1)) (lv' := [(6, .int (nI (i + 1))), (4, .double (dsF (fun f => mWt τ (16 * c9 + f)) (fun f => mMn τ (16 * c9 + f)) (fun f => v (fr + f)) (i + 1))), (0, .ref (ad 0)), (1, .ref (ad kv)), (2, .int (nI (fr))), (3, .int (nI (c9)))]) hx hb dX1_distanceTo_56 hl (k := 1) rfl (nI_1 _) (by decide) rfl (fun ls hl => ?_)
      refine lv_goto (tgt := 6) hx hb dX1_distanceTo_59 (by decide) ?_
      exact ih (i + 1) _ _ _ (by omega) (by omega) hP hS (lv_sub hl [0, 1, 2, 3, 4, 5] rfl)
set_option maxHeartbeats 4000000 in
set_option maxRecDepth 100000 in
theorem kX1_distanceTo (l : Launch) (E : zE) (ad : Nat → Nat) (hap : apart 8 ad) (τ : SM) (kv nv fr c9 K : Nat) (v : Nat → Nat) (hF : mF τ ≤ 16) (hc : c9 < 16) (hkv : kv < 8) (hdv : cm E ad τ kv = hI (eI E) nv (fun j => nI (v j))) (hnv : nv < 2 ^ 31) (hfr : fr + mF τ ≤ nv) (hK1 : 1023 ≤ K) (hK2 : K ≤ 1900) (hw : ∀ f, f < mF τ → mg K (mWt τ (16 * c9 + f)) ∧ mg 1057 (mMn τ (16 * c9 + f))) : Met l yX1_distanceTo wsX1_distanceTo ({ frames := 1, cells := 0, slots := 0, locals := 21 }) (va_Pc [.ref (ad 0), .ref (ad kv), .int (nI (fr)), .int (nI (c9))] (fun U => PM E ad τ U.heap ∧ zK E U)) (va_Qd (fun (r : UInt64) (_ : Unit) => r = dsF (fun f => mWt τ (16 * c9 + f)) (fun f => mMn τ (16 * c9 + f)) (fun f => v (fr + f)) (mF τ)) (fun _ _ => True) (fun _ => False)) 0 0 (fun _ => False) := by
  refine Met.ofW (cc := cX1_distanceTo) (maxL := 7) (ret := some .double) (by decide) rfl ?_
  intro p e s m args below meth c s₁ B hml hv
  obtain ⟨rfl, hP, hK⟩ := hv
  have hx := B.exec
  have hb := B.bytes
  have hr := B.returns
  have hts := atoms_spec (ws := wsX1_distanceTo) B.pre
  have hown : s.vm.findClass RX1 = some m.cls := findClass_of_methodNamed B.named
  have hlocks := B.notSynchronized
  have hS : va_S (fun _ => False) s.heap s.heap [] := va_S.rf
  have hRf : 1 ≤ ((headSpec wsX1_distanceTo ({ frames := 1, cells := 0, slots := 0, locals := 21 })).room).frames := Nat.le_of_ble_eq_true rfl
  have hRl : 21 ≤ ((headSpec wsX1_distanceTo ({ frames := 1, cells := 0, slots := 0, locals := 21 })).room).locals := Nat.le_of_ble_eq_true rfl
  have hl := lv_entry ([.ref (ad 0), .ref (ad kv), .int (nI (fr)), .int (nI (c9))]) (n := 7) (Nat.le_of_ble_eq_true rfl)
  rw [lg_entry_eq]
  generalize (lg_sl ([.ref (ad 0), .ref (ad kv), .int (nI (fr)), .int (nI (c9))]) ++ List.replicate (7 - (lg_sl ([.ref (ad 0), .ref (ad kv), .int (nI (fr)), .int (nI (c9))])).length) Slot.unset).toArray = ls at hl ⊢
  have hl : lv_has ls 7 [(0, .ref (ad 0)), (1, .ref (ad kv)), (2, .int (nI (fr))), (3, .int (nI (c9)))] := hl
  refine lv_dconst0 hx hb dX1_distanceTo_0 ?_
  refine lv_dstore (lv' := [(4, .double (FP.dconst0)), (0, .ref (ad 0)), (1, .ref (ad kv)), (2, .int (nI (fr))), (3, .int (nI (c9)))]) hx hb dX1_distanceTo_1 hl (by decide) rfl (fun ls hl => ?_)
  refine lv_iconst (v := nI 0) hx hb dX1_distanceTo_3 (by decide +kernel) ?_
  refine lv_istore (lv' := [(6, .int (nI (0))), (4, .double (FP.dconst0)), (0, .ref (ad 0)), (1, .ref (ad kv)), (2, .int (nI (fr))), (3, .int (nI (c9)))]) hx hb dX1_distanceTo_4 hl (by decide) rfl (fun ls hl => ?_)
  refine lp_X1_distanceTo hx hb hml hts hown hK hap hRf hRl τ kv nv fr c9 K v hF hc hkv hdv hnv hfr hK1 hK2 hw (fun H locs ls hP hS hl => ?_) (mF τ + 1) 0 _ _ _ (by omega) (by omega) hP hS (lv_sub hl [0, 1, 2, 3, 4, 5] rfl)
  refine lv_dload hx hb dX1_distanceTo_62 (lv_at hl 0 rfl) ?_
  exact W.dret hx hb hr (fun t ht hW => ⟨⟨_, (), rfl, rfl, trivial⟩, hS.F ht⟩) hS.2.2 dX1_distanceTo_64
def hasM (τ : SM) : Nat → Bool := fun c => decide (mHs τ c ≠ 0)
def ddM (τ : SM) (v : Nat → Nat) (fr : Nat) : Nat → UInt64 := fun c => dsF (fun f => mWt τ (16 * c + f)) (fun f => mMn τ (16 * c + f)) (fun f => v (fr + f)) (mF τ)
def nearM (τ : SM) (v : Nat → Nat) (fr : Nat) (but : Int32) : Int32 := (nrF (hasM τ) (ddM τ v fr) but 16).1
set_option maxHeartbeats 4000000 in
set_option maxRecDepth 100000 in
theorem lp_X1_nearest {p : Program} {l : Launch} {e : Env} {R : Room} {s : State} {m : MethodId} {args : Array Value} {below : List Frame} {meth : Method} {c : Code} {Q : State → Prop} {E : zE} {ad : Nat → Nat} (hx : p.tables.exec = Jvm.exec) (hb : c.code = cX1_nearest) (hml : c.maxLocals = 10) (hts : ∀ w ∈ wsX1_nearest, w.before args s = true) (hown : s.vm.findClass RX1 = some m.cls) (hK : zK E s) (hap : apart 8 ad) {H0 : Heap} (hRf : 2 ≤ R.frames) (hRl : 47 ≤ R.locals) (τ : SM) (kv nv fr K : Nat) (v : Nat → Nat) (but : Int32) (hF : mF τ ≤ 16) (hmb : ∀ c, c < 16 → mHs τ c < 2 ^ 31) (hkv : kv < 8) (hdv : cm E ad τ kv = hI (eI E) nv (fun j => nI (v j))) (hnv : nv < 2 ^ 31) (hfr : fr + mF τ ≤ nv) (hK1 : 1023 ≤ K) (hK2 : K ≤ 1900) (hw : ∀ c, c < 16 → ∀ f, f < mF τ → mg K (mWt τ (16 * c + f)) ∧ mg 1057 (mMn τ (16 * c + f)))
    (exit : ∀ (H : Heap) (locs : List Loc) (ls : Array Slot), PM E ad τ H → va_S (fun _ => False) H0 H locs → lv_has ls 10 [(4, .int ((nrF (hasM τ) (ddM τ v fr) but 16).1)), (0, .ref (ad 0)), (1, .ref (ad kv)), (2, .int (nI (fr))), (3, .int (but))] → W p l e R s m args below meth c H locs 0 0 Q (F0 m 69 ls [])) :
    ∀ (n i : Nat) (H : Heap) (locs : List Loc) (ls : Array Slot), i ≤ 16 → 16 - i < n → PM E ad τ H → va_S (fun _ => False) H0 H locs → lv_has ls 10 [(7, .int (nI (i))), (5, .double ((nrF (hasM τ) (ddM τ v fr) but i).2)), (4, .int ((nrF (hasM τ) (ddM τ v fr) but i).1)), (0, .ref (ad 0)), (1, .ref (ad kv)), (2, .int (nI (fr))), (3, .int (but))] → W p l e R s m args below meth c H locs 0 0 Q (F0 m 9 ls []) := by
  intro n
  induction n with
  | zero => intro i H locs ls h1 h2; omega
  | succ n ih =>
    intro i H locs ls hi hn hP hS hl
    refine lv_iload hx hb dX1_nearest_9 (lv_at hl 0 rfl) ?_
    refine lv_bipush (v := nI 16) hx hb dX1_nearest_11 (by decide +kernel) ?_
    refine zb_ge (tgt := 69) hx hb (show i < 2 ^ 31 by omega) (show 16 < 2 ^ 31 by omega) dX1_nearest_13 (by decide) (fun h => ?_) (fun h => ?_)
    · have h : 16 ≤ i := h
      have hend : i = 16 := by omega
      subst hend
      exact exit _ _ _ hP hS (lv_sub hl [2, 3, 4, 5, 6] rfl)
    · have h : i < 16 := h
      have hmi := hmb i h
      refine lv_aload_n hx hb dX1_nearest_16 rfl (lv_at hl 3 rfl) ?_
      refine gm hx hb hts innX1_nearest hown hK hP 7 (by decide) (by decide +kernel) rfl (v := .ref (ad 4)) rfl dX1_nearest_17 ?_
      refine lv_iload hx hb dX1_nearest_20 (lv_at hl 0 rfl) ?_
      refine z_zald hx hb hK hP 4 (by decide) cm_hs (show i < 16 by omega) (by decide) dX1_nearest_22 ?_
      refine zu_eq (tgt := 63) hx hb (show (mHs τ) (i) < 2 ^ 31 by omega) dX1_nearest_23 (by decide) (fun h1 => ?_) (fun h1 => ?_)
      · have h1 : ((mHs τ) (i)) = 0 := h1
        have e9 : (nrF (hasM τ) (ddM τ v fr) but (i + 1)) = (nrF (hasM τ) (ddM τ v fr) but i) := if_neg (fun q => absurd q.1 (by unfold hasM; rw [h1]; decide))
        refine lv_iinc (v := nI (i + 1)) (lv' := [(7, .int (nI (i + 1))), (5, .double ((nrF (hasM τ) (ddM τ v fr) but i).2)), (4, .int ((nrF (hasM τ) (ddM τ v fr) but i).1)), (0, .ref (ad 0)), (1, .ref (ad kv)), (2, .int (nI (fr))), (3, .int (but))]) hx hb dX1_nearest_63 hl (k := 0) rfl (nI_1 _) (by decide) rfl (fun ls hl => ?_)
        refine lv_goto (tgt := 9) hx hb dX1_nearest_66 (by decide) ?_
        exact ih (i + 1) _ _ _ (by omega) (by omega) hP hS (by rw [e9]; exact lv_sub hl [0, 1, 2, 3, 4, 5, 6] rfl)
      · have h1 : 0 < ((mHs τ) (i)) := h1
        refine lv_iload hx hb dX1_nearest_26 (lv_at hl 0 rfl) ?_
        refine lv_iload_n hx hb dX1_nearest_28 rfl (lv_at hl 6 rfl) ?_
        refine lv_icmp_eq (tgt := 63) hx hb dX1_nearest_29 (by decide) (fun h2 => ?_) (fun h2 => ?_)
        · have e9 : (nrF (hasM τ) (ddM τ v fr) but (i + 1)) = (nrF (hasM τ) (ddM τ v fr) but i) := if_neg (fun q => q.2.1 h2)
          refine lv_iinc (v := nI (i + 1)) (lv' := [(7, .int (nI (i + 1))), (5, .double ((nrF (hasM τ) (ddM τ v fr) but i).2)), (4, .int ((nrF (hasM τ) (ddM τ v fr) but i).1)), (0, .ref (ad 0)), (1, .ref (ad kv)), (2, .int (nI (fr))), (3, .int (but))]) hx hb dX1_nearest_63 hl (k := 0) rfl (nI_1 _) (by decide) rfl (fun ls hl => ?_)
          refine lv_goto (tgt := 9) hx hb dX1_nearest_66 (by decide) ?_
          exact ih (i + 1) _ _ _ (by omega) (by omega) hP hS (by rw [e9]; exact lv_sub hl [0, 1, 2, 3, 4, 5, 6] rfl)
        · refine lv_aload_n hx hb dX1_nearest_32 rfl (lv_at hl 3 rfl) ?_
          refine lv_aload_n hx hb dX1_nearest_33 rfl (lv_at hl 4 rfl) ?_
          refine lv_iload_n hx hb dX1_nearest_34 rfl (lv_at hl 5 rfl) ?_
          refine lv_iload hx hb dX1_nearest_35 (lv_at hl 0 rfl) ?_
          refine va_calld (va_runV (As := [.ref (ad kv), .int (nI (fr)), .int (nI (i))]) (rest := []) ⟨hx, hb, hml, hown, hts⟩ (kX1_distanceTo l E ad hap τ kv nv fr i K v hF h hkv hdv hnv hfr hK1 hK2 (hw i h)) (cwV 3 hts gX1_nearest_X1_distanceTo rfl rfl rfl (by decide +kernel) ⟨Nat.le_trans (Nat.le_of_ble_eq_true rfl) hRf, Nat.le_trans (Nat.le_of_ble_eq_true rfl) hRl⟩) (zpm hK hP) rfl rfl hl.1 rfl (lv_room (Nat.le_of_ble_eq_true rfl)) dX1_nearest_37 ⟨Nat.zero_le _, Nat.zero_le _⟩) hS (fun q _ h => h.elim) (fun q h => h.elim) (fun r u9 t9 H locs ht9 hvm9 hw9 hB9 hz9 hk9 hS => ?_)
          have hP := wn_ro hP hk9
          subst hw9
          show W p l e R s m args below meth c H locs 0 0 Q (F0 m 40 ls [.double (ddM τ v fr i)])
          refine lv_dstore (lv' := [(8, .double (ddM τ v fr i)), (7, .int (nI (i))), (5, .double ((nrF (hasM τ) (ddM τ v fr) but i).2)), (4, .int ((nrF (hasM τ) (ddM τ v fr) but i).1)), (0, .ref (ad 0)), (1, .ref (ad kv)), (2, .int (nI (fr))), (3, .int (but))]) hx hb dX1_nearest_40 hl (by decide) rfl (fun ls hl => ?_)
          refine lv_iload hx hb dX1_nearest_42 (lv_at hl 3 rfl) ?_
          refine lv_if_lt (tgt := 55) hx hb dX1_nearest_44 (by decide) (fun h3 => ?_) (fun h3 => ?_)
          · have e9 : (nrF (hasM τ) (ddM τ v fr) but (i + 1)) = (nI i, ddM τ v fr i) := if_pos ⟨decide_eq_true (Nat.ne_of_gt h1), h2, Or.inl ((nrF_neg (by omega)).mp h3)⟩
            refine lv_iload hx hb dX1_nearest_55 (lv_at hl 1 rfl) ?_
            refine lv_istore (lv' := [(4, .int (nI (i))), (8, .double (ddM τ v fr i)), (7, .int (nI (i))), (5, .double ((nrF (hasM τ) (ddM τ v fr) but i).2)), (0, .ref (ad 0)), (1, .ref (ad kv)), (2, .int (nI (fr))), (3, .int (but))]) hx hb dX1_nearest_57 hl (by decide) rfl (fun ls hl => ?_)
            refine lv_dload hx hb dX1_nearest_59 (lv_at hl 1 rfl) ?_
            refine lv_dstore (lv' := [(5, .double (ddM τ v fr i)), (4, .int (nI (i))), (8, .double (ddM τ v fr i)), (7, .int (nI (i))), (0, .ref (ad 0)), (1, .ref (ad kv)), (2, .int (nI (fr))), (3, .int (but))]) hx hb dX1_nearest_61 hl (by decide) rfl (fun ls hl => ?_)
            refine lv_iinc (v := nI (i + 1)) (lv' := [(7, .int (nI (i + 1))), (5, .double (ddM τ v fr i)), (4, .int (nI (i))), (8, .double (ddM τ v fr i)), (0, .ref (ad 0)), (1, .ref (ad kv)), (2, .int (nI (fr))), (3, .int (but))]) hx hb dX1_nearest_63 hl (k := 3) rfl (nI_1 _) (by decide) rfl (fun ls hl => ?_)
            refine lv_goto (tgt := 9) hx hb dX1_nearest_66 (by decide) ?_
            exact ih (i + 1) _ _ _ (by omega) (by omega) hP hS (by rw [e9]; exact lv_sub hl [0, 1, 2, 4, 5, 6, 7] rfl)
          · refine lv_dload hx hb dX1_nearest_47 (lv_at hl 0 rfl) ?_
            refine lv_dload hx hb dX1_nearest_49 (lv_at hl 2 rfl) ?_
            refine lv_dcmp hx hb dX1_nearest_51 ?_
            refine lv_if_ge (tgt := 63) hx hb dX1_nearest_52 (by decide) (fun h4 => ?_) (fun h4 => ?_)
            · have e9 : (nrF (hasM τ) (ddM τ v fr) but (i + 1)) = (nrF (hasM τ) (ddM τ v fr) but i) := if_neg (fun q => q.2.2.elim (fun z => h3 ((nrF_neg (by omega)).mpr z)) (fun z => z h4))
              refine lv_iinc (v := nI (i + 1)) (lv' := [(7, .int (nI (i + 1))), (8, .double (ddM τ v fr i)), (5, .double ((nrF (hasM τ) (ddM τ v fr) but i).2)), (4, .int ((nrF (hasM τ) (ddM τ v fr) but i).1)), (0, .ref (ad 0)), (1, .ref (ad kv)), (2, .int (nI (fr))), (3, .int (but))]) hx hb dX1_nearest_63 hl (k := 1) rfl (nI_1 _) (by decide) rfl (fun ls hl => ?_)
              refine lv_goto (tgt := 9) hx hb dX1_nearest_66 (by decide) ?_
              exact ih (i + 1) _ _ _ (by omega) (by omega) hP hS (by rw [e9]; exact lv_sub hl [0, 2, 3, 4, 5, 6, 7] rfl)
            · have e9 : (nrF (hasM τ) (ddM τ v fr) but (i + 1)) = (nI i, ddM τ v fr i) := if_pos ⟨decide_eq_true (Nat.ne_of_gt h1), h2, Or.inr h4⟩
              refine lv_iload hx hb dX1_nearest_55 (lv_at hl 1 rfl) ?_
              refine lv_istore (lv' := [(4, .int (nI (i))), (8, .double (ddM τ v fr i)), (7, .int (nI (i))), (5, .double ((nrF (hasM τ) (ddM τ v fr) but i).2)), (0, .ref (ad 0)), (1, .ref (ad kv)), (2, .int (nI (fr))), (3, .int (but))]) hx hb dX1_nearest_57 hl (by decide) rfl (fun ls hl => ?_)
              refine lv_dload hx hb dX1_nearest_59 (lv_at hl 1 rfl) ?_
              refine lv_dstore (lv' := [(5, .double (ddM τ v fr i)), (4, .int (nI (i))), (8, .double (ddM τ v fr i)), (7, .int (nI (i))), (0, .ref (ad 0)), (1, .ref (ad kv)), (2, .int (nI (fr))), (3, .int (but))]) hx hb dX1_nearest_61 hl (by decide) rfl (fun ls hl => ?_)
              refine lv_iinc (v := nI (i + 1)) (lv' := [(7, .int (nI (i + 1))), (5, .double (ddM τ v fr i)), (4, .int (nI (i))), (8, .double (ddM τ v fr i)), (0, .ref (ad 0)), (1, .ref (ad kv)), (2, .int (nI (fr))), (3, .int (but))]) hx hb dX1_nearest_63 hl (k := 3) rfl (nI_1 _) (by decide) rfl (fun ls hl => ?_)
              refine lv_goto (tgt := 9) hx hb dX1_nearest_66 (by decide) ?_
              exact ih (i + 1) _ _ _ (by omega) (by omega) hP hS (by rw [e9]; exact lv_sub hl [0, 1, 2, 4, 5, 6, 7] rfl)
set_option maxHeartbeats 4000000 in
set_option maxRecDepth 100000 in
theorem kX1_nearest (l : Launch) (E : zE) (ad : Nat → Nat) (hap : apart 8 ad) (τ : SM) (kv nv fr K : Nat) (v : Nat → Nat) (but : Int32) (hF : mF τ ≤ 16) (hmb : ∀ c, c < 16 → mHs τ c < 2 ^ 31) (hkv : kv < 8) (hdv : cm E ad τ kv = hI (eI E) nv (fun j => nI (v j))) (hnv : nv < 2 ^ 31) (hfr : fr + mF τ ≤ nv) (hK1 : 1023 ≤ K) (hK2 : K ≤ 1900) (hw : ∀ c, c < 16 → ∀ f, f < mF τ → mg K (mWt τ (16 * c + f)) ∧ mg 1057 (mMn τ (16 * c + f))) : Met l yX1_nearest wsX1_nearest ({ frames := 2, cells := 0, slots := 0, locals := 47 }) (va_Pc [.ref (ad 0), .ref (ad kv), .int (nI (fr)), .int (but)] (fun U => PM E ad τ U.heap ∧ zK E U)) (va_Qi (fun (r : Int32) (_ : Unit) => r = nearM τ v fr but) (fun _ _ => True) (fun _ => False)) 0 0 (fun _ => False) := by
  refine Met.ofW (cc := cX1_nearest) (maxL := 10) (ret := some .int) (by decide) rfl ?_
  intro p e s m args below meth c s₁ B hml hv
  obtain ⟨rfl, hP, hK⟩ := hv
  have hx := B.exec
  have hb := B.bytes
  have hr := B.returns
  have hts := atoms_spec (ws := wsX1_nearest) B.pre
  have hown : s.vm.findClass RX1 = some m.cls := findClass_of_methodNamed B.named
  have hlocks := B.notSynchronized
  have hS : va_S (fun _ => False) s.heap s.heap [] := va_S.rf
  have hRf : 2 ≤ ((headSpec wsX1_nearest ({ frames := 2, cells := 0, slots := 0, locals := 47 })).room).frames := Nat.le_of_ble_eq_true rfl
  have hRl : 47 ≤ ((headSpec wsX1_nearest ({ frames := 2, cells := 0, slots := 0, locals := 47 })).room).locals := Nat.le_of_ble_eq_true rfl
  have hl := lv_entry ([.ref (ad 0), .ref (ad kv), .int (nI (fr)), .int (but)]) (n := 10) (Nat.le_of_ble_eq_true rfl)
  rw [lg_entry_eq]
  generalize (lg_sl ([.ref (ad 0), .ref (ad kv), .int (nI (fr)), .int (but)]) ++ List.replicate (10 - (lg_sl ([.ref (ad 0), .ref (ad kv), .int (nI (fr)), .int (but)])).length) Slot.unset).toArray = ls at hl ⊢
  have hl : lv_has ls 10 [(0, .ref (ad 0)), (1, .ref (ad kv)), (2, .int (nI (fr))), (3, .int (but))] := hl
  refine lv_iconst (v := -1) hx hb dX1_nearest_0 (by decide +kernel) ?_
  refine lv_istore (lv' := [(4, .int (-1)), (0, .ref (ad 0)), (1, .ref (ad kv)), (2, .int (nI (fr))), (3, .int (but))]) hx hb dX1_nearest_1 hl (by decide) rfl (fun ls hl => ?_)
  refine lv_dconst0 hx hb dX1_nearest_3 ?_
  refine lv_dstore (lv' := [(5, .double (FP.dconst0)), (4, .int (-1)), (0, .ref (ad 0)), (1, .ref (ad kv)), (2, .int (nI (fr))), (3, .int (but))]) hx hb dX1_nearest_4 hl (by decide) rfl (fun ls hl => ?_)
  refine lv_iconst (v := nI 0) hx hb dX1_nearest_6 (by decide +kernel) ?_
  refine lv_istore (lv' := [(7, .int (nI (0))), (5, .double (FP.dconst0)), (4, .int (-1)), (0, .ref (ad 0)), (1, .ref (ad kv)), (2, .int (nI (fr))), (3, .int (but))]) hx hb dX1_nearest_7 hl (by decide) rfl (fun ls hl => ?_)
  refine lp_X1_nearest hx hb hml hts hown hK hap hRf hRl τ kv nv fr K v but hF hmb hkv hdv hnv hfr hK1 hK2 hw (fun H locs ls hP hS hl => ?_) (16 + 1) 0 _ _ _ (by omega) (by omega) hP hS (lv_sub hl [0, 1, 2, 3, 4, 5, 6] rfl)
  refine lv_iload hx hb dX1_nearest_69 (lv_at hl 0 rfl) ?_
  exact W.iret hx hb hr (fun t ht hW => ⟨⟨_, (), rfl, rfl, trivial⟩, hS.F ht⟩) hS.2.2 dX1_nearest_71
/-- what is refused of a rank -/
def rfM (md : Nat) (x r : Int32) : Prop := ((∀ j : Nat, j < 2 → x ≠ nI j) ∧ r = -12) ∨ (∃ j : Nat, j < 2 ∧ x = nI j ∧ ((md = 0 ∧ r = -13) ∨ (0 < md ∧ r = nI 0)))
set_option maxHeartbeats 4000000 in
set_option maxRecDepth 100000 in
theorem kX1_refusal (l : Launch) (E : zE) (ad : Nat → Nat) (hap : apart 8 ad) (τ : SM) (x : Int32) (hmd : mMd τ ≤ 1) : Met l yX1_refusal wsX1_refusal ({ frames := 0, cells := 0, slots := 0, locals := 0 }) (va_Pc [.ref (ad 0), .int (x)] (fun U => PM E ad τ U.heap ∧ zK E U)) (va_Qi (fun (r : Int32) (_ : Unit) => rfM (mMd τ) x r) (fun _ _ => True) (fun _ => False)) 0 0 (fun _ => False) := by
  refine Met.ofW (cc := cX1_refusal) (maxL := 2) (ret := some .int) (by decide) rfl ?_
  intro p e s m args below meth c s₁ B hml hv
  obtain ⟨rfl, hP, hK⟩ := hv
  have hx := B.exec
  have hb := B.bytes
  have hr := B.returns
  have hts := atoms_spec (ws := wsX1_refusal) B.pre
  have hown : s.vm.findClass RX1 = some m.cls := findClass_of_methodNamed B.named
  have hlocks := B.notSynchronized
  have hS : va_S (fun _ => False) s.heap s.heap [] := va_S.rf
  have hRf : 0 ≤ ((headSpec wsX1_refusal ({ frames := 0, cells := 0, slots := 0, locals := 0 })).room).frames := Nat.le_of_ble_eq_true rfl
  have hRl : 0 ≤ ((headSpec wsX1_refusal ({ frames := 0, cells := 0, slots := 0, locals := 0 })).room).locals := Nat.le_of_ble_eq_true rfl
  have hl := lv_entry ([.ref (ad 0), .int (x)]) (n := 2) (Nat.le_of_ble_eq_true rfl)
  rw [lg_entry_eq]
  generalize (lg_sl ([.ref (ad 0), .int (x)]) ++ List.replicate (2 - (lg_sl ([.ref (ad 0), .int (x)])).length) Slot.unset).toArray = ls at hl ⊢
  have hl : lv_has ls 2 [(0, .ref (ad 0)), (1, .int (x))] := hl
  refine lv_iload_n hx hb dX1_refusal_0 rfl (lv_at hl 1 rfl) ?_
  refine lv_if_lt (tgt := 9) hx hb dX1_refusal_1 (by decide) (fun h => ?_) (fun h => ?_)
  · refine lv_bipush (v := -12) hx hb dX1_refusal_9 (by decide +kernel) ?_
    refine lv_goto (tgt := 27) hx hb dX1_refusal_11 (by decide) ?_
    exact W.iret hx hb hr (fun t ht hW => ⟨⟨_, (), rfl, Or.inl ⟨fun j hj e => nI_pos (show j < 2 ^ 31 by omega) (e ▸ h), rfl⟩, trivial⟩, hS.F ht⟩) hS.2.2 dX1_refusal_27
  · refine lv_iload_n hx hb dX1_refusal_4 rfl (lv_at hl 1 rfl) ?_
    refine lv_iconst (v := nI 1) hx hb dX1_refusal_5 (by decide +kernel) ?_
    refine lv_icmp_le (tgt := 14) hx hb dX1_refusal_6 (by decide) (fun h2 => ?_) (fun h2 => ?_)
    · obtain ⟨j, hj, rfl⟩ : ∃ j : Nat, j < 2 ∧ x = nI j := by
        rcases pk_ix x (n := 2) (by decide) with q | q | ⟨j, hj, e⟩
        · exact absurd q h
        · have q1 := Int32.le_trans q h2; exact absurd q1 (by decide)
        · exact ⟨j, hj, e⟩
      refine lv_aload_n hx hb dX1_refusal_14 rfl (lv_at hl 0 rfl) ?_
      refine gm hx hb hts innX1_refusal hown hK hP 6 (by decide) (by decide +kernel) rfl (v := .int (nI ((mMd τ)))) rfl dX1_refusal_15 ?_
      refine zu_ne (tgt := 26) hx hb (show (mMd τ) < 2 ^ 31 by omega) dX1_refusal_18 (by decide) (fun h3 => ?_) (fun h3 => ?_)
      · have h3 : 0 < (mMd τ) := h3
        refine lv_iconst (v := nI 0) hx hb dX1_refusal_26 (by decide +kernel) ?_
        exact W.iret hx hb hr (fun t ht hW => ⟨⟨_, (), rfl, Or.inr ⟨j, hj, rfl, Or.inr ⟨h3, rfl⟩⟩, trivial⟩, hS.F ht⟩) hS.2.2 dX1_refusal_27
      · have h3 : (mMd τ) = 0 := h3
        refine lv_bipush (v := -13) hx hb dX1_refusal_21 (by decide +kernel) ?_
        refine lv_goto (tgt := 27) hx hb dX1_refusal_23 (by decide) ?_
        exact W.iret hx hb hr (fun t ht hW => ⟨⟨_, (), rfl, Or.inr ⟨j, hj, rfl, Or.inl ⟨h3, rfl⟩⟩, trivial⟩, hS.F ht⟩) hS.2.2 dX1_refusal_27
    · refine lv_bipush (v := -12) hx hb dX1_refusal_9 (by decide +kernel) ?_
      refine lv_goto (tgt := 27) hx hb dX1_refusal_11 (by decide) ?_
      exact W.iret hx hb hr (fun t ht hW => ⟨⟨_, (), rfl, Or.inl ⟨fun j hj e => h2 (by rw [e]; exact nI_le (by omega) (by decide)), rfl⟩, trivial⟩, hS.F ht⟩) hS.2.2 dX1_refusal_27
set_option maxHeartbeats 4000000 in
set_option maxRecDepth 100000 in
theorem kX1_ranked (l : Launch) (E : zE) (ad : Nat → Nat) (hap : apart 8 ad) (τ : SM) (x : Int32) (K : Nat) (hF : mF τ ≤ 16) (hmb : ∀ c, c < 16 → mHs τ c < 2 ^ 31) (hK1 : 1023 ≤ K) (hK2 : K ≤ 1900) (hw : ∀ c, c < 16 → ∀ f, f < mF τ → mg K (mWt τ (16 * c + f)) ∧ mg 1057 (mMn τ (16 * c + f))) : Met l yX1_ranked wsX1_ranked ({ frames := 3, cells := 0, slots := 0, locals := 76 }) (va_Pc [.ref (ad 0), .int (x)] (fun U => PM E ad τ U.heap ∧ zK E U)) (va_Qi (fun (r : Int32) (_ : Unit) => r = if x = 0 then nearM τ (mSg τ) 0 (-1) else nearM τ (mSg τ) 0 (nearM τ (mSg τ) 0 (-1))) (fun _ _ => True) (fun _ => False)) 0 0 (fun _ => False) := by
  refine Met.ofW (cc := cX1_ranked) (maxL := 3) (ret := some .int) (by decide) rfl ?_
  intro p e s m args below meth c s₁ B hml hv
  obtain ⟨rfl, hP, hK⟩ := hv
  have hx := B.exec
  have hb := B.bytes
  have hr := B.returns
  have hts := atoms_spec (ws := wsX1_ranked) B.pre
  have hown : s.vm.findClass RX1 = some m.cls := findClass_of_methodNamed B.named
  have hlocks := B.notSynchronized
  have hS : va_S (fun _ => False) s.heap s.heap [] := va_S.rf
  have hRf : 3 ≤ ((headSpec wsX1_ranked ({ frames := 3, cells := 0, slots := 0, locals := 76 })).room).frames := Nat.le_of_ble_eq_true rfl
  have hRl : 76 ≤ ((headSpec wsX1_ranked ({ frames := 3, cells := 0, slots := 0, locals := 76 })).room).locals := Nat.le_of_ble_eq_true rfl
  have hl := lv_entry ([.ref (ad 0), .int (x)]) (n := 3) (Nat.le_of_ble_eq_true rfl)
  rw [lg_entry_eq]
  generalize (lg_sl ([.ref (ad 0), .int (x)]) ++ List.replicate (3 - (lg_sl ([.ref (ad 0), .int (x)])).length) Slot.unset).toArray = ls at hl ⊢
  have hl : lv_has ls 3 [(0, .ref (ad 0)), (1, .int (x))] := hl
  refine lv_aload_n hx hb dX1_ranked_0 rfl (lv_at hl 0 rfl) ?_
  refine lv_aload_n hx hb dX1_ranked_1 rfl (lv_at hl 0 rfl) ?_
  refine gm hx hb hts innX1_ranked hown hK hP 5 (by decide) (by decide +kernel) rfl (v := .ref (ad 3)) rfl dX1_ranked_2 ?_
  refine lv_iconst (v := nI 0) hx hb dX1_ranked_5 (by decide +kernel) ?_
  refine lv_iconst (v := -1) hx hb dX1_ranked_6 (by decide +kernel) ?_
  refine va_calli (va_runV (As := [.ref (ad 3), .int (nI (0)), .int (-1)]) (rest := []) ⟨hx, hb, hml, hown, hts⟩ (kX1_nearest l E ad hap τ 3 16 0 K (mSg τ) (-1) hF hmb (by decide) cm_sg (by decide) (by omega) hK1 hK2 hw) (cwV 3 hts gX1_ranked_X1_nearest rfl rfl rfl (by decide +kernel) ⟨Nat.le_trans (Nat.le_of_ble_eq_true rfl) hRf, Nat.le_trans (Nat.le_of_ble_eq_true rfl) hRl⟩) (zpm hK hP) rfl rfl hl.1 rfl (lv_room (Nat.le_of_ble_eq_true rfl)) dX1_ranked_7 ⟨Nat.zero_le _, Nat.zero_le _⟩) hS (fun q _ h => h.elim) (fun q h => h.elim) (fun r u9 t9 H locs ht9 hvm9 hw9 hB9 hz9 hk9 hS => ?_)
  have hP := wn_ro hP hk9
  subst hw9
  refine lv_istore_n (lv' := [(2, .int (nearM τ (mSg τ) 0 (-1))), (0, .ref (ad 0)), (1, .int (x))]) hx hb dX1_ranked_10 rfl hl (by decide) rfl (fun ls hl => ?_)
  refine lv_iload_n hx hb dX1_ranked_11 rfl (lv_at hl 2 rfl) ?_
  refine lv_if_ne (tgt := 19) hx hb dX1_ranked_12 (by decide) (fun h => ?_) (fun h => ?_)
  · refine lv_aload_n hx hb dX1_ranked_19 rfl (lv_at hl 1 rfl) ?_
    refine lv_aload_n hx hb dX1_ranked_20 rfl (lv_at hl 1 rfl) ?_
    refine gm hx hb hts innX1_ranked hown hK hP 5 (by decide) (by decide +kernel) rfl (v := .ref (ad 3)) rfl dX1_ranked_21 ?_
    refine lv_iconst (v := nI 0) hx hb dX1_ranked_24 (by decide +kernel) ?_
    refine lv_iload_n hx hb dX1_ranked_25 rfl (lv_at hl 0 rfl) ?_
    refine va_calli (va_runV (As := [.ref (ad 3), .int (nI (0)), .int (nearM τ (mSg τ) 0 (-1))]) (rest := []) ⟨hx, hb, hml, hown, hts⟩ (kX1_nearest l E ad hap τ 3 16 0 K (mSg τ) (nearM τ (mSg τ) 0 (-1)) hF hmb (by decide) cm_sg (by decide) (by omega) hK1 hK2 hw) (cwV 3 hts gX1_ranked_X1_nearest rfl rfl rfl (by decide +kernel) ⟨Nat.le_trans (Nat.le_of_ble_eq_true rfl) hRf, Nat.le_trans (Nat.le_of_ble_eq_true rfl) hRl⟩) (zpm hK hP) rfl rfl hl.1 rfl (lv_room (Nat.le_of_ble_eq_true rfl)) dX1_ranked_26 ⟨Nat.zero_le _, Nat.zero_le _⟩) hS (fun q _ h => h.elim) (fun q h => h.elim) (fun r u9 t9 H locs ht9 hvm9 hw9 hB9 hz9 hk9 hS => ?_)
    have hP := wn_ro hP hk9
    subst hw9
    exact W.iret hx hb hr (fun t ht hW => ⟨⟨_, (), rfl, (if_neg h).symm, trivial⟩, hS.F ht⟩) hS.2.2 dX1_ranked_29
  · refine lv_iload_n hx hb dX1_ranked_15 rfl (lv_at hl 0 rfl) ?_
    refine lv_goto (tgt := 29) hx hb dX1_ranked_16 (by decide) ?_
    exact W.iret hx hb hr (fun t ht hW => ⟨⟨_, (), rfl, (if_pos h).symm, trivial⟩, hS.F ht⟩) hS.2.2 dX1_ranked_29
