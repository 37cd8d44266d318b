/-! ===== the class: writes ===== -/
theorem wn_h {D : va_G} {cl : List vw_C} {ws : va_W} {H : Heap} {t : State} (ht : t.heap = H) (hP : va_P D cl ws H) : va_P D cl ws t.heap := ht.symm ▸ hP
set_option maxHeartbeats 4000000 in
set_option maxRecDepth 100000 in
theorem kX0_clear (l : Launch) (E : zE) (ad : Nat → Nat) (hap : apart 96 ad) (κ : SX) : Met l yX0_clear wsX0_clear ({ frames := 0, cells := 0, slots := 0, locals := 0 }) (va_Pc [.ref (ad 0)] (fun U => PX E ad κ U.heap ∧ zK E U)) (va_Qi (fun (r : Int32) (κ' : SX) => r = nI (xN κ) ∧ κ' = sxN κ 0) (fun κ' t => PX E ad κ' t.heap) (aX 96 ad)) 0 0 (aX 96 ad) := by
  refine Met.ofW (cc := cX0_clear) (maxL := 2) (ret := some .int) (by decide) rfl ?_
  intro p e s m args below meth c s₁ B hml hv
  obtain ⟨rfl, hP, hK⟩ := hv
  have hx := B.exec
  have hb := B.bytes
  have hr := B.returns
  have hts := atoms_spec (ws := wsX0_clear) B.pre
  have hown : s.vm.findClass RX0 = some m.cls := findClass_of_methodNamed B.named
  have hlocks := B.notSynchronized
  have hS : va_S (aX 96 ad) s.heap s.heap [] := va_S.rf
  have hA : ∀ k, k < 96 → aX 96 ad (ad k) := fun k hk => ⟨k, hk, rfl⟩
  have hRf : 0 ≤ ((headSpec wsX0_clear ({ frames := 0, cells := 0, slots := 0, locals := 0 })).room).frames := Nat.le_of_ble_eq_true rfl
  have hRl : 0 ≤ ((headSpec wsX0_clear ({ frames := 0, cells := 0, slots := 0, locals := 0 })).room).locals := Nat.le_of_ble_eq_true rfl
  have hl := lv_entry ([.ref (ad 0)]) (n := 2) (Nat.le_of_ble_eq_true rfl)
  rw [lg_entry_eq]
  generalize (lg_sl ([.ref (ad 0)]) ++ List.replicate (2 - (lg_sl ([.ref (ad 0)])).length) Slot.unset).toArray = ls at hl ⊢
  have hl : lv_has ls 2 [(0, .ref (ad 0))] := hl
  refine lv_aload_n hx hb dX0_clear_0 rfl (lv_at hl 0 rfl) ?_
  refine gx hx hb hts innX0_clear hown hK hP 3 (by decide) (by decide +kernel) rfl (v := .int (nI ((xN κ)))) rfl dX0_clear_1 ?_
  refine lv_istore_n (lv' := [(1, .int (nI ((xN κ)))), (0, .ref (ad 0))]) hx hb dX0_clear_4 rfl hl (by decide) rfl (fun ls hl => ?_)
  refine lv_aload_n hx hb dX0_clear_5 rfl (lv_at hl 1 rfl) ?_
  refine lv_iconst (v := nI 0) hx hb dX0_clear_6 (by decide +kernel) ?_
  refine gxput hx hb hts innX0_clear hown hK hP hap hA hS 3 (by decide) (by decide +kernel) rfl rfl (v := .int (nI (0))) rfl rfl (by show 3 < (List.length _); exact Nat.le_of_ble_eq_true rfl) dX0_clear_7 (fun H locs hP hS => ?_)
  have hP := px_n hP
  refine lv_iload_n hx hb dX0_clear_10 rfl (lv_at hl 0 rfl) ?_
  exact W.iret hx hb hr (fun t ht hW => ⟨⟨_, (sxN κ (0)), rfl, ⟨rfl, rfl⟩, (wn_h ht hP)⟩, hS.F ht⟩) hS.2.2 dX0_clear_11
/-- a number of 0 .. 100000 becomes the margin -/
def mgP (κ : SX) (x r : Int32) (κ' : SX) : Prop := (∃ j : Nat, j < 100001 ∧ x = nI j ∧ r = nI (xLd κ) ∧ κ' = sxLd κ j) ∨ ((∀ j : Nat, j < 100001 → x ≠ nI j) ∧ r = -12 ∧ κ' = κ)
set_option maxHeartbeats 4000000 in
set_option maxRecDepth 100000 in
theorem kX0_margin (l : Launch) (E : zE) (ad : Nat → Nat) (hap : apart 96 ad) (κ : SX) (x : Int32) : Met l yX0_margin wsX0_margin ({ frames := 0, cells := 0, slots := 0, locals := 0 }) (va_Pc [.ref (ad 0), .int (x)] (fun U => PX E ad κ U.heap ∧ zK E U)) (va_Qi (fun (r : Int32) (κ' : SX) => mgP κ x r κ') (fun κ' t => PX E ad κ' t.heap) (aX 96 ad)) 0 0 (aX 96 ad) := by
  refine Met.ofW (cc := cX0_margin) (maxL := 3) (ret := some .int) (by decide) rfl ?_
  intro p e s m args below meth c s₁ B hml hv
  obtain ⟨rfl, hP, hK⟩ := hv
  have hx := B.exec
  have hb := B.bytes
  have hr := B.returns
  have hts := atoms_spec (ws := wsX0_margin) B.pre
  have hown : s.vm.findClass RX0 = some m.cls := findClass_of_methodNamed B.named
  have hlocks := B.notSynchronized
  have hS : va_S (aX 96 ad) s.heap s.heap [] := va_S.rf
  have hA : ∀ k, k < 96 → aX 96 ad (ad k) := fun k hk => ⟨k, hk, rfl⟩
  have hRf : 0 ≤ ((headSpec wsX0_margin ({ frames := 0, cells := 0, slots := 0, locals := 0 })).room).frames := Nat.le_of_ble_eq_true rfl
  have hRl : 0 ≤ ((headSpec wsX0_margin ({ frames := 0, cells := 0, slots := 0, locals := 0 })).room).locals := Nat.le_of_ble_eq_true rfl
  have hl := lv_entry ([.ref (ad 0), .int (x)]) (n := 3) (Nat.le_of_ble_eq_true rfl)
  rw [lg_entry_eq]
  generalize (lg_sl ([.ref (ad 0), .int (x)]) ++ List.replicate (3 - (lg_sl ([.ref (ad 0), .int (x)])).length) Slot.unset).toArray = ls at hl ⊢
  have hl : lv_has ls 3 [(0, .ref (ad 0)), (1, .int (x))] := hl
  refine lv_iload_n hx hb dX0_margin_0 rfl (lv_at hl 1 rfl) ?_
  refine lv_if_lt (tgt := 10) hx hb dX0_margin_1 (by decide) (fun h => ?_) (fun h => ?_)
  · refine lv_bipush (v := -12) hx hb dX0_margin_10 (by decide +kernel) ?_
    exact W.iret hx hb hr (fun t ht hW => ⟨⟨_, κ, rfl, Or.inr ⟨fun j hj e => nI_pos (show j < 2 ^ 31 by omega) (e ▸ h), rfl, rfl⟩, (wn_h ht hP)⟩, hS.F ht⟩) hS.2.2 dX0_margin_12
  · refine lv_iload_n hx hb dX0_margin_4 rfl (lv_at hl 1 rfl) ?_
    refine lv_ldc (v := nI 100000) hx hb hown (hts (.constant RX0 112 (nI 100000)) (by decide +kernel)) dX0_margin_5 ?_
    refine lv_icmp_le (tgt := 13) hx hb dX0_margin_7 (by decide) (fun h2 => ?_) (fun h2 => ?_)
    · obtain ⟨j, hj, rfl⟩ : ∃ j : Nat, j < 100001 ∧ x = nI j := by
        rcases pk_ix x (n := 100001) (by decide) with q | q | ⟨j, hj, e⟩
        · exact absurd q h
        · have q1 := Int32.le_trans q h2; exact absurd q1 (by decide)
        · exact ⟨j, hj, e⟩
      refine lv_aload_n hx hb dX0_margin_13 rfl (lv_at hl 0 rfl) ?_
      refine gx hx hb hts innX0_margin hown hK hP 5 (by decide) (by decide +kernel) rfl (v := .int (nI ((xLd κ)))) rfl dX0_margin_14 ?_
      refine lv_istore_n (lv' := [(2, .int (nI ((xLd κ)))), (0, .ref (ad 0)), (1, .int (nI (j)))]) hx hb dX0_margin_17 rfl hl (by decide) rfl (fun ls hl => ?_)
      refine lv_aload_n hx hb dX0_margin_18 rfl (lv_at hl 1 rfl) ?_
      refine lv_iload_n hx hb dX0_margin_19 rfl (lv_at hl 2 rfl) ?_
      refine gxput hx hb hts innX0_margin hown hK hP hap hA hS 5 (by decide) (by decide +kernel) rfl rfl (v := .int (nI (j))) rfl rfl (by show 5 < (List.length _); exact Nat.le_of_ble_eq_true rfl) dX0_margin_20 (fun H locs hP hS => ?_)
      have hP := px_ld hP
      refine lv_iload_n hx hb dX0_margin_23 rfl (lv_at hl 0 rfl) ?_
      exact W.iret hx hb hr (fun t ht hW => ⟨⟨_, (sxLd κ (j)), rfl, Or.inl ⟨j, hj, rfl, rfl, rfl⟩, (wn_h ht hP)⟩, hS.F ht⟩) hS.2.2 dX0_margin_24
    · refine lv_bipush (v := -12) hx hb dX0_margin_10 (by decide +kernel) ?_
      exact W.iret hx hb hr (fun t ht hW => ⟨⟨_, κ, rfl, Or.inr ⟨fun j hj e => h2 (by rw [e]; exact nI_le (by omega) (by decide)), rfl, rfl⟩, (wn_h ht hP)⟩, hS.F ht⟩) hS.2.2 dX0_margin_12
set_option maxHeartbeats 4000000 in
set_option maxRecDepth 100000 in
theorem lp_X0_example {p : Program} {l : Launch} {e : Env} {R : Room} {s : State} {m : MethodId} {args : Array Value} {below : List Frame} {meth : Method} {c : Code} {Q : State → Prop} {E : zE} {ad : Nat → Nat} (hx : p.tables.exec = Jvm.exec) (hb : c.code = cX0_example) (hml : c.maxLocals = 4) (hts : ∀ w ∈ wsX0_example, w.before args s = true) (hown : s.vm.findClass RX0 = some m.cls) (hK : zK E s) (hap : apart 96 ad) {H0 : Heap} (hRf : 1 ≤ R.frames) (hRl : 20 ≤ R.locals) (κ : SX) (hF : xF κ ≤ 16) (hN : xN κ ≤ 40) (c9 : Nat) (hN1 : xN κ < 40)
    (exit : ∀ (H : Heap) (locs : List Loc) (ls : Array Slot), PX E ad (sxEv (sxEc κ (va_up (xEc κ) (xN κ) c9)) (zrow (xEv κ) (xN κ) 0 (xF κ))) H → va_S (aX 96 ad) H0 H locs → lv_has ls 4 [(2, .int (nI (xN κ))), (0, .ref (ad 0))] → W p l e R s m args below meth c H locs 0 0 Q (F0 m 59 ls [])) :
    ∀ (n j : Nat) (H : Heap) (locs : List Loc) (ls : Array Slot), j ≤ xF κ → xF κ - j < n → PX E ad (sxEv (sxEc κ (va_up (xEc κ) (xN κ) c9)) (zrow (xEv κ) (xN κ) 0 j)) H → va_S (aX 96 ad) H0 H locs → lv_has ls 4 [(3, .int (nI (j))), (2, .int (nI (xN κ))), (0, .ref (ad 0))] → W p l e R s m args below meth c H locs 0 0 Q (F0 m 36 ls []) := by
  have hA : ∀ k, k < 96 → aX 96 ad (ad k) := fun k hk => ⟨k, hk, rfl⟩
  intro n
  induction n with
  | zero => intro j H locs ls h1 h2; omega
  | succ n ih =>
    intro j H locs ls hi hn hP hS hl
    refine lv_iload_n hx hb dX0_example_36 rfl (lv_at hl 0 rfl) ?_
    refine lv_aload_n hx hb dX0_example_37 rfl (lv_at hl 2 rfl) ?_
    refine gx hx hb hts innX0_example hown hK hP 0 (by decide) (by decide +kernel) rfl (v := .int (nI ((xF κ)))) rfl dX0_example_38 ?_
    refine zb_ge (tgt := 59) hx hb (show j < 2 ^ 31 by omega) (show (xF κ) < 2 ^ 31 by omega) dX0_example_41 (by decide) (fun h => ?_) (fun h => ?_)
    · have h : (xF κ) ≤ j := h
      have hend : j = xF κ := by omega
      subst hend
      exact exit _ _ _ hP hS (lv_sub hl [1, 2] rfl)
    · have h : j < (xF κ) := h
      refine lv_aload_n hx hb dX0_example_44 rfl (lv_at hl 2 rfl) ?_
      refine gx hx hb hts innX0_example hown hK hP 2 (by decide) (by decide +kernel) rfl (v := .ref (ad 2)) rfl dX0_example_45 ?_
      refine lv_iload_n hx hb dX0_example_48 rfl (lv_at hl 1 rfl) ?_
      refine z_aald 1 hx hb hK hP 2 (by decide) cx_evO rfl rfl (show xN κ < 40 by omega) (by decide) (if_pos (show xN κ < 40 by omega)) dX0_example_49 ?_
      refine lv_iload_n hx hb dX0_example_50 rfl (lv_at hl 0 rfl) ?_
      refine lv_iconst (v := nI 0) hx hb dX0_example_51 (by decide +kernel) ?_
      refine z_iast hx hb hK hP hap hA hS (3 + (xN κ)) (show 3 + (xN κ) < 96 by omega) (cx_ev (show (xN κ) < 40 by omega)) (show j < xF κ by omega) (show xF κ < 2 ^ 31 by omega) dX0_example_52 (fun H locs hP hS => ?_)
      have hP := px_ev (show (xN κ) < 40 by omega) hP
      refine lv_iinc (v := nI (j + 1)) (lv' := [(3, .int (nI (j + 1))), (2, .int (nI (xN κ))), (0, .ref (ad 0))]) hx hb dX0_example_53 hl (k := 0) rfl (nI_1 _) (by decide) rfl (fun ls hl => ?_)
      refine lv_goto (tgt := 36) hx hb dX0_example_56 (by decide) ?_
      exact ih (j + 1) _ _ _ (by omega) (by omega) hP hS (lv_sub hl [0, 1, 2] rfl)
set_option maxHeartbeats 4000000 in
set_option maxRecDepth 100000 in
theorem kX0_example (l : Launch) (E : zE) (ad : Nat → Nat) (hap : apart 96 ad) (κ : SX) (x : Int32) (hF : xF κ ≤ 16) (hN : xN κ ≤ 40) : Met l yX0_example wsX0_example ({ frames := 1, cells := 0, slots := 0, locals := 20 }) (va_Pc [.ref (ad 0), .int (x)] (fun U => PX E ad κ U.heap ∧ zK E U)) (va_Qi (fun (r : Int32) (κ' : SX) => exP κ x r κ') (fun κ' t => PX E ad κ' t.heap) (aX 96 ad)) 0 0 (aX 96 ad) := by
  refine Met.ofW (cc := cX0_example) (maxL := 4) (ret := some .int) (by decide) rfl ?_
  intro p e s m args below meth c s₁ B hml hv
  obtain ⟨rfl, hP, hK⟩ := hv
  have hx := B.exec
  have hb := B.bytes
  have hr := B.returns
  have hts := atoms_spec (ws := wsX0_example) B.pre
  have hown : s.vm.findClass RX0 = some m.cls := findClass_of_methodNamed B.named
  have hlocks := B.notSynchronized
  have hS : va_S (aX 96 ad) s.heap s.heap [] := va_S.rf
  have hA : ∀ k, k < 96 → aX 96 ad (ad k) := fun k hk => ⟨k, hk, rfl⟩
  have hRf : 1 ≤ ((headSpec wsX0_example ({ frames := 1, cells := 0, slots := 0, locals := 20 })).room).frames := Nat.le_of_ble_eq_true rfl
  have hRl : 20 ≤ ((headSpec wsX0_example ({ frames := 1, cells := 0, slots := 0, locals := 20 })).room).locals := Nat.le_of_ble_eq_true rfl
  have hl := lv_entry ([.ref (ad 0), .int (x)]) (n := 4) (Nat.le_of_ble_eq_true rfl)
  rw [lg_entry_eq]
  generalize (lg_sl ([.ref (ad 0), .int (x)]) ++ List.replicate (4 - (lg_sl ([.ref (ad 0), .int (x)])).length) Slot.unset).toArray = ls at hl ⊢
  have hl : lv_has ls 4 [(0, .ref (ad 0)), (1, .int (x))] := hl
  refine lv_iload_n hx hb dX0_example_0 rfl (lv_at hl 1 rfl) ?_
  refine va_calli (va_runS (As := [.int (x)]) (rest := []) ⟨hx, hb, hml, hown, hts⟩ (kX0_isClass l x) (va_cwS 1 hts gX0_example_X0_isClass rfl rfl rfl (by decide +kernel) ⟨Nat.le_trans (Nat.le_of_ble_eq_true rfl) hRf, Nat.le_trans (Nat.le_of_ble_eq_true rfl) hRl⟩) zps rfl rfl hl.1 rfl (lv_room (Nat.le_of_ble_eq_true rfl)) dX0_example_1 ⟨Nat.zero_le _, Nat.zero_le _⟩) hS (fun q _ h => h.elim) (fun q h => h.elim) (fun r u9 t9 H locs ht9 hvm9 hw9 hB9 hz9 hk9 hS => ?_)
  have hP := wn_ro hP hk9
  rcases hw9 with ⟨c9, hc, rfl, rfl⟩ | ⟨hno, rfl⟩
  · refine zu_ne (tgt := 10) hx hb (show 1 < 2 ^ 31 by omega) dX0_example_4 (by decide) (fun h => ?_) (fun h => ?_)
    · have h : 0 < 1 := h
      refine lv_aload_n hx hb dX0_example_10 rfl (lv_at hl 0 rfl) ?_
      refine gx hx hb hts innX0_example hown hK hP 3 (by decide) (by decide +kernel) rfl (v := .int (nI ((xN κ)))) rfl dX0_example_11 ?_
      refine lv_bipush (v := nI 40) hx hb dX0_example_14 (by decide +kernel) ?_
      refine zb_lt (tgt := 22) hx hb (show (xN κ) < 2 ^ 31 by omega) (show 40 < 2 ^ 31 by omega) dX0_example_16 (by decide) (fun h2 => ?_) (fun h2 => ?_)
      · have h2 : (xN κ) < 40 := h2
        refine lv_aload_n hx hb dX0_example_22 rfl (lv_at hl 0 rfl) ?_
        refine gx hx hb hts innX0_example hown hK hP 3 (by decide) (by decide +kernel) rfl (v := .int (nI ((xN κ)))) rfl dX0_example_23 ?_
        refine lv_istore_n (lv' := [(2, .int (nI ((xN κ)))), (0, .ref (ad 0)), (1, .int (nI (c9)))]) hx hb dX0_example_26 rfl hl (by decide) rfl (fun ls hl => ?_)
        refine lv_aload_n hx hb dX0_example_27 rfl (lv_at hl 1 rfl) ?_
        refine gx hx hb hts innX0_example hown hK hP 1 (by decide) (by decide +kernel) rfl (v := .ref (ad 1)) rfl dX0_example_28 ?_
        refine lv_iload_n hx hb dX0_example_31 rfl (lv_at hl 0 rfl) ?_
        refine lv_iload_n hx hb dX0_example_32 rfl (lv_at hl 2 rfl) ?_
        refine z_iast hx hb hK hP hap hA hS 1 (by decide) cx_ec (show (xN κ) < 40 by omega) (by decide) dX0_example_33 (fun H locs hP hS => ?_)
        have hP := px_ec hP
        refine lv_iconst (v := nI 0) hx hb dX0_example_34 (by decide +kernel) ?_
        refine lv_istore_n (lv' := [(3, .int (nI (0))), (2, .int (nI ((xN κ)))), (0, .ref (ad 0)), (1, .int (nI (c9)))]) hx hb dX0_example_35 rfl hl (by decide) rfl (fun ls hl => ?_)
        refine lp_X0_example hx hb hml hts hown hK hap hRf hRl κ hF hN c9 h2 (fun H locs ls hP hS hl => ?_) (xF κ + 1) 0 _ _ _ (by omega) (by omega) hP hS (lv_sub hl [0, 1, 2] rfl)
        refine lv_aload_n hx hb dX0_example_59 rfl (lv_at hl 1 rfl) ?_
        refine lv_iload_n hx hb dX0_example_60 rfl (lv_at hl 0 rfl) ?_
        refine lv_iconst (v := nI 1) hx hb dX0_example_61 (by decide +kernel) ?_
        refine zv_iadd (v := (nI ((xN κ) + 1))) hx hb dX0_example_62 (nI_add _ _) ?_
        refine gxput hx hb hts innX0_example hown hK hP hap hA hS 3 (by decide) (by decide +kernel) rfl rfl (v := .int (nI ((xN κ) + 1))) rfl rfl (by show 3 < (List.length _); exact Nat.le_of_ble_eq_true rfl) dX0_example_63 (fun H locs hP hS => ?_)
        have hP := px_n hP
        refine lv_iload_n hx hb dX0_example_66 rfl (lv_at hl 0 rfl) ?_
        exact W.iret hx hb hr (fun t ht hW => ⟨⟨_, addX κ c9, rfl, Or.inl ⟨c9, hc, rfl, Or.inr ⟨h2, rfl, rfl⟩⟩, (wn_h ht hP)⟩, hS.F ht⟩) hS.2.2 dX0_example_67
      · have h2 : 40 ≤ (xN κ) := h2
        refine lv_bipush (v := -14) hx hb dX0_example_19 (by decide +kernel) ?_
        exact W.iret hx hb hr (fun t ht hW => ⟨⟨_, κ, rfl, Or.inl ⟨c9, hc, rfl, Or.inl ⟨h2, rfl, rfl⟩⟩, (wn_h ht hP)⟩, hS.F ht⟩) hS.2.2 dX0_example_21
    · have h : 1 = 0 := h
      exact absurd h (by decide)
  · refine zu_ne (tgt := 10) hx hb (show 0 < 2 ^ 31 by omega) dX0_example_4 (by decide) (fun h => ?_) (fun h => ?_)
    · have h : 0 < 0 := h
      exact absurd h (by decide)
    · have h : 0 = 0 := h
      refine lv_bipush (v := -12) hx hb dX0_example_7 (by decide +kernel) ?_
      exact W.iret hx hb hr (fun t ht hW => ⟨⟨_, κ, rfl, Or.inr ⟨hno, rfl, rfl⟩, (wn_h ht hP)⟩, hS.F ht⟩) hS.2.2 dX0_example_9
set_option maxHeartbeats 4000000 in
set_option maxRecDepth 100000 in
theorem lp_X0_divideMeans {p : Program} {l : Launch} {e : Env} {R : Room} {s : State} {m : MethodId} {args : Array Value} {below : List Frame} {meth : Method} {c : Code} {Q : State → Prop} {E : zE} {ad : Nat → Nat} (hx : p.tables.exec = Jvm.exec) (hb : c.code = cX0_divideMeans) (hml : c.maxLocals = 5) (hts : ∀ w ∈ wsX0_divideMeans, w.before args s = true) (hown : s.vm.findClass RX0 = some m.cls) (hK : zK E s) (hap : apart 96 ad) {H0 : Heap} (hRf : 0 ≤ R.frames) (hRl : 0 ≤ R.locals) (κ : SX) (c9 : Nat) (hF : xF κ ≤ 16) (hc : c9 < 16) (hdm : ∀ f, f < xF κ → vf_n64 (FP.ddiv (dvR (xMn κ) c9 (FP.i2d (nI (xMb κ c9))) f c9 f) (FP.i2d (nI (xMb κ c9)))))
    (exit : ∀ (H : Heap) (locs : List Loc) (ls : Array Slot), PX E ad (sxMn κ (dvR (xMn κ) c9 (FP.i2d (nI (xMb κ c9))) (xF κ))) H → va_S (aX 96 ad) H0 H locs → lv_has ls 5 [(2, .double ((FP.i2d (nI (xMb κ c9))))), (0, .ref (ad 0)), (1, .int (nI (c9)))] → W p l e R s m args below meth c H locs 0 0 Q (F0 m 46 ls [])) :
    ∀ (n j : Nat) (H : Heap) (locs : List Loc) (ls : Array Slot), j ≤ xF κ → xF κ - j < n → PX E ad (sxMn κ (dvR (xMn κ) c9 (FP.i2d (nI (xMb κ c9))) j)) H → va_S (aX 96 ad) H0 H locs → lv_has ls 5 [(4, .int (nI (j))), (2, .double ((FP.i2d (nI (xMb κ c9))))), (0, .ref (ad 0)), (1, .int (nI (c9)))] → W p l e R s m args below meth c H locs 0 0 Q (F0 m 11 ls []) := by
  have hA : ∀ k, k < 96 → aX 96 ad (ad k) := fun k hk => ⟨k, hk, rfl⟩
  intro n
  induction n with
  | zero => intro j H locs ls h1 h2; omega
  | succ n ih =>
    intro j H locs ls hi hn hP hS hl
    refine lv_iload hx hb dX0_divideMeans_11 (lv_at hl 0 rfl) ?_
    refine lv_aload_n hx hb dX0_divideMeans_13 rfl (lv_at hl 2 rfl) ?_
    refine gx hx hb hts innX0_divideMeans hown hK hP 0 (by decide) (by decide +kernel) rfl (v := .int (nI ((xF κ)))) rfl dX0_divideMeans_14 ?_
    refine zb_ge (tgt := 46) hx hb (show j < 2 ^ 31 by omega) (show (xF κ) < 2 ^ 31 by omega) dX0_divideMeans_17 (by decide) (fun h => ?_) (fun h => ?_)
    · have h : (xF κ) ≤ j := h
      have hend : j = xF κ := by omega
      subst hend
      exact exit _ _ _ hP hS (lv_sub hl [1, 2, 3] rfl)
    · have h : j < (xF κ) := h
      refine lv_aload_n hx hb dX0_divideMeans_20 rfl (lv_at hl 2 rfl) ?_
      refine gx hx hb hts innX0_divideMeans hown hK hP 8 (by decide) (by decide +kernel) rfl (v := .ref (ad 45)) rfl dX0_divideMeans_21 ?_
      refine lv_iload_n hx hb dX0_divideMeans_24 rfl (lv_at hl 3 rfl) ?_
      refine z_aald 3 hx hb hK hP 45 (by decide) cx_mnO rfl rfl (show c9 < 16 by omega) (by decide) (if_pos (show c9 < 16 by omega)) dX0_divideMeans_25 ?_
      refine lv_iload hx hb dX0_divideMeans_26 (lv_at hl 0 rfl) ?_
      refine lv_aload_n hx hb dX0_divideMeans_28 rfl (lv_at hl 2 rfl) ?_
      refine gx hx hb hts innX0_divideMeans hown hK hP 8 (by decide) (by decide +kernel) rfl (v := .ref (ad 45)) rfl dX0_divideMeans_29 ?_
      refine lv_iload_n hx hb dX0_divideMeans_32 rfl (lv_at hl 3 rfl) ?_
      refine z_aald 3 hx hb hK hP 45 (by decide) cx_mnO rfl rfl (show c9 < 16 by omega) (by decide) (if_pos (show c9 < 16 by omega)) dX0_divideMeans_33 ?_
      refine lv_iload hx hb dX0_divideMeans_34 (lv_at hl 0 rfl) ?_
      refine z_dald hx hb hK hP (46 + c9) (show 46 + c9 < 96 by omega) (cx_mn (show c9 < 16 by omega)) (show j < xF κ by omega) (show xF κ < 2 ^ 31 by omega) dX0_divideMeans_36 ?_
      refine lv_dload_n hx hb dX0_divideMeans_37 rfl (lv_at hl 1 rfl) ?_
      refine lv_ddiv hx hb dX0_divideMeans_38 (hdm j h) ?_
      refine z_dast hx hb hK hP hap hA hS (46 + c9) (show 46 + c9 < 96 by omega) (cx_mn (show c9 < 16 by omega)) (show j < xF κ by omega) (show xF κ < 2 ^ 31 by omega) dX0_divideMeans_39 (fun H locs hP hS => ?_)
      have hP := px_mn (show c9 < 16 by omega) hP
      refine lv_iinc (v := nI (j + 1)) (lv' := [(4, .int (nI (j + 1))), (2, .double ((FP.i2d (nI (xMb κ c9))))), (0, .ref (ad 0)), (1, .int (nI (c9)))]) hx hb dX0_divideMeans_40 hl (k := 0) rfl (nI_1 _) (by decide) rfl (fun ls hl => ?_)
      refine lv_goto (tgt := 11) hx hb dX0_divideMeans_43 (by decide) ?_
      exact ih (j + 1) _ _ _ (by omega) (by omega) hP hS (lv_sub hl [0, 1, 2, 3] rfl)
set_option maxHeartbeats 4000000 in
set_option maxRecDepth 100000 in
theorem kX0_divideMeans (l : Launch) (E : zE) (ad : Nat → Nat) (hap : apart 96 ad) (κ : SX) (c9 : Nat) (hF : xF κ ≤ 16) (hc : c9 < 16) (hdm : ∀ f, f < xF κ → vf_n64 (FP.ddiv (dvR (xMn κ) c9 (FP.i2d (nI (xMb κ c9))) f c9 f) (FP.i2d (nI (xMb κ c9))))) : Met l yX0_divideMeans wsX0_divideMeans ({ frames := 0, cells := 0, slots := 0, locals := 0 }) (va_Pc [.ref (ad 0), .int (nI (c9))] (fun U => PX E ad κ U.heap ∧ zK E U)) (va_Qv (fun κ' : SX => κ' = sxMn κ (dvR (xMn κ) c9 (FP.i2d (nI (xMb κ c9))) (xF κ))) (fun κ' t => PX E ad κ' t.heap) (aX 96 ad)) 0 0 (aX 96 ad) := by
  refine Met.ofW (cc := cX0_divideMeans) (maxL := 5) (ret := none) (by decide) rfl ?_
  intro p e s m args below meth c s₁ B hml hv
  obtain ⟨rfl, hP, hK⟩ := hv
  have hx := B.exec
  have hb := B.bytes
  have hr := B.returns
  have hts := atoms_spec (ws := wsX0_divideMeans) B.pre
  have hown : s.vm.findClass RX0 = some m.cls := findClass_of_methodNamed B.named
  have hlocks := B.notSynchronized
  have hS : va_S (aX 96 ad) s.heap s.heap [] := va_S.rf
  have hA : ∀ k, k < 96 → aX 96 ad (ad k) := fun k hk => ⟨k, hk, rfl⟩
  have hRf : 0 ≤ ((headSpec wsX0_divideMeans ({ frames := 0, cells := 0, slots := 0, locals := 0 })).room).frames := Nat.le_of_ble_eq_true rfl
  have hRl : 0 ≤ ((headSpec wsX0_divideMeans ({ frames := 0, cells := 0, slots := 0, locals := 0 })).room).locals := Nat.le_of_ble_eq_true rfl
  have hl := lv_entry ([.ref (ad 0), .int (nI (c9))]) (n := 5) (Nat.le_of_ble_eq_true rfl)
  rw [lg_entry_eq]
  generalize (lg_sl ([.ref (ad 0), .int (nI (c9))]) ++ List.replicate (5 - (lg_sl ([.ref (ad 0), .int (nI (c9))])).length) Slot.unset).toArray = ls at hl ⊢
  have hl : lv_has ls 5 [(0, .ref (ad 0)), (1, .int (nI (c9)))] := hl
  refine lv_aload_n hx hb dX0_divideMeans_0 rfl (lv_at hl 0 rfl) ?_
  refine gx hx hb hts innX0_divideMeans hown hK hP 7 (by decide) (by decide +kernel) rfl (v := .ref (ad 44)) rfl dX0_divideMeans_1 ?_
  refine lv_iload_n hx hb dX0_divideMeans_4 rfl (lv_at hl 1 rfl) ?_
  refine z_iald hx hb hK hP 44 (by decide) cx_mb (show c9 < 16 by omega) (by decide) dX0_divideMeans_5 ?_
  refine lv_i2d hx hb dX0_divideMeans_6 ?_
  refine lv_dstore_n (lv' := [(2, .double (FP.i2d (nI ((xMb κ) (c9))))), (0, .ref (ad 0)), (1, .int (nI (c9)))]) hx hb dX0_divideMeans_7 rfl hl (by decide) rfl (fun ls hl => ?_)
  refine lv_iconst (v := nI 0) hx hb dX0_divideMeans_8 (by decide +kernel) ?_
  refine lv_istore (lv' := [(4, .int (nI (0))), (2, .double (FP.i2d (nI ((xMb κ) (c9))))), (0, .ref (ad 0)), (1, .int (nI (c9)))]) hx hb dX0_divideMeans_9 hl (by decide) rfl (fun ls hl => ?_)
  refine lp_X0_divideMeans hx hb hml hts hown hK hap hRf hRl κ c9 hF hc hdm (fun H locs ls hP hS hl => ?_) (xF κ + 1) 0 _ _ _ (by omega) (by omega) hP hS (lv_sub hl [0, 1, 2, 3] rfl)
  exact W.vret hx hb hr (fun t ht hW => ⟨⟨_, rfl, rfl, (wn_h ht hP)⟩, hS.F ht⟩) hS.2.2 dX0_divideMeans_46
set_option maxHeartbeats 4000000 in
set_option maxRecDepth 100000 in
theorem lp_X0_makeMeans1 {p : Program} {l : Launch} {e : Env} {R : Room} {s : State} {m : MethodId} {args : Array Value} {below : List Frame} {meth : Method} {c : Code} {Q : State → Prop} {E : zE} {ad : Nat → Nat} (hx : p.tables.exec = Jvm.exec) (hb : c.code = cX0_makeMeans) (hml : c.maxLocals = 4) (hts : ∀ w ∈ wsX0_makeMeans, w.before args s = true) (hown : s.vm.findClass RX0 = some m.cls) (hK : zK E s) (hap : apart 96 ad) {H0 : Heap} (hRf : 1 ≤ R.frames) (hRl : 24 ≤ R.locals) (κ : SX) (hF : xF κ ≤ 16) (hN : xN κ ≤ 40) (hec : ∀ e, xEc κ e < 16) (i : Nat) (hi16 : i < 16)
    (exit : ∀ (H : Heap) (locs : List Loc) (ls : Array Slot), PX E ad (sxMn (sxMb κ (zline (xMb κ) (i + 1))) (zrow (zrows (xMn κ) (xF κ) (fun _ => FP.dconst0) i) i FP.dconst0 (xF κ))) H → va_S (aX 96 ad) H0 H locs → lv_has ls 4 [(1, .int (nI (i))), (0, .ref (ad 0))] → W p l e R s m args below meth c H locs 0 0 Q (F0 m 40 ls [])) :
    ∀ (n j : Nat) (H : Heap) (locs : List Loc) (ls : Array Slot), j ≤ xF κ → xF κ - j < n → PX E ad (sxMn (sxMb κ (zline (xMb κ) (i + 1))) (zrow (zrows (xMn κ) (xF κ) (fun _ => FP.dconst0) i) i FP.dconst0 j)) H → va_S (aX 96 ad) H0 H locs → lv_has ls 4 [(2, .int (nI (j))), (1, .int (nI (i))), (0, .ref (ad 0))] → W p l e R s m args below meth c H locs 0 0 Q (F0 m 17 ls []) := by
  have hA : ∀ k, k < 96 → aX 96 ad (ad k) := fun k hk => ⟨k, hk, rfl⟩
  intro n
  induction n with
  | zero => intro j H locs ls h1 h2; omega
  | succ n ih =>
    intro j H locs ls hi hn hP hS hl
    refine lv_iload_n hx hb dX0_makeMeans_17 rfl (lv_at hl 0 rfl) ?_
    refine lv_aload_n hx hb dX0_makeMeans_18 rfl (lv_at hl 2 rfl) ?_
    refine gx hx hb hts innX0_makeMeans hown hK hP 0 (by decide) (by decide +kernel) rfl (v := .int (nI ((xF κ)))) rfl dX0_makeMeans_19 ?_
    refine zb_ge (tgt := 40) hx hb (show j < 2 ^ 31 by omega) (show (xF κ) < 2 ^ 31 by omega) dX0_makeMeans_22 (by decide) (fun h => ?_) (fun h => ?_)
    · have h : (xF κ) ≤ j := h
      have hend : j = xF κ := by omega
      subst hend
      exact exit _ _ _ hP hS (lv_sub hl [1, 2] rfl)
    · have h : j < (xF κ) := h
      refine lv_aload_n hx hb dX0_makeMeans_25 rfl (lv_at hl 2 rfl) ?_
      refine gx hx hb hts innX0_makeMeans hown hK hP 8 (by decide) (by decide +kernel) rfl (v := .ref (ad 45)) rfl dX0_makeMeans_26 ?_
      refine lv_iload_n hx hb dX0_makeMeans_29 rfl (lv_at hl 1 rfl) ?_
      refine z_aald 3 hx hb hK hP 45 (by decide) cx_mnO rfl rfl (show i < 16 by omega) (by decide) (if_pos (show i < 16 by omega)) dX0_makeMeans_30 ?_
      refine lv_iload_n hx hb dX0_makeMeans_31 rfl (lv_at hl 0 rfl) ?_
      refine lv_dconst0 hx hb dX0_makeMeans_32 ?_
      refine z_dast hx hb hK hP hap hA hS (46 + i) (show 46 + i < 96 by omega) (cx_mn (show i < 16 by omega)) (show j < xF κ by omega) (show xF κ < 2 ^ 31 by omega) dX0_makeMeans_33 (fun H locs hP hS => ?_)
      have hP := px_mn (show i < 16 by omega) hP
      refine lv_iinc (v := nI (j + 1)) (lv' := [(2, .int (nI (j + 1))), (1, .int (nI (i))), (0, .ref (ad 0))]) hx hb dX0_makeMeans_34 hl (k := 0) rfl (nI_1 _) (by decide) rfl (fun ls hl => ?_)
      refine lv_goto (tgt := 17) hx hb dX0_makeMeans_37 (by decide) ?_
      exact ih (j + 1) _ _ _ (by omega) (by omega) hP hS (lv_sub hl [0, 1, 2] rfl)
set_option maxHeartbeats 4000000 in
set_option maxRecDepth 100000 in
theorem lp_X0_makeMeans2 {p : Program} {l : Launch} {e : Env} {R : Room} {s : State} {m : MethodId} {args : Array Value} {below : List Frame} {meth : Method} {c : Code} {Q : State → Prop} {E : zE} {ad : Nat → Nat} (hx : p.tables.exec = Jvm.exec) (hb : c.code = cX0_makeMeans) (hml : c.maxLocals = 4) (hts : ∀ w ∈ wsX0_makeMeans, w.before args s = true) (hown : s.vm.findClass RX0 = some m.cls) (hK : zK E s) (hap : apart 96 ad) {H0 : Heap} (hRf : 1 ≤ R.frames) (hRl : 24 ≤ R.locals) (κ : SX) (hF : xF κ ≤ 16) (hN : xN κ ≤ 40) (hec : ∀ e, xEc κ e < 16)
    (exit : ∀ (H : Heap) (locs : List Loc) (ls : Array Slot), PX E ad (sxMn (sxMb κ (zline (xMb κ) 16)) (zrows (xMn κ) (xF κ) (fun _ => FP.dconst0) 16)) H → va_S (aX 96 ad) H0 H locs → lv_has ls 4 [(0, .ref (ad 0))] → W p l e R s m args below meth c H locs 0 0 Q (F0 m 46 ls [])) :
    ∀ (n i : Nat) (H : Heap) (locs : List Loc) (ls : Array Slot), i ≤ 16 → 16 - i < n → PX E ad (sxMn (sxMb κ (zline (xMb κ) i)) (zrows (xMn κ) (xF κ) (fun _ => FP.dconst0) i)) H → va_S (aX 96 ad) H0 H locs → lv_has ls 4 [(1, .int (nI (i))), (0, .ref (ad 0))] → W p l e R s m args below meth c H locs 0 0 Q (F0 m 2 ls []) := by
  have hA : ∀ k, k < 96 → aX 96 ad (ad k) := fun k hk => ⟨k, hk, rfl⟩
  intro n
  induction n with
  | zero => intro i H locs ls h1 h2; omega
  | succ n ih =>
    intro i H locs ls hi hn hP hS hl
    refine lv_iload_n hx hb dX0_makeMeans_2 rfl (lv_at hl 0 rfl) ?_
    refine lv_bipush (v := nI 16) hx hb dX0_makeMeans_3 (by decide +kernel) ?_
    refine zb_ge (tgt := 46) hx hb (show i < 2 ^ 31 by omega) (show 16 < 2 ^ 31 by omega) dX0_makeMeans_5 (by decide) (fun h => ?_) (fun h => ?_)
    · have h : 16 ≤ i := h
      have hend : i = 16 := by omega
      subst hend
      exact exit _ _ _ hP hS (lv_sub hl [1] rfl)
    · have h : i < 16 := h
      refine lv_aload_n hx hb dX0_makeMeans_8 rfl (lv_at hl 1 rfl) ?_
      refine gx hx hb hts innX0_makeMeans hown hK hP 7 (by decide) (by decide +kernel) rfl (v := .ref (ad 44)) rfl dX0_makeMeans_9 ?_
      refine lv_iload_n hx hb dX0_makeMeans_12 rfl (lv_at hl 0 rfl) ?_
      refine lv_iconst (v := nI 0) hx hb dX0_makeMeans_13 (by decide +kernel) ?_
      refine z_iast hx hb hK hP hap hA hS 44 (by decide) cx_mb (show i < 16 by omega) (by decide) dX0_makeMeans_14 (fun H locs hP hS => ?_)
      have hP := px_mb hP
      refine lv_iconst (v := nI 0) hx hb dX0_makeMeans_15 (by decide +kernel) ?_
      refine lv_istore_n (lv' := [(2, .int (nI (0))), (1, .int (nI (i))), (0, .ref (ad 0))]) hx hb dX0_makeMeans_16 rfl hl (by decide) rfl (fun ls hl => ?_)
      refine lp_X0_makeMeans1 hx hb hml hts hown hK hap hRf hRl κ hF hN hec i h (fun H locs ls hP hS hl => ?_) (xF κ + 1) 0 _ _ _ (by omega) (by omega) hP hS (lv_sub hl [0, 1, 2] rfl)
      refine lv_iinc (v := nI (i + 1)) (lv' := [(1, .int (nI (i + 1))), (0, .ref (ad 0))]) hx hb dX0_makeMeans_40 hl (k := 0) rfl (nI_1 _) (by decide) rfl (fun ls hl => ?_)
      refine lv_goto (tgt := 2) hx hb dX0_makeMeans_43 (by decide) ?_
      exact ih (i + 1) _ _ _ (by omega) (by omega) hP hS (lv_sub hl [0, 1] rfl)
set_option maxHeartbeats 4000000 in
set_option maxRecDepth 100000 in
theorem lp_X0_makeMeans3 {p : Program} {l : Launch} {e : Env} {R : Room} {s : State} {m : MethodId} {args : Array Value} {below : List Frame} {meth : Method} {c : Code} {Q : State → Prop} {E : zE} {ad : Nat → Nat} (hx : p.tables.exec = Jvm.exec) (hb : c.code = cX0_makeMeans) (hml : c.maxLocals = 4) (hts : ∀ w ∈ wsX0_makeMeans, w.before args s = true) (hown : s.vm.findClass RX0 = some m.cls) (hK : zK E s) (hap : apart 96 ad) {H0 : Heap} (hRf : 1 ≤ R.frames) (hRl : 24 ≤ R.locals) (κ : SX) (hF : xF κ ≤ 16) (hN : xN κ ≤ 40) (hec : ∀ e, xEc κ e < 16) (i : Nat) (hi40 : i < 40) (hnn : ∀ f, f < xF κ → vf_n64 (FP.dadd (adR (adE (xF κ) (xEc κ) (xEv κ) (zrows (xMn κ) (xF κ) (fun _ => FP.dconst0) 16) i) (xEc κ i) (xEv κ i) f (xEc κ i) f) (FP.i2d (nI (xEv κ i f)))))
    (exit : ∀ (H : Heap) (locs : List Loc) (ls : Array Slot), PX E ad (sxMn (sxMb κ (cnE (xEc κ) (zline (xMb κ) 16) (i + 1))) (adR (adE (xF κ) (xEc κ) (xEv κ) (zrows (xMn κ) (xF κ) (fun _ => FP.dconst0) 16) i) (xEc κ i) (xEv κ i) (xF κ))) H → va_S (aX 96 ad) H0 H locs → lv_has ls 4 [(1, .int (nI (i))), (0, .ref (ad 0))] → W p l e R s m args below meth c H locs 0 0 Q (F0 m 109 ls [])) :
    ∀ (n j : Nat) (H : Heap) (locs : List Loc) (ls : Array Slot), j ≤ xF κ → xF κ - j < n → PX E ad (sxMn (sxMb κ (cnE (xEc κ) (zline (xMb κ) 16) (i + 1))) (adR (adE (xF κ) (xEc κ) (xEv κ) (zrows (xMn κ) (xF κ) (fun _ => FP.dconst0) 16) i) (xEc κ i) (xEv κ i) j)) H → va_S (aX 96 ad) H0 H locs → lv_has ls 4 [(3, .int (nI (j))), (2, .int (nI (xEc κ i))), (1, .int (nI (i))), (0, .ref (ad 0))] → W p l e R s m args below meth c H locs 0 0 Q (F0 m 75 ls []) := by
  have hA : ∀ k, k < 96 → aX 96 ad (ad k) := fun k hk => ⟨k, hk, rfl⟩
  intro n
  induction n with
  | zero => intro j H locs ls h1 h2; omega
  | succ n ih =>
    intro j H locs ls hi hn hP hS hl
    have hci := hec i
    refine lv_iload_n hx hb dX0_makeMeans_75 rfl (lv_at hl 0 rfl) ?_
    refine lv_aload_n hx hb dX0_makeMeans_76 rfl (lv_at hl 3 rfl) ?_
    refine gx hx hb hts innX0_makeMeans hown hK hP 0 (by decide) (by decide +kernel) rfl (v := .int (nI ((xF κ)))) rfl dX0_makeMeans_77 ?_
    refine zb_ge (tgt := 109) hx hb (show j < 2 ^ 31 by omega) (show (xF κ) < 2 ^ 31 by omega) dX0_makeMeans_80 (by decide) (fun h => ?_) (fun h => ?_)
    · have h : (xF κ) ≤ j := h
      have hend : j = xF κ := by omega
      subst hend
      exact exit _ _ _ hP hS (lv_sub hl [2, 3] rfl)
    · have h : j < (xF κ) := h
      refine lv_aload_n hx hb dX0_makeMeans_83 rfl (lv_at hl 3 rfl) ?_
      refine gx hx hb hts innX0_makeMeans hown hK hP 8 (by decide) (by decide +kernel) rfl (v := .ref (ad 45)) rfl dX0_makeMeans_84 ?_
      refine lv_iload_n hx hb dX0_makeMeans_87 rfl (lv_at hl 1 rfl) ?_
      refine z_aald 3 hx hb hK hP 45 (by decide) cx_mnO rfl rfl (show xEc κ i < 16 by omega) (by decide) (if_pos (show xEc κ i < 16 by omega)) dX0_makeMeans_88 ?_
      refine lv_iload_n hx hb dX0_makeMeans_89 rfl (lv_at hl 0 rfl) ?_
      refine lv_dup2_11 hx hb dX0_makeMeans_90 rfl rfl ?_
      refine z_dald hx hb hK hP (46 + (xEc κ i)) (show 46 + (xEc κ i) < 96 by omega) (cx_mn (show (xEc κ i) < 16 by omega)) (show j < xF κ by omega) (show xF κ < 2 ^ 31 by omega) dX0_makeMeans_91 ?_
      refine lv_aload_n hx hb dX0_makeMeans_92 rfl (lv_at hl 3 rfl) ?_
      refine gx hx hb hts innX0_makeMeans hown hK hP 2 (by decide) (by decide +kernel) rfl (v := .ref (ad 2)) rfl dX0_makeMeans_93 ?_
      refine lv_iload_n hx hb dX0_makeMeans_96 rfl (lv_at hl 2 rfl) ?_
      refine z_aald 1 hx hb hK hP 2 (by decide) cx_evO rfl rfl (show i < 40 by omega) (by decide) (if_pos (show i < 40 by omega)) dX0_makeMeans_97 ?_
      refine lv_iload_n hx hb dX0_makeMeans_98 rfl (lv_at hl 0 rfl) ?_
      refine z_iald hx hb hK hP (3 + i) (show 3 + i < 96 by omega) (cx_ev (show i < 40 by omega)) (show j < xF κ by omega) (show xF κ < 2 ^ 31 by omega) dX0_makeMeans_99 ?_
      refine lv_i2d hx hb dX0_makeMeans_100 ?_
      refine lv_dadd hx hb dX0_makeMeans_101 (hnn j h) ?_
      refine z_dast hx hb hK hP hap hA hS (46 + (xEc κ i)) (show 46 + (xEc κ i) < 96 by omega) (cx_mn (show (xEc κ i) < 16 by omega)) (show j < xF κ by omega) (show xF κ < 2 ^ 31 by omega) dX0_makeMeans_102 (fun H locs hP hS => ?_)
      have hP := px_mn (show (xEc κ i) < 16 by omega) hP
      refine lv_iinc (v := nI (j + 1)) (lv' := [(3, .int (nI (j + 1))), (2, .int (nI (xEc κ i))), (1, .int (nI (i))), (0, .ref (ad 0))]) hx hb dX0_makeMeans_103 hl (k := 0) rfl (nI_1 _) (by decide) rfl (fun ls hl => ?_)
      refine lv_goto (tgt := 75) hx hb dX0_makeMeans_106 (by decide) ?_
      exact ih (j + 1) _ _ _ (by omega) (by omega) hP hS (lv_sub hl [0, 1, 2, 3] rfl)
set_option maxHeartbeats 4000000 in
set_option maxRecDepth 100000 in
theorem lp_X0_makeMeans4 {p : Program} {l : Launch} {e : Env} {R : Room} {s : State} {m : MethodId} {args : Array Value} {below : List Frame} {meth : Method} {c : Code} {Q : State → Prop} {E : zE} {ad : Nat → Nat} (hx : p.tables.exec = Jvm.exec) (hb : c.code = cX0_makeMeans) (hml : c.maxLocals = 4) (hts : ∀ w ∈ wsX0_makeMeans, w.before args s = true) (hown : s.vm.findClass RX0 = some m.cls) (hK : zK E s) (hap : apart 96 ad) {H0 : Heap} (hRf : 1 ≤ R.frames) (hRl : 24 ≤ R.locals) (κ : SX) (hF : xF κ ≤ 16) (hN : xN κ ≤ 40) (hec : ∀ e, xEc κ e < 16) (hnn : ∀ i, i < xN κ → ∀ f, f < xF κ → vf_n64 (FP.dadd (adR (adE (xF κ) (xEc κ) (xEv κ) (zrows (xMn κ) (xF κ) (fun _ => FP.dconst0) 16) i) (xEc κ i) (xEv κ i) f (xEc κ i) f) (FP.i2d (nI (xEv κ i f)))))
    (exit : ∀ (H : Heap) (locs : List Loc) (ls : Array Slot), PX E ad (sxMn (sxMb κ (mmB κ)) (mmS κ)) H → va_S (aX 96 ad) H0 H locs → lv_has ls 4 [(0, .ref (ad 0))] → W p l e R s m args below meth c H locs 0 0 Q (F0 m 115 ls [])) :
    ∀ (n i : Nat) (H : Heap) (locs : List Loc) (ls : Array Slot), i ≤ xN κ → xN κ - i < n → PX E ad (sxMn (sxMb κ (cnE (xEc κ) (zline (xMb κ) 16) i)) (adE (xF κ) (xEc κ) (xEv κ) (zrows (xMn κ) (xF κ) (fun _ => FP.dconst0) 16) i)) H → va_S (aX 96 ad) H0 H locs → lv_has ls 4 [(1, .int (nI (i))), (0, .ref (ad 0))] → W p l e R s m args below meth c H locs 0 0 Q (F0 m 48 ls []) := by
  have hA : ∀ k, k < 96 → aX 96 ad (ad k) := fun k hk => ⟨k, hk, rfl⟩
  intro n
  induction n with
  | zero => intro i H locs ls h1 h2; omega
  | succ n ih =>
    intro i H locs ls hi hn hP hS hl
    refine lv_iload_n hx hb dX0_makeMeans_48 rfl (lv_at hl 0 rfl) ?_
    refine lv_aload_n hx hb dX0_makeMeans_49 rfl (lv_at hl 1 rfl) ?_
    refine gx hx hb hts innX0_makeMeans hown hK hP 3 (by decide) (by decide +kernel) rfl (v := .int (nI ((xN κ)))) rfl dX0_makeMeans_50 ?_
    refine zb_ge (tgt := 115) hx hb (show i < 2 ^ 31 by omega) (show (xN κ) < 2 ^ 31 by omega) dX0_makeMeans_53 (by decide) (fun h => ?_) (fun h => ?_)
    · have h : (xN κ) ≤ i := h
      have hend : i = xN κ := by omega
      subst hend
      exact exit _ _ _ hP hS (lv_sub hl [1] rfl)
    · have h : i < (xN κ) := h
      have hci := hec i
      refine lv_aload_n hx hb dX0_makeMeans_56 rfl (lv_at hl 1 rfl) ?_
      refine gx hx hb hts innX0_makeMeans hown hK hP 1 (by decide) (by decide +kernel) rfl (v := .ref (ad 1)) rfl dX0_makeMeans_57 ?_
      refine lv_iload_n hx hb dX0_makeMeans_60 rfl (lv_at hl 0 rfl) ?_
      refine z_iald hx hb hK hP 1 (by decide) cx_ec (show i < 40 by omega) (by decide) dX0_makeMeans_61 ?_
      refine lv_istore_n (lv' := [(2, .int (nI ((xEc κ) (i)))), (1, .int (nI (i))), (0, .ref (ad 0))]) hx hb dX0_makeMeans_62 rfl hl (by decide) rfl (fun ls hl => ?_)
      refine lv_aload_n hx hb dX0_makeMeans_63 rfl (lv_at hl 2 rfl) ?_
      refine gx hx hb hts innX0_makeMeans hown hK hP 7 (by decide) (by decide +kernel) rfl (v := .ref (ad 44)) rfl dX0_makeMeans_64 ?_
      refine lv_iload_n hx hb dX0_makeMeans_67 rfl (lv_at hl 0 rfl) ?_
      refine lv_dup2_11 hx hb dX0_makeMeans_68 rfl rfl ?_
      refine z_iald hx hb hK hP 44 (by decide) cx_mb (show (xEc κ) (i) < 16 by omega) (by decide) dX0_makeMeans_69 ?_
      refine lv_iconst (v := nI 1) hx hb dX0_makeMeans_70 (by decide +kernel) ?_
      refine zv_iadd (v := (nI (((cnE (xEc κ) (zline (xMb κ) 16) i) ((xEc κ) (i))) + 1))) hx hb dX0_makeMeans_71 (nI_add _ _) ?_
      refine z_iast hx hb hK hP hap hA hS 44 (by decide) cx_mb (show (xEc κ) (i) < 16 by omega) (by decide) dX0_makeMeans_72 (fun H locs hP hS => ?_)
      have hP := px_mb hP
      refine lv_iconst (v := nI 0) hx hb dX0_makeMeans_73 (by decide +kernel) ?_
      refine lv_istore_n (lv' := [(3, .int (nI (0))), (2, .int (nI ((xEc κ) (i)))), (1, .int (nI (i))), (0, .ref (ad 0))]) hx hb dX0_makeMeans_74 rfl hl (by decide) rfl (fun ls hl => ?_)
      refine lp_X0_makeMeans3 hx hb hml hts hown hK hap hRf hRl κ hF hN hec i (by omega) (hnn i h) (fun H locs ls hP hS hl => ?_) (xF κ + 1) 0 _ _ _ (by omega) (by omega) hP hS (lv_sub hl [0, 1, 2, 3] rfl)
      refine lv_iinc (v := nI (i + 1)) (lv' := [(1, .int (nI (i + 1))), (0, .ref (ad 0))]) hx hb dX0_makeMeans_109 hl (k := 0) rfl (nI_1 _) (by decide) rfl (fun ls hl => ?_)
      refine lv_goto (tgt := 48) hx hb dX0_makeMeans_112 (by decide) ?_
      exact ih (i + 1) _ _ _ (by omega) (by omega) hP hS (lv_sub hl [0, 1] rfl)
set_option maxHeartbeats 4000000 in
set_option maxRecDepth 100000 in
theorem lp_X0_makeMeans5 {p : Program} {l : Launch} {e : Env} {R : Room} {s : State} {m : MethodId} {args : Array Value} {below : List Frame} {meth : Method} {c : Code} {Q : State → Prop} {E : zE} {ad : Nat → Nat} (hx : p.tables.exec = Jvm.exec) (hb : c.code = cX0_makeMeans) (hml : c.maxLocals = 4) (hts : ∀ w ∈ wsX0_makeMeans, w.before args s = true) (hown : s.vm.findClass RX0 = some m.cls) (hK : zK E s) (hap : apart 96 ad) {H0 : Heap} (hRf : 1 ≤ R.frames) (hRl : 24 ≤ R.locals) (κ : SX) (hF : xF κ ≤ 16) (hN : xN κ ≤ 40) (hec : ∀ e, xEc κ e < 16) (hmb : ∀ c, c < 16 → mmB κ c < 2 ^ 31) (hdd : ∀ c, c < 16 → 0 < mmB κ c → ∀ f, f < xF κ → vf_n64 (FP.ddiv (dvR (dvE (xF κ) (mmB κ) (mmS κ) c) c (FP.i2d (nI (mmB κ c))) f c f) (FP.i2d (nI (mmB κ c)))))
    (exit : ∀ (H : Heap) (locs : List Loc) (ls : Array Slot), PX E ad (sxMn (sxMb κ (mmB κ)) (dvE (xF κ) (mmB κ) (mmS κ) 16)) H → va_S (aX 96 ad) H0 H locs → lv_has ls 4 [(0, .ref (ad 0))] → W p l e R s m args below meth c H locs 0 0 Q (F0 m 143 ls [])) :
    ∀ (n i : Nat) (H : Heap) (locs : List Loc) (ls : Array Slot), i ≤ 16 → 16 - i < n → PX E ad (sxMn (sxMb κ (mmB κ)) (dvE (xF κ) (mmB κ) (mmS κ) i)) H → va_S (aX 96 ad) H0 H locs → lv_has ls 4 [(1, .int (nI (i))), (0, .ref (ad 0))] → W p l e R s m args below meth c H locs 0 0 Q (F0 m 117 ls []) := by
  have hA : ∀ k, k < 96 → aX 96 ad (ad k) := fun k hk => ⟨k, hk, rfl⟩
  intro n
  induction n with
  | zero => intro i H locs ls h1 h2; omega
  | succ n ih =>
    intro i H locs ls hi hn hP hS hl
    refine lv_iload_n hx hb dX0_makeMeans_117 rfl (lv_at hl 0 rfl) ?_
    refine lv_bipush (v := nI 16) hx hb dX0_makeMeans_118 (by decide +kernel) ?_
    refine zb_ge (tgt := 143) hx hb (show i < 2 ^ 31 by omega) (show 16 < 2 ^ 31 by omega) dX0_makeMeans_120 (by decide) (fun h => ?_) (fun h => ?_)
    · have h : 16 ≤ i := h
      have hend : i = 16 := by omega
      subst hend
      exact exit _ _ _ hP hS (lv_sub hl [1] rfl)
    · have h : i < 16 := h
      have hci := hmb i h
      refine lv_aload_n hx hb dX0_makeMeans_123 rfl (lv_at hl 1 rfl) ?_
      refine gx hx hb hts innX0_makeMeans hown hK hP 7 (by decide) (by decide +kernel) rfl (v := .ref (ad 44)) rfl dX0_makeMeans_124 ?_
      refine lv_iload_n hx hb dX0_makeMeans_127 rfl (lv_at hl 0 rfl) ?_
      refine z_iald hx hb hK hP 44 (by decide) cx_mb (show i < 16 by omega) (by decide) dX0_makeMeans_128 ?_
      refine zu_le (tgt := 137) hx hb (show (mmB κ) (i) < 2 ^ 31 by omega) dX0_makeMeans_129 (by decide) (fun h1 => ?_) (fun h1 => ?_)
      · have h1 : ((mmB κ) (i)) = 0 := h1
        have e8 : dvE (xF κ) (mmB κ) (mmS κ) (i + 1) = dvE (xF κ) (mmB κ) (mmS κ) i := if_neg (by omega)
        refine lv_iinc (v := nI (i + 1)) (lv' := [(1, .int (nI (i + 1))), (0, .ref (ad 0))]) hx hb dX0_makeMeans_137 hl (k := 0) rfl (nI_1 _) (by decide) rfl (fun ls hl => ?_)
        refine lv_goto (tgt := 117) hx hb dX0_makeMeans_140 (by decide) ?_
        exact ih (i + 1) _ _ _ (by omega) (by omega) (by rw [e8]; exact hP) hS (lv_sub hl [0, 1] rfl)
      · have h1 : 0 < ((mmB κ) (i)) := h1
        refine lv_aload_n hx hb dX0_makeMeans_132 rfl (lv_at hl 1 rfl) ?_
        refine lv_iload_n hx hb dX0_makeMeans_133 rfl (lv_at hl 0 rfl) ?_
        have e8 : dvE (xF κ) (mmB κ) (mmS κ) (i + 1) = dvR (dvE (xF κ) (mmB κ) (mmS κ) i) i (FP.i2d (nI (mmB κ i))) (xF κ) := if_pos h1
        refine va_callv (va_runV (As := [.int (nI (i))]) (rest := []) ⟨hx, hb, hml, hown, hts⟩ (kX0_divideMeans l E ad hap (sxMn (sxMb κ (mmB κ)) (dvE (xF κ) (mmB κ) (mmS κ) i)) i hF h (hdd i h h1)) (cwV 1 hts gX0_makeMeans_X0_divideMeans rfl rfl rfl (by decide +kernel) ⟨Nat.le_trans (Nat.le_of_ble_eq_true rfl) hRf, Nat.le_trans (Nat.le_of_ble_eq_true rfl) hRl⟩) (zpx hK hP) rfl rfl hl.1 rfl (lv_room (Nat.le_of_ble_eq_true rfl)) dX0_makeMeans_134 ⟨Nat.zero_le _, Nat.zero_le _⟩) hS (fun q _ h => h) (fun q h => h) (fun u9 t9 H locs ht9 hvm9 hw9 hB9 hz9 hk9 hS => ?_)
        rw [ht9] at hB9
        have hP := hB9
        subst hw9
        refine lv_iinc (v := nI (i + 1)) (lv' := [(1, .int (nI (i + 1))), (0, .ref (ad 0))]) hx hb dX0_makeMeans_137 hl (k := 0) rfl (nI_1 _) (by decide) rfl (fun ls hl => ?_)
        refine lv_goto (tgt := 117) hx hb dX0_makeMeans_140 (by decide) ?_
        exact ih (i + 1) _ _ _ (by omega) (by omega) (by rw [e8]; exact hP) hS (lv_sub hl [0, 1] rfl)
theorem mmB_ct (κ : SX) {c : Nat} (h : c < 16) : mmB κ c = ctE (xEc κ) c (xN κ) := cnE_ct (zline_in h) _
theorem mmB_le (κ : SX) {c : Nat} (h : c < 16) : mmB κ c ≤ xN κ := by rw [mmB_ct κ h]; exact ctE_le _ _ _
theorem mmS_sm (κ : SX) (hN : xN κ ≤ 40) (hev : ∀ e f, xEv κ e f < 256) {c f : Nat} (hc : c < 16) (hf : f < xF κ) : mmS κ c f = FP.i2d (nI (smE (xEc κ) (xEv κ) c f (xN κ))) := adE_sm hev hf (by rw [zrows_in hc hf]; exact i2d_0.symm) _ hN
theorem mm_nn (κ : SX) (hN : xN κ ≤ 40) (hec : ∀ e, xEc κ e < 16) (hev : ∀ e f, xEv κ e f < 256) : ∀ i, i < xN κ → ∀ f, f < xF κ → vf_n64 (FP.dadd (adR (adE (xF κ) (xEc κ) (xEv κ) (zrows (xMn κ) (xF κ) (fun _ => FP.dconst0) 16) i) (xEc κ i) (xEv κ i) f (xEc κ i) f) (FP.i2d (nI (xEv κ i f)))) := by
  intro i hi f hf
  rw [adR_rest (Or.inr (Nat.le_refl f)), adE_sm (n := xF κ) hev hf (by rw [zrows_in (hec i) hf]; exact i2d_0.symm) i (by omega)]
  have b1 := smE_le (ec := xEc κ) hev (xEc κ i) f i
  have b2 := hev i f
  rw [i2d_add (by omega)]
  exact mg_n64 (mg_i2d _) (by decide)
theorem mm_dd (κ : SX) (hN : xN κ ≤ 40) (hev : ∀ e f, xEv κ e f < 256) : ∀ c, c < 16 → 0 < mmB κ c → ∀ f, f < xF κ → vf_n64 (FP.ddiv (dvR (dvE (xF κ) (mmB κ) (mmS κ) c) c (FP.i2d (nI (mmB κ c))) f c f) (FP.i2d (nI (mmB κ c)))) := by
  intro c hc h0 f hf
  have h1 := mmB_le κ hc
  rw [dvR_rest (Or.inr (Nat.le_refl f)), dvE_rest (Nat.le_refl c), mmS_sm κ hN hev hc hf]
  refine mg_n64 (mg_ddiv _ ?_) (by decide)
  exact nI_ne0 h0 (by omega)
set_option maxHeartbeats 4000000 in
set_option maxRecDepth 100000 in
theorem kX0_makeMeans (l : Launch) (E : zE) (ad : Nat → Nat) (hap : apart 96 ad) (κ : SX) (hF : xF κ ≤ 16) (hN : xN κ ≤ 40) (hec : ∀ e, xEc κ e < 16) (hev : ∀ e f, xEv κ e f < 256) : Met l yX0_makeMeans wsX0_makeMeans ({ frames := 1, cells := 0, slots := 0, locals := 24 }) (va_Pc [.ref (ad 0)] (fun U => PX E ad κ U.heap ∧ zK E U)) (va_Qv (fun κ' : SX => κ' = mmX κ) (fun κ' t => PX E ad κ' t.heap) (aX 96 ad)) 0 0 (aX 96 ad) := by
  refine Met.ofW (cc := cX0_makeMeans) (maxL := 4) (ret := none) (by decide) rfl ?_
  intro p e s m args below meth c s₁ B hml hv
  obtain ⟨rfl, hP, hK⟩ := hv
  have hx := B.exec
  have hb := B.bytes
  have hr := B.returns
  have hts := atoms_spec (ws := wsX0_makeMeans) B.pre
  have hown : s.vm.findClass RX0 = some m.cls := findClass_of_methodNamed B.named
  have hlocks := B.notSynchronized
  have hS : va_S (aX 96 ad) s.heap s.heap [] := va_S.rf
  have hA : ∀ k, k < 96 → aX 96 ad (ad k) := fun k hk => ⟨k, hk, rfl⟩
  have hRf : 1 ≤ ((headSpec wsX0_makeMeans ({ frames := 1, cells := 0, slots := 0, locals := 24 })).room).frames := Nat.le_of_ble_eq_true rfl
  have hRl : 24 ≤ ((headSpec wsX0_makeMeans ({ frames := 1, cells := 0, slots := 0, locals := 24 })).room).locals := Nat.le_of_ble_eq_true rfl
  have hl := lv_entry ([.ref (ad 0)]) (n := 4) (Nat.le_of_ble_eq_true rfl)
  rw [lg_entry_eq]
  generalize (lg_sl ([.ref (ad 0)]) ++ List.replicate (4 - (lg_sl ([.ref (ad 0)])).length) Slot.unset).toArray = ls at hl ⊢
  have hl : lv_has ls 4 [(0, .ref (ad 0))] := hl
  refine lv_iconst (v := nI 0) hx hb dX0_makeMeans_0 (by decide +kernel) ?_
  refine lv_istore_n (lv' := [(1, .int (nI (0))), (0, .ref (ad 0))]) hx hb dX0_makeMeans_1 rfl hl (by decide) rfl (fun ls hl => ?_)
  refine lp_X0_makeMeans2 hx hb hml hts hown hK hap hRf hRl κ hF hN hec (fun H locs ls hP hS hl => ?_) (16 + 1) 0 _ _ _ (by omega) (by omega) hP hS (lv_sub hl [0, 1] rfl)
  refine lv_iconst (v := nI 0) hx hb dX0_makeMeans_46 (by decide +kernel) ?_
  refine lv_istore_n (lv' := [(1, .int (nI (0))), (0, .ref (ad 0))]) hx hb dX0_makeMeans_47 rfl hl (by decide) rfl (fun ls hl => ?_)
  refine lp_X0_makeMeans4 hx hb hml hts hown hK hap hRf hRl κ hF hN hec (mm_nn κ hN hec hev) (fun H locs ls hP hS hl => ?_) (xN κ + 1) 0 _ _ _ (by omega) (by omega) hP hS (lv_sub hl [0, 1] rfl)
  refine lv_iconst (v := nI 0) hx hb dX0_makeMeans_115 (by decide +kernel) ?_
  refine lv_istore_n (lv' := [(1, .int (nI (0))), (0, .ref (ad 0))]) hx hb dX0_makeMeans_116 rfl hl (by decide) rfl (fun ls hl => ?_)
  refine lp_X0_makeMeans5 hx hb hml hts hown hK hap hRf hRl κ hF hN hec (fun c hc => by have := mmB_le κ hc; omega) (mm_dd κ hN hev) (fun H locs ls hP hS hl => ?_) (16 + 1) 0 _ _ _ (by omega) (by omega) hP hS (lv_sub hl [0, 1] rfl)
  exact W.vret hx hb hr (fun t ht hW => ⟨⟨_, rfl, rfl, (wn_h ht hP)⟩, hS.F ht⟩) hS.2.2 dX0_makeMeans_143
set_option maxHeartbeats 4000000 in
set_option maxRecDepth 100000 in
theorem lp_X0_makeFirstWeights1 {p : Program} {l : Launch} {e : Env} {R : Room} {s : State} {m : MethodId} {args : Array Value} {below : List Frame} {meth : Method} {c : Code} {Q : State → Prop} {E : zE} {ad : Nat → Nat} (hx : p.tables.exec = Jvm.exec) (hb : c.code = cX0_makeFirstWeights) (hml : c.maxLocals = 5) (hts : ∀ w ∈ wsX0_makeFirstWeights, w.before args s = true) (hown : s.vm.findClass RX0 = some m.cls) (hK : zK E s) (hap : apart 96 ad) {H0 : Heap} (hRf : 0 ≤ R.frames) (hRl : 0 ≤ R.locals) (κ : SX) (hF : xF κ ≤ 16) (hmb : ∀ c, c < 16 → xMb κ c < 2 ^ 31) (i : Nat) (hi16 : i < 16) (z9 : UInt64)
    (exit : ∀ (H : Heap) (locs : List Loc) (ls : Array Slot), PX E ad (sxWt κ (zrow (zrows (xWt κ) (xF κ) (fun c => if 0 < xMb κ c then FP.dconst1 else FP.dconst0) i) i z9 (xF κ))) H → va_S (aX 96 ad) H0 H locs → lv_has ls 5 [(1, .int (nI (i))), (0, .ref (ad 0))] → W p l e R s m args below meth c H locs 0 0 Q (F0 m 51 ls [])) :
    ∀ (n j : Nat) (H : Heap) (locs : List Loc) (ls : Array Slot), j ≤ xF κ → xF κ - j < n → PX E ad (sxWt κ (zrow (zrows (xWt κ) (xF κ) (fun c => if 0 < xMb κ c then FP.dconst1 else FP.dconst0) i) i z9 j)) H → va_S (aX 96 ad) H0 H locs → lv_has ls 5 [(4, .int (nI (j))), (2, .double (z9)), (1, .int (nI (i))), (0, .ref (ad 0))] → W p l e R s m args below meth c H locs 0 0 Q (F0 m 26 ls []) := by
  have hA : ∀ k, k < 96 → aX 96 ad (ad k) := fun k hk => ⟨k, hk, rfl⟩
  intro n
  induction n with
  | zero => intro j H locs ls h1 h2; omega
  | succ n ih =>
    intro j H locs ls hi hn hP hS hl
    refine lv_iload hx hb dX0_makeFirstWeights_26 (lv_at hl 0 rfl) ?_
    refine lv_aload_n hx hb dX0_makeFirstWeights_28 rfl (lv_at hl 3 rfl) ?_
    refine gx hx hb hts innX0_makeFirstWeights hown hK hP 0 (by decide) (by decide +kernel) rfl (v := .int (nI ((xF κ)))) rfl dX0_makeFirstWeights_29 ?_
    refine zb_ge (tgt := 51) hx hb (show j < 2 ^ 31 by omega) (show (xF κ) < 2 ^ 31 by omega) dX0_makeFirstWeights_32 (by decide) (fun h => ?_) (fun h => ?_)
    · have h : (xF κ) ≤ j := h
      have hend : j = xF κ := by omega
      subst hend
      exact exit _ _ _ hP hS (lv_sub hl [2, 3] rfl)
    · have h : j < (xF κ) := h
      refine lv_aload_n hx hb dX0_makeFirstWeights_35 rfl (lv_at hl 3 rfl) ?_
      refine gx hx hb hts innX0_makeFirstWeights hown hK hP 9 (by decide) (by decide +kernel) rfl (v := .ref (ad 62)) rfl dX0_makeFirstWeights_36 ?_
      refine lv_iload_n hx hb dX0_makeFirstWeights_39 rfl (lv_at hl 2 rfl) ?_
      refine z_aald 3 hx hb hK hP 62 (by decide) cx_wtO rfl rfl (show i < 16 by omega) (by decide) (if_pos (show i < 16 by omega)) dX0_makeFirstWeights_40 ?_
      refine lv_iload hx hb dX0_makeFirstWeights_41 (lv_at hl 0 rfl) ?_
      refine lv_dload_n hx hb dX0_makeFirstWeights_43 rfl (lv_at hl 1 rfl) ?_
      refine z_dast hx hb hK hP hap hA hS (63 + i) (show 63 + i < 96 by omega) (cx_wt (show i < 16 by omega)) (show j < xF κ by omega) (show xF κ < 2 ^ 31 by omega) dX0_makeFirstWeights_44 (fun H locs hP hS => ?_)
      have hP := px_wt (show i < 16 by omega) hP
      refine lv_iinc (v := nI (j + 1)) (lv' := [(4, .int (nI (j + 1))), (2, .double (z9)), (1, .int (nI (i))), (0, .ref (ad 0))]) hx hb dX0_makeFirstWeights_45 hl (k := 0) rfl (nI_1 _) (by decide) rfl (fun ls hl => ?_)
      refine lv_goto (tgt := 26) hx hb dX0_makeFirstWeights_48 (by decide) ?_
      exact ih (j + 1) _ _ _ (by omega) (by omega) hP hS (lv_sub hl [0, 1, 2, 3] rfl)
set_option maxHeartbeats 4000000 in
set_option maxRecDepth 100000 in
theorem lp_X0_makeFirstWeights2 {p : Program} {l : Launch} {e : Env} {R : Room} {s : State} {m : MethodId} {args : Array Value} {below : List Frame} {meth : Method} {c : Code} {Q : State → Prop} {E : zE} {ad : Nat → Nat} (hx : p.tables.exec = Jvm.exec) (hb : c.code = cX0_makeFirstWeights) (hml : c.maxLocals = 5) (hts : ∀ w ∈ wsX0_makeFirstWeights, w.before args s = true) (hown : s.vm.findClass RX0 = some m.cls) (hK : zK E s) (hap : apart 96 ad) {H0 : Heap} (hRf : 0 ≤ R.frames) (hRl : 0 ≤ R.locals) (κ : SX) (hF : xF κ ≤ 16) (hmb : ∀ c, c < 16 → xMb κ c < 2 ^ 31)
    (exit : ∀ (H : Heap) (locs : List Loc) (ls : Array Slot), PX E ad (sxWt κ (zrows (xWt κ) (xF κ) (fun c => if 0 < xMb κ c then FP.dconst1 else FP.dconst0) 16)) H → va_S (aX 96 ad) H0 H locs → lv_has ls 5 [(0, .ref (ad 0))] → W p l e R s m args below meth c H locs 0 0 Q (F0 m 57 ls [])) :
    ∀ (n i : Nat) (H : Heap) (locs : List Loc) (ls : Array Slot), i ≤ 16 → 16 - i < n → PX E ad (sxWt κ (zrows (xWt κ) (xF κ) (fun c => if 0 < xMb κ c then FP.dconst1 else FP.dconst0) i)) H → va_S (aX 96 ad) H0 H locs → lv_has ls 5 [(1, .int (nI (i))), (0, .ref (ad 0))] → W p l e R s m args below meth c H locs 0 0 Q (F0 m 2 ls []) := by
  have hA : ∀ k, k < 96 → aX 96 ad (ad k) := fun k hk => ⟨k, hk, rfl⟩
  intro n
  induction n with
  | zero => intro i H locs ls h1 h2; omega
  | succ n ih =>
    intro i H locs ls hi hn hP hS hl
    refine lv_iload_n hx hb dX0_makeFirstWeights_2 rfl (lv_at hl 0 rfl) ?_
    refine lv_bipush (v := nI 16) hx hb dX0_makeFirstWeights_3 (by decide +kernel) ?_
    refine zb_ge (tgt := 57) hx hb (show i < 2 ^ 31 by omega) (show 16 < 2 ^ 31 by omega) dX0_makeFirstWeights_5 (by decide) (fun h => ?_) (fun h => ?_)
    · have h : 16 ≤ i := h
      have hend : i = 16 := by omega
      subst hend
      exact exit _ _ _ hP hS (lv_sub hl [1] rfl)
    · have h : i < 16 := h
      have hci := hmb i h
      refine lv_aload_n hx hb dX0_makeFirstWeights_8 rfl (lv_at hl 1 rfl) ?_
      refine gx hx hb hts innX0_makeFirstWeights hown hK hP 7 (by decide) (by decide +kernel) rfl (v := .ref (ad 44)) rfl dX0_makeFirstWeights_9 ?_
      refine lv_iload_n hx hb dX0_makeFirstWeights_12 rfl (lv_at hl 0 rfl) ?_
      refine z_iald hx hb hK hP 44 (by decide) cx_mb (show i < 16 by omega) (by decide) dX0_makeFirstWeights_13 ?_
      refine zu_le (tgt := 21) hx hb (show (xMb κ) (i) < 2 ^ 31 by omega) dX0_makeFirstWeights_14 (by decide) (fun h1 => ?_) (fun h1 => ?_)
      · have h1 : ((xMb κ) (i)) = 0 := h1
        refine lv_dconst0 hx hb dX0_makeFirstWeights_21 ?_
        refine lv_dstore_n (lv' := [(2, .double (FP.dconst0)), (1, .int (nI (i))), (0, .ref (ad 0))]) hx hb dX0_makeFirstWeights_22 rfl hl (by decide) rfl (fun ls hl => ?_)
        refine lv_iconst (v := nI 0) hx hb dX0_makeFirstWeights_23 (by decide +kernel) ?_
        refine lv_istore (lv' := [(4, .int (nI (0))), (2, .double (FP.dconst0)), (1, .int (nI (i))), (0, .ref (ad 0))]) hx hb dX0_makeFirstWeights_24 hl (by decide) rfl (fun ls hl => ?_)
        have e8 : zrows (xWt κ) (xF κ) (fun c => if 0 < xMb κ c then FP.dconst1 else FP.dconst0) (i + 1) = zrow (zrows (xWt κ) (xF κ) (fun c => if 0 < xMb κ c then FP.dconst1 else FP.dconst0) i) i FP.dconst0 (xF κ) := by
          show zrow _ i (if 0 < xMb κ i then FP.dconst1 else FP.dconst0) _ = _
          rw [if_neg (by omega)]
        refine lp_X0_makeFirstWeights1 hx hb hml hts hown hK hap hRf hRl κ hF hmb i h FP.dconst0 (fun H locs ls hP hS hl => ?_) (xF κ + 1) 0 _ _ _ (by omega) (by omega) hP hS (lv_sub hl [0, 1, 2, 3] rfl)
        refine lv_iinc (v := nI (i + 1)) (lv' := [(1, .int (nI (i + 1))), (0, .ref (ad 0))]) hx hb dX0_makeFirstWeights_51 hl (k := 0) rfl (nI_1 _) (by decide) rfl (fun ls hl => ?_)
        refine lv_goto (tgt := 2) hx hb dX0_makeFirstWeights_54 (by decide) ?_
        exact ih (i + 1) _ _ _ (by omega) (by omega) (by rw [e8]; exact hP) hS (lv_sub hl [0, 1] rfl)
      · have h1 : 0 < ((xMb κ) (i)) := h1
        refine lv_dconst1 hx hb dX0_makeFirstWeights_17 ?_
        refine lv_goto (tgt := 22) hx hb dX0_makeFirstWeights_18 (by decide) ?_
        refine lv_dstore_n (lv' := [(2, .double (FP.dconst1)), (1, .int (nI (i))), (0, .ref (ad 0))]) hx hb dX0_makeFirstWeights_22 rfl hl (by decide) rfl (fun ls hl => ?_)
        refine lv_iconst (v := nI 0) hx hb dX0_makeFirstWeights_23 (by decide +kernel) ?_
        refine lv_istore (lv' := [(4, .int (nI (0))), (2, .double (FP.dconst1)), (1, .int (nI (i))), (0, .ref (ad 0))]) hx hb dX0_makeFirstWeights_24 hl (by decide) rfl (fun ls hl => ?_)
        have e8 : zrows (xWt κ) (xF κ) (fun c => if 0 < xMb κ c then FP.dconst1 else FP.dconst0) (i + 1) = zrow (zrows (xWt κ) (xF κ) (fun c => if 0 < xMb κ c then FP.dconst1 else FP.dconst0) i) i FP.dconst1 (xF κ) := by
          show zrow _ i (if 0 < xMb κ i then FP.dconst1 else FP.dconst0) _ = _
          rw [if_pos h1]
        refine lp_X0_makeFirstWeights1 hx hb hml hts hown hK hap hRf hRl κ hF hmb i h FP.dconst1 (fun H locs ls hP hS hl => ?_) (xF κ + 1) 0 _ _ _ (by omega) (by omega) hP hS (lv_sub hl [0, 1, 2, 3] rfl)
        refine lv_iinc (v := nI (i + 1)) (lv' := [(1, .int (nI (i + 1))), (0, .ref (ad 0))]) hx hb dX0_makeFirstWeights_51 hl (k := 0) rfl (nI_1 _) (by decide) rfl (fun ls hl => ?_)
        refine lv_goto (tgt := 2) hx hb dX0_makeFirstWeights_54 (by decide) ?_
        exact ih (i + 1) _ _ _ (by omega) (by omega) (by rw [e8]; exact hP) hS (lv_sub hl [0, 1] rfl)
set_option maxHeartbeats 4000000 in
set_option maxRecDepth 100000 in
theorem kX0_makeFirstWeights (l : Launch) (E : zE) (ad : Nat → Nat) (hap : apart 96 ad) (κ : SX) (hF : xF κ ≤ 16) (hmb : ∀ c, c < 16 → xMb κ c < 2 ^ 31) : Met l yX0_makeFirstWeights wsX0_makeFirstWeights ({ frames := 0, cells := 0, slots := 0, locals := 0 }) (va_Pc [.ref (ad 0)] (fun U => PX E ad κ U.heap ∧ zK E U)) (va_Qv (fun κ' : SX => κ' = fwX κ) (fun κ' t => PX E ad κ' t.heap) (aX 96 ad)) 0 0 (aX 96 ad) := by
  refine Met.ofW (cc := cX0_makeFirstWeights) (maxL := 5) (ret := none) (by decide) rfl ?_
  intro p e s m args below meth c s₁ B hml hv
  obtain ⟨rfl, hP, hK⟩ := hv
  have hx := B.exec
  have hb := B.bytes
  have hr := B.returns
  have hts := atoms_spec (ws := wsX0_makeFirstWeights) B.pre
  have hown : s.vm.findClass RX0 = some m.cls := findClass_of_methodNamed B.named
  have hlocks := B.notSynchronized
  have hS : va_S (aX 96 ad) s.heap s.heap [] := va_S.rf
  have hA : ∀ k, k < 96 → aX 96 ad (ad k) := fun k hk => ⟨k, hk, rfl⟩
  have hRf : 0 ≤ ((headSpec wsX0_makeFirstWeights ({ frames := 0, cells := 0, slots := 0, locals := 0 })).room).frames := Nat.le_of_ble_eq_true rfl
  have hRl : 0 ≤ ((headSpec wsX0_makeFirstWeights ({ frames := 0, cells := 0, slots := 0, locals := 0 })).room).locals := Nat.le_of_ble_eq_true rfl
  have hl := lv_entry ([.ref (ad 0)]) (n := 5) (Nat.le_of_ble_eq_true rfl)
  rw [lg_entry_eq]
  generalize (lg_sl ([.ref (ad 0)]) ++ List.replicate (5 - (lg_sl ([.ref (ad 0)])).length) Slot.unset).toArray = ls at hl ⊢
  have hl : lv_has ls 5 [(0, .ref (ad 0))] := hl
  refine lv_iconst (v := nI 0) hx hb dX0_makeFirstWeights_0 (by decide +kernel) ?_
  refine lv_istore_n (lv' := [(1, .int (nI (0))), (0, .ref (ad 0))]) hx hb dX0_makeFirstWeights_1 rfl hl (by decide) rfl (fun ls hl => ?_)
  refine lp_X0_makeFirstWeights2 hx hb hml hts hown hK hap hRf hRl κ hF hmb (fun H locs ls hP hS hl => ?_) (16 + 1) 0 _ _ _ (by omega) (by omega) hP hS (lv_sub hl [0, 1] rfl)
  exact W.vret hx hb hr (fun t ht hW => ⟨⟨_, rfl, rfl, (wn_h ht hP)⟩, hS.F ht⟩) hS.2.2 dX0_makeFirstWeights_57
