/-! ===== the reference: writes ===== -/
set_option maxHeartbeats 4000000 in
set_option maxRecDepth 100000 in
theorem kX1_clear (l : Launch) (E : zE) (ad : Nat → Nat) (hap : apart 8 ad) (τ : SM) : Met l yX1_clear wsX1_clear ({ frames := 0, cells := 0, slots := 0, locals := 0 }) (va_Pc [.ref (ad 0)] (fun U => PM E ad τ U.heap ∧ zK E U)) (va_Qi (fun (r : Int32) (τ' : SM) => r = nI (mN τ) ∧ τ' = smN (smC τ 0) 0) (fun τ' t => PM E ad τ' t.heap) (aX 8 ad)) 0 0 (aX 8 ad) := by
  refine Met.ofW (cc := cX1_clear) (maxL := 2) (ret := some .int) (by decide) rfl ?_
  intro p e s m args below meth c s₁ B hml hv
  obtain ⟨rfl, hP, hK⟩ := hv
  have hx := B.exec
  have hb := B.bytes
  have hr := B.returns
  have hts := atoms_spec (ws := wsX1_clear) B.pre
  have hown : s.vm.findClass RX1 = some m.cls := findClass_of_methodNamed B.named
  have hlocks := B.notSynchronized
  have hS : va_S (aX 8 ad) s.heap s.heap [] := va_S.rf
  have hA : ∀ k, k < 8 → aX 8 ad (ad k) := fun k hk => ⟨k, hk, rfl⟩
  have hRf : 0 ≤ ((headSpec wsX1_clear ({ frames := 0, cells := 0, slots := 0, locals := 0 })).room).frames := Nat.le_of_ble_eq_true rfl
  have hRl : 0 ≤ ((headSpec wsX1_clear ({ frames := 0, cells := 0, slots := 0, locals := 0 })).room).locals := Nat.le_of_ble_eq_true rfl
  have hl := lv_entry ([.ref (ad 0)]) (n := 2) (Nat.le_of_ble_eq_true rfl)
  rw [lg_entry_eq]
  generalize (lg_sl ([.ref (ad 0)]) ++ List.replicate (2 - (lg_sl ([.ref (ad 0)])).length) Slot.unset).toArray = ls at hl ⊢
  have hl : lv_has ls 2 [(0, .ref (ad 0))] := hl
  refine lv_aload_n hx hb dX1_clear_0 rfl (lv_at hl 0 rfl) ?_
  refine lv_iconst (v := nI 0) hx hb dX1_clear_1 (by decide +kernel) ?_
  refine gmput hx hb hts innX1_clear hown hK hP hap hA hS 0 (by decide) (by decide +kernel) rfl rfl (v := .int (nI (0))) rfl rfl (by show 0 < (List.length _); exact Nat.le_of_ble_eq_true rfl) dX1_clear_2 (fun H locs hP hS => ?_)
  have hP := pm_c hP
  refine lv_aload_n hx hb dX1_clear_5 rfl (lv_at hl 0 rfl) ?_
  refine gm hx hb hts innX1_clear hown hK hP 2 (by decide) (by decide +kernel) rfl (v := .int (nI ((mN τ)))) rfl dX1_clear_6 ?_
  refine lv_istore_n (lv' := [(1, .int (nI ((mN τ)))), (0, .ref (ad 0))]) hx hb dX1_clear_9 rfl hl (by decide) rfl (fun ls hl => ?_)
  refine lv_aload_n hx hb dX1_clear_10 rfl (lv_at hl 1 rfl) ?_
  refine lv_iconst (v := nI 0) hx hb dX1_clear_11 (by decide +kernel) ?_
  refine gmput hx hb hts innX1_clear hown hK hP hap hA hS 2 (by decide) (by decide +kernel) rfl rfl (v := .int (nI (0))) rfl rfl (by show 2 < (List.length _); exact Nat.le_of_ble_eq_true rfl) dX1_clear_12 (fun H locs hP hS => ?_)
  have hP := pm_n hP
  refine lv_iload_n hx hb dX1_clear_15 rfl (lv_at hl 0 rfl) ?_
  exact W.iret hx hb hr (fun t ht hW => ⟨⟨_, _, rfl, ⟨rfl, rfl⟩, (wn_h ht hP)⟩, hS.F ht⟩) hS.2.2 dX1_clear_16
def mgQ (τ : SM) (x r : Int32) (τ' : SM) : Prop := (∃ j : Nat, j < 100001 ∧ x = nI j ∧ r = nI (mMg τ) ∧ τ' = smMg (smC τ 0) j) ∨ ((∀ j : Nat, j < 100001 → x ≠ nI j) ∧ r = -12 ∧ τ' = smC τ 0)
set_option maxHeartbeats 4000000 in
set_option maxRecDepth 100000 in
theorem kX1_margin (l : Launch) (E : zE) (ad : Nat → Nat) (hap : apart 8 ad) (τ : SM) (x : Int32) : Met l yX1_margin wsX1_margin ({ frames := 0, cells := 0, slots := 0, locals := 0 }) (va_Pc [.ref (ad 0), .int (x)] (fun U => PM E ad τ U.heap ∧ zK E U)) (va_Qi (fun (r : Int32) (τ' : SM) => mgQ τ x r τ') (fun τ' t => PM E ad τ' t.heap) (aX 8 ad)) 0 0 (aX 8 ad) := by
  refine Met.ofW (cc := cX1_margin) (maxL := 3) (ret := some .int) (by decide) rfl ?_
  intro p e s m args below meth c s₁ B hml hv
  obtain ⟨rfl, hP, hK⟩ := hv
  have hx := B.exec
  have hb := B.bytes
  have hr := B.returns
  have hts := atoms_spec (ws := wsX1_margin) B.pre
  have hown : s.vm.findClass RX1 = some m.cls := findClass_of_methodNamed B.named
  have hlocks := B.notSynchronized
  have hS : va_S (aX 8 ad) s.heap s.heap [] := va_S.rf
  have hA : ∀ k, k < 8 → aX 8 ad (ad k) := fun k hk => ⟨k, hk, rfl⟩
  have hRf : 0 ≤ ((headSpec wsX1_margin ({ frames := 0, cells := 0, slots := 0, locals := 0 })).room).frames := Nat.le_of_ble_eq_true rfl
  have hRl : 0 ≤ ((headSpec wsX1_margin ({ frames := 0, cells := 0, slots := 0, locals := 0 })).room).locals := Nat.le_of_ble_eq_true rfl
  have hl := lv_entry ([.ref (ad 0), .int (x)]) (n := 3) (Nat.le_of_ble_eq_true rfl)
  rw [lg_entry_eq]
  generalize (lg_sl ([.ref (ad 0), .int (x)]) ++ List.replicate (3 - (lg_sl ([.ref (ad 0), .int (x)])).length) Slot.unset).toArray = ls at hl ⊢
  have hl : lv_has ls 3 [(0, .ref (ad 0)), (1, .int (x))] := hl
  refine lv_aload_n hx hb dX1_margin_0 rfl (lv_at hl 0 rfl) ?_
  refine lv_iconst (v := nI 0) hx hb dX1_margin_1 (by decide +kernel) ?_
  refine gmput hx hb hts innX1_margin hown hK hP hap hA hS 0 (by decide) (by decide +kernel) rfl rfl (v := .int (nI (0))) rfl rfl (by show 0 < (List.length _); exact Nat.le_of_ble_eq_true rfl) dX1_margin_2 (fun H locs hP hS => ?_)
  have hP := pm_c hP
  refine lv_iload_n hx hb dX1_margin_5 rfl (lv_at hl 1 rfl) ?_
  refine lv_if_lt (tgt := 15) hx hb dX1_margin_6 (by decide) (fun h => ?_) (fun h => ?_)
  · refine lv_bipush (v := -12) hx hb dX1_margin_15 (by decide +kernel) ?_
    exact W.iret hx hb hr (fun t ht hW => ⟨⟨_, _, rfl, Or.inr ⟨fun j hj e => nI_pos (show j < 2 ^ 31 by omega) (e ▸ h), rfl, rfl⟩, (wn_h ht hP)⟩, hS.F ht⟩) hS.2.2 dX1_margin_17
  · refine lv_iload_n hx hb dX1_margin_9 rfl (lv_at hl 1 rfl) ?_
    refine lv_ldc (v := nI 100000) hx hb hown (hts (.constant RX1 87 (nI 100000)) (by decide +kernel)) dX1_margin_10 ?_
    refine lv_icmp_le (tgt := 18) hx hb dX1_margin_12 (by decide) (fun h2 => ?_) (fun h2 => ?_)
    · obtain ⟨j, hj, rfl⟩ : ∃ j : Nat, j < 100001 ∧ x = nI j := by
        rcases pk_ix x (n := 100001) (by decide) with q | q | ⟨j, hj, e⟩
        · exact absurd q h
        · have q1 := Int32.le_trans q h2; exact absurd q1 (by decide)
        · exact ⟨j, hj, e⟩
      refine lv_aload_n hx hb dX1_margin_18 rfl (lv_at hl 0 rfl) ?_
      refine gm hx hb hts innX1_margin hown hK hP 11 (by decide) (by decide +kernel) rfl (v := .int (nI ((mMg τ)))) rfl dX1_margin_19 ?_
      refine lv_istore_n (lv' := [(2, .int (nI ((mMg τ)))), (0, .ref (ad 0)), (1, .int (nI (j)))]) hx hb dX1_margin_22 rfl hl (by decide) rfl (fun ls hl => ?_)
      refine lv_aload_n hx hb dX1_margin_23 rfl (lv_at hl 1 rfl) ?_
      refine lv_iload_n hx hb dX1_margin_24 rfl (lv_at hl 2 rfl) ?_
      refine gmput hx hb hts innX1_margin hown hK hP hap hA hS 11 (by decide) (by decide +kernel) rfl rfl (v := .int (nI (j))) rfl rfl (by show 11 < (List.length _); exact Nat.le_of_ble_eq_true rfl) dX1_margin_25 (fun H locs hP hS => ?_)
      have hP := pm_mg hP
      refine lv_iload_n hx hb dX1_margin_28 rfl (lv_at hl 0 rfl) ?_
      exact W.iret hx hb hr (fun t ht hW => ⟨⟨_, _, rfl, Or.inl ⟨j, hj, rfl, rfl, rfl⟩, (wn_h ht hP)⟩, hS.F ht⟩) hS.2.2 dX1_margin_29
    · refine lv_bipush (v := -12) hx hb dX1_margin_15 (by decide +kernel) ?_
      exact W.iret hx hb hr (fun t ht hW => ⟨⟨_, _, rfl, Or.inr ⟨fun j hj e => h2 (by rw [e]; exact nI_le (by omega) (by decide)), rfl, rfl⟩, (wn_h ht hP)⟩, hS.F ht⟩) hS.2.2 dX1_margin_17
set_option maxHeartbeats 4000000 in
set_option maxRecDepth 100000 in
theorem lp_X1_example {p : Program} {l : Launch} {e : Env} {R : Room} {s : State} {m : MethodId} {args : Array Value} {below : List Frame} {meth : Method} {c : Code} {Q : State → Prop} {E : zE} {ad : Nat → Nat} (hx : p.tables.exec = Jvm.exec) (hb : c.code = cX1_example) (hml : c.maxLocals = 3) (hts : ∀ w ∈ wsX1_example, w.before args s = true) (hown : s.vm.findClass RX1 = some m.cls) (hK : zK E s) (hap : apart 8 ad) {H0 : Heap} (hRf : 0 ≤ R.frames) (hRl : 0 ≤ R.locals) (τ : SM) (hN : mN τ ≤ 40) (c9 : Nat) (hN1 : mN τ < 40)
    (exit : ∀ (H : Heap) (locs : List Loc) (ls : Array Slot), PM E ad (smVl (smCl (smC τ (0)) (va_up (mCl τ) (mN τ) c9)) (fl (mVl τ) (16 * mN τ) (fun _ => 0) 16)) H → va_S (aX 8 ad) H0 H locs → lv_has ls 3 [(0, .ref (ad 0))] → W p l e R s m args below meth c H locs 0 0 Q (F0 m 69 ls [])) :
    ∀ (n j : Nat) (H : Heap) (locs : List Loc) (ls : Array Slot), j ≤ 16 → 16 - j < n → PM E ad (smVl (smCl (smC τ (0)) (va_up (mCl τ) (mN τ) c9)) (fl (mVl τ) (16 * mN τ) (fun _ => 0) j)) H → va_S (aX 8 ad) H0 H locs → lv_has ls 3 [(2, .int (nI (j))), (0, .ref (ad 0))] → W p l e R s m args below meth c H locs 0 0 Q (F0 m 42 ls []) := by
  have hA : ∀ k, k < 8 → aX 8 ad (ad k) := fun k hk => ⟨k, hk, rfl⟩
  intro n
  induction n with
  | zero => intro j H locs ls h1 h2; omega
  | succ n ih =>
    intro j H locs ls hi hn hP hS hl
    refine lv_iload_n hx hb dX1_example_42 rfl (lv_at hl 0 rfl) ?_
    refine lv_bipush (v := nI 16) hx hb dX1_example_43 (by decide +kernel) ?_
    refine zb_ge (tgt := 69) hx hb (show j < 2 ^ 31 by omega) (show 16 < 2 ^ 31 by omega) dX1_example_45 (by decide) (fun h => ?_) (fun h => ?_)
    · have h : 16 ≤ j := h
      have hend : j = 16 := by omega
      subst hend
      exact exit _ _ _ hP hS (lv_sub hl [1] rfl)
    · have h : j < 16 := h
      refine lv_aload_n hx hb dX1_example_48 rfl (lv_at hl 1 rfl) ?_
      refine gm hx hb hts innX1_example hown hK hP 4 (by decide) (by decide +kernel) rfl (v := .ref (ad 2)) rfl dX1_example_49 ?_
      refine lv_bipush (v := nI 16) hx hb dX1_example_52 (by decide +kernel) ?_
      refine lv_aload_n hx hb dX1_example_54 rfl (lv_at hl 1 rfl) ?_
      refine gm hx hb hts innX1_example hown hK hP 2 (by decide) (by decide +kernel) rfl (v := .int (nI ((mN τ)))) rfl dX1_example_55 ?_
      refine zv_imul (v := (nI (16 * (mN τ)))) hx hb dX1_example_58 (pk_mul _ _) ?_
      refine lv_iload_n hx hb dX1_example_59 rfl (lv_at hl 0 rfl) ?_
      refine zv_iadd (v := (nI ((16 * (mN τ)) + j))) hx hb dX1_example_60 (nI_add _ _) ?_
      refine lv_iconst (v := nI 0) hx hb dX1_example_61 (by decide +kernel) ?_
      refine z_iast hx hb hK hP hap hA hS 2 (by decide) cm_vl (show (16 * (mN τ)) + j < 640 by omega) (by decide) dX1_example_62 (fun H locs hP hS => ?_)
      have hP := pm_vl hP
      refine lv_iinc (v := nI (j + 1)) (lv' := [(2, .int (nI (j + 1))), (0, .ref (ad 0))]) hx hb dX1_example_63 hl (k := 0) rfl (nI_1 _) (by decide) rfl (fun ls hl => ?_)
      refine lv_goto (tgt := 42) hx hb dX1_example_66 (by decide) ?_
      exact ih (j + 1) _ _ _ (by omega) (by omega) hP hS (lv_sub hl [0, 1] rfl)
set_option maxHeartbeats 4000000 in
set_option maxRecDepth 100000 in
theorem kX1_example (l : Launch) (E : zE) (ad : Nat → Nat) (hap : apart 8 ad) (τ : SM) (x : Int32) (hN : mN τ ≤ 40) : Met l yX1_example wsX1_example ({ frames := 0, cells := 0, slots := 0, locals := 0 }) (va_Pc [.ref (ad 0), .int (x)] (fun U => PM E ad τ U.heap ∧ zK E U)) (va_Qi (fun (r : Int32) (τ' : SM) => exQ τ x r τ') (fun τ' t => PM E ad τ' t.heap) (aX 8 ad)) 0 0 (aX 8 ad) := by
  refine Met.ofW (cc := cX1_example) (maxL := 3) (ret := some .int) (by decide) rfl ?_
  intro p e s m args below meth c s₁ B hml hv
  obtain ⟨rfl, hP, hK⟩ := hv
  have hx := B.exec
  have hb := B.bytes
  have hr := B.returns
  have hts := atoms_spec (ws := wsX1_example) B.pre
  have hown : s.vm.findClass RX1 = some m.cls := findClass_of_methodNamed B.named
  have hlocks := B.notSynchronized
  have hS : va_S (aX 8 ad) s.heap s.heap [] := va_S.rf
  have hA : ∀ k, k < 8 → aX 8 ad (ad k) := fun k hk => ⟨k, hk, rfl⟩
  have hRf : 0 ≤ ((headSpec wsX1_example ({ frames := 0, cells := 0, slots := 0, locals := 0 })).room).frames := Nat.le_of_ble_eq_true rfl
  have hRl : 0 ≤ ((headSpec wsX1_example ({ frames := 0, cells := 0, slots := 0, locals := 0 })).room).locals := Nat.le_of_ble_eq_true rfl
  have hl := lv_entry ([.ref (ad 0), .int (x)]) (n := 3) (Nat.le_of_ble_eq_true rfl)
  rw [lg_entry_eq]
  generalize (lg_sl ([.ref (ad 0), .int (x)]) ++ List.replicate (3 - (lg_sl ([.ref (ad 0), .int (x)])).length) Slot.unset).toArray = ls at hl ⊢
  have hl : lv_has ls 3 [(0, .ref (ad 0)), (1, .int (x))] := hl
  refine lv_aload_n hx hb dX1_example_0 rfl (lv_at hl 0 rfl) ?_
  refine lv_iconst (v := nI 0) hx hb dX1_example_1 (by decide +kernel) ?_
  refine gmput hx hb hts innX1_example hown hK hP hap hA hS 0 (by decide) (by decide +kernel) rfl rfl (v := .int (nI (0))) rfl rfl (by show 0 < (List.length _); exact Nat.le_of_ble_eq_true rfl) dX1_example_2 (fun H locs hP hS => ?_)
  have hP := pm_c hP
  refine lv_iload_n hx hb dX1_example_5 rfl (lv_at hl 1 rfl) ?_
  refine lv_if_lt (tgt := 15) hx hb dX1_example_6 (by decide) (fun h => ?_) (fun h => ?_)
  · refine lv_bipush (v := -12) hx hb dX1_example_15 (by decide +kernel) ?_
    exact W.iret hx hb hr (fun t ht hW => ⟨⟨_, _, rfl, Or.inr ⟨fun j hj e => nI_pos (show j < 2 ^ 31 by omega) (e ▸ h), rfl, rfl⟩, (wn_h ht hP)⟩, hS.F ht⟩) hS.2.2 dX1_example_17
  · refine lv_iload_n hx hb dX1_example_9 rfl (lv_at hl 1 rfl) ?_
    refine lv_bipush (v := nI 15) hx hb dX1_example_10 (by decide +kernel) ?_
    refine lv_icmp_le (tgt := 18) hx hb dX1_example_12 (by decide) (fun h2 => ?_) (fun h2 => ?_)
    · obtain ⟨c9, hc, rfl⟩ : ∃ j : Nat, j < 16 ∧ x = nI j := by
        rcases pk_ix x (n := 16) (by decide) with q | q | ⟨j, hj, e⟩
        · exact absurd q h
        · have q1 := Int32.le_trans q h2; exact absurd q1 (by decide)
        · exact ⟨j, hj, e⟩
      refine lv_aload_n hx hb dX1_example_18 rfl (lv_at hl 0 rfl) ?_
      refine gm hx hb hts innX1_example hown hK hP 2 (by decide) (by decide +kernel) rfl (v := .int (nI ((mN τ)))) rfl dX1_example_19 ?_
      refine lv_bipush (v := nI 40) hx hb dX1_example_22 (by decide +kernel) ?_
      refine zb_ne (tgt := 30) hx hb (show (mN τ) < 2 ^ 31 by omega) (show 40 < 2 ^ 31 by omega) dX1_example_24 (by decide) (fun h3 => ?_) (fun h3 => ?_)
      · have h3 : (mN τ) ≠ 40 := h3
        have h5 : mN τ < 40 := by omega
        refine lv_aload_n hx hb dX1_example_30 rfl (lv_at hl 0 rfl) ?_
        refine gm hx hb hts innX1_example hown hK hP 3 (by decide) (by decide +kernel) rfl (v := .ref (ad 1)) rfl dX1_example_31 ?_
        refine lv_aload_n hx hb dX1_example_34 rfl (lv_at hl 0 rfl) ?_
        refine gm hx hb hts innX1_example hown hK hP 2 (by decide) (by decide +kernel) rfl (v := .int (nI ((mN τ)))) rfl dX1_example_35 ?_
        refine lv_iload_n hx hb dX1_example_38 rfl (lv_at hl 1 rfl) ?_
        refine z_iast hx hb hK hP hap hA hS 1 (by decide) cm_cl (show (mN τ) < 40 by omega) (by decide) dX1_example_39 (fun H locs hP hS => ?_)
        have hP := pm_cl hP
        refine lv_iconst (v := nI 0) hx hb dX1_example_40 (by decide +kernel) ?_
        refine lv_istore_n (lv' := [(2, .int (nI (0))), (0, .ref (ad 0)), (1, .int (nI (c9)))]) hx hb dX1_example_41 rfl hl (by decide) rfl (fun ls hl => ?_)
        refine lp_X1_example hx hb hml hts hown hK hap hRf hRl τ hN c9 h5 (fun H locs ls hP hS hl => ?_) (16 + 1) 0 _ _ _ (by omega) (by omega) hP hS (lv_sub hl [0, 1] rfl)
        refine lv_aload_n hx hb dX1_example_69 rfl (lv_at hl 0 rfl) ?_
        refine lv_dup hx hb dX1_example_70 rfl ?_
        refine gm hx hb hts innX1_example hown hK hP 2 (by decide) (by decide +kernel) rfl (v := .int (nI ((mN τ)))) rfl dX1_example_71 ?_
        refine lv_iconst (v := nI 1) hx hb dX1_example_74 (by decide +kernel) ?_
        refine zv_iadd (v := (nI ((mN τ) + 1))) hx hb dX1_example_75 (nI_add _ _) ?_
        refine gmput hx hb hts innX1_example hown hK hP hap hA hS 2 (by decide) (by decide +kernel) rfl rfl (v := .int (nI ((mN τ) + 1))) rfl rfl (by show 2 < (List.length _); exact Nat.le_of_ble_eq_true rfl) dX1_example_76 (fun H locs hP hS => ?_)
        have hP := pm_n hP
        refine lv_aload_n hx hb dX1_example_79 rfl (lv_at hl 0 rfl) ?_
        refine gm hx hb hts innX1_example hown hK hP 2 (by decide) (by decide +kernel) rfl (v := .int (nI (((mN τ) + 1)))) rfl dX1_example_80 ?_
        refine lv_iconst (v := nI 1) hx hb dX1_example_83 (by decide +kernel) ?_
        refine zv_isub (v := nI ((mN τ))) hx hb dX1_example_84 (nI_pred _) ?_
        exact W.iret hx hb hr (fun t ht hW => ⟨⟨_, (addM τ c9), rfl, Or.inl ⟨c9, hc, rfl, Or.inr ⟨h3, rfl, rfl⟩⟩, (wn_h ht hP)⟩, hS.F ht⟩) hS.2.2 dX1_example_85
      · have h3 : (mN τ) = 40 := h3
        refine lv_bipush (v := -14) hx hb dX1_example_27 (by decide +kernel) ?_
        exact W.iret hx hb hr (fun t ht hW => ⟨⟨_, _, rfl, Or.inl ⟨c9, hc, rfl, Or.inl ⟨h3, rfl, rfl⟩⟩, (wn_h ht hP)⟩, hS.F ht⟩) hS.2.2 dX1_example_29
    · refine lv_bipush (v := -12) hx hb dX1_example_15 (by decide +kernel) ?_
      exact W.iret hx hb hr (fun t ht hW => ⟨⟨_, _, rfl, Or.inr ⟨fun j hj e => h2 (by rw [e]; exact nI_le (by omega) (by decide)), rfl, rfl⟩, (wn_h ht hP)⟩, hS.F ht⟩) hS.2.2 dX1_example_17
def ftO (τ : SM) (x y : Int32) : Prop := ∃ i j : Nat, i < mN τ ∧ j < mF τ ∧ x = nI i ∧ y = nI j
def ftQ (τ : SM) (x y z : Int32) (τ' : SM) : Prop := (∃ i j : Nat, i < mN τ ∧ j < mF τ ∧ x = nI i ∧ y = nI j ∧ τ' = smVl (smC τ 0) (va_up (mVl τ) (16 * i + j) (lbN z))) ∨ ((¬ ftO τ x y) ∧ τ' = smC τ 1)
set_option maxHeartbeats 4000000 in
set_option maxRecDepth 100000 in
theorem kX1_feature (l : Launch) (E : zE) (ad : Nat → Nat) (hap : apart 8 ad) (τ : SM) (x y z : Int32) (hF : mF τ ≤ 16) (hN : mN τ ≤ 40) : Met l yX1_feature wsX1_feature ({ frames := 1, cells := 0, slots := 0, locals := 21 }) (va_Pc [.ref (ad 0), .int (x), .int (y), .int (z)] (fun U => PM E ad τ U.heap ∧ zK E U)) (va_Qv (fun τ' : SM => ftQ τ x y z τ') (fun τ' t => PM E ad τ' t.heap) (aX 8 ad)) 0 0 (aX 8 ad) := by
  refine Met.ofW (cc := cX1_feature) (maxL := 4) (ret := none) (by decide) rfl ?_
  intro p e s m args below meth c s₁ B hml hv
  obtain ⟨rfl, hP, hK⟩ := hv
  have hx := B.exec
  have hb := B.bytes
  have hr := B.returns
  have hts := atoms_spec (ws := wsX1_feature) B.pre
  have hown : s.vm.findClass RX1 = some m.cls := findClass_of_methodNamed B.named
  have hlocks := B.notSynchronized
  have hS : va_S (aX 8 ad) s.heap s.heap [] := va_S.rf
  have hA : ∀ k, k < 8 → aX 8 ad (ad k) := fun k hk => ⟨k, hk, rfl⟩
  have hRf : 1 ≤ ((headSpec wsX1_feature ({ frames := 1, cells := 0, slots := 0, locals := 21 })).room).frames := Nat.le_of_ble_eq_true rfl
  have hRl : 21 ≤ ((headSpec wsX1_feature ({ frames := 1, cells := 0, slots := 0, locals := 21 })).room).locals := Nat.le_of_ble_eq_true rfl
  have hl := lv_entry ([.ref (ad 0), .int (x), .int (y), .int (z)]) (n := 4) (Nat.le_of_ble_eq_true rfl)
  rw [lg_entry_eq]
  generalize (lg_sl ([.ref (ad 0), .int (x), .int (y), .int (z)]) ++ List.replicate (4 - (lg_sl ([.ref (ad 0), .int (x), .int (y), .int (z)])).length) Slot.unset).toArray = ls at hl ⊢
  have hl : lv_has ls 4 [(0, .ref (ad 0)), (1, .int (x)), (2, .int (y)), (3, .int (z))] := hl
  refine lv_aload_n hx hb dX1_feature_0 rfl (lv_at hl 0 rfl) ?_
  refine lv_iload_n hx hb dX1_feature_1 rfl (lv_at hl 1 rfl) ?_
  refine lv_if_lt (tgt := 21) hx hb dX1_feature_2 (by decide) (fun h => ?_) (fun h => ?_)
  · refine lv_iconst (v := nI 1) hx hb dX1_feature_21 (by decide +kernel) ?_
    refine lv_goto (tgt := 26) hx hb dX1_feature_22 (by decide) ?_
    refine gmput hx hb hts innX1_feature hown hK hP hap hA hS 0 (by decide) (by decide +kernel) rfl rfl (v := .int (nI (1))) rfl rfl (by show 0 < (List.length _); exact Nat.le_of_ble_eq_true rfl) dX1_feature_26 (fun H locs hP hS => ?_)
    have hP := pm_c hP
    refine lv_aload_n hx hb dX1_feature_29 rfl (lv_at hl 0 rfl) ?_
    refine gm hx hb hts innX1_feature hown hK hP 0 (by decide) (by decide +kernel) rfl (v := .int (nI ((1)))) rfl dX1_feature_30 ?_
    refine zu_ne (tgt := 52) hx hb (show (1) < 2 ^ 31 by omega) dX1_feature_33 (by decide) (fun h4 => ?_) (fun h4 => ?_)
    · have h4 : 0 < (1) := h4
      exact W.vret hx hb hr (fun t ht hW => ⟨⟨_, rfl, Or.inr ⟨fun ⟨i, j, h1, _, h3, _⟩ => nI_pos (show i < 2 ^ 31 by omega) (h3 ▸ h), rfl⟩, (wn_h ht hP)⟩, hS.F ht⟩) hS.2.2 dX1_feature_52
    · have h4 : (1) = 0 := h4
      exact absurd h4 (by decide)
  · refine lv_iload_n hx hb dX1_feature_5 rfl (lv_at hl 1 rfl) ?_
    refine lv_aload_n hx hb dX1_feature_6 rfl (lv_at hl 0 rfl) ?_
    refine gm hx hb hts innX1_feature hown hK hP 2 (by decide) (by decide +kernel) rfl (v := .int (nI ((mN τ)))) rfl dX1_feature_7 ?_
    refine lv_icmp_ge (tgt := 21) hx hb dX1_feature_10 (by decide) (fun h2 => ?_) (fun h2 => ?_)
    · refine lv_iconst (v := nI 1) hx hb dX1_feature_21 (by decide +kernel) ?_
      refine lv_goto (tgt := 26) hx hb dX1_feature_22 (by decide) ?_
      refine gmput hx hb hts innX1_feature hown hK hP hap hA hS 0 (by decide) (by decide +kernel) rfl rfl (v := .int (nI (1))) rfl rfl (by show 0 < (List.length _); exact Nat.le_of_ble_eq_true rfl) dX1_feature_26 (fun H locs hP hS => ?_)
      have hP := pm_c hP
      refine lv_aload_n hx hb dX1_feature_29 rfl (lv_at hl 0 rfl) ?_
      refine gm hx hb hts innX1_feature hown hK hP 0 (by decide) (by decide +kernel) rfl (v := .int (nI ((1)))) rfl dX1_feature_30 ?_
      refine zu_ne (tgt := 52) hx hb (show (1) < 2 ^ 31 by omega) dX1_feature_33 (by decide) (fun h4 => ?_) (fun h4 => ?_)
      · have h4 : 0 < (1) := h4
        exact W.vret hx hb hr (fun t ht hW => ⟨⟨_, rfl, Or.inr ⟨fun ⟨i, j, h1, _, h3, _⟩ => nI_ge h1 (by omega) (h3 ▸ h2), rfl⟩, (wn_h ht hP)⟩, hS.F ht⟩) hS.2.2 dX1_feature_52
      · have h4 : (1) = 0 := h4
        exact absurd h4 (by decide)
    · obtain ⟨i, hi, rfl⟩ := (pk_ix x (n := mN τ) (by omega)).resolve_left h |>.resolve_left h2
      refine lv_aload_n hx hb dX1_feature_13 rfl (lv_at hl 0 rfl) ?_
      refine lv_iload_n hx hb dX1_feature_14 rfl (lv_at hl 2 rfl) ?_
      refine va_calli (va_runV (As := [.int (y)]) (rest := [.ref (ad 0)]) ⟨hx, hb, hml, hown, hts⟩ (kX1_isFeature l E ad hap τ y hF) (cwV 1 hts gX1_feature_X1_isFeature rfl rfl rfl (by decide +kernel) ⟨Nat.le_trans (Nat.le_of_ble_eq_true rfl) hRf, Nat.le_trans (Nat.le_of_ble_eq_true rfl) hRl⟩) (zpm hK hP) rfl rfl hl.1 rfl (lv_room (Nat.le_of_ble_eq_true rfl)) dX1_feature_15 ⟨Nat.zero_le _, Nat.zero_le _⟩) hS (fun q _ h => h.elim) (fun q h => h.elim) (fun r u9 t9 H locs ht9 hvm9 hw9 hB9 hz9 hk9 hS => ?_)
      have hP := wn_ro hP hk9
      rcases hw9 with ⟨j, hj, rfl, rfl⟩ | ⟨hno, rfl⟩
      · refine zu_ne (tgt := 25) hx hb (show 1 < 2 ^ 31 by omega) dX1_feature_18 (by decide) (fun h3 => ?_) (fun h3 => ?_)
        · have h3 : 0 < 1 := h3
          refine lv_iconst (v := nI 0) hx hb dX1_feature_25 (by decide +kernel) ?_
          refine gmput hx hb hts innX1_feature hown hK hP hap hA hS 0 (by decide) (by decide +kernel) rfl rfl (v := .int (nI (0))) rfl rfl (by show 0 < (List.length _); exact Nat.le_of_ble_eq_true rfl) dX1_feature_26 (fun H locs hP hS => ?_)
          have hP := pm_c hP
          refine lv_aload_n hx hb dX1_feature_29 rfl (lv_at hl 0 rfl) ?_
          refine gm hx hb hts innX1_feature hown hK hP 0 (by decide) (by decide +kernel) rfl (v := .int (nI ((0)))) rfl dX1_feature_30 ?_
          refine zu_ne (tgt := 52) hx hb (show (0) < 2 ^ 31 by omega) dX1_feature_33 (by decide) (fun h4 => ?_) (fun h4 => ?_)
          · have h4 : 0 < (0) := h4
            exact absurd h4 (by decide)
          · have h4 : (0) = 0 := h4
            refine lv_aload_n hx hb dX1_feature_36 rfl (lv_at hl 0 rfl) ?_
            refine gm hx hb hts innX1_feature hown hK hP 4 (by decide) (by decide +kernel) rfl (v := .ref (ad 2)) rfl dX1_feature_37 ?_
            refine lv_bipush (v := nI 16) hx hb dX1_feature_40 (by decide +kernel) ?_
            refine lv_iload_n hx hb dX1_feature_42 rfl (lv_at hl 1 rfl) ?_
            refine zv_imul (v := (nI (16 * i))) hx hb dX1_feature_43 (pk_mul _ _) ?_
            refine lv_iload_n hx hb dX1_feature_44 rfl (lv_at hl 2 rfl) ?_
            refine zv_iadd (v := (nI ((16 * i) + j))) hx hb dX1_feature_45 (nI_add _ _) ?_
            refine lv_iload_n hx hb dX1_feature_46 rfl (lv_at hl 3 rfl) ?_
            refine lv_sipush (v := nI 255) hx hb dX1_feature_47 (by decide +kernel) ?_
            refine zv_iand (v := nI (lbN (z))) hx hb dX1_feature_50 (lbN_eq _) ?_
            refine z_iast hx hb hK hP hap hA hS 2 (by decide) cm_vl (show (16 * i) + j < 640 by omega) (by decide) dX1_feature_51 (fun H locs hP hS => ?_)
            have hP := pm_vl hP
            exact W.vret hx hb hr (fun t ht hW => ⟨⟨_, rfl, Or.inl ⟨i, j, hi, hj, rfl, rfl, rfl⟩, (wn_h ht hP)⟩, hS.F ht⟩) hS.2.2 dX1_feature_52
        · have h3 : 1 = 0 := h3
          exact absurd h3 (by decide)
      · refine zu_ne (tgt := 25) hx hb (show 0 < 2 ^ 31 by omega) dX1_feature_18 (by decide) (fun h3 => ?_) (fun h3 => ?_)
        · have h3 : 0 < 0 := h3
          exact absurd h3 (by decide)
        · have h3 : 0 = 0 := h3
          refine lv_iconst (v := nI 1) hx hb dX1_feature_21 (by decide +kernel) ?_
          refine lv_goto (tgt := 26) hx hb dX1_feature_22 (by decide) ?_
          refine gmput hx hb hts innX1_feature hown hK hP hap hA hS 0 (by decide) (by decide +kernel) rfl rfl (v := .int (nI (1))) rfl rfl (by show 0 < (List.length _); exact Nat.le_of_ble_eq_true rfl) dX1_feature_26 (fun H locs hP hS => ?_)
          have hP := pm_c hP
          refine lv_aload_n hx hb dX1_feature_29 rfl (lv_at hl 0 rfl) ?_
          refine gm hx hb hts innX1_feature hown hK hP 0 (by decide) (by decide +kernel) rfl (v := .int (nI ((1)))) rfl dX1_feature_30 ?_
          refine zu_ne (tgt := 52) hx hb (show (1) < 2 ^ 31 by omega) dX1_feature_33 (by decide) (fun h4 => ?_) (fun h4 => ?_)
          · have h4 : 0 < (1) := h4
            exact W.vret hx hb hr (fun t ht hW => ⟨⟨_, rfl, Or.inr ⟨fun ⟨_, j, _, h6, _, h7⟩ => hno j h6 h7, rfl⟩, (wn_h ht hP)⟩, hS.F ht⟩) hS.2.2 dX1_feature_52
          · have h4 : (1) = 0 := h4
            exact absurd h4 (by decide)
def sgQ (τ : SM) (x z : Int32) (τ' : SM) : Prop := (∃ j : Nat, j < mF τ ∧ x = nI j ∧ τ' = smSg (smC τ 0) (va_up (mSg τ) j (lbN z))) ∨ ((¬ ∃ j : Nat, j < mF τ ∧ x = nI j) ∧ τ' = smC τ 1)
set_option maxHeartbeats 4000000 in
set_option maxRecDepth 100000 in
theorem kX1_sign (l : Launch) (E : zE) (ad : Nat → Nat) (hap : apart 8 ad) (τ : SM) (x z : Int32) (hF : mF τ ≤ 16) : Met l yX1_sign wsX1_sign ({ frames := 1, cells := 0, slots := 0, locals := 21 }) (va_Pc [.ref (ad 0), .int (x), .int (z)] (fun U => PM E ad τ U.heap ∧ zK E U)) (va_Qv (fun τ' : SM => sgQ τ x z τ') (fun τ' t => PM E ad τ' t.heap) (aX 8 ad)) 0 0 (aX 8 ad) := by
  refine Met.ofW (cc := cX1_sign) (maxL := 3) (ret := none) (by decide) rfl ?_
  intro p e s m args below meth c s₁ B hml hv
  obtain ⟨rfl, hP, hK⟩ := hv
  have hx := B.exec
  have hb := B.bytes
  have hr := B.returns
  have hts := atoms_spec (ws := wsX1_sign) B.pre
  have hown : s.vm.findClass RX1 = some m.cls := findClass_of_methodNamed B.named
  have hlocks := B.notSynchronized
  have hS : va_S (aX 8 ad) s.heap s.heap [] := va_S.rf
  have hA : ∀ k, k < 8 → aX 8 ad (ad k) := fun k hk => ⟨k, hk, rfl⟩
  have hRf : 1 ≤ ((headSpec wsX1_sign ({ frames := 1, cells := 0, slots := 0, locals := 21 })).room).frames := Nat.le_of_ble_eq_true rfl
  have hRl : 21 ≤ ((headSpec wsX1_sign ({ frames := 1, cells := 0, slots := 0, locals := 21 })).room).locals := Nat.le_of_ble_eq_true rfl
  have hl := lv_entry ([.ref (ad 0), .int (x), .int (z)]) (n := 3) (Nat.le_of_ble_eq_true rfl)
  rw [lg_entry_eq]
  generalize (lg_sl ([.ref (ad 0), .int (x), .int (z)]) ++ List.replicate (3 - (lg_sl ([.ref (ad 0), .int (x), .int (z)])).length) Slot.unset).toArray = ls at hl ⊢
  have hl : lv_has ls 3 [(0, .ref (ad 0)), (1, .int (x)), (2, .int (z))] := hl
  refine lv_aload_n hx hb dX1_sign_0 rfl (lv_at hl 0 rfl) ?_
  refine lv_aload_n hx hb dX1_sign_1 rfl (lv_at hl 0 rfl) ?_
  refine lv_iload_n hx hb dX1_sign_2 rfl (lv_at hl 1 rfl) ?_
  refine va_calli (va_runV (As := [.int (x)]) (rest := [.ref (ad 0)]) ⟨hx, hb, hml, hown, hts⟩ (kX1_isFeature l E ad hap τ x hF) (cwV 1 hts gX1_sign_X1_isFeature rfl rfl rfl (by decide +kernel) ⟨Nat.le_trans (Nat.le_of_ble_eq_true rfl) hRf, Nat.le_trans (Nat.le_of_ble_eq_true rfl) hRl⟩) (zpm hK hP) rfl rfl hl.1 rfl (lv_room (Nat.le_of_ble_eq_true rfl)) dX1_sign_3 ⟨Nat.zero_le _, Nat.zero_le _⟩) hS (fun q _ h => h.elim) (fun q h => h.elim) (fun r u9 t9 H locs ht9 hvm9 hw9 hB9 hz9 hk9 hS => ?_)
  have hP := wn_ro hP hk9
  rcases hw9 with ⟨j, hj, rfl, rfl⟩ | ⟨hno, rfl⟩
  · refine zu_eq (tgt := 13) hx hb (show 1 < 2 ^ 31 by omega) dX1_sign_6 (by decide) (fun h3 => ?_) (fun h3 => ?_)
    · have h3 : 1 = 0 := h3
      exact absurd h3 (by decide)
    · have h3 : 0 < 1 := h3
      refine lv_iconst (v := nI 0) hx hb dX1_sign_9 (by decide +kernel) ?_
      refine lv_goto (tgt := 14) hx hb dX1_sign_10 (by decide) ?_
      refine gmput hx hb hts innX1_sign hown hK hP hap hA hS 0 (by decide) (by decide +kernel) rfl rfl (v := .int (nI (0))) rfl rfl (by show 0 < (List.length _); exact Nat.le_of_ble_eq_true rfl) dX1_sign_14 (fun H locs hP hS => ?_)
      have hP := pm_c hP
      refine lv_aload_n hx hb dX1_sign_17 rfl (lv_at hl 0 rfl) ?_
      refine gm hx hb hts innX1_sign hown hK hP 0 (by decide) (by decide +kernel) rfl (v := .int (nI ((0)))) rfl dX1_sign_18 ?_
      refine zu_ne (tgt := 35) hx hb (show (0) < 2 ^ 31 by omega) dX1_sign_21 (by decide) (fun h4 => ?_) (fun h4 => ?_)
      · have h4 : 0 < (0) := h4
        exact absurd h4 (by decide)
      · have h4 : (0) = 0 := h4
        refine lv_aload_n hx hb dX1_sign_24 rfl (lv_at hl 0 rfl) ?_
        refine gm hx hb hts innX1_sign hown hK hP 5 (by decide) (by decide +kernel) rfl (v := .ref (ad 3)) rfl dX1_sign_25 ?_
        refine lv_iload_n hx hb dX1_sign_28 rfl (lv_at hl 1 rfl) ?_
        refine lv_iload_n hx hb dX1_sign_29 rfl (lv_at hl 2 rfl) ?_
        refine lv_sipush (v := nI 255) hx hb dX1_sign_30 (by decide +kernel) ?_
        refine zv_iand (v := nI (lbN (z))) hx hb dX1_sign_33 (lbN_eq _) ?_
        refine z_iast hx hb hK hP hap hA hS 3 (by decide) cm_sg (show j < 16 by omega) (by decide) dX1_sign_34 (fun H locs hP hS => ?_)
        have hP := pm_sg hP
        exact W.vret hx hb hr (fun t ht hW => ⟨⟨_, rfl, Or.inl ⟨j, hj, rfl, rfl⟩, (wn_h ht hP)⟩, hS.F ht⟩) hS.2.2 dX1_sign_35
  · refine zu_eq (tgt := 13) hx hb (show 0 < 2 ^ 31 by omega) dX1_sign_6 (by decide) (fun h3 => ?_) (fun h3 => ?_)
    · have h3 : 0 = 0 := h3
      refine lv_iconst (v := nI 1) hx hb dX1_sign_13 (by decide +kernel) ?_
      refine gmput hx hb hts innX1_sign hown hK hP hap hA hS 0 (by decide) (by decide +kernel) rfl rfl (v := .int (nI (1))) rfl rfl (by show 0 < (List.length _); exact Nat.le_of_ble_eq_true rfl) dX1_sign_14 (fun H locs hP hS => ?_)
      have hP := pm_c hP
      refine lv_aload_n hx hb dX1_sign_17 rfl (lv_at hl 0 rfl) ?_
      refine gm hx hb hts innX1_sign hown hK hP 0 (by decide) (by decide +kernel) rfl (v := .int (nI ((1)))) rfl dX1_sign_18 ?_
      refine zu_ne (tgt := 35) hx hb (show (1) < 2 ^ 31 by omega) dX1_sign_21 (by decide) (fun h4 => ?_) (fun h4 => ?_)
      · have h4 : 0 < (1) := h4
        exact W.vret hx hb hr (fun t ht hW => ⟨⟨_, rfl, Or.inr ⟨fun ⟨j, h6, h7⟩ => hno j h6 h7, rfl⟩, (wn_h ht hP)⟩, hS.F ht⟩) hS.2.2 dX1_sign_35
      · have h4 : (1) = 0 := h4
        exact absurd h4 (by decide)
    · have h3 : 0 < 0 := h3
      exact absurd h3 (by decide)
def cnQ (τ : SM) (x y r : Int32) : Prop := (∃ i j : Nat, i < 16 ∧ j < 16 ∧ x = nI i ∧ y = nI j ∧ r = nI (mCf τ (16 * i + j))) ∨ (((∀ j : Nat, j < 16 → x ≠ nI j) ∨ ∀ j : Nat, j < 16 → y ≠ nI j) ∧ r = -12)
set_option maxHeartbeats 4000000 in
set_option maxRecDepth 100000 in
theorem kX1_confused (l : Launch) (E : zE) (ad : Nat → Nat) (hap : apart 8 ad) (τ : SM) (x y : Int32) : Met l yX1_confused wsX1_confused ({ frames := 0, cells := 0, slots := 0, locals := 0 }) (va_Pc [.ref (ad 0), .int (x), .int (y)] (fun U => PM E ad τ U.heap ∧ zK E U)) (va_Qi (fun (r : Int32) (τ' : SM) => cnQ τ x y r ∧ τ' = smC τ 0) (fun τ' t => PM E ad τ' t.heap) (aX 8 ad)) 0 0 (aX 8 ad) := by
  refine Met.ofW (cc := cX1_confused) (maxL := 3) (ret := some .int) (by decide) rfl ?_
  intro p e s m args below meth c s₁ B hml hv
  obtain ⟨rfl, hP, hK⟩ := hv
  have hx := B.exec
  have hb := B.bytes
  have hr := B.returns
  have hts := atoms_spec (ws := wsX1_confused) B.pre
  have hown : s.vm.findClass RX1 = some m.cls := findClass_of_methodNamed B.named
  have hlocks := B.notSynchronized
  have hS : va_S (aX 8 ad) s.heap s.heap [] := va_S.rf
  have hA : ∀ k, k < 8 → aX 8 ad (ad k) := fun k hk => ⟨k, hk, rfl⟩
  have hRf : 0 ≤ ((headSpec wsX1_confused ({ frames := 0, cells := 0, slots := 0, locals := 0 })).room).frames := Nat.le_of_ble_eq_true rfl
  have hRl : 0 ≤ ((headSpec wsX1_confused ({ frames := 0, cells := 0, slots := 0, locals := 0 })).room).locals := Nat.le_of_ble_eq_true rfl
  have hl := lv_entry ([.ref (ad 0), .int (x), .int (y)]) (n := 3) (Nat.le_of_ble_eq_true rfl)
  rw [lg_entry_eq]
  generalize (lg_sl ([.ref (ad 0), .int (x), .int (y)]) ++ List.replicate (3 - (lg_sl ([.ref (ad 0), .int (x), .int (y)])).length) Slot.unset).toArray = ls at hl ⊢
  have hl : lv_has ls 3 [(0, .ref (ad 0)), (1, .int (x)), (2, .int (y))] := hl
  refine lv_aload_n hx hb dX1_confused_0 rfl (lv_at hl 0 rfl) ?_
  refine lv_iconst (v := nI 0) hx hb dX1_confused_1 (by decide +kernel) ?_
  refine gmput hx hb hts innX1_confused hown hK hP hap hA hS 0 (by decide) (by decide +kernel) rfl rfl (v := .int (nI (0))) rfl rfl (by show 0 < (List.length _); exact Nat.le_of_ble_eq_true rfl) dX1_confused_2 (fun H locs hP hS => ?_)
  have hP := pm_c hP
  refine lv_iload_n hx hb dX1_confused_5 rfl (lv_at hl 1 rfl) ?_
  refine lv_if_lt (tgt := 25) hx hb dX1_confused_6 (by decide) (fun h1 => ?_) (fun h1 => ?_)
  · refine lv_bipush (v := -12) hx hb dX1_confused_25 (by decide +kernel) ?_
    refine lv_goto (tgt := 41) hx hb dX1_confused_27 (by decide) ?_
    exact W.iret hx hb hr (fun t ht hW => ⟨⟨_, _, rfl, ⟨Or.inr ⟨Or.inl fun j9 hj9 e => nI_pos (show j9 < 2 ^ 31 by omega) (e ▸ h1), rfl⟩, rfl⟩, (wn_h ht hP)⟩, hS.F ht⟩) hS.2.2 dX1_confused_41
  · refine lv_iload_n hx hb dX1_confused_9 rfl (lv_at hl 1 rfl) ?_
    refine lv_bipush (v := nI 15) hx hb dX1_confused_10 (by decide +kernel) ?_
    refine lv_icmp_gt (tgt := 25) hx hb dX1_confused_12 (by decide) (fun h2 => ?_) (fun h2 => ?_)
    · refine lv_bipush (v := -12) hx hb dX1_confused_25 (by decide +kernel) ?_
      refine lv_goto (tgt := 41) hx hb dX1_confused_27 (by decide) ?_
      exact W.iret hx hb hr (fun t ht hW => ⟨⟨_, _, rfl, ⟨Or.inr ⟨Or.inl fun j9 hj9 e => absurd (e ▸ h2) (Int32.not_lt.mpr (nI_le (a := j9) (b := 15) (by omega) (by decide))), rfl⟩, rfl⟩, (wn_h ht hP)⟩, hS.F ht⟩) hS.2.2 dX1_confused_41
    · obtain ⟨i, hi9, rfl⟩ : ∃ j : Nat, j < 16 ∧ x = nI j := by
        rcases pk_ix x (n := 16) (by decide) with q | q | ⟨j, hj, e⟩
        · exact absurd q h1
        · exact absurd (Int32.lt_of_lt_of_le (show nI 15 < nI 16 by decide) q) h2
        · exact ⟨j, hj, e⟩
      refine lv_iload_n hx hb dX1_confused_15 rfl (lv_at hl 2 rfl) ?_
      refine lv_if_lt (tgt := 25) hx hb dX1_confused_16 (by decide) (fun h3 => ?_) (fun h3 => ?_)
      · refine lv_bipush (v := -12) hx hb dX1_confused_25 (by decide +kernel) ?_
        refine lv_goto (tgt := 41) hx hb dX1_confused_27 (by decide) ?_
        exact W.iret hx hb hr (fun t ht hW => ⟨⟨_, _, rfl, ⟨Or.inr ⟨Or.inr fun j9 hj9 e => nI_pos (show j9 < 2 ^ 31 by omega) (e ▸ h3), rfl⟩, rfl⟩, (wn_h ht hP)⟩, hS.F ht⟩) hS.2.2 dX1_confused_41
      · refine lv_iload_n hx hb dX1_confused_19 rfl (lv_at hl 2 rfl) ?_
        refine lv_bipush (v := nI 15) hx hb dX1_confused_20 (by decide +kernel) ?_
        refine lv_icmp_le (tgt := 30) hx hb dX1_confused_22 (by decide) (fun h4 => ?_) (fun h4 => ?_)
        · obtain ⟨j, hj9, rfl⟩ : ∃ j : Nat, j < 16 ∧ y = nI j := by
            rcases pk_ix y (n := 16) (by decide) with q | q | ⟨j, hj, e⟩
            · exact absurd q h3
            · have q1 := Int32.le_trans q h4; exact absurd q1 (by decide)
            · exact ⟨j, hj, e⟩
          refine lv_aload_n hx hb dX1_confused_30 rfl (lv_at hl 0 rfl) ?_
          refine gm hx hb hts innX1_confused hown hK hP 10 (by decide) (by decide +kernel) rfl (v := .ref (ad 7)) rfl dX1_confused_31 ?_
          refine lv_bipush (v := nI 16) hx hb dX1_confused_34 (by decide +kernel) ?_
          refine lv_iload_n hx hb dX1_confused_36 rfl (lv_at hl 1 rfl) ?_
          refine zv_imul (v := (nI (16 * i))) hx hb dX1_confused_37 (pk_mul _ _) ?_
          refine lv_iload_n hx hb dX1_confused_38 rfl (lv_at hl 2 rfl) ?_
          refine zv_iadd (v := (nI ((16 * i) + j))) hx hb dX1_confused_39 (nI_add _ _) ?_
          refine z_iald hx hb hK hP 7 (by decide) cm_cf (show (16 * i) + j < 256 by omega) (by decide) dX1_confused_40 ?_
          exact W.iret hx hb hr (fun t ht hW => ⟨⟨_, _, rfl, ⟨Or.inl ⟨i, j, hi9, hj9, rfl, rfl, rfl⟩, rfl⟩, (wn_h ht hP)⟩, hS.F ht⟩) hS.2.2 dX1_confused_41
        · refine lv_bipush (v := -12) hx hb dX1_confused_25 (by decide +kernel) ?_
          refine lv_goto (tgt := 41) hx hb dX1_confused_27 (by decide) ?_
          exact W.iret hx hb hr (fun t ht hW => ⟨⟨_, _, rfl, ⟨Or.inr ⟨Or.inr fun j9 hj9 e => h4 (by rw [e]; exact nI_le (by omega) (by decide)), rfl⟩, rfl⟩, (wn_h ht hP)⟩, hS.F ht⟩) hS.2.2 dX1_confused_41
theorem ctM_le (τ : SM) (c : Nat) : ctM τ c ≤ mN τ := ctE_le _ _ _
theorem smM_lt (τ : SM) (hN : mN τ ≤ 40) (hvl : ∀ k, mVl τ k < 256) (c f k : Nat) (hk : k ≤ 40) : smE (mCl τ) (vwM τ) c f k < 2 ^ 31 := by
  have := smE_le (ec := mCl τ) (ev := vwM τ) (fun e f => hvl _) c f k
  omega
set_option maxHeartbeats 4000000 in
set_option maxRecDepth 100000 in
theorem lp_X1_means1 {p : Program} {l : Launch} {e : Env} {R : Room} {s : State} {m : MethodId} {args : Array Value} {below : List Frame} {meth : Method} {c : Code} {Q : State → Prop} {E : zE} {ad : Nat → Nat} (hx : p.tables.exec = Jvm.exec) (hb : c.code = cX1_means) (hml : c.maxLocals = 6) (hts : ∀ w ∈ wsX1_means, w.before args s = true) (hown : s.vm.findClass RX1 = some m.cls) (hK : zK E s) (hap : apart 8 ad) {H0 : Heap} (hRf : 0 ≤ R.frames) (hRl : 0 ≤ R.locals) (τ : SM) (hN : mN τ ≤ 40) (hcl : ∀ e, mCl τ e < 16) (hvl : ∀ k, mVl τ k < 256) (c9 : Nat) (hc9 : c9 < 16)
    (exit : ∀ (H : Heap) (locs : List Loc) (ls : Array Slot), PM E ad (smWt (smMn (smHs τ (fl0 (mHs τ) (hsV τ) c9)) (flc (mMn τ) (mnV τ) c9)) (flc (mWt τ) (wtV τ) c9)) H → va_S (aX 8 ad) H0 H locs → lv_has ls 6 [(2, .int (nI (ctM τ c9))), (1, .int (nI (c9))), (0, .ref (ad 0))] → W p l e R s m args below meth c H locs 0 0 Q (F0 m 44 ls [])) :
    ∀ (n i : Nat) (H : Heap) (locs : List Loc) (ls : Array Slot), i ≤ mN τ → mN τ - i < n → PM E ad (smWt (smMn (smHs τ (fl0 (mHs τ) (hsV τ) c9)) (flc (mMn τ) (mnV τ) c9)) (flc (mWt τ) (wtV τ) c9)) H → va_S (aX 8 ad) H0 H locs → lv_has ls 6 [(3, .int (nI (i))), (2, .int (nI (ctE (mCl τ) c9 i))), (1, .int (nI (c9))), (0, .ref (ad 0))] → W p l e R s m args below meth c H locs 0 0 Q (F0 m 12 ls []) := by
  have hA : ∀ k, k < 8 → aX 8 ad (ad k) := fun k hk => ⟨k, hk, rfl⟩
  intro n
  induction n with
  | zero => intro i H locs ls h1 h2; omega
  | succ n ih =>
    intro i H locs ls hi hn hP hS hl
    refine lv_iload_n hx hb dX1_means_12 rfl (lv_at hl 0 rfl) ?_
    refine lv_aload_n hx hb dX1_means_13 rfl (lv_at hl 3 rfl) ?_
    refine gm hx hb hts innX1_means hown hK hP 2 (by decide) (by decide +kernel) rfl (v := .int (nI ((mN τ)))) rfl dX1_means_14 ?_
    refine zb_ge (tgt := 44) hx hb (show i < 2 ^ 31 by omega) (show (mN τ) < 2 ^ 31 by omega) dX1_means_17 (by decide) (fun h => ?_) (fun h => ?_)
    · have h : (mN τ) ≤ i := h
      have hend : i = mN τ := by omega
      subst hend
      exact exit _ _ _ hP hS (lv_sub hl [1, 2, 3] rfl)
    · have h : i < (mN τ) := h
      have hci := hcl i
      refine lv_iload_n hx hb dX1_means_20 rfl (lv_at hl 1 rfl) ?_
      refine lv_aload_n hx hb dX1_means_21 rfl (lv_at hl 3 rfl) ?_
      refine gm hx hb hts innX1_means hown hK hP 3 (by decide) (by decide +kernel) rfl (v := .ref (ad 1)) rfl dX1_means_22 ?_
      refine lv_iload_n hx hb dX1_means_25 rfl (lv_at hl 0 rfl) ?_
      refine z_iald hx hb hK hP 1 (by decide) cm_cl (show i < 40 by omega) (by decide) dX1_means_26 ?_
      refine lv_iload_n hx hb dX1_means_27 rfl (lv_at hl 2 rfl) ?_
      refine zb_ne (tgt := 35) hx hb (show (mCl τ) (i) < 2 ^ 31 by omega) (show c9 < 2 ^ 31 by omega) dX1_means_28 (by decide) (fun h1 => ?_) (fun h1 => ?_)
      · have h1 : ((mCl τ) (i)) ≠ c9 := h1
        have e8 : ctE (mCl τ) c9 (i + 1) = (ctE (mCl τ) c9 i) + 0 := by rw [ctE, if_neg h1]
        refine lv_iconst (v := nI 0) hx hb dX1_means_35 (by decide +kernel) ?_
        refine zv_iadd (v := (nI ((ctE (mCl τ) c9 i) + 0))) hx hb dX1_means_36 (nI_add _ _) ?_
        refine lv_istore_n (lv' := [(2, .int (nI ((ctE (mCl τ) c9 i) + 0))), (3, .int (nI (i))), (1, .int (nI (c9))), (0, .ref (ad 0))]) hx hb dX1_means_37 rfl hl (by decide) rfl (fun ls hl => ?_)
        refine lv_iinc (v := nI (i + 1)) (lv' := [(3, .int (nI (i + 1))), (2, .int (nI ((ctE (mCl τ) c9 i) + 0))), (1, .int (nI (c9))), (0, .ref (ad 0))]) hx hb dX1_means_38 hl (k := 1) rfl (nI_1 _) (by decide) rfl (fun ls hl => ?_)
        refine lv_goto (tgt := 12) hx hb dX1_means_41 (by decide) ?_
        exact ih (i + 1) _ _ _ (by omega) (by omega) hP hS (by rw [e8]; exact lv_sub hl [0, 1, 2, 3] rfl)
      · have h1 : ((mCl τ) (i)) = c9 := h1
        have e8 : ctE (mCl τ) c9 (i + 1) = (ctE (mCl τ) c9 i) + 1 := by rw [ctE, if_pos h1]
        refine lv_iconst (v := nI 1) hx hb dX1_means_31 (by decide +kernel) ?_
        refine lv_goto (tgt := 36) hx hb dX1_means_32 (by decide) ?_
        refine zv_iadd (v := (nI ((ctE (mCl τ) c9 i) + 1))) hx hb dX1_means_36 (nI_add _ _) ?_
        refine lv_istore_n (lv' := [(2, .int (nI ((ctE (mCl τ) c9 i) + 1))), (3, .int (nI (i))), (1, .int (nI (c9))), (0, .ref (ad 0))]) hx hb dX1_means_37 rfl hl (by decide) rfl (fun ls hl => ?_)
        refine lv_iinc (v := nI (i + 1)) (lv' := [(3, .int (nI (i + 1))), (2, .int (nI ((ctE (mCl τ) c9 i) + 1))), (1, .int (nI (c9))), (0, .ref (ad 0))]) hx hb dX1_means_38 hl (k := 1) rfl (nI_1 _) (by decide) rfl (fun ls hl => ?_)
        refine lv_goto (tgt := 12) hx hb dX1_means_41 (by decide) ?_
        exact ih (i + 1) _ _ _ (by omega) (by omega) hP hS (by rw [e8]; exact lv_sub hl [0, 1, 2, 3] rfl)
set_option maxHeartbeats 4000000 in
set_option maxRecDepth 100000 in
theorem lp_X1_means2 {p : Program} {l : Launch} {e : Env} {R : Room} {s : State} {m : MethodId} {args : Array Value} {below : List Frame} {meth : Method} {c : Code} {Q : State → Prop} {E : zE} {ad : Nat → Nat} (hx : p.tables.exec = Jvm.exec) (hb : c.code = cX1_means) (hml : c.maxLocals = 6) (hts : ∀ w ∈ wsX1_means, w.before args s = true) (hown : s.vm.findClass RX1 = some m.cls) (hK : zK E s) (hap : apart 8 ad) {H0 : Heap} (hRf : 0 ≤ R.frames) (hRl : 0 ≤ R.locals) (τ : SM) (hN : mN τ ≤ 40) (hcl : ∀ e, mCl τ e < 16) (hvl : ∀ k, mVl τ k < 256) (c9 f9 : Nat) (hc9 : c9 < 16) (hf9 : f9 < 16)
    (exit : ∀ (H : Heap) (locs : List Loc) (ls : Array Slot), PM E ad (smWt (smMn (smHs τ (fl0 (mHs τ) (hsV τ) (c9 + 1))) (fl (flc (mMn τ) (mnV τ) c9) (16 * c9) (mnV τ c9) f9)) (fl (flc (mWt τ) (wtV τ) c9) (16 * c9) (wtV τ c9) f9)) H → va_S (aX 8 ad) H0 H locs → lv_has ls 6 [(4, .int (nI (smM τ c9 f9))), (3, .int (nI (f9))), (2, .int (nI (ctM τ c9))), (1, .int (nI (c9))), (0, .ref (ad 0))] → W p l e R s m args below meth c H locs 0 0 Q (F0 m 120 ls [])) :
    ∀ (n i : Nat) (H : Heap) (locs : List Loc) (ls : Array Slot), i ≤ mN τ → mN τ - i < n → PM E ad (smWt (smMn (smHs τ (fl0 (mHs τ) (hsV τ) (c9 + 1))) (fl (flc (mMn τ) (mnV τ) c9) (16 * c9) (mnV τ c9) f9)) (fl (flc (mWt τ) (wtV τ) c9) (16 * c9) (wtV τ c9) f9)) H → va_S (aX 8 ad) H0 H locs → lv_has ls 6 [(5, .int (nI (i))), (4, .int (nI (smE (mCl τ) (vwM τ) c9 f9 i))), (3, .int (nI (f9))), (2, .int (nI (ctM τ c9))), (1, .int (nI (c9))), (0, .ref (ad 0))] → W p l e R s m args below meth c H locs 0 0 Q (F0 m 73 ls []) := by
  have hA : ∀ k, k < 8 → aX 8 ad (ad k) := fun k hk => ⟨k, hk, rfl⟩
  intro n
  induction n with
  | zero => intro i H locs ls h1 h2; omega
  | succ n ih =>
    intro i H locs ls hi hn hP hS hl
    refine lv_iload hx hb dX1_means_73 (lv_at hl 0 rfl) ?_
    refine lv_aload_n hx hb dX1_means_75 rfl (lv_at hl 5 rfl) ?_
    refine gm hx hb hts innX1_means hown hK hP 2 (by decide) (by decide +kernel) rfl (v := .int (nI ((mN τ)))) rfl dX1_means_76 ?_
    refine zb_ge (tgt := 120) hx hb (show i < 2 ^ 31 by omega) (show (mN τ) < 2 ^ 31 by omega) dX1_means_79 (by decide) (fun h => ?_) (fun h => ?_)
    · have h : (mN τ) ≤ i := h
      have hend : i = mN τ := by omega
      subst hend
      exact exit _ _ _ hP hS (lv_sub hl [1, 2, 3, 4, 5] rfl)
    · have h : i < (mN τ) := h
      have hci := hcl i
      refine lv_iload hx hb dX1_means_82 (lv_at hl 1 rfl) ?_
      refine lv_aload_n hx hb dX1_means_84 rfl (lv_at hl 5 rfl) ?_
      refine gm hx hb hts innX1_means hown hK hP 3 (by decide) (by decide +kernel) rfl (v := .ref (ad 1)) rfl dX1_means_85 ?_
      refine lv_iload hx hb dX1_means_88 (lv_at hl 0 rfl) ?_
      refine z_iald hx hb hK hP 1 (by decide) cm_cl (show i < 40 by omega) (by decide) dX1_means_90 ?_
      refine lv_iload_n hx hb dX1_means_91 rfl (lv_at hl 4 rfl) ?_
      refine zb_ne (tgt := 110) hx hb (show (mCl τ) (i) < 2 ^ 31 by omega) (show c9 < 2 ^ 31 by omega) dX1_means_92 (by decide) (fun h1 => ?_) (fun h1 => ?_)
      · have h1 : ((mCl τ) (i)) ≠ c9 := h1
        have e8 : smE (mCl τ) (vwM τ) c9 f9 (i + 1) = (smE (mCl τ) (vwM τ) c9 f9 i) + 0 := by rw [smE, if_neg h1]
        refine lv_iconst (v := nI 0) hx hb dX1_means_110 (by decide +kernel) ?_
        refine zv_iadd (v := (nI ((smE (mCl τ) (vwM τ) c9 f9 i) + 0))) hx hb dX1_means_111 (nI_add _ _) ?_
        refine lv_istore (lv' := [(4, .int (nI ((smE (mCl τ) (vwM τ) c9 f9 i) + 0))), (5, .int (nI (i))), (3, .int (nI (f9))), (2, .int (nI (ctM τ c9))), (1, .int (nI (c9))), (0, .ref (ad 0))]) hx hb dX1_means_112 hl (by decide) rfl (fun ls hl => ?_)
        refine lv_iinc (v := nI (i + 1)) (lv' := [(5, .int (nI (i + 1))), (4, .int (nI ((smE (mCl τ) (vwM τ) c9 f9 i) + 0))), (3, .int (nI (f9))), (2, .int (nI (ctM τ c9))), (1, .int (nI (c9))), (0, .ref (ad 0))]) hx hb dX1_means_114 hl (k := 1) rfl (nI_1 _) (by decide) rfl (fun ls hl => ?_)
        refine lv_goto (tgt := 73) hx hb dX1_means_117 (by decide) ?_
        exact ih (i + 1) _ _ _ (by omega) (by omega) hP hS (by rw [e8]; exact lv_sub hl [0, 1, 2, 3, 4, 5] rfl)
      · have h1 : ((mCl τ) (i)) = c9 := h1
        have e8 : smE (mCl τ) (vwM τ) c9 f9 (i + 1) = (smE (mCl τ) (vwM τ) c9 f9 i) + (mVl τ ((16 * i) + f9)) := by rw [smE, if_pos h1]; rfl
        refine lv_aload_n hx hb dX1_means_95 rfl (lv_at hl 5 rfl) ?_
        refine gm hx hb hts innX1_means hown hK hP 4 (by decide) (by decide +kernel) rfl (v := .ref (ad 2)) rfl dX1_means_96 ?_
        refine lv_bipush (v := nI 16) hx hb dX1_means_99 (by decide +kernel) ?_
        refine lv_iload hx hb dX1_means_101 (lv_at hl 0 rfl) ?_
        refine zv_imul (v := (nI (16 * i))) hx hb dX1_means_103 (pk_mul _ _) ?_
        refine lv_iload_n hx hb dX1_means_104 rfl (lv_at hl 2 rfl) ?_
        refine zv_iadd (v := (nI ((16 * i) + f9))) hx hb dX1_means_105 (nI_add _ _) ?_
        refine z_iald hx hb hK hP 2 (by decide) cm_vl (show (16 * i) + f9 < 640 by omega) (by decide) dX1_means_106 ?_
        refine lv_goto (tgt := 111) hx hb dX1_means_107 (by decide) ?_
        refine zv_iadd (v := (nI ((smE (mCl τ) (vwM τ) c9 f9 i) + ((mVl τ) ((16 * i) + f9))))) hx hb dX1_means_111 (nI_add _ _) ?_
        refine lv_istore (lv' := [(4, .int (nI ((smE (mCl τ) (vwM τ) c9 f9 i) + ((mVl τ) ((16 * i) + f9))))), (5, .int (nI (i))), (3, .int (nI (f9))), (2, .int (nI (ctM τ c9))), (1, .int (nI (c9))), (0, .ref (ad 0))]) hx hb dX1_means_112 hl (by decide) rfl (fun ls hl => ?_)
        refine lv_iinc (v := nI (i + 1)) (lv' := [(5, .int (nI (i + 1))), (4, .int (nI ((smE (mCl τ) (vwM τ) c9 f9 i) + ((mVl τ) ((16 * i) + f9))))), (3, .int (nI (f9))), (2, .int (nI (ctM τ c9))), (1, .int (nI (c9))), (0, .ref (ad 0))]) hx hb dX1_means_114 hl (k := 1) rfl (nI_1 _) (by decide) rfl (fun ls hl => ?_)
        refine lv_goto (tgt := 73) hx hb dX1_means_117 (by decide) ?_
        exact ih (i + 1) _ _ _ (by omega) (by omega) hP hS (by rw [e8]; exact lv_sub hl [0, 1, 2, 3, 4, 5] rfl)
set_option maxHeartbeats 4000000 in
set_option maxRecDepth 100000 in
theorem lp_X1_means3 {p : Program} {l : Launch} {e : Env} {R : Room} {s : State} {m : MethodId} {args : Array Value} {below : List Frame} {meth : Method} {c : Code} {Q : State → Prop} {E : zE} {ad : Nat → Nat} (hx : p.tables.exec = Jvm.exec) (hb : c.code = cX1_means) (hml : c.maxLocals = 6) (hts : ∀ w ∈ wsX1_means, w.before args s = true) (hown : s.vm.findClass RX1 = some m.cls) (hK : zK E s) (hap : apart 8 ad) {H0 : Heap} (hRf : 0 ≤ R.frames) (hRl : 0 ≤ R.locals) (τ : SM) (hN : mN τ ≤ 40) (hcl : ∀ e, mCl τ e < 16) (hvl : ∀ k, mVl τ k < 256) (c9 : Nat) (hc9 : c9 < 16)
    (exit : ∀ (H : Heap) (locs : List Loc) (ls : Array Slot), PM E ad (smWt (smMn (smHs τ (fl0 (mHs τ) (hsV τ) (c9 + 1))) (fl (flc (mMn τ) (mnV τ) c9) (16 * c9) (mnV τ c9) 16)) (fl (flc (mWt τ) (wtV τ) c9) (16 * c9) (wtV τ c9) 16)) H → va_S (aX 8 ad) H0 H locs → lv_has ls 6 [(1, .int (nI (c9))), (0, .ref (ad 0))] → W p l e R s m args below meth c H locs 0 0 Q (F0 m 171 ls [])) :
    ∀ (n j : Nat) (H : Heap) (locs : List Loc) (ls : Array Slot), j ≤ 16 → 16 - j < n → PM E ad (smWt (smMn (smHs τ (fl0 (mHs τ) (hsV τ) (c9 + 1))) (fl (flc (mMn τ) (mnV τ) c9) (16 * c9) (mnV τ c9) j)) (fl (flc (mWt τ) (wtV τ) c9) (16 * c9) (wtV τ c9) j)) H → va_S (aX 8 ad) H0 H locs → lv_has ls 6 [(3, .int (nI (j))), (2, .int (nI (ctM τ c9))), (1, .int (nI (c9))), (0, .ref (ad 0))] → W p l e R s m args below meth c H locs 0 0 Q (F0 m 61 ls []) := by
  have hA : ∀ k, k < 8 → aX 8 ad (ad k) := fun k hk => ⟨k, hk, rfl⟩
  intro n
  induction n with
  | zero => intro j H locs ls h1 h2; omega
  | succ n ih =>
    intro j H locs ls hi hn hP hS hl
    have hct := ctM_le τ c9
    refine lv_iload_n hx hb dX1_means_61 rfl (lv_at hl 0 rfl) ?_
    refine lv_bipush (v := nI 16) hx hb dX1_means_62 (by decide +kernel) ?_
    refine zb_ge (tgt := 171) hx hb (show j < 2 ^ 31 by omega) (show 16 < 2 ^ 31 by omega) dX1_means_64 (by decide) (fun h => ?_) (fun h => ?_)
    · have h : 16 ≤ j := h
      have hend : j = 16 := by omega
      subst hend
      exact exit _ _ _ hP hS (lv_sub hl [2, 3] rfl)
    · have h : j < 16 := h
      refine lv_iconst (v := nI 0) hx hb dX1_means_67 (by decide +kernel) ?_
      refine lv_istore (lv' := [(4, .int (nI (0))), (3, .int (nI (j))), (2, .int (nI (ctM τ c9))), (1, .int (nI (c9))), (0, .ref (ad 0))]) hx hb dX1_means_68 hl (by decide) rfl (fun ls hl => ?_)
      refine lv_iconst (v := nI 0) hx hb dX1_means_70 (by decide +kernel) ?_
      refine lv_istore (lv' := [(5, .int (nI (0))), (4, .int (nI (0))), (3, .int (nI (j))), (2, .int (nI (ctM τ c9))), (1, .int (nI (c9))), (0, .ref (ad 0))]) hx hb dX1_means_71 hl (by decide) rfl (fun ls hl => ?_)
      refine lp_X1_means2 hx hb hml hts hown hK hap hRf hRl τ hN hcl hvl c9 j hc9 h (fun H locs ls hP hS hl => ?_) (mN τ + 1) 0 _ _ _ (by omega) (by omega) hP hS (lv_sub hl [0, 1, 2, 3, 4, 5] rfl)
      refine lv_aload_n hx hb dX1_means_120 rfl (lv_at hl 4 rfl) ?_
      refine gm hx hb hts innX1_means hown hK hP 8 (by decide) (by decide +kernel) rfl (v := .ref (ad 5)) rfl dX1_means_121 ?_
      refine lv_bipush (v := nI 16) hx hb dX1_means_124 (by decide +kernel) ?_
      refine lv_iload_n hx hb dX1_means_126 rfl (lv_at hl 3 rfl) ?_
      refine zv_imul (v := (nI (16 * c9))) hx hb dX1_means_127 (pk_mul _ _) ?_
      refine lv_iload_n hx hb dX1_means_128 rfl (lv_at hl 1 rfl) ?_
      refine zv_iadd (v := (nI ((16 * c9) + j))) hx hb dX1_means_129 (nI_add _ _) ?_
      refine lv_iload_n hx hb dX1_means_130 rfl (lv_at hl 2 rfl) ?_
      refine zu_le (tgt := 143) hx hb (show ctM τ c9 < 2 ^ 31 by omega) dX1_means_131 (by decide) (fun h1 => ?_) (fun h1 => ?_)
      · have h1 : (ctM τ c9) = 0 := h1
        have e7 : mnV τ c9 j = FP.dconst0 := if_neg (by omega)
        have e6 : wtV τ c9 j = FP.dconst0 := if_neg (by omega)
        refine lv_dconst0 hx hb dX1_means_143 ?_
        refine z_dast hx hb hK hP hap hA hS 5 (by decide) cm_mn (show (16 * c9) + j < 256 by omega) (by decide) dX1_means_144 (fun H locs hP hS => ?_)
        have hP := pm_mn hP
        refine lv_aload_n hx hb dX1_means_145 rfl (lv_at hl 4 rfl) ?_
        refine gm hx hb hts innX1_means hown hK hP 9 (by decide) (by decide +kernel) rfl (v := .ref (ad 6)) rfl dX1_means_146 ?_
        refine lv_bipush (v := nI 16) hx hb dX1_means_149 (by decide +kernel) ?_
        refine lv_iload_n hx hb dX1_means_151 rfl (lv_at hl 3 rfl) ?_
        refine zv_imul (v := (nI (16 * c9))) hx hb dX1_means_152 (pk_mul _ _) ?_
        refine lv_iload_n hx hb dX1_means_153 rfl (lv_at hl 1 rfl) ?_
        refine zv_iadd (v := (nI ((16 * c9) + j))) hx hb dX1_means_154 (nI_add _ _) ?_
        refine lv_iload_n hx hb dX1_means_155 rfl (lv_at hl 2 rfl) ?_
        refine zu_le (tgt := 163) hx hb (show ctM τ c9 < 2 ^ 31 by omega) dX1_means_156 (by decide) (fun h2 => ?_) (fun h2 => ?_)
        · have h2 : (ctM τ c9) = 0 := h2
          refine lv_dconst0 hx hb dX1_means_163 ?_
          refine z_dast hx hb hK hP hap hA hS 6 (by decide) cm_wt (show (16 * c9) + j < 256 by omega) (by decide) dX1_means_164 (fun H locs hP hS => ?_)
          have hP := pm_wt hP
          refine lv_iinc (v := nI (j + 1)) (lv' := [(3, .int (nI (j + 1))), (4, .int (nI (smM τ c9 j))), (2, .int (nI (ctM τ c9))), (1, .int (nI (c9))), (0, .ref (ad 0))]) hx hb dX1_means_165 hl (k := 1) rfl (nI_1 _) (by decide) rfl (fun ls hl => ?_)
          refine lv_goto (tgt := 61) hx hb dX1_means_168 (by decide) ?_
          have e5 : fl (flc (mMn τ) (mnV τ) c9) (16 * c9) (mnV τ c9) (j + 1) = va_up (fl (flc (mMn τ) (mnV τ) c9) (16 * c9) (mnV τ c9) j) (16 * c9 + j) FP.dconst0 := congrArg (va_up (fl (flc (mMn τ) (mnV τ) c9) (16 * c9) (mnV τ c9) j) (16 * c9 + j)) e7
          have e4 : fl (flc (mWt τ) (wtV τ) c9) (16 * c9) (wtV τ c9) (j + 1) = va_up (fl (flc (mWt τ) (wtV τ) c9) (16 * c9) (wtV τ c9) j) (16 * c9 + j) FP.dconst0 := congrArg (va_up (fl (flc (mWt τ) (wtV τ) c9) (16 * c9) (wtV τ c9) j) (16 * c9 + j)) e6
          exact ih (j + 1) _ _ _ (by omega) (by omega) (by rw [e5, e4]; exact hP) hS (lv_sub hl [0, 2, 3, 4] rfl)
        · have h2 : 0 < (ctM τ c9) := h2
          exact absurd h1 (by omega)
      · have h1 : 0 < (ctM τ c9) := h1
        have e7 : mnV τ c9 j = FP.ddiv (FP.i2d (nI (smM τ c9 j))) (FP.i2d (nI (ctM τ c9))) := if_pos h1
        have e6 : wtV τ c9 j = FP.dconst1 := if_pos h1
        refine lv_iload hx hb dX1_means_134 (lv_at hl 0 rfl) ?_
        refine lv_i2d hx hb dX1_means_136 ?_
        refine lv_iload_n hx hb dX1_means_137 rfl (lv_at hl 2 rfl) ?_
        refine lv_i2d hx hb dX1_means_138 ?_
        refine lv_ddiv hx hb dX1_means_139 (mg_n64 (mg_ddiv _ (nI_ne0 h1 (by omega))) (by decide)) ?_
        refine lv_goto (tgt := 144) hx hb dX1_means_140 (by decide) ?_
        refine z_dast hx hb hK hP hap hA hS 5 (by decide) cm_mn (show (16 * c9) + j < 256 by omega) (by decide) dX1_means_144 (fun H locs hP hS => ?_)
        have hP := pm_mn hP
        refine lv_aload_n hx hb dX1_means_145 rfl (lv_at hl 4 rfl) ?_
        refine gm hx hb hts innX1_means hown hK hP 9 (by decide) (by decide +kernel) rfl (v := .ref (ad 6)) rfl dX1_means_146 ?_
        refine lv_bipush (v := nI 16) hx hb dX1_means_149 (by decide +kernel) ?_
        refine lv_iload_n hx hb dX1_means_151 rfl (lv_at hl 3 rfl) ?_
        refine zv_imul (v := (nI (16 * c9))) hx hb dX1_means_152 (pk_mul _ _) ?_
        refine lv_iload_n hx hb dX1_means_153 rfl (lv_at hl 1 rfl) ?_
        refine zv_iadd (v := (nI ((16 * c9) + j))) hx hb dX1_means_154 (nI_add _ _) ?_
        refine lv_iload_n hx hb dX1_means_155 rfl (lv_at hl 2 rfl) ?_
        refine zu_le (tgt := 163) hx hb (show ctM τ c9 < 2 ^ 31 by omega) dX1_means_156 (by decide) (fun h2 => ?_) (fun h2 => ?_)
        · have h2 : (ctM τ c9) = 0 := h2
          exact absurd h1 (by omega)
        · have h2 : 0 < (ctM τ c9) := h2
          refine lv_dconst1 hx hb dX1_means_159 ?_
          refine lv_goto (tgt := 164) hx hb dX1_means_160 (by decide) ?_
          refine z_dast hx hb hK hP hap hA hS 6 (by decide) cm_wt (show (16 * c9) + j < 256 by omega) (by decide) dX1_means_164 (fun H locs hP hS => ?_)
          have hP := pm_wt hP
          refine lv_iinc (v := nI (j + 1)) (lv' := [(3, .int (nI (j + 1))), (4, .int (nI (smM τ c9 j))), (2, .int (nI (ctM τ c9))), (1, .int (nI (c9))), (0, .ref (ad 0))]) hx hb dX1_means_165 hl (k := 1) rfl (nI_1 _) (by decide) rfl (fun ls hl => ?_)
          refine lv_goto (tgt := 61) hx hb dX1_means_168 (by decide) ?_
          have e5 : fl (flc (mMn τ) (mnV τ) c9) (16 * c9) (mnV τ c9) (j + 1) = va_up (fl (flc (mMn τ) (mnV τ) c9) (16 * c9) (mnV τ c9) j) (16 * c9 + j) (FP.ddiv (FP.i2d (nI (smM τ c9 j))) (FP.i2d (nI (ctM τ c9)))) := congrArg (va_up (fl (flc (mMn τ) (mnV τ) c9) (16 * c9) (mnV τ c9) j) (16 * c9 + j)) e7
          have e4 : fl (flc (mWt τ) (wtV τ) c9) (16 * c9) (wtV τ c9) (j + 1) = va_up (fl (flc (mWt τ) (wtV τ) c9) (16 * c9) (wtV τ c9) j) (16 * c9 + j) FP.dconst1 := congrArg (va_up (fl (flc (mWt τ) (wtV τ) c9) (16 * c9) (wtV τ c9) j) (16 * c9 + j)) e6
          exact ih (j + 1) _ _ _ (by omega) (by omega) (by rw [e5, e4]; exact hP) hS (lv_sub hl [0, 2, 3, 4] rfl)
set_option maxHeartbeats 4000000 in
set_option maxRecDepth 100000 in
theorem lp_X1_means4 {p : Program} {l : Launch} {e : Env} {R : Room} {s : State} {m : MethodId} {args : Array Value} {below : List Frame} {meth : Method} {c : Code} {Q : State → Prop} {E : zE} {ad : Nat → Nat} (hx : p.tables.exec = Jvm.exec) (hb : c.code = cX1_means) (hml : c.maxLocals = 6) (hts : ∀ w ∈ wsX1_means, w.before args s = true) (hown : s.vm.findClass RX1 = some m.cls) (hK : zK E s) (hap : apart 8 ad) {H0 : Heap} (hRf : 0 ≤ R.frames) (hRl : 0 ≤ R.locals) (τ : SM) (hN : mN τ ≤ 40) (hcl : ∀ e, mCl τ e < 16) (hvl : ∀ k, mVl τ k < 256)
    (exit : ∀ (H : Heap) (locs : List Loc) (ls : Array Slot), PM E ad (smWt (smMn (smHs τ (fl0 (mHs τ) (hsV τ) 16)) (flc (mMn τ) (mnV τ) 16)) (flc (mWt τ) (wtV τ) 16)) H → va_S (aX 8 ad) H0 H locs → lv_has ls 6 [(0, .ref (ad 0))] → W p l e R s m args below meth c H locs 0 0 Q (F0 m 177 ls [])) :
    ∀ (n i : Nat) (H : Heap) (locs : List Loc) (ls : Array Slot), i ≤ 16 → 16 - i < n → PM E ad (smWt (smMn (smHs τ (fl0 (mHs τ) (hsV τ) i)) (flc (mMn τ) (mnV τ) i)) (flc (mWt τ) (wtV τ) i)) H → va_S (aX 8 ad) H0 H locs → lv_has ls 6 [(1, .int (nI (i))), (0, .ref (ad 0))] → W p l e R s m args below meth c H locs 0 0 Q (F0 m 2 ls []) := by
  have hA : ∀ k, k < 8 → aX 8 ad (ad k) := fun k hk => ⟨k, hk, rfl⟩
  intro n
  induction n with
  | zero => intro i H locs ls h1 h2; omega
  | succ n ih =>
    intro i H locs ls hi hn hP hS hl
    refine lv_iload_n hx hb dX1_means_2 rfl (lv_at hl 0 rfl) ?_
    refine lv_bipush (v := nI 16) hx hb dX1_means_3 (by decide +kernel) ?_
    refine zb_ge (tgt := 177) hx hb (show i < 2 ^ 31 by omega) (show 16 < 2 ^ 31 by omega) dX1_means_5 (by decide) (fun h => ?_) (fun h => ?_)
    · have h : 16 ≤ i := h
      have hend : i = 16 := by omega
      subst hend
      exact exit _ _ _ hP hS (lv_sub hl [1] rfl)
    · have h : i < 16 := h
      have hct := ctM_le τ i
      refine lv_iconst (v := nI 0) hx hb dX1_means_8 (by decide +kernel) ?_
      refine lv_istore_n (lv' := [(2, .int (nI (0))), (1, .int (nI (i))), (0, .ref (ad 0))]) hx hb dX1_means_9 rfl hl (by decide) rfl (fun ls hl => ?_)
      refine lv_iconst (v := nI 0) hx hb dX1_means_10 (by decide +kernel) ?_
      refine lv_istore_n (lv' := [(3, .int (nI (0))), (2, .int (nI (0))), (1, .int (nI (i))), (0, .ref (ad 0))]) hx hb dX1_means_11 rfl hl (by decide) rfl (fun ls hl => ?_)
      refine lp_X1_means1 hx hb hml hts hown hK hap hRf hRl τ hN hcl hvl i h (fun H locs ls hP hS hl => ?_) (mN τ + 1) 0 _ _ _ (by omega) (by omega) hP hS (lv_sub hl [0, 1, 2, 3] rfl)
      refine lv_aload_n hx hb dX1_means_44 rfl (lv_at hl 2 rfl) ?_
      refine gm hx hb hts innX1_means hown hK hP 7 (by decide) (by decide +kernel) rfl (v := .ref (ad 4)) rfl dX1_means_45 ?_
      refine lv_iload_n hx hb dX1_means_48 rfl (lv_at hl 1 rfl) ?_
      refine lv_iload_n hx hb dX1_means_49 rfl (lv_at hl 0 rfl) ?_
      refine zu_le (tgt := 57) hx hb (show ctM τ i < 2 ^ 31 by omega) dX1_means_50 (by decide) (fun h1 => ?_) (fun h1 => ?_)
      · have h1 : (ctM τ i) = 0 := h1
        have e7 : hsV τ i = 0 := if_neg (by omega)
        refine lv_iconst (v := nI 0) hx hb dX1_means_57 (by decide +kernel) ?_
        refine z_zast hx hb hK hP hap hA hS 4 (by decide) cm_hs (show i < 16 by omega) (by decide) (by decide +kernel) dX1_means_58 (fun H locs hP hS => ?_)
        have hP := pm_hs hP
        have e5 : fl0 (mHs τ) (hsV τ) (i + 1) = va_up (fl0 (mHs τ) (hsV τ) i) i 0 := congrArg (va_up (fl0 (mHs τ) (hsV τ) i) i) e7
        have hP : PM E ad (smWt (smMn (smHs τ (fl0 (mHs τ) (hsV τ) (i + 1))) (fl (flc (mMn τ) (mnV τ) i) (16 * i) (mnV τ i) 0)) (fl (flc (mWt τ) (wtV τ) i) (16 * i) (wtV τ i) 0)) H := by rw [e5]; exact hP
        refine lv_iconst (v := nI 0) hx hb dX1_means_59 (by decide +kernel) ?_
        refine lv_istore_n (lv' := [(3, .int (nI (0))), (2, .int (nI (ctM τ i))), (1, .int (nI (i))), (0, .ref (ad 0))]) hx hb dX1_means_60 rfl hl (by decide) rfl (fun ls hl => ?_)
        refine lp_X1_means3 hx hb hml hts hown hK hap hRf hRl τ hN hcl hvl i h (fun H locs ls hP hS hl => ?_) (16 + 1) 0 _ _ _ (by omega) (by omega) hP hS (lv_sub hl [0, 1, 2, 3] rfl)
        refine lv_iinc (v := nI (i + 1)) (lv' := [(1, .int (nI (i + 1))), (0, .ref (ad 0))]) hx hb dX1_means_171 hl (k := 0) rfl (nI_1 _) (by decide) rfl (fun ls hl => ?_)
        refine lv_goto (tgt := 2) hx hb dX1_means_174 (by decide) ?_
        exact ih (i + 1) _ _ _ (by omega) (by omega) hP hS (lv_sub hl [0, 1] rfl)
      · have h1 : 0 < (ctM τ i) := h1
        have e7 : hsV τ i = 1 := if_pos h1
        refine lv_iconst (v := nI 1) hx hb dX1_means_53 (by decide +kernel) ?_
        refine lv_goto (tgt := 58) hx hb dX1_means_54 (by decide) ?_
        refine z_zast hx hb hK hP hap hA hS 4 (by decide) cm_hs (show i < 16 by omega) (by decide) (by decide +kernel) dX1_means_58 (fun H locs hP hS => ?_)
        have hP := pm_hs hP
        have e5 : fl0 (mHs τ) (hsV τ) (i + 1) = va_up (fl0 (mHs τ) (hsV τ) i) i 1 := congrArg (va_up (fl0 (mHs τ) (hsV τ) i) i) e7
        have hP : PM E ad (smWt (smMn (smHs τ (fl0 (mHs τ) (hsV τ) (i + 1))) (fl (flc (mMn τ) (mnV τ) i) (16 * i) (mnV τ i) 0)) (fl (flc (mWt τ) (wtV τ) i) (16 * i) (wtV τ i) 0)) H := by rw [e5]; exact hP
        refine lv_iconst (v := nI 0) hx hb dX1_means_59 (by decide +kernel) ?_
        refine lv_istore_n (lv' := [(3, .int (nI (0))), (2, .int (nI (ctM τ i))), (1, .int (nI (i))), (0, .ref (ad 0))]) hx hb dX1_means_60 rfl hl (by decide) rfl (fun ls hl => ?_)
        refine lp_X1_means3 hx hb hml hts hown hK hap hRf hRl τ hN hcl hvl i h (fun H locs ls hP hS hl => ?_) (16 + 1) 0 _ _ _ (by omega) (by omega) hP hS (lv_sub hl [0, 1, 2, 3] rfl)
        refine lv_iinc (v := nI (i + 1)) (lv' := [(1, .int (nI (i + 1))), (0, .ref (ad 0))]) hx hb dX1_means_171 hl (k := 0) rfl (nI_1 _) (by decide) rfl (fun ls hl => ?_)
        refine lv_goto (tgt := 2) hx hb dX1_means_174 (by decide) ?_
        exact ih (i + 1) _ _ _ (by omega) (by omega) hP hS (lv_sub hl [0, 1] rfl)
set_option maxHeartbeats 4000000 in
set_option maxRecDepth 100000 in
theorem kX1_means (l : Launch) (E : zE) (ad : Nat → Nat) (hap : apart 8 ad) (τ : SM) (hN : mN τ ≤ 40) (hcl : ∀ e, mCl τ e < 16) (hvl : ∀ k, mVl τ k < 256) : Met l yX1_means wsX1_means ({ frames := 0, cells := 0, slots := 0, locals := 0 }) (va_Pc [.ref (ad 0)] (fun U => PM E ad τ U.heap ∧ zK E U)) (va_Qv (fun τ' : SM => τ' = mmM τ) (fun τ' t => PM E ad τ' t.heap) (aX 8 ad)) 0 0 (aX 8 ad) := by
  refine Met.ofW (cc := cX1_means) (maxL := 6) (ret := none) (by decide) rfl ?_
  intro p e s m args below meth c s₁ B hml hv
  obtain ⟨rfl, hP, hK⟩ := hv
  have hx := B.exec
  have hb := B.bytes
  have hr := B.returns
  have hts := atoms_spec (ws := wsX1_means) B.pre
  have hown : s.vm.findClass RX1 = some m.cls := findClass_of_methodNamed B.named
  have hlocks := B.notSynchronized
  have hS : va_S (aX 8 ad) s.heap s.heap [] := va_S.rf
  have hA : ∀ k, k < 8 → aX 8 ad (ad k) := fun k hk => ⟨k, hk, rfl⟩
  have hRf : 0 ≤ ((headSpec wsX1_means ({ frames := 0, cells := 0, slots := 0, locals := 0 })).room).frames := Nat.le_of_ble_eq_true rfl
  have hRl : 0 ≤ ((headSpec wsX1_means ({ frames := 0, cells := 0, slots := 0, locals := 0 })).room).locals := Nat.le_of_ble_eq_true rfl
  have hl := lv_entry ([.ref (ad 0)]) (n := 6) (Nat.le_of_ble_eq_true rfl)
  rw [lg_entry_eq]
  generalize (lg_sl ([.ref (ad 0)]) ++ List.replicate (6 - (lg_sl ([.ref (ad 0)])).length) Slot.unset).toArray = ls at hl ⊢
  have hl : lv_has ls 6 [(0, .ref (ad 0))] := hl
  refine lv_iconst (v := nI 0) hx hb dX1_means_0 (by decide +kernel) ?_
  refine lv_istore_n (lv' := [(1, .int (nI (0))), (0, .ref (ad 0))]) hx hb dX1_means_1 rfl hl (by decide) rfl (fun ls hl => ?_)
  refine lp_X1_means4 hx hb hml hts hown hK hap hRf hRl τ hN hcl hvl (fun H locs ls hP hS hl => ?_) (16 + 1) 0 _ _ _ (by omega) (by omega) hP hS (lv_sub hl [0, 1] rfl)
  exact W.vret hx hb hr (fun t ht hW => ⟨⟨_, rfl, rfl, (wn_h ht hP)⟩, hS.F ht⟩) hS.2.2 dX1_means_177
