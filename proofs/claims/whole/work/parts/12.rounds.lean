/-! ===== the class: rounds, confusions, what is told ===== -/
set_option maxHeartbeats 4000000 in
set_option maxRecDepth 100000 in
theorem lp_X0_shiftWeights {p : Program} {l : Launch} {e : Env} {R : Room} {s : State} {m : MethodId} {args : Array Value} {below : List Frame} {meth : Method} {c : Code} {Q : State → Prop} {E : zE} {ad : Nat → Nat} (hx : p.tables.exec = Jvm.exec) (hb : c.code = cX0_shiftWeights) (hml : c.maxLocals = 9) (hts : ∀ w ∈ wsX0_shiftWeights, w.before args s = true) (hown : s.vm.findClass RX0 = some m.cls) (hK : zK E s) (hap : apart 96 ad) {H0 : Heap} (hRf : 1 ≤ R.frames) (hRl : 21 ≤ R.locals) (κ : SX) (e9 c9 n9 K : Nat) (hF : xF κ ≤ 16) (he : e9 < 40) (hc : c9 < 16) (hn9 : n9 < 16) (hK1 : 1023 ≤ K) (hK2 : K ≤ 1900) (hwB : wB (xF κ) K (xWt κ)) (hmn : ∀ c, c < 16 → ∀ f, f < xF κ → mg 1057 (xMn κ c f))
    (exit : ∀ (H : Heap) (locs : List Loc) (ls : Array Slot), PX E ad (sxWt κ (shW (xMn κ) (xEv κ e9) c9 n9 (xWt κ) (xF κ))) H → va_S (aX 96 ad) H0 H locs → lv_has ls 9 [(0, .ref (ad 0)), (1, .ref (ad (3 + e9))), (2, .int (nI (c9))), (3, .int (nI (n9)))] → W p l e R s m args below meth c H locs 0 0 Q (F0 m 121 ls [])) :
    ∀ (n j : Nat) (H : Heap) (locs : List Loc) (ls : Array Slot), j ≤ xF κ → xF κ - j < n → PX E ad (sxWt κ (shW (xMn κ) (xEv κ e9) c9 n9 (xWt κ) j)) H → va_S (aX 96 ad) H0 H locs → lv_has ls 9 [(4, .int (nI (j))), (0, .ref (ad 0)), (1, .ref (ad (3 + e9))), (2, .int (nI (c9))), (3, .int (nI (n9)))] → W p l e R s m args below meth c H locs 0 0 Q (F0 m 3 ls []) := by
  have hA : ∀ k, k < 96 → aX 96 ad (ad k) := fun k hk => ⟨k, hk, rfl⟩
  intro n
  induction n with
  | zero => intro j H locs ls h1 h2; omega
  | succ n ih =>
    intro j H locs ls hi hn hP hS hl
    refine lv_iload hx hb dX0_shiftWeights_3 (lv_at hl 0 rfl) ?_
    refine lv_aload_n hx hb dX0_shiftWeights_5 rfl (lv_at hl 1 rfl) ?_
    refine gx hx hb hts innX0_shiftWeights hown hK hP 0 (by decide) (by decide +kernel) rfl (v := .int (nI ((xF κ)))) rfl dX0_shiftWeights_6 ?_
    refine zb_ge (tgt := 121) hx hb (show j < 2 ^ 31 by omega) (show (xF κ) < 2 ^ 31 by omega) dX0_shiftWeights_9 (by decide) (fun h => ?_) (fun h => ?_)
    · have h : (xF κ) ≤ j := h
      have hend : j = xF κ := by omega
      subst hend
      exact exit _ _ _ hP hS (lv_sub hl [1, 2, 3, 4] rfl)
    · have h : j < (xF κ) := h
      have hwc : mg K (shW (xMn κ) (xEv κ e9) c9 n9 (xWt κ) j c9 j) := by rw [shW_rest (Nat.le_refl j)]; exact hwB c9 j ⟨hc, h⟩
      have hwn : mg K (shW (xMn κ) (xEv κ e9) c9 n9 (xWt κ) j n9 j) := by rw [shW_rest (Nat.le_refl j)]; exact hwB n9 j ⟨hn9, h⟩
      refine lv_aload_n hx hb dX0_shiftWeights_12 rfl (lv_at hl 2 rfl) ?_
      refine lv_iload hx hb dX0_shiftWeights_13 (lv_at hl 0 rfl) ?_
      refine z_iald hx hb hK hP (3 + e9) (show 3 + e9 < 96 by omega) (cx_ev (show e9 < 40 by omega)) (show j < xF κ by omega) (show xF κ < 2 ^ 31 by omega) dX0_shiftWeights_15 ?_
      refine lv_i2d hx hb dX0_shiftWeights_16 ?_
      refine lv_aload_n hx hb dX0_shiftWeights_17 rfl (lv_at hl 1 rfl) ?_
      refine gx hx hb hts innX0_shiftWeights hown hK hP 8 (by decide) (by decide +kernel) rfl (v := .ref (ad 45)) rfl dX0_shiftWeights_18 ?_
      refine lv_iload_n hx hb dX0_shiftWeights_21 rfl (lv_at hl 3 rfl) ?_
      refine z_aald 3 hx hb hK hP 45 (by decide) cx_mnO rfl rfl (show c9 < 16 by omega) (by decide) (if_pos (show c9 < 16 by omega)) dX0_shiftWeights_22 ?_
      refine lv_iload hx hb dX0_shiftWeights_23 (lv_at hl 0 rfl) ?_
      refine z_dald hx hb hK hP (46 + c9) (show 46 + c9 < 96 by omega) (cx_mn (show c9 < 16 by omega)) (show j < xF κ by omega) (show xF κ < 2 ^ 31 by omega) dX0_shiftWeights_25 ?_
      refine lv_dsub hx hb dX0_shiftWeights_26 (mg_n64 (mg_df _ (hmn c9 hc j h)) (by decide)) ?_
      refine va_calld (va_runS (As := [.double (FP.dsub (FP.i2d (nI ((xEv κ) (e9) (j)))) ((xMn κ) (c9) (j)))]) (rest := []) ⟨hx, hb, hml, hown, hts⟩ (kX0_size l _) (va_cwS 1 hts gX0_shiftWeights_X0_size rfl rfl rfl (by decide +kernel) ⟨Nat.le_trans (Nat.le_of_ble_eq_true rfl) hRf, Nat.le_trans (Nat.le_of_ble_eq_true rfl) hRl⟩) zps rfl rfl hl.1 rfl (lv_room (Nat.le_of_ble_eq_true rfl)) dX0_shiftWeights_27 ⟨Nat.zero_le _, Nat.zero_le _⟩) hS (fun q _ h => h.elim) (fun q h => h.elim) (fun r u9 t9 H locs ht9 hvm9 hw9 hB9 hz9 hk9 hS => ?_)
      have hP := wn_ro hP hk9
      subst hw9
      refine lv_dstore (lv' := [(5, .double (szF (FP.dsub (FP.i2d (nI (xEv κ e9 j))) (xMn κ c9 j)))), (4, .int (nI (j))), (0, .ref (ad 0)), (1, .ref (ad (3 + e9))), (2, .int (nI (c9))), (3, .int (nI (n9)))]) hx hb dX0_shiftWeights_30 hl (by decide) rfl (fun ls hl => ?_)
      refine lv_aload_n hx hb dX0_shiftWeights_32 rfl (lv_at hl 3 rfl) ?_
      refine lv_iload hx hb dX0_shiftWeights_33 (lv_at hl 1 rfl) ?_
      refine z_iald hx hb hK hP (3 + e9) (show 3 + e9 < 96 by omega) (cx_ev (show e9 < 40 by omega)) (show j < xF κ by omega) (show xF κ < 2 ^ 31 by omega) dX0_shiftWeights_35 ?_
      refine lv_i2d hx hb dX0_shiftWeights_36 ?_
      refine lv_aload_n hx hb dX0_shiftWeights_37 rfl (lv_at hl 2 rfl) ?_
      refine gx hx hb hts innX0_shiftWeights hown hK hP 8 (by decide) (by decide +kernel) rfl (v := .ref (ad 45)) rfl dX0_shiftWeights_38 ?_
      refine lv_iload_n hx hb dX0_shiftWeights_41 rfl (lv_at hl 5 rfl) ?_
      refine z_aald 3 hx hb hK hP 45 (by decide) cx_mnO rfl rfl (show n9 < 16 by omega) (by decide) (if_pos (show n9 < 16 by omega)) dX0_shiftWeights_42 ?_
      refine lv_iload hx hb dX0_shiftWeights_43 (lv_at hl 1 rfl) ?_
      refine z_dald hx hb hK hP (46 + n9) (show 46 + n9 < 96 by omega) (cx_mn (show n9 < 16 by omega)) (show j < xF κ by omega) (show xF κ < 2 ^ 31 by omega) dX0_shiftWeights_45 ?_
      refine lv_dsub hx hb dX0_shiftWeights_46 (mg_n64 (mg_df _ (hmn n9 hn9 j h)) (by decide)) ?_
      refine va_calld (va_runS (As := [.double (FP.dsub (FP.i2d (nI ((xEv κ) (e9) (j)))) ((xMn κ) (n9) (j)))]) (rest := []) ⟨hx, hb, hml, hown, hts⟩ (kX0_size l _) (va_cwS 1 hts gX0_shiftWeights_X0_size rfl rfl rfl (by decide +kernel) ⟨Nat.le_trans (Nat.le_of_ble_eq_true rfl) hRf, Nat.le_trans (Nat.le_of_ble_eq_true rfl) hRl⟩) zps rfl rfl hl.1 rfl (lv_room (Nat.le_of_ble_eq_true rfl)) dX0_shiftWeights_47 ⟨Nat.zero_le _, Nat.zero_le _⟩) hS (fun q _ h => h.elim) (fun q h => h.elim) (fun r u9 t9 H locs ht9 hvm9 hw9 hB9 hz9 hk9 hS => ?_)
      have hP := wn_ro hP hk9
      subst hw9
      refine lv_dstore (lv' := [(7, .double (szF (FP.dsub (FP.i2d (nI (xEv κ e9 j))) (xMn κ n9 j)))), (5, .double (szF (FP.dsub (FP.i2d (nI (xEv κ e9 j))) (xMn κ c9 j)))), (4, .int (nI (j))), (0, .ref (ad 0)), (1, .ref (ad (3 + e9))), (2, .int (nI (c9))), (3, .int (nI (n9)))]) hx hb dX0_shiftWeights_50 hl (by decide) rfl (fun ls hl => ?_)
      refine lv_dload hx hb dX0_shiftWeights_52 (lv_at hl 1 rfl) ?_
      refine lv_dload hx hb dX0_shiftWeights_54 (lv_at hl 0 rfl) ?_
      refine lv_dcmp hx hb dX0_shiftWeights_56 ?_
      refine lv_if_le (tgt := 85) hx hb dX0_shiftWeights_57 (by decide) (fun h1 => ?_) (fun h1 => ?_)
      · refine lv_dload hx hb dX0_shiftWeights_85 (lv_at hl 0 rfl) ?_
        refine lv_dload hx hb dX0_shiftWeights_87 (lv_at hl 1 rfl) ?_
        refine lv_dcmp hx hb dX0_shiftWeights_89 ?_
        refine lv_if_le (tgt := 115) hx hb dX0_shiftWeights_90 (by decide) (fun h2 => ?_) (fun h2 => ?_)
        · have e8 : shW (xMn κ) (xEv κ e9) c9 n9 (xWt κ) (j + 1) = shW (xMn κ) (xEv κ e9) c9 n9 (xWt κ) j := (if_neg (fun q => q h1)).trans (if_neg (fun q => q h2))
          refine lv_iinc (v := nI (j + 1)) (lv' := [(4, .int (nI (j + 1))), (7, .double (szF (FP.dsub (FP.i2d (nI (xEv κ e9 j))) (xMn κ n9 j)))), (5, .double (szF (FP.dsub (FP.i2d (nI (xEv κ e9 j))) (xMn κ c9 j)))), (0, .ref (ad 0)), (1, .ref (ad (3 + e9))), (2, .int (nI (c9))), (3, .int (nI (n9)))]) hx hb dX0_shiftWeights_115 hl (k := 2) rfl (nI_1 _) (by decide) rfl (fun ls hl => ?_)
          refine lv_goto (tgt := 3) hx hb dX0_shiftWeights_118 (by decide) ?_
          exact ih (j + 1) _ _ _ (by omega) (by omega) (by rw [e8]; exact hP) hS (lv_sub hl [0, 3, 4, 5, 6] rfl)
        · refine lv_aload_n hx hb dX0_shiftWeights_93 rfl (lv_at hl 3 rfl) ?_
          refine gx hx hb hts innX0_shiftWeights hown hK hP 9 (by decide) (by decide +kernel) rfl (v := .ref (ad 62)) rfl dX0_shiftWeights_94 ?_
          refine lv_iload_n hx hb dX0_shiftWeights_97 rfl (lv_at hl 6 rfl) ?_
          refine z_aald 3 hx hb hK hP 62 (by decide) cx_wtO rfl rfl (show n9 < 16 by omega) (by decide) (if_pos (show n9 < 16 by omega)) dX0_shiftWeights_98 ?_
          refine lv_iload hx hb dX0_shiftWeights_99 (lv_at hl 2 rfl) ?_
          refine lv_aload_n hx hb dX0_shiftWeights_101 rfl (lv_at hl 3 rfl) ?_
          refine gx hx hb hts innX0_shiftWeights hown hK hP 9 (by decide) (by decide +kernel) rfl (v := .ref (ad 62)) rfl dX0_shiftWeights_102 ?_
          refine lv_iload_n hx hb dX0_shiftWeights_105 rfl (lv_at hl 6 rfl) ?_
          refine z_aald 3 hx hb hK hP 62 (by decide) cx_wtO rfl rfl (show n9 < 16 by omega) (by decide) (if_pos (show n9 < 16 by omega)) dX0_shiftWeights_106 ?_
          refine lv_iload hx hb dX0_shiftWeights_107 (lv_at hl 2 rfl) ?_
          refine z_dald hx hb hK hP (63 + n9) (show 63 + n9 < 96 by omega) (cx_wt (show n9 < 16 by omega)) (show j < xF κ by omega) (show xF κ < 2 ^ 31 by omega) dX0_shiftWeights_109 ?_
          refine lv_ldc2d hx hb hown (hts (.constantDouble RX0 130 k1125) (by decide +kernel)) dX0_shiftWeights_110 ?_
          refine lv_dmul hx hb dX0_shiftWeights_113 (mg_n64 (mg_dmul (K := K + 1) hwn mg_1125 (by omega) (by decide) (by omega) (by decide) (by omega) (by omega)) (by omega)) ?_
          have e8 : shW (xMn κ) (xEv κ e9) c9 n9 (xWt κ) (j + 1) = up2 (shW (xMn κ) (xEv κ e9) c9 n9 (xWt κ) j) n9 j (FP.dmul (shW (xMn κ) (xEv κ e9) c9 n9 (xWt κ) j n9 j) k1125) := (if_neg (fun q => q h1)).trans (if_pos h2)
          refine z_dast hx hb hK hP hap hA hS (63 + n9) (show 63 + n9 < 96 by omega) (cx_wt (show n9 < 16 by omega)) (show j < xF κ by omega) (show xF κ < 2 ^ 31 by omega) dX0_shiftWeights_114 (fun H locs hP hS => ?_)
          have hP := px_wt (show n9 < 16 by omega) hP
          refine lv_iinc (v := nI (j + 1)) (lv' := [(4, .int (nI (j + 1))), (7, .double (szF (FP.dsub (FP.i2d (nI (xEv κ e9 j))) (xMn κ n9 j)))), (5, .double (szF (FP.dsub (FP.i2d (nI (xEv κ e9 j))) (xMn κ c9 j)))), (0, .ref (ad 0)), (1, .ref (ad (3 + e9))), (2, .int (nI (c9))), (3, .int (nI (n9)))]) hx hb dX0_shiftWeights_115 hl (k := 2) rfl (nI_1 _) (by decide) rfl (fun ls hl => ?_)
          refine lv_goto (tgt := 3) hx hb dX0_shiftWeights_118 (by decide) ?_
          exact ih (j + 1) _ _ _ (by omega) (by omega) (by rw [e8]; exact hP) hS (lv_sub hl [0, 3, 4, 5, 6] rfl)
      · refine lv_aload_n hx hb dX0_shiftWeights_60 rfl (lv_at hl 3 rfl) ?_
        refine gx hx hb hts innX0_shiftWeights hown hK hP 9 (by decide) (by decide +kernel) rfl (v := .ref (ad 62)) rfl dX0_shiftWeights_61 ?_
        refine lv_iload_n hx hb dX0_shiftWeights_64 rfl (lv_at hl 5 rfl) ?_
        refine z_aald 3 hx hb hK hP 62 (by decide) cx_wtO rfl rfl (show c9 < 16 by omega) (by decide) (if_pos (show c9 < 16 by omega)) dX0_shiftWeights_65 ?_
        refine lv_iload hx hb dX0_shiftWeights_66 (lv_at hl 2 rfl) ?_
        refine lv_aload_n hx hb dX0_shiftWeights_68 rfl (lv_at hl 3 rfl) ?_
        refine gx hx hb hts innX0_shiftWeights hown hK hP 9 (by decide) (by decide +kernel) rfl (v := .ref (ad 62)) rfl dX0_shiftWeights_69 ?_
        refine lv_iload_n hx hb dX0_shiftWeights_72 rfl (lv_at hl 5 rfl) ?_
        refine z_aald 3 hx hb hK hP 62 (by decide) cx_wtO rfl rfl (show c9 < 16 by omega) (by decide) (if_pos (show c9 < 16 by omega)) dX0_shiftWeights_73 ?_
        refine lv_iload hx hb dX0_shiftWeights_74 (lv_at hl 2 rfl) ?_
        refine z_dald hx hb hK hP (63 + c9) (show 63 + c9 < 96 by omega) (cx_wt (show c9 < 16 by omega)) (show j < xF κ by omega) (show xF κ < 2 ^ 31 by omega) dX0_shiftWeights_76 ?_
        refine lv_ldc2d hx hb hown (hts (.constantDouble RX0 128 k875) (by decide +kernel)) dX0_shiftWeights_77 ?_
        refine lv_dmul hx hb dX0_shiftWeights_80 (mg_n64 (mg_dmul (K := K) hwc mg_875 (by omega) (by decide) (by omega) (by decide) (by omega) (by omega)) (by omega)) ?_
        have e8 : shW (xMn κ) (xEv κ e9) c9 n9 (xWt κ) (j + 1) = up2 (shW (xMn κ) (xEv κ e9) c9 n9 (xWt κ) j) c9 j (FP.dmul (shW (xMn κ) (xEv κ e9) c9 n9 (xWt κ) j c9 j) k875) := if_pos h1
        refine z_dast hx hb hK hP hap hA hS (63 + c9) (show 63 + c9 < 96 by omega) (cx_wt (show c9 < 16 by omega)) (show j < xF κ by omega) (show xF κ < 2 ^ 31 by omega) dX0_shiftWeights_81 (fun H locs hP hS => ?_)
        have hP := px_wt (show c9 < 16 by omega) hP
        refine lv_goto (tgt := 115) hx hb dX0_shiftWeights_82 (by decide) ?_
        refine lv_iinc (v := nI (j + 1)) (lv' := [(4, .int (nI (j + 1))), (7, .double (szF (FP.dsub (FP.i2d (nI (xEv κ e9 j))) (xMn κ n9 j)))), (5, .double (szF (FP.dsub (FP.i2d (nI (xEv κ e9 j))) (xMn κ c9 j)))), (0, .ref (ad 0)), (1, .ref (ad (3 + e9))), (2, .int (nI (c9))), (3, .int (nI (n9)))]) hx hb dX0_shiftWeights_115 hl (k := 2) rfl (nI_1 _) (by decide) rfl (fun ls hl => ?_)
        refine lv_goto (tgt := 3) hx hb dX0_shiftWeights_118 (by decide) ?_
        exact ih (j + 1) _ _ _ (by omega) (by omega) (by rw [e8]; exact hP) hS (lv_sub hl [0, 3, 4, 5, 6] rfl)
set_option maxHeartbeats 4000000 in
set_option maxRecDepth 100000 in
theorem kX0_shiftWeights (l : Launch) (E : zE) (ad : Nat → Nat) (hap : apart 96 ad) (κ : SX) (e9 c9 n9 K : Nat) (hF : xF κ ≤ 16) (he : e9 < 40) (hc : c9 < 16) (hn9 : n9 < 16) (hK1 : 1023 ≤ K) (hK2 : K ≤ 1900) (hwB : wB (xF κ) K (xWt κ)) (hmn : ∀ c, c < 16 → ∀ f, f < xF κ → mg 1057 (xMn κ c f)) : Met l yX0_shiftWeights wsX0_shiftWeights ({ frames := 1, cells := 0, slots := 0, locals := 21 }) (va_Pc [.ref (ad 0), .ref (ad (3 + e9)), .int (nI (c9)), .int (nI (n9))] (fun U => PX E ad κ U.heap ∧ zK E U)) (va_Qv (fun κ' : SX => κ' = sxWt κ (shW (xMn κ) (xEv κ e9) c9 n9 (xWt κ) (xF κ))) (fun κ' t => PX E ad κ' t.heap) (aX 96 ad)) 0 0 (aX 96 ad) := by
  refine Met.ofW (cc := cX0_shiftWeights) (maxL := 9) (ret := none) (by decide) rfl ?_
  intro p e s m args below meth c s₁ B hml hv
  obtain ⟨rfl, hP, hK⟩ := hv
  have hx := B.exec
  have hb := B.bytes
  have hr := B.returns
  have hts := atoms_spec (ws := wsX0_shiftWeights) B.pre
  have hown : s.vm.findClass RX0 = some m.cls := findClass_of_methodNamed B.named
  have hlocks := B.notSynchronized
  have hS : va_S (aX 96 ad) s.heap s.heap [] := va_S.rf
  have hA : ∀ k, k < 96 → aX 96 ad (ad k) := fun k hk => ⟨k, hk, rfl⟩
  have hRf : 1 ≤ ((headSpec wsX0_shiftWeights ({ frames := 1, cells := 0, slots := 0, locals := 21 })).room).frames := Nat.le_of_ble_eq_true rfl
  have hRl : 21 ≤ ((headSpec wsX0_shiftWeights ({ frames := 1, cells := 0, slots := 0, locals := 21 })).room).locals := Nat.le_of_ble_eq_true rfl
  have hl := lv_entry ([.ref (ad 0), .ref (ad (3 + e9)), .int (nI (c9)), .int (nI (n9))]) (n := 9) (Nat.le_of_ble_eq_true rfl)
  rw [lg_entry_eq]
  generalize (lg_sl ([.ref (ad 0), .ref (ad (3 + e9)), .int (nI (c9)), .int (nI (n9))]) ++ List.replicate (9 - (lg_sl ([.ref (ad 0), .ref (ad (3 + e9)), .int (nI (c9)), .int (nI (n9))])).length) Slot.unset).toArray = ls at hl ⊢
  have hl : lv_has ls 9 [(0, .ref (ad 0)), (1, .ref (ad (3 + e9))), (2, .int (nI (c9))), (3, .int (nI (n9)))] := hl
  refine lv_iconst (v := nI 0) hx hb dX0_shiftWeights_0 (by decide +kernel) ?_
  refine lv_istore (lv' := [(4, .int (nI (0))), (0, .ref (ad 0)), (1, .ref (ad (3 + e9))), (2, .int (nI (c9))), (3, .int (nI (n9)))]) hx hb dX0_shiftWeights_1 hl (by decide) rfl (fun ls hl => ?_)
  refine lp_X0_shiftWeights hx hb hml hts hown hK hap hRf hRl κ e9 c9 n9 K hF he hc hn9 hK1 hK2 hwB hmn (fun H locs ls hP hS hl => ?_) (xF κ + 1) 0 _ _ _ (by omega) (by omega) hP hS (lv_sub hl [0, 1, 2, 3, 4] rfl)
  exact W.vret hx hb hr (fun t ht hW => ⟨⟨_, rfl, rfl, (wn_h ht hP)⟩, hS.F ht⟩) hS.2.2 dX0_shiftWeights_121
set_option maxHeartbeats 4000000 in
set_option maxRecDepth 100000 in
theorem lp_X0_goRound {p : Program} {l : Launch} {e : Env} {R : Room} {s : State} {m : MethodId} {args : Array Value} {below : List Frame} {meth : Method} {c : Code} {Q : State → Prop} {E : zE} {ad : Nat → Nat} (hx : p.tables.exec = Jvm.exec) (hb : c.code = cX0_goRound) (hml : c.maxLocals = 4) (hts : ∀ w ∈ wsX0_goRound, w.before args s = true) (hown : s.vm.findClass RX0 = some m.cls) (hK : zK E s) (hap : apart 96 ad) {H0 : Heap} (hRf : 3 ≤ R.frames) (hRl : 74 ≤ R.locals) (κ : SX) (K : Nat) (hF : xF κ ≤ 16) (hN : xN κ ≤ 40) (hec : ∀ e, xEc κ e < 16) (hmb : ∀ c, c < 16 → xMb κ c < 2 ^ 31) (hK1 : 1023 ≤ K) (hK2 : K ≤ 1860) (hwB : wB (xF κ) K (xWt κ)) (hmn : ∀ c, c < 16 → ∀ f, f < xF κ → mg 1057 (xMn κ c f))
    (exit : ∀ (H : Heap) (locs : List Loc) (ls : Array Slot), PX E ad (sxWt κ (rdX κ (xWt κ) (xN κ))) H → va_S (aX 96 ad) H0 H locs → lv_has ls 4 [(0, .ref (ad 0))] → W p l e R s m args below meth c H locs 0 0 Q (F0 m 59 ls [])) :
    ∀ (n i : Nat) (H : Heap) (locs : List Loc) (ls : Array Slot), i ≤ xN κ → xN κ - i < n → PX E ad (sxWt κ (rdX κ (xWt κ) i)) H → va_S (aX 96 ad) H0 H locs → lv_has ls 4 [(1, .int (nI (i))), (0, .ref (ad 0))] → W p l e R s m args below meth c H locs 0 0 Q (F0 m 2 ls []) := by
  have hA : ∀ k, k < 96 → aX 96 ad (ad k) := fun k hk => ⟨k, hk, rfl⟩
  intro n
  induction n with
  | zero => intro i H locs ls h1 h2; omega
  | succ n ih =>
    intro i H locs ls hi hn hP hS hl
    refine lv_iload_n hx hb dX0_goRound_2 rfl (lv_at hl 0 rfl) ?_
    refine lv_aload_n hx hb dX0_goRound_3 rfl (lv_at hl 1 rfl) ?_
    refine gx hx hb hts innX0_goRound hown hK hP 3 (by decide) (by decide +kernel) rfl (v := .int (nI ((xN κ)))) rfl dX0_goRound_4 ?_
    refine zb_ge (tgt := 59) hx hb (show i < 2 ^ 31 by omega) (show (xN κ) < 2 ^ 31 by omega) dX0_goRound_7 (by decide) (fun h => ?_) (fun h => ?_)
    · have h : (xN κ) ≤ i := h
      have hend : i = xN κ := by omega
      subst hend
      exact exit _ _ _ hP hS (lv_sub hl [1] rfl)
    · have h : i < (xN κ) := h
      have hci := hec i
      have hwi := rdX_mg (κ := κ) hec hK1 hwB i (by omega)
      refine lv_aload_n hx hb dX0_goRound_10 rfl (lv_at hl 1 rfl) ?_
      refine gx hx hb hts innX0_goRound hown hK hP 1 (by decide) (by decide +kernel) rfl (v := .ref (ad 1)) rfl dX0_goRound_11 ?_
      refine lv_iload_n hx hb dX0_goRound_14 rfl (lv_at hl 0 rfl) ?_
      refine z_iald hx hb hK hP 1 (by decide) cx_ec (show i < 40 by omega) (by decide) dX0_goRound_15 ?_
      refine lv_istore_n (lv' := [(2, .int (nI ((xEc κ) (i)))), (1, .int (nI (i))), (0, .ref (ad 0))]) hx hb dX0_goRound_16 rfl hl (by decide) rfl (fun ls hl => ?_)
      refine lv_aload_n hx hb dX0_goRound_17 rfl (lv_at hl 2 rfl) ?_
      refine lv_aload_n hx hb dX0_goRound_18 rfl (lv_at hl 2 rfl) ?_
      refine gx hx hb hts innX0_goRound hown hK hP 2 (by decide) (by decide +kernel) rfl (v := .ref (ad 2)) rfl dX0_goRound_19 ?_
      refine lv_iload_n hx hb dX0_goRound_22 rfl (lv_at hl 1 rfl) ?_
      refine z_aald 1 hx hb hK hP 2 (by decide) cx_evO rfl rfl (show i < 40 by omega) (by decide) (if_pos (show i < 40 by omega)) dX0_goRound_23 ?_
      refine lv_iconst (v := -1) hx hb dX0_goRound_24 (by decide +kernel) ?_
      refine va_calli (va_runV (As := [.ref (ad (3 + i)), .int (-1)]) (rest := []) ⟨hx, hb, hml, hown, hts⟩ (kX0_nearestClass l E ad hap (sxWt κ (rdX κ (xWt κ) i)) (3 + i) (K + i) (xEv κ i) (-1) hF hmb (by omega) (cx_ev (κ := sxWt κ (rdX κ (xWt κ) i)) (show i < 40 by omega)) (by omega) (by omega) (fun c hc f hf => ⟨hwi c f ⟨hc, hf⟩, hmn c hc f hf⟩)) (cwV 2 hts gX0_goRound_X0_nearestClass rfl rfl rfl (by decide +kernel) ⟨Nat.le_trans (Nat.le_of_ble_eq_true rfl) hRf, Nat.le_trans (Nat.le_of_ble_eq_true rfl) hRl⟩) (zpx hK hP) rfl rfl hl.1 rfl (lv_room (Nat.le_of_ble_eq_true rfl)) dX0_goRound_25 ⟨Nat.zero_le _, Nat.zero_le _⟩) hS (fun q _ h => h.elim) (fun q h => h.elim) (fun r u9 t9 H locs ht9 hvm9 hw9 hB9 hz9 hk9 hS => ?_)
      have hP := wn_ro hP hk9
      rcases nearX_cases (sxWt κ (rdX κ (xWt κ) i)) (xEv κ i) (-1) with e9 | ⟨j, hj, -, -, e9⟩
      · rw [e9] at hw9
        subst hw9
        have e8 : rdX κ (xWt κ) (i + 1) = rdX κ (xWt κ) i := if_pos (Or.inl e9)
        refine lv_istore_n (lv' := [(3, .int (-1)), (2, .int (nI ((xEc κ) (i)))), (1, .int (nI (i))), (0, .ref (ad 0))]) hx hb dX0_goRound_28 rfl hl (by decide) rfl (fun ls hl => ?_)
        refine lv_iload_n hx hb dX0_goRound_29 rfl (lv_at hl 0 rfl) ?_
        refine va_calli (va_runS (As := [.int (-1)]) (rest := []) ⟨hx, hb, hml, hown, hts⟩ (kX0_isClass l (-1)) (va_cwS 1 hts gX0_goRound_X0_isClass rfl rfl rfl (by decide +kernel) ⟨Nat.le_trans (Nat.le_of_ble_eq_true rfl) hRf, Nat.le_trans (Nat.le_of_ble_eq_true rfl) hRl⟩) zps rfl rfl hl.1 rfl (lv_room (Nat.le_of_ble_eq_true rfl)) dX0_goRound_30 ⟨Nat.zero_le _, Nat.zero_le _⟩) hS (fun q _ h => h.elim) (fun q h => h.elim) (fun r u9 t9 H locs ht9 hvm9 hw9 hB9 hz9 hk9 hS => ?_)
        have hP := wn_ro hP hk9
        obtain ⟨hno, rfl⟩ := hw9.resolve_left (fun ⟨j, hj, q, _⟩ => m1_ne (show j < 2 ^ 31 by omega) q.symm)
        refine zu_eq (tgt := 53) hx hb (show 0 < 2 ^ 31 by omega) dX0_goRound_33 (by decide) (fun h1 => ?_) (fun h1 => ?_)
        · have h1 : 0 = 0 := h1
          refine lv_iinc (v := nI (i + 1)) (lv' := [(1, .int (nI (i + 1))), (3, .int (-1)), (2, .int (nI ((xEc κ) (i)))), (0, .ref (ad 0))]) hx hb dX0_goRound_53 hl (k := 2) rfl (nI_1 _) (by decide) rfl (fun ls hl => ?_)
          refine lv_goto (tgt := 2) hx hb dX0_goRound_56 (by decide) ?_
          exact ih (i + 1) _ _ _ (by omega) (by omega) (by rw [e8]; exact hP) hS (lv_sub hl [0, 3] rfl)
        · have h1 : 0 < 0 := h1
          exact absurd h1 (by decide)
      · rw [e9] at hw9
        subst hw9
        refine lv_istore_n (lv' := [(3, .int (nI (j))), (2, .int (nI ((xEc κ) (i)))), (1, .int (nI (i))), (0, .ref (ad 0))]) hx hb dX0_goRound_28 rfl hl (by decide) rfl (fun ls hl => ?_)
        refine lv_iload_n hx hb dX0_goRound_29 rfl (lv_at hl 0 rfl) ?_
        refine va_calli (va_runS (As := [.int (nI (j))]) (rest := []) ⟨hx, hb, hml, hown, hts⟩ (kX0_isClass l (nI j)) (va_cwS 1 hts gX0_goRound_X0_isClass rfl rfl rfl (by decide +kernel) ⟨Nat.le_trans (Nat.le_of_ble_eq_true rfl) hRf, Nat.le_trans (Nat.le_of_ble_eq_true rfl) hRl⟩) zps rfl rfl hl.1 rfl (lv_room (Nat.le_of_ble_eq_true rfl)) dX0_goRound_30 ⟨Nat.zero_le _, Nat.zero_le _⟩) hS (fun q _ h => h.elim) (fun q h => h.elim) (fun r u9 t9 H locs ht9 hvm9 hw9 hB9 hz9 hk9 hS => ?_)
        have hP := wn_ro hP hk9
        obtain ⟨j9, -, -, rfl⟩ := hw9.resolve_right (fun q => q.1 j hj rfl)
        refine zu_eq (tgt := 53) hx hb (show 1 < 2 ^ 31 by omega) dX0_goRound_33 (by decide) (fun h1 => ?_) (fun h1 => ?_)
        · have h1 : 1 = 0 := h1
          exact absurd h1 (by decide)
        · have h1 : 0 < 1 := h1
          refine lv_iload_n hx hb dX0_goRound_36 rfl (lv_at hl 0 rfl) ?_
          refine lv_iload_n hx hb dX0_goRound_37 rfl (lv_at hl 1 rfl) ?_
          refine zb_eq (tgt := 53) hx hb (show j < 2 ^ 31 by omega) (show (xEc κ) (i) < 2 ^ 31 by omega) dX0_goRound_38 (by decide) (fun h2 => ?_) (fun h2 => ?_)
          · have h2 : j = ((xEc κ) (i)) := h2
            have e8 : rdX κ (xWt κ) (i + 1) = rdX κ (xWt κ) i := if_pos (Or.inr (by rw [e9, h2]))
            refine lv_iinc (v := nI (i + 1)) (lv' := [(1, .int (nI (i + 1))), (3, .int (nI (j))), (2, .int (nI ((xEc κ) (i)))), (0, .ref (ad 0))]) hx hb dX0_goRound_53 hl (k := 2) rfl (nI_1 _) (by decide) rfl (fun ls hl => ?_)
            refine lv_goto (tgt := 2) hx hb dX0_goRound_56 (by decide) ?_
            exact ih (i + 1) _ _ _ (by omega) (by omega) (by rw [e8]; exact hP) hS (lv_sub hl [0, 3] rfl)
          · have h2 : j ≠ ((xEc κ) (i)) := h2
            have e8 : rdX κ (xWt κ) (i + 1) = shW (xMn κ) (xEv κ i) (xEc κ i) j (rdX κ (xWt κ) i) (xF κ) := by
              rw [rdX, if_neg (fun q => by rw [e9] at q; exact q.elim (fun z => m1_ne (by omega) z) (fun z => h2 ((nI_eq (by omega) (by omega)).mp z))), e9, nI_clamp (by omega)]
            refine lv_aload_n hx hb dX0_goRound_41 rfl (lv_at hl 3 rfl) ?_
            refine lv_aload_n hx hb dX0_goRound_42 rfl (lv_at hl 3 rfl) ?_
            refine gx hx hb hts innX0_goRound hown hK hP 2 (by decide) (by decide +kernel) rfl (v := .ref (ad 2)) rfl dX0_goRound_43 ?_
            refine lv_iload_n hx hb dX0_goRound_46 rfl (lv_at hl 2 rfl) ?_
            refine z_aald 1 hx hb hK hP 2 (by decide) cx_evO rfl rfl (show i < 40 by omega) (by decide) (if_pos (show i < 40 by omega)) dX0_goRound_47 ?_
            refine lv_iload_n hx hb dX0_goRound_48 rfl (lv_at hl 1 rfl) ?_
            refine lv_iload_n hx hb dX0_goRound_49 rfl (lv_at hl 0 rfl) ?_
            refine va_callv (va_runV (As := [.ref (ad (3 + i)), .int (nI ((xEc κ) (i))), .int (nI (j))]) (rest := []) ⟨hx, hb, hml, hown, hts⟩ (kX0_shiftWeights l E ad hap (sxWt κ (rdX κ (xWt κ) i)) i (xEc κ i) j (K + i) hF (by omega) hci hj (by omega) (by omega) hwi hmn) (cwV 3 hts gX0_goRound_X0_shiftWeights rfl rfl rfl (by decide +kernel) ⟨Nat.le_trans (Nat.le_of_ble_eq_true rfl) hRf, Nat.le_trans (Nat.le_of_ble_eq_true rfl) hRl⟩) (zpx hK hP) rfl rfl hl.1 rfl (lv_room (Nat.le_of_ble_eq_true rfl)) dX0_goRound_50 ⟨Nat.zero_le _, Nat.zero_le _⟩) hS (fun q _ h => h) (fun q h => h) (fun u9 t9 H locs ht9 hvm9 hw9 hB9 hz9 hk9 hS => ?_)
            rw [ht9] at hB9
            have hP := hB9
            subst hw9
            refine lv_iinc (v := nI (i + 1)) (lv' := [(1, .int (nI (i + 1))), (3, .int (nI (j))), (2, .int (nI ((xEc κ) (i)))), (0, .ref (ad 0))]) hx hb dX0_goRound_53 hl (k := 2) rfl (nI_1 _) (by decide) rfl (fun ls hl => ?_)
            refine lv_goto (tgt := 2) hx hb dX0_goRound_56 (by decide) ?_
            exact ih (i + 1) _ _ _ (by omega) (by omega) (by rw [e8]; exact hP) hS (lv_sub hl [0, 3] rfl)
set_option maxHeartbeats 4000000 in
set_option maxRecDepth 100000 in
theorem kX0_goRound (l : Launch) (E : zE) (ad : Nat → Nat) (hap : apart 96 ad) (κ : SX) (K : Nat) (hF : xF κ ≤ 16) (hN : xN κ ≤ 40) (hec : ∀ e, xEc κ e < 16) (hmb : ∀ c, c < 16 → xMb κ c < 2 ^ 31) (hK1 : 1023 ≤ K) (hK2 : K ≤ 1860) (hwB : wB (xF κ) K (xWt κ)) (hmn : ∀ c, c < 16 → ∀ f, f < xF κ → mg 1057 (xMn κ c f)) : Met l yX0_goRound wsX0_goRound ({ frames := 3, cells := 0, slots := 0, locals := 74 }) (va_Pc [.ref (ad 0)] (fun U => PX E ad κ U.heap ∧ zK E U)) (va_Qv (fun κ' : SX => κ' = sxWt κ (rdX κ (xWt κ) (xN κ))) (fun κ' t => PX E ad κ' t.heap) (aX 96 ad)) 0 0 (aX 96 ad) := by
  refine Met.ofW (cc := cX0_goRound) (maxL := 4) (ret := none) (by decide) rfl ?_
  intro p e s m args below meth c s₁ B hml hv
  obtain ⟨rfl, hP, hK⟩ := hv
  have hx := B.exec
  have hb := B.bytes
  have hr := B.returns
  have hts := atoms_spec (ws := wsX0_goRound) B.pre
  have hown : s.vm.findClass RX0 = some m.cls := findClass_of_methodNamed B.named
  have hlocks := B.notSynchronized
  have hS : va_S (aX 96 ad) s.heap s.heap [] := va_S.rf
  have hA : ∀ k, k < 96 → aX 96 ad (ad k) := fun k hk => ⟨k, hk, rfl⟩
  have hRf : 3 ≤ ((headSpec wsX0_goRound ({ frames := 3, cells := 0, slots := 0, locals := 74 })).room).frames := Nat.le_of_ble_eq_true rfl
  have hRl : 74 ≤ ((headSpec wsX0_goRound ({ frames := 3, cells := 0, slots := 0, locals := 74 })).room).locals := Nat.le_of_ble_eq_true rfl
  have hl := lv_entry ([.ref (ad 0)]) (n := 4) (Nat.le_of_ble_eq_true rfl)
  rw [lg_entry_eq]
  generalize (lg_sl ([.ref (ad 0)]) ++ List.replicate (4 - (lg_sl ([.ref (ad 0)])).length) Slot.unset).toArray = ls at hl ⊢
  have hl : lv_has ls 4 [(0, .ref (ad 0))] := hl
  refine lv_iconst (v := nI 0) hx hb dX0_goRound_0 (by decide +kernel) ?_
  refine lv_istore_n (lv' := [(1, .int (nI (0))), (0, .ref (ad 0))]) hx hb dX0_goRound_1 rfl hl (by decide) rfl (fun ls hl => ?_)
  refine lp_X0_goRound hx hb hml hts hown hK hap hRf hRl κ K hF hN hec hmb hK1 hK2 hwB hmn (fun H locs ls hP hS hl => ?_) (xN κ + 1) 0 _ _ _ (by omega) (by omega) hP hS (lv_sub hl [0, 1] rfl)
  exact W.vret hx hb hr (fun t ht hW => ⟨⟨_, rfl, rfl, (wn_h ht hP)⟩, hS.F ht⟩) hS.2.2 dX0_goRound_59
set_option maxHeartbeats 4000000 in
set_option maxRecDepth 100000 in
theorem lp_X0_countConfusions1 {p : Program} {l : Launch} {e : Env} {R : Room} {s : State} {m : MethodId} {args : Array Value} {below : List Frame} {meth : Method} {c : Code} {Q : State → Prop} {E : zE} {ad : Nat → Nat} (hx : p.tables.exec = Jvm.exec) (hb : c.code = cX0_countConfusions) (hml : c.maxLocals = 3) (hts : ∀ w ∈ wsX0_countConfusions, w.before args s = true) (hown : s.vm.findClass RX0 = some m.cls) (hK : zK E s) (hap : apart 96 ad) {H0 : Heap} (hRf : 3 ≤ R.frames) (hRl : 74 ≤ R.locals) (κ : SX) (K : Nat) (hF : xF κ ≤ 16) (hN : xN κ ≤ 40) (hec : ∀ e, xEc κ e < 16) (hmb : ∀ c, c < 16 → xMb κ c < 2 ^ 31) (hK1 : 1023 ≤ K) (hK2 : K ≤ 1900) (hwB : wB (xF κ) K (xWt κ)) (hmn : ∀ c, c < 16 → ∀ f, f < xF κ → mg 1057 (xMn κ c f)) (i : Nat) (hi16 : i < 16)
    (exit : ∀ (H : Heap) (locs : List Loc) (ls : Array Slot), PX E ad (sxCf κ (zrow (zrows (xCf κ) 16 (fun _ => 0) i) i 0 16)) H → va_S (aX 96 ad) H0 H locs → lv_has ls 3 [(1, .int (nI (i))), (0, .ref (ad 0))] → W p l e R s m args below meth c H locs 0 0 Q (F0 m 31 ls [])) :
    ∀ (n j : Nat) (H : Heap) (locs : List Loc) (ls : Array Slot), j ≤ 16 → 16 - j < n → PX E ad (sxCf κ (zrow (zrows (xCf κ) 16 (fun _ => 0) i) i 0 j)) H → va_S (aX 96 ad) H0 H locs → lv_has ls 3 [(2, .int (nI (j))), (1, .int (nI (i))), (0, .ref (ad 0))] → W p l e R s m args below meth c H locs 0 0 Q (F0 m 10 ls []) := by
  have hA : ∀ k, k < 96 → aX 96 ad (ad k) := fun k hk => ⟨k, hk, rfl⟩
  intro n
  induction n with
  | zero => intro j H locs ls h1 h2; omega
  | succ n ih =>
    intro j H locs ls hi hn hP hS hl
    refine lv_iload_n hx hb dX0_countConfusions_10 rfl (lv_at hl 0 rfl) ?_
    refine lv_bipush (v := nI 16) hx hb dX0_countConfusions_11 (by decide +kernel) ?_
    refine zb_ge (tgt := 31) hx hb (show j < 2 ^ 31 by omega) (show 16 < 2 ^ 31 by omega) dX0_countConfusions_13 (by decide) (fun h => ?_) (fun h => ?_)
    · have h : 16 ≤ j := h
      have hend : j = 16 := by omega
      subst hend
      exact exit _ _ _ hP hS (lv_sub hl [1, 2] rfl)
    · have h : j < 16 := h
      refine lv_aload_n hx hb dX0_countConfusions_16 rfl (lv_at hl 2 rfl) ?_
      refine gx hx hb hts innX0_countConfusions hown hK hP 10 (by decide) (by decide +kernel) rfl (v := .ref (ad 79)) rfl dX0_countConfusions_17 ?_
      refine lv_iload_n hx hb dX0_countConfusions_20 rfl (lv_at hl 1 rfl) ?_
      refine z_aald 1 hx hb hK hP 79 (by decide) cx_cfO rfl rfl (show i < 16 by omega) (by decide) (if_pos (show i < 16 by omega)) dX0_countConfusions_21 ?_
      refine lv_iload_n hx hb dX0_countConfusions_22 rfl (lv_at hl 0 rfl) ?_
      refine lv_iconst (v := nI 0) hx hb dX0_countConfusions_23 (by decide +kernel) ?_
      refine z_iast hx hb hK hP hap hA hS (80 + i) (show 80 + i < 96 by omega) (cx_cf (show i < 16 by omega)) (show j < 16 by omega) (by decide) dX0_countConfusions_24 (fun H locs hP hS => ?_)
      have hP := px_cf (show i < 16 by omega) hP
      refine lv_iinc (v := nI (j + 1)) (lv' := [(2, .int (nI (j + 1))), (1, .int (nI (i))), (0, .ref (ad 0))]) hx hb dX0_countConfusions_25 hl (k := 0) rfl (nI_1 _) (by decide) rfl (fun ls hl => ?_)
      refine lv_goto (tgt := 10) hx hb dX0_countConfusions_28 (by decide) ?_
      exact ih (j + 1) _ _ _ (by omega) (by omega) hP hS (lv_sub hl [0, 1, 2] rfl)
set_option maxHeartbeats 4000000 in
set_option maxRecDepth 100000 in
theorem lp_X0_countConfusions2 {p : Program} {l : Launch} {e : Env} {R : Room} {s : State} {m : MethodId} {args : Array Value} {below : List Frame} {meth : Method} {c : Code} {Q : State → Prop} {E : zE} {ad : Nat → Nat} (hx : p.tables.exec = Jvm.exec) (hb : c.code = cX0_countConfusions) (hml : c.maxLocals = 3) (hts : ∀ w ∈ wsX0_countConfusions, w.before args s = true) (hown : s.vm.findClass RX0 = some m.cls) (hK : zK E s) (hap : apart 96 ad) {H0 : Heap} (hRf : 3 ≤ R.frames) (hRl : 74 ≤ R.locals) (κ : SX) (K : Nat) (hF : xF κ ≤ 16) (hN : xN κ ≤ 40) (hec : ∀ e, xEc κ e < 16) (hmb : ∀ c, c < 16 → xMb κ c < 2 ^ 31) (hK1 : 1023 ≤ K) (hK2 : K ≤ 1900) (hwB : wB (xF κ) K (xWt κ)) (hmn : ∀ c, c < 16 → ∀ f, f < xF κ → mg 1057 (xMn κ c f))
    (exit : ∀ (H : Heap) (locs : List Loc) (ls : Array Slot), PX E ad (sxCf κ (zrows (xCf κ) 16 (fun _ => 0) 16)) H → va_S (aX 96 ad) H0 H locs → lv_has ls 3 [(0, .ref (ad 0))] → W p l e R s m args below meth c H locs 0 0 Q (F0 m 37 ls [])) :
    ∀ (n i : Nat) (H : Heap) (locs : List Loc) (ls : Array Slot), i ≤ 16 → 16 - i < n → PX E ad (sxCf κ (zrows (xCf κ) 16 (fun _ => 0) i)) H → va_S (aX 96 ad) H0 H locs → lv_has ls 3 [(1, .int (nI (i))), (0, .ref (ad 0))] → W p l e R s m args below meth c H locs 0 0 Q (F0 m 2 ls []) := by
  have hA : ∀ k, k < 96 → aX 96 ad (ad k) := fun k hk => ⟨k, hk, rfl⟩
  intro n
  induction n with
  | zero => intro i H locs ls h1 h2; omega
  | succ n ih =>
    intro i H locs ls hi hn hP hS hl
    refine lv_iload_n hx hb dX0_countConfusions_2 rfl (lv_at hl 0 rfl) ?_
    refine lv_bipush (v := nI 16) hx hb dX0_countConfusions_3 (by decide +kernel) ?_
    refine zb_ge (tgt := 37) hx hb (show i < 2 ^ 31 by omega) (show 16 < 2 ^ 31 by omega) dX0_countConfusions_5 (by decide) (fun h => ?_) (fun h => ?_)
    · have h : 16 ≤ i := h
      have hend : i = 16 := by omega
      subst hend
      exact exit _ _ _ hP hS (lv_sub hl [1] rfl)
    · have h : i < 16 := h
      refine lv_iconst (v := nI 0) hx hb dX0_countConfusions_8 (by decide +kernel) ?_
      refine lv_istore_n (lv' := [(2, .int (nI (0))), (1, .int (nI (i))), (0, .ref (ad 0))]) hx hb dX0_countConfusions_9 rfl hl (by decide) rfl (fun ls hl => ?_)
      refine lp_X0_countConfusions1 hx hb hml hts hown hK hap hRf hRl κ K hF hN hec hmb hK1 hK2 hwB hmn i h (fun H locs ls hP hS hl => ?_) (16 + 1) 0 _ _ _ (by omega) (by omega) hP hS (lv_sub hl [0, 1, 2] rfl)
      refine lv_iinc (v := nI (i + 1)) (lv' := [(1, .int (nI (i + 1))), (0, .ref (ad 0))]) hx hb dX0_countConfusions_31 hl (k := 0) rfl (nI_1 _) (by decide) rfl (fun ls hl => ?_)
      refine lv_goto (tgt := 2) hx hb dX0_countConfusions_34 (by decide) ?_
      exact ih (i + 1) _ _ _ (by omega) (by omega) hP hS (lv_sub hl [0, 1] rfl)
set_option maxHeartbeats 4000000 in
set_option maxRecDepth 100000 in
theorem lp_X0_countConfusions3 {p : Program} {l : Launch} {e : Env} {R : Room} {s : State} {m : MethodId} {args : Array Value} {below : List Frame} {meth : Method} {c : Code} {Q : State → Prop} {E : zE} {ad : Nat → Nat} (hx : p.tables.exec = Jvm.exec) (hb : c.code = cX0_countConfusions) (hml : c.maxLocals = 3) (hts : ∀ w ∈ wsX0_countConfusions, w.before args s = true) (hown : s.vm.findClass RX0 = some m.cls) (hK : zK E s) (hap : apart 96 ad) {H0 : Heap} (hRf : 3 ≤ R.frames) (hRl : 74 ≤ R.locals) (κ : SX) (K : Nat) (hF : xF κ ≤ 16) (hN : xN κ ≤ 40) (hec : ∀ e, xEc κ e < 16) (hmb : ∀ c, c < 16 → xMb κ c < 2 ^ 31) (hK1 : 1023 ≤ K) (hK2 : K ≤ 1900) (hwB : wB (xF κ) K (xWt κ)) (hmn : ∀ c, c < 16 → ∀ f, f < xF κ → mg 1057 (xMn κ c f))
    (exit : ∀ (H : Heap) (locs : List Loc) (ls : Array Slot), PX E ad (sxCf κ (cfX κ (zrows (xCf κ) 16 (fun _ => 0) 16) (xN κ))) H → va_S (aX 96 ad) H0 H locs → lv_has ls 3 [(0, .ref (ad 0))] → W p l e R s m args below meth c H locs 0 0 Q (F0 m 89 ls [])) :
    ∀ (n i : Nat) (H : Heap) (locs : List Loc) (ls : Array Slot), i ≤ xN κ → xN κ - i < n → PX E ad (sxCf κ (cfX κ (zrows (xCf κ) 16 (fun _ => 0) 16) i)) H → va_S (aX 96 ad) H0 H locs → lv_has ls 3 [(1, .int (nI (i))), (0, .ref (ad 0))] → W p l e R s m args below meth c H locs 0 0 Q (F0 m 39 ls []) := by
  have hA : ∀ k, k < 96 → aX 96 ad (ad k) := fun k hk => ⟨k, hk, rfl⟩
  intro n
  induction n with
  | zero => intro i H locs ls h1 h2; omega
  | succ n ih =>
    intro i H locs ls hi hn hP hS hl
    refine lv_iload_n hx hb dX0_countConfusions_39 rfl (lv_at hl 0 rfl) ?_
    refine lv_aload_n hx hb dX0_countConfusions_40 rfl (lv_at hl 1 rfl) ?_
    refine gx hx hb hts innX0_countConfusions hown hK hP 3 (by decide) (by decide +kernel) rfl (v := .int (nI ((xN κ)))) rfl dX0_countConfusions_41 ?_
    refine zb_ge (tgt := 89) hx hb (show i < 2 ^ 31 by omega) (show (xN κ) < 2 ^ 31 by omega) dX0_countConfusions_44 (by decide) (fun h => ?_) (fun h => ?_)
    · have h : (xN κ) ≤ i := h
      have hend : i = xN κ := by omega
      subst hend
      exact exit _ _ _ hP hS (lv_sub hl [1] rfl)
    · have h : i < (xN κ) := h
      have hci := hec i
      refine lv_aload_n hx hb dX0_countConfusions_47 rfl (lv_at hl 1 rfl) ?_
      refine lv_aload_n hx hb dX0_countConfusions_48 rfl (lv_at hl 1 rfl) ?_
      refine gx hx hb hts innX0_countConfusions hown hK hP 2 (by decide) (by decide +kernel) rfl (v := .ref (ad 2)) rfl dX0_countConfusions_49 ?_
      refine lv_iload_n hx hb dX0_countConfusions_52 rfl (lv_at hl 0 rfl) ?_
      refine z_aald 1 hx hb hK hP 2 (by decide) cx_evO rfl rfl (show i < 40 by omega) (by decide) (if_pos (show i < 40 by omega)) dX0_countConfusions_53 ?_
      refine lv_iconst (v := -1) hx hb dX0_countConfusions_54 (by decide +kernel) ?_
      refine va_calli (va_runV (As := [.ref (ad (3 + i)), .int (-1)]) (rest := []) ⟨hx, hb, hml, hown, hts⟩ (kX0_nearestClass l E ad hap (sxCf κ (cfX κ (zrows (xCf κ) 16 (fun _ => 0) 16) i)) (3 + i) K (xEv κ i) (-1) hF hmb (by omega) (cx_ev (κ := sxCf κ (cfX κ (zrows (xCf κ) 16 (fun _ => 0) 16) i)) (show i < 40 by omega)) hK1 hK2 (fun c hc f hf => ⟨hwB c f ⟨hc, hf⟩, hmn c hc f hf⟩)) (cwV 2 hts gX0_countConfusions_X0_nearestClass rfl rfl rfl (by decide +kernel) ⟨Nat.le_trans (Nat.le_of_ble_eq_true rfl) hRf, Nat.le_trans (Nat.le_of_ble_eq_true rfl) hRl⟩) (zpx hK hP) rfl rfl hl.1 rfl (lv_room (Nat.le_of_ble_eq_true rfl)) dX0_countConfusions_55 ⟨Nat.zero_le _, Nat.zero_le _⟩) hS (fun q _ h => h.elim) (fun q h => h.elim) (fun r u9 t9 H locs ht9 hvm9 hw9 hB9 hz9 hk9 hS => ?_)
      have hP := wn_ro hP hk9
      have hw9 : r = nearX κ (xEv κ i) (-1) := hw9
      rcases nearX_cases κ (xEv κ i) (-1) with e9 | ⟨j, hj, -, -, e9⟩
      · rw [e9] at hw9
        subst hw9
        have e8 : cfX κ (zrows (xCf κ) 16 (fun _ => 0) 16) (i + 1) = cfX κ (zrows (xCf κ) 16 (fun _ => 0) 16) i := if_pos e9
        refine lv_istore_n (lv' := [(2, .int (-1)), (1, .int (nI (i))), (0, .ref (ad 0))]) hx hb dX0_countConfusions_58 rfl hl (by decide) rfl (fun ls hl => ?_)
        refine lv_iload_n hx hb dX0_countConfusions_59 rfl (lv_at hl 0 rfl) ?_
        refine va_calli (va_runS (As := [.int (-1)]) (rest := []) ⟨hx, hb, hml, hown, hts⟩ (kX0_isClass l (-1)) (va_cwS 1 hts gX0_countConfusions_X0_isClass rfl rfl rfl (by decide +kernel) ⟨Nat.le_trans (Nat.le_of_ble_eq_true rfl) hRf, Nat.le_trans (Nat.le_of_ble_eq_true rfl) hRl⟩) zps rfl rfl hl.1 rfl (lv_room (Nat.le_of_ble_eq_true rfl)) dX0_countConfusions_60 ⟨Nat.zero_le _, Nat.zero_le _⟩) hS (fun q _ h => h.elim) (fun q h => h.elim) (fun r u9 t9 H locs ht9 hvm9 hw9 hB9 hz9 hk9 hS => ?_)
        have hP := wn_ro hP hk9
        obtain ⟨hno, rfl⟩ := hw9.resolve_left (fun ⟨j, hj, q, _⟩ => m1_ne (show j < 2 ^ 31 by omega) q.symm)
        refine zu_eq (tgt := 83) hx hb (show 0 < 2 ^ 31 by omega) dX0_countConfusions_63 (by decide) (fun h1 => ?_) (fun h1 => ?_)
        · have h1 : 0 = 0 := h1
          refine lv_iinc (v := nI (i + 1)) (lv' := [(1, .int (nI (i + 1))), (2, .int (-1)), (0, .ref (ad 0))]) hx hb dX0_countConfusions_83 hl (k := 1) rfl (nI_1 _) (by decide) rfl (fun ls hl => ?_)
          refine lv_goto (tgt := 39) hx hb dX0_countConfusions_86 (by decide) ?_
          exact ih (i + 1) _ _ _ (by omega) (by omega) (by rw [e8]; exact hP) hS (lv_sub hl [0, 2] rfl)
        · have h1 : 0 < 0 := h1
          exact absurd h1 (by decide)
      · rw [e9] at hw9
        subst hw9
        have e8 : cfX κ (zrows (xCf κ) 16 (fun _ => 0) 16) (i + 1) = up2 (cfX κ (zrows (xCf κ) 16 (fun _ => 0) 16) i) (xEc κ i) j (cfX κ (zrows (xCf κ) 16 (fun _ => 0) 16) i (xEc κ i) j + 1) := by
          rw [cfX, if_neg (fun q => by rw [e9] at q; exact m1_ne (by omega) q), e9, nI_clamp (by omega)]
        refine lv_istore_n (lv' := [(2, .int (nI (j))), (1, .int (nI (i))), (0, .ref (ad 0))]) hx hb dX0_countConfusions_58 rfl hl (by decide) rfl (fun ls hl => ?_)
        refine lv_iload_n hx hb dX0_countConfusions_59 rfl (lv_at hl 0 rfl) ?_
        refine va_calli (va_runS (As := [.int (nI (j))]) (rest := []) ⟨hx, hb, hml, hown, hts⟩ (kX0_isClass l (nI j)) (va_cwS 1 hts gX0_countConfusions_X0_isClass rfl rfl rfl (by decide +kernel) ⟨Nat.le_trans (Nat.le_of_ble_eq_true rfl) hRf, Nat.le_trans (Nat.le_of_ble_eq_true rfl) hRl⟩) zps rfl rfl hl.1 rfl (lv_room (Nat.le_of_ble_eq_true rfl)) dX0_countConfusions_60 ⟨Nat.zero_le _, Nat.zero_le _⟩) hS (fun q _ h => h.elim) (fun q h => h.elim) (fun r u9 t9 H locs ht9 hvm9 hw9 hB9 hz9 hk9 hS => ?_)
        have hP := wn_ro hP hk9
        obtain ⟨j9, -, -, rfl⟩ := hw9.resolve_right (fun q => q.1 j hj rfl)
        refine zu_eq (tgt := 83) hx hb (show 1 < 2 ^ 31 by omega) dX0_countConfusions_63 (by decide) (fun h1 => ?_) (fun h1 => ?_)
        · have h1 : 1 = 0 := h1
          exact absurd h1 (by decide)
        · have h1 : 0 < 1 := h1
          refine lv_aload_n hx hb dX0_countConfusions_66 rfl (lv_at hl 2 rfl) ?_
          refine gx hx hb hts innX0_countConfusions hown hK hP 10 (by decide) (by decide +kernel) rfl (v := .ref (ad 79)) rfl dX0_countConfusions_67 ?_
          refine lv_aload_n hx hb dX0_countConfusions_70 rfl (lv_at hl 2 rfl) ?_
          refine gx hx hb hts innX0_countConfusions hown hK hP 1 (by decide) (by decide +kernel) rfl (v := .ref (ad 1)) rfl dX0_countConfusions_71 ?_
          refine lv_iload_n hx hb dX0_countConfusions_74 rfl (lv_at hl 1 rfl) ?_
          refine z_iald hx hb hK hP 1 (by decide) cx_ec (show i < 40 by omega) (by decide) dX0_countConfusions_75 ?_
          refine z_aald 1 hx hb hK hP 79 (by decide) cx_cfO rfl rfl (show (xEc κ) (i) < 16 by omega) (by decide) (if_pos (show (xEc κ) (i) < 16 by omega)) dX0_countConfusions_76 ?_
          refine lv_iload_n hx hb dX0_countConfusions_77 rfl (lv_at hl 0 rfl) ?_
          refine lv_dup2_11 hx hb dX0_countConfusions_78 rfl rfl ?_
          refine z_iald hx hb hK hP (80 + ((xEc κ) (i))) (show 80 + ((xEc κ) (i)) < 96 by omega) (cx_cf (show ((xEc κ) (i)) < 16 by omega)) (show j < 16 by omega) (by decide) dX0_countConfusions_79 ?_
          refine lv_iconst (v := nI 1) hx hb dX0_countConfusions_80 (by decide +kernel) ?_
          refine zv_iadd (v := (nI (((cfX κ (zrows (xCf κ) 16 (fun _ => 0) 16) i) (((xEc κ) (i))) (j)) + 1))) hx hb dX0_countConfusions_81 (nI_add _ _) ?_
          refine z_iast hx hb hK hP hap hA hS (80 + ((xEc κ) (i))) (show 80 + ((xEc κ) (i)) < 96 by omega) (cx_cf (show ((xEc κ) (i)) < 16 by omega)) (show j < 16 by omega) (by decide) dX0_countConfusions_82 (fun H locs hP hS => ?_)
          have hP := px_cf (show ((xEc κ) (i)) < 16 by omega) hP
          refine lv_iinc (v := nI (i + 1)) (lv' := [(1, .int (nI (i + 1))), (2, .int (nI (j))), (0, .ref (ad 0))]) hx hb dX0_countConfusions_83 hl (k := 1) rfl (nI_1 _) (by decide) rfl (fun ls hl => ?_)
          refine lv_goto (tgt := 39) hx hb dX0_countConfusions_86 (by decide) ?_
          exact ih (i + 1) _ _ _ (by omega) (by omega) (by rw [e8]; exact hP) hS (lv_sub hl [0, 2] rfl)
set_option maxHeartbeats 4000000 in
set_option maxRecDepth 100000 in
theorem kX0_countConfusions (l : Launch) (E : zE) (ad : Nat → Nat) (hap : apart 96 ad) (κ : SX) (K : Nat) (hF : xF κ ≤ 16) (hN : xN κ ≤ 40) (hec : ∀ e, xEc κ e < 16) (hmb : ∀ c, c < 16 → xMb κ c < 2 ^ 31) (hK1 : 1023 ≤ K) (hK2 : K ≤ 1900) (hwB : wB (xF κ) K (xWt κ)) (hmn : ∀ c, c < 16 → ∀ f, f < xF κ → mg 1057 (xMn κ c f)) : Met l yX0_countConfusions wsX0_countConfusions ({ frames := 3, cells := 0, slots := 0, locals := 74 }) (va_Pc [.ref (ad 0)] (fun U => PX E ad κ U.heap ∧ zK E U)) (va_Qv (fun κ' : SX => κ' = sxCf κ (cfX κ (zrows (xCf κ) 16 (fun _ => 0) 16) (xN κ))) (fun κ' t => PX E ad κ' t.heap) (aX 96 ad)) 0 0 (aX 96 ad) := by
  refine Met.ofW (cc := cX0_countConfusions) (maxL := 3) (ret := none) (by decide) rfl ?_
  intro p e s m args below meth c s₁ B hml hv
  obtain ⟨rfl, hP, hK⟩ := hv
  have hx := B.exec
  have hb := B.bytes
  have hr := B.returns
  have hts := atoms_spec (ws := wsX0_countConfusions) B.pre
  have hown : s.vm.findClass RX0 = some m.cls := findClass_of_methodNamed B.named
  have hlocks := B.notSynchronized
  have hS : va_S (aX 96 ad) s.heap s.heap [] := va_S.rf
  have hA : ∀ k, k < 96 → aX 96 ad (ad k) := fun k hk => ⟨k, hk, rfl⟩
  have hRf : 3 ≤ ((headSpec wsX0_countConfusions ({ frames := 3, cells := 0, slots := 0, locals := 74 })).room).frames := Nat.le_of_ble_eq_true rfl
  have hRl : 74 ≤ ((headSpec wsX0_countConfusions ({ frames := 3, cells := 0, slots := 0, locals := 74 })).room).locals := Nat.le_of_ble_eq_true rfl
  have hl := lv_entry ([.ref (ad 0)]) (n := 3) (Nat.le_of_ble_eq_true rfl)
  rw [lg_entry_eq]
  generalize (lg_sl ([.ref (ad 0)]) ++ List.replicate (3 - (lg_sl ([.ref (ad 0)])).length) Slot.unset).toArray = ls at hl ⊢
  have hl : lv_has ls 3 [(0, .ref (ad 0))] := hl
  refine lv_iconst (v := nI 0) hx hb dX0_countConfusions_0 (by decide +kernel) ?_
  refine lv_istore_n (lv' := [(1, .int (nI (0))), (0, .ref (ad 0))]) hx hb dX0_countConfusions_1 rfl hl (by decide) rfl (fun ls hl => ?_)
  refine lp_X0_countConfusions2 hx hb hml hts hown hK hap hRf hRl κ K hF hN hec hmb hK1 hK2 hwB hmn (fun H locs ls hP hS hl => ?_) (16 + 1) 0 _ _ _ (by omega) (by omega) hP hS (lv_sub hl [0, 1] rfl)
  refine lv_iconst (v := nI 0) hx hb dX0_countConfusions_37 (by decide +kernel) ?_
  refine lv_istore_n (lv' := [(1, .int (nI (0))), (0, .ref (ad 0))]) hx hb dX0_countConfusions_38 rfl hl (by decide) rfl (fun ls hl => ?_)
  refine lp_X0_countConfusions3 hx hb hml hts hown hK hap hRf hRl κ K hF hN hec hmb hK1 hK2 hwB hmn (fun H locs ls hP hS hl => ?_) (xN κ + 1) 0 _ _ _ (by omega) (by omega) hP hS (lv_sub hl [0, 1] rfl)
  exact W.vret hx hb hr (fun t ht hW => ⟨⟨_, rfl, rfl, (wn_h ht hP)⟩, hS.F ht⟩) hS.2.2 dX0_countConfusions_89
def cnP (κ : SX) (x y r : Int32) : Prop := (∃ i j : Nat, i < 16 ∧ j < 16 ∧ x = nI i ∧ y = nI j ∧ r = nI (xCf κ i j)) ∨ (((∀ j : Nat, j < 16 → x ≠ nI j) ∨ ∀ j : Nat, j < 16 → y ≠ nI j) ∧ r = -12)
set_option maxHeartbeats 4000000 in
set_option maxRecDepth 100000 in
theorem kX0_confused (l : Launch) (E : zE) (ad : Nat → Nat) (hap : apart 96 ad) (κ : SX) (x y : Int32) : Met l yX0_confused wsX0_confused ({ frames := 1, cells := 0, slots := 0, locals := 20 }) (va_Pc [.ref (ad 0), .int (x), .int (y)] (fun U => PX E ad κ U.heap ∧ zK E U)) (va_Qi (fun (r : Int32) (_ : Unit) => cnP κ x y r) (fun _ _ => True) (fun _ => False)) 0 0 (fun _ => False) := by
  refine Met.ofW (cc := cX0_confused) (maxL := 3) (ret := some .int) (by decide) rfl ?_
  intro p e s m args below meth c s₁ B hml hv
  obtain ⟨rfl, hP, hK⟩ := hv
  have hx := B.exec
  have hb := B.bytes
  have hr := B.returns
  have hts := atoms_spec (ws := wsX0_confused) B.pre
  have hown : s.vm.findClass RX0 = some m.cls := findClass_of_methodNamed B.named
  have hlocks := B.notSynchronized
  have hS : va_S (fun _ => False) s.heap s.heap [] := va_S.rf
  have hRf : 1 ≤ ((headSpec wsX0_confused ({ frames := 1, cells := 0, slots := 0, locals := 20 })).room).frames := Nat.le_of_ble_eq_true rfl
  have hRl : 20 ≤ ((headSpec wsX0_confused ({ frames := 1, cells := 0, slots := 0, locals := 20 })).room).locals := Nat.le_of_ble_eq_true rfl
  have hl := lv_entry ([.ref (ad 0), .int (x), .int (y)]) (n := 3) (Nat.le_of_ble_eq_true rfl)
  rw [lg_entry_eq]
  generalize (lg_sl ([.ref (ad 0), .int (x), .int (y)]) ++ List.replicate (3 - (lg_sl ([.ref (ad 0), .int (x), .int (y)])).length) Slot.unset).toArray = ls at hl ⊢
  have hl : lv_has ls 3 [(0, .ref (ad 0)), (1, .int (x)), (2, .int (y))] := hl
  refine lv_iload_n hx hb dX0_confused_0 rfl (lv_at hl 1 rfl) ?_
  refine va_calli (va_runS (As := [.int (x)]) (rest := []) ⟨hx, hb, hml, hown, hts⟩ (kX0_isClass l x) (va_cwS 1 hts gX0_confused_X0_isClass rfl rfl rfl (by decide +kernel) ⟨Nat.le_trans (Nat.le_of_ble_eq_true rfl) hRf, Nat.le_trans (Nat.le_of_ble_eq_true rfl) hRl⟩) zps rfl rfl hl.1 rfl (lv_room (Nat.le_of_ble_eq_true rfl)) dX0_confused_1 ⟨Nat.zero_le _, Nat.zero_le _⟩) hS (fun q _ h => h.elim) (fun q h => h.elim) (fun r u9 t9 H locs ht9 hvm9 hw9 hB9 hz9 hk9 hS => ?_)
  have hP := wn_ro hP hk9
  rcases hw9 with ⟨i, hi, rfl, rfl⟩ | ⟨hno, rfl⟩
  · refine zu_eq (tgt := 14) hx hb (show 1 < 2 ^ 31 by omega) dX0_confused_4 (by decide) (fun h => ?_) (fun h => ?_)
    · have h : 1 = 0 := h
      exact absurd h (by decide)
    · have h : 0 < 1 := h
      refine lv_iload_n hx hb dX0_confused_7 rfl (lv_at hl 2 rfl) ?_
      refine va_calli (va_runS (As := [.int (y)]) (rest := []) ⟨hx, hb, hml, hown, hts⟩ (kX0_isClass l y) (va_cwS 1 hts gX0_confused_X0_isClass rfl rfl rfl (by decide +kernel) ⟨Nat.le_trans (Nat.le_of_ble_eq_true rfl) hRf, Nat.le_trans (Nat.le_of_ble_eq_true rfl) hRl⟩) zps rfl rfl hl.1 rfl (lv_room (Nat.le_of_ble_eq_true rfl)) dX0_confused_8 ⟨Nat.zero_le _, Nat.zero_le _⟩) hS (fun q _ h => h.elim) (fun q h => h.elim) (fun r u9 t9 H locs ht9 hvm9 hw9 hB9 hz9 hk9 hS => ?_)
      have hP := wn_ro hP hk9
      rcases hw9 with ⟨j, hj, rfl, rfl⟩ | ⟨hno, rfl⟩
      · refine zu_ne (tgt := 17) hx hb (show 1 < 2 ^ 31 by omega) dX0_confused_11 (by decide) (fun h => ?_) (fun h => ?_)
        · have h : 0 < 1 := h
          refine lv_aload_n hx hb dX0_confused_17 rfl (lv_at hl 0 rfl) ?_
          refine gx hx hb hts innX0_confused hown hK hP 10 (by decide) (by decide +kernel) rfl (v := .ref (ad 79)) rfl dX0_confused_18 ?_
          refine lv_iload_n hx hb dX0_confused_21 rfl (lv_at hl 1 rfl) ?_
          refine z_aald 1 hx hb hK hP 79 (by decide) cx_cfO rfl rfl (show i < 16 by omega) (by decide) (if_pos (show i < 16 by omega)) dX0_confused_22 ?_
          refine lv_iload_n hx hb dX0_confused_23 rfl (lv_at hl 2 rfl) ?_
          refine z_iald hx hb hK hP (80 + i) (show 80 + i < 96 by omega) (cx_cf (show i < 16 by omega)) (show j < 16 by omega) (by decide) dX0_confused_24 ?_
          exact W.iret hx hb hr (fun t ht hW => ⟨⟨_, (), rfl, Or.inl ⟨i, j, hi, hj, rfl, rfl, rfl⟩, trivial⟩, hS.F ht⟩) hS.2.2 dX0_confused_25
        · have h : 1 = 0 := h
          exact absurd h (by decide)
      · refine zu_ne (tgt := 17) hx hb (show 0 < 2 ^ 31 by omega) dX0_confused_11 (by decide) (fun h => ?_) (fun h => ?_)
        · have h : 0 < 0 := h
          exact absurd h (by decide)
        · have h : 0 = 0 := h
          refine lv_bipush (v := -12) hx hb dX0_confused_14 (by decide +kernel) ?_
          exact W.iret hx hb hr (fun t ht hW => ⟨⟨_, (), rfl, Or.inr ⟨Or.inr hno, rfl⟩, trivial⟩, hS.F ht⟩) hS.2.2 dX0_confused_16
  · refine zu_eq (tgt := 14) hx hb (show 0 < 2 ^ 31 by omega) dX0_confused_4 (by decide) (fun h => ?_) (fun h => ?_)
    · have h : 0 = 0 := h
      refine lv_bipush (v := -12) hx hb dX0_confused_14 (by decide +kernel) ?_
      exact W.iret hx hb hr (fun t ht hW => ⟨⟨_, (), rfl, Or.inr ⟨Or.inl hno, rfl⟩, trivial⟩, hS.F ht⟩) hS.2.2 dX0_confused_16
    · have h : 0 < 0 := h
      exact absurd h (by decide)
/-- the nearest class of the sign, and the nearest of all others -/
def n1X (κ : SX) : Int32 := nearX κ (xSg κ) (-1)
def n2X (κ : SX) : Int32 := nearX κ (xSg κ) (n1X κ)
/-- what tell answers of the rank x -/
def tlP (κ : SX) (x r : Int32) : Prop := ((∀ j : Nat, j < 2 → x ≠ nI j) ∧ r = -12) ∨ (∃ j : Nat, j < 2 ∧ x = nI j ∧ ((xMd κ = 0 ∧ r = -13) ∨ (0 < xMd κ ∧ (((∀ f, f < xF κ → xSg κ f = 0) ∧ r = -3) ∨ ((∃ f, f < xF κ ∧ 0 < xSg κ f) ∧ ∃ z : Int32, tooX κ (n1X κ) (n2X κ) z ∧ ((¬ z = 0 ∧ r = -2) ∨ (z = 0 ∧ r = if j = 0 then n1X κ else n2X κ)))))))
set_option maxHeartbeats 4000000 in
set_option maxRecDepth 100000 in
theorem kX0_tell (l : Launch) (E : zE) (ad : Nat → Nat) (hap : apart 96 ad) (κ : SX) (x : Int32) (K : Nat) (hF : xF κ ≤ 16) (hmb : ∀ c, c < 16 → xMb κ c < 2 ^ 31) (hmd : xMd κ ≤ 1) (hsg : ∀ f, f < xF κ → xSg κ f < 2 ^ 31) (hK1 : 1023 ≤ K) (hK2 : K ≤ 1900) (hw : ∀ c, c < 16 → ∀ f, f < xF κ → mg K (xWt κ c f) ∧ mg 1057 (xMn κ c f)) : Met l yX0_tell wsX0_tell ({ frames := 3, cells := 0, slots := 0, locals := 74 }) (va_Pc [.ref (ad 0), .int (x)] (fun U => PX E ad κ U.heap ∧ zK E U)) (va_Qi (fun (r : Int32) (_ : Unit) => tlP κ x r) (fun _ _ => True) (fun _ => False)) 0 0 (fun _ => False) := by
  refine Met.ofW (cc := cX0_tell) (maxL := 4) (ret := some .int) (by decide) rfl ?_
  intro p e s m args below meth c s₁ B hml hv
  obtain ⟨rfl, hP, hK⟩ := hv
  have hx := B.exec
  have hb := B.bytes
  have hr := B.returns
  have hts := atoms_spec (ws := wsX0_tell) B.pre
  have hown : s.vm.findClass RX0 = some m.cls := findClass_of_methodNamed B.named
  have hlocks := B.notSynchronized
  have hS : va_S (fun _ => False) s.heap s.heap [] := va_S.rf
  have hRf : 3 ≤ ((headSpec wsX0_tell ({ frames := 3, cells := 0, slots := 0, locals := 74 })).room).frames := Nat.le_of_ble_eq_true rfl
  have hRl : 74 ≤ ((headSpec wsX0_tell ({ frames := 3, cells := 0, slots := 0, locals := 74 })).room).locals := Nat.le_of_ble_eq_true rfl
  have hl := lv_entry ([.ref (ad 0), .int (x)]) (n := 4) (Nat.le_of_ble_eq_true rfl)
  rw [lg_entry_eq]
  generalize (lg_sl ([.ref (ad 0), .int (x)]) ++ List.replicate (4 - (lg_sl ([.ref (ad 0), .int (x)])).length) Slot.unset).toArray = ls at hl ⊢
  have hl : lv_has ls 4 [(0, .ref (ad 0)), (1, .int (x))] := hl
  refine lv_iload_n hx hb dX0_tell_0 rfl (lv_at hl 1 rfl) ?_
  refine va_calli (va_runS (As := [.int (x)]) (rest := []) ⟨hx, hb, hml, hown, hts⟩ (kX0_isRank l x) (va_cwS 1 hts gX0_tell_X0_isRank rfl rfl rfl (by decide +kernel) ⟨Nat.le_trans (Nat.le_of_ble_eq_true rfl) hRf, Nat.le_trans (Nat.le_of_ble_eq_true rfl) hRl⟩) zps rfl rfl hl.1 rfl (lv_room (Nat.le_of_ble_eq_true rfl)) dX0_tell_1 ⟨Nat.zero_le _, Nat.zero_le _⟩) hS (fun q _ h => h.elim) (fun q h => h.elim) (fun r u9 t9 H locs ht9 hvm9 hw9 hB9 hz9 hk9 hS => ?_)
  have hP := wn_ro hP hk9
  rcases hw9 with ⟨j, hj, rfl, rfl⟩ | ⟨hno, rfl⟩
  · refine zu_ne (tgt := 10) hx hb (show 1 < 2 ^ 31 by omega) dX0_tell_4 (by decide) (fun h => ?_) (fun h => ?_)
    · have h : 0 < 1 := h
      refine lv_aload_n hx hb dX0_tell_10 rfl (lv_at hl 0 rfl) ?_
      refine gx hx hb hts innX0_tell hown hK hP 6 (by decide) (by decide +kernel) rfl (v := .int (nI ((xMd κ)))) rfl dX0_tell_11 ?_
      refine zu_ne (tgt := 20) hx hb (show (xMd κ) < 2 ^ 31 by omega) dX0_tell_14 (by decide) (fun h2 => ?_) (fun h2 => ?_)
      · have h2 : 0 < (xMd κ) := h2
        refine lv_aload_n hx hb dX0_tell_20 rfl (lv_at hl 0 rfl) ?_
        refine va_calli (va_runV (As := []) (rest := []) ⟨hx, hb, hml, hown, hts⟩ (kX0_isSignBlank l E ad hap κ hF hsg) (cwV 0 hts gX0_tell_X0_isSignBlank rfl rfl rfl (by decide +kernel) ⟨Nat.le_trans (Nat.le_of_ble_eq_true rfl) hRf, Nat.le_trans (Nat.le_of_ble_eq_true rfl) hRl⟩) (zpx hK hP) rfl rfl hl.1 rfl (lv_room (Nat.le_of_ble_eq_true rfl)) dX0_tell_21 ⟨Nat.zero_le _, Nat.zero_le _⟩) hS (fun q _ h => h.elim) (fun q h => h.elim) (fun r u9 t9 H locs ht9 hvm9 hw9 hB9 hz9 hk9 hS => ?_)
        have hP := wn_ro hP hk9
        rcases hw9 with ⟨rfl, hz⟩ | ⟨rfl, hz⟩
        · refine zu_eq (tgt := 30) hx hb (show 1 < 2 ^ 31 by omega) dX0_tell_24 (by decide) (fun h3 => ?_) (fun h3 => ?_)
          · have h3 : 1 = 0 := h3
            exact absurd h3 (by decide)
          · have h3 : 0 < 1 := h3
            refine lv_bipush (v := -3) hx hb dX0_tell_27 (by decide +kernel) ?_
            exact W.iret hx hb hr (fun t ht hW => ⟨⟨_, (), rfl, Or.inr ⟨j, hj, rfl, Or.inr ⟨h2, Or.inl ⟨hz, rfl⟩⟩⟩, trivial⟩, hS.F ht⟩) hS.2.2 dX0_tell_29
        · refine zu_eq (tgt := 30) hx hb (show 0 < 2 ^ 31 by omega) dX0_tell_24 (by decide) (fun h3 => ?_) (fun h3 => ?_)
          · have h3 : 0 = 0 := h3
            refine lv_aload_n hx hb dX0_tell_30 rfl (lv_at hl 0 rfl) ?_
            refine lv_aload_n hx hb dX0_tell_31 rfl (lv_at hl 0 rfl) ?_
            refine gx hx hb hts innX0_tell hown hK hP 4 (by decide) (by decide +kernel) rfl (v := .ref (ad 43)) rfl dX0_tell_32 ?_
            refine lv_iconst (v := -1) hx hb dX0_tell_35 (by decide +kernel) ?_
            refine va_calli (va_runV (As := [.ref (ad 43), .int (-1)]) (rest := []) ⟨hx, hb, hml, hown, hts⟩ (kX0_nearestClass l E ad hap κ 43 K (xSg κ) (-1) hF hmb (by decide) cx_sg hK1 hK2 hw) (cwV 2 hts gX0_tell_X0_nearestClass rfl rfl rfl (by decide +kernel) ⟨Nat.le_trans (Nat.le_of_ble_eq_true rfl) hRf, Nat.le_trans (Nat.le_of_ble_eq_true rfl) hRl⟩) (zpx hK hP) rfl rfl hl.1 rfl (lv_room (Nat.le_of_ble_eq_true rfl)) dX0_tell_36 ⟨Nat.zero_le _, Nat.zero_le _⟩) hS (fun q _ h => h.elim) (fun q h => h.elim) (fun r u9 t9 H locs ht9 hvm9 hw9 hB9 hz9 hk9 hS => ?_)
            have hP := wn_ro hP hk9
            subst hw9
            refine lv_istore_n (lv' := [(2, .int (n1X κ)), (0, .ref (ad 0)), (1, .int (nI (j)))]) hx hb dX0_tell_39 rfl hl (by decide) rfl (fun ls hl => ?_)
            refine lv_aload_n hx hb dX0_tell_40 rfl (lv_at hl 1 rfl) ?_
            refine lv_aload_n hx hb dX0_tell_41 rfl (lv_at hl 1 rfl) ?_
            refine gx hx hb hts innX0_tell hown hK hP 4 (by decide) (by decide +kernel) rfl (v := .ref (ad 43)) rfl dX0_tell_42 ?_
            refine lv_iload_n hx hb dX0_tell_45 rfl (lv_at hl 0 rfl) ?_
            refine va_calli (va_runV (As := [.ref (ad 43), .int (n1X κ)]) (rest := []) ⟨hx, hb, hml, hown, hts⟩ (kX0_nearestClass l E ad hap κ 43 K (xSg κ) (n1X κ) hF hmb (by decide) cx_sg hK1 hK2 hw) (cwV 2 hts gX0_tell_X0_nearestClass rfl rfl rfl (by decide +kernel) ⟨Nat.le_trans (Nat.le_of_ble_eq_true rfl) hRf, Nat.le_trans (Nat.le_of_ble_eq_true rfl) hRl⟩) (zpx hK hP) rfl rfl hl.1 rfl (lv_room (Nat.le_of_ble_eq_true rfl)) dX0_tell_46 ⟨Nat.zero_le _, Nat.zero_le _⟩) hS (fun q _ h => h.elim) (fun q h => h.elim) (fun r u9 t9 H locs ht9 hvm9 hw9 hB9 hz9 hk9 hS => ?_)
            have hP := wn_ro hP hk9
            subst hw9
            refine lv_istore_n (lv' := [(3, .int (n2X κ)), (2, .int (n1X κ)), (0, .ref (ad 0)), (1, .int (nI (j)))]) hx hb dX0_tell_49 rfl hl (by decide) rfl (fun ls hl => ?_)
            refine lv_aload_n hx hb dX0_tell_50 rfl (lv_at hl 2 rfl) ?_
            refine lv_iload_n hx hb dX0_tell_51 rfl (lv_at hl 1 rfl) ?_
            refine lv_iload_n hx hb dX0_tell_52 rfl (lv_at hl 0 rfl) ?_
            refine va_calli (va_runV (As := [.int (n1X κ), .int (n2X κ)]) (rest := []) ⟨hx, hb, hml, hown, hts⟩ (kX0_isTooClose l E ad hap κ (n1X κ) (n2X κ) K hF hK1 hK2 hw) (cwV 2 hts gX0_tell_X0_isTooClose rfl rfl rfl (by decide +kernel) ⟨Nat.le_trans (Nat.le_of_ble_eq_true rfl) hRf, Nat.le_trans (Nat.le_of_ble_eq_true rfl) hRl⟩) (zpx hK hP) rfl rfl hl.1 rfl (lv_room (Nat.le_of_ble_eq_true rfl)) dX0_tell_53 ⟨Nat.zero_le _, Nat.zero_le _⟩) hS (fun q _ h => h.elim) (fun q h => h.elim) (fun z u9 t9 H locs ht9 hvm9 hw9 hB9 hz9 hk9 hS => ?_)
            have hP := wn_ro hP hk9
            refine lv_if_eq (tgt := 62) hx hb dX0_tell_56 (by decide) (fun h4 => ?_) (fun h4 => ?_)
            · refine lv_iload_n hx hb dX0_tell_62 rfl (lv_at hl 3 rfl) ?_
              refine zu_ne (tgt := 70) hx hb (show j < 2 ^ 31 by omega) dX0_tell_63 (by decide) (fun h5 => ?_) (fun h5 => ?_)
              · have h5 : 0 < j := h5
                refine lv_iload_n hx hb dX0_tell_70 rfl (lv_at hl 0 rfl) ?_
                exact W.iret hx hb hr (fun t ht hW => ⟨⟨_, (), rfl, Or.inr ⟨j, hj, rfl, Or.inr ⟨h2, Or.inr ⟨hz, z, hw9, Or.inr ⟨h4, (if_neg (Nat.ne_of_gt h5)).symm⟩⟩⟩⟩, trivial⟩, hS.F ht⟩) hS.2.2 dX0_tell_71
              · have h5 : j = 0 := h5
                refine lv_iload_n hx hb dX0_tell_66 rfl (lv_at hl 1 rfl) ?_
                refine lv_goto (tgt := 71) hx hb dX0_tell_67 (by decide) ?_
                exact W.iret hx hb hr (fun t ht hW => ⟨⟨_, (), rfl, Or.inr ⟨j, hj, rfl, Or.inr ⟨h2, Or.inr ⟨hz, z, hw9, Or.inr ⟨h4, (if_pos h5).symm⟩⟩⟩⟩, trivial⟩, hS.F ht⟩) hS.2.2 dX0_tell_71
            · refine lv_bipush (v := -2) hx hb dX0_tell_59 (by decide +kernel) ?_
              exact W.iret hx hb hr (fun t ht hW => ⟨⟨_, (), rfl, Or.inr ⟨j, hj, rfl, Or.inr ⟨h2, Or.inr ⟨hz, z, hw9, Or.inl ⟨h4, rfl⟩⟩⟩⟩, trivial⟩, hS.F ht⟩) hS.2.2 dX0_tell_61
          · have h3 : 0 < 0 := h3
            exact absurd h3 (by decide)
      · have h2 : (xMd κ) = 0 := h2
        refine lv_bipush (v := -13) hx hb dX0_tell_17 (by decide +kernel) ?_
        exact W.iret hx hb hr (fun t ht hW => ⟨⟨_, (), rfl, Or.inr ⟨j, hj, rfl, Or.inl ⟨h2, rfl⟩⟩, trivial⟩, hS.F ht⟩) hS.2.2 dX0_tell_19
    · have h : 1 = 0 := h
      exact absurd h (by decide)
  · refine zu_ne (tgt := 10) hx hb (show 0 < 2 ^ 31 by omega) dX0_tell_4 (by decide) (fun h => ?_) (fun h => ?_)
    · have h : 0 < 0 := h
      exact absurd h (by decide)
    · have h : 0 = 0 := h
      refine lv_bipush (v := -12) hx hb dX0_tell_7 (by decide +kernel) ?_
      exact W.iret hx hb hr (fun t ht hW => ⟨⟨_, (), rfl, Or.inl ⟨hno, rfl⟩, trivial⟩, hS.F ht⟩) hS.2.2 dX0_tell_9
/-- the distance told of a class -/
def d1000 (x : UInt64) : Int64 := FP.d2l (FP.dmul x k1000)
def rkX (κ : SX) (j : Nat) : Int32 := if j = 1 then n2X κ else n1X κ
def dsP (κ : SX) (x : Int32) (r : Int64) : Prop := ((∀ j : Nat, j < 2 → x ≠ nI j) ∧ r = -12) ∨ (∃ j : Nat, j < 2 ∧ x = nI j ∧ ((xMd κ = 0 ∧ r = -13) ∨ (0 < xMd κ ∧ ((rkX κ j = -1 ∧ r = -1) ∨ (∃ c : Nat, c < 16 ∧ rkX κ j = nI c ∧ r = d1000 (ddX κ (xSg κ) c))))))
set_option maxHeartbeats 4000000 in
set_option maxRecDepth 100000 in
theorem kX0_distance (l : Launch) (E : zE) (ad : Nat → Nat) (hap : apart 96 ad) (κ : SX) (x : Int32) (K : Nat) (hF : xF κ ≤ 16) (hmb : ∀ c, c < 16 → xMb κ c < 2 ^ 31) (hmd : xMd κ ≤ 1) (hsg : ∀ f, f < xF κ → xSg κ f < 2 ^ 31) (hK1 : 1023 ≤ K) (hK2 : K ≤ 1900) (hw : ∀ c, c < 16 → ∀ f, f < xF κ → mg K (xWt κ c f) ∧ mg 1057 (xMn κ c f)) : Met l yX0_distance wsX0_distance ({ frames := 3, cells := 0, slots := 0, locals := 74 }) (va_Pc [.ref (ad 0), .int (x)] (fun U => PX E ad κ U.heap ∧ zK E U)) (va_Ql (fun (r : Int64) (_ : Unit) => dsP κ x r) (fun _ _ => True) (fun _ => False)) 0 0 (fun _ => False) := by
  refine Met.ofW (cc := cX0_distance) (maxL := 3) (ret := some .long) (by decide) rfl ?_
  intro p e s m args below meth c s₁ B hml hv
  obtain ⟨rfl, hP, hK⟩ := hv
  have hx := B.exec
  have hb := B.bytes
  have hr := B.returns
  have hts := atoms_spec (ws := wsX0_distance) B.pre
  have hown : s.vm.findClass RX0 = some m.cls := findClass_of_methodNamed B.named
  have hlocks := B.notSynchronized
  have hS : va_S (fun _ => False) s.heap s.heap [] := va_S.rf
  have hRf : 3 ≤ ((headSpec wsX0_distance ({ frames := 3, cells := 0, slots := 0, locals := 74 })).room).frames := Nat.le_of_ble_eq_true rfl
  have hRl : 74 ≤ ((headSpec wsX0_distance ({ frames := 3, cells := 0, slots := 0, locals := 74 })).room).locals := Nat.le_of_ble_eq_true rfl
  have hl := lv_entry ([.ref (ad 0), .int (x)]) (n := 3) (Nat.le_of_ble_eq_true rfl)
  rw [lg_entry_eq]
  generalize (lg_sl ([.ref (ad 0), .int (x)]) ++ List.replicate (3 - (lg_sl ([.ref (ad 0), .int (x)])).length) Slot.unset).toArray = ls at hl ⊢
  have hl : lv_has ls 3 [(0, .ref (ad 0)), (1, .int (x))] := hl
  refine lv_iload_n hx hb dX0_distance_0 rfl (lv_at hl 1 rfl) ?_
  refine va_calli (va_runS (As := [.int (x)]) (rest := []) ⟨hx, hb, hml, hown, hts⟩ (kX0_isRank l x) (va_cwS 1 hts gX0_distance_X0_isRank rfl rfl rfl (by decide +kernel) ⟨Nat.le_trans (Nat.le_of_ble_eq_true rfl) hRf, Nat.le_trans (Nat.le_of_ble_eq_true rfl) hRl⟩) zps rfl rfl hl.1 rfl (lv_room (Nat.le_of_ble_eq_true rfl)) dX0_distance_1 ⟨Nat.zero_le _, Nat.zero_le _⟩) hS (fun q _ h => h.elim) (fun q h => h.elim) (fun r u9 t9 H locs ht9 hvm9 hw9 hB9 hz9 hk9 hS => ?_)
  have hP := wn_ro hP hk9
  rcases hw9 with ⟨j, hj, rfl, rfl⟩ | ⟨hno, rfl⟩
  · refine zu_ne (tgt := 11) hx hb (show 1 < 2 ^ 31 by omega) dX0_distance_4 (by decide) (fun h => ?_) (fun h => ?_)
    · have h : 0 < 1 := h
      refine lv_aload_n hx hb dX0_distance_11 rfl (lv_at hl 0 rfl) ?_
      refine gx hx hb hts innX0_distance hown hK hP 6 (by decide) (by decide +kernel) rfl (v := .int (nI ((xMd κ)))) rfl dX0_distance_12 ?_
      refine zu_ne (tgt := 22) hx hb (show (xMd κ) < 2 ^ 31 by omega) dX0_distance_15 (by decide) (fun h2 => ?_) (fun h2 => ?_)
      · have h2 : 0 < (xMd κ) := h2
        refine lv_aload_n hx hb dX0_distance_22 rfl (lv_at hl 0 rfl) ?_
        refine lv_aload_n hx hb dX0_distance_23 rfl (lv_at hl 0 rfl) ?_
        refine gx hx hb hts innX0_distance hown hK hP 4 (by decide) (by decide +kernel) rfl (v := .ref (ad 43)) rfl dX0_distance_24 ?_
        refine lv_iconst (v := -1) hx hb dX0_distance_27 (by decide +kernel) ?_
        refine va_calli (va_runV (As := [.ref (ad 43), .int (-1)]) (rest := []) ⟨hx, hb, hml, hown, hts⟩ (kX0_nearestClass l E ad hap κ 43 K (xSg κ) (-1) hF hmb (by decide) cx_sg hK1 hK2 hw) (cwV 2 hts gX0_distance_X0_nearestClass rfl rfl rfl (by decide +kernel) ⟨Nat.le_trans (Nat.le_of_ble_eq_true rfl) hRf, Nat.le_trans (Nat.le_of_ble_eq_true rfl) hRl⟩) (zpx hK hP) rfl rfl hl.1 rfl (lv_room (Nat.le_of_ble_eq_true rfl)) dX0_distance_28 ⟨Nat.zero_le _, Nat.zero_le _⟩) hS (fun q _ h => h.elim) (fun q h => h.elim) (fun r u9 t9 H locs ht9 hvm9 hw9 hB9 hz9 hk9 hS => ?_)
        have hP := wn_ro hP hk9
        subst hw9
        refine lv_istore_n (lv' := [(2, .int (n1X κ)), (0, .ref (ad 0)), (1, .int (nI (j)))]) hx hb dX0_distance_31 rfl hl (by decide) rfl (fun ls hl => ?_)
        refine lv_iload_n hx hb dX0_distance_32 rfl (lv_at hl 2 rfl) ?_
        refine lv_iconst (v := nI 1) hx hb dX0_distance_33 (by decide +kernel) ?_
        refine zb_ne (tgt := 47) hx hb (show j < 2 ^ 31 by omega) (show 1 < 2 ^ 31 by omega) dX0_distance_34 (by decide) (fun h3 => ?_) (fun h3 => ?_)
        · have h3 : j ≠ 1 := h3
          refine lv_iload_n hx hb dX0_distance_47 rfl (lv_at hl 0 rfl) ?_
          refine va_calli (va_runS (As := [.int (n1X κ)]) (rest := []) ⟨hx, hb, hml, hown, hts⟩ (kX0_isClass l (n1X κ)) (va_cwS 1 hts gX0_distance_X0_isClass rfl rfl rfl (by decide +kernel) ⟨Nat.le_trans (Nat.le_of_ble_eq_true rfl) hRf, Nat.le_trans (Nat.le_of_ble_eq_true rfl) hRl⟩) zps rfl rfl hl.1 rfl (lv_room (Nat.le_of_ble_eq_true rfl)) dX0_distance_48 ⟨Nat.zero_le _, Nat.zero_le _⟩) hS (fun q _ h => h.elim) (fun q h => h.elim) (fun r u9 t9 H locs ht9 hvm9 hw9 hB9 hz9 hk9 hS => ?_)
          have hP := wn_ro hP hk9
          rcases nearX_cases κ (xSg κ) (-1) with e9 | ⟨c9, hc, -, -, e9⟩
          · obtain ⟨hno, rfl⟩ := hw9.resolve_left (fun ⟨j, hj, q, _⟩ => m1_ne (show j < 2 ^ 31 by omega) (q.symm.trans e9))
            refine zu_ne (tgt := 58) hx hb (show 0 < 2 ^ 31 by omega) dX0_distance_51 (by decide) (fun h4 => ?_) (fun h4 => ?_)
            · have h4 : 0 < 0 := h4
              exact absurd h4 (by decide)
            · have h4 : 0 = 0 := h4
              refine lv_ldc2 hx hb hown (hts (.constantLong RX0 102 (-1)) (by decide +kernel)) dX0_distance_54 ?_
              exact W.lret hx hb hr (fun t ht hW => ⟨⟨_, (), rfl, Or.inr ⟨j, hj, rfl, Or.inr ⟨h2, Or.inl ⟨(show rkX κ j = n1X κ from if_neg h3).trans e9, rfl⟩⟩⟩, trivial⟩, hS.F ht⟩) hS.2.2 dX0_distance_57
          · obtain ⟨j9, -, -, rfl⟩ := hw9.resolve_right (fun q => q.1 c9 hc e9)
            have hl : lv_has ls 3 [(2, .int (nI (c9))), (0, .ref (ad 0)), (1, .int (nI (j)))] := by rw [show n1X κ = nI c9 from e9] at hl; exact hl
            refine zu_ne (tgt := 58) hx hb (show 1 < 2 ^ 31 by omega) dX0_distance_51 (by decide) (fun h4 => ?_) (fun h4 => ?_)
            · have h4 : 0 < 1 := h4
              refine lv_aload_n hx hb dX0_distance_58 rfl (lv_at hl 1 rfl) ?_
              refine lv_iload_n hx hb dX0_distance_59 rfl (lv_at hl 0 rfl) ?_
              refine lv_aload_n hx hb dX0_distance_60 rfl (lv_at hl 1 rfl) ?_
              refine gx hx hb hts innX0_distance hown hK hP 4 (by decide) (by decide +kernel) rfl (v := .ref (ad 43)) rfl dX0_distance_61 ?_
              refine va_calld (va_runV (As := [.int (nI (c9)), .ref (ad 43)]) (rest := []) ⟨hx, hb, hml, hown, hts⟩ (kX0_distanceTo l E ad hap κ c9 43 K (xSg κ) hF hc (by decide) cx_sg hK1 hK2 (hw c9 hc)) (cwV 2 hts gX0_distance_X0_distanceTo rfl rfl rfl (by decide +kernel) ⟨Nat.le_trans (Nat.le_of_ble_eq_true rfl) hRf, Nat.le_trans (Nat.le_of_ble_eq_true rfl) hRl⟩) (zpx hK hP) rfl rfl hl.1 rfl (lv_room (Nat.le_of_ble_eq_true rfl)) dX0_distance_64 ⟨Nat.zero_le _, Nat.zero_le _⟩) hS (fun q _ h => h.elim) (fun q h => h.elim) (fun r u9 t9 H locs ht9 hvm9 hw9 hB9 hz9 hk9 hS => ?_)
              have hP := wn_ro hP hk9
              subst hw9
              refine lv_ldc2d hx hb hown (hts (.constantDouble RX0 108 k1000) (by decide +kernel)) dX0_distance_67 ?_
              refine lv_dmul hx hb dX0_distance_70 (mg_n64 (mg_dmul (K := K + 61) (mg_ds hK1 hK2 (n := xF κ) hF (hw c9 hc)) mg_1000 (by omega) (by decide) (by omega) (by decide) (by omega) (by omega)) (by omega)) ?_
              refine lv_d2l hx hb dX0_distance_71 ?_
              exact W.lret hx hb hr (fun t ht hW => ⟨⟨_, (), rfl, Or.inr ⟨j, hj, rfl, Or.inr ⟨h2, Or.inr ⟨c9, hc, (show rkX κ j = n1X κ from if_neg h3).trans e9, rfl⟩⟩⟩, trivial⟩, hS.F ht⟩) hS.2.2 dX0_distance_72
            · have h4 : 1 = 0 := h4
              exact absurd h4 (by decide)
        · have h3 : j = 1 := h3
          refine lv_aload_n hx hb dX0_distance_37 rfl (lv_at hl 1 rfl) ?_
          refine lv_aload_n hx hb dX0_distance_38 rfl (lv_at hl 1 rfl) ?_
          refine gx hx hb hts innX0_distance hown hK hP 4 (by decide) (by decide +kernel) rfl (v := .ref (ad 43)) rfl dX0_distance_39 ?_
          refine lv_iload_n hx hb dX0_distance_42 rfl (lv_at hl 0 rfl) ?_
          refine va_calli (va_runV (As := [.ref (ad 43), .int (n1X κ)]) (rest := []) ⟨hx, hb, hml, hown, hts⟩ (kX0_nearestClass l E ad hap κ 43 K (xSg κ) (n1X κ) hF hmb (by decide) cx_sg hK1 hK2 hw) (cwV 2 hts gX0_distance_X0_nearestClass rfl rfl rfl (by decide +kernel) ⟨Nat.le_trans (Nat.le_of_ble_eq_true rfl) hRf, Nat.le_trans (Nat.le_of_ble_eq_true rfl) hRl⟩) (zpx hK hP) rfl rfl hl.1 rfl (lv_room (Nat.le_of_ble_eq_true rfl)) dX0_distance_43 ⟨Nat.zero_le _, Nat.zero_le _⟩) hS (fun q _ h => h.elim) (fun q h => h.elim) (fun r u9 t9 H locs ht9 hvm9 hw9 hB9 hz9 hk9 hS => ?_)
          have hP := wn_ro hP hk9
          subst hw9
          refine lv_istore_n (lv' := [(2, .int (n2X κ)), (0, .ref (ad 0)), (1, .int (nI (j)))]) hx hb dX0_distance_46 rfl hl (by decide) rfl (fun ls hl => ?_)
          refine lv_iload_n hx hb dX0_distance_47 rfl (lv_at hl 0 rfl) ?_
          refine va_calli (va_runS (As := [.int (n2X κ)]) (rest := []) ⟨hx, hb, hml, hown, hts⟩ (kX0_isClass l (n2X κ)) (va_cwS 1 hts gX0_distance_X0_isClass rfl rfl rfl (by decide +kernel) ⟨Nat.le_trans (Nat.le_of_ble_eq_true rfl) hRf, Nat.le_trans (Nat.le_of_ble_eq_true rfl) hRl⟩) zps rfl rfl hl.1 rfl (lv_room (Nat.le_of_ble_eq_true rfl)) dX0_distance_48 ⟨Nat.zero_le _, Nat.zero_le _⟩) hS (fun q _ h => h.elim) (fun q h => h.elim) (fun r u9 t9 H locs ht9 hvm9 hw9 hB9 hz9 hk9 hS => ?_)
          have hP := wn_ro hP hk9
          rcases nearX_cases κ (xSg κ) (n1X κ) with e9 | ⟨c9, hc, -, -, e9⟩
          · obtain ⟨hno, rfl⟩ := hw9.resolve_left (fun ⟨j, hj, q, _⟩ => m1_ne (show j < 2 ^ 31 by omega) (q.symm.trans e9))
            refine zu_ne (tgt := 58) hx hb (show 0 < 2 ^ 31 by omega) dX0_distance_51 (by decide) (fun h4 => ?_) (fun h4 => ?_)
            · have h4 : 0 < 0 := h4
              exact absurd h4 (by decide)
            · have h4 : 0 = 0 := h4
              refine lv_ldc2 hx hb hown (hts (.constantLong RX0 102 (-1)) (by decide +kernel)) dX0_distance_54 ?_
              exact W.lret hx hb hr (fun t ht hW => ⟨⟨_, (), rfl, Or.inr ⟨j, hj, rfl, Or.inr ⟨h2, Or.inl ⟨(show rkX κ j = n2X κ from if_pos h3).trans e9, rfl⟩⟩⟩, trivial⟩, hS.F ht⟩) hS.2.2 dX0_distance_57
          · obtain ⟨j9, -, -, rfl⟩ := hw9.resolve_right (fun q => q.1 c9 hc e9)
            have hl : lv_has ls 3 [(2, .int (nI (c9))), (0, .ref (ad 0)), (1, .int (nI (j)))] := by rw [show n2X κ = nI c9 from e9] at hl; exact hl
            refine zu_ne (tgt := 58) hx hb (show 1 < 2 ^ 31 by omega) dX0_distance_51 (by decide) (fun h4 => ?_) (fun h4 => ?_)
            · have h4 : 0 < 1 := h4
              refine lv_aload_n hx hb dX0_distance_58 rfl (lv_at hl 1 rfl) ?_
              refine lv_iload_n hx hb dX0_distance_59 rfl (lv_at hl 0 rfl) ?_
              refine lv_aload_n hx hb dX0_distance_60 rfl (lv_at hl 1 rfl) ?_
              refine gx hx hb hts innX0_distance hown hK hP 4 (by decide) (by decide +kernel) rfl (v := .ref (ad 43)) rfl dX0_distance_61 ?_
              refine va_calld (va_runV (As := [.int (nI (c9)), .ref (ad 43)]) (rest := []) ⟨hx, hb, hml, hown, hts⟩ (kX0_distanceTo l E ad hap κ c9 43 K (xSg κ) hF hc (by decide) cx_sg hK1 hK2 (hw c9 hc)) (cwV 2 hts gX0_distance_X0_distanceTo rfl rfl rfl (by decide +kernel) ⟨Nat.le_trans (Nat.le_of_ble_eq_true rfl) hRf, Nat.le_trans (Nat.le_of_ble_eq_true rfl) hRl⟩) (zpx hK hP) rfl rfl hl.1 rfl (lv_room (Nat.le_of_ble_eq_true rfl)) dX0_distance_64 ⟨Nat.zero_le _, Nat.zero_le _⟩) hS (fun q _ h => h.elim) (fun q h => h.elim) (fun r u9 t9 H locs ht9 hvm9 hw9 hB9 hz9 hk9 hS => ?_)
              have hP := wn_ro hP hk9
              subst hw9
              refine lv_ldc2d hx hb hown (hts (.constantDouble RX0 108 k1000) (by decide +kernel)) dX0_distance_67 ?_
              refine lv_dmul hx hb dX0_distance_70 (mg_n64 (mg_dmul (K := K + 61) (mg_ds hK1 hK2 (n := xF κ) hF (hw c9 hc)) mg_1000 (by omega) (by decide) (by omega) (by decide) (by omega) (by omega)) (by omega)) ?_
              refine lv_d2l hx hb dX0_distance_71 ?_
              exact W.lret hx hb hr (fun t ht hW => ⟨⟨_, (), rfl, Or.inr ⟨j, hj, rfl, Or.inr ⟨h2, Or.inr ⟨c9, hc, (show rkX κ j = n2X κ from if_pos h3).trans e9, rfl⟩⟩⟩, trivial⟩, hS.F ht⟩) hS.2.2 dX0_distance_72
            · have h4 : 1 = 0 := h4
              exact absurd h4 (by decide)
      · have h2 : (xMd κ) = 0 := h2
        refine lv_ldc2 hx hb hown (hts (.constantLong RX0 100 (-13)) (by decide +kernel)) dX0_distance_18 ?_
        exact W.lret hx hb hr (fun t ht hW => ⟨⟨_, (), rfl, Or.inr ⟨j, hj, rfl, Or.inl ⟨h2, rfl⟩⟩, trivial⟩, hS.F ht⟩) hS.2.2 dX0_distance_21
    · have h : 1 = 0 := h
      exact absurd h (by decide)
  · refine zu_ne (tgt := 11) hx hb (show 0 < 2 ^ 31 by omega) dX0_distance_4 (by decide) (fun h => ?_) (fun h => ?_)
    · have h : 0 < 0 := h
      exact absurd h (by decide)
    · have h : 0 = 0 := h
      refine lv_ldc2 hx hb hown (hts (.constantLong RX0 98 (-12)) (by decide +kernel)) dX0_distance_7 ?_
      exact W.lret hx hb hr (fun t ht hW => ⟨⟨_, (), rfl, Or.inl ⟨hno, rfl⟩, trivial⟩, hS.F ht⟩) hS.2.2 dX0_distance_10
