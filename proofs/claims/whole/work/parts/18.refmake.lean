/-! ===== the reference: round, make ===== -/
set_option maxHeartbeats 4000000 in
set_option maxRecDepth 100000 in
theorem lp_X1_round1 {p : Program} {l : Launch} {e : Env} {R : Room} {s : State} {m : MethodId} {args : Array Value} {below : List Frame} {meth : Method} {c : Code} {Q : State → Prop} {E : zE} {ad : Nat → Nat} (hx : p.tables.exec = Jvm.exec) (hb : c.code = cX1_round) (hml : c.maxLocals = 9) (hts : ∀ w ∈ wsX1_round, w.before args s = true) (hown : s.vm.findClass RX1 = some m.cls) (hK : zK E s) (hap : apart 8 ad) {H0 : Heap} (hRf : 3 ≤ R.frames) (hRl : 76 ≤ R.locals) (τ : SM) (K : Nat) (hF : mF τ ≤ 16) (hN : mN τ ≤ 40) (hcl : ∀ e, mCl τ e < 16) (hmb : ∀ c, c < 16 → mHs τ c < 2 ^ 31) (hhs : ∀ e, e < mN τ → 0 < mHs τ (mCl τ e)) (hK1 : 1023 ≤ K) (hK2 : K ≤ 1900) (hmn : ∀ c, c < 16 → ∀ f, f < mF τ → mg 1057 (mMn τ (16 * c + f))) (e9 j9 : Nat) (w9 : Nat → UInt64) (he9 : e9 < 40) (hj9 : j9 < 16) (hne9 : j9 ≠ mCl τ e9) (hwK : ∀ c f, c < 16 → f < mF τ → mg K (w9 (16 * c + f)))
    (exit : ∀ (H : Heap) (locs : List Loc) (ls : Array Slot), PM E ad (smWt τ (shM (mMn τ) (fun f => mVl τ (16 * e9 + f)) (mCl τ e9) j9 w9 (mF τ))) H → va_S (aX 8 ad) H0 H locs → lv_has ls 9 [(1, .int (nI (e9))), (0, .ref (ad 0))] → W p l e R s m args below meth c H locs 0 0 Q (F0 m 188 ls [])) :
    ∀ (n f9 : Nat) (H : Heap) (locs : List Loc) (ls : Array Slot), f9 ≤ mF τ → mF τ - f9 < n → PM E ad (smWt τ (shM (mMn τ) (fun f => mVl τ (16 * e9 + f)) (mCl τ e9) j9 w9 f9)) H → va_S (aX 8 ad) H0 H locs → lv_has ls 9 [(4, .int (nI (f9))), (3, .int (nI (j9))), (2, .int (nI (mCl τ e9))), (1, .int (nI (e9))), (0, .ref (ad 0))] → W p l e R s m args below meth c H locs 0 0 Q (F0 m 34 ls []) := by
  have hA : ∀ k, k < 8 → aX 8 ad (ad k) := fun k hk => ⟨k, hk, rfl⟩
  intro n
  induction n with
  | zero => intro f9 H locs ls h1 h2; omega
  | succ n ih =>
    intro f9 H locs ls hi hn hP hS hl
    have hce := hcl e9
    refine lv_iload hx hb dX1_round_34 (lv_at hl 0 rfl) ?_
    refine lv_aload_n hx hb dX1_round_36 rfl (lv_at hl 4 rfl) ?_
    refine gm hx hb hts innX1_round hown hK hP 1 (by decide) (by decide +kernel) rfl (v := .int (nI ((mF τ)))) rfl dX1_round_37 ?_
    refine zb_ge (tgt := 188) hx hb (show f9 < 2 ^ 31 by omega) (show (mF τ) < 2 ^ 31 by omega) dX1_round_40 (by decide) (fun h => ?_) (fun h => ?_)
    · have h : (mF τ) ≤ f9 := h
      have hend : f9 = mF τ := by omega
      subst hend
      exact exit _ _ _ hP hS (lv_sub hl [3, 4] rfl)
    · have h : f9 < (mF τ) := h
      refine lv_iload_n hx hb dX1_round_43 rfl (lv_at hl 1 rfl) ?_
      refine lv_iload_n hx hb dX1_round_44 rfl (lv_at hl 2 rfl) ?_
      refine zb_eq (tgt := 188) hx hb (show j9 < 2 ^ 31 by omega) (show mCl τ e9 < 2 ^ 31 by omega) dX1_round_45 (by decide) (fun h3 => ?_) (fun h3 => ?_)
      · have h3 : j9 = (mCl τ e9) := h3
        exact absurd h3 hne9
      · have h3 : j9 ≠ (mCl τ e9) := h3
        have hwc : mg K (shM (mMn τ) (fun f => mVl τ (16 * e9 + f)) (mCl τ e9) j9 w9 f9 (16 * (mCl τ e9) + f9)) := by rw [shM_rest (Nat.le_refl f9) (by omega)]; exact hwK _ f9 hce h
        have hwn : mg K (shM (mMn τ) (fun f => mVl τ (16 * e9 + f)) (mCl τ e9) j9 w9 f9 (16 * j9 + f9)) := by rw [shM_rest (Nat.le_refl f9) (by omega)]; exact hwK _ f9 hj9 h
        refine lv_aload_n hx hb dX1_round_48 rfl (lv_at hl 4 rfl) ?_
        refine gm hx hb hts innX1_round hown hK hP 4 (by decide) (by decide +kernel) rfl (v := .ref (ad 2)) rfl dX1_round_49 ?_
        refine lv_bipush (v := nI 16) hx hb dX1_round_52 (by decide +kernel) ?_
        refine lv_iload_n hx hb dX1_round_54 rfl (lv_at hl 3 rfl) ?_
        refine zv_imul (v := (nI (16 * e9))) hx hb dX1_round_55 (pk_mul _ _) ?_
        refine lv_iload hx hb dX1_round_56 (lv_at hl 0 rfl) ?_
        refine zv_iadd (v := (nI ((16 * e9) + f9))) hx hb dX1_round_58 (nI_add _ _) ?_
        refine z_iald hx hb hK hP 2 (by decide) cm_vl (show (16 * e9) + f9 < 640 by omega) (by decide) dX1_round_59 ?_
        refine lv_i2d hx hb dX1_round_60 ?_
        refine lv_aload_n hx hb dX1_round_61 rfl (lv_at hl 4 rfl) ?_
        refine gm hx hb hts innX1_round hown hK hP 8 (by decide) (by decide +kernel) rfl (v := .ref (ad 5)) rfl dX1_round_62 ?_
        refine lv_bipush (v := nI 16) hx hb dX1_round_65 (by decide +kernel) ?_
        refine lv_iload_n hx hb dX1_round_67 rfl (lv_at hl 2 rfl) ?_
        refine zv_imul (v := (nI (16 * (mCl τ e9)))) hx hb dX1_round_68 (pk_mul _ _) ?_
        refine lv_iload hx hb dX1_round_69 (lv_at hl 0 rfl) ?_
        refine zv_iadd (v := (nI ((16 * (mCl τ e9)) + f9))) hx hb dX1_round_71 (nI_add _ _) ?_
        refine z_dald hx hb hK hP 5 (by decide) cm_mn (show (16 * (mCl τ e9)) + f9 < 256 by omega) (by decide) dX1_round_72 ?_
        refine lv_dsub hx hb dX1_round_73 (mg_n64 (mg_df _ (hmn _ hce f9 h)) (by decide)) ?_
        refine va_calld (va_runS (As := [.double (FP.dsub (FP.i2d (nI ((mVl τ) ((16 * e9) + f9)))) ((mMn τ) ((16 * (mCl τ e9)) + f9)))]) (rest := []) ⟨hx, hb, hml, hown, hts⟩ (kX1_size l _) (va_cwS 1 hts gX1_round_X1_size rfl rfl rfl (by decide +kernel) ⟨Nat.le_trans (Nat.le_of_ble_eq_true rfl) hRf, Nat.le_trans (Nat.le_of_ble_eq_true rfl) hRl⟩) zps rfl rfl hl.1 rfl (lv_room (Nat.le_of_ble_eq_true rfl)) dX1_round_74 ⟨Nat.zero_le _, Nat.zero_le _⟩) hS (fun q _ h => h.elim) (fun q h => h.elim) (fun r u9 t9 H locs ht9 hvm9 hw9 hB9 hz9 hk9 hS => ?_)
        have hP := wn_ro hP hk9
        subst hw9
        refine lv_dstore (lv' := [(5, .double (szF (FP.dsub (FP.i2d (nI (mVl τ (16 * e9 + f9)))) (mMn τ (16 * (mCl τ e9) + f9))))), (4, .int (nI (f9))), (3, .int (nI (j9))), (2, .int (nI (mCl τ e9))), (1, .int (nI (e9))), (0, .ref (ad 0))]) hx hb dX1_round_77 hl (by decide) rfl (fun ls hl => ?_)
        refine lv_aload_n hx hb dX1_round_79 rfl (lv_at hl 5 rfl) ?_
        refine gm hx hb hts innX1_round hown hK hP 4 (by decide) (by decide +kernel) rfl (v := .ref (ad 2)) rfl dX1_round_80 ?_
        refine lv_bipush (v := nI 16) hx hb dX1_round_83 (by decide +kernel) ?_
        refine lv_iload_n hx hb dX1_round_85 rfl (lv_at hl 4 rfl) ?_
        refine zv_imul (v := (nI (16 * e9))) hx hb dX1_round_86 (pk_mul _ _) ?_
        refine lv_iload hx hb dX1_round_87 (lv_at hl 1 rfl) ?_
        refine zv_iadd (v := (nI ((16 * e9) + f9))) hx hb dX1_round_89 (nI_add _ _) ?_
        refine z_iald hx hb hK hP 2 (by decide) cm_vl (show (16 * e9) + f9 < 640 by omega) (by decide) dX1_round_90 ?_
        refine lv_i2d hx hb dX1_round_91 ?_
        refine lv_aload_n hx hb dX1_round_92 rfl (lv_at hl 5 rfl) ?_
        refine gm hx hb hts innX1_round hown hK hP 8 (by decide) (by decide +kernel) rfl (v := .ref (ad 5)) rfl dX1_round_93 ?_
        refine lv_bipush (v := nI 16) hx hb dX1_round_96 (by decide +kernel) ?_
        refine lv_iload_n hx hb dX1_round_98 rfl (lv_at hl 2 rfl) ?_
        refine zv_imul (v := (nI (16 * j9))) hx hb dX1_round_99 (pk_mul _ _) ?_
        refine lv_iload hx hb dX1_round_100 (lv_at hl 1 rfl) ?_
        refine zv_iadd (v := (nI ((16 * j9) + f9))) hx hb dX1_round_102 (nI_add _ _) ?_
        refine z_dald hx hb hK hP 5 (by decide) cm_mn (show (16 * j9) + f9 < 256 by omega) (by decide) dX1_round_103 ?_
        refine lv_dsub hx hb dX1_round_104 (mg_n64 (mg_df _ (hmn _ hj9 f9 h)) (by decide)) ?_
        refine va_calld (va_runS (As := [.double (FP.dsub (FP.i2d (nI ((mVl τ) ((16 * e9) + f9)))) ((mMn τ) ((16 * j9) + f9)))]) (rest := []) ⟨hx, hb, hml, hown, hts⟩ (kX1_size l _) (va_cwS 1 hts gX1_round_X1_size rfl rfl rfl (by decide +kernel) ⟨Nat.le_trans (Nat.le_of_ble_eq_true rfl) hRf, Nat.le_trans (Nat.le_of_ble_eq_true rfl) hRl⟩) zps rfl rfl hl.1 rfl (lv_room (Nat.le_of_ble_eq_true rfl)) dX1_round_105 ⟨Nat.zero_le _, Nat.zero_le _⟩) hS (fun q _ h => h.elim) (fun q h => h.elim) (fun r u9 t9 H locs ht9 hvm9 hw9 hB9 hz9 hk9 hS => ?_)
        have hP := wn_ro hP hk9
        subst hw9
        refine lv_dstore (lv' := [(7, .double (szF (FP.dsub (FP.i2d (nI (mVl τ (16 * e9 + f9)))) (mMn τ (16 * j9 + f9))))), (5, .double (szF (FP.dsub (FP.i2d (nI (mVl τ (16 * e9 + f9)))) (mMn τ (16 * (mCl τ e9) + f9))))), (4, .int (nI (f9))), (3, .int (nI (j9))), (2, .int (nI (mCl τ e9))), (1, .int (nI (e9))), (0, .ref (ad 0))]) hx hb dX1_round_108 hl (by decide) rfl (fun ls hl => ?_)
        refine lv_dload hx hb dX1_round_110 (lv_at hl 1 rfl) ?_
        refine lv_dload hx hb dX1_round_112 (lv_at hl 0 rfl) ?_
        refine lv_dcmp hx hb dX1_round_114 ?_
        refine lv_if_le (tgt := 146) hx hb dX1_round_115 (by decide) (fun h1 => ?_) (fun h1 => ?_)
        · refine lv_dload hx hb dX1_round_146 (lv_at hl 0 rfl) ?_
          refine lv_dload hx hb dX1_round_148 (lv_at hl 1 rfl) ?_
          refine lv_dcmp hx hb dX1_round_150 ?_
          refine lv_if_le (tgt := 182) hx hb dX1_round_151 (by decide) (fun h2 => ?_) (fun h2 => ?_)
          · have e8 : shM (mMn τ) (fun f => mVl τ (16 * e9 + f)) (mCl τ e9) j9 w9 (f9 + 1) = shM (mMn τ) (fun f => mVl τ (16 * e9 + f)) (mCl τ e9) j9 w9 f9 := (if_neg (fun q => q h1)).trans (if_neg (fun q => q h2))
            refine lv_iinc (v := nI (f9 + 1)) (lv' := [(4, .int (nI (f9 + 1))), (7, .double (szF (FP.dsub (FP.i2d (nI (mVl τ (16 * e9 + f9)))) (mMn τ (16 * j9 + f9))))), (5, .double (szF (FP.dsub (FP.i2d (nI (mVl τ (16 * e9 + f9)))) (mMn τ (16 * (mCl τ e9) + f9))))), (3, .int (nI (j9))), (2, .int (nI (mCl τ e9))), (1, .int (nI (e9))), (0, .ref (ad 0))]) hx hb dX1_round_182 hl (k := 2) rfl (nI_1 _) (by decide) rfl (fun ls hl => ?_)
            refine lv_goto (tgt := 34) hx hb dX1_round_185 (by decide) ?_
            exact ih (f9 + 1) _ _ _ (by omega) (by omega) (by rw [e8]; exact hP) hS (lv_sub hl [0, 3, 4, 5, 6] rfl)
          · refine lv_aload_n hx hb dX1_round_154 rfl (lv_at hl 6 rfl) ?_
            refine gm hx hb hts innX1_round hown hK hP 9 (by decide) (by decide +kernel) rfl (v := .ref (ad 6)) rfl dX1_round_155 ?_
            refine lv_bipush (v := nI 16) hx hb dX1_round_158 (by decide +kernel) ?_
            refine lv_iload_n hx hb dX1_round_160 rfl (lv_at hl 3 rfl) ?_
            refine zv_imul (v := (nI (16 * j9))) hx hb dX1_round_161 (pk_mul _ _) ?_
            refine lv_iload hx hb dX1_round_162 (lv_at hl 2 rfl) ?_
            refine zv_iadd (v := (nI ((16 * j9) + f9))) hx hb dX1_round_164 (nI_add _ _) ?_
            refine lv_aload_n hx hb dX1_round_165 rfl (lv_at hl 6 rfl) ?_
            refine gm hx hb hts innX1_round hown hK hP 9 (by decide) (by decide +kernel) rfl (v := .ref (ad 6)) rfl dX1_round_166 ?_
            refine lv_bipush (v := nI 16) hx hb dX1_round_169 (by decide +kernel) ?_
            refine lv_iload_n hx hb dX1_round_171 rfl (lv_at hl 3 rfl) ?_
            refine zv_imul (v := (nI (16 * j9))) hx hb dX1_round_172 (pk_mul _ _) ?_
            refine lv_iload hx hb dX1_round_173 (lv_at hl 2 rfl) ?_
            refine zv_iadd (v := (nI ((16 * j9) + f9))) hx hb dX1_round_175 (nI_add _ _) ?_
            refine z_dald hx hb hK hP 6 (by decide) cm_wt (show (16 * j9) + f9 < 256 by omega) (by decide) dX1_round_176 ?_
            refine lv_ldc2d hx hb hown (hts (.constantDouble RX1 61 k1125) (by decide +kernel)) dX1_round_177 ?_
            refine lv_dmul hx hb dX1_round_180 (mg_n64 (mg_dmul (K := K + 1) hwn mg_1125 (by omega) (by decide) (by omega) (by decide) (by omega) (by omega)) (by omega)) ?_
            have e8 : shM (mMn τ) (fun f => mVl τ (16 * e9 + f)) (mCl τ e9) j9 w9 (f9 + 1) = va_up (shM (mMn τ) (fun f => mVl τ (16 * e9 + f)) (mCl τ e9) j9 w9 f9) (16 * j9 + f9) (FP.dmul (shM (mMn τ) (fun f => mVl τ (16 * e9 + f)) (mCl τ e9) j9 w9 f9 (16 * j9 + f9)) k1125) := (if_neg (fun q => q h1)).trans (if_pos h2)
            refine z_dast hx hb hK hP hap hA hS 6 (by decide) cm_wt (show (16 * j9) + f9 < 256 by omega) (by decide) dX1_round_181 (fun H locs hP hS => ?_)
            have hP := pm_wt hP
            refine lv_iinc (v := nI (f9 + 1)) (lv' := [(4, .int (nI (f9 + 1))), (7, .double (szF (FP.dsub (FP.i2d (nI (mVl τ (16 * e9 + f9)))) (mMn τ (16 * j9 + f9))))), (5, .double (szF (FP.dsub (FP.i2d (nI (mVl τ (16 * e9 + f9)))) (mMn τ (16 * (mCl τ e9) + f9))))), (3, .int (nI (j9))), (2, .int (nI (mCl τ e9))), (1, .int (nI (e9))), (0, .ref (ad 0))]) hx hb dX1_round_182 hl (k := 2) rfl (nI_1 _) (by decide) rfl (fun ls hl => ?_)
            refine lv_goto (tgt := 34) hx hb dX1_round_185 (by decide) ?_
            exact ih (f9 + 1) _ _ _ (by omega) (by omega) (by rw [e8]; exact hP) hS (lv_sub hl [0, 3, 4, 5, 6] rfl)
        · refine lv_aload_n hx hb dX1_round_118 rfl (lv_at hl 6 rfl) ?_
          refine gm hx hb hts innX1_round hown hK hP 9 (by decide) (by decide +kernel) rfl (v := .ref (ad 6)) rfl dX1_round_119 ?_
          refine lv_bipush (v := nI 16) hx hb dX1_round_122 (by decide +kernel) ?_
          refine lv_iload_n hx hb dX1_round_124 rfl (lv_at hl 4 rfl) ?_
          refine zv_imul (v := (nI (16 * (mCl τ e9)))) hx hb dX1_round_125 (pk_mul _ _) ?_
          refine lv_iload hx hb dX1_round_126 (lv_at hl 2 rfl) ?_
          refine zv_iadd (v := (nI ((16 * (mCl τ e9)) + f9))) hx hb dX1_round_128 (nI_add _ _) ?_
          refine lv_aload_n hx hb dX1_round_129 rfl (lv_at hl 6 rfl) ?_
          refine gm hx hb hts innX1_round hown hK hP 9 (by decide) (by decide +kernel) rfl (v := .ref (ad 6)) rfl dX1_round_130 ?_
          refine lv_bipush (v := nI 16) hx hb dX1_round_133 (by decide +kernel) ?_
          refine lv_iload_n hx hb dX1_round_135 rfl (lv_at hl 4 rfl) ?_
          refine zv_imul (v := (nI (16 * (mCl τ e9)))) hx hb dX1_round_136 (pk_mul _ _) ?_
          refine lv_iload hx hb dX1_round_137 (lv_at hl 2 rfl) ?_
          refine zv_iadd (v := (nI ((16 * (mCl τ e9)) + f9))) hx hb dX1_round_139 (nI_add _ _) ?_
          refine z_dald hx hb hK hP 6 (by decide) cm_wt (show (16 * (mCl τ e9)) + f9 < 256 by omega) (by decide) dX1_round_140 ?_
          refine lv_ldc2d hx hb hown (hts (.constantDouble RX1 59 k875) (by decide +kernel)) dX1_round_141 ?_
          refine lv_dmul hx hb dX1_round_144 (mg_n64 (mg_dmul (K := K) hwc mg_875 (by omega) (by decide) (by omega) (by decide) (by omega) (by omega)) (by omega)) ?_
          have e8 : shM (mMn τ) (fun f => mVl τ (16 * e9 + f)) (mCl τ e9) j9 w9 (f9 + 1) = va_up (shM (mMn τ) (fun f => mVl τ (16 * e9 + f)) (mCl τ e9) j9 w9 f9) (16 * (mCl τ e9) + f9) (FP.dmul (shM (mMn τ) (fun f => mVl τ (16 * e9 + f)) (mCl τ e9) j9 w9 f9 (16 * (mCl τ e9) + f9)) k875) := if_pos h1
          refine z_dast hx hb hK hP hap hA hS 6 (by decide) cm_wt (show (16 * (mCl τ e9)) + f9 < 256 by omega) (by decide) dX1_round_145 (fun H locs hP hS => ?_)
          have hP := pm_wt hP
          refine lv_dload hx hb dX1_round_146 (lv_at hl 0 rfl) ?_
          refine lv_dload hx hb dX1_round_148 (lv_at hl 1 rfl) ?_
          refine lv_dcmp hx hb dX1_round_150 ?_
          refine lv_if_le (tgt := 182) hx hb dX1_round_151 (by decide) (fun h2 => ?_) (fun h2 => ?_)
          · refine lv_iinc (v := nI (f9 + 1)) (lv' := [(4, .int (nI (f9 + 1))), (7, .double (szF (FP.dsub (FP.i2d (nI (mVl τ (16 * e9 + f9)))) (mMn τ (16 * j9 + f9))))), (5, .double (szF (FP.dsub (FP.i2d (nI (mVl τ (16 * e9 + f9)))) (mMn τ (16 * (mCl τ e9) + f9))))), (3, .int (nI (j9))), (2, .int (nI (mCl τ e9))), (1, .int (nI (e9))), (0, .ref (ad 0))]) hx hb dX1_round_182 hl (k := 2) rfl (nI_1 _) (by decide) rfl (fun ls hl => ?_)
            refine lv_goto (tgt := 34) hx hb dX1_round_185 (by decide) ?_
            exact ih (f9 + 1) _ _ _ (by omega) (by omega) (by rw [e8]; exact hP) hS (lv_sub hl [0, 3, 4, 5, 6] rfl)
          · exact absurd h2 (gtF_anti h1)
set_option maxHeartbeats 4000000 in
set_option maxRecDepth 100000 in
theorem lp_X1_round2 {p : Program} {l : Launch} {e : Env} {R : Room} {s : State} {m : MethodId} {args : Array Value} {below : List Frame} {meth : Method} {c : Code} {Q : State → Prop} {E : zE} {ad : Nat → Nat} (hx : p.tables.exec = Jvm.exec) (hb : c.code = cX1_round) (hml : c.maxLocals = 9) (hts : ∀ w ∈ wsX1_round, w.before args s = true) (hown : s.vm.findClass RX1 = some m.cls) (hK : zK E s) (hap : apart 8 ad) {H0 : Heap} (hRf : 3 ≤ R.frames) (hRl : 76 ≤ R.locals) (τ : SM) (K : Nat) (hF : mF τ ≤ 16) (hN : mN τ ≤ 40) (hcl : ∀ e, mCl τ e < 16) (hmb : ∀ c, c < 16 → mHs τ c < 2 ^ 31) (hhs : ∀ e, e < mN τ → 0 < mHs τ (mCl τ e)) (hK1 : 1023 ≤ K) (hK2 : K ≤ 1900) (hmn : ∀ c, c < 16 → ∀ f, f < mF τ → mg 1057 (mMn τ (16 * c + f))) (hbd : ∀ i, i ≤ mN τ → ∀ c f, c < 16 → f < mF τ → mg K (rdM τ (mWt τ) i (16 * c + f)))
    (exit : ∀ (H : Heap) (locs : List Loc) (ls : Array Slot), PM E ad (smWt τ (rdM τ (mWt τ) (mN τ))) H → va_S (aX 8 ad) H0 H locs → lv_has ls 9 [(0, .ref (ad 0))] → W p l e R s m args below meth c H locs 0 0 Q (F0 m 194 ls [])) :
    ∀ (n i : Nat) (H : Heap) (locs : List Loc) (ls : Array Slot), i ≤ mN τ → mN τ - i < n → PM E ad (smWt τ (rdM τ (mWt τ) i)) H → va_S (aX 8 ad) H0 H locs → lv_has ls 9 [(1, .int (nI (i))), (0, .ref (ad 0))] → W p l e R s m args below meth c H locs 0 0 Q (F0 m 2 ls []) := by
  have hA : ∀ k, k < 8 → aX 8 ad (ad k) := fun k hk => ⟨k, hk, rfl⟩
  intro n
  induction n with
  | zero => intro i H locs ls h1 h2; omega
  | succ n ih =>
    intro i H locs ls hi hn hP hS hl
    refine lv_iload_n hx hb dX1_round_2 rfl (lv_at hl 0 rfl) ?_
    refine lv_aload_n hx hb dX1_round_3 rfl (lv_at hl 1 rfl) ?_
    refine gm hx hb hts innX1_round hown hK hP 2 (by decide) (by decide +kernel) rfl (v := .int (nI ((mN τ)))) rfl dX1_round_4 ?_
    refine zb_ge (tgt := 194) hx hb (show i < 2 ^ 31 by omega) (show (mN τ) < 2 ^ 31 by omega) dX1_round_7 (by decide) (fun h => ?_) (fun h => ?_)
    · have h : (mN τ) ≤ i := h
      have hend : i = mN τ := by omega
      subst hend
      exact exit _ _ _ hP hS (lv_sub hl [1] rfl)
    · have h : i < (mN τ) := h
      have hci := hcl i
      have hwi := hbd i (by omega)
      refine lv_aload_n hx hb dX1_round_10 rfl (lv_at hl 1 rfl) ?_
      refine gm hx hb hts innX1_round hown hK hP 3 (by decide) (by decide +kernel) rfl (v := .ref (ad 1)) rfl dX1_round_11 ?_
      refine lv_iload_n hx hb dX1_round_14 rfl (lv_at hl 0 rfl) ?_
      refine z_iald hx hb hK hP 1 (by decide) cm_cl (show i < 40 by omega) (by decide) dX1_round_15 ?_
      refine lv_istore_n (lv' := [(2, .int (nI ((mCl τ) (i)))), (1, .int (nI (i))), (0, .ref (ad 0))]) hx hb dX1_round_16 rfl hl (by decide) rfl (fun ls hl => ?_)
      refine lv_aload_n hx hb dX1_round_17 rfl (lv_at hl 2 rfl) ?_
      refine lv_aload_n hx hb dX1_round_18 rfl (lv_at hl 2 rfl) ?_
      refine gm hx hb hts innX1_round hown hK hP 4 (by decide) (by decide +kernel) rfl (v := .ref (ad 2)) rfl dX1_round_19 ?_
      refine lv_bipush (v := nI 16) hx hb dX1_round_22 (by decide +kernel) ?_
      refine lv_iload_n hx hb dX1_round_24 rfl (lv_at hl 1 rfl) ?_
      refine zv_imul (v := (nI (16 * i))) hx hb dX1_round_25 (pk_mul _ _) ?_
      refine lv_iconst (v := -1) hx hb dX1_round_26 (by decide +kernel) ?_
      refine va_calli (va_runV (As := [.ref (ad 2), .int (nI (16 * i)), .int (-1)]) (rest := []) ⟨hx, hb, hml, hown, hts⟩ (kX1_nearest l E ad hap (smWt τ (rdM τ (mWt τ) i)) 2 640 (16 * i) K (mVl τ) (-1) hF hmb (by decide) (cm_vl (τ := smWt τ (rdM τ (mWt τ) i))) (by decide) (show 16 * i + mF τ ≤ 640 by omega) hK1 hK2 (fun c hc f hf => ⟨hwi c f hc hf, hmn c hc f hf⟩)) (cwV 3 hts gX1_round_X1_nearest rfl rfl rfl (by decide +kernel) ⟨Nat.le_trans (Nat.le_of_ble_eq_true rfl) hRf, Nat.le_trans (Nat.le_of_ble_eq_true rfl) hRl⟩) (zpm hK hP) rfl rfl hl.1 rfl (lv_room (Nat.le_of_ble_eq_true rfl)) dX1_round_27 ⟨Nat.zero_le _, Nat.zero_le _⟩) hS (fun q _ h => h.elim) (fun q h => h.elim) (fun r u9 t9 H locs ht9 hvm9 hw9 hB9 hz9 hk9 hS => ?_)
      have hP := wn_ro hP hk9
      obtain ⟨j, hj, e9⟩ := nearM_some (smWt τ (rdM τ (mWt τ) i)) (mVl τ) (16 * i) (mCl τ i) hci (hhs i h)
      rw [e9] at hw9
      subst hw9
      refine lv_istore_n (lv' := [(3, .int (nI (j))), (2, .int (nI ((mCl τ) (i)))), (1, .int (nI (i))), (0, .ref (ad 0))]) hx hb dX1_round_30 rfl hl (by decide) rfl (fun ls hl => ?_)
      refine lv_iconst (v := nI 0) hx hb dX1_round_31 (by decide +kernel) ?_
      refine lv_istore (lv' := [(4, .int (nI (0))), (3, .int (nI (j))), (2, .int (nI ((mCl τ) (i)))), (1, .int (nI (i))), (0, .ref (ad 0))]) hx hb dX1_round_32 hl (by decide) rfl (fun ls hl => ?_)
      by_cases hq : j = mCl τ i
      · have e8 : rdM τ (mWt τ) (i + 1) = rdM τ (mWt τ) i := if_pos (by rw [e9, hq])
        refine lv_iload hx hb dX1_round_34 (lv_at hl 0 rfl) ?_
        refine lv_aload_n hx hb dX1_round_36 rfl (lv_at hl 4 rfl) ?_
        refine gm hx hb hts innX1_round hown hK hP 1 (by decide) (by decide +kernel) rfl (v := .int (nI ((mF τ)))) rfl dX1_round_37 ?_
        refine zb_ge (tgt := 188) hx hb (show 0 < 2 ^ 31 by omega) (show (mF τ) < 2 ^ 31 by omega) dX1_round_40 (by decide) (fun h3 => ?_) (fun h3 => ?_)
        · have h3 : (mF τ) ≤ 0 := h3
          refine lv_iinc (v := nI (i + 1)) (lv' := [(1, .int (nI (i + 1))), (4, .int (nI (0))), (3, .int (nI (j))), (2, .int (nI ((mCl τ) (i)))), (0, .ref (ad 0))]) hx hb dX1_round_188 hl (k := 3) rfl (nI_1 _) (by decide) rfl (fun ls hl => ?_)
          refine lv_goto (tgt := 2) hx hb dX1_round_191 (by decide) ?_
          exact ih (i + 1) _ _ _ (by omega) (by omega) (by rw [e8]; exact hP) hS (lv_sub hl [0, 4] rfl)
        · have h3 : 0 < (mF τ) := h3
          refine lv_iload_n hx hb dX1_round_43 rfl (lv_at hl 1 rfl) ?_
          refine lv_iload_n hx hb dX1_round_44 rfl (lv_at hl 2 rfl) ?_
          refine zb_eq (tgt := 188) hx hb (show j < 2 ^ 31 by omega) (show (mCl τ) (i) < 2 ^ 31 by omega) dX1_round_45 (by decide) (fun h4 => ?_) (fun h4 => ?_)
          · have h4 : j = ((mCl τ) (i)) := h4
            refine lv_iinc (v := nI (i + 1)) (lv' := [(1, .int (nI (i + 1))), (4, .int (nI (0))), (3, .int (nI (j))), (2, .int (nI ((mCl τ) (i)))), (0, .ref (ad 0))]) hx hb dX1_round_188 hl (k := 3) rfl (nI_1 _) (by decide) rfl (fun ls hl => ?_)
            refine lv_goto (tgt := 2) hx hb dX1_round_191 (by decide) ?_
            exact ih (i + 1) _ _ _ (by omega) (by omega) (by rw [e8]; exact hP) hS (lv_sub hl [0, 4] rfl)
          · have h4 : j ≠ ((mCl τ) (i)) := h4
            exact absurd hq h4
      · have e8 : rdM τ (mWt τ) (i + 1) = shM (mMn τ) (fun f => mVl τ (16 * i + f)) (mCl τ i) j (rdM τ (mWt τ) i) (mF τ) := by
          rw [rdM, if_neg (fun q => by rw [e9] at q; exact hq ((nI_eq (by omega) (by omega)).mp q)), e9, nI_clamp (by omega)]
        refine lp_X1_round1 hx hb hml hts hown hK hap hRf hRl τ K hF hN hcl hmb hhs hK1 hK2 hmn i j (rdM τ (mWt τ) i) (by omega) hj hq hwi (fun H locs ls hP hS hl => ?_) (mF τ + 1) 0 _ _ _ (by omega) (by omega) hP hS (lv_sub hl [0, 1, 2, 3, 4] rfl)
        refine lv_iinc (v := nI (i + 1)) (lv' := [(1, .int (nI (i + 1))), (0, .ref (ad 0))]) hx hb dX1_round_188 hl (k := 0) rfl (nI_1 _) (by decide) rfl (fun ls hl => ?_)
        refine lv_goto (tgt := 2) hx hb dX1_round_191 (by decide) ?_
        exact ih (i + 1) _ _ _ (by omega) (by omega) (by rw [e8]; exact hP) hS (lv_sub hl [0, 1] rfl)
set_option maxHeartbeats 4000000 in
set_option maxRecDepth 100000 in
theorem kX1_round (l : Launch) (E : zE) (ad : Nat → Nat) (hap : apart 8 ad) (τ : SM) (K : Nat) (hF : mF τ ≤ 16) (hN : mN τ ≤ 40) (hcl : ∀ e, mCl τ e < 16) (hmb : ∀ c, c < 16 → mHs τ c < 2 ^ 31) (hhs : ∀ e, e < mN τ → 0 < mHs τ (mCl τ e)) (hK1 : 1023 ≤ K) (hK2 : K ≤ 1900) (hmn : ∀ c, c < 16 → ∀ f, f < mF τ → mg 1057 (mMn τ (16 * c + f))) (hbd : ∀ i, i ≤ mN τ → ∀ c f, c < 16 → f < mF τ → mg K (rdM τ (mWt τ) i (16 * c + f))) : Met l yX1_round wsX1_round ({ frames := 3, cells := 0, slots := 0, locals := 76 }) (va_Pc [.ref (ad 0)] (fun U => PM E ad τ U.heap ∧ zK E U)) (va_Qv (fun τ' : SM => τ' = smWt τ (rdM τ (mWt τ) (mN τ))) (fun τ' t => PM E ad τ' t.heap) (aX 8 ad)) 0 0 (aX 8 ad) := by
  refine Met.ofW (cc := cX1_round) (maxL := 9) (ret := none) (by decide) rfl ?_
  intro p e s m args below meth c s₁ B hml hv
  obtain ⟨rfl, hP, hK⟩ := hv
  have hx := B.exec
  have hb := B.bytes
  have hr := B.returns
  have hts := atoms_spec (ws := wsX1_round) B.pre
  have hown : s.vm.findClass RX1 = some m.cls := findClass_of_methodNamed B.named
  have hlocks := B.notSynchronized
  have hS : va_S (aX 8 ad) s.heap s.heap [] := va_S.rf
  have hA : ∀ k, k < 8 → aX 8 ad (ad k) := fun k hk => ⟨k, hk, rfl⟩
  have hRf : 3 ≤ ((headSpec wsX1_round ({ frames := 3, cells := 0, slots := 0, locals := 76 })).room).frames := Nat.le_of_ble_eq_true rfl
  have hRl : 76 ≤ ((headSpec wsX1_round ({ frames := 3, cells := 0, slots := 0, locals := 76 })).room).locals := Nat.le_of_ble_eq_true rfl
  have hl := lv_entry ([.ref (ad 0)]) (n := 9) (Nat.le_of_ble_eq_true rfl)
  rw [lg_entry_eq]
  generalize (lg_sl ([.ref (ad 0)]) ++ List.replicate (9 - (lg_sl ([.ref (ad 0)])).length) Slot.unset).toArray = ls at hl ⊢
  have hl : lv_has ls 9 [(0, .ref (ad 0))] := hl
  refine lv_iconst (v := nI 0) hx hb dX1_round_0 (by decide +kernel) ?_
  refine lv_istore_n (lv' := [(1, .int (nI (0))), (0, .ref (ad 0))]) hx hb dX1_round_1 rfl hl (by decide) rfl (fun ls hl => ?_)
  refine lp_X1_round2 hx hb hml hts hown hK hap hRf hRl τ K hF hN hcl hmb hhs hK1 hK2 hmn hbd (fun H locs ls hP hS hl => ?_) (mN τ + 1) 0 _ _ _ (by omega) (by omega) hP hS (lv_sub hl [0, 1] rfl)
  exact W.vret hx hb hr (fun t ht hW => ⟨⟨_, rfl, rfl, (wn_h ht hP)⟩, hS.F ht⟩) hS.2.2 dX1_round_194
set_option maxHeartbeats 4000000 in
set_option maxRecDepth 100000 in
theorem lp_X1_make1 {p : Program} {l : Launch} {e : Env} {R : Room} {s : State} {m : MethodId} {args : Array Value} {below : List Frame} {meth : Method} {c : Code} {Q : State → Prop} {E : zE} {ad : Nat → Nat} (hx : p.tables.exec = Jvm.exec) (hb : c.code = cX1_make) (hml : c.maxLocals = 3) (hts : ∀ w ∈ wsX1_make, w.before args s = true) (hown : s.vm.findClass RX1 = some m.cls) (hK : zK E s) (hap : apart 8 ad) {H0 : Heap} (hRf : 4 ≤ R.frames) (hRl : 104 ≤ R.locals) (τ : SM) (K : Nat) (hF : mF τ ≤ 16) (hN : mN τ ≤ 40) (hcl : ∀ e, mCl τ e < 16) (hmb : ∀ c, c < 16 → mHs τ c < 2 ^ 31) (hhs : ∀ e, e < mN τ → 0 < mHs τ (mCl τ e)) (hK1 : 1023 ≤ K) (hK2 : K ≤ 1900) (hmn : ∀ c, c < 16 → ∀ f, f < mF τ → mg 1057 (mMn τ (16 * c + f))) (j9 : Nat) (hj9 : j9 < 21) (hbd : ∀ r, r ≤ j9 → ∀ i, i ≤ mN τ → ∀ c f, c < 16 → f < mF τ → mg K (rdM τ (rdsM τ r) i (16 * c + f)))
    (exit : ∀ (H : Heap) (locs : List Loc) (ls : Array Slot), PM E ad (smWt τ (rdsM τ j9)) H → va_S (aX 8 ad) H0 H locs → lv_has ls 3 [(0, .ref (ad 0)), (1, .int (nI (j9)))] → W p l e R s m args below meth c H locs 0 0 Q (F0 m 53 ls [])) :
    ∀ (n i : Nat) (H : Heap) (locs : List Loc) (ls : Array Slot), i ≤ j9 → j9 - i < n → PM E ad (smWt τ (rdsM τ i)) H → va_S (aX 8 ad) H0 H locs → lv_has ls 3 [(2, .int (nI (i))), (0, .ref (ad 0)), (1, .int (nI (j9)))] → W p l e R s m args below meth c H locs 0 0 Q (F0 m 38 ls []) := by
  have hA : ∀ k, k < 8 → aX 8 ad (ad k) := fun k hk => ⟨k, hk, rfl⟩
  intro n
  induction n with
  | zero => intro i H locs ls h1 h2; omega
  | succ n ih =>
    intro i H locs ls hi hn hP hS hl
    refine lv_iload_n hx hb dX1_make_38 rfl (lv_at hl 0 rfl) ?_
    refine lv_iload_n hx hb dX1_make_39 rfl (lv_at hl 2 rfl) ?_
    refine zb_ge (tgt := 53) hx hb (show i < 2 ^ 31 by omega) (show j9 < 2 ^ 31 by omega) dX1_make_40 (by decide) (fun h => ?_) (fun h => ?_)
    · have h : j9 ≤ i := h
      have hend : i = j9 := by omega
      subst hend
      exact exit _ _ _ hP hS (lv_sub hl [1, 2] rfl)
    · have h : i < j9 := h
      refine lv_aload_n hx hb dX1_make_43 rfl (lv_at hl 1 rfl) ?_
      refine va_callv (va_runV (As := []) (rest := []) ⟨hx, hb, hml, hown, hts⟩ (kX1_round l E ad hap (smWt τ (rdsM τ i)) K hF hN hcl hmb hhs hK1 hK2 hmn (fun k hk c f hc hf => by rw [rdM_wt]; exact hbd i (by omega) k hk c f hc hf)) (cwV 0 hts gX1_make_X1_round rfl rfl rfl (by decide +kernel) ⟨Nat.le_trans (Nat.le_of_ble_eq_true rfl) hRf, Nat.le_trans (Nat.le_of_ble_eq_true rfl) hRl⟩) (zpm hK hP) rfl rfl hl.1 rfl (lv_room (Nat.le_of_ble_eq_true rfl)) dX1_make_44 ⟨Nat.zero_le _, Nat.zero_le _⟩) hS (fun q _ h => h) (fun q h => h) (fun u9 t9 H locs ht9 hvm9 hw9 hB9 hz9 hk9 hS => ?_)
      rw [ht9] at hB9
      have hP := hB9
      subst hw9
      have e8 : rdsM τ (i + 1) = rdM (smWt τ (rdsM τ i)) (rdsM τ i) (mN τ) := (rdM_wt τ _ _ _).symm
      refine lv_iinc (v := nI (i + 1)) (lv' := [(2, .int (nI (i + 1))), (0, .ref (ad 0)), (1, .int (nI (j9)))]) hx hb dX1_make_47 hl (k := 0) rfl (nI_1 _) (by decide) rfl (fun ls hl => ?_)
      refine lv_goto (tgt := 38) hx hb dX1_make_50 (by decide) ?_
      exact ih (i + 1) _ _ _ (by omega) (by omega) (by rw [e8]; exact hP) hS (lv_sub hl [0, 1, 2] rfl)
set_option maxHeartbeats 4000000 in
set_option maxRecDepth 100000 in
theorem lp_X1_make2 {p : Program} {l : Launch} {e : Env} {R : Room} {s : State} {m : MethodId} {args : Array Value} {below : List Frame} {meth : Method} {c : Code} {Q : State → Prop} {E : zE} {ad : Nat → Nat} (hx : p.tables.exec = Jvm.exec) (hb : c.code = cX1_make) (hml : c.maxLocals = 3) (hts : ∀ w ∈ wsX1_make, w.before args s = true) (hown : s.vm.findClass RX1 = some m.cls) (hK : zK E s) (hap : apart 8 ad) {H0 : Heap} (hRf : 4 ≤ R.frames) (hRl : 104 ≤ R.locals) (τ : SM) (K : Nat) (hF : mF τ ≤ 16) (hN : mN τ ≤ 40) (hcl : ∀ e, mCl τ e < 16) (hmb : ∀ c, c < 16 → mHs τ c < 2 ^ 31) (hhs : ∀ e, e < mN τ → 0 < mHs τ (mCl τ e)) (hK1 : 1023 ≤ K) (hK2 : K ≤ 1900) (hmn : ∀ c, c < 16 → ∀ f, f < mF τ → mg 1057 (mMn τ (16 * c + f))) (j9 : Nat) (hwK : ∀ c f, c < 16 → f < mF τ → mg K (mWt τ (16 * c + f)))
    (exit : ∀ (H : Heap) (locs : List Loc) (ls : Array Slot), PM E ad (smCf τ (zline (mCf τ) 256)) H → va_S (aX 8 ad) H0 H locs → lv_has ls 3 [(0, .ref (ad 0)), (1, .int (nI (j9)))] → W p l e R s m args below meth c H locs 0 0 Q (F0 m 75 ls [])) :
    ∀ (n i : Nat) (H : Heap) (locs : List Loc) (ls : Array Slot), i ≤ 256 → 256 - i < n → PM E ad (smCf τ (zline (mCf τ) i)) H → va_S (aX 8 ad) H0 H locs → lv_has ls 3 [(2, .int (nI (i))), (0, .ref (ad 0)), (1, .int (nI (j9)))] → W p l e R s m args below meth c H locs 0 0 Q (F0 m 55 ls []) := by
  have hA : ∀ k, k < 8 → aX 8 ad (ad k) := fun k hk => ⟨k, hk, rfl⟩
  intro n
  induction n with
  | zero => intro i H locs ls h1 h2; omega
  | succ n ih =>
    intro i H locs ls hi hn hP hS hl
    refine lv_iload_n hx hb dX1_make_55 rfl (lv_at hl 0 rfl) ?_
    refine lv_sipush (v := nI 256) hx hb dX1_make_56 (by decide +kernel) ?_
    refine zb_ge (tgt := 75) hx hb (show i < 2 ^ 31 by omega) (show 256 < 2 ^ 31 by omega) dX1_make_59 (by decide) (fun h => ?_) (fun h => ?_)
    · have h : 256 ≤ i := h
      have hend : i = 256 := by omega
      subst hend
      exact exit _ _ _ hP hS (lv_sub hl [1, 2] rfl)
    · have h : i < 256 := h
      refine lv_aload_n hx hb dX1_make_62 rfl (lv_at hl 1 rfl) ?_
      refine gm hx hb hts innX1_make hown hK hP 10 (by decide) (by decide +kernel) rfl (v := .ref (ad 7)) rfl dX1_make_63 ?_
      refine lv_iload_n hx hb dX1_make_66 rfl (lv_at hl 0 rfl) ?_
      refine lv_iconst (v := nI 0) hx hb dX1_make_67 (by decide +kernel) ?_
      refine z_iast hx hb hK hP hap hA hS 7 (by decide) cm_cf (show i < 256 by omega) (by decide) dX1_make_68 (fun H locs hP hS => ?_)
      have hP := pm_cf hP
      refine lv_iinc (v := nI (i + 1)) (lv' := [(2, .int (nI (i + 1))), (0, .ref (ad 0)), (1, .int (nI (j9)))]) hx hb dX1_make_69 hl (k := 0) rfl (nI_1 _) (by decide) rfl (fun ls hl => ?_)
      refine lv_goto (tgt := 55) hx hb dX1_make_72 (by decide) ?_
      exact ih (i + 1) _ _ _ (by omega) (by omega) hP hS (lv_sub hl [0, 1, 2] rfl)
set_option maxHeartbeats 4000000 in
set_option maxRecDepth 100000 in
theorem lp_X1_make3 {p : Program} {l : Launch} {e : Env} {R : Room} {s : State} {m : MethodId} {args : Array Value} {below : List Frame} {meth : Method} {c : Code} {Q : State → Prop} {E : zE} {ad : Nat → Nat} (hx : p.tables.exec = Jvm.exec) (hb : c.code = cX1_make) (hml : c.maxLocals = 3) (hts : ∀ w ∈ wsX1_make, w.before args s = true) (hown : s.vm.findClass RX1 = some m.cls) (hK : zK E s) (hap : apart 8 ad) {H0 : Heap} (hRf : 4 ≤ R.frames) (hRl : 104 ≤ R.locals) (τ : SM) (K : Nat) (hF : mF τ ≤ 16) (hN : mN τ ≤ 40) (hcl : ∀ e, mCl τ e < 16) (hmb : ∀ c, c < 16 → mHs τ c < 2 ^ 31) (hhs : ∀ e, e < mN τ → 0 < mHs τ (mCl τ e)) (hK1 : 1023 ≤ K) (hK2 : K ≤ 1900) (hmn : ∀ c, c < 16 → ∀ f, f < mF τ → mg 1057 (mMn τ (16 * c + f))) (j9 : Nat) (hwK : ∀ c f, c < 16 → f < mF τ → mg K (mWt τ (16 * c + f)))
    (exit : ∀ (H : Heap) (locs : List Loc) (ls : Array Slot), PM E ad (smCf τ (cfM τ (zline (mCf τ) 256) (mN τ))) H → va_S (aX 8 ad) H0 H locs → lv_has ls 3 [(0, .ref (ad 0)), (1, .int (nI (j9)))] → W p l e R s m args below meth c H locs 0 0 Q (F0 m 123 ls [])) :
    ∀ (n i : Nat) (H : Heap) (locs : List Loc) (ls : Array Slot), i ≤ mN τ → mN τ - i < n → PM E ad (smCf τ (cfM τ (zline (mCf τ) 256) i)) H → va_S (aX 8 ad) H0 H locs → lv_has ls 3 [(2, .int (nI (i))), (0, .ref (ad 0)), (1, .int (nI (j9)))] → W p l e R s m args below meth c H locs 0 0 Q (F0 m 77 ls []) := by
  have hA : ∀ k, k < 8 → aX 8 ad (ad k) := fun k hk => ⟨k, hk, rfl⟩
  intro n
  induction n with
  | zero => intro i H locs ls h1 h2; omega
  | succ n ih =>
    intro i H locs ls hi hn hP hS hl
    refine lv_iload_n hx hb dX1_make_77 rfl (lv_at hl 0 rfl) ?_
    refine lv_aload_n hx hb dX1_make_78 rfl (lv_at hl 1 rfl) ?_
    refine gm hx hb hts innX1_make hown hK hP 2 (by decide) (by decide +kernel) rfl (v := .int (nI ((mN τ)))) rfl dX1_make_79 ?_
    refine zb_ge (tgt := 123) hx hb (show i < 2 ^ 31 by omega) (show (mN τ) < 2 ^ 31 by omega) dX1_make_82 (by decide) (fun h => ?_) (fun h => ?_)
    · have h : (mN τ) ≤ i := h
      have hend : i = mN τ := by omega
      subst hend
      exact exit _ _ _ hP hS (lv_sub hl [1, 2] rfl)
    · have h : i < (mN τ) := h
      have hci := hcl i
      refine lv_aload_n hx hb dX1_make_85 rfl (lv_at hl 1 rfl) ?_
      refine gm hx hb hts innX1_make hown hK hP 10 (by decide) (by decide +kernel) rfl (v := .ref (ad 7)) rfl dX1_make_86 ?_
      refine lv_bipush (v := nI 16) hx hb dX1_make_89 (by decide +kernel) ?_
      refine lv_aload_n hx hb dX1_make_91 rfl (lv_at hl 1 rfl) ?_
      refine gm hx hb hts innX1_make hown hK hP 3 (by decide) (by decide +kernel) rfl (v := .ref (ad 1)) rfl dX1_make_92 ?_
      refine lv_iload_n hx hb dX1_make_95 rfl (lv_at hl 0 rfl) ?_
      refine z_iald hx hb hK hP 1 (by decide) cm_cl (show i < 40 by omega) (by decide) dX1_make_96 ?_
      refine zv_imul (v := (nI (16 * ((mCl τ) (i))))) hx hb dX1_make_97 (pk_mul _ _) ?_
      refine lv_aload_n hx hb dX1_make_98 rfl (lv_at hl 1 rfl) ?_
      refine lv_aload_n hx hb dX1_make_99 rfl (lv_at hl 1 rfl) ?_
      refine gm hx hb hts innX1_make hown hK hP 4 (by decide) (by decide +kernel) rfl (v := .ref (ad 2)) rfl dX1_make_100 ?_
      refine lv_bipush (v := nI 16) hx hb dX1_make_103 (by decide +kernel) ?_
      refine lv_iload_n hx hb dX1_make_105 rfl (lv_at hl 0 rfl) ?_
      refine zv_imul (v := (nI (16 * i))) hx hb dX1_make_106 (pk_mul _ _) ?_
      refine lv_iconst (v := -1) hx hb dX1_make_107 (by decide +kernel) ?_
      refine va_calli (va_runV (As := [.ref (ad 2), .int (nI (16 * i)), .int (-1)]) (rest := [.int (nI (16 * ((mCl τ) (i)))), .ref (ad 7)]) ⟨hx, hb, hml, hown, hts⟩ (kX1_nearest l E ad hap (smCf τ (cfM τ (zline (mCf τ) 256) i)) 2 640 (16 * i) K (mVl τ) (-1) hF hmb (by decide) (cm_vl (τ := smCf τ (cfM τ (zline (mCf τ) 256) i))) (by decide) (show 16 * i + mF τ ≤ 640 by omega) hK1 hK2 (fun c hc f hf => ⟨hwK c f hc hf, hmn c hc f hf⟩)) (cwV 3 hts gX1_make_X1_nearest rfl rfl rfl (by decide +kernel) ⟨Nat.le_trans (Nat.le_of_ble_eq_true rfl) hRf, Nat.le_trans (Nat.le_of_ble_eq_true rfl) hRl⟩) (zpm hK hP) rfl rfl hl.1 rfl (lv_room (Nat.le_of_ble_eq_true rfl)) dX1_make_108 ⟨Nat.zero_le _, Nat.zero_le _⟩) hS (fun q _ h => h.elim) (fun q h => h.elim) (fun r u9 t9 H locs ht9 hvm9 hw9 hB9 hz9 hk9 hS => ?_)
      have hP := wn_ro hP hk9
      have hw9 : r = nearM τ (mVl τ) (16 * i) (-1) := hw9
      obtain ⟨j, hj, e9⟩ := nearM_some τ (mVl τ) (16 * i) (mCl τ i) hci (hhs i h)
      rw [e9] at hw9
      subst hw9
      have e8 : cfM τ (zline (mCf τ) 256) (i + 1) = va_up (cfM τ (zline (mCf τ) 256) i) (16 * mCl τ i + j) (cfM τ (zline (mCf τ) 256) i (16 * mCl τ i + j) + 1) := by rw [cfM, e9, nI_clamp (by omega)]
      refine zv_iadd (v := (nI ((16 * ((mCl τ) (i))) + j))) hx hb dX1_make_111 (nI_add _ _) ?_
      refine lv_dup2_11 hx hb dX1_make_112 rfl rfl ?_
      refine z_iald hx hb hK hP 7 (by decide) cm_cf (show (16 * ((mCl τ) (i))) + j < 256 by omega) (by decide) dX1_make_113 ?_
      refine lv_iconst (v := nI 1) hx hb dX1_make_114 (by decide +kernel) ?_
      refine zv_iadd (v := (nI (((cfM τ (zline (mCf τ) 256) i) ((16 * ((mCl τ) (i))) + j)) + 1))) hx hb dX1_make_115 (nI_add _ _) ?_
      refine z_iast hx hb hK hP hap hA hS 7 (by decide) cm_cf (show (16 * ((mCl τ) (i))) + j < 256 by omega) (by decide) dX1_make_116 (fun H locs hP hS => ?_)
      have hP := pm_cf hP
      refine lv_iinc (v := nI (i + 1)) (lv' := [(2, .int (nI (i + 1))), (0, .ref (ad 0)), (1, .int (nI (j9)))]) hx hb dX1_make_117 hl (k := 0) rfl (nI_1 _) (by decide) rfl (fun ls hl => ?_)
      refine lv_goto (tgt := 77) hx hb dX1_make_120 (by decide) ?_
      exact ih (i + 1) _ _ _ (by omega) (by omega) (by rw [e8]; exact hP) hS (lv_sub hl [0, 1, 2] rfl)
/-- the making with j rounds -/
def mkrM (τ : SM) (j : Nat) : SM := smWt τ (rdsM τ j)
def mkcM (τ : SM) : SM := smMd (smCf τ (cfM τ (zline (mCf τ) 256) (mN τ))) 1
def mkM (τ : SM) (j : Nat) : SM := mkcM (mkrM (mmM (smC τ 0)) j)
def mkQ (τ : SM) (x r : Int32) (τ' : SM) : Prop := ((∀ j : Nat, j < 21 → x ≠ nI j) ∧ r = -12 ∧ τ' = smC τ 0) ∨ (∃ j : Nat, j < 21 ∧ x = nI j ∧ ((mN τ = 0 ∧ r = nI 0 ∧ τ' = smC τ 1) ∨ (0 < mN τ ∧ r = nI 1 ∧ τ' = mkM τ j)))
theorem hsM_in (τ : SM) {c : Nat} (h : c < 16) : mHs (mmM τ) c = hsV τ c := fl0_in h
theorem hsM_lt (τ : SM) : ∀ c, c < 16 → mHs (mmM τ) c < 2 ^ 31 := fun c h => by
  rw [hsM_in τ h]
  unfold hsV
  split <;> decide
theorem ctE_pos {ec : Nat → Nat} {e : Nat} : ∀ {k : Nat}, e < k → 0 < ctE ec (ec e) k
  | k + 1, h => by
    rw [ctE]
    by_cases q : e = k
    · subst q; rw [if_pos rfl]; omega
    · have := ctE_pos (ec := ec) (show e < k by omega); omega
theorem hsM_pos (τ : SM) (hcl : ∀ e, mCl τ e < 16) : ∀ e, e < mN τ → 0 < mHs (mmM τ) (mCl τ e) := fun e h => by
  rw [hsM_in τ (hcl e)]
  unfold hsV
  rw [if_pos (show 0 < ctM τ (mCl τ e) from ctE_pos h)]
  decide
set_option maxHeartbeats 4000000 in
set_option maxRecDepth 100000 in
theorem kX1_make (l : Launch) (E : zE) (ad : Nat → Nat) (hap : apart 8 ad) (τ : SM) (x : Int32) (K : Nat) (hF : mF τ ≤ 16) (hN : mN τ ≤ 40) (hcl : ∀ e, mCl τ e < 16) (hvl : ∀ k, mVl τ k < 256) (hK1 : 1023 ≤ K) (hK2 : K ≤ 1900) (hmn : ∀ c, c < 16 → ∀ f, f < mF τ → mg 1057 (mMn (mmM (smC τ 0)) (16 * c + f))) (hbd : ∀ r, r ≤ 20 → ∀ i, i ≤ mN τ → ∀ c f, c < 16 → f < mF τ → mg K (rdM (mmM (smC τ 0)) (rdsM (mmM (smC τ 0)) r) i (16 * c + f))) : Met l yX1_make wsX1_make ({ frames := 4, cells := 0, slots := 0, locals := 104 }) (va_Pc [.ref (ad 0), .int (x)] (fun U => PM E ad τ U.heap ∧ zK E U)) (va_Qi (fun (r : Int32) (τ' : SM) => mkQ τ x r τ') (fun τ' t => PM E ad τ' t.heap) (aX 8 ad)) 0 0 (aX 8 ad) := by
  refine Met.ofW (cc := cX1_make) (maxL := 3) (ret := some .int) (by decide) rfl ?_
  intro p e s m args below meth c s₁ B hml hv
  obtain ⟨rfl, hP, hK⟩ := hv
  have hx := B.exec
  have hb := B.bytes
  have hr := B.returns
  have hts := atoms_spec (ws := wsX1_make) B.pre
  have hown : s.vm.findClass RX1 = some m.cls := findClass_of_methodNamed B.named
  have hlocks := B.notSynchronized
  have hS : va_S (aX 8 ad) s.heap s.heap [] := va_S.rf
  have hA : ∀ k, k < 8 → aX 8 ad (ad k) := fun k hk => ⟨k, hk, rfl⟩
  have hRf : 4 ≤ ((headSpec wsX1_make ({ frames := 4, cells := 0, slots := 0, locals := 104 })).room).frames := Nat.le_of_ble_eq_true rfl
  have hRl : 104 ≤ ((headSpec wsX1_make ({ frames := 4, cells := 0, slots := 0, locals := 104 })).room).locals := Nat.le_of_ble_eq_true rfl
  have hl := lv_entry ([.ref (ad 0), .int (x)]) (n := 3) (Nat.le_of_ble_eq_true rfl)
  rw [lg_entry_eq]
  generalize (lg_sl ([.ref (ad 0), .int (x)]) ++ List.replicate (3 - (lg_sl ([.ref (ad 0), .int (x)])).length) Slot.unset).toArray = ls at hl ⊢
  have hl : lv_has ls 3 [(0, .ref (ad 0)), (1, .int (x))] := hl
  refine lv_aload_n hx hb dX1_make_0 rfl (lv_at hl 0 rfl) ?_
  refine lv_iconst (v := nI 0) hx hb dX1_make_1 (by decide +kernel) ?_
  refine gmput hx hb hts innX1_make hown hK hP hap hA hS 0 (by decide) (by decide +kernel) rfl rfl (v := .int (nI (0))) rfl rfl (by show 0 < (List.length _); exact Nat.le_of_ble_eq_true rfl) dX1_make_2 (fun H locs hP hS => ?_)
  have hP := pm_c hP
  refine lv_iload_n hx hb dX1_make_5 rfl (lv_at hl 1 rfl) ?_
  refine lv_if_lt (tgt := 15) hx hb dX1_make_6 (by decide) (fun h => ?_) (fun h => ?_)
  · refine lv_bipush (v := -12) hx hb dX1_make_15 (by decide +kernel) ?_
    exact W.iret hx hb hr (fun t ht hW => ⟨⟨_, _, rfl, Or.inl ⟨fun j hj e => nI_pos (show j < 2 ^ 31 by omega) (e ▸ h), rfl, rfl⟩, (wn_h ht hP)⟩, hS.F ht⟩) hS.2.2 dX1_make_17
  · refine lv_iload_n hx hb dX1_make_9 rfl (lv_at hl 1 rfl) ?_
    refine lv_bipush (v := nI 20) hx hb dX1_make_10 (by decide +kernel) ?_
    refine lv_icmp_le (tgt := 18) hx hb dX1_make_12 (by decide) (fun h2 => ?_) (fun h2 => ?_)
    · obtain ⟨j, hj, rfl⟩ : ∃ j : Nat, j < 21 ∧ x = nI j := by
        rcases pk_ix x (n := 21) (by decide) with q | q | ⟨j, hj, e⟩
        · exact absurd q h
        · have q1 := Int32.le_trans q h2; exact absurd q1 (by decide)
        · exact ⟨j, hj, e⟩
      refine lv_aload_n hx hb dX1_make_18 rfl (lv_at hl 0 rfl) ?_
      refine gm hx hb hts innX1_make hown hK hP 2 (by decide) (by decide +kernel) rfl (v := .int (nI ((mN τ)))) rfl dX1_make_19 ?_
      refine zu_ne (tgt := 32) hx hb (show (mN τ) < 2 ^ 31 by omega) dX1_make_22 (by decide) (fun h3 => ?_) (fun h3 => ?_)
      · have h3 : 0 < (mN τ) := h3
        obtain ⟨τ0, hk0⟩ : ∃ z, z = smC τ 0 := ⟨_, rfl⟩
        rw [← hk0] at hP hmn hbd
        have hF0 : mF τ0 ≤ 16 := by rw [hk0]; exact hF
        have hN0 : mN τ0 ≤ 40 := by rw [hk0]; exact hN
        have hcl0 : ∀ e, mCl τ0 e < 16 := by rw [hk0]; exact hcl
        have hvl0 : ∀ k, mVl τ0 k < 256 := by rw [hk0]; exact hvl
        have hNe : mN τ = mN τ0 := by rw [hk0]; rfl
        have hFe : mF τ = mF τ0 := by rw [hk0]; rfl
        rw [hFe] at hmn hbd
        rw [hNe] at hbd
        refine lv_aload_n hx hb dX1_make_32 rfl (lv_at hl 0 rfl) ?_
        refine va_callv (va_runV (As := []) (rest := []) ⟨hx, hb, hml, hown, hts⟩ (kX1_means l E ad hap τ0 hN0 hcl0 hvl0) (cwV 0 hts gX1_make_X1_means rfl rfl rfl (by decide +kernel) ⟨Nat.le_trans (Nat.le_of_ble_eq_true rfl) hRf, Nat.le_trans (Nat.le_of_ble_eq_true rfl) hRl⟩) (zpm hK hP) rfl rfl hl.1 rfl (lv_room (Nat.le_of_ble_eq_true rfl)) dX1_make_33 ⟨Nat.zero_le _, Nat.zero_le _⟩) hS (fun q _ h => h) (fun q h => h) (fun u9 t9 H locs ht9 hvm9 hw9 hB9 hz9 hk9 hS => ?_)
        rw [ht9] at hB9
        have hP := hB9
        subst hw9
        have hmb1 := hsM_lt τ0
        have hhs1 := hsM_pos τ0 hcl0
        obtain ⟨τ1, hk1⟩ : ∃ z, z = mmM τ0 := ⟨_, rfl⟩
        have hN1 : mN τ1 = mN τ0 := by rw [hk1]; rfl
        have hF1 : mF τ1 = mF τ0 := by rw [hk1]; rfl
        have hC1 : mCl τ1 = mCl τ0 := by rw [hk1]; rfl
        rw [← hk1] at hP hmn hbd hmb1 hhs1
        rw [← hF1] at hmn hbd hF0
        rw [← hN1] at hbd hhs1 hN0
        rw [← hC1] at hcl0 hhs1
        refine lv_iconst (v := nI 0) hx hb dX1_make_36 (by decide +kernel) ?_
        refine lv_istore_n (lv' := [(2, .int (nI (0))), (0, .ref (ad 0)), (1, .int (nI (j)))]) hx hb dX1_make_37 rfl hl (by decide) rfl (fun ls hl => ?_)
        refine lp_X1_make1 hx hb hml hts hown hK hap (Nat.le_trans (Nat.le_of_ble_eq_true rfl) hRf) (Nat.le_trans (Nat.le_of_ble_eq_true rfl) hRl) τ1 K hF0 hN0 hcl0 hmb1 hhs1 hK1 hK2 hmn j hj (fun r hr => hbd r (by omega)) (fun H locs ls hP hS hl => ?_) (j + 1) 0 _ _ _ (by omega) (by omega) hP hS (lv_sub hl [0, 1, 2] rfl)
        have hwK : ∀ c f, c < 16 → f < mF τ1 → mg K (rdsM τ1 j (16 * c + f)) := fun c f hc hf => hbd j (by omega) 0 (Nat.zero_le _) c f hc hf
        obtain ⟨τ2, hk2⟩ : ∃ z, z = mkrM τ1 j := ⟨_, rfl⟩
        have hP : PM E ad τ2 H := by rw [hk2]; exact hP
        have hF2 : mF τ2 ≤ 16 := by rw [hk2]; exact hF0
        have hN2 : mN τ2 ≤ 40 := by rw [hk2]; exact hN0
        have hcl2 : ∀ e, mCl τ2 e < 16 := by rw [hk2]; exact hcl0
        have hmb2 : ∀ c, c < 16 → mHs τ2 c < 2 ^ 31 := by rw [hk2]; exact hmb1
        have hhs2 : ∀ e, e < mN τ2 → 0 < mHs τ2 (mCl τ2 e) := by rw [hk2]; exact hhs1
        have hmn2 : ∀ c, c < 16 → ∀ f, f < mF τ2 → mg 1057 (mMn τ2 (16 * c + f)) := by rw [hk2]; exact hmn
        have hwK2 : ∀ c f, c < 16 → f < mF τ2 → mg K (mWt τ2 (16 * c + f)) := by rw [hk2]; exact hwK
        refine lv_iconst (v := nI 0) hx hb dX1_make_53 (by decide +kernel) ?_
        refine lv_istore_n (lv' := [(2, .int (nI (0))), (0, .ref (ad 0)), (1, .int (nI (j)))]) hx hb dX1_make_54 rfl hl (by decide) rfl (fun ls hl => ?_)
        refine lp_X1_make2 hx hb hml hts hown hK hap (Nat.le_trans (Nat.le_of_ble_eq_true rfl) hRf) (Nat.le_trans (Nat.le_of_ble_eq_true rfl) hRl) τ2 K hF2 hN2 hcl2 hmb2 hhs2 hK1 hK2 hmn2 j hwK2 (fun H locs ls hP hS hl => ?_) (256 + 1) 0 _ _ _ (by omega) (by omega) hP hS (lv_sub hl [0, 1, 2] rfl)
        refine lv_iconst (v := nI 0) hx hb dX1_make_75 (by decide +kernel) ?_
        refine lv_istore_n (lv' := [(2, .int (nI (0))), (0, .ref (ad 0)), (1, .int (nI (j)))]) hx hb dX1_make_76 rfl hl (by decide) rfl (fun ls hl => ?_)
        refine lp_X1_make3 hx hb hml hts hown hK hap (Nat.le_trans (Nat.le_of_ble_eq_true rfl) hRf) (Nat.le_trans (Nat.le_of_ble_eq_true rfl) hRl) τ2 K hF2 hN2 hcl2 hmb2 hhs2 hK1 hK2 hmn2 j hwK2 (fun H locs ls hP hS hl => ?_) (mN τ2 + 1) 0 _ _ _ (by omega) (by omega) hP hS (lv_sub hl [0, 1, 2] rfl)
        obtain ⟨τ3, hk3⟩ : ∃ z, z = smCf τ2 (cfM τ2 (zline (mCf τ2) 256) (mN τ2)) := ⟨_, rfl⟩
        rw [← hk3] at hP
        refine lv_aload_n hx hb dX1_make_123 rfl (lv_at hl 0 rfl) ?_
        refine lv_iconst (v := nI 1) hx hb dX1_make_124 (by decide +kernel) ?_
        refine gmput hx hb hts innX1_make hown hK hP hap hA hS 6 (by decide) (by decide +kernel) rfl rfl (v := .int (nI (1))) rfl rfl (by show 6 < (List.length _); exact Nat.le_of_ble_eq_true rfl) dX1_make_125 (fun H locs hP hS => ?_)
        have hP := pm_md hP
        refine lv_iconst (v := nI 1) hx hb dX1_make_128 (by decide +kernel) ?_
        have e9 : mkM τ j = smMd τ3 1 := by rw [hk3, hk2, hk1, hk0]; rfl
        have hP : PM E ad (mkM τ j) H := by rw [e9]; exact hP
        exact W.iret hx hb hr (fun t ht hW => ⟨⟨_, (mkM τ j), rfl, Or.inr ⟨j, hj, rfl, Or.inr ⟨h3, rfl, rfl⟩⟩, (wn_h ht hP)⟩, hS.F ht⟩) hS.2.2 dX1_make_129
      · have h3 : (mN τ) = 0 := h3
        refine lv_aload_n hx hb dX1_make_25 rfl (lv_at hl 0 rfl) ?_
        refine lv_iconst (v := nI 1) hx hb dX1_make_26 (by decide +kernel) ?_
        refine gmput hx hb hts innX1_make hown hK hP hap hA hS 0 (by decide) (by decide +kernel) rfl rfl (v := .int (nI (1))) rfl rfl (by show 0 < (List.length _); exact Nat.le_of_ble_eq_true rfl) dX1_make_27 (fun H locs hP hS => ?_)
        have hP := pm_c hP
        refine lv_iconst (v := nI 0) hx hb dX1_make_30 (by decide +kernel) ?_
        exact W.iret hx hb hr (fun t ht hW => ⟨⟨_, _, rfl, Or.inr ⟨j, hj, rfl, Or.inl ⟨h3, rfl, rfl⟩⟩, (wn_h ht hP)⟩, hS.F ht⟩) hS.2.2 dX1_make_31
    · refine lv_bipush (v := -12) hx hb dX1_make_15 (by decide +kernel) ?_
      exact W.iret hx hb hr (fun t ht hW => ⟨⟨_, _, rfl, Or.inl ⟨fun j hj e => h2 (by rw [e]; exact nI_le (by omega) (by decide)), rfl, rfl⟩, (wn_h ht hP)⟩, hS.F ht⟩) hS.2.2 dX1_make_17
