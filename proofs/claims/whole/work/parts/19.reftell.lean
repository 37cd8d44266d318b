/-! ===== the reference: weight, tell, distance ===== -/
def wtO (τ : SM) (x y : Int32) : Prop := ∃ i j : Nat, i < 16 ∧ j < mF τ ∧ x = nI i ∧ y = nI j
def wtQ (τ : SM) (x y : Int32) (r : UInt64) (τ' : SM) : Prop := (∃ i j : Nat, i < 16 ∧ j < mF τ ∧ x = nI i ∧ y = nI j ∧ τ' = smC τ 0 ∧ r = if mMd τ = 0 then FP.dconst0 else mWt τ (16 * i + j)) ∨ ((¬ wtO τ x y) ∧ τ' = smC τ 1 ∧ r = FP.dconst0)
set_option maxHeartbeats 4000000 in
set_option maxRecDepth 100000 in
theorem kX1_weight (l : Launch) (E : zE) (ad : Nat → Nat) (hap : apart 8 ad) (τ : SM) (x y : Int32) (hF : mF τ ≤ 16) (hmd : mMd τ ≤ 1) : Met l yX1_weight wsX1_weight ({ frames := 1, cells := 0, slots := 0, locals := 21 }) (va_Pc [.ref (ad 0), .int (x), .int (y)] (fun U => PM E ad τ U.heap ∧ zK E U)) (va_Qd (fun (r : UInt64) (τ' : SM) => wtQ τ x y r τ') (fun τ' t => PM E ad τ' t.heap) (aX 8 ad)) 0 0 (aX 8 ad) := by
  refine Met.ofW (cc := cX1_weight) (maxL := 3) (ret := some .double) (by decide) rfl ?_
  intro p e s m args below meth c s₁ B hml hv
  obtain ⟨rfl, hP, hK⟩ := hv
  have hx := B.exec
  have hb := B.bytes
  have hr := B.returns
  have hts := atoms_spec (ws := wsX1_weight) B.pre
  have hown : s.vm.findClass RX1 = some m.cls := findClass_of_methodNamed B.named
  have hlocks := B.notSynchronized
  have hS : va_S (aX 8 ad) s.heap s.heap [] := va_S.rf
  have hA : ∀ k, k < 8 → aX 8 ad (ad k) := fun k hk => ⟨k, hk, rfl⟩
  have hRf : 1 ≤ ((headSpec wsX1_weight ({ frames := 1, cells := 0, slots := 0, locals := 21 })).room).frames := Nat.le_of_ble_eq_true rfl
  have hRl : 21 ≤ ((headSpec wsX1_weight ({ frames := 1, cells := 0, slots := 0, locals := 21 })).room).locals := Nat.le_of_ble_eq_true rfl
  have hl := lv_entry ([.ref (ad 0), .int (x), .int (y)]) (n := 3) (Nat.le_of_ble_eq_true rfl)
  rw [lg_entry_eq]
  generalize (lg_sl ([.ref (ad 0), .int (x), .int (y)]) ++ List.replicate (3 - (lg_sl ([.ref (ad 0), .int (x), .int (y)])).length) Slot.unset).toArray = ls at hl ⊢
  have hl : lv_has ls 3 [(0, .ref (ad 0)), (1, .int (x)), (2, .int (y))] := hl
  refine lv_aload_n hx hb dX1_weight_0 rfl (lv_at hl 0 rfl) ?_
  refine lv_iload_n hx hb dX1_weight_1 rfl (lv_at hl 1 rfl) ?_
  refine lv_if_lt (tgt := 19) hx hb dX1_weight_2 (by decide) (fun h => ?_) (fun h => ?_)
  · refine lv_iconst (v := nI 1) hx hb dX1_weight_19 (by decide +kernel) ?_
    refine lv_goto (tgt := 24) hx hb dX1_weight_20 (by decide) ?_
    refine gmput hx hb hts innX1_weight hown hK hP hap hA hS 0 (by decide) (by decide +kernel) rfl rfl (v := .int (nI (1))) rfl rfl (by show 0 < (List.length _); exact Nat.le_of_ble_eq_true rfl) dX1_weight_24 (fun H locs hP hS => ?_)
    have hP := pm_c hP
    refine lv_aload_n hx hb dX1_weight_27 rfl (lv_at hl 0 rfl) ?_
    refine gm hx hb hts innX1_weight hown hK hP 0 (by decide) (by decide +kernel) rfl (v := .int (nI ((1)))) rfl dX1_weight_28 ?_
    refine zu_gt (tgt := 41) hx hb (show (1) < 2 ^ 31 by omega) dX1_weight_31 (by decide) (fun h4 => ?_) (fun h4 => ?_)
    · have h4 : 0 < (1) := h4
      refine lv_dconst0 hx hb dX1_weight_41 ?_
      refine lv_goto (tgt := 56) hx hb dX1_weight_42 (by decide) ?_
      exact W.dret hx hb hr (fun t ht hW => ⟨⟨_, _, rfl, Or.inr ⟨fun ⟨i, j, h1, _, h3, _⟩ => nI_pos (show i < 2 ^ 31 by omega) (h3 ▸ h), rfl, rfl⟩, (wn_h ht hP)⟩, hS.F ht⟩) hS.2.2 dX1_weight_56
    · have h4 : (1) = 0 := h4
      exact absurd h4 (by decide)
  · refine lv_iload_n hx hb dX1_weight_5 rfl (lv_at hl 1 rfl) ?_
    refine lv_bipush (v := nI 15) hx hb dX1_weight_6 (by decide +kernel) ?_
    refine lv_icmp_gt (tgt := 19) hx hb dX1_weight_8 (by decide) (fun h2 => ?_) (fun h2 => ?_)
    · refine lv_iconst (v := nI 1) hx hb dX1_weight_19 (by decide +kernel) ?_
      refine lv_goto (tgt := 24) hx hb dX1_weight_20 (by decide) ?_
      refine gmput hx hb hts innX1_weight hown hK hP hap hA hS 0 (by decide) (by decide +kernel) rfl rfl (v := .int (nI (1))) rfl rfl (by show 0 < (List.length _); exact Nat.le_of_ble_eq_true rfl) dX1_weight_24 (fun H locs hP hS => ?_)
      have hP := pm_c hP
      refine lv_aload_n hx hb dX1_weight_27 rfl (lv_at hl 0 rfl) ?_
      refine gm hx hb hts innX1_weight hown hK hP 0 (by decide) (by decide +kernel) rfl (v := .int (nI ((1)))) rfl dX1_weight_28 ?_
      refine zu_gt (tgt := 41) hx hb (show (1) < 2 ^ 31 by omega) dX1_weight_31 (by decide) (fun h4 => ?_) (fun h4 => ?_)
      · have h4 : 0 < (1) := h4
        refine lv_dconst0 hx hb dX1_weight_41 ?_
        refine lv_goto (tgt := 56) hx hb dX1_weight_42 (by decide) ?_
        exact W.dret hx hb hr (fun t ht hW => ⟨⟨_, _, rfl, Or.inr ⟨fun ⟨i, j, h1, _, h3, _⟩ => absurd (h3 ▸ h2) (Int32.not_lt.mpr (nI_le (a := i) (b := 15) (by omega) (by decide))), rfl, rfl⟩, (wn_h ht hP)⟩, hS.F ht⟩) hS.2.2 dX1_weight_56
      · have h4 : (1) = 0 := h4
        exact absurd h4 (by decide)
    · obtain ⟨i, hi9, rfl⟩ : ∃ j : Nat, j < 16 ∧ x = nI j := by
        rcases pk_ix x (n := 16) (by decide) with q | q | ⟨j, hj, e⟩
        · exact absurd q h
        · exact absurd (Int32.lt_of_lt_of_le (show nI 15 < nI 16 by decide) q) h2
        · exact ⟨j, hj, e⟩
      refine lv_aload_n hx hb dX1_weight_11 rfl (lv_at hl 0 rfl) ?_
      refine lv_iload_n hx hb dX1_weight_12 rfl (lv_at hl 2 rfl) ?_
      refine va_calli (va_runV (As := [.int (y)]) (rest := [.ref (ad 0)]) ⟨hx, hb, hml, hown, hts⟩ (kX1_isFeature l E ad hap τ y hF) (cwV 1 hts gX1_weight_X1_isFeature rfl rfl rfl (by decide +kernel) ⟨Nat.le_trans (Nat.le_of_ble_eq_true rfl) hRf, Nat.le_trans (Nat.le_of_ble_eq_true rfl) hRl⟩) (zpm hK hP) rfl rfl hl.1 rfl (lv_room (Nat.le_of_ble_eq_true rfl)) dX1_weight_13 ⟨Nat.zero_le _, Nat.zero_le _⟩) hS (fun q _ h => h.elim) (fun q h => h.elim) (fun r u9 t9 H locs ht9 hvm9 hw9 hB9 hz9 hk9 hS => ?_)
      have hP := wn_ro hP hk9
      rcases hw9 with ⟨j, hj, rfl, rfl⟩ | ⟨hno, rfl⟩
      · refine zu_ne (tgt := 23) hx hb (show 1 < 2 ^ 31 by omega) dX1_weight_16 (by decide) (fun h3 => ?_) (fun h3 => ?_)
        · have h3 : 0 < 1 := h3
          refine lv_iconst (v := nI 0) hx hb dX1_weight_23 (by decide +kernel) ?_
          refine gmput hx hb hts innX1_weight hown hK hP hap hA hS 0 (by decide) (by decide +kernel) rfl rfl (v := .int (nI (0))) rfl rfl (by show 0 < (List.length _); exact Nat.le_of_ble_eq_true rfl) dX1_weight_24 (fun H locs hP hS => ?_)
          have hP := pm_c hP
          refine lv_aload_n hx hb dX1_weight_27 rfl (lv_at hl 0 rfl) ?_
          refine gm hx hb hts innX1_weight hown hK hP 0 (by decide) (by decide +kernel) rfl (v := .int (nI ((0)))) rfl dX1_weight_28 ?_
          refine zu_gt (tgt := 41) hx hb (show (0) < 2 ^ 31 by omega) dX1_weight_31 (by decide) (fun h4 => ?_) (fun h4 => ?_)
          · have h4 : 0 < (0) := h4
            exact absurd h4 (by decide)
          · have h4 : (0) = 0 := h4
            refine lv_aload_n hx hb dX1_weight_34 rfl (lv_at hl 0 rfl) ?_
            refine gm hx hb hts innX1_weight hown hK hP 6 (by decide) (by decide +kernel) rfl (v := .int (nI ((mMd τ)))) rfl dX1_weight_35 ?_
            refine zu_ne (tgt := 45) hx hb (show (mMd τ) < 2 ^ 31 by omega) dX1_weight_38 (by decide) (fun h5 => ?_) (fun h5 => ?_)
            · have h5 : 0 < (mMd τ) := h5
              refine lv_aload_n hx hb dX1_weight_45 rfl (lv_at hl 0 rfl) ?_
              refine gm hx hb hts innX1_weight hown hK hP 9 (by decide) (by decide +kernel) rfl (v := .ref (ad 6)) rfl dX1_weight_46 ?_
              refine lv_bipush (v := nI 16) hx hb dX1_weight_49 (by decide +kernel) ?_
              refine lv_iload_n hx hb dX1_weight_51 rfl (lv_at hl 1 rfl) ?_
              refine zv_imul (v := (nI (16 * i))) hx hb dX1_weight_52 (pk_mul _ _) ?_
              refine lv_iload_n hx hb dX1_weight_53 rfl (lv_at hl 2 rfl) ?_
              refine zv_iadd (v := (nI ((16 * i) + j))) hx hb dX1_weight_54 (nI_add _ _) ?_
              refine z_dald hx hb hK hP 6 (by decide) cm_wt (show (16 * i) + j < 256 by omega) (by decide) dX1_weight_55 ?_
              exact W.dret hx hb hr (fun t ht hW => ⟨⟨_, _, rfl, Or.inl ⟨i, j, hi9, hj, rfl, rfl, rfl, (if_neg (show ¬ mMd τ = 0 by omega)).symm⟩, (wn_h ht hP)⟩, hS.F ht⟩) hS.2.2 dX1_weight_56
            · have h5 : (mMd τ) = 0 := h5
              refine lv_dconst0 hx hb dX1_weight_41 ?_
              refine lv_goto (tgt := 56) hx hb dX1_weight_42 (by decide) ?_
              exact W.dret hx hb hr (fun t ht hW => ⟨⟨_, _, rfl, Or.inl ⟨i, j, hi9, hj, rfl, rfl, rfl, (if_pos h5).symm⟩, (wn_h ht hP)⟩, hS.F ht⟩) hS.2.2 dX1_weight_56
        · have h3 : 1 = 0 := h3
          exact absurd h3 (by decide)
      · refine zu_ne (tgt := 23) hx hb (show 0 < 2 ^ 31 by omega) dX1_weight_16 (by decide) (fun h3 => ?_) (fun h3 => ?_)
        · have h3 : 0 < 0 := h3
          exact absurd h3 (by decide)
        · have h3 : 0 = 0 := h3
          refine lv_iconst (v := nI 1) hx hb dX1_weight_19 (by decide +kernel) ?_
          refine lv_goto (tgt := 24) hx hb dX1_weight_20 (by decide) ?_
          refine gmput hx hb hts innX1_weight hown hK hP hap hA hS 0 (by decide) (by decide +kernel) rfl rfl (v := .int (nI (1))) rfl rfl (by show 0 < (List.length _); exact Nat.le_of_ble_eq_true rfl) dX1_weight_24 (fun H locs hP hS => ?_)
          have hP := pm_c hP
          refine lv_aload_n hx hb dX1_weight_27 rfl (lv_at hl 0 rfl) ?_
          refine gm hx hb hts innX1_weight hown hK hP 0 (by decide) (by decide +kernel) rfl (v := .int (nI ((1)))) rfl dX1_weight_28 ?_
          refine zu_gt (tgt := 41) hx hb (show (1) < 2 ^ 31 by omega) dX1_weight_31 (by decide) (fun h4 => ?_) (fun h4 => ?_)
          · have h4 : 0 < (1) := h4
            refine lv_dconst0 hx hb dX1_weight_41 ?_
            refine lv_goto (tgt := 56) hx hb dX1_weight_42 (by decide) ?_
            exact W.dret hx hb hr (fun t ht hW => ⟨⟨_, _, rfl, Or.inr ⟨fun ⟨_, j, _, h6, _, h7⟩ => hno j h6 h7, rfl, rfl⟩, (wn_h ht hP)⟩, hS.F ht⟩) hS.2.2 dX1_weight_56
          · have h4 : (1) = 0 := h4
            exact absurd h4 (by decide)
def n1M (τ : SM) : Int32 := nearM τ (mSg τ) 0 (-1)
def n2M (τ : SM) : Int32 := nearM τ (mSg τ) 0 (n1M τ)
theorem nearM_cases (τ : SM) (v : Nat → Nat) (fr : Nat) (but : Int32) : nearM τ v fr but = -1 ∨ ∃ j : Nat, j < 16 ∧ hasM τ j = true ∧ nI j ≠ but ∧ nearM τ v fr but = nI j := nrF_fst 16
/-- 1 while the first f features are 0 -/
def blM (sg : Nat → Nat) : Nat → Nat
  | 0 => 1
  | f + 1 => if 0 < blM sg f ∧ sg f = 0 then 1 else 0
theorem blM_le (sg : Nat → Nat) : ∀ f, blM sg f ≤ 1
  | 0 => Nat.le_refl 1
  | f + 1 => by rw [blM]; split <;> decide
theorem blM_iff (sg : Nat → Nat) : ∀ n, 0 < blM sg n ↔ ∀ f, f < n → sg f = 0
  | 0 => ⟨fun _ f h => absurd h (Nat.not_lt_zero f), fun _ => Nat.zero_lt_one⟩
  | n + 1 => by
    have ih := blM_iff sg n
    rw [blM]
    constructor
    · intro h f hf
      by_cases q : 0 < blM sg n ∧ sg n = 0
      · rcases Nat.lt_or_ge f n with z | z
        · exact ih.mp q.1 f z
        · exact (show f = n by omega) ▸ q.2
      · rw [if_neg q] at h; exact absurd h (by decide)
    · intro h
      rw [if_pos ⟨ih.mpr (fun f hf => h f (by omega)), h n (by omega)⟩]
      decide
def tooM (τ : SM) (z : Int32) : Prop := (∃ i j : Nat, i < 16 ∧ j < 16 ∧ n1M τ = nI i ∧ n2M τ = nI j ∧ z = ldF (ddM τ (mSg τ) 0 i) (ddM τ (mSg τ) 0 j) (mMg τ)) ∨ (n2M τ = -1 ∧ z = nI 0)
def tlQ (τ : SM) (x r : Int32) : Prop := ((∀ j : Nat, j < 2 → x ≠ nI j) ∧ r = -12) ∨ (∃ j : Nat, j < 2 ∧ x = nI j ∧ ((mMd τ = 0 ∧ r = -13) ∨ (0 < mMd τ ∧ (((∀ f, f < mF τ → mSg τ f = 0) ∧ r = -3) ∨ ((¬ ∀ f, f < mF τ → mSg τ f = 0) ∧ ∃ z : Int32, tooM τ z ∧ ((¬ z = 0 ∧ r = -2) ∨ (z = 0 ∧ r = if j = 0 then n1M τ else n2M τ)))))))
set_option maxHeartbeats 4000000 in
set_option maxRecDepth 100000 in
theorem lp_X1_tell {p : Program} {l : Launch} {e : Env} {R : Room} {s : State} {m : MethodId} {args : Array Value} {below : List Frame} {meth : Method} {c : Code} {Q : State → Prop} {E : zE} {ad : Nat → Nat} (hx : p.tables.exec = Jvm.exec) (hb : c.code = cX1_tell) (hml : c.maxLocals = 5) (hts : ∀ w ∈ wsX1_tell, w.before args s = true) (hown : s.vm.findClass RX1 = some m.cls) (hK : zK E s) (hap : apart 8 ad) {H0 : Heap} (hRf : 4 ≤ R.frames) (hRl : 98 ≤ R.locals) (τ : SM) (K : Nat) (hF : mF τ ≤ 16) (hmb : ∀ c, c < 16 → mHs τ c < 2 ^ 31) (hmd : mMd τ ≤ 1) (hsg : ∀ f, f < mF τ → mSg τ f < 2 ^ 31) (hex : 0 < mMd τ → ∃ c, c < 16 ∧ 0 < mHs τ c) (hK1 : 1023 ≤ K) (hK2 : K ≤ 1900) (hw : ∀ c, c < 16 → ∀ f, f < mF τ → mg K (mWt τ (16 * c + f)) ∧ mg 1057 (mMn τ (16 * c + f))) (j9 : Nat)
    (exit : ∀ (H : Heap) (locs : List Loc) (ls : Array Slot), PM E ad (smC τ (0)) H → va_S (aX 8 ad) H0 H locs → lv_has ls 5 [(2, .int (nI (blM (mSg τ) (mF τ)))), (0, .ref (ad 0)), (1, .int (nI (j9)))] → W p l e R s m args below meth c H locs 0 0 Q (F0 m 56 ls [])) :
    ∀ (n i : Nat) (H : Heap) (locs : List Loc) (ls : Array Slot), i ≤ mF τ → mF τ - i < n → PM E ad (smC τ (0)) H → va_S (aX 8 ad) H0 H locs → lv_has ls 5 [(3, .int (nI (i))), (2, .int (nI (blM (mSg τ) i))), (0, .ref (ad 0)), (1, .int (nI (j9)))] → W p l e R s m args below meth c H locs 0 0 Q (F0 m 23 ls []) := by
  have hA : ∀ k, k < 8 → aX 8 ad (ad k) := fun k hk => ⟨k, hk, rfl⟩
  intro n
  induction n with
  | zero => intro i H locs ls h1 h2; omega
  | succ n ih =>
    intro i H locs ls hi hn hP hS hl
    have hbi := blM_le (mSg τ) i
    refine lv_iload_n hx hb dX1_tell_23 rfl (lv_at hl 0 rfl) ?_
    refine lv_aload_n hx hb dX1_tell_24 rfl (lv_at hl 2 rfl) ?_
    refine gm hx hb hts innX1_tell hown hK hP 1 (by decide) (by decide +kernel) rfl (v := .int (nI ((mF τ)))) rfl dX1_tell_25 ?_
    refine zb_ge (tgt := 56) hx hb (show i < 2 ^ 31 by omega) (show (mF τ) < 2 ^ 31 by omega) dX1_tell_28 (by decide) (fun h => ?_) (fun h => ?_)
    · have h : (mF τ) ≤ i := h
      have hend : i = mF τ := by omega
      subst hend
      exact exit _ _ _ hP hS (lv_sub hl [1, 2, 3] rfl)
    · have h : i < (mF τ) := h
      have hsi := hsg i h
      refine lv_iload_n hx hb dX1_tell_31 rfl (lv_at hl 1 rfl) ?_
      refine zu_eq (tgt := 48) hx hb (show blM (mSg τ) i < 2 ^ 31 by omega) dX1_tell_32 (by decide) (fun h1 => ?_) (fun h1 => ?_)
      · have h1 : (blM (mSg τ) i) = 0 := h1
        have e8 : blM (mSg τ) (i + 1) = 0 := if_neg (fun q => by omega)
        refine lv_iconst (v := nI 0) hx hb dX1_tell_48 (by decide +kernel) ?_
        refine lv_istore_n (lv' := [(2, .int (nI (0))), (3, .int (nI (i))), (0, .ref (ad 0)), (1, .int (nI (j9)))]) hx hb dX1_tell_49 rfl hl (by decide) rfl (fun ls hl => ?_)
        refine lv_iinc (v := nI (i + 1)) (lv' := [(3, .int (nI (i + 1))), (2, .int (nI (0))), (0, .ref (ad 0)), (1, .int (nI (j9)))]) hx hb dX1_tell_50 hl (k := 1) rfl (nI_1 _) (by decide) rfl (fun ls hl => ?_)
        refine lv_goto (tgt := 23) hx hb dX1_tell_53 (by decide) ?_
        exact ih (i + 1) _ _ _ (by omega) (by omega) hP hS (by rw [e8]; exact lv_sub hl [0, 1, 2, 3] rfl)
      · have h1 : 0 < (blM (mSg τ) i) := h1
        refine lv_aload_n hx hb dX1_tell_35 rfl (lv_at hl 2 rfl) ?_
        refine gm hx hb hts innX1_tell hown hK hP 5 (by decide) (by decide +kernel) rfl (v := .ref (ad 3)) rfl dX1_tell_36 ?_
        refine lv_iload_n hx hb dX1_tell_39 rfl (lv_at hl 0 rfl) ?_
        refine z_iald hx hb hK hP 3 (by decide) cm_sg (show i < 16 by omega) (by decide) dX1_tell_40 ?_
        refine zu_ne (tgt := 48) hx hb (show (mSg τ) (i) < 2 ^ 31 by omega) dX1_tell_41 (by decide) (fun h2 => ?_) (fun h2 => ?_)
        · have h2 : 0 < ((mSg τ) (i)) := h2
          have e8 : blM (mSg τ) (i + 1) = 0 := if_neg (fun q => by omega)
          refine lv_iconst (v := nI 0) hx hb dX1_tell_48 (by decide +kernel) ?_
          refine lv_istore_n (lv' := [(2, .int (nI (0))), (3, .int (nI (i))), (0, .ref (ad 0)), (1, .int (nI (j9)))]) hx hb dX1_tell_49 rfl hl (by decide) rfl (fun ls hl => ?_)
          refine lv_iinc (v := nI (i + 1)) (lv' := [(3, .int (nI (i + 1))), (2, .int (nI (0))), (0, .ref (ad 0)), (1, .int (nI (j9)))]) hx hb dX1_tell_50 hl (k := 1) rfl (nI_1 _) (by decide) rfl (fun ls hl => ?_)
          refine lv_goto (tgt := 23) hx hb dX1_tell_53 (by decide) ?_
          exact ih (i + 1) _ _ _ (by omega) (by omega) hP hS (by rw [e8]; exact lv_sub hl [0, 1, 2, 3] rfl)
        · have h2 : ((mSg τ) (i)) = 0 := h2
          have e8 : blM (mSg τ) (i + 1) = 1 := if_pos ⟨h1, h2⟩
          refine lv_iconst (v := nI 1) hx hb dX1_tell_44 (by decide +kernel) ?_
          refine lv_goto (tgt := 49) hx hb dX1_tell_45 (by decide) ?_
          refine lv_istore_n (lv' := [(2, .int (nI (1))), (3, .int (nI (i))), (0, .ref (ad 0)), (1, .int (nI (j9)))]) hx hb dX1_tell_49 rfl hl (by decide) rfl (fun ls hl => ?_)
          refine lv_iinc (v := nI (i + 1)) (lv' := [(3, .int (nI (i + 1))), (2, .int (nI (1))), (0, .ref (ad 0)), (1, .int (nI (j9)))]) hx hb dX1_tell_50 hl (k := 1) rfl (nI_1 _) (by decide) rfl (fun ls hl => ?_)
          refine lv_goto (tgt := 23) hx hb dX1_tell_53 (by decide) ?_
          exact ih (i + 1) _ _ _ (by omega) (by omega) hP hS (by rw [e8]; exact lv_sub hl [0, 1, 2, 3] rfl)
set_option maxHeartbeats 4000000 in
set_option maxRecDepth 100000 in
theorem kX1_tell (l : Launch) (E : zE) (ad : Nat → Nat) (hap : apart 8 ad) (τ : SM) (x : Int32) (K : Nat) (hF : mF τ ≤ 16) (hmb : ∀ c, c < 16 → mHs τ c < 2 ^ 31) (hmd : mMd τ ≤ 1) (hsg : ∀ f, f < mF τ → mSg τ f < 2 ^ 31) (hex : 0 < mMd τ → ∃ c, c < 16 ∧ 0 < mHs τ c) (hK1 : 1023 ≤ K) (hK2 : K ≤ 1900) (hw : ∀ c, c < 16 → ∀ f, f < mF τ → mg K (mWt τ (16 * c + f)) ∧ mg 1057 (mMn τ (16 * c + f))) : Met l yX1_tell wsX1_tell ({ frames := 4, cells := 0, slots := 0, locals := 98 }) (va_Pc [.ref (ad 0), .int (x)] (fun U => PM E ad τ U.heap ∧ zK E U)) (va_Qi (fun (r : Int32) (τ' : SM) => tlQ τ x r ∧ τ' = smC τ 0) (fun τ' t => PM E ad τ' t.heap) (aX 8 ad)) 0 0 (aX 8 ad) := by
  refine Met.ofW (cc := cX1_tell) (maxL := 5) (ret := some .int) (by decide) rfl ?_
  intro p e s m args below meth c s₁ B hml hv
  obtain ⟨rfl, hP, hK⟩ := hv
  have hx := B.exec
  have hb := B.bytes
  have hr := B.returns
  have hts := atoms_spec (ws := wsX1_tell) B.pre
  have hown : s.vm.findClass RX1 = some m.cls := findClass_of_methodNamed B.named
  have hlocks := B.notSynchronized
  have hS : va_S (aX 8 ad) s.heap s.heap [] := va_S.rf
  have hA : ∀ k, k < 8 → aX 8 ad (ad k) := fun k hk => ⟨k, hk, rfl⟩
  have hRf : 4 ≤ ((headSpec wsX1_tell ({ frames := 4, cells := 0, slots := 0, locals := 98 })).room).frames := Nat.le_of_ble_eq_true rfl
  have hRl : 98 ≤ ((headSpec wsX1_tell ({ frames := 4, cells := 0, slots := 0, locals := 98 })).room).locals := Nat.le_of_ble_eq_true rfl
  have hl := lv_entry ([.ref (ad 0), .int (x)]) (n := 5) (Nat.le_of_ble_eq_true rfl)
  rw [lg_entry_eq]
  generalize (lg_sl ([.ref (ad 0), .int (x)]) ++ List.replicate (5 - (lg_sl ([.ref (ad 0), .int (x)])).length) Slot.unset).toArray = ls at hl ⊢
  have hl : lv_has ls 5 [(0, .ref (ad 0)), (1, .int (x))] := hl
  refine lv_aload_n hx hb dX1_tell_0 rfl (lv_at hl 0 rfl) ?_
  refine lv_iconst (v := nI 0) hx hb dX1_tell_1 (by decide +kernel) ?_
  refine gmput hx hb hts innX1_tell hown hK hP hap hA hS 0 (by decide) (by decide +kernel) rfl rfl (v := .int (nI (0))) rfl rfl (by show 0 < (List.length _); exact Nat.le_of_ble_eq_true rfl) dX1_tell_2 (fun H locs hP hS => ?_)
  have hP := pm_c hP
  refine lv_aload_n hx hb dX1_tell_5 rfl (lv_at hl 0 rfl) ?_
  refine lv_iload_n hx hb dX1_tell_6 rfl (lv_at hl 1 rfl) ?_
  refine va_calli (va_runV (As := [.int (x)]) (rest := []) ⟨hx, hb, hml, hown, hts⟩ (kX1_refusal l E ad hap (smC τ 0) x hmd) (cwV 1 hts gX1_tell_X1_refusal rfl rfl rfl (by decide +kernel) ⟨Nat.le_trans (Nat.le_of_ble_eq_true rfl) hRf, Nat.le_trans (Nat.le_of_ble_eq_true rfl) hRl⟩) (zpm hK hP) rfl rfl hl.1 rfl (lv_room (Nat.le_of_ble_eq_true rfl)) dX1_tell_7 ⟨Nat.zero_le _, Nat.zero_le _⟩) hS (fun q _ h => h.elim) (fun q h => h.elim) (fun r u9 t9 H locs ht9 hvm9 hw9 hB9 hz9 hk9 hS => ?_)
  have hP := wn_ro hP hk9
  rcases hw9 with ⟨hno, rfl⟩ | ⟨j, hj, rfl, ⟨h0, rfl⟩ | ⟨h0, rfl⟩⟩
  · refine lv_if_eq (tgt := 19) hx hb dX1_tell_10 (by decide) (fun h1 => ?_) (fun h1 => ?_)
    · exact absurd h1 (by decide)
    · refine lv_aload_n hx hb dX1_tell_13 rfl (lv_at hl 0 rfl) ?_
      refine lv_iload_n hx hb dX1_tell_14 rfl (lv_at hl 1 rfl) ?_
      refine va_calli (va_runV (As := [.int (x)]) (rest := []) ⟨hx, hb, hml, hown, hts⟩ (kX1_refusal l E ad hap (smC τ 0) x hmd) (cwV 1 hts gX1_tell_X1_refusal rfl rfl rfl (by decide +kernel) ⟨Nat.le_trans (Nat.le_of_ble_eq_true rfl) hRf, Nat.le_trans (Nat.le_of_ble_eq_true rfl) hRl⟩) (zpm hK hP) rfl rfl hl.1 rfl (lv_room (Nat.le_of_ble_eq_true rfl)) dX1_tell_15 ⟨Nat.zero_le _, Nat.zero_le _⟩) hS (fun q _ h => h.elim) (fun q h => h.elim) (fun r2 u9 t9 H locs ht9 hvm9 hw9 hB9 hz9 hk9 hS => ?_)
      have hP := wn_ro hP hk9
      obtain ⟨-, rfl⟩ := hw9.resolve_right (fun ⟨j, hj, e, _⟩ => hno j hj e)
      exact W.iret hx hb hr (fun t ht hW => ⟨⟨_, _, rfl, ⟨Or.inl ⟨hno, rfl⟩, rfl⟩, (wn_h ht hP)⟩, hS.F ht⟩) hS.2.2 dX1_tell_18
  · refine lv_if_eq (tgt := 19) hx hb dX1_tell_10 (by decide) (fun h1 => ?_) (fun h1 => ?_)
    · exact absurd h1 (by decide)
    · refine lv_aload_n hx hb dX1_tell_13 rfl (lv_at hl 0 rfl) ?_
      refine lv_iload_n hx hb dX1_tell_14 rfl (lv_at hl 1 rfl) ?_
      refine va_calli (va_runV (As := [.int (nI (j))]) (rest := []) ⟨hx, hb, hml, hown, hts⟩ (kX1_refusal l E ad hap (smC τ 0) (nI j) hmd) (cwV 1 hts gX1_tell_X1_refusal rfl rfl rfl (by decide +kernel) ⟨Nat.le_trans (Nat.le_of_ble_eq_true rfl) hRf, Nat.le_trans (Nat.le_of_ble_eq_true rfl) hRl⟩) (zpm hK hP) rfl rfl hl.1 rfl (lv_room (Nat.le_of_ble_eq_true rfl)) dX1_tell_15 ⟨Nat.zero_le _, Nat.zero_le _⟩) hS (fun q _ h => h.elim) (fun q h => h.elim) (fun r2 u9 t9 H locs ht9 hvm9 hw9 hB9 hz9 hk9 hS => ?_)
      have hP := wn_ro hP hk9
      obtain ⟨j2, -, -, hw8⟩ := hw9.resolve_left (fun q => q.1 j hj rfl)
      obtain ⟨-, rfl⟩ := hw8.resolve_right (fun q => by have := q.1; have h0 : mMd τ = 0 := h0; have this : 0 < mMd τ := this; omega)
      exact W.iret hx hb hr (fun t ht hW => ⟨⟨_, _, rfl, ⟨Or.inr ⟨j, hj, rfl, Or.inl ⟨h0, rfl⟩⟩, rfl⟩, (wn_h ht hP)⟩, hS.F ht⟩) hS.2.2 dX1_tell_18
  · have h0 : 0 < mMd τ := h0
    refine zu_eq (tgt := 19) hx hb (show 0 < 2 ^ 31 by omega) dX1_tell_10 (by decide) (fun h1 => ?_) (fun h1 => ?_)
    · have h1 : 0 = 0 := h1
      refine lv_iconst (v := nI 1) hx hb dX1_tell_19 (by decide +kernel) ?_
      refine lv_istore_n (lv' := [(2, .int (nI (1))), (0, .ref (ad 0)), (1, .int (nI (j)))]) hx hb dX1_tell_20 rfl hl (by decide) rfl (fun ls hl => ?_)
      refine lv_iconst (v := nI 0) hx hb dX1_tell_21 (by decide +kernel) ?_
      refine lv_istore_n (lv' := [(3, .int (nI (0))), (2, .int (nI (1))), (0, .ref (ad 0)), (1, .int (nI (j)))]) hx hb dX1_tell_22 rfl hl (by decide) rfl (fun ls hl => ?_)
      refine lp_X1_tell hx hb hml hts hown hK hap hRf hRl τ K hF hmb hmd hsg hex hK1 hK2 hw j (fun H locs ls hP hS hl => ?_) (mF τ + 1) 0 _ _ _ (by omega) (by omega) hP hS (lv_sub hl [0, 1, 2, 3] rfl)
      have hbF := blM_le (mSg τ) (mF τ)
      refine lv_iload_n hx hb dX1_tell_56 rfl (lv_at hl 0 rfl) ?_
      refine zu_eq (tgt := 63) hx hb (show blM (mSg τ) (mF τ) < 2 ^ 31 by omega) dX1_tell_57 (by decide) (fun h2 => ?_) (fun h2 => ?_)
      · have h2 : (blM (mSg τ) (mF τ)) = 0 := h2
        have hnb : ¬ ∀ f, f < mF τ → mSg τ f = 0 := fun q => by have := (blM_iff (mSg τ) (mF τ)).mpr q; omega
        refine lv_aload_n hx hb dX1_tell_63 rfl (lv_at hl 1 rfl) ?_
        refine lv_iconst (v := nI 0) hx hb dX1_tell_64 (by decide +kernel) ?_
        refine va_calli (va_runV (As := [.int (nI (0))]) (rest := []) ⟨hx, hb, hml, hown, hts⟩ (kX1_ranked l E ad hap (smC τ 0) (nI 0) K hF hmb hK1 hK2 hw) (cwV 1 hts gX1_tell_X1_ranked rfl rfl rfl (by decide +kernel) ⟨Nat.le_trans (Nat.le_of_ble_eq_true rfl) hRf, Nat.le_trans (Nat.le_of_ble_eq_true rfl) hRl⟩) (zpm hK hP) rfl rfl hl.1 rfl (lv_room (Nat.le_of_ble_eq_true rfl)) dX1_tell_65 ⟨Nat.zero_le _, Nat.zero_le _⟩) hS (fun q _ h => h.elim) (fun q h => h.elim) (fun r u9 t9 H locs ht9 hvm9 hw9 hB9 hz9 hk9 hS => ?_)
        have hP := wn_ro hP hk9
        have hw9 : r = n1M τ := hw9.trans (if_pos nI_0)
        subst hw9
        refine lv_istore_n (lv' := [(3, .int (n1M τ)), (2, .int (nI (blM (mSg τ) (mF τ)))), (0, .ref (ad 0)), (1, .int (nI (j)))]) hx hb dX1_tell_68 rfl hl (by decide) rfl (fun ls hl => ?_)
        refine lv_aload_n hx hb dX1_tell_69 rfl (lv_at hl 2 rfl) ?_
        refine lv_iconst (v := nI 1) hx hb dX1_tell_70 (by decide +kernel) ?_
        refine va_calli (va_runV (As := [.int (nI (1))]) (rest := []) ⟨hx, hb, hml, hown, hts⟩ (kX1_ranked l E ad hap (smC τ 0) (nI 1) K hF hmb hK1 hK2 hw) (cwV 1 hts gX1_tell_X1_ranked rfl rfl rfl (by decide +kernel) ⟨Nat.le_trans (Nat.le_of_ble_eq_true rfl) hRf, Nat.le_trans (Nat.le_of_ble_eq_true rfl) hRl⟩) (zpm hK hP) rfl rfl hl.1 rfl (lv_room (Nat.le_of_ble_eq_true rfl)) dX1_tell_71 ⟨Nat.zero_le _, Nat.zero_le _⟩) hS (fun q _ h => h.elim) (fun q h => h.elim) (fun r u9 t9 H locs ht9 hvm9 hw9 hB9 hz9 hk9 hS => ?_)
        have hP := wn_ro hP hk9
        have hw9 : r = n2M τ := hw9.trans (if_neg (by decide))
        subst hw9
        rcases nearM_cases τ (mSg τ) 0 (n1M τ) with e9 | ⟨j2, hj2, -, -, e9⟩
        · refine lv_istore (lv' := [(4, .int (n2M τ)), (3, .int (n1M τ)), (2, .int (nI (blM (mSg τ) (mF τ)))), (0, .ref (ad 0)), (1, .int (nI (j)))]) hx hb dX1_tell_74 hl (by decide) rfl (fun ls hl => ?_)
          refine lv_iload hx hb dX1_tell_76 (lv_at hl 0 rfl) ?_
          refine lv_if_lt (tgt := 115) hx hb dX1_tell_78 (by decide) (fun h3 => ?_) (fun h3 => ?_)
          · refine lv_iload_n hx hb dX1_tell_115 rfl (lv_at hl 4 rfl) ?_
            refine zu_ne (tgt := 123) hx hb (show j < 2 ^ 31 by omega) dX1_tell_116 (by decide) (fun h6 => ?_) (fun h6 => ?_)
            · have h6 : 0 < j := h6
              refine lv_iload hx hb dX1_tell_123 (lv_at hl 0 rfl) ?_
              exact W.iret hx hb hr (fun t ht hW => ⟨⟨_, _, rfl, ⟨Or.inr ⟨j, hj, rfl, Or.inr ⟨h0, Or.inr ⟨hnb, nI 0, Or.inr ⟨e9, rfl⟩, Or.inr ⟨nI_0, (if_neg (Nat.ne_of_gt h6)).symm⟩⟩⟩⟩, rfl⟩, (wn_h ht hP)⟩, hS.F ht⟩) hS.2.2 dX1_tell_125
            · have h6 : j = 0 := h6
              refine lv_iload_n hx hb dX1_tell_119 rfl (lv_at hl 1 rfl) ?_
              refine lv_goto (tgt := 125) hx hb dX1_tell_120 (by decide) ?_
              exact W.iret hx hb hr (fun t ht hW => ⟨⟨_, _, rfl, ⟨Or.inr ⟨j, hj, rfl, Or.inr ⟨h0, Or.inr ⟨hnb, nI 0, Or.inr ⟨e9, rfl⟩, Or.inr ⟨nI_0, (if_pos h6).symm⟩⟩⟩⟩, rfl⟩, (wn_h ht hP)⟩, hS.F ht⟩) hS.2.2 dX1_tell_125
          · exact absurd (show n2M τ < 0 by rw [show n2M τ = -1 from e9]; decide) h3
        · refine lv_istore (lv' := [(4, .int (n2M τ)), (3, .int (n1M τ)), (2, .int (nI (blM (mSg τ) (mF τ)))), (0, .ref (ad 0)), (1, .int (nI (j)))]) hx hb dX1_tell_74 hl (by decide) rfl (fun ls hl => ?_)
          refine lv_iload hx hb dX1_tell_76 (lv_at hl 0 rfl) ?_
          refine lv_if_lt (tgt := 115) hx hb dX1_tell_78 (by decide) (fun h3 => ?_) (fun h3 => ?_)
          · exact absurd (show nI j2 < 0 from e9 ▸ h3) (nI_pos (by omega))
          · obtain ⟨c8, hc8, hh8⟩ := hex h0
            obtain ⟨i1, hi1, e8⟩ := nearM_some τ (mSg τ) 0 c8 hc8 hh8
            have hl0 := hl
            rw [show n1M τ = nI i1 from e8, show n2M τ = nI j2 from e9] at hl
            have hl : lv_has ls 5 [(4, .int (nI (j2))), (3, .int (nI (i1))), (2, .int (nI (blM (mSg τ) (mF τ)))), (0, .ref (ad 0)), (1, .int (nI (j)))] := hl
            refine lv_aload_n hx hb dX1_tell_81 rfl (lv_at hl 3 rfl) ?_
            refine lv_aload_n hx hb dX1_tell_82 rfl (lv_at hl 3 rfl) ?_
            refine gm hx hb hts innX1_tell hown hK hP 5 (by decide) (by decide +kernel) rfl (v := .ref (ad 3)) rfl dX1_tell_83 ?_
            refine lv_iconst (v := nI 0) hx hb dX1_tell_86 (by decide +kernel) ?_
            refine lv_iload hx hb dX1_tell_87 (lv_at hl 0 rfl) ?_
            refine va_calld (va_runV (As := [.ref (ad 3), .int (nI (0)), .int (nI (j2))]) (rest := []) ⟨hx, hb, hml, hown, hts⟩ (kX1_distanceTo l E ad hap (smC τ 0) 3 16 0 j2 K (mSg τ) hF hj2 (by decide) (cm_sg (τ := smC τ 0)) (by decide) (show 0 + mF τ ≤ 16 by omega) hK1 hK2 (hw j2 hj2)) (cwV 3 hts gX1_tell_X1_distanceTo rfl rfl rfl (by decide +kernel) ⟨Nat.le_trans (Nat.le_of_ble_eq_true rfl) hRf, Nat.le_trans (Nat.le_of_ble_eq_true rfl) hRl⟩) (zpm hK hP) rfl rfl hl.1 rfl (lv_room (Nat.le_of_ble_eq_true rfl)) dX1_tell_89 ⟨Nat.zero_le _, Nat.zero_le _⟩) hS (fun q _ h => h.elim) (fun q h => h.elim) (fun r u9 t9 H locs ht9 hvm9 hw9 hB9 hz9 hk9 hS => ?_)
            have hP := wn_ro hP hk9
            subst hw9
            refine lv_aload_n hx hb dX1_tell_92 rfl (lv_at hl 3 rfl) ?_
            refine lv_aload_n hx hb dX1_tell_93 rfl (lv_at hl 3 rfl) ?_
            refine gm hx hb hts innX1_tell hown hK hP 5 (by decide) (by decide +kernel) rfl (v := .ref (ad 3)) rfl dX1_tell_94 ?_
            refine lv_iconst (v := nI 0) hx hb dX1_tell_97 (by decide +kernel) ?_
            refine lv_iload_n hx hb dX1_tell_98 rfl (lv_at hl 1 rfl) ?_
            refine va_calld (va_runV (As := [.ref (ad 3), .int (nI (0)), .int (nI (i1))]) (rest := [.double (ddM τ (mSg τ) 0 j2)]) ⟨hx, hb, hml, hown, hts⟩ (kX1_distanceTo l E ad hap (smC τ 0) 3 16 0 i1 K (mSg τ) hF hi1 (by decide) (cm_sg (τ := smC τ 0)) (by decide) (show 0 + mF τ ≤ 16 by omega) hK1 hK2 (hw i1 hi1)) (cwV 3 hts gX1_tell_X1_distanceTo rfl rfl rfl (by decide +kernel) ⟨Nat.le_trans (Nat.le_of_ble_eq_true rfl) hRf, Nat.le_trans (Nat.le_of_ble_eq_true rfl) hRl⟩) (zpm hK hP) rfl rfl hl.1 rfl (lv_room (Nat.le_of_ble_eq_true rfl)) dX1_tell_99 ⟨Nat.zero_le _, Nat.zero_le _⟩) hS (fun q _ h => h.elim) (fun q h => h.elim) (fun r u9 t9 H locs ht9 hvm9 hw9 hB9 hz9 hk9 hS => ?_)
            have hP := wn_ro hP hk9
            subst hw9
            refine lv_dsub hx hb dX1_tell_102 (mg_n64 (mg_dsub (L := K + 52) (mg_ds hK1 hK2 (n := mF τ) hF (hw j2 hj2)) (mg_ds hK1 hK2 (n := mF τ) hF (hw i1 hi1)) (by omega) (by omega) (by omega)) (by omega)) ?_
            refine lv_aload_n hx hb dX1_tell_103 rfl (lv_at hl 3 rfl) ?_
            refine gm hx hb hts innX1_tell hown hK hP 11 (by decide) (by decide +kernel) rfl (v := .int (nI ((mMg τ)))) rfl dX1_tell_104 ?_
            refine lv_i2d hx hb dX1_tell_107 ?_
            refine lv_dcmp hx hb dX1_tell_108 ?_
            refine lv_if_ge (tgt := 115) hx hb dX1_tell_109 (by decide) (fun h5 => ?_) (fun h5 => ?_)
            · have hl := hl0
              refine lv_iload_n hx hb dX1_tell_115 rfl (lv_at hl 4 rfl) ?_
              refine zu_ne (tgt := 123) hx hb (show j < 2 ^ 31 by omega) dX1_tell_116 (by decide) (fun h6 => ?_) (fun h6 => ?_)
              · have h6 : 0 < j := h6
                refine lv_iload hx hb dX1_tell_123 (lv_at hl 0 rfl) ?_
                exact W.iret hx hb hr (fun t ht hW => ⟨⟨_, _, rfl, ⟨Or.inr ⟨j, hj, rfl, Or.inr ⟨h0, Or.inr ⟨hnb, ldF (ddM τ (mSg τ) 0 i1) (ddM τ (mSg τ) 0 j2) (mMg τ), Or.inl ⟨i1, j2, hi1, hj2, e8, e9, rfl⟩, Or.inr ⟨(if_pos h5).trans nI_0, (if_neg (Nat.ne_of_gt h6)).symm⟩⟩⟩⟩, rfl⟩, (wn_h ht hP)⟩, hS.F ht⟩) hS.2.2 dX1_tell_125
              · have h6 : j = 0 := h6
                refine lv_iload_n hx hb dX1_tell_119 rfl (lv_at hl 1 rfl) ?_
                refine lv_goto (tgt := 125) hx hb dX1_tell_120 (by decide) ?_
                exact W.iret hx hb hr (fun t ht hW => ⟨⟨_, _, rfl, ⟨Or.inr ⟨j, hj, rfl, Or.inr ⟨h0, Or.inr ⟨hnb, ldF (ddM τ (mSg τ) 0 i1) (ddM τ (mSg τ) 0 j2) (mMg τ), Or.inl ⟨i1, j2, hi1, hj2, e8, e9, rfl⟩, Or.inr ⟨(if_pos h5).trans nI_0, (if_pos h6).symm⟩⟩⟩⟩, rfl⟩, (wn_h ht hP)⟩, hS.F ht⟩) hS.2.2 dX1_tell_125
            · refine lv_bipush (v := -2) hx hb dX1_tell_112 (by decide +kernel) ?_
              exact W.iret hx hb hr (fun t ht hW => ⟨⟨_, _, rfl, ⟨Or.inr ⟨j, hj, rfl, Or.inr ⟨h0, Or.inr ⟨hnb, ldF (ddM τ (mSg τ) 0 i1) (ddM τ (mSg τ) 0 j2) (mMg τ), Or.inl ⟨i1, j2, hi1, hj2, e8, e9, rfl⟩, Or.inl ⟨fun q => absurd ((show ldF (ddM τ (mSg τ) 0 i1) (ddM τ (mSg τ) 0 j2) (mMg τ) = nI 1 from if_neg h5).symm.trans q) (by decide), rfl⟩⟩⟩⟩, rfl⟩, (wn_h ht hP)⟩, hS.F ht⟩) hS.2.2 dX1_tell_114
      · have h2 : 0 < (blM (mSg τ) (mF τ)) := h2
        refine lv_bipush (v := -3) hx hb dX1_tell_60 (by decide +kernel) ?_
        exact W.iret hx hb hr (fun t ht hW => ⟨⟨_, _, rfl, ⟨Or.inr ⟨j, hj, rfl, Or.inr ⟨h0, Or.inl ⟨(blM_iff _ _).mp h2, rfl⟩⟩⟩, rfl⟩, (wn_h ht hP)⟩, hS.F ht⟩) hS.2.2 dX1_tell_62
    · have h1 : 0 < 0 := h1
      exact absurd h1 (by decide)
def rkM (τ : SM) (j : Nat) : Int32 := if j = 1 then n2M τ else n1M τ
def dsQ (τ : SM) (x : Int32) (r : Int64) : Prop := ((∀ j : Nat, j < 2 → x ≠ nI j) ∧ r = -12) ∨ (∃ j : Nat, j < 2 ∧ x = nI j ∧ ((mMd τ = 0 ∧ r = -13) ∨ (0 < mMd τ ∧ ((rkM τ j = -1 ∧ r = -1) ∨ (∃ c : Nat, c < 16 ∧ rkM τ j = nI c ∧ r = d1000 (ddM τ (mSg τ) 0 c))))))
theorem rkM_cases (τ : SM) (j : Nat) : rkM τ j = -1 ∨ ∃ c : Nat, c < 16 ∧ rkM τ j = nI c := by
  unfold rkM
  split
  · rcases nearM_cases τ (mSg τ) 0 (n1M τ) with e | ⟨c, hc, -, -, e⟩
    · exact Or.inl e
    · exact Or.inr ⟨c, hc, e⟩
  · rcases nearM_cases τ (mSg τ) 0 (-1) with e | ⟨c, hc, -, -, e⟩
    · exact Or.inl e
    · exact Or.inr ⟨c, hc, e⟩
set_option maxHeartbeats 4000000 in
set_option maxRecDepth 100000 in
theorem kX1_distance (l : Launch) (E : zE) (ad : Nat → Nat) (hap : apart 8 ad) (τ : SM) (x : Int32) (K : Nat) (hF : mF τ ≤ 16) (hmb : ∀ c, c < 16 → mHs τ c < 2 ^ 31) (hmd : mMd τ ≤ 1) (hsg : ∀ f, f < mF τ → mSg τ f < 2 ^ 31) (hex : 0 < mMd τ → ∃ c, c < 16 ∧ 0 < mHs τ c) (hK1 : 1023 ≤ K) (hK2 : K ≤ 1900) (hw : ∀ c, c < 16 → ∀ f, f < mF τ → mg K (mWt τ (16 * c + f)) ∧ mg 1057 (mMn τ (16 * c + f))) : Met l yX1_distance wsX1_distance ({ frames := 4, cells := 0, slots := 0, locals := 98 }) (va_Pc [.ref (ad 0), .int (x)] (fun U => PM E ad τ U.heap ∧ zK E U)) (va_Ql (fun (r : Int64) (τ' : SM) => dsQ τ x r ∧ τ' = smC τ 0) (fun τ' t => PM E ad τ' t.heap) (aX 8 ad)) 0 0 (aX 8 ad) := by
  refine Met.ofW (cc := cX1_distance) (maxL := 3) (ret := some .long) (by decide) rfl ?_
  intro p e s m args below meth c s₁ B hml hv
  obtain ⟨rfl, hP, hK⟩ := hv
  have hx := B.exec
  have hb := B.bytes
  have hr := B.returns
  have hts := atoms_spec (ws := wsX1_distance) B.pre
  have hown : s.vm.findClass RX1 = some m.cls := findClass_of_methodNamed B.named
  have hlocks := B.notSynchronized
  have hS : va_S (aX 8 ad) s.heap s.heap [] := va_S.rf
  have hA : ∀ k, k < 8 → aX 8 ad (ad k) := fun k hk => ⟨k, hk, rfl⟩
  have hRf : 4 ≤ ((headSpec wsX1_distance ({ frames := 4, cells := 0, slots := 0, locals := 98 })).room).frames := Nat.le_of_ble_eq_true rfl
  have hRl : 98 ≤ ((headSpec wsX1_distance ({ frames := 4, cells := 0, slots := 0, locals := 98 })).room).locals := Nat.le_of_ble_eq_true rfl
  have hl := lv_entry ([.ref (ad 0), .int (x)]) (n := 3) (Nat.le_of_ble_eq_true rfl)
  rw [lg_entry_eq]
  generalize (lg_sl ([.ref (ad 0), .int (x)]) ++ List.replicate (3 - (lg_sl ([.ref (ad 0), .int (x)])).length) Slot.unset).toArray = ls at hl ⊢
  have hl : lv_has ls 3 [(0, .ref (ad 0)), (1, .int (x))] := hl
  refine lv_aload_n hx hb dX1_distance_0 rfl (lv_at hl 0 rfl) ?_
  refine lv_iconst (v := nI 0) hx hb dX1_distance_1 (by decide +kernel) ?_
  refine gmput hx hb hts innX1_distance hown hK hP hap hA hS 0 (by decide) (by decide +kernel) rfl rfl (v := .int (nI (0))) rfl rfl (by show 0 < (List.length _); exact Nat.le_of_ble_eq_true rfl) dX1_distance_2 (fun H locs hP hS => ?_)
  have hP := pm_c hP
  refine lv_aload_n hx hb dX1_distance_5 rfl (lv_at hl 0 rfl) ?_
  refine lv_iload_n hx hb dX1_distance_6 rfl (lv_at hl 1 rfl) ?_
  refine va_calli (va_runV (As := [.int (x)]) (rest := []) ⟨hx, hb, hml, hown, hts⟩ (kX1_refusal l E ad hap (smC τ 0) x hmd) (cwV 1 hts gX1_distance_X1_refusal rfl rfl rfl (by decide +kernel) ⟨Nat.le_trans (Nat.le_of_ble_eq_true rfl) hRf, Nat.le_trans (Nat.le_of_ble_eq_true rfl) hRl⟩) (zpm hK hP) rfl rfl hl.1 rfl (lv_room (Nat.le_of_ble_eq_true rfl)) dX1_distance_7 ⟨Nat.zero_le _, Nat.zero_le _⟩) hS (fun q _ h => h.elim) (fun q h => h.elim) (fun r u9 t9 H locs ht9 hvm9 hw9 hB9 hz9 hk9 hS => ?_)
  have hP := wn_ro hP hk9
  rcases hw9 with ⟨hno, rfl⟩ | ⟨j, hj, rfl, ⟨h0, rfl⟩ | ⟨h0, rfl⟩⟩
  · refine lv_if_eq (tgt := 20) hx hb dX1_distance_10 (by decide) (fun h1 => ?_) (fun h1 => ?_)
    · exact absurd h1 (by decide)
    · refine lv_aload_n hx hb dX1_distance_13 rfl (lv_at hl 0 rfl) ?_
      refine lv_iload_n hx hb dX1_distance_14 rfl (lv_at hl 1 rfl) ?_
      refine va_calli (va_runV (As := [.int (x)]) (rest := []) ⟨hx, hb, hml, hown, hts⟩ (kX1_refusal l E ad hap (smC τ 0) x hmd) (cwV 1 hts gX1_distance_X1_refusal rfl rfl rfl (by decide +kernel) ⟨Nat.le_trans (Nat.le_of_ble_eq_true rfl) hRf, Nat.le_trans (Nat.le_of_ble_eq_true rfl) hRl⟩) (zpm hK hP) rfl rfl hl.1 rfl (lv_room (Nat.le_of_ble_eq_true rfl)) dX1_distance_15 ⟨Nat.zero_le _, Nat.zero_le _⟩) hS (fun q _ h => h.elim) (fun q h => h.elim) (fun r2 u9 t9 H locs ht9 hvm9 hw9 hB9 hz9 hk9 hS => ?_)
      have hP := wn_ro hP hk9
      obtain ⟨-, rfl⟩ := hw9.resolve_right (fun ⟨j, hj, e, _⟩ => hno j hj e)
      refine lv_i2l (v := -12) hx hb dX1_distance_18 (by decide) ?_
      exact W.lret hx hb hr (fun t ht hW => ⟨⟨_, _, rfl, ⟨Or.inl ⟨hno, rfl⟩, rfl⟩, (wn_h ht hP)⟩, hS.F ht⟩) hS.2.2 dX1_distance_19
  · refine lv_if_eq (tgt := 20) hx hb dX1_distance_10 (by decide) (fun h1 => ?_) (fun h1 => ?_)
    · exact absurd h1 (by decide)
    · refine lv_aload_n hx hb dX1_distance_13 rfl (lv_at hl 0 rfl) ?_
      refine lv_iload_n hx hb dX1_distance_14 rfl (lv_at hl 1 rfl) ?_
      refine va_calli (va_runV (As := [.int (nI (j))]) (rest := []) ⟨hx, hb, hml, hown, hts⟩ (kX1_refusal l E ad hap (smC τ 0) (nI j) hmd) (cwV 1 hts gX1_distance_X1_refusal rfl rfl rfl (by decide +kernel) ⟨Nat.le_trans (Nat.le_of_ble_eq_true rfl) hRf, Nat.le_trans (Nat.le_of_ble_eq_true rfl) hRl⟩) (zpm hK hP) rfl rfl hl.1 rfl (lv_room (Nat.le_of_ble_eq_true rfl)) dX1_distance_15 ⟨Nat.zero_le _, Nat.zero_le _⟩) hS (fun q _ h => h.elim) (fun q h => h.elim) (fun r2 u9 t9 H locs ht9 hvm9 hw9 hB9 hz9 hk9 hS => ?_)
      have hP := wn_ro hP hk9
      obtain ⟨j2, -, -, hw8⟩ := hw9.resolve_left (fun q => q.1 j hj rfl)
      obtain ⟨-, rfl⟩ := hw8.resolve_right (fun q => by have := q.1; have h0 : mMd τ = 0 := h0; have this : 0 < mMd τ := this; omega)
      refine lv_i2l (v := -13) hx hb dX1_distance_18 (by decide) ?_
      exact W.lret hx hb hr (fun t ht hW => ⟨⟨_, _, rfl, ⟨Or.inr ⟨j, hj, rfl, Or.inl ⟨h0, rfl⟩⟩, rfl⟩, (wn_h ht hP)⟩, hS.F ht⟩) hS.2.2 dX1_distance_19
  · have h0 : 0 < mMd τ := h0
    refine zu_eq (tgt := 20) hx hb (show 0 < 2 ^ 31 by omega) dX1_distance_10 (by decide) (fun h1 => ?_) (fun h1 => ?_)
    · have h1 : 0 = 0 := h1
      refine lv_aload_n hx hb dX1_distance_20 rfl (lv_at hl 0 rfl) ?_
      refine lv_iload_n hx hb dX1_distance_21 rfl (lv_at hl 1 rfl) ?_
      refine va_calli (va_runV (As := [.int (nI (j))]) (rest := []) ⟨hx, hb, hml, hown, hts⟩ (kX1_ranked l E ad hap (smC τ 0) (nI j) K hF hmb hK1 hK2 hw) (cwV 1 hts gX1_distance_X1_ranked rfl rfl rfl (by decide +kernel) ⟨Nat.le_trans (Nat.le_of_ble_eq_true rfl) hRf, Nat.le_trans (Nat.le_of_ble_eq_true rfl) hRl⟩) (zpm hK hP) rfl rfl hl.1 rfl (lv_room (Nat.le_of_ble_eq_true rfl)) dX1_distance_22 ⟨Nat.zero_le _, Nat.zero_le _⟩) hS (fun q _ h => h.elim) (fun q h => h.elim) (fun r u9 t9 H locs ht9 hvm9 hw9 hB9 hz9 hk9 hS => ?_)
      have hP := wn_ro hP hk9
      have hw9 : r = rkM τ j := by
        refine hw9.trans ?_
        rcases (show j = 0 ∨ j = 1 by omega) with rfl | rfl
        · exact (if_pos nI_0).trans (if_neg (by decide)).symm
        · exact (if_neg (by decide)).trans (if_pos rfl).symm
      subst hw9
      refine lv_istore_n (lv' := [(2, .int (rkM τ j)), (0, .ref (ad 0)), (1, .int (nI (j)))]) hx hb dX1_distance_25 rfl hl (by decide) rfl (fun ls hl => ?_)
      refine lv_iload_n hx hb dX1_distance_26 rfl (lv_at hl 0 rfl) ?_
      rcases rkM_cases τ j with e9 | ⟨c9, hc, e9⟩
      · refine lv_if_ge (tgt := 36) hx hb dX1_distance_27 (by decide) (fun h3 => ?_) (fun h3 => ?_)
        · rw [e9] at h3; exact absurd h3 (by decide)
        · refine lv_ldc2 hx hb hown (hts (.constantLong RX1 83 (-1)) (by decide +kernel)) dX1_distance_30 ?_
          refine lv_goto (tgt := 51) hx hb dX1_distance_33 (by decide) ?_
          exact W.lret hx hb hr (fun t ht hW => ⟨⟨_, _, rfl, ⟨Or.inr ⟨j, hj, rfl, Or.inr ⟨h0, Or.inl ⟨e9, rfl⟩⟩⟩, rfl⟩, (wn_h ht hP)⟩, hS.F ht⟩) hS.2.2 dX1_distance_51
      · refine lv_if_ge (tgt := 36) hx hb dX1_distance_27 (by decide) (fun h3 => ?_) (fun h3 => ?_)
        · rw [e9] at hl
          have hl : lv_has ls 3 [(2, .int (nI (c9))), (0, .ref (ad 0)), (1, .int (nI (j)))] := hl
          refine lv_aload_n hx hb dX1_distance_36 rfl (lv_at hl 1 rfl) ?_
          refine lv_aload_n hx hb dX1_distance_37 rfl (lv_at hl 1 rfl) ?_
          refine gm hx hb hts innX1_distance hown hK hP 5 (by decide) (by decide +kernel) rfl (v := .ref (ad 3)) rfl dX1_distance_38 ?_
          refine lv_iconst (v := nI 0) hx hb dX1_distance_41 (by decide +kernel) ?_
          refine lv_iload_n hx hb dX1_distance_42 rfl (lv_at hl 0 rfl) ?_
          refine va_calld (va_runV (As := [.ref (ad 3), .int (nI (0)), .int (nI (c9))]) (rest := []) ⟨hx, hb, hml, hown, hts⟩ (kX1_distanceTo l E ad hap (smC τ 0) 3 16 0 c9 K (mSg τ) hF hc (by decide) (cm_sg (τ := smC τ 0)) (by decide) (show 0 + mF τ ≤ 16 by omega) hK1 hK2 (hw c9 hc)) (cwV 3 hts gX1_distance_X1_distanceTo rfl rfl rfl (by decide +kernel) ⟨Nat.le_trans (Nat.le_of_ble_eq_true rfl) hRf, Nat.le_trans (Nat.le_of_ble_eq_true rfl) hRl⟩) (zpm hK hP) rfl rfl hl.1 rfl (lv_room (Nat.le_of_ble_eq_true rfl)) dX1_distance_43 ⟨Nat.zero_le _, Nat.zero_le _⟩) hS (fun q _ h => h.elim) (fun q h => h.elim) (fun r u9 t9 H locs ht9 hvm9 hw9 hB9 hz9 hk9 hS => ?_)
          have hP := wn_ro hP hk9
          subst hw9
          refine lv_ldc2d hx hb hown (hts (.constantDouble RX1 85 k1000) (by decide +kernel)) dX1_distance_46 ?_
          refine lv_dmul hx hb dX1_distance_49 (mg_n64 (mg_dmul (K := K + 61) (mg_ds hK1 hK2 (n := mF τ) hF (hw c9 hc)) mg_1000 (by omega) (by decide) (by omega) (by decide) (by omega) (by omega)) (by omega)) ?_
          refine lv_d2l hx hb dX1_distance_50 ?_
          exact W.lret hx hb hr (fun t ht hW => ⟨⟨_, _, rfl, ⟨Or.inr ⟨j, hj, rfl, Or.inr ⟨h0, Or.inr ⟨c9, hc, e9, rfl⟩⟩⟩, rfl⟩, (wn_h ht hP)⟩, hS.F ht⟩) hS.2.2 dX1_distance_51
        · exact absurd (e9 ▸ nI_pos' (by omega)) h3
    · have h1 : 0 < 0 := h1
      exact absurd h1 (by decide)
