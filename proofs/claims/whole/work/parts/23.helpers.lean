/-! ===== the law's own methods ===== -/
theorem at_J {D : va_G} {cl : List vw_C} {H : Heap} {a n : Nat} {c : ClassId} {f g : Nat → Int64} (h : va_at D cl (a, hJ c n f) H) (hj : ∀ j, j < n → f j = g j) : va_at D cl (a, hJ c n g) H := by
  have h1 : H[a]? = some (arrV c n (fun j => .long (f j))) := h
  rw [arrV_congr (g := fun j => .long (g j)) (fun j hn => by rw [hj j hn])] at h1
  exact h1
/-- one long, one double -/
abbrev atJ1 (E : zE) (aj : Nat) (v : Int64) (H : Heap) : Prop := va_at E.1 vwCl (aj, hJ (eJ E) 1 (fun _ => v)) H
abbrev atD1 (E : zE) (aj : Nat) (v : UInt64) (H : Heap) : Prop := va_at E.1 vwCl (aj, hD (eD E) 1 (fun _ => v)) H
theorem va_one {D : va_G} {cl : List vw_C} {a : Nat} {e : va_E} {H : Heap} (h : va_at D cl (a, e) H) : va_P D cl [(a, e)] H := fun k q hk => by
  have h0 : k < 1 := (List.getElem?_eq_some_iff.mp hk).1
  obtain rfl : k = 0 := by omega
  cases hk
  exact h
theorem atJ1.kept {E : zE} {aj : Nat} {v : Int64} {H H1 : Heap} (h : atJ1 E aj v H) (hq : H1[aj]? = H[aj]?) : atJ1 E aj v H1 := hq.trans h
theorem atD1.kept {E : zE} {aj : Nat} {v : UInt64} {H H1 : Heap} (h : atD1 E aj v H) (hq : H1[aj]? = H[aj]?) : atD1 E aj v H1 := hq.trans h
theorem atJ1.lt {E : zE} {aj : Nat} {v : Int64} {H : Heap} (h : atJ1 E aj v H) : aj < H.size := (Array.getElem?_eq_some_iff.mp (show H[aj]? = some _ from h)).1
theorem atD1.lt {E : zE} {aj : Nat} {v : UInt64} {H : Heap} (h : atD1 E aj v H) : aj < H.size := (Array.getElem?_eq_some_iff.mp (show H[aj]? = some _ from h)).1
theorem wn_other {D : va_G} {cl : List vw_C} {n aj : Nat} {ad : Nat → Nat} {d : Nat → va_E} {H H1 : Heap} (hP : va_P D cl (wn n ad d) H) (ho : ∀ q : Nat, q ≠ aj → H1[q]? = H[q]?) (hn : ¬ aX n ad aj) : va_P D cl (wn n ad d) H1 := hP.kept fun k q hk => by
  obtain ⟨h1, rfl⟩ := wn_of hk
  exact ho _ fun e => hn ⟨k, h1, e.symm⟩
section LROWS
variable {p : Program} {l : Launch} {e : Env} {R : Room} {s : State} {m : MethodId} {args : Array Value} {below : List Frame} {meth : Method} {c : Code} {H : Heap} {locs : List Loc} {cells slots : Nat} {Q : State → Prop}
variable {cc : ByteArray} {pc : Nat} {ls : Array Slot} {rest : List Value} {E : zE} {A : Nat → Prop} {H0 : Heap} {aj : Nat}
theorem z_last1 (hx : p.tables.exec = Jvm.exec) (hb : c.code = cc) (hK : zK E s) {v x : Int64} (hat : atJ1 E aj v H) (hA : A aj) (hS : va_S A H0 H locs) (hdg : decode cc pc = .ok (.lastore, 1))
    (kk : ∀ (H1 : Heap) (locs1 : List Loc), atJ1 E aj x H1 → (∀ q : Nat, q ≠ aj → H1[q]? = H[q]?) → va_S A H0 H1 locs1 → W p l e R s m args below meth c H1 locs1 cells slots Q (F0 m (pc + 1) ls rest)) : W p l e R s m args below meth c H locs cells slots Q (F0 m pc ls (.long x :: .int (nI 0) :: .ref aj :: rest)) := by
  refine W.last hx hb (show H[aj]? = some (vp_cell (eJ E) (1, .inr (.inl fun _ => v))) from hat) ((hK.2 5 _ rfl).1 1 (fun _ => .long v)) (fun q => by cases q) (by show ¬ (nI 0 < 0 ∨ (arrV _ _ _).slots.size ≤ _); rw [arrV_size]; exact vp_in_nI (n := 0) (N := 1) (by decide) (by decide)) rfl rfl hdg fun H1 e z oq => ?_
  refine kk H1 _ ?_ oq (hS.put z oq hA)
  show H1[aj]? = some (vp_cell (eJ E) (1, .inr (.inl fun _ => x)))
  rw [e, vp_cell_l, vp_cell_l, arrV_store]
  refine congrArg some (arrV_congr fun j hj => ?_)
  obtain rfl : j = 0 := by omega
  simp [updV, nI_clamp]
theorem z_dast1 (hx : p.tables.exec = Jvm.exec) (hb : c.code = cc) (hK : zK E s) {v x : UInt64} (hat : atD1 E aj v H) (hA : A aj) (hS : va_S A H0 H locs) (hdg : decode cc pc = .ok (.dastore, 1))
    (kk : ∀ (H1 : Heap) (locs1 : List Loc), atD1 E aj x H1 → (∀ q : Nat, q ≠ aj → H1[q]? = H[q]?) → va_S A H0 H1 locs1 → W p l e R s m args below meth c H1 locs1 cells slots Q (F0 m (pc + 1) ls rest)) : W p l e R s m args below meth c H locs cells slots Q (F0 m pc ls (.double x :: .int (nI 0) :: .ref aj :: rest)) := by
  refine W.dast hx hb (show H[aj]? = some (vp_cell (eD E) (1, .inr (.inr (.inr (.inl fun _ => v))))) from hat) ((hK.2 2 _ rfl).1 1 (fun _ => .double v)) (fun q => by cases q) (by show ¬ (nI 0 < 0 ∨ (arrV _ _ _).slots.size ≤ _); rw [arrV_size]; exact vp_in_nI (n := 0) (N := 1) (by decide) (by decide)) rfl rfl hdg fun H1 e z oq => ?_
  refine kk H1 _ ?_ oq (hS.put z oq hA)
  show H1[aj]? = some (vp_cell (eD E) (1, .inr (.inr (.inr (.inl fun _ => x)))))
  rw [e, vp_cell_d, vp_cell_d, arrV_store]
  refine congrArg some (arrV_congr fun j hj => ?_)
  obtain rfl : j = 0 := by omega
  simp [updV, nI_clamp]
end LROWS
/-- the two classes are caught as themselves -/
def zCs (U : State) : Prop := va_Nw (.castable RJx00060 RJx00060) U ∧ va_Nw (.castable "java/lang/ArithmeticException" "java/lang/ArithmeticException") U
theorem zCs.same {U V : State} (h : zCs U) (h1 : U.vm = V.vm) : zCs V := ⟨va_Nw.same rfl h1 h.1, va_Nw.same rfl h1 h.2⟩
theorem zCs.warm {s U : State} (h : zCs s) (hW : s.WarmedH U.vm) : zCs U := ⟨va_Nw.warmC hW h.1, va_Nw.warmC hW h.2⟩
theorem wsV_app {big ws at9 : List Cond} {o C : String} {i : Nat} {y : MethodName} (h : GoodIn big (wsV o i C y ws)) (h2 : GoodIn big at9) : GoodIn big (wsV o i C y (ws ++ at9)) := by
  unfold wsV at *
  rw [← List.append_assoc]
  exact goodIn_app h h2
theorem atIg_in {big : List Cond} (h : ∀ w ∈ atIg, w ∈ big) : GoodIn big atIg := fun w hw => ⟨h w hw, good_of_word (List.mem_filter.mp hw).2⟩
def wtL_feature : List Cond := wsL_feature ++ (.classLink RL 13 RJx00060 :: atIg)
def wtL_sign : List Cond := wsL_sign ++ (.classLink RL 13 RJx00060 :: atIg)
def wtL_weight : List Cond := wsL_weight ++ (.classLink RL 13 RJx00060 :: atIg)
theorem gtL_feature_X0_feature : GoodIn wtL_feature (wsV RL 7 RX0 yX0_feature wtX0_feature) := wsV_app (goodIn_mono (fun w h => List.mem_append_left _ h) gL_feature_X0_feature) (atIg_in fun w h => List.mem_append_right _ (List.mem_cons_of_mem _ h))
theorem gtL_sign_X0_sign : GoodIn wtL_sign (wsV RL 21 RX0 yX0_sign wtX0_sign) := wsV_app (goodIn_mono (fun w h => List.mem_append_left _ h) gL_sign_X0_sign) (atIg_in fun w h => List.mem_append_right _ (List.mem_cons_of_mem _ h))
theorem gtL_weight_X0_weight : GoodIn wtL_weight (wsV RL 25 RX0 yX0_weight wtX0_weight) := wsV_app (goodIn_mono (fun w h => List.mem_append_left _ h) gL_weight_X0_weight) (atIg_in fun w h => List.mem_append_right _ (List.mem_cons_of_mem _ h))
def ftR (κ : SX) (x y z r : Int32) (κ' : SX) : Prop := (r = nI 0 ∧ ftP κ x y z κ') ∨ (r = nI 1 ∧ ftX κ x y ∧ κ' = κ)
def sgR (κ : SX) (x z r : Int32) (κ' : SX) : Prop := (r = nI 0 ∧ sgP κ x z κ') ∨ (r = nI 1 ∧ sgX κ x ∧ κ' = κ)
def wtR (κ : SX) (x y : Int32) (v0 : UInt64) (r : Int32) (v : UInt64) : Prop := (r = nI 0 ∧ wtP κ x y v) ∨ (r = nI 1 ∧ wtX κ x y ∧ v = v0)
def mkR (κ : SX) (x : Int32) (v0 : Int64) (r : Int32) (κ' : SX) (v : Int64) : Prop := (r = nI 0 ∧ ∃ z : Int32, mkP κ x z κ' ∧ v = z.toInt64) ∨ (r = nI 1 ∧ mkT κ x ∧ κ' = κ ∧ v = v0)
/-- the script's first int, 0 where there is none -/
def cl0 (L : Nat) (xs : Nat → Int32) : Int32 := if 0 < L then xs 0 else nI 0
set_option maxHeartbeats 4000000 in
set_option maxRecDepth 100000 in
theorem kL_cell (l : Launch) (b L : Nat) (xs : Nat → Int32) (hL : L < 2 ^ 31) : Met l yL_cell wsL_cell ({ frames := 0, cells := 0, slots := 0, locals := 0 }) (va_Pc [.ref b, .int (nI 0)] (fun U => va_X b L xs U U.heap ∧ b < U.heap.size)) (va_Qi (fun (r : Int32) (_ : Unit) => r = cl0 L xs) (fun _ _ => True) (fun _ => False)) 0 0 (fun _ => False) := by
  refine Met.ofW (cc := cL_cell) (maxL := 2) (ret := some .int) (by decide) rfl ?_
  intro p e s m args below meth c s₁ B hml hv
  obtain ⟨rfl, hX, hbl⟩ := hv
  have hx := B.exec
  have hb := B.bytes
  have hr := B.returns
  have hlocks := B.notSynchronized
  have hS : va_S (fun _ => False) s.heap s.heap [] := va_S.rf
  have hl := lv_entry ([.ref b, .int (nI 0)]) (n := 2) (Nat.le_of_ble_eq_true rfl)
  rw [lg_entry_eq]
  generalize (lg_sl ([.ref b, .int (nI 0)]) ++ List.replicate (2 - (lg_sl ([.ref b, .int (nI 0)])).length) Slot.unset).toArray = ls at hl ⊢
  have hl : lv_has ls 2 [(0, .ref b), (1, .int (nI 0))] := hl
  refine lv_iload_n hx hb dL_cell_0 rfl (lv_at hl 1 rfl) ?_
  refine lv_aload_n hx hb dL_cell_1 rfl (lv_at hl 0 rfl) ?_
  refine va_slen hx hb hX hbl not_false hS dL_cell_2 ?_
  refine zb_ge (tgt := 12) (a := 0) (b := L) hx hb (by decide) hL dL_cell_3 (by decide) (fun h => ?_) (fun h => ?_)
  · refine lv_iconst (v := nI 0) hx hb dL_cell_12 (by decide +kernel) ?_
    exact W.iret hx hb hr (fun t ht hW => ⟨⟨_, (), rfl, (if_neg (show ¬ 0 < L by omega)).symm, trivial⟩, hS.F ht⟩) hS.2.2 dL_cell_13
  · refine lv_aload_n hx hb dL_cell_6 rfl (lv_at hl 0 rfl) ?_
    refine lv_iload_n hx hb dL_cell_7 rfl (lv_at hl 1 rfl) ?_
    refine va_sld hx hb hX hbl not_false hS (vp_in_nI h hL) dL_cell_8 ?_
    rw [nI_clamp (by decide)]
    refine lv_goto (tgt := 13) hx hb dL_cell_9 (by decide) ?_
    exact W.iret hx hb hr (fun t ht hW => ⟨⟨_, (), rfl, (if_pos h).symm, trivial⟩, hS.F ht⟩) hS.2.2 dL_cell_13
set_option maxHeartbeats 4000000 in
set_option maxRecDepth 100000 in
theorem kL_feature (l : Launch) (hst9 : l.stackTraces = false) (E : zE) (ad : Nat → Nat) (hap : apart 96 ad) (κ : SX) (x y z : Int32) (hF : xF κ ≤ 16) (hN : xN κ ≤ 40) : Met l yL_feature wtL_feature ({ frames := 8, cells := 1, slots := 6, locals := 118 }) (va_Pc [.ref (ad 0), .int (x), .int (y), .int (z)] (fun U => PX E ad κ U.heap ∧ zK E U ∧ zTh (aX 96 ad) U ∧ zCs U)) (va_Qi (fun (r : Int32) (κ' : SX) => ftR κ x y z r κ') (fun κ' t => PX E ad κ' t.heap) (aX 96 ad)) 1 6 (aX 96 ad) := by
  refine va_MetW (cc := cL_feature) (maxL := 5) (ret := some .int) (by decide) rfl ?_
  intro p e s m args below meth c s₁ B hml hv
  obtain ⟨rfl, hP, hK, hT9, hC9⟩ := hv
  have hx := B.exec
  have hb := B.bytes
  have hr := B.returns
  have hts := atoms_spec (ws := wtL_feature) B.pre
  have hTab := vx_table (x := yL_feature) B (hts (.codeWith yL_feature cL_feature 5 (some .int) [(0, 7, 10, 13)]) (List.mem_append_left _ List.mem_cons_self))
  have hown : s.vm.findClass RL = some m.cls := findClass_of_methodNamed B.named
  have hlocks := B.notSynchronized
  have hS : va_S (aX 96 ad) s.heap s.heap [] := va_S.rf
  have hl := lv_entry ([.ref (ad 0), .int (x), .int (y), .int (z)]) (n := 5) (Nat.le_of_ble_eq_true rfl)
  rw [lg_entry_eq]
  generalize (lg_sl ([.ref (ad 0), .int (x), .int (y), .int (z)]) ++ List.replicate (5 - (lg_sl ([.ref (ad 0), .int (x), .int (y), .int (z)])).length) Slot.unset).toArray = ls at hl ⊢
  have hl : lv_has ls 5 [(0, .ref (ad 0)), (1, .int (x)), (2, .int (y)), (3, .int (z))] := hl
  have hRf : 8 ≤ ((headSpec wtL_feature ({ frames := 8, cells := 1, slots := 6, locals := 118 })).room).frames := Nat.le_of_ble_eq_true rfl
  have hRl : 118 ≤ ((headSpec wtL_feature ({ frames := 8, cells := 1, slots := 6, locals := 118 })).room).locals := Nat.le_of_ble_eq_true rfl
  refine lv_aload_n hx hb dL_feature_0 rfl (lv_at hl 0 rfl) ?_
  refine lv_iload_n hx hb dL_feature_1 rfl (lv_at hl 1 rfl) ?_
  refine lv_iload_n hx hb dL_feature_2 rfl (lv_at hl 2 rfl) ?_
  refine lv_iload_n hx hb dL_feature_3 rfl (lv_at hl 3 rfl) ?_
  refine vx_callv (vx_runV (As := [.int (x), .int (y), .int (z)]) (rest := []) ⟨hx, hb, hml, hown, hts⟩ (kX0_feature l hst9 E ad hap κ x y z hF hN) (cwV 3 hts gtL_feature_X0_feature rfl rfl rfl (by decide +kernel) ⟨Nat.le_trans (Nat.le_of_ble_eq_true rfl) hRf, Nat.le_trans (Nat.le_of_ble_eq_true rfl) hRl⟩) (zpxT hK hP hT9 hS (fun q h => h)) rfl rfl hl.1 rfl (lv_room (Nat.le_of_ble_eq_true rfl)) dL_feature_4 ⟨Nat.le_of_ble_eq_true rfl, Nat.le_of_ble_eq_true rfl⟩) hS (fun q _ h => h) (fun q h => h) (fun q _ h => h) (fun E9 ce q9 u9 t9 H locs ht9 hvm9 hw9 hB9 hz9 hk9 hS hce hcv hcl => ?_) (fun κ9 t9 H locs ht9 hvm9 hw9 hB9 hz9 hk9 hS => ?_)
  · obtain ⟨rfl, hP⟩ := hB9
    rw [ht9] at hP
    refine vx_catch (own := RL) (name := RJx00060) (E := RJx00060) hown [] ⟨0, 7, 10, 13⟩ [] (by rw [hTab]; rfl) (fun z hz => nomatch hz) (by decide) (by decide) (hts (.classLink RL 13 RJx00060) (List.mem_append_right _ List.mem_cons_self)) (va_Nw.use rfl hC9.1) hce hcv hcl ?_
    refine lv_astore (lv' := [(4, .ref q9), (0, .ref (ad 0)), (1, .int (x)), (2, .int (y)), (3, .int (z))]) hx hb dL_feature_10 hl (by decide) rfl (fun ls hl => ?_)
    refine lv_iconst (v := nI 1) hx hb dL_feature_12 (by decide +kernel) ?_
    exact W.iret hx hb hr (fun t ht hW => ⟨⟨_, κ, rfl, Or.inr ⟨rfl, hw9, rfl⟩, (wn_h ht hP)⟩, hS.F ht⟩) hS.2.2 dL_feature_13
  · rw [ht9] at hB9
    have hP := hB9
    refine lv_goto (tgt := 14) hx hb dL_feature_7 (by decide) ?_
    refine lv_iconst (v := nI 0) hx hb dL_feature_14 (by decide +kernel) ?_
    exact W.iret hx hb hr (fun t ht hW => ⟨⟨_, κ9, rfl, Or.inl ⟨rfl, hw9⟩, (wn_h ht hP)⟩, hS.F ht⟩) hS.2.2 dL_feature_15
set_option maxHeartbeats 4000000 in
set_option maxRecDepth 100000 in
theorem kL_sign (l : Launch) (hst9 : l.stackTraces = false) (E : zE) (ad : Nat → Nat) (hap : apart 96 ad) (κ : SX) (x z : Int32) (hF : xF κ ≤ 16) : Met l yL_sign wtL_sign ({ frames := 8, cells := 1, slots := 6, locals := 118 }) (va_Pc [.ref (ad 0), .int (x), .int (z)] (fun U => PX E ad κ U.heap ∧ zK E U ∧ zTh (aX 96 ad) U ∧ zCs U)) (va_Qi (fun (r : Int32) (κ' : SX) => sgR κ x z r κ') (fun κ' t => PX E ad κ' t.heap) (aX 96 ad)) 1 6 (aX 96 ad) := by
  refine va_MetW (cc := cL_sign) (maxL := 4) (ret := some .int) (by decide) rfl ?_
  intro p e s m args below meth c s₁ B hml hv
  obtain ⟨rfl, hP, hK, hT9, hC9⟩ := hv
  have hx := B.exec
  have hb := B.bytes
  have hr := B.returns
  have hts := atoms_spec (ws := wtL_sign) B.pre
  have hTab := vx_table (x := yL_sign) B (hts (.codeWith yL_sign cL_sign 4 (some .int) [(0, 6, 9, 13)]) (List.mem_append_left _ List.mem_cons_self))
  have hown : s.vm.findClass RL = some m.cls := findClass_of_methodNamed B.named
  have hlocks := B.notSynchronized
  have hS : va_S (aX 96 ad) s.heap s.heap [] := va_S.rf
  have hl := lv_entry ([.ref (ad 0), .int (x), .int (z)]) (n := 4) (Nat.le_of_ble_eq_true rfl)
  rw [lg_entry_eq]
  generalize (lg_sl ([.ref (ad 0), .int (x), .int (z)]) ++ List.replicate (4 - (lg_sl ([.ref (ad 0), .int (x), .int (z)])).length) Slot.unset).toArray = ls at hl ⊢
  have hl : lv_has ls 4 [(0, .ref (ad 0)), (1, .int (x)), (2, .int (z))] := hl
  have hRf : 8 ≤ ((headSpec wtL_sign ({ frames := 8, cells := 1, slots := 6, locals := 118 })).room).frames := Nat.le_of_ble_eq_true rfl
  have hRl : 118 ≤ ((headSpec wtL_sign ({ frames := 8, cells := 1, slots := 6, locals := 118 })).room).locals := Nat.le_of_ble_eq_true rfl
  refine lv_aload_n hx hb dL_sign_0 rfl (lv_at hl 0 rfl) ?_
  refine lv_iload_n hx hb dL_sign_1 rfl (lv_at hl 1 rfl) ?_
  refine lv_iload_n hx hb dL_sign_2 rfl (lv_at hl 2 rfl) ?_
  refine vx_callv (vx_runV (As := [.int (x), .int (z)]) (rest := []) ⟨hx, hb, hml, hown, hts⟩ (kX0_sign l hst9 E ad hap κ x z hF) (cwV 2 hts gtL_sign_X0_sign rfl rfl rfl (by decide +kernel) ⟨Nat.le_trans (Nat.le_of_ble_eq_true rfl) hRf, Nat.le_trans (Nat.le_of_ble_eq_true rfl) hRl⟩) (zpxT hK hP hT9 hS (fun q h => h)) rfl rfl hl.1 rfl (lv_room (Nat.le_of_ble_eq_true rfl)) dL_sign_3 ⟨Nat.le_of_ble_eq_true rfl, Nat.le_of_ble_eq_true rfl⟩) hS (fun q _ h => h) (fun q h => h) (fun q _ h => h) (fun E9 ce q9 u9 t9 H locs ht9 hvm9 hw9 hB9 hz9 hk9 hS hce hcv hcl => ?_) (fun κ9 t9 H locs ht9 hvm9 hw9 hB9 hz9 hk9 hS => ?_)
  · obtain ⟨rfl, hP⟩ := hB9
    rw [ht9] at hP
    refine vx_catch (own := RL) (name := RJx00060) (E := RJx00060) hown [] ⟨0, 6, 9, 13⟩ [] (by rw [hTab]; rfl) (fun z hz => nomatch hz) (by decide) (by decide) (hts (.classLink RL 13 RJx00060) (List.mem_append_right _ List.mem_cons_self)) (va_Nw.use rfl hC9.1) hce hcv hcl ?_
    refine lv_astore_n (lv' := [(3, .ref q9), (0, .ref (ad 0)), (1, .int (x)), (2, .int (z))]) hx hb dL_sign_9 rfl hl (by decide) rfl (fun ls hl => ?_)
    refine lv_iconst (v := nI 1) hx hb dL_sign_10 (by decide +kernel) ?_
    exact W.iret hx hb hr (fun t ht hW => ⟨⟨_, κ, rfl, Or.inr ⟨rfl, hw9, rfl⟩, (wn_h ht hP)⟩, hS.F ht⟩) hS.2.2 dL_sign_11
  · rw [ht9] at hB9
    have hP := hB9
    refine lv_goto (tgt := 12) hx hb dL_sign_6 (by decide) ?_
    refine lv_iconst (v := nI 0) hx hb dL_sign_12 (by decide +kernel) ?_
    exact W.iret hx hb hr (fun t ht hW => ⟨⟨_, κ9, rfl, Or.inl ⟨rfl, hw9⟩, (wn_h ht hP)⟩, hS.F ht⟩) hS.2.2 dL_sign_13
set_option maxHeartbeats 4000000 in
set_option maxRecDepth 100000 in
theorem kL_weight (l : Launch) (hst9 : l.stackTraces = false) (E : zE) (ad : Nat → Nat) (hap : apart 96 ad) (κ : SX) (x y : Int32) (hF : xF κ ≤ 16) (aj : Nat) (hna : ¬ aX 96 ad aj) (v0 : UInt64) : Met l yL_weight wtL_weight ({ frames := 8, cells := 1, slots := 6, locals := 118 }) (va_Pc [.ref (ad 0), .int (x), .int (y), .ref aj] (fun U => PX E ad κ U.heap ∧ zK E U ∧ zTh (fun q => aX 96 ad q ∨ q = aj) U ∧ zCs U ∧ atD1 E aj v0 U.heap)) (va_Qi (fun (r : Int32) (v : UInt64) => wtR κ x y v0 r v) (fun v t => PX E ad κ t.heap ∧ atD1 E aj v t.heap) (fun q => aX 96 ad q ∨ q = aj)) 1 6 (fun q => aX 96 ad q ∨ q = aj) := by
  refine va_MetW (cc := cL_weight) (maxL := 5) (ret := some .int) (by decide) rfl ?_
  intro p e s m args below meth c s₁ B hml hv
  obtain ⟨rfl, hP, hK, hT9, hC9, hJ9⟩ := hv
  have hx := B.exec
  have hb := B.bytes
  have hr := B.returns
  have hts := atoms_spec (ws := wtL_weight) B.pre
  have hTab := vx_table (x := yL_weight) B (hts (.codeWith yL_weight cL_weight 5 (some .int) [(0, 9, 12, 13)]) (List.mem_append_left _ List.mem_cons_self))
  have hown : s.vm.findClass RL = some m.cls := findClass_of_methodNamed B.named
  have hlocks := B.notSynchronized
  have hS : va_S (fun q => aX 96 ad q ∨ q = aj) s.heap s.heap [] := va_S.rf
  have hl := lv_entry ([.ref (ad 0), .int (x), .int (y), .ref aj]) (n := 5) (Nat.le_of_ble_eq_true rfl)
  rw [lg_entry_eq]
  generalize (lg_sl ([.ref (ad 0), .int (x), .int (y), .ref aj]) ++ List.replicate (5 - (lg_sl ([.ref (ad 0), .int (x), .int (y), .ref aj])).length) Slot.unset).toArray = ls at hl ⊢
  have hl : lv_has ls 5 [(0, .ref (ad 0)), (1, .int (x)), (2, .int (y)), (3, .ref aj)] := hl
  have hRf : 8 ≤ ((headSpec wtL_weight ({ frames := 8, cells := 1, slots := 6, locals := 118 })).room).frames := Nat.le_of_ble_eq_true rfl
  have hRl : 118 ≤ ((headSpec wtL_weight ({ frames := 8, cells := 1, slots := 6, locals := 118 })).room).locals := Nat.le_of_ble_eq_true rfl
  refine lv_aload_n hx hb dL_weight_0 rfl (lv_at hl 3 rfl) ?_
  refine lv_iconst (v := nI 0) hx hb dL_weight_1 (by decide +kernel) ?_
  refine lv_aload_n hx hb dL_weight_2 rfl (lv_at hl 0 rfl) ?_
  refine lv_iload_n hx hb dL_weight_3 rfl (lv_at hl 1 rfl) ?_
  refine lv_iload_n hx hb dL_weight_4 rfl (lv_at hl 2 rfl) ?_
  have hlt := hJ9.lt
  refine vx_calld (vx_runV (As := [.int (x), .int (y)]) (rest := [.int (nI 0), .ref aj]) ⟨hx, hb, hml, hown, hts⟩ (kX0_weight l hst9 E ad hap κ x y hF) (cwV 2 hts gtL_weight_X0_weight rfl rfl rfl (by decide +kernel) ⟨Nat.le_trans (Nat.le_of_ble_eq_true rfl) hRf, Nat.le_trans (Nat.le_of_ble_eq_true rfl) hRl⟩) (zpxT hK hP hT9 hS (fun q h => Or.inl h)) rfl rfl hl.1 rfl (lv_room (Nat.le_of_ble_eq_true rfl)) dL_weight_5 ⟨Nat.le_of_ble_eq_true rfl, Nat.le_of_ble_eq_true rfl⟩) hS (fun q _ h => Or.inl h) (fun q h => Or.inl h) (fun q _ h => Or.inl h) (fun E9 ce q9 u9 t9 H locs ht9 hvm9 hw9 hB9 hz9 hk9 hS hce hcv hcl => ?_) (fun r9 u9 t9 H locs ht9 hvm9 hw9 hB9 hz9 hk9 hS => ?_)
  · obtain ⟨rfl, hP⟩ := hB9
    rw [ht9] at hP
    have hJ9 := hJ9.kept (hk9 aj hlt hna)
    refine vx_catch (own := RL) (name := RJx00060) (E := RJx00060) hown [] ⟨0, 9, 12, 13⟩ [] (by rw [hTab]; rfl) (fun z hz => nomatch hz) (by decide) (by decide) (hts (.classLink RL 13 RJx00060) (List.mem_append_right _ List.mem_cons_self)) (va_Nw.use rfl hC9.1) hce hcv hcl ?_
    refine lv_astore (lv' := [(4, .ref q9), (0, .ref (ad 0)), (1, .int (x)), (2, .int (y)), (3, .ref aj)]) hx hb dL_weight_12 hl (by decide) rfl (fun ls hl => ?_)
    refine lv_iconst (v := nI 1) hx hb dL_weight_14 (by decide +kernel) ?_
    exact W.iret hx hb hr (fun t ht hW => ⟨⟨_, v0, rfl, Or.inr ⟨rfl, hw9, rfl⟩, (wn_h ht hP), by rw [ht]; exact hJ9⟩, hS.F ht⟩) hS.2.2 dL_weight_15
  · rw [ht9] at hB9
    have hP := hB9
    have hJ9 := hJ9.kept (hk9 aj hlt hna)
    refine z_dast1 hx hb hK hJ9 (Or.inr rfl) hS dL_weight_8 (fun H locs hJ9 ho9 hS => ?_)
    have hP := wn_other hP ho9 hna
    refine lv_goto (tgt := 16) hx hb dL_weight_9 (by decide) ?_
    refine lv_iconst (v := nI 0) hx hb dL_weight_16 (by decide +kernel) ?_
    exact W.iret hx hb hr (fun t ht hW => ⟨⟨_, r9, rfl, Or.inl ⟨rfl, hw9⟩, (wn_h ht hP), by rw [ht]; exact hJ9⟩, hS.F ht⟩) hS.2.2 dL_weight_17
set_option maxHeartbeats 4000000 in
set_option maxRecDepth 100000 in
theorem kL_make (l : Launch) (hst9 : l.stackTraces = false) (E : zE) (ad : Nat → Nat) (hap : apart 96 ad) (κ : SX) (x : Int32) (hF : xF κ ≤ 16) (hN : xN κ ≤ 40) (hec : ∀ e, xEc κ e < 16) (hev : ∀ e f, xEv κ e f < 256) (aj : Nat) (hna : ¬ aX 96 ad aj) (v0 : Int64) : Met l yL_make wsL_make ({ frames := 7, cells := 1, slots := 6, locals := 119 }) (va_Pc [.ref (ad 0), .int (x), .ref aj] (fun U => PX E ad κ U.heap ∧ zK E U ∧ zTh (fun q => aX 96 ad q ∨ q = aj) U ∧ zCs U ∧ atJ1 E aj v0 U.heap)) (va_Qi (fun (r : Int32) (u : SX × Int64) => mkR κ x v0 r u.1 u.2) (fun u t => PX E ad u.1 t.heap ∧ atJ1 E aj u.2 t.heap) (fun q => aX 96 ad q ∨ q = aj)) 1 6 (fun q => aX 96 ad q ∨ q = aj) := by
  refine va_MetW (cc := cL_make) (maxL := 4) (ret := some .int) (by decide) rfl ?_
  intro p e s m args below meth c s₁ B hml hv
  obtain ⟨rfl, hP, hK, hT9, hC9, hJ9⟩ := hv
  have hx := B.exec
  have hb := B.bytes
  have hr := B.returns
  have hts := atoms_spec (ws := wsL_make) B.pre
  have hTab := vx_table (x := yL_make) B (hts (.codeWith yL_make cL_make 4 (some .int) [(0, 9, 12, 19)]) List.mem_cons_self)
  have hown : s.vm.findClass RL = some m.cls := findClass_of_methodNamed B.named
  have hlocks := B.notSynchronized
  have hS : va_S (fun q => aX 96 ad q ∨ q = aj) s.heap s.heap [] := va_S.rf
  have hl := lv_entry ([.ref (ad 0), .int (x), .ref aj]) (n := 4) (Nat.le_of_ble_eq_true rfl)
  rw [lg_entry_eq]
  generalize (lg_sl ([.ref (ad 0), .int (x), .ref aj]) ++ List.replicate (4 - (lg_sl ([.ref (ad 0), .int (x), .ref aj])).length) Slot.unset).toArray = ls at hl ⊢
  have hl : lv_has ls 4 [(0, .ref (ad 0)), (1, .int (x)), (2, .ref aj)] := hl
  have hRf : 7 ≤ ((headSpec wsL_make ({ frames := 7, cells := 1, slots := 6, locals := 119 })).room).frames := Nat.le_of_ble_eq_true rfl
  have hRl : 119 ≤ ((headSpec wsL_make ({ frames := 7, cells := 1, slots := 6, locals := 119 })).room).locals := Nat.le_of_ble_eq_true rfl
  refine lv_aload_n hx hb dL_make_0 rfl (lv_at hl 2 rfl) ?_
  refine lv_iconst (v := nI 0) hx hb dL_make_1 (by decide +kernel) ?_
  refine lv_aload_n hx hb dL_make_2 rfl (lv_at hl 0 rfl) ?_
  refine lv_iload_n hx hb dL_make_3 rfl (lv_at hl 1 rfl) ?_
  have hlt := hJ9.lt
  refine vx_calli (vx_runV (As := [.int (x)]) (rest := [.int (nI 0), .ref aj]) ⟨hx, hb, hml, hown, hts⟩ (kX0_make l hst9 E ad hap κ x hF hN hec hev) (cwV 1 hts gL_make_X0_make rfl rfl rfl (by decide +kernel) ⟨Nat.le_trans (Nat.le_of_ble_eq_true rfl) hRf, Nat.le_trans (Nat.le_of_ble_eq_true rfl) hRl⟩) (zpxT hK hP hT9 hS (fun q h => Or.inl h)) rfl rfl hl.1 rfl (lv_room (Nat.le_of_ble_eq_true rfl)) dL_make_4 ⟨Nat.le_of_ble_eq_true rfl, Nat.le_of_ble_eq_true rfl⟩) hS (fun q _ h => Or.inl h) (fun q h => Or.inl h) (fun q _ h => Or.inl h) (fun E9 ce q9 u9 t9 H locs ht9 hvm9 hw9 hB9 hz9 hk9 hS hce hcv hcl => ?_) (fun r9 κ9 t9 H locs ht9 hvm9 hw9 hB9 hz9 hk9 hS => ?_)
  · obtain ⟨rfl, hP⟩ := hB9
    rw [ht9] at hP
    have hJ9 := hJ9.kept (hk9 aj hlt hna)
    refine vx_catch (own := RL) (name := "java/lang/ArithmeticException") (E := "java/lang/ArithmeticException") hown [] ⟨0, 9, 12, 19⟩ [] (by rw [hTab]; rfl) (fun z hz => nomatch hz) (by decide) (by decide) (hts (.classLink RL 19 "java/lang/ArithmeticException") (List.mem_cons_of_mem _ (List.mem_append_left _ (List.mem_append_left _ (List.mem_append_left _ List.mem_cons_self))))) (va_Nw.use rfl hC9.2) hce hcv hcl ?_
    refine lv_astore_n (lv' := [(3, .ref q9), (0, .ref (ad 0)), (1, .int (x)), (2, .ref aj)]) hx hb dL_make_12 rfl hl (by decide) rfl (fun ls hl => ?_)
    refine lv_iconst (v := nI 1) hx hb dL_make_13 (by decide +kernel) ?_
    exact W.iret hx hb hr (fun t ht hW => ⟨⟨_, (κ, v0), rfl, Or.inr ⟨rfl, hw9, rfl, rfl⟩, (wn_h ht hP), by rw [ht]; exact hJ9⟩, hS.F ht⟩) hS.2.2 dL_make_14
  · rw [ht9] at hB9
    have hP := hB9
    have hJ9 := hJ9.kept (hk9 aj hlt hna)
    refine lv_i2l (v := r9.toInt64) hx hb dL_make_7 rfl ?_
    refine z_last1 hx hb hK hJ9 (Or.inr rfl) hS dL_make_8 (fun H locs hJ9 ho9 hS => ?_)
    have hP := wn_other hP ho9 hna
    refine lv_goto (tgt := 15) hx hb dL_make_9 (by decide) ?_
    refine lv_iconst (v := nI 0) hx hb dL_make_15 (by decide +kernel) ?_
    exact W.iret hx hb hr (fun t ht hW => ⟨⟨_, (κ9, r9.toInt64), rfl, Or.inl ⟨rfl, r9, hw9, rfl⟩, (wn_h ht hP), by rw [ht]; exact hJ9⟩, hS.F ht⟩) hS.2.2 dL_make_16
