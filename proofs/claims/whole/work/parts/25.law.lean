/-! ===== the law's walk ===== -/
section LAWROWS
variable {p : Program} {l : Launch} {e : Env} {R : Room} {s : State} {m : MethodId} {args : Array Value} {below : List Frame} {meth : Method} {c : Code} {H : Heap} {locs : List Loc} {cells slots : Nat} {Q : State → Prop}
variable {cc : ByteArray} {pc : Nat} {ls : Array Slot} {rest : List Value} {A : Nat → Prop} {H0 : Heap}
theorem z_lcmp (hx : p.tables.exec = Jvm.exec) (hb : c.code = cc) {x : Int64} (hdg : decode cc pc = .ok (.lcmp, 1))
    (k : W p l e R s m args below meth c H locs cells slots Q (F0 m (pc + 1) ls (.int 0 :: rest))) : W p l e R s m args below meth c H locs cells slots Q (F0 m pc ls (.long x :: .long x :: rest)) := by
  have h1 : ¬ x > x := Int64.lt_irrefl
  have h2 : (x == x) = true := beq_self_eq_true x
  intro T hT X
  obtain ⟨t, a, b⟩ := k T hT X
  refine ⟨t, ?_, b⟩
  jvm_step X.here [X.here.top, hx, hb, hdg, h1, h2]
  exact a
theorem z_sld (hx : p.tables.exec = Jvm.exec) (hb : c.code = cc) {b L : Nat} {xs : Nat → Int32} (hX : va_X b L xs s H0) (hbl : b < H0.size) (hbA : ¬ A b) (hS : va_S A H0 H locs) {j : Nat} (hj : j < L) (hL : L < 2 ^ 31) (hdg : decode cc pc = .ok (.iaload, 1))
    (kk : W p l e R s m args below meth c H locs cells slots Q (F0 m (pc + 1) ls (.int (xs j) :: rest))) : W p l e R s m args below meth c H locs cells slots Q (F0 m pc ls (.int (nI j) :: .ref b :: rest)) := by
  refine va_sld hx hb hX hbl hbA hS (vp_in_nI hj hL) hdg ?_
  rw [nI_clamp (by omega)]
  exact kk
end LAWROWS
section LAWROWS2
variable {p : Program} {l : Launch} {e : Env} {R : Room} {s : State} {m : MethodId} {args : Array Value} {below : List Frame} {meth : Method} {c : Code} {H : Heap} {locs : List Loc} {cells slots : Nat} {Q : State → Prop}
variable {cc : ByteArray} {pc : Nat} {ls : Array Slot} {rest : List Value} {E : zE} {aj : Nat}
theorem z_lald1 (hx : p.tables.exec = Jvm.exec) (hb : c.code = cc) (hK : zK E s) {v : Int64} (hat : atJ1 E aj v H) (hdg : decode cc pc = .ok (.laload, 1))
    (kk : W p l e R s m args below meth c H locs cells slots Q (F0 m (pc + 1) ls (.long v :: rest))) : W p l e R s m args below meth c H locs cells slots Q (F0 m pc ls (.int (nI 0) :: .ref aj :: rest)) :=
  va_lald hx hb hK (va_one hat) 0 5 rfl rfl (vp_in_nI (n := 0) (N := 1) (by decide) (by decide)) hdg kk
theorem z_dald1 (hx : p.tables.exec = Jvm.exec) (hb : c.code = cc) (hK : zK E s) {v : UInt64} (hat : atD1 E aj v H) (hdg : decode cc pc = .ok (.daload, 1))
    (kk : W p l e R s m args below meth c H locs cells slots Q (F0 m (pc + 1) ls (.double v :: rest))) : W p l e R s m args below meth c H locs cells slots Q (F0 m pc ls (.int (nI 0) :: .ref aj :: rest)) :=
  va_dald hx hb hK (va_one hat) 0 2 rfl rfl (vp_in_nI (n := 0) (N := 1) (by decide) (by decide)) hdg kk
end LAWROWS2
/-- the addresses of the two objects and of the two arrays are new and apart -/
def Sep (n0 : Nat) (ax am : Nat → Nat) (aj aD : Nat) : Prop := apart 96 ax ∧ apart 8 am ∧ (∀ k, k < 96 → n0 ≤ ax k) ∧ (∀ k, k < 8 → n0 ≤ am k) ∧ n0 ≤ aj ∧ n0 ≤ aD ∧ (∀ k, k < 8 → ¬ aX 96 ax (am k)) ∧ (∀ k, k < 96 → ¬ aX 8 am (ax k)) ∧ ¬ aX 96 ax aj ∧ ¬ aX 96 ax aD ∧ ¬ aX 8 am aj ∧ ¬ aX 8 am aD ∧ aj ≠ aD ∧ (∀ k, k < 8 → am k ≠ aj) ∧ (∀ k, k < 8 → am k ≠ aD)
/-- what a step may write -/
theorem Sep.x {n0 aj aD : Nat} {ax am : Nat → Nat} (h : Sep n0 ax am aj aD) (q : Nat) (hq : aX 96 ax q) : n0 ≤ q := by
  obtain ⟨k, hk, rfl⟩ := hq
  exact h.2.2.1 k hk
theorem Sep.m {n0 aj aD : Nat} {ax am : Nat → Nat} (h : Sep n0 ax am aj aD) (q : Nat) (hq : aX 8 am q) : n0 ≤ q := by
  obtain ⟨k, hk, rfl⟩ := hq
  exact h.2.2.2.1 k hk
theorem Sep.xj {n0 aj aD : Nat} {ax am : Nat → Nat} (h : Sep n0 ax am aj aD) (q : Nat) (hq : aX 96 ax q ∨ q = aj) : n0 ≤ q := hq.elim (h.x q) (fun e => e ▸ h.2.2.2.2.1)
theorem Sep.xd {n0 aj aD : Nat} {ax am : Nat → Nat} (h : Sep n0 ax am aj aD) (q : Nat) (hq : aX 96 ax q ∨ q = aD) : n0 ≤ q := hq.elim (h.x q) (fun e => e ▸ h.2.2.2.2.2.1)
def Wd (E : zE) (ax am : Nat → Nat) (aj aD : Nat) (κ : SX) (τ : SM) (vj : Int64) (vd : UInt64) (H : Heap) : Prop := PX E ax κ H ∧ PM E am τ H ∧ atJ1 E aj vj H ∧ atD1 E aD vd H
theorem va_keep {D : va_G} {cl : List vw_C} {n : Nat} {ad : Nat → Nat} {d : Nat → va_E} {H H1 : Heap} {A1 : Nat → Prop} (hP : va_P D cl (wn n ad d) H) (hq : ∀ q : Nat, q < H.size → ¬ A1 q → H1[q]? = H[q]?) (hn : ∀ k, k < n → ¬ A1 (ad k)) : va_P D cl (wn n ad d) H1 := hP.kept fun k q hk => by
  have h9 := (hP k q hk).lt
  obtain ⟨h1, rfl⟩ := wn_of hk
  exact hq _ h9 (hn k h1)
section WDS
variable {E : zE} {ax am : Nat → Nat} {aj aD n0 : Nat} {κ κ' : SX} {τ τ' : SM} {vj vj' : Int64} {vd vd' : UInt64} {H H1 : Heap}
theorem Wd.ro (h : Wd E ax am aj aD κ τ vj vd H) (hk : ∀ q : Nat, q < H.size → ¬ False → H1[q]? = H[q]?) : Wd E ax am aj aD κ τ vj vd H1 :=
  ⟨wn_ro h.1 hk, wn_ro h.2.1 hk, h.2.2.1.kept (hk aj h.2.2.1.lt not_false), h.2.2.2.kept (hk aD h.2.2.2.lt not_false)⟩
theorem Wd.x (h : Wd E ax am aj aD κ τ vj vd H) (hs : Sep n0 ax am aj aD) (hp : PX E ax κ' H1) (hk : ∀ q : Nat, q < H.size → ¬ aX 96 ax q → H1[q]? = H[q]?) : Wd E ax am aj aD κ' τ vj vd H1 := by
  obtain ⟨-, -, -, -, -, -, s1, -, s2, s3, -⟩ := hs
  exact ⟨hp, va_keep h.2.1 hk s1, h.2.2.1.kept (hk aj h.2.2.1.lt s2), h.2.2.2.kept (hk aD h.2.2.2.lt s3)⟩
theorem Wd.m (h : Wd E ax am aj aD κ τ vj vd H) (hs : Sep n0 ax am aj aD) (hp : PM E am τ' H1) (hk : ∀ q : Nat, q < H.size → ¬ aX 8 am q → H1[q]? = H[q]?) : Wd E ax am aj aD κ τ' vj vd H1 := by
  obtain ⟨-, -, -, -, -, -, -, s1, -, -, s2, s3, -⟩ := hs
  exact ⟨va_keep h.1 hk s1, hp, h.2.2.1.kept (hk aj h.2.2.1.lt s2), h.2.2.2.kept (hk aD h.2.2.2.lt s3)⟩
theorem Wd.xj (h : Wd E ax am aj aD κ τ vj vd H) (hs : Sep n0 ax am aj aD) (hp : PX E ax κ' H1 ∧ atJ1 E aj vj' H1) (hk : ∀ q : Nat, q < H.size → ¬ (aX 96 ax q ∨ q = aj) → H1[q]? = H[q]?) : Wd E ax am aj aD κ' τ vj' vd H1 := by
  obtain ⟨-, -, -, -, -, -, s1, -, -, s3, -, -, s4, s5, -⟩ := hs
  exact ⟨hp.1, va_keep h.2.1 hk (fun k hk9 q => q.elim (s1 k hk9) (s5 k hk9)), hp.2, h.2.2.2.kept (hk aD h.2.2.2.lt (fun q => q.elim s3 (fun e => s4 e.symm)))⟩
theorem Wd.xd (h : Wd E ax am aj aD κ τ vj vd H) (hs : Sep n0 ax am aj aD) (hp : PX E ax κ' H1 ∧ atD1 E aD vd' H1) (hk : ∀ q : Nat, q < H.size → ¬ (aX 96 ax q ∨ q = aD) → H1[q]? = H[q]?) : Wd E ax am aj aD κ' τ vj vd' H1 := by
  obtain ⟨-, -, -, -, -, -, s1, -, s3, -, -, -, s4, -, s5⟩ := hs
  exact ⟨hp.1, va_keep h.2.1 hk (fun k hk9 q => q.elim (s1 k hk9) (s5 k hk9)), h.2.2.1.kept (hk aj h.2.2.1.lt (fun q => q.elim s3 s4)), hp.2⟩
end WDS
theorem va_S.toS {A : Nat → Prop} {H0 H : Heap} {locs : List Loc} (h : va_S A H0 H locs) : va_S A H0 H locs := h
theorem vaS_app {big ws at9 : List Cond} {o : String} {i : Nat} {y : MethodName} (h : GoodIn big (va_wsS o i y ws)) (h2 : GoodIn big at9) : GoodIn big (va_wsS o i y (ws ++ at9)) := by
  unfold va_wsS at *
  rw [← List.append_assoc]
  exact goodIn_app h h2
theorem lwT_at : GoodIn lw_tbl (Cond.classLink RL 13 RJx00060 :: atIg) := goodIn_sub (by decide +kernel) (by decide +kernel)
theorem glL_feature : GoodIn lw_tbl (va_wsS RL 45 yL_feature wtL_feature) := vaS_app (goodIn_mono wsL_law_in gL_law_L_feature) lwT_at
theorem glL_sign : GoodIn lw_tbl (va_wsS RL 57 yL_sign wtL_sign) := vaS_app (goodIn_mono wsL_law_in gL_law_L_sign) lwT_at
theorem glL_weight : GoodIn lw_tbl (va_wsS RL 70 yL_weight wtL_weight) := vaS_app (goodIn_mono wsL_law_in gL_law_L_weight) lwT_at
theorem glL_make : GoodIn lw_tbl (va_wsS RL 53 yL_make wsL_make) := goodIn_mono wsL_law_in gL_law_L_make
theorem glX0_example : GoodIn lw_tbl (wsV RL 41 RX0 yX0_example wsX0_example) := goodIn_mono wsL_law_in gL_law_X0_example
theorem glX1_example : GoodIn lw_tbl (wsV RL 44 RX1 yX1_example wsX1_example) := goodIn_mono wsL_law_in gL_law_X1_example
theorem glX1_feature : GoodIn lw_tbl (wsV RL 48 RX1 yX1_feature wsX1_feature) := goodIn_mono wsL_law_in gL_law_X1_feature
theorem glX1_thrown : GoodIn lw_tbl (wsV RL 49 RX1 yX1_thrown wsX1_thrown) := goodIn_mono wsL_law_in gL_law_X1_thrown
theorem glX1_make : GoodIn lw_tbl (wsV RL 56 RX1 yX1_make wsX1_make) := goodIn_mono wsL_law_in gL_law_X1_make
theorem glX1_sign : GoodIn lw_tbl (wsV RL 60 RX1 yX1_sign wsX1_sign) := goodIn_mono wsL_law_in gL_law_X1_sign
theorem glX0_tell : GoodIn lw_tbl (wsV RL 61 RX0 yX0_tell wsX0_tell) := goodIn_mono wsL_law_in gL_law_X0_tell
theorem glX1_tell : GoodIn lw_tbl (wsV RL 64 RX1 yX1_tell wsX1_tell) := goodIn_mono wsL_law_in gL_law_X1_tell
theorem glX0_distance : GoodIn lw_tbl (wsV RL 65 RX0 yX0_distance wsX0_distance) := goodIn_mono wsL_law_in gL_law_X0_distance
theorem glX1_distance : GoodIn lw_tbl (wsV RL 69 RX1 yX1_distance wsX1_distance) := goodIn_mono wsL_law_in gL_law_X1_distance
theorem glX1_weight : GoodIn lw_tbl (wsV RL 73 RX1 yX1_weight wsX1_weight) := goodIn_mono wsL_law_in gL_law_X1_weight
theorem glX0_confused : GoodIn lw_tbl (wsV RL 74 RX0 yX0_confused wsX0_confused) := goodIn_mono wsL_law_in gL_law_X0_confused
theorem glX1_confused : GoodIn lw_tbl (wsV RL 78 RX1 yX1_confused wsX1_confused) := goodIn_mono wsL_law_in gL_law_X1_confused
theorem glX0_margin : GoodIn lw_tbl (wsV RL 79 RX0 yX0_margin wsX0_margin) := goodIn_mono wsL_law_in gL_law_X0_margin
theorem glX1_margin : GoodIn lw_tbl (wsV RL 82 RX1 yX1_margin wsX1_margin) := goodIn_mono wsL_law_in gL_law_X1_margin
theorem glX0_clear : GoodIn lw_tbl (wsV RL 83 RX0 yX0_clear wsX0_clear) := goodIn_mono wsL_law_in gL_law_X0_clear
theorem glX1_clear : GoodIn lw_tbl (wsV RL 86 RX1 yX1_clear wsX1_clear) := goodIn_mono wsL_law_in gL_law_X1_clear
/-- what a caught call is handed -/
theorem zpsT {s : State} {H : Heap} {E : zE} {ax : Nat → Nat} {κ : SX} {As : List Value} {A B : Nat → Prop} {locs : List Loc} (hK : zK E s) (hP : PX E ax κ H) (hT : zTh B s) (hC : zCs s) (hS : va_S B s.heap H locs) (hAB : ∀ q, A q → B q) : PreS s H (va_Pc As (fun U => PX E ax κ U.heap ∧ zK E U ∧ zTh A U ∧ zCs U)) As :=
  ⟨fun _ U _ _ h => ⟨h.1, h.2.1, va_K.moved (Vm.Alike.refl U.vm) h.2.2.1, h.2.2.2.1.same rfl rfl, h.2.2.2.2.same rfl⟩, fun U hU hW => ⟨rfl, by rw [hU]; exact hP, va_K.moved hW.alike hK, hT.go hW hU hS hAB, hC.warm hW⟩⟩
theorem zpsJ {s : State} {H : Heap} {E : zE} {ax : Nat → Nat} {κ : SX} {As : List Value} {A B : Nat → Prop} {locs : List Loc} {aj : Nat} {v : Int64} (hK : zK E s) (hP : PX E ax κ H) (hT : zTh B s) (hC : zCs s) (hJ : atJ1 E aj v H) (hS : va_S B s.heap H locs) (hAB : ∀ q, A q → B q) : PreS s H (va_Pc As (fun U => PX E ax κ U.heap ∧ zK E U ∧ zTh A U ∧ zCs U ∧ atJ1 E aj v U.heap)) As :=
  ⟨fun _ U _ _ h => ⟨h.1, h.2.1, va_K.moved (Vm.Alike.refl U.vm) h.2.2.1, h.2.2.2.1.same rfl rfl, h.2.2.2.2.1.same rfl, h.2.2.2.2.2⟩, fun U hU hW => ⟨rfl, by rw [hU]; exact hP, va_K.moved hW.alike hK, hT.go hW hU hS hAB, hC.warm hW, by rw [hU]; exact hJ⟩⟩
theorem zpsD {s : State} {H : Heap} {E : zE} {ax : Nat → Nat} {κ : SX} {As : List Value} {A B : Nat → Prop} {locs : List Loc} {aj : Nat} {v : UInt64} (hK : zK E s) (hP : PX E ax κ H) (hT : zTh B s) (hC : zCs s) (hJ : atD1 E aj v H) (hS : va_S B s.heap H locs) (hAB : ∀ q, A q → B q) : PreS s H (va_Pc As (fun U => PX E ax κ U.heap ∧ zK E U ∧ zTh A U ∧ zCs U ∧ atD1 E aj v U.heap)) As :=
  ⟨fun _ U _ _ h => ⟨h.1, h.2.1, va_K.moved (Vm.Alike.refl U.vm) h.2.2.1, h.2.2.2.1.same rfl rfl, h.2.2.2.2.1.same rfl, h.2.2.2.2.2⟩, fun U hU hW => ⟨rfl, by rw [hU]; exact hP, va_K.moved hW.alike hK, hT.go hW hU hS hAB, hC.warm hW, by rw [hU]; exact hJ⟩⟩
set_option maxHeartbeats 4000000 in
set_option maxRecDepth 100000 in
theorem lwc_0 {p : Program} {l : Launch} {e : Env} {s : State} {m : MethodId} {args : Array Value} {below : List Frame} {meth : Method} {c : Code} {Q : State → Prop} {b L i aj aD cells slots : Nat} {xs : Nat → Int32} {E : zE} {ax am : Nat → Nat} (hx : p.tables.exec = Jvm.exec) (hb : c.code = cL_law) (hml : c.maxLocals = 9) (hown : s.vm.findClass RL = some m.cls) (hts : ∀ w ∈ lw_tbl, w.before args s = true) (hX : va_X b L xs s s.heap) (hbl : b < s.heap.size) (hL : L ≤ 2049) (hst9 : l.stackTraces = false) (hK : zK E s) (hT9 : zTh (fun q => s.heap.size ≤ q) s) (hC9 : zCs s) (hs : Sep s.heap.size ax am aj aD) (hi : i + 3 < L) (hc : cells + 1 ≤ 601024) (hsl : slots + 6 ≤ 7293000) {κ : SX} {τ : SM} {vj : Int64} {vd : UInt64} {H : Heap} {locs : List Loc} {ls : Array Slot} (hW : Wd E ax am aj aD κ τ vj vd H) (hT : Tie κ τ) (hS : va_S (fun q => s.heap.size ≤ q) s.heap H locs) (hl : lv_has ls 9 [(1, .ref (ax 0)), (2, .ref (am 0)), (3, .ref (aj)), (4, .ref (aD)), (5, .int (nI (i))), (0, .ref (b))])
    (k : ∀ (κ : SX) (τ : SM) (vj : Int64) (vd : UInt64) (H : Heap) (locs : List Loc) (ls : Array Slot), Wd E ax am aj aD κ τ vj vd H → Tie κ τ → va_S (fun q => s.heap.size ≤ q) s.heap H locs → lv_has ls 9 [(1, .ref (ax 0)), (2, .ref (am 0)), (3, .ref (aj)), (4, .ref (aD)), (5, .int (nI (i))), (0, .ref (b))] → W p l e room_1 s m args below meth c H locs (cells + 1) (slots + 6) Q (F0 m 512 ls [])) : W p l e room_1 s m args below meth c H locs cells slots Q (F0 m 108 ls []) := by
  refine lv_aload_n hx hb dL_law_108 rfl (lv_at hl 0 rfl) ?_
  refine lv_aload_n hx hb dL_law_109 rfl (lv_at hl 5 rfl) ?_
  refine lv_iload hx hb dL_law_110 (lv_at hl 4 rfl) ?_
  refine lv_iconst (v := nI 1) hx hb dL_law_112 (by decide +kernel) ?_
  refine zv_iadd (v := (nI (i + 1))) hx hb dL_law_113 (nI_add _ _) ?_
  refine z_sld hx hb hX hbl (Nat.not_le.mpr hbl) hS (show i + 1 < L by omega) (show L < 2 ^ 31 by omega) dL_law_114 ?_
  refine va_calli (va_runV (As := [.int (xs (i + 1))]) (rest := []) ⟨hx, hb, hml, hown, hts⟩ (kX0_example l E ax hs.1 κ (xs (i + 1)) hT.2.1.1.2.1 hT.2.1.1.2.2.1) (cwV 1 hts glX0_example rfl rfl rfl (by decide +kernel) ⟨Nat.le_of_ble_eq_true rfl, Nat.le_of_ble_eq_true rfl⟩) (zpx hK hW.1) rfl rfl hl.1 rfl (lv_room (Nat.le_of_ble_eq_true rfl)) dL_law_115 ⟨by show _ ≤ 601024; omega, by show _ ≤ 7293000; omega⟩) hS (fun q _ h => hs.x q h) (fun q h => hs.x q h) (fun r1 κ9 t9 H locs ht9 hvm9 hw9 hB9 hz9 hk9 hS => ?_)
  rw [ht9] at hB9
  replace hW := hW.x hs hB9 hk9
  have hp := hw9
  clear hw9
  refine lv_aload_n hx hb dL_law_118 rfl (lv_at hl 1 rfl) ?_
  refine lv_aload_n hx hb dL_law_119 rfl (lv_at hl 5 rfl) ?_
  refine lv_iload hx hb dL_law_120 (lv_at hl 4 rfl) ?_
  refine lv_iconst (v := nI 1) hx hb dL_law_122 (by decide +kernel) ?_
  refine zv_iadd (v := (nI (i + 1))) hx hb dL_law_123 (nI_add _ _) ?_
  refine z_sld hx hb hX hbl (Nat.not_le.mpr hbl) hS (show i + 1 < L by omega) (show L < 2 ^ 31 by omega) dL_law_124 ?_
  refine va_calli (va_runV (As := [.int (xs (i + 1))]) (rest := [.int (r1)]) ⟨hx, hb, hml, hown, hts⟩ (kX1_example l E am hs.2.1 τ (xs (i + 1)) (tie_mN hT)) (cwV 1 hts glX1_example rfl rfl rfl (by decide +kernel) ⟨Nat.le_of_ble_eq_true rfl, Nat.le_of_ble_eq_true rfl⟩) (zpm hK hW.2.1) rfl rfl hl.1 rfl (lv_room (Nat.le_of_ble_eq_true rfl)) dL_law_125 ⟨by show _ ≤ 601024; omega, by show _ ≤ 7293000; omega⟩) hS (fun q _ h => hs.m q h) (fun q h => hs.m q h) (fun r2 τ9 t9 H locs ht9 hvm9 hw9 hB9 hz9 hk9 hS => ?_)
  rw [ht9] at hB9
  replace hW := hW.m hs hB9 hk9
  obtain ⟨hE, hT⟩ := tie_example hT hp hw9
  refine lv_icmp_eq (tgt := 512) hx hb dL_law_128 (by decide) (fun _ => ?_) (fun h => absurd hE h)
  exact W.widen (k := cells + 1) (n := slots + 6) (by omega) (by omega) (k _ _ _ _ _ _ _ hW hT (va_S.toS hS) (lv_sub hl [0, 1, 2, 3, 4, 5] rfl))
set_option maxHeartbeats 4000000 in
set_option maxRecDepth 100000 in
theorem lwc_1 {p : Program} {l : Launch} {e : Env} {s : State} {m : MethodId} {args : Array Value} {below : List Frame} {meth : Method} {c : Code} {Q : State → Prop} {b L i aj aD cells slots : Nat} {xs : Nat → Int32} {E : zE} {ax am : Nat → Nat} (hx : p.tables.exec = Jvm.exec) (hb : c.code = cL_law) (hml : c.maxLocals = 9) (hown : s.vm.findClass RL = some m.cls) (hts : ∀ w ∈ lw_tbl, w.before args s = true) (hX : va_X b L xs s s.heap) (hbl : b < s.heap.size) (hL : L ≤ 2049) (hst9 : l.stackTraces = false) (hK : zK E s) (hT9 : zTh (fun q => s.heap.size ≤ q) s) (hC9 : zCs s) (hs : Sep s.heap.size ax am aj aD) (hi : i + 3 < L) (hc : cells + 1 ≤ 601024) (hsl : slots + 6 ≤ 7293000) {κ : SX} {τ : SM} {vj : Int64} {vd : UInt64} {H : Heap} {locs : List Loc} {ls : Array Slot} (hW : Wd E ax am aj aD κ τ vj vd H) (hT : Tie κ τ) (hS : va_S (fun q => s.heap.size ≤ q) s.heap H locs) (hl : lv_has ls 9 [(1, .ref (ax 0)), (2, .ref (am 0)), (3, .ref (aj)), (4, .ref (aD)), (5, .int (nI (i))), (0, .ref (b))])
    (k : ∀ (κ : SX) (τ : SM) (vj : Int64) (vd : UInt64) (H : Heap) (locs : List Loc) (ls : Array Slot), Wd E ax am aj aD κ τ vj vd H → Tie κ τ → va_S (fun q => s.heap.size ≤ q) s.heap H locs → lv_has ls 9 [(1, .ref (ax 0)), (2, .ref (am 0)), (3, .ref (aj)), (4, .ref (aD)), (5, .int (nI (i))), (0, .ref (b))] → W p l e room_1 s m args below meth c H locs (cells + 1) (slots + 6) Q (F0 m 512 ls [])) : W p l e room_1 s m args below meth c H locs cells slots Q (F0 m 133 ls []) := by
  refine lv_aload_n hx hb dL_law_133 rfl (lv_at hl 0 rfl) ?_
  refine lv_aload_n hx hb dL_law_134 rfl (lv_at hl 5 rfl) ?_
  refine lv_iload hx hb dL_law_135 (lv_at hl 4 rfl) ?_
  refine lv_iconst (v := nI 1) hx hb dL_law_137 (by decide +kernel) ?_
  refine zv_iadd (v := (nI (i + 1))) hx hb dL_law_138 (nI_add _ _) ?_
  refine z_sld hx hb hX hbl (Nat.not_le.mpr hbl) hS (show i + 1 < L by omega) (show L < 2 ^ 31 by omega) dL_law_139 ?_
  refine lv_aload_n hx hb dL_law_140 rfl (lv_at hl 5 rfl) ?_
  refine lv_iload hx hb dL_law_141 (lv_at hl 4 rfl) ?_
  refine lv_iconst (v := nI 2) hx hb dL_law_143 (by decide +kernel) ?_
  refine zv_iadd (v := (nI (i + 2))) hx hb dL_law_144 (nI_add _ _) ?_
  refine z_sld hx hb hX hbl (Nat.not_le.mpr hbl) hS (show i + 2 < L by omega) (show L < 2 ^ 31 by omega) dL_law_145 ?_
  refine lv_aload_n hx hb dL_law_146 rfl (lv_at hl 5 rfl) ?_
  refine lv_iload hx hb dL_law_147 (lv_at hl 4 rfl) ?_
  refine lv_iconst (v := nI 3) hx hb dL_law_149 (by decide +kernel) ?_
  refine zv_iadd (v := (nI (i + 3))) hx hb dL_law_150 (nI_add _ _) ?_
  refine z_sld hx hb hX hbl (Nat.not_le.mpr hbl) hS (show i + 3 < L by omega) (show L < 2 ^ 31 by omega) dL_law_151 ?_
  refine va_calli (vx_runSW (As := [.ref (ax 0), .int (xs (i + 1)), .int (xs (i + 2)), .int (xs (i + 3))]) (rest := []) ⟨hx, hb, hml, hown, hts⟩ (kL_feature l hst9 E ax hs.1 κ (xs (i + 1)) (xs (i + 2)) (xs (i + 3)) hT.2.1.1.2.1 hT.2.1.1.2.2.1) (vx_cwSW 4 hts glL_feature rfl rfl rfl (by decide +kernel) ⟨Nat.le_of_ble_eq_true rfl, Nat.le_of_ble_eq_true rfl⟩) (zpsT hK hW.1 hT9 hC9 hS (fun q h => hs.x q h)) rfl rfl hl.1 rfl (lv_room (Nat.le_of_ble_eq_true rfl)) dL_law_152 ⟨by show _ ≤ 601024; omega, by show _ ≤ 7293000; omega⟩) hS (fun q _ h => hs.x q h) (fun q h => hs.x q h) (fun r1 κ9 t9 H locs ht9 hvm9 hw9 hB9 hz9 hk9 hS => ?_)
  rw [ht9] at hB9
  replace hW := hW.x hs hB9 hk9
  have hp := hw9
  clear hw9
  refine lv_istore (lv' := [(6, .int (r1)), (1, .ref (ax 0)), (2, .ref (am 0)), (3, .ref (aj)), (4, .ref (aD)), (5, .int (nI (i))), (0, .ref (b))]) hx hb dL_law_155 hl (by decide) rfl (fun ls hl => ?_)
  refine lv_aload_n hx hb dL_law_157 rfl (lv_at hl 2 rfl) ?_
  refine lv_aload_n hx hb dL_law_158 rfl (lv_at hl 6 rfl) ?_
  refine lv_iload hx hb dL_law_159 (lv_at hl 5 rfl) ?_
  refine lv_iconst (v := nI 1) hx hb dL_law_161 (by decide +kernel) ?_
  refine zv_iadd (v := (nI (i + 1))) hx hb dL_law_162 (nI_add _ _) ?_
  refine z_sld hx hb hX hbl (Nat.not_le.mpr hbl) hS (show i + 1 < L by omega) (show L < 2 ^ 31 by omega) dL_law_163 ?_
  refine lv_aload_n hx hb dL_law_164 rfl (lv_at hl 6 rfl) ?_
  refine lv_iload hx hb dL_law_165 (lv_at hl 5 rfl) ?_
  refine lv_iconst (v := nI 2) hx hb dL_law_167 (by decide +kernel) ?_
  refine zv_iadd (v := (nI (i + 2))) hx hb dL_law_168 (nI_add _ _) ?_
  refine z_sld hx hb hX hbl (Nat.not_le.mpr hbl) hS (show i + 2 < L by omega) (show L < 2 ^ 31 by omega) dL_law_169 ?_
  refine lv_aload_n hx hb dL_law_170 rfl (lv_at hl 6 rfl) ?_
  refine lv_iload hx hb dL_law_171 (lv_at hl 5 rfl) ?_
  refine lv_iconst (v := nI 3) hx hb dL_law_173 (by decide +kernel) ?_
  refine zv_iadd (v := (nI (i + 3))) hx hb dL_law_174 (nI_add _ _) ?_
  refine z_sld hx hb hX hbl (Nat.not_le.mpr hbl) hS (show i + 3 < L by omega) (show L < 2 ^ 31 by omega) dL_law_175 ?_
  refine va_callv (va_runV (As := [.int (xs (i + 1)), .int (xs (i + 2)), .int (xs (i + 3))]) (rest := []) ⟨hx, hb, hml, hown, hts⟩ (kX1_feature l E am hs.2.1 τ (xs (i + 1)) (xs (i + 2)) (xs (i + 3)) (tie_mF hT) (tie_mN hT)) (cwV 3 hts glX1_feature rfl rfl rfl (by decide +kernel) ⟨Nat.le_of_ble_eq_true rfl, Nat.le_of_ble_eq_true rfl⟩) (zpm hK hW.2.1) rfl rfl hl.1 rfl (lv_room (Nat.le_of_ble_eq_true rfl)) dL_law_176 ⟨by show _ ≤ 601024; omega, by show _ ≤ 7293000; omega⟩) hS (fun q _ h => hs.m q h) (fun q h => hs.m q h) (fun τ9 t9 H locs ht9 hvm9 hw9 hB9 hz9 hk9 hS => ?_)
  rw [ht9] at hB9
  replace hW := hW.m hs hB9 hk9
  have hE : nI (mC τ9) = r1 ∧ Tie κ9 τ9 := by
    rcases hp with ⟨rfl, hf⟩ | ⟨rfl, hf, rfl⟩
    · obtain ⟨h1, h2⟩ := tie_featureV hT hf hw9; exact ⟨by rw [h1], h2⟩
    · obtain ⟨h1, h2⟩ := tie_featureX hT hf hw9; exact ⟨by rw [h1], h2⟩
  refine lv_aload_n hx hb dL_law_179 rfl (lv_at hl 2 rfl) ?_
  refine va_calli (va_runV (As := []) (rest := []) ⟨hx, hb, hml, hown, hts⟩ (kX1_thrown l E am hs.2.1 τ9) (cwV 0 hts glX1_thrown rfl rfl rfl (by decide +kernel) ⟨Nat.le_of_ble_eq_true rfl, Nat.le_of_ble_eq_true rfl⟩) (zpm hK hW.2.1) rfl rfl hl.1 rfl (lv_room (Nat.le_of_ble_eq_true rfl)) dL_law_180 ⟨by show _ ≤ 601024; omega, by show _ ≤ 7293000; omega⟩) hS (fun q _ h => h.elim) (fun q h => h.elim) (fun r3 u8 t9 H locs ht9 hvm9 hw9 hB9 hz9 hk9 hS => ?_)
  replace hW := hW.ro hk9
  subst hw9
  refine lv_iload hx hb dL_law_183 (lv_at hl 0 rfl) ?_
  have hT := hE.2
  refine lv_icmp_eq (tgt := 190) hx hb dL_law_185 (by decide) (fun _ => ?_) (fun h => absurd hE.1 h)
  refine lv_goto (tgt := 512) hx hb dL_law_190 (by decide) ?_
  exact W.widen (k := cells + 1) (n := slots + 6) (by omega) (by omega) (k _ _ _ _ _ _ _ hW hT (va_S.toS hS) (lv_sub hl [1, 2, 3, 4, 5, 6] rfl))
set_option maxHeartbeats 4000000 in
set_option maxRecDepth 100000 in
theorem lwc_3 {p : Program} {l : Launch} {e : Env} {s : State} {m : MethodId} {args : Array Value} {below : List Frame} {meth : Method} {c : Code} {Q : State → Prop} {b L i aj aD cells slots : Nat} {xs : Nat → Int32} {E : zE} {ax am : Nat → Nat} (hx : p.tables.exec = Jvm.exec) (hb : c.code = cL_law) (hml : c.maxLocals = 9) (hown : s.vm.findClass RL = some m.cls) (hts : ∀ w ∈ lw_tbl, w.before args s = true) (hX : va_X b L xs s s.heap) (hbl : b < s.heap.size) (hL : L ≤ 2049) (hst9 : l.stackTraces = false) (hK : zK E s) (hT9 : zTh (fun q => s.heap.size ≤ q) s) (hC9 : zCs s) (hs : Sep s.heap.size ax am aj aD) (hi : i + 3 < L) (hc : cells + 1 ≤ 601024) (hsl : slots + 6 ≤ 7293000) {κ : SX} {τ : SM} {vj : Int64} {vd : UInt64} {H : Heap} {locs : List Loc} {ls : Array Slot} (hW : Wd E ax am aj aD κ τ vj vd H) (hT : Tie κ τ) (hS : va_S (fun q => s.heap.size ≤ q) s.heap H locs) (hl : lv_has ls 9 [(1, .ref (ax 0)), (2, .ref (am 0)), (3, .ref (aj)), (4, .ref (aD)), (5, .int (nI (i))), (0, .ref (b))])
    (k : ∀ (κ : SX) (τ : SM) (vj : Int64) (vd : UInt64) (H : Heap) (locs : List Loc) (ls : Array Slot), Wd E ax am aj aD κ τ vj vd H → Tie κ τ → va_S (fun q => s.heap.size ≤ q) s.heap H locs → lv_has ls 9 [(1, .ref (ax 0)), (2, .ref (am 0)), (3, .ref (aj)), (4, .ref (aD)), (5, .int (nI (i))), (0, .ref (b))] → W p l e room_1 s m args below meth c H locs (cells + 1) (slots + 6) Q (F0 m 512 ls [])) : W p l e room_1 s m args below meth c H locs cells slots Q (F0 m 249 ls []) := by
  refine lv_aload_n hx hb dL_law_249 rfl (lv_at hl 0 rfl) ?_
  refine lv_aload_n hx hb dL_law_250 rfl (lv_at hl 5 rfl) ?_
  refine lv_iload hx hb dL_law_251 (lv_at hl 4 rfl) ?_
  refine lv_iconst (v := nI 1) hx hb dL_law_253 (by decide +kernel) ?_
  refine zv_iadd (v := (nI (i + 1))) hx hb dL_law_254 (nI_add _ _) ?_
  refine z_sld hx hb hX hbl (Nat.not_le.mpr hbl) hS (show i + 1 < L by omega) (show L < 2 ^ 31 by omega) dL_law_255 ?_
  refine lv_aload_n hx hb dL_law_256 rfl (lv_at hl 5 rfl) ?_
  refine lv_iload hx hb dL_law_257 (lv_at hl 4 rfl) ?_
  refine lv_iconst (v := nI 2) hx hb dL_law_259 (by decide +kernel) ?_
  refine zv_iadd (v := (nI (i + 2))) hx hb dL_law_260 (nI_add _ _) ?_
  refine z_sld hx hb hX hbl (Nat.not_le.mpr hbl) hS (show i + 2 < L by omega) (show L < 2 ^ 31 by omega) dL_law_261 ?_
  refine va_calli (vx_runSW (As := [.ref (ax 0), .int (xs (i + 1)), .int (xs (i + 2))]) (rest := []) ⟨hx, hb, hml, hown, hts⟩ (kL_sign l hst9 E ax hs.1 κ (xs (i + 1)) (xs (i + 2)) hT.2.1.1.2.1) (vx_cwSW 3 hts glL_sign rfl rfl rfl (by decide +kernel) ⟨Nat.le_of_ble_eq_true rfl, Nat.le_of_ble_eq_true rfl⟩) (zpsT hK hW.1 hT9 hC9 hS (fun q h => hs.x q h)) rfl rfl hl.1 rfl (lv_room (Nat.le_of_ble_eq_true rfl)) dL_law_262 ⟨by show _ ≤ 601024; omega, by show _ ≤ 7293000; omega⟩) hS (fun q _ h => hs.x q h) (fun q h => hs.x q h) (fun r1 κ9 t9 H locs ht9 hvm9 hw9 hB9 hz9 hk9 hS => ?_)
  rw [ht9] at hB9
  replace hW := hW.x hs hB9 hk9
  have hp := hw9
  clear hw9
  refine lv_istore (lv' := [(6, .int (r1)), (1, .ref (ax 0)), (2, .ref (am 0)), (3, .ref (aj)), (4, .ref (aD)), (5, .int (nI (i))), (0, .ref (b))]) hx hb dL_law_265 hl (by decide) rfl (fun ls hl => ?_)
  refine lv_aload_n hx hb dL_law_267 rfl (lv_at hl 2 rfl) ?_
  refine lv_aload_n hx hb dL_law_268 rfl (lv_at hl 6 rfl) ?_
  refine lv_iload hx hb dL_law_269 (lv_at hl 5 rfl) ?_
  refine lv_iconst (v := nI 1) hx hb dL_law_271 (by decide +kernel) ?_
  refine zv_iadd (v := (nI (i + 1))) hx hb dL_law_272 (nI_add _ _) ?_
  refine z_sld hx hb hX hbl (Nat.not_le.mpr hbl) hS (show i + 1 < L by omega) (show L < 2 ^ 31 by omega) dL_law_273 ?_
  refine lv_aload_n hx hb dL_law_274 rfl (lv_at hl 6 rfl) ?_
  refine lv_iload hx hb dL_law_275 (lv_at hl 5 rfl) ?_
  refine lv_iconst (v := nI 2) hx hb dL_law_277 (by decide +kernel) ?_
  refine zv_iadd (v := (nI (i + 2))) hx hb dL_law_278 (nI_add _ _) ?_
  refine z_sld hx hb hX hbl (Nat.not_le.mpr hbl) hS (show i + 2 < L by omega) (show L < 2 ^ 31 by omega) dL_law_279 ?_
  refine va_callv (va_runV (As := [.int (xs (i + 1)), .int (xs (i + 2))]) (rest := []) ⟨hx, hb, hml, hown, hts⟩ (kX1_sign l E am hs.2.1 τ (xs (i + 1)) (xs (i + 2)) (tie_mF hT)) (cwV 2 hts glX1_sign rfl rfl rfl (by decide +kernel) ⟨Nat.le_of_ble_eq_true rfl, Nat.le_of_ble_eq_true rfl⟩) (zpm hK hW.2.1) rfl rfl hl.1 rfl (lv_room (Nat.le_of_ble_eq_true rfl)) dL_law_280 ⟨by show _ ≤ 601024; omega, by show _ ≤ 7293000; omega⟩) hS (fun q _ h => hs.m q h) (fun q h => hs.m q h) (fun τ9 t9 H locs ht9 hvm9 hw9 hB9 hz9 hk9 hS => ?_)
  rw [ht9] at hB9
  replace hW := hW.m hs hB9 hk9
  have hE : nI (mC τ9) = r1 ∧ Tie κ9 τ9 := by
    rcases hp with ⟨rfl, hf⟩ | ⟨rfl, hf, rfl⟩
    · obtain ⟨h1, h2⟩ := tie_signV hT hf hw9; exact ⟨by rw [h1], h2⟩
    · obtain ⟨h1, h2⟩ := tie_signX hT hf hw9; exact ⟨by rw [h1], h2⟩
  refine lv_aload_n hx hb dL_law_283 rfl (lv_at hl 2 rfl) ?_
  refine va_calli (va_runV (As := []) (rest := []) ⟨hx, hb, hml, hown, hts⟩ (kX1_thrown l E am hs.2.1 τ9) (cwV 0 hts glX1_thrown rfl rfl rfl (by decide +kernel) ⟨Nat.le_of_ble_eq_true rfl, Nat.le_of_ble_eq_true rfl⟩) (zpm hK hW.2.1) rfl rfl hl.1 rfl (lv_room (Nat.le_of_ble_eq_true rfl)) dL_law_284 ⟨by show _ ≤ 601024; omega, by show _ ≤ 7293000; omega⟩) hS (fun q _ h => h.elim) (fun q h => h.elim) (fun r3 u8 t9 H locs ht9 hvm9 hw9 hB9 hz9 hk9 hS => ?_)
  replace hW := hW.ro hk9
  subst hw9
  refine lv_iload hx hb dL_law_287 (lv_at hl 0 rfl) ?_
  have hT := hE.2
  refine lv_icmp_eq (tgt := 294) hx hb dL_law_289 (by decide) (fun _ => ?_) (fun h => absurd hE.1 h)
  refine lv_goto (tgt := 512) hx hb dL_law_294 (by decide) ?_
  exact W.widen (k := cells + 1) (n := slots + 6) (by omega) (by omega) (k _ _ _ _ _ _ _ hW hT (va_S.toS hS) (lv_sub hl [1, 2, 3, 4, 5, 6] rfl))
set_option maxHeartbeats 4000000 in
set_option maxRecDepth 100000 in
theorem lwc_2 {p : Program} {l : Launch} {e : Env} {s : State} {m : MethodId} {args : Array Value} {below : List Frame} {meth : Method} {c : Code} {Q : State → Prop} {b L i aj aD cells slots : Nat} {xs : Nat → Int32} {E : zE} {ax am : Nat → Nat} (hx : p.tables.exec = Jvm.exec) (hb : c.code = cL_law) (hml : c.maxLocals = 9) (hown : s.vm.findClass RL = some m.cls) (hts : ∀ w ∈ lw_tbl, w.before args s = true) (hX : va_X b L xs s s.heap) (hbl : b < s.heap.size) (hL : L ≤ 2049) (hst9 : l.stackTraces = false) (hK : zK E s) (hT9 : zTh (fun q => s.heap.size ≤ q) s) (hC9 : zCs s) (hs : Sep s.heap.size ax am aj aD) (hi : i + 3 < L) (hc : cells + 1 ≤ 601024) (hsl : slots + 6 ≤ 7293000) {κ : SX} {τ : SM} {vj : Int64} {vd : UInt64} {H : Heap} {locs : List Loc} {ls : Array Slot} (hW : Wd E ax am aj aD κ τ vj vd H) (hT : Tie κ τ) (hS : va_S (fun q => s.heap.size ≤ q) s.heap H locs) (hl : lv_has ls 9 [(1, .ref (ax 0)), (2, .ref (am 0)), (3, .ref (aj)), (4, .ref (aD)), (5, .int (nI (i))), (0, .ref (b))])
    (k : ∀ (κ : SX) (τ : SM) (vj : Int64) (vd : UInt64) (H : Heap) (locs : List Loc) (ls : Array Slot), Wd E ax am aj aD κ τ vj vd H → Tie κ τ → va_S (fun q => s.heap.size ≤ q) s.heap H locs → lv_has ls 9 [(1, .ref (ax 0)), (2, .ref (am 0)), (3, .ref (aj)), (4, .ref (aD)), (5, .int (nI (i))), (0, .ref (b))] → W p l e room_1 s m args below meth c H locs (cells + 1) (slots + 6) Q (F0 m 512 ls [])) : W p l e room_1 s m args below meth c H locs cells slots Q (F0 m 193 ls []) := by
  refine lv_aload_n hx hb dL_law_193 rfl (lv_at hl 0 rfl) ?_
  refine lv_aload_n hx hb dL_law_194 rfl (lv_at hl 5 rfl) ?_
  refine lv_iload hx hb dL_law_195 (lv_at hl 4 rfl) ?_
  refine lv_iconst (v := nI 1) hx hb dL_law_197 (by decide +kernel) ?_
  refine zv_iadd (v := (nI (i + 1))) hx hb dL_law_198 (nI_add _ _) ?_
  refine z_sld hx hb hX hbl (Nat.not_le.mpr hbl) hS (show i + 1 < L by omega) (show L < 2 ^ 31 by omega) dL_law_199 ?_
  refine lv_aload_n hx hb dL_law_200 rfl (lv_at hl 2 rfl) ?_
  refine va_calli (vx_runSW (As := [.ref (ax 0), .int (xs (i + 1)), .ref (aj)]) (rest := []) ⟨hx, hb, hml, hown, hts⟩ (kL_make l hst9 E ax hs.1 κ (xs (i + 1)) hT.2.1.1.2.1 hT.2.1.1.2.2.1 hT.2.1.2.1 hT.2.1.2.2.1 aj hs.2.2.2.2.2.2.2.2.1 vj) (vx_cwSW 3 hts glL_make rfl rfl rfl (by decide +kernel) ⟨Nat.le_of_ble_eq_true rfl, Nat.le_of_ble_eq_true rfl⟩) (zpsJ hK hW.1 hT9 hC9 hW.2.2.1 hS (fun q h => hs.xj q h)) rfl rfl hl.1 rfl (lv_room (Nat.le_of_ble_eq_true rfl)) dL_law_201 ⟨by show _ ≤ 601024; omega, by show _ ≤ 7293000; omega⟩) hS (fun q _ h => hs.xj q h) (fun q h => hs.xj q h) (fun r1 u9 t9 H locs ht9 hvm9 hw9 hB9 hz9 hk9 hS => ?_)
  rw [ht9] at hB9
  replace hW := hW.xj hs hB9 hk9
  obtain ⟨κ9, v9⟩ := u9
  have hp : mkR κ (xs (i + 1)) vj r1 κ9 v9 := hw9
  clear hw9
  replace hW : Wd E ax am aj aD κ9 τ v9 vd H := hW
  refine lv_istore (lv' := [(6, .int (r1)), (1, .ref (ax 0)), (2, .ref (am 0)), (3, .ref (aj)), (4, .ref (aD)), (5, .int (nI (i))), (0, .ref (b))]) hx hb dL_law_204 hl (by decide) rfl (fun ls hl => ?_)
  refine lv_aload_n hx hb dL_law_206 rfl (lv_at hl 2 rfl) ?_
  refine lv_aload_n hx hb dL_law_207 rfl (lv_at hl 6 rfl) ?_
  refine lv_iload hx hb dL_law_208 (lv_at hl 5 rfl) ?_
  refine lv_iconst (v := nI 1) hx hb dL_law_210 (by decide +kernel) ?_
  refine zv_iadd (v := (nI (i + 1))) hx hb dL_law_211 (nI_add _ _) ?_
  refine z_sld hx hb hX hbl (Nat.not_le.mpr hbl) hS (show i + 1 < L by omega) (show L < 2 ^ 31 by omega) dL_law_212 ?_
  refine va_calli (va_runV (As := [.int (xs (i + 1))]) (rest := []) ⟨hx, hb, hml, hown, hts⟩ (kX1_make l E am hs.2.1 τ (xs (i + 1)) 1900 (tie_mF hT) (tie_mN hT) hT.2.2.1 hT.2.2.2.1 (by decide) (by decide) (tie_hmn hT) (tie_hbd hT)) (cwV 1 hts glX1_make rfl rfl rfl (by decide +kernel) ⟨Nat.le_of_ble_eq_true rfl, Nat.le_of_ble_eq_true rfl⟩) (zpm hK hW.2.1) rfl rfl hl.1 rfl (lv_room (Nat.le_of_ble_eq_true rfl)) dL_law_213 ⟨by show _ ≤ 601024; omega, by show _ ≤ 7293000; omega⟩) hS (fun q _ h => hs.m q h) (fun q h => hs.m q h) (fun r2 τ9 t9 H locs ht9 hvm9 hw9 hB9 hz9 hk9 hS => ?_)
  rw [ht9] at hB9
  replace hW := hW.m hs hB9 hk9
  have hm := hw9
  refine lv_istore (lv' := [(7, .int (r2)), (6, .int (r1)), (1, .ref (ax 0)), (2, .ref (am 0)), (3, .ref (aj)), (4, .ref (aD)), (5, .int (nI (i))), (0, .ref (b))]) hx hb dL_law_216 hl (by decide) rfl (fun ls hl => ?_)
  refine lv_aload_n hx hb dL_law_218 rfl (lv_at hl 3 rfl) ?_
  refine va_calli (va_runV (As := []) (rest := []) ⟨hx, hb, hml, hown, hts⟩ (kX1_thrown l E am hs.2.1 τ9) (cwV 0 hts glX1_thrown rfl rfl rfl (by decide +kernel) ⟨Nat.le_of_ble_eq_true rfl, Nat.le_of_ble_eq_true rfl⟩) (zpm hK hW.2.1) rfl rfl hl.1 rfl (lv_room (Nat.le_of_ble_eq_true rfl)) dL_law_219 ⟨by show _ ≤ 601024; omega, by show _ ≤ 7293000; omega⟩) hS (fun q _ h => h.elim) (fun q h => h.elim) (fun r3 u8 t9 H locs ht9 hvm9 hw9 hB9 hz9 hk9 hS => ?_)
  replace hW := hW.ro hk9
  subst hw9
  rcases hp with ⟨rfl, z9, hf, rfl⟩ | ⟨rfl, hf, rfl, rfl⟩
  · obtain ⟨h1, h2, hT⟩ := tie_makeV hT hf hm
    subst h2
    refine lv_iload hx hb dL_law_222 (lv_at hl 1 rfl) ?_
    refine lv_icmp_eq (tgt := 229) hx hb dL_law_224 (by decide) (fun _ => ?_) (fun h => absurd (show nI (mC τ9) = nI 0 by rw [h1]) h)
    refine lv_iload hx hb dL_law_229 (lv_at hl 1 rfl) ?_
    refine zu_ne (tgt := 246) hx hb (show 0 < 2 ^ 31 by omega) dL_law_231 (by decide) (fun h3 => absurd h3 (by decide)) (fun _ => ?_)
    refine lv_aload_n hx hb dL_law_234 rfl (lv_at hl 4 rfl) ?_
    refine lv_iconst (v := nI 0) hx hb dL_law_235 (by decide +kernel) ?_
    refine z_lald1 hx hb hK hW.2.2.1 dL_law_236 ?_
    refine lv_iload hx hb dL_law_237 (lv_at hl 0 rfl) ?_
    refine lv_i2l (v := (z9).toInt64) hx hb dL_law_239 rfl ?_
    refine z_lcmp hx hb dL_law_240 ?_
    refine lv_if_eq (tgt := 246) hx hb dL_law_241 (by decide) (fun _ => ?_) (fun h => absurd rfl h)
    refine lv_goto (tgt := 512) hx hb dL_law_246 (by decide) ?_
    exact W.widen (k := cells + 1) (n := slots + 6) (by omega) (by omega) (k _ _ _ _ _ _ _ hW hT (va_S.toS hS) (lv_sub hl [2, 3, 4, 5, 6, 7] rfl))
  · obtain ⟨h1, hT⟩ := tie_makeX hT hf hm
    refine lv_iload hx hb dL_law_222 (lv_at hl 1 rfl) ?_
    refine lv_icmp_eq (tgt := 229) hx hb dL_law_224 (by decide) (fun _ => ?_) (fun h => absurd (show nI (mC τ9) = nI 1 by rw [h1]) h)
    refine lv_iload hx hb dL_law_229 (lv_at hl 1 rfl) ?_
    refine zu_ne (tgt := 246) hx hb (show 1 < 2 ^ 31 by omega) dL_law_231 (by decide) (fun _ => ?_) (fun h3 => absurd h3 (by decide))
    refine lv_goto (tgt := 512) hx hb dL_law_246 (by decide) ?_
    exact W.widen (k := cells + 1) (n := slots + 6) (by omega) (by omega) (k _ _ _ _ _ _ _ hW hT (va_S.toS hS) (lv_sub hl [2, 3, 4, 5, 6, 7] rfl))
set_option maxHeartbeats 4000000 in
set_option maxRecDepth 100000 in
theorem lwc_4 {p : Program} {l : Launch} {e : Env} {s : State} {m : MethodId} {args : Array Value} {below : List Frame} {meth : Method} {c : Code} {Q : State → Prop} {b L i aj aD cells slots : Nat} {xs : Nat → Int32} {E : zE} {ax am : Nat → Nat} (hx : p.tables.exec = Jvm.exec) (hb : c.code = cL_law) (hml : c.maxLocals = 9) (hown : s.vm.findClass RL = some m.cls) (hts : ∀ w ∈ lw_tbl, w.before args s = true) (hX : va_X b L xs s s.heap) (hbl : b < s.heap.size) (hL : L ≤ 2049) (hst9 : l.stackTraces = false) (hK : zK E s) (hT9 : zTh (fun q => s.heap.size ≤ q) s) (hC9 : zCs s) (hs : Sep s.heap.size ax am aj aD) (hi : i + 3 < L) (hc : cells + 1 ≤ 601024) (hsl : slots + 6 ≤ 7293000) {κ : SX} {τ : SM} {vj : Int64} {vd : UInt64} {H : Heap} {locs : List Loc} {ls : Array Slot} (hW : Wd E ax am aj aD κ τ vj vd H) (hT : Tie κ τ) (hS : va_S (fun q => s.heap.size ≤ q) s.heap H locs) (hl : lv_has ls 9 [(1, .ref (ax 0)), (2, .ref (am 0)), (3, .ref (aj)), (4, .ref (aD)), (5, .int (nI (i))), (0, .ref (b))])
    (k : ∀ (κ : SX) (τ : SM) (vj : Int64) (vd : UInt64) (H : Heap) (locs : List Loc) (ls : Array Slot), Wd E ax am aj aD κ τ vj vd H → Tie κ τ → va_S (fun q => s.heap.size ≤ q) s.heap H locs → lv_has ls 9 [(1, .ref (ax 0)), (2, .ref (am 0)), (3, .ref (aj)), (4, .ref (aD)), (5, .int (nI (i))), (0, .ref (b))] → W p l e room_1 s m args below meth c H locs (cells + 1) (slots + 6) Q (F0 m 512 ls [])) : W p l e room_1 s m args below meth c H locs cells slots Q (F0 m 297 ls []) := by
  refine lv_aload_n hx hb dL_law_297 rfl (lv_at hl 0 rfl) ?_
  refine lv_aload_n hx hb dL_law_298 rfl (lv_at hl 5 rfl) ?_
  refine lv_iload hx hb dL_law_299 (lv_at hl 4 rfl) ?_
  refine lv_iconst (v := nI 1) hx hb dL_law_301 (by decide +kernel) ?_
  refine zv_iadd (v := (nI (i + 1))) hx hb dL_law_302 (nI_add _ _) ?_
  refine z_sld hx hb hX hbl (Nat.not_le.mpr hbl) hS (show i + 1 < L by omega) (show L < 2 ^ 31 by omega) dL_law_303 ?_
  refine va_calli (va_runV (As := [.int (xs (i + 1))]) (rest := []) ⟨hx, hb, hml, hown, hts⟩ (kX0_tell l E ax hs.1 κ (xs (i + 1)) 1900 hT.2.1.1.2.1 (tie_xMb hT) hT.2.1.1.2.2.2.1 (tie_xSg hT) (by decide) (by decide) hT.2.1.w) (cwV 1 hts glX0_tell rfl rfl rfl (by decide +kernel) ⟨Nat.le_of_ble_eq_true rfl, Nat.le_of_ble_eq_true rfl⟩) (zpx hK hW.1) rfl rfl hl.1 rfl (lv_room (Nat.le_of_ble_eq_true rfl)) dL_law_304 ⟨by show _ ≤ 601024; omega, by show _ ≤ 7293000; omega⟩) hS (fun q _ h => h.elim) (fun q h => h.elim) (fun r1 u8 t9 H locs ht9 hvm9 hw9 hB9 hz9 hk9 hS => ?_)
  replace hW := hW.ro hk9
  have hp := hw9
  clear hw9
  refine lv_aload_n hx hb dL_law_307 rfl (lv_at hl 1 rfl) ?_
  refine lv_aload_n hx hb dL_law_308 rfl (lv_at hl 5 rfl) ?_
  refine lv_iload hx hb dL_law_309 (lv_at hl 4 rfl) ?_
  refine lv_iconst (v := nI 1) hx hb dL_law_311 (by decide +kernel) ?_
  refine zv_iadd (v := (nI (i + 1))) hx hb dL_law_312 (nI_add _ _) ?_
  refine z_sld hx hb hX hbl (Nat.not_le.mpr hbl) hS (show i + 1 < L by omega) (show L < 2 ^ 31 by omega) dL_law_313 ?_
  refine va_calli (va_runV (As := [.int (xs (i + 1))]) (rest := [.int (r1)]) ⟨hx, hb, hml, hown, hts⟩ (kX1_tell l E am hs.2.1 τ (xs (i + 1)) 1900 (tie_mF hT) (tie_mHs hT) (tie_mMd hT) (tie_mSg hT) (tie_ex hT) (by decide) (by decide) hT.w) (cwV 1 hts glX1_tell rfl rfl rfl (by decide +kernel) ⟨Nat.le_of_ble_eq_true rfl, Nat.le_of_ble_eq_true rfl⟩) (zpm hK hW.2.1) rfl rfl hl.1 rfl (lv_room (Nat.le_of_ble_eq_true rfl)) dL_law_314 ⟨by show _ ≤ 601024; omega, by show _ ≤ 7293000; omega⟩) hS (fun q _ h => hs.m q h) (fun q h => hs.m q h) (fun r2 τ9 t9 H locs ht9 hvm9 hw9 hB9 hz9 hk9 hS => ?_)
  rw [ht9] at hB9
  replace hW := hW.m hs hB9 hk9
  obtain ⟨hq, rfl⟩ := hw9
  have hE := tie_tell hT hp hq
  have hT := hT.c 0
  refine lv_icmp_eq (tgt := 512) hx hb dL_law_317 (by decide) (fun _ => ?_) (fun h => absurd hE h)
  exact W.widen (k := cells + 1) (n := slots + 6) (by omega) (by omega) (k _ _ _ _ _ _ _ hW hT (va_S.toS hS) (lv_sub hl [0, 1, 2, 3, 4, 5] rfl))
set_option maxHeartbeats 4000000 in
set_option maxRecDepth 100000 in
theorem lwc_5 {p : Program} {l : Launch} {e : Env} {s : State} {m : MethodId} {args : Array Value} {below : List Frame} {meth : Method} {c : Code} {Q : State → Prop} {b L i aj aD cells slots : Nat} {xs : Nat → Int32} {E : zE} {ax am : Nat → Nat} (hx : p.tables.exec = Jvm.exec) (hb : c.code = cL_law) (hml : c.maxLocals = 9) (hown : s.vm.findClass RL = some m.cls) (hts : ∀ w ∈ lw_tbl, w.before args s = true) (hX : va_X b L xs s s.heap) (hbl : b < s.heap.size) (hL : L ≤ 2049) (hst9 : l.stackTraces = false) (hK : zK E s) (hT9 : zTh (fun q => s.heap.size ≤ q) s) (hC9 : zCs s) (hs : Sep s.heap.size ax am aj aD) (hi : i + 3 < L) (hc : cells + 1 ≤ 601024) (hsl : slots + 6 ≤ 7293000) {κ : SX} {τ : SM} {vj : Int64} {vd : UInt64} {H : Heap} {locs : List Loc} {ls : Array Slot} (hW : Wd E ax am aj aD κ τ vj vd H) (hT : Tie κ τ) (hS : va_S (fun q => s.heap.size ≤ q) s.heap H locs) (hl : lv_has ls 9 [(1, .ref (ax 0)), (2, .ref (am 0)), (3, .ref (aj)), (4, .ref (aD)), (5, .int (nI (i))), (0, .ref (b))])
    (k : ∀ (κ : SX) (τ : SM) (vj : Int64) (vd : UInt64) (H : Heap) (locs : List Loc) (ls : Array Slot), Wd E ax am aj aD κ τ vj vd H → Tie κ τ → va_S (fun q => s.heap.size ≤ q) s.heap H locs → lv_has ls 9 [(1, .ref (ax 0)), (2, .ref (am 0)), (3, .ref (aj)), (4, .ref (aD)), (5, .int (nI (i))), (0, .ref (b))] → W p l e room_1 s m args below meth c H locs (cells + 1) (slots + 6) Q (F0 m 512 ls [])) : W p l e room_1 s m args below meth c H locs cells slots Q (F0 m 322 ls []) := by
  refine lv_aload_n hx hb dL_law_322 rfl (lv_at hl 0 rfl) ?_
  refine lv_aload_n hx hb dL_law_323 rfl (lv_at hl 5 rfl) ?_
  refine lv_iload hx hb dL_law_324 (lv_at hl 4 rfl) ?_
  refine lv_iconst (v := nI 1) hx hb dL_law_326 (by decide +kernel) ?_
  refine zv_iadd (v := (nI (i + 1))) hx hb dL_law_327 (nI_add _ _) ?_
  refine z_sld hx hb hX hbl (Nat.not_le.mpr hbl) hS (show i + 1 < L by omega) (show L < 2 ^ 31 by omega) dL_law_328 ?_
  refine va_calll (va_runV (As := [.int (xs (i + 1))]) (rest := []) ⟨hx, hb, hml, hown, hts⟩ (kX0_distance l E ax hs.1 κ (xs (i + 1)) 1900 hT.2.1.1.2.1 (tie_xMb hT) hT.2.1.1.2.2.2.1 (tie_xSg hT) (by decide) (by decide) hT.2.1.w) (cwV 1 hts glX0_distance rfl rfl rfl (by decide +kernel) ⟨Nat.le_of_ble_eq_true rfl, Nat.le_of_ble_eq_true rfl⟩) (zpx hK hW.1) rfl rfl hl.1 rfl (lv_room (Nat.le_of_ble_eq_true rfl)) dL_law_329 ⟨by show _ ≤ 601024; omega, by show _ ≤ 7293000; omega⟩) hS (fun q _ h => h.elim) (fun q h => h.elim) (fun r1 u8 t9 H locs ht9 hvm9 hw9 hB9 hz9 hk9 hS => ?_)
  replace hW := hW.ro hk9
  have hp := hw9
  clear hw9
  refine lv_aload_n hx hb dL_law_332 rfl (lv_at hl 1 rfl) ?_
  refine lv_aload_n hx hb dL_law_333 rfl (lv_at hl 5 rfl) ?_
  refine lv_iload hx hb dL_law_334 (lv_at hl 4 rfl) ?_
  refine lv_iconst (v := nI 1) hx hb dL_law_336 (by decide +kernel) ?_
  refine zv_iadd (v := (nI (i + 1))) hx hb dL_law_337 (nI_add _ _) ?_
  refine z_sld hx hb hX hbl (Nat.not_le.mpr hbl) hS (show i + 1 < L by omega) (show L < 2 ^ 31 by omega) dL_law_338 ?_
  refine va_calll (va_runV (As := [.int (xs (i + 1))]) (rest := [.long (r1)]) ⟨hx, hb, hml, hown, hts⟩ (kX1_distance l E am hs.2.1 τ (xs (i + 1)) 1900 (tie_mF hT) (tie_mHs hT) (tie_mMd hT) (tie_mSg hT) (tie_ex hT) (by decide) (by decide) hT.w) (cwV 1 hts glX1_distance rfl rfl rfl (by decide +kernel) ⟨Nat.le_of_ble_eq_true rfl, Nat.le_of_ble_eq_true rfl⟩) (zpm hK hW.2.1) rfl rfl hl.1 rfl (lv_room (Nat.le_of_ble_eq_true rfl)) dL_law_339 ⟨by show _ ≤ 601024; omega, by show _ ≤ 7293000; omega⟩) hS (fun q _ h => hs.m q h) (fun q h => hs.m q h) (fun r2 τ9 t9 H locs ht9 hvm9 hw9 hB9 hz9 hk9 hS => ?_)
  rw [ht9] at hB9
  replace hW := hW.m hs hB9 hk9
  obtain ⟨hq, rfl⟩ := hw9
  have hE := tie_distance hT hp hq
  have hT := hT.c 0
  subst hE
  refine z_lcmp hx hb dL_law_342 ?_
  refine lv_if_eq (tgt := 512) hx hb dL_law_343 (by decide) (fun _ => ?_) (fun h => absurd rfl h)
  exact W.widen (k := cells + 1) (n := slots + 6) (by omega) (by omega) (k _ _ _ _ _ _ _ hW hT (va_S.toS hS) (lv_sub hl [0, 1, 2, 3, 4, 5] rfl))
set_option maxHeartbeats 4000000 in
set_option maxRecDepth 100000 in
theorem lwc_6 {p : Program} {l : Launch} {e : Env} {s : State} {m : MethodId} {args : Array Value} {below : List Frame} {meth : Method} {c : Code} {Q : State → Prop} {b L i aj aD cells slots : Nat} {xs : Nat → Int32} {E : zE} {ax am : Nat → Nat} (hx : p.tables.exec = Jvm.exec) (hb : c.code = cL_law) (hml : c.maxLocals = 9) (hown : s.vm.findClass RL = some m.cls) (hts : ∀ w ∈ lw_tbl, w.before args s = true) (hX : va_X b L xs s s.heap) (hbl : b < s.heap.size) (hL : L ≤ 2049) (hst9 : l.stackTraces = false) (hK : zK E s) (hT9 : zTh (fun q => s.heap.size ≤ q) s) (hC9 : zCs s) (hs : Sep s.heap.size ax am aj aD) (hi : i + 3 < L) (hc : cells + 1 ≤ 601024) (hsl : slots + 6 ≤ 7293000) {κ : SX} {τ : SM} {vj : Int64} {vd : UInt64} {H : Heap} {locs : List Loc} {ls : Array Slot} (hW : Wd E ax am aj aD κ τ vj vd H) (hT : Tie κ τ) (hS : va_S (fun q => s.heap.size ≤ q) s.heap H locs) (hl : lv_has ls 9 [(1, .ref (ax 0)), (2, .ref (am 0)), (3, .ref (aj)), (4, .ref (aD)), (5, .int (nI (i))), (0, .ref (b))])
    (k : ∀ (κ : SX) (τ : SM) (vj : Int64) (vd : UInt64) (H : Heap) (locs : List Loc) (ls : Array Slot), Wd E ax am aj aD κ τ vj vd H → Tie κ τ → va_S (fun q => s.heap.size ≤ q) s.heap H locs → lv_has ls 9 [(1, .ref (ax 0)), (2, .ref (am 0)), (3, .ref (aj)), (4, .ref (aD)), (5, .int (nI (i))), (0, .ref (b))] → W p l e room_1 s m args below meth c H locs (cells + 1) (slots + 6) Q (F0 m 512 ls [])) : W p l e room_1 s m args below meth c H locs cells slots Q (F0 m 348 ls []) := by
  refine lv_aload_n hx hb dL_law_348 rfl (lv_at hl 0 rfl) ?_
  refine lv_aload_n hx hb dL_law_349 rfl (lv_at hl 5 rfl) ?_
  refine lv_iload hx hb dL_law_350 (lv_at hl 4 rfl) ?_
  refine lv_iconst (v := nI 1) hx hb dL_law_352 (by decide +kernel) ?_
  refine zv_iadd (v := (nI (i + 1))) hx hb dL_law_353 (nI_add _ _) ?_
  refine z_sld hx hb hX hbl (Nat.not_le.mpr hbl) hS (show i + 1 < L by omega) (show L < 2 ^ 31 by omega) dL_law_354 ?_
  refine lv_aload_n hx hb dL_law_355 rfl (lv_at hl 5 rfl) ?_
  refine lv_iload hx hb dL_law_356 (lv_at hl 4 rfl) ?_
  refine lv_iconst (v := nI 2) hx hb dL_law_358 (by decide +kernel) ?_
  refine zv_iadd (v := (nI (i + 2))) hx hb dL_law_359 (nI_add _ _) ?_
  refine z_sld hx hb hX hbl (Nat.not_le.mpr hbl) hS (show i + 2 < L by omega) (show L < 2 ^ 31 by omega) dL_law_360 ?_
  refine lv_aload hx hb dL_law_361 (lv_at hl 3 rfl) ?_
  refine va_calli (vx_runSW (As := [.ref (ax 0), .int (xs (i + 1)), .int (xs (i + 2)), .ref (aD)]) (rest := []) ⟨hx, hb, hml, hown, hts⟩ (kL_weight l hst9 E ax hs.1 κ (xs (i + 1)) (xs (i + 2)) hT.2.1.1.2.1 aD hs.2.2.2.2.2.2.2.2.2.1 vd) (vx_cwSW 4 hts glL_weight rfl rfl rfl (by decide +kernel) ⟨Nat.le_of_ble_eq_true rfl, Nat.le_of_ble_eq_true rfl⟩) (zpsD hK hW.1 hT9 hC9 hW.2.2.2 hS (fun q h => hs.xd q h)) rfl rfl hl.1 rfl (lv_room (Nat.le_of_ble_eq_true rfl)) dL_law_363 ⟨by show _ ≤ 601024; omega, by show _ ≤ 7293000; omega⟩) hS (fun q _ h => hs.xd q h) (fun q h => hs.xd q h) (fun r1 v9 t9 H locs ht9 hvm9 hw9 hB9 hz9 hk9 hS => ?_)
  rw [ht9] at hB9
  replace hW := hW.xd hs hB9 hk9
  have hp := hw9
  clear hw9
  refine lv_istore (lv' := [(6, .int (r1)), (1, .ref (ax 0)), (2, .ref (am 0)), (3, .ref (aj)), (4, .ref (aD)), (5, .int (nI (i))), (0, .ref (b))]) hx hb dL_law_366 hl (by decide) rfl (fun ls hl => ?_)
  refine lv_aload_n hx hb dL_law_368 rfl (lv_at hl 2 rfl) ?_
  refine lv_aload_n hx hb dL_law_369 rfl (lv_at hl 6 rfl) ?_
  refine lv_iload hx hb dL_law_370 (lv_at hl 5 rfl) ?_
  refine lv_iconst (v := nI 1) hx hb dL_law_372 (by decide +kernel) ?_
  refine zv_iadd (v := (nI (i + 1))) hx hb dL_law_373 (nI_add _ _) ?_
  refine z_sld hx hb hX hbl (Nat.not_le.mpr hbl) hS (show i + 1 < L by omega) (show L < 2 ^ 31 by omega) dL_law_374 ?_
  refine lv_aload_n hx hb dL_law_375 rfl (lv_at hl 6 rfl) ?_
  refine lv_iload hx hb dL_law_376 (lv_at hl 5 rfl) ?_
  refine lv_iconst (v := nI 2) hx hb dL_law_378 (by decide +kernel) ?_
  refine zv_iadd (v := (nI (i + 2))) hx hb dL_law_379 (nI_add _ _) ?_
  refine z_sld hx hb hX hbl (Nat.not_le.mpr hbl) hS (show i + 2 < L by omega) (show L < 2 ^ 31 by omega) dL_law_380 ?_
  refine va_calld (va_runV (As := [.int (xs (i + 1)), .int (xs (i + 2))]) (rest := []) ⟨hx, hb, hml, hown, hts⟩ (kX1_weight l E am hs.2.1 τ (xs (i + 1)) (xs (i + 2)) (tie_mF hT) (tie_mMd hT)) (cwV 2 hts glX1_weight rfl rfl rfl (by decide +kernel) ⟨Nat.le_of_ble_eq_true rfl, Nat.le_of_ble_eq_true rfl⟩) (zpm hK hW.2.1) rfl rfl hl.1 rfl (lv_room (Nat.le_of_ble_eq_true rfl)) dL_law_381 ⟨by show _ ≤ 601024; omega, by show _ ≤ 7293000; omega⟩) hS (fun q _ h => hs.m q h) (fun q h => hs.m q h) (fun r2 τ9 t9 H locs ht9 hvm9 hw9 hB9 hz9 hk9 hS => ?_)
  rw [ht9] at hB9
  replace hW := hW.m hs hB9 hk9
  have hm := hw9
  refine lv_dstore (lv' := [(7, .double (r2)), (6, .int (r1)), (1, .ref (ax 0)), (2, .ref (am 0)), (3, .ref (aj)), (4, .ref (aD)), (5, .int (nI (i))), (0, .ref (b))]) hx hb dL_law_384 hl (by decide) rfl (fun ls hl => ?_)
  refine lv_aload_n hx hb dL_law_386 rfl (lv_at hl 3 rfl) ?_
  refine va_calli (va_runV (As := []) (rest := []) ⟨hx, hb, hml, hown, hts⟩ (kX1_thrown l E am hs.2.1 τ9) (cwV 0 hts glX1_thrown rfl rfl rfl (by decide +kernel) ⟨Nat.le_of_ble_eq_true rfl, Nat.le_of_ble_eq_true rfl⟩) (zpm hK hW.2.1) rfl rfl hl.1 rfl (lv_room (Nat.le_of_ble_eq_true rfl)) dL_law_387 ⟨by show _ ≤ 601024; omega, by show _ ≤ 7293000; omega⟩) hS (fun q _ h => h.elim) (fun q h => h.elim) (fun r3 u8 t9 H locs ht9 hvm9 hw9 hB9 hz9 hk9 hS => ?_)
  replace hW := hW.ro hk9
  subst hw9
  rcases hp with ⟨rfl, hf⟩ | ⟨rfl, hf, rfl⟩
  · obtain ⟨h1, h2, hT⟩ := tie_weightV hT hf hm
    subst h2
    refine lv_iload hx hb dL_law_390 (lv_at hl 1 rfl) ?_
    refine lv_icmp_eq (tgt := 397) hx hb dL_law_392 (by decide) (fun _ => ?_) (fun h => absurd (show nI (mC τ9) = nI 0 by rw [h1]) h)
    refine lv_iload hx hb dL_law_397 (lv_at hl 1 rfl) ?_
    refine zu_ne (tgt := 434) hx hb (show 0 < 2 ^ 31 by omega) dL_law_399 (by decide) (fun h3 => absurd h3 (by decide)) (fun _ => ?_)
    refine lv_aload hx hb dL_law_402 (lv_at hl 5 rfl) ?_
    refine lv_iconst (v := nI 0) hx hb dL_law_404 (by decide +kernel) ?_
    refine z_dald1 hx hb hK hW.2.2.2 dL_law_405 ?_
    refine lv_dload hx hb dL_law_406 (lv_at hl 0 rfl) ?_
    refine lv_dcmp hx hb dL_law_408 ?_
    refine lv_if_eq (tgt := 434) hx hb dL_law_409 (by decide) (fun _ => ?_) (fun h4 => ?_)
    · refine lv_goto (tgt := 512) hx hb dL_law_434 (by decide) ?_
      exact W.widen (k := cells + 1) (n := slots + 6) (by omega) (by omega) (k _ _ _ _ _ _ _ hW hT (va_S.toS hS) (lv_sub hl [2, 3, 4, 5, 6, 7] rfl))
    · refine lv_aload hx hb dL_law_412 (lv_at hl 5 rfl) ?_
      refine lv_iconst (v := nI 0) hx hb dL_law_414 (by decide +kernel) ?_
      refine z_dald1 hx hb hK hW.2.2.2 dL_law_415 ?_
      refine lv_aload hx hb dL_law_416 (lv_at hl 5 rfl) ?_
      refine lv_iconst (v := nI 0) hx hb dL_law_418 (by decide +kernel) ?_
      refine z_dald1 hx hb hK hW.2.2.2 dL_law_419 ?_
      refine lv_dcmp hx hb dL_law_420 ?_
      refine lv_if_eq (tgt := 432) hx hb dL_law_421 (by decide) (fun h5 => absurd h5 h4) (fun _ => ?_)
      refine lv_dload hx hb dL_law_424 (lv_at hl 0 rfl) ?_
      refine lv_dload hx hb dL_law_426 (lv_at hl 0 rfl) ?_
      refine lv_dcmp hx hb dL_law_428 ?_
      refine lv_if_ne (tgt := 434) hx hb dL_law_429 (by decide) (fun _ => ?_) (fun h6 => absurd h6 h4)
      refine lv_goto (tgt := 512) hx hb dL_law_434 (by decide) ?_
      exact W.widen (k := cells + 1) (n := slots + 6) (by omega) (by omega) (k _ _ _ _ _ _ _ hW hT (va_S.toS hS) (lv_sub hl [2, 3, 4, 5, 6, 7] rfl))
  · obtain ⟨h1, hT⟩ := tie_weightX hT hf hm
    refine lv_iload hx hb dL_law_390 (lv_at hl 1 rfl) ?_
    refine lv_icmp_eq (tgt := 397) hx hb dL_law_392 (by decide) (fun _ => ?_) (fun h => absurd (show nI (mC τ9) = nI 1 by rw [h1]) h)
    refine lv_iload hx hb dL_law_397 (lv_at hl 1 rfl) ?_
    refine zu_ne (tgt := 434) hx hb (show 1 < 2 ^ 31 by omega) dL_law_399 (by decide) (fun _ => ?_) (fun h3 => absurd h3 (by decide))
    refine lv_goto (tgt := 512) hx hb dL_law_434 (by decide) ?_
    exact W.widen (k := cells + 1) (n := slots + 6) (by omega) (by omega) (k _ _ _ _ _ _ _ hW hT (va_S.toS hS) (lv_sub hl [2, 3, 4, 5, 6, 7] rfl))
set_option maxHeartbeats 4000000 in
set_option maxRecDepth 100000 in
theorem lwc_7 {p : Program} {l : Launch} {e : Env} {s : State} {m : MethodId} {args : Array Value} {below : List Frame} {meth : Method} {c : Code} {Q : State → Prop} {b L i aj aD cells slots : Nat} {xs : Nat → Int32} {E : zE} {ax am : Nat → Nat} (hx : p.tables.exec = Jvm.exec) (hb : c.code = cL_law) (hml : c.maxLocals = 9) (hown : s.vm.findClass RL = some m.cls) (hts : ∀ w ∈ lw_tbl, w.before args s = true) (hX : va_X b L xs s s.heap) (hbl : b < s.heap.size) (hL : L ≤ 2049) (hst9 : l.stackTraces = false) (hK : zK E s) (hT9 : zTh (fun q => s.heap.size ≤ q) s) (hC9 : zCs s) (hs : Sep s.heap.size ax am aj aD) (hi : i + 3 < L) (hc : cells + 1 ≤ 601024) (hsl : slots + 6 ≤ 7293000) {κ : SX} {τ : SM} {vj : Int64} {vd : UInt64} {H : Heap} {locs : List Loc} {ls : Array Slot} (hW : Wd E ax am aj aD κ τ vj vd H) (hT : Tie κ τ) (hS : va_S (fun q => s.heap.size ≤ q) s.heap H locs) (hl : lv_has ls 9 [(1, .ref (ax 0)), (2, .ref (am 0)), (3, .ref (aj)), (4, .ref (aD)), (5, .int (nI (i))), (0, .ref (b))])
    (k : ∀ (κ : SX) (τ : SM) (vj : Int64) (vd : UInt64) (H : Heap) (locs : List Loc) (ls : Array Slot), Wd E ax am aj aD κ τ vj vd H → Tie κ τ → va_S (fun q => s.heap.size ≤ q) s.heap H locs → lv_has ls 9 [(1, .ref (ax 0)), (2, .ref (am 0)), (3, .ref (aj)), (4, .ref (aD)), (5, .int (nI (i))), (0, .ref (b))] → W p l e room_1 s m args below meth c H locs (cells + 1) (slots + 6) Q (F0 m 512 ls [])) : W p l e room_1 s m args below meth c H locs cells slots Q (F0 m 437 ls []) := by
  refine lv_aload_n hx hb dL_law_437 rfl (lv_at hl 0 rfl) ?_
  refine lv_aload_n hx hb dL_law_438 rfl (lv_at hl 5 rfl) ?_
  refine lv_iload hx hb dL_law_439 (lv_at hl 4 rfl) ?_
  refine lv_iconst (v := nI 1) hx hb dL_law_441 (by decide +kernel) ?_
  refine zv_iadd (v := (nI (i + 1))) hx hb dL_law_442 (nI_add _ _) ?_
  refine z_sld hx hb hX hbl (Nat.not_le.mpr hbl) hS (show i + 1 < L by omega) (show L < 2 ^ 31 by omega) dL_law_443 ?_
  refine lv_aload_n hx hb dL_law_444 rfl (lv_at hl 5 rfl) ?_
  refine lv_iload hx hb dL_law_445 (lv_at hl 4 rfl) ?_
  refine lv_iconst (v := nI 2) hx hb dL_law_447 (by decide +kernel) ?_
  refine zv_iadd (v := (nI (i + 2))) hx hb dL_law_448 (nI_add _ _) ?_
  refine z_sld hx hb hX hbl (Nat.not_le.mpr hbl) hS (show i + 2 < L by omega) (show L < 2 ^ 31 by omega) dL_law_449 ?_
  refine va_calli (va_runV (As := [.int (xs (i + 1)), .int (xs (i + 2))]) (rest := []) ⟨hx, hb, hml, hown, hts⟩ (kX0_confused l E ax hs.1 κ (xs (i + 1)) (xs (i + 2))) (cwV 2 hts glX0_confused rfl rfl rfl (by decide +kernel) ⟨Nat.le_of_ble_eq_true rfl, Nat.le_of_ble_eq_true rfl⟩) (zpx hK hW.1) rfl rfl hl.1 rfl (lv_room (Nat.le_of_ble_eq_true rfl)) dL_law_450 ⟨by show _ ≤ 601024; omega, by show _ ≤ 7293000; omega⟩) hS (fun q _ h => h.elim) (fun q h => h.elim) (fun r1 u8 t9 H locs ht9 hvm9 hw9 hB9 hz9 hk9 hS => ?_)
  replace hW := hW.ro hk9
  have hp := hw9
  clear hw9
  refine lv_aload_n hx hb dL_law_453 rfl (lv_at hl 1 rfl) ?_
  refine lv_aload_n hx hb dL_law_454 rfl (lv_at hl 5 rfl) ?_
  refine lv_iload hx hb dL_law_455 (lv_at hl 4 rfl) ?_
  refine lv_iconst (v := nI 1) hx hb dL_law_457 (by decide +kernel) ?_
  refine zv_iadd (v := (nI (i + 1))) hx hb dL_law_458 (nI_add _ _) ?_
  refine z_sld hx hb hX hbl (Nat.not_le.mpr hbl) hS (show i + 1 < L by omega) (show L < 2 ^ 31 by omega) dL_law_459 ?_
  refine lv_aload_n hx hb dL_law_460 rfl (lv_at hl 5 rfl) ?_
  refine lv_iload hx hb dL_law_461 (lv_at hl 4 rfl) ?_
  refine lv_iconst (v := nI 2) hx hb dL_law_463 (by decide +kernel) ?_
  refine zv_iadd (v := (nI (i + 2))) hx hb dL_law_464 (nI_add _ _) ?_
  refine z_sld hx hb hX hbl (Nat.not_le.mpr hbl) hS (show i + 2 < L by omega) (show L < 2 ^ 31 by omega) dL_law_465 ?_
  refine va_calli (va_runV (As := [.int (xs (i + 1)), .int (xs (i + 2))]) (rest := [.int (r1)]) ⟨hx, hb, hml, hown, hts⟩ (kX1_confused l E am hs.2.1 τ (xs (i + 1)) (xs (i + 2))) (cwV 2 hts glX1_confused rfl rfl rfl (by decide +kernel) ⟨Nat.le_of_ble_eq_true rfl, Nat.le_of_ble_eq_true rfl⟩) (zpm hK hW.2.1) rfl rfl hl.1 rfl (lv_room (Nat.le_of_ble_eq_true rfl)) dL_law_466 ⟨by show _ ≤ 601024; omega, by show _ ≤ 7293000; omega⟩) hS (fun q _ h => hs.m q h) (fun q h => hs.m q h) (fun r2 τ9 t9 H locs ht9 hvm9 hw9 hB9 hz9 hk9 hS => ?_)
  rw [ht9] at hB9
  replace hW := hW.m hs hB9 hk9
  obtain ⟨hq, rfl⟩ := hw9
  have hE := tie_confused hT hp hq
  have hT := hT.c 0
  refine lv_icmp_eq (tgt := 512) hx hb dL_law_469 (by decide) (fun _ => ?_) (fun h => absurd hE h)
  exact W.widen (k := cells + 1) (n := slots + 6) (by omega) (by omega) (k _ _ _ _ _ _ _ hW hT (va_S.toS hS) (lv_sub hl [0, 1, 2, 3, 4, 5] rfl))
set_option maxHeartbeats 4000000 in
set_option maxRecDepth 100000 in
theorem lwc_8 {p : Program} {l : Launch} {e : Env} {s : State} {m : MethodId} {args : Array Value} {below : List Frame} {meth : Method} {c : Code} {Q : State → Prop} {b L i aj aD cells slots : Nat} {xs : Nat → Int32} {E : zE} {ax am : Nat → Nat} (hx : p.tables.exec = Jvm.exec) (hb : c.code = cL_law) (hml : c.maxLocals = 9) (hown : s.vm.findClass RL = some m.cls) (hts : ∀ w ∈ lw_tbl, w.before args s = true) (hX : va_X b L xs s s.heap) (hbl : b < s.heap.size) (hL : L ≤ 2049) (hst9 : l.stackTraces = false) (hK : zK E s) (hT9 : zTh (fun q => s.heap.size ≤ q) s) (hC9 : zCs s) (hs : Sep s.heap.size ax am aj aD) (hi : i + 3 < L) (hc : cells + 1 ≤ 601024) (hsl : slots + 6 ≤ 7293000) {κ : SX} {τ : SM} {vj : Int64} {vd : UInt64} {H : Heap} {locs : List Loc} {ls : Array Slot} (hW : Wd E ax am aj aD κ τ vj vd H) (hT : Tie κ τ) (hS : va_S (fun q => s.heap.size ≤ q) s.heap H locs) (hl : lv_has ls 9 [(1, .ref (ax 0)), (2, .ref (am 0)), (3, .ref (aj)), (4, .ref (aD)), (5, .int (nI (i))), (0, .ref (b))])
    (k : ∀ (κ : SX) (τ : SM) (vj : Int64) (vd : UInt64) (H : Heap) (locs : List Loc) (ls : Array Slot), Wd E ax am aj aD κ τ vj vd H → Tie κ τ → va_S (fun q => s.heap.size ≤ q) s.heap H locs → lv_has ls 9 [(1, .ref (ax 0)), (2, .ref (am 0)), (3, .ref (aj)), (4, .ref (aD)), (5, .int (nI (i))), (0, .ref (b))] → W p l e room_1 s m args below meth c H locs (cells + 1) (slots + 6) Q (F0 m 512 ls [])) : W p l e room_1 s m args below meth c H locs cells slots Q (F0 m 474 ls []) := by
  refine lv_aload_n hx hb dL_law_474 rfl (lv_at hl 0 rfl) ?_
  refine lv_aload_n hx hb dL_law_475 rfl (lv_at hl 5 rfl) ?_
  refine lv_iload hx hb dL_law_476 (lv_at hl 4 rfl) ?_
  refine lv_iconst (v := nI 1) hx hb dL_law_478 (by decide +kernel) ?_
  refine zv_iadd (v := (nI (i + 1))) hx hb dL_law_479 (nI_add _ _) ?_
  refine z_sld hx hb hX hbl (Nat.not_le.mpr hbl) hS (show i + 1 < L by omega) (show L < 2 ^ 31 by omega) dL_law_480 ?_
  refine va_calli (va_runV (As := [.int (xs (i + 1))]) (rest := []) ⟨hx, hb, hml, hown, hts⟩ (kX0_margin l E ax hs.1 κ (xs (i + 1))) (cwV 1 hts glX0_margin rfl rfl rfl (by decide +kernel) ⟨Nat.le_of_ble_eq_true rfl, Nat.le_of_ble_eq_true rfl⟩) (zpx hK hW.1) rfl rfl hl.1 rfl (lv_room (Nat.le_of_ble_eq_true rfl)) dL_law_481 ⟨by show _ ≤ 601024; omega, by show _ ≤ 7293000; omega⟩) hS (fun q _ h => hs.x q h) (fun q h => hs.x q h) (fun r1 κ9 t9 H locs ht9 hvm9 hw9 hB9 hz9 hk9 hS => ?_)
  rw [ht9] at hB9
  replace hW := hW.x hs hB9 hk9
  have hp := hw9
  clear hw9
  refine lv_aload_n hx hb dL_law_484 rfl (lv_at hl 1 rfl) ?_
  refine lv_aload_n hx hb dL_law_485 rfl (lv_at hl 5 rfl) ?_
  refine lv_iload hx hb dL_law_486 (lv_at hl 4 rfl) ?_
  refine lv_iconst (v := nI 1) hx hb dL_law_488 (by decide +kernel) ?_
  refine zv_iadd (v := (nI (i + 1))) hx hb dL_law_489 (nI_add _ _) ?_
  refine z_sld hx hb hX hbl (Nat.not_le.mpr hbl) hS (show i + 1 < L by omega) (show L < 2 ^ 31 by omega) dL_law_490 ?_
  refine va_calli (va_runV (As := [.int (xs (i + 1))]) (rest := [.int (r1)]) ⟨hx, hb, hml, hown, hts⟩ (kX1_margin l E am hs.2.1 τ (xs (i + 1))) (cwV 1 hts glX1_margin rfl rfl rfl (by decide +kernel) ⟨Nat.le_of_ble_eq_true rfl, Nat.le_of_ble_eq_true rfl⟩) (zpm hK hW.2.1) rfl rfl hl.1 rfl (lv_room (Nat.le_of_ble_eq_true rfl)) dL_law_491 ⟨by show _ ≤ 601024; omega, by show _ ≤ 7293000; omega⟩) hS (fun q _ h => hs.m q h) (fun q h => hs.m q h) (fun r2 τ9 t9 H locs ht9 hvm9 hw9 hB9 hz9 hk9 hS => ?_)
  rw [ht9] at hB9
  replace hW := hW.m hs hB9 hk9
  obtain ⟨hE, hT⟩ := tie_margin hT hp hw9
  refine lv_icmp_eq (tgt := 512) hx hb dL_law_494 (by decide) (fun _ => ?_) (fun h => absurd hE h)
  exact W.widen (k := cells + 1) (n := slots + 6) (by omega) (by omega) (k _ _ _ _ _ _ _ hW hT (va_S.toS hS) (lv_sub hl [0, 1, 2, 3, 4, 5] rfl))
set_option maxHeartbeats 4000000 in
set_option maxRecDepth 100000 in
theorem lwc_9 {p : Program} {l : Launch} {e : Env} {s : State} {m : MethodId} {args : Array Value} {below : List Frame} {meth : Method} {c : Code} {Q : State → Prop} {b L i aj aD cells slots : Nat} {xs : Nat → Int32} {E : zE} {ax am : Nat → Nat} (hx : p.tables.exec = Jvm.exec) (hb : c.code = cL_law) (hml : c.maxLocals = 9) (hown : s.vm.findClass RL = some m.cls) (hts : ∀ w ∈ lw_tbl, w.before args s = true) (hX : va_X b L xs s s.heap) (hbl : b < s.heap.size) (hL : L ≤ 2049) (hst9 : l.stackTraces = false) (hK : zK E s) (hT9 : zTh (fun q => s.heap.size ≤ q) s) (hC9 : zCs s) (hs : Sep s.heap.size ax am aj aD) (hi : i + 3 < L) (hc : cells + 1 ≤ 601024) (hsl : slots + 6 ≤ 7293000) {κ : SX} {τ : SM} {vj : Int64} {vd : UInt64} {H : Heap} {locs : List Loc} {ls : Array Slot} (hW : Wd E ax am aj aD κ τ vj vd H) (hT : Tie κ τ) (hS : va_S (fun q => s.heap.size ≤ q) s.heap H locs) (hl : lv_has ls 9 [(1, .ref (ax 0)), (2, .ref (am 0)), (3, .ref (aj)), (4, .ref (aD)), (5, .int (nI (i))), (0, .ref (b))])
    (k : ∀ (κ : SX) (τ : SM) (vj : Int64) (vd : UInt64) (H : Heap) (locs : List Loc) (ls : Array Slot), Wd E ax am aj aD κ τ vj vd H → Tie κ τ → va_S (fun q => s.heap.size ≤ q) s.heap H locs → lv_has ls 9 [(1, .ref (ax 0)), (2, .ref (am 0)), (3, .ref (aj)), (4, .ref (aD)), (5, .int (nI (i))), (0, .ref (b))] → W p l e room_1 s m args below meth c H locs (cells + 1) (slots + 6) Q (F0 m 512 ls [])) : W p l e room_1 s m args below meth c H locs cells slots Q (F0 m 499 ls []) := by
  refine lv_aload_n hx hb dL_law_499 rfl (lv_at hl 0 rfl) ?_
  refine va_calli (va_runV (As := []) (rest := []) ⟨hx, hb, hml, hown, hts⟩ (kX0_clear l E ax hs.1 κ) (cwV 0 hts glX0_clear rfl rfl rfl (by decide +kernel) ⟨Nat.le_of_ble_eq_true rfl, Nat.le_of_ble_eq_true rfl⟩) (zpx hK hW.1) rfl rfl hl.1 rfl (lv_room (Nat.le_of_ble_eq_true rfl)) dL_law_500 ⟨by show _ ≤ 601024; omega, by show _ ≤ 7293000; omega⟩) hS (fun q _ h => hs.x q h) (fun q h => hs.x q h) (fun r1 κ9 t9 H locs ht9 hvm9 hw9 hB9 hz9 hk9 hS => ?_)
  rw [ht9] at hB9
  replace hW := hW.x hs hB9 hk9
  obtain ⟨rfl, rfl⟩ := hw9
  refine lv_aload_n hx hb dL_law_503 rfl (lv_at hl 1 rfl) ?_
  refine va_calli (va_runV (As := []) (rest := [.int (nI (xN κ))]) ⟨hx, hb, hml, hown, hts⟩ (kX1_clear l E am hs.2.1 τ) (cwV 0 hts glX1_clear rfl rfl rfl (by decide +kernel) ⟨Nat.le_of_ble_eq_true rfl, Nat.le_of_ble_eq_true rfl⟩) (zpm hK hW.2.1) rfl rfl hl.1 rfl (lv_room (Nat.le_of_ble_eq_true rfl)) dL_law_504 ⟨by show _ ≤ 601024; omega, by show _ ≤ 7293000; omega⟩) hS (fun q _ h => hs.m q h) (fun q h => hs.m q h) (fun r2 τ9 t9 H locs ht9 hvm9 hw9 hB9 hz9 hk9 hS => ?_)
  rw [ht9] at hB9
  replace hW := hW.m hs hB9 hk9
  obtain ⟨rfl, rfl⟩ := hw9
  obtain ⟨hE, hT⟩ := tie_clear hT
  refine lv_icmp_eq (tgt := 512) hx hb dL_law_507 (by decide) (fun _ => ?_) (fun h => absurd hE h)
  exact W.widen (k := cells + 1) (n := slots + 6) (by omega) (by omega) (k _ _ _ _ _ _ _ hW hT (va_S.toS hS) (lv_sub hl [0, 1, 2, 3, 4, 5] rfl))
