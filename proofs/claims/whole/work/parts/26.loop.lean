/-! ===== the law's loop ===== -/
theorem lw_more {L i : Nat} (hL : L ≤ 2049) (hi : i ≤ 3000) (h : ¬ nI L - nI 4 < nI i) : i + 3 < L := by
  rw [Int32.lt_iff_toInt_lt, pk_sub_toInt (by omega) (by omega), nI_toInt (by omega)] at h
  omega
set_option maxHeartbeats 4000000 in
set_option maxRecDepth 100000 in
theorem lw_loop {p : Program} {l : Launch} {e : Env} {s : State} {m : MethodId} {args : Array Value} {below : List Frame} {meth : Method} {c : Code} {Q : State → Prop} {b L aj aD : Nat} {xs : Nat → Int32} {E : zE} {ax am : Nat → Nat} (hx : p.tables.exec = Jvm.exec) (hb : c.code = cL_law) (hml : c.maxLocals = 9) (hown : s.vm.findClass RL = some m.cls) (hts : ∀ w ∈ lw_tbl, w.before args s = true) (hX : va_X b L xs s s.heap) (hbl : b < s.heap.size) (hL : L ≤ 2049) (hst9 : l.stackTraces = false) (hK : zK E s) (hT9 : zTh (fun q => s.heap.size ≤ q) s) (hC9 : zCs s) (hs : Sep s.heap.size ax am aj aD) {c0 s0 : Nat} (hc0 : c0 ≤ 1000) (hs0 : s0 ≤ 10000)
    (exit : ∀ (H : Heap) (ls : Array Slot), W p l e room_1 s m args below meth c H [] 601024 7293000 Q (F0 m 518 ls [])) :
    ∀ (n t : Nat) (κ : SX) (τ : SM) (vj : Int64) (vd : UInt64) (H : Heap) (locs : List Loc) (ls : Array Slot), L + 8 - 4 * t < n → 4 * t ≤ L + 4 → Wd E ax am aj aD κ τ vj vd H → Tie κ τ → va_S (fun q => s.heap.size ≤ q) s.heap H locs → lv_has ls 9 [(1, .ref (ax 0)), (2, .ref (am 0)), (3, .ref aj), (4, .ref aD), (5, .int (nI (4 * t + 1))), (0, .ref b)] → W p l e room_1 s m args below meth c H locs (c0 + t) (s0 + 6 * t) Q (F0 m 38 ls []) := by
  intro n
  induction n with
  | zero => intro t κ τ vj vd H locs ls h1; omega
  | succ n ih =>
    intro t κ τ vj vd H locs ls hn ht hW hT hS hl
    refine lv_iload hx hb dL_law_38 (lv_at hl 4 rfl) ?_
    refine lv_aload_n hx hb dL_law_40 rfl (lv_at hl 5 rfl) ?_
    refine va_slen hx hb hX hbl (Nat.not_le.mpr hbl) hS dL_law_41 ?_
    refine lv_iconst (v := nI 4) hx hb dL_law_42 (by decide +kernel) ?_
    refine lv_isub hx hb dL_law_43 ?_
    refine lv_icmp_gt (tgt := 518) hx hb dL_law_44 (by decide) (fun _ => ?_) (fun h => ?_)
    · refine va_forget (fun q hq => hS.2.2 q hq) (W.widen (k := 601024) (n := 7293000) (by omega) (by omega) (exit _ _))
    · have hi : 4 * t + 1 + 3 < L := lw_more hL (by omega) h
      have back : ∀ (κ : SX) (τ : SM) (vj : Int64) (vd : UInt64) (H : Heap) (locs : List Loc) (ls : Array Slot), Wd E ax am aj aD κ τ vj vd H → Tie κ τ → va_S (fun q => s.heap.size ≤ q) s.heap H locs → lv_has ls 9 [(1, .ref (ax 0)), (2, .ref (am 0)), (3, .ref aj), (4, .ref aD), (5, .int (nI (4 * t + 1))), (0, .ref b)] → W p l e room_1 s m args below meth c H locs (c0 + t + 1) (s0 + 6 * t + 6) Q (F0 m 512 ls []) := by
        intro κ τ vj vd H locs ls hW hT hS hl
        have h4 : nI (4 * t + 1) + 4 = nI (4 * (t + 1) + 1) := by
          rw [show (4 : Int32) = nI 4 from rfl, nI_add]
          exact congrArg nI (by omega)
        refine lv_iinc (v := nI (4 * (t + 1) + 1)) (lv' := [(5, .int (nI (4 * (t + 1) + 1))), (1, .ref (ax 0)), (2, .ref (am 0)), (3, .ref aj), (4, .ref aD), (0, .ref b)]) hx hb dL_law_512 hl (k := 4) rfl h4 (by decide) rfl (fun ls hl => ?_)
        refine lv_goto (tgt := 38) hx hb dL_law_515 (by decide) ?_
        refine W.widen (k := c0 + (t + 1)) (n := s0 + 6 * (t + 1)) (by omega) (by omega) ?_
        exact ih (t + 1) κ τ vj vd H locs ls (by omega) (by omega) hW hT hS (lv_sub hl [1, 2, 3, 4, 0, 5] rfl)
      refine lv_aload_n hx hb dL_law_47 rfl (lv_at hl 5 rfl) ?_
      refine lv_iload hx hb dL_law_48 (lv_at hl 4 rfl) ?_
      refine z_sld hx hb hX hbl (Nat.not_le.mpr hbl) hS (show 4 * t + 1 < L by omega) (show L < 2 ^ 31 by omega) dL_law_50 ?_
      refine lv_bipush (v := nI 15) hx hb dL_law_51 (by decide +kernel) ?_
      refine lv_iand hx hb dL_law_53 ?_
      obtain ⟨j, hj, e9⟩ := pk_andE (xs (4 * t + 1)) (m := nI 15) 4 (by decide)
      rw [e9]
      rcases (show j = 0 ∨ j = 1 ∨ j = 2 ∨ j = 3 ∨ j = 4 ∨ j = 5 ∨ j = 6 ∨ j = 7 ∨ j = 8 ∨ j = 9 ∨ 10 ≤ j by omega) with rfl | rfl | rfl | rfl | rfl | rfl | rfl | rfl | rfl | rfl | h10
      · refine lv_tableIn (tgt := 108) hx hb dL_law_54 (by decide) (by decide) (off := 54) (by decide +kernel) (by decide) ?_
        exact lwc_0 hx hb hml hown hts hX hbl hL hst9 hK hT9 hC9 hs hi (by omega) (by omega) hW hT hS hl back
      · refine lv_tableIn (tgt := 133) hx hb dL_law_54 (by decide) (by decide) (off := 79) (by decide +kernel) (by decide) ?_
        exact lwc_1 hx hb hml hown hts hX hbl hL hst9 hK hT9 hC9 hs hi (by omega) (by omega) hW hT hS hl back
      · refine lv_tableIn (tgt := 193) hx hb dL_law_54 (by decide) (by decide) (off := 139) (by decide +kernel) (by decide) ?_
        exact lwc_2 hx hb hml hown hts hX hbl hL hst9 hK hT9 hC9 hs hi (by omega) (by omega) hW hT hS hl back
      · refine lv_tableIn (tgt := 249) hx hb dL_law_54 (by decide) (by decide) (off := 195) (by decide +kernel) (by decide) ?_
        exact lwc_3 hx hb hml hown hts hX hbl hL hst9 hK hT9 hC9 hs hi (by omega) (by omega) hW hT hS hl back
      · refine lv_tableIn (tgt := 297) hx hb dL_law_54 (by decide) (by decide) (off := 243) (by decide +kernel) (by decide) ?_
        exact lwc_4 hx hb hml hown hts hX hbl hL hst9 hK hT9 hC9 hs hi (by omega) (by omega) hW hT hS hl back
      · refine lv_tableIn (tgt := 322) hx hb dL_law_54 (by decide) (by decide) (off := 268) (by decide +kernel) (by decide) ?_
        exact lwc_5 hx hb hml hown hts hX hbl hL hst9 hK hT9 hC9 hs hi (by omega) (by omega) hW hT hS hl back
      · refine lv_tableIn (tgt := 348) hx hb dL_law_54 (by decide) (by decide) (off := 294) (by decide +kernel) (by decide) ?_
        exact lwc_6 hx hb hml hown hts hX hbl hL hst9 hK hT9 hC9 hs hi (by omega) (by omega) hW hT hS hl back
      · refine lv_tableIn (tgt := 437) hx hb dL_law_54 (by decide) (by decide) (off := 383) (by decide +kernel) (by decide) ?_
        exact lwc_7 hx hb hml hown hts hX hbl hL hst9 hK hT9 hC9 hs hi (by omega) (by omega) hW hT hS hl back
      · refine lv_tableIn (tgt := 474) hx hb dL_law_54 (by decide) (by decide) (off := 420) (by decide +kernel) (by decide) ?_
        exact lwc_8 hx hb hml hown hts hX hbl hL hst9 hK hT9 hC9 hs hi (by omega) (by omega) hW hT hS hl back
      · refine lv_tableIn (tgt := 499) hx hb dL_law_54 (by decide) (by decide) (off := 445) (by decide +kernel) (by decide) ?_
        exact lwc_9 hx hb hml hown hts hX hbl hL hst9 hK hT9 hC9 hs hi (by omega) (by omega) hW hT hS hl back
      · refine lv_tableOut (tgt := 512) hx hb dL_law_54 (Or.inr (by rw [nI_toInt (by omega)]; omega)) (by decide) ?_
        exact W.widen (k := c0 + t + 1) (n := s0 + 6 * t + 6) (by omega) (by omega) (back κ τ vj vd H locs ls hW hT hS hl)
