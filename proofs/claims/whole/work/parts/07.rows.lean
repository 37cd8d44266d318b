/-! ===== branches over numbers; what a call hands over; the leaves ===== -/
section BROWS
variable {p : Program} {l : Launch} {e : Env} {R : Room} {s : State} {m : MethodId} {args : Array Value} {below : List Frame} {meth : Method} {c : Code} {Q : State → Prop} {H : Heap} {locs : List Loc} {cells slots : Nat} {cc : ByteArray} {pc : Nat} {ls : Array Slot} {rest : List Value}
theorem zb_ge (hx : p.tables.exec = Jvm.exec) (hb : c.code = cc) {a b : Nat} {off : Int} {tgt : Nat} (ha : a < 2 ^ 31) (hb9 : b < 2 ^ 31) (hdg : decode cc pc = .ok (.if_icmp .ge off, 3)) (ht : (pc : Int) + off = (tgt : Int))
    (kt : b ≤ a → W p l e R s m args below meth c H locs cells slots Q (F0 m tgt ls rest)) (kf : a < b → W p l e R s m args below meth c H locs cells slots Q (F0 m (pc + 3) ls rest)) : W p l e R s m args below meth c H locs cells slots Q (F0 m pc ls (.int (nI b) :: .int (nI a) :: rest)) :=
  lv_icmp_ge hx hb hdg ht (fun h => kt ((nI_leI hb9 ha).mp h)) (fun h => kf (Nat.lt_of_not_le fun q => h ((nI_leI hb9 ha).mpr q)))
theorem zb_lt (hx : p.tables.exec = Jvm.exec) (hb : c.code = cc) {a b : Nat} {off : Int} {tgt : Nat} (ha : a < 2 ^ 31) (hb9 : b < 2 ^ 31) (hdg : decode cc pc = .ok (.if_icmp .lt off, 3)) (ht : (pc : Int) + off = (tgt : Int))
    (kt : a < b → W p l e R s m args below meth c H locs cells slots Q (F0 m tgt ls rest)) (kf : b ≤ a → W p l e R s m args below meth c H locs cells slots Q (F0 m (pc + 3) ls rest)) : W p l e R s m args below meth c H locs cells slots Q (F0 m pc ls (.int (nI b) :: .int (nI a) :: rest)) :=
  lv_icmp_lt hx hb hdg ht (fun h => kt ((nI_ltI ha hb9).mp h)) (fun h => kf (Nat.le_of_not_lt fun q => h ((nI_ltI ha hb9).mpr q)))
theorem zb_eq (hx : p.tables.exec = Jvm.exec) (hb : c.code = cc) {a b : Nat} {off : Int} {tgt : Nat} (ha : a < 2 ^ 31) (hb9 : b < 2 ^ 31) (hdg : decode cc pc = .ok (.if_icmp .eq off, 3)) (ht : (pc : Int) + off = (tgt : Int))
    (kt : a = b → W p l e R s m args below meth c H locs cells slots Q (F0 m tgt ls rest)) (kf : a ≠ b → W p l e R s m args below meth c H locs cells slots Q (F0 m (pc + 3) ls rest)) : W p l e R s m args below meth c H locs cells slots Q (F0 m pc ls (.int (nI b) :: .int (nI a) :: rest)) :=
  lv_icmp_eq hx hb hdg ht (fun h => kt ((nI_eq ha hb9).mp h)) (fun h => kf (fun q => h ((nI_eq ha hb9).mpr q)))
theorem zb_ne (hx : p.tables.exec = Jvm.exec) (hb : c.code = cc) {a b : Nat} {off : Int} {tgt : Nat} (ha : a < 2 ^ 31) (hb9 : b < 2 ^ 31) (hdg : decode cc pc = .ok (.if_icmp .ne off, 3)) (ht : (pc : Int) + off = (tgt : Int))
    (kt : a ≠ b → W p l e R s m args below meth c H locs cells slots Q (F0 m tgt ls rest)) (kf : a = b → W p l e R s m args below meth c H locs cells slots Q (F0 m (pc + 3) ls rest)) : W p l e R s m args below meth c H locs cells slots Q (F0 m pc ls (.int (nI b) :: .int (nI a) :: rest)) :=
  lv_icmp_ne hx hb hdg ht (fun h => kt (fun q => h ((nI_eq ha hb9).mpr q))) (fun h => kf ((nI_eq ha hb9).mp h))
theorem zb_le (hx : p.tables.exec = Jvm.exec) (hb : c.code = cc) {a b : Nat} {off : Int} {tgt : Nat} (ha : a < 2 ^ 31) (hb9 : b < 2 ^ 31) (hdg : decode cc pc = .ok (.if_icmp .le off, 3)) (ht : (pc : Int) + off = (tgt : Int))
    (kt : a ≤ b → W p l e R s m args below meth c H locs cells slots Q (F0 m tgt ls rest)) (kf : b < a → W p l e R s m args below meth c H locs cells slots Q (F0 m (pc + 3) ls rest)) : W p l e R s m args below meth c H locs cells slots Q (F0 m pc ls (.int (nI b) :: .int (nI a) :: rest)) :=
  lv_icmp_le hx hb hdg ht (fun h => kt ((nI_leI ha hb9).mp h)) (fun h => kf (Nat.lt_of_not_le fun q => h ((nI_leI ha hb9).mpr q)))
theorem zb_gt (hx : p.tables.exec = Jvm.exec) (hb : c.code = cc) {a b : Nat} {off : Int} {tgt : Nat} (ha : a < 2 ^ 31) (hb9 : b < 2 ^ 31) (hdg : decode cc pc = .ok (.if_icmp .gt off, 3)) (ht : (pc : Int) + off = (tgt : Int))
    (kt : b < a → W p l e R s m args below meth c H locs cells slots Q (F0 m tgt ls rest)) (kf : a ≤ b → W p l e R s m args below meth c H locs cells slots Q (F0 m (pc + 3) ls rest)) : W p l e R s m args below meth c H locs cells slots Q (F0 m pc ls (.int (nI b) :: .int (nI a) :: rest)) :=
  lv_icmp_gt hx hb hdg ht (fun h => kt ((nI_ltI hb9 ha).mp h)) (fun h => kf (Nat.le_of_not_lt fun q => h ((nI_ltI hb9 ha).mpr q)))
theorem zu_eq (hx : p.tables.exec = Jvm.exec) (hb : c.code = cc) {a : Nat} {off : Int} {tgt : Nat} (ha : a < 2 ^ 31) (hdg : decode cc pc = .ok (.ifCond .eq off, 3)) (ht : (pc : Int) + off = (tgt : Int))
    (kt : a = 0 → W p l e R s m args below meth c H locs cells slots Q (F0 m tgt ls rest)) (kf : 0 < a → W p l e R s m args below meth c H locs cells slots Q (F0 m (pc + 3) ls rest)) : W p l e R s m args below meth c H locs cells slots Q (F0 m pc ls (.int (nI a) :: rest)) :=
  lv_if_eq hx hb hdg ht (fun h => kt (by rw [← nI_0] at h; exact (nI_eq ha (by decide)).mp h)) (fun h => kf (Nat.pos_of_ne_zero fun q => h (by rw [q]; exact nI_0)))
theorem zu_ne (hx : p.tables.exec = Jvm.exec) (hb : c.code = cc) {a : Nat} {off : Int} {tgt : Nat} (ha : a < 2 ^ 31) (hdg : decode cc pc = .ok (.ifCond .ne off, 3)) (ht : (pc : Int) + off = (tgt : Int))
    (kt : 0 < a → W p l e R s m args below meth c H locs cells slots Q (F0 m tgt ls rest)) (kf : a = 0 → W p l e R s m args below meth c H locs cells slots Q (F0 m (pc + 3) ls rest)) : W p l e R s m args below meth c H locs cells slots Q (F0 m pc ls (.int (nI a) :: rest)) :=
  lv_if_ne hx hb hdg ht (fun h => kt (Nat.pos_of_ne_zero fun q => h (by rw [q]; exact nI_0))) (fun h => kf (by rw [← nI_0] at h; exact (nI_eq ha (by decide)).mp h))
theorem zu_le (hx : p.tables.exec = Jvm.exec) (hb : c.code = cc) {a : Nat} {off : Int} {tgt : Nat} (ha : a < 2 ^ 31) (hdg : decode cc pc = .ok (.ifCond .le off, 3)) (ht : (pc : Int) + off = (tgt : Int))
    (kt : a = 0 → W p l e R s m args below meth c H locs cells slots Q (F0 m tgt ls rest)) (kf : 0 < a → W p l e R s m args below meth c H locs cells slots Q (F0 m (pc + 3) ls rest)) : W p l e R s m args below meth c H locs cells slots Q (F0 m pc ls (.int (nI a) :: rest)) :=
  lv_if_le hx hb hdg ht (fun h => kt (Classical.not_not.mp fun q => nI_nle (Nat.pos_of_ne_zero q) ha h)) (fun h => kf (Nat.pos_of_ne_zero fun q => h (by rw [q, nI_0]; exact Int32.le_refl 0)))
theorem zu_gt (hx : p.tables.exec = Jvm.exec) (hb : c.code = cc) {a : Nat} {off : Int} {tgt : Nat} (ha : a < 2 ^ 31) (hdg : decode cc pc = .ok (.ifCond .gt off, 3)) (ht : (pc : Int) + off = (tgt : Int))
    (kt : 0 < a → W p l e R s m args below meth c H locs cells slots Q (F0 m tgt ls rest)) (kf : a = 0 → W p l e R s m args below meth c H locs cells slots Q (F0 m (pc + 3) ls rest)) : W p l e R s m args below meth c H locs cells slots Q (F0 m pc ls (.int (nI a) :: rest)) :=
  lv_if_gt hx hb hdg ht (fun h => kt (Nat.pos_of_ne_zero fun q => by rw [q, nI_0] at h; exact Int32.lt_irrefl h)) (fun h => kf (Classical.not_not.mp fun q => h (by have := nI_lt (a := 0) (Nat.pos_of_ne_zero q) ha; rw [nI_0] at this; exact this)))
theorem zu_lt (hx : p.tables.exec = Jvm.exec) (hb : c.code = cc) {a : Nat} {off : Int} (tgt : Nat) (ha : a < 2 ^ 31) (hdg : decode cc pc = .ok (.ifCond .lt off, 3)) (ht : (pc : Int) + off = (tgt : Int)) (kf : W p l e R s m args below meth c H locs cells slots Q (F0 m (pc + 3) ls rest)) : W p l e R s m args below meth c H locs cells slots Q (F0 m pc ls (.int (nI a) :: rest)) :=
  lv_if_lt (tgt := tgt) hx hb hdg ht (fun h => absurd h (nI_pos ha)) (fun _ => kf)
theorem zu_ge (hx : p.tables.exec = Jvm.exec) (hb : c.code = cc) {a : Nat} {off : Int} (tgt : Nat) (ha : a < 2 ^ 31) (hdg : decode cc pc = .ok (.ifCond .ge off, 3)) (ht : (pc : Int) + off = (tgt : Int)) (kt : W p l e R s m args below meth c H locs cells slots Q (F0 m tgt ls rest)) : W p l e R s m args below meth c H locs cells slots Q (F0 m pc ls (.int (nI a) :: rest)) :=
  lv_if_ge (tgt := tgt) hx hb hdg ht (fun _ => kt) (fun h => absurd (nI_pos' ha) h)
end BROWS
theorem zblind {av : List Value} {D : va_G} {cl : List vw_C} {ws : va_W} {E : zE} : FrameBlind (va_Pc av (fun U => va_P D cl ws U.heap ∧ zK E U)) := fun _ U _ _ h => ⟨h.1, h.2.1, va_K.moved (Vm.Alike.refl U.vm) h.2.2⟩
theorem zps {s : State} {H : Heap} {As : List Value} : PreS s H (va_Pc As (fun _ => True)) As := ⟨fun _ _ _ _ q => q, fun _ _ _ => ⟨rfl, trivial⟩⟩
theorem zpx {s : State} {H : Heap} {E : zE} {ad : Nat → Nat} {κ : SX} {As : List Value} (hK : zK E s) (hP : PX E ad κ H) : PreV s H RX0 (ad 0) (va_Pc (.ref (ad 0) :: As) (fun U => PX E ad κ U.heap ∧ zK E U)) As := ⟨zblind, va_recv hK hP (ci := 1) (q0 := 0) rfl (wn_at (show 0 < 96 by decide)), fun U hU hW => ⟨rfl, by rw [hU]; exact hP, va_K.moved hW.alike hK⟩⟩
theorem zpm {s : State} {H : Heap} {E : zE} {ad : Nat → Nat} {τ : SM} {As : List Value} (hK : zK E s) (hP : PM E ad τ H) : PreV s H RX1 (ad 0) (va_Pc (.ref (ad 0) :: As) (fun U => PM E ad τ U.heap ∧ zK E U)) As := ⟨zblind, va_recv hK hP (ci := 2) (q0 := 0) rfl (wn_at (show 0 < 8 by decide)), fun U hU hW => ⟨rfl, by rw [hU]; exact hP, va_K.moved hW.alike hK⟩⟩
set_option maxRecDepth 20000 in
theorem innX0_example : ∀ w ∈ wsX00, w ∈ wsX0_example := by decide +kernel
set_option maxRecDepth 20000 in
theorem innX0_feature : ∀ w ∈ wsX00, w ∈ wsX0_feature := by decide +kernel
set_option maxRecDepth 20000 in
theorem innX0_make : ∀ w ∈ wsX00, w ∈ wsX0_make := by decide +kernel
set_option maxRecDepth 20000 in
theorem innX0_sign : ∀ w ∈ wsX00, w ∈ wsX0_sign := by decide +kernel
set_option maxRecDepth 20000 in
theorem innX0_tell : ∀ w ∈ wsX00, w ∈ wsX0_tell := by decide +kernel
set_option maxRecDepth 20000 in
theorem innX0_distance : ∀ w ∈ wsX00, w ∈ wsX0_distance := by decide +kernel
set_option maxRecDepth 20000 in
theorem innX0_weight : ∀ w ∈ wsX00, w ∈ wsX0_weight := by decide +kernel
set_option maxRecDepth 20000 in
theorem innX0_confused : ∀ w ∈ wsX00, w ∈ wsX0_confused := by decide +kernel
set_option maxRecDepth 20000 in
theorem innX0_margin : ∀ w ∈ wsX00, w ∈ wsX0_margin := by decide +kernel
set_option maxRecDepth 20000 in
theorem innX0_clear : ∀ w ∈ wsX00, w ∈ wsX0_clear := by decide +kernel
set_option maxRecDepth 20000 in
theorem innX0_isFeature : ∀ w ∈ wsX00, w ∈ wsX0_isFeature := by decide +kernel
set_option maxRecDepth 20000 in
theorem innX0_makeMeans : ∀ w ∈ wsX00, w ∈ wsX0_makeMeans := by decide +kernel
set_option maxRecDepth 20000 in
theorem innX0_divideMeans : ∀ w ∈ wsX00, w ∈ wsX0_divideMeans := by decide +kernel
set_option maxRecDepth 20000 in
theorem innX0_makeFirstWeights : ∀ w ∈ wsX00, w ∈ wsX0_makeFirstWeights := by decide +kernel
set_option maxRecDepth 20000 in
theorem innX0_goRound : ∀ w ∈ wsX00, w ∈ wsX0_goRound := by decide +kernel
set_option maxRecDepth 20000 in
theorem innX0_shiftWeights : ∀ w ∈ wsX00, w ∈ wsX0_shiftWeights := by decide +kernel
set_option maxRecDepth 20000 in
theorem innX0_countConfusions : ∀ w ∈ wsX00, w ∈ wsX0_countConfusions := by decide +kernel
set_option maxRecDepth 20000 in
theorem innX0_distanceTo : ∀ w ∈ wsX00, w ∈ wsX0_distanceTo := by decide +kernel
set_option maxRecDepth 20000 in
theorem innX0_nearestClass : ∀ w ∈ wsX00, w ∈ wsX0_nearestClass := by decide +kernel
set_option maxRecDepth 20000 in
theorem innX0_isSignBlank : ∀ w ∈ wsX00, w ∈ wsX0_isSignBlank := by decide +kernel
set_option maxRecDepth 20000 in
theorem innX0_isTooClose : ∀ w ∈ wsX00, w ∈ wsX0_isTooClose := by decide +kernel
set_option maxRecDepth 20000 in
theorem innX1_thrown : ∀ w ∈ wsX10, w ∈ wsX1_thrown := by decide +kernel
set_option maxRecDepth 20000 in
theorem innX1_example : ∀ w ∈ wsX10, w ∈ wsX1_example := by decide +kernel
set_option maxRecDepth 20000 in
theorem innX1_isFeature : ∀ w ∈ wsX10, w ∈ wsX1_isFeature := by decide +kernel
set_option maxRecDepth 20000 in
theorem innX1_feature : ∀ w ∈ wsX10, w ∈ wsX1_feature := by decide +kernel
set_option maxRecDepth 20000 in
theorem innX1_sign : ∀ w ∈ wsX10, w ∈ wsX1_sign := by decide +kernel
set_option maxRecDepth 20000 in
theorem innX1_distanceTo : ∀ w ∈ wsX10, w ∈ wsX1_distanceTo := by decide +kernel
set_option maxRecDepth 20000 in
theorem innX1_nearest : ∀ w ∈ wsX10, w ∈ wsX1_nearest := by decide +kernel
set_option maxRecDepth 20000 in
theorem innX1_means : ∀ w ∈ wsX10, w ∈ wsX1_means := by decide +kernel
set_option maxRecDepth 20000 in
theorem innX1_round : ∀ w ∈ wsX10, w ∈ wsX1_round := by decide +kernel
set_option maxRecDepth 20000 in
theorem innX1_make : ∀ w ∈ wsX10, w ∈ wsX1_make := by decide +kernel
set_option maxRecDepth 20000 in
theorem innX1_ranked : ∀ w ∈ wsX10, w ∈ wsX1_ranked := by decide +kernel
set_option maxRecDepth 20000 in
theorem innX1_refusal : ∀ w ∈ wsX10, w ∈ wsX1_refusal := by decide +kernel
set_option maxRecDepth 20000 in
theorem innX1_tell : ∀ w ∈ wsX10, w ∈ wsX1_tell := by decide +kernel
set_option maxRecDepth 20000 in
theorem innX1_distance : ∀ w ∈ wsX10, w ∈ wsX1_distance := by decide +kernel
set_option maxRecDepth 20000 in
theorem innX1_weight : ∀ w ∈ wsX10, w ∈ wsX1_weight := by decide +kernel
set_option maxRecDepth 20000 in
theorem innX1_confused : ∀ w ∈ wsX10, w ∈ wsX1_confused := by decide +kernel
set_option maxRecDepth 20000 in
theorem innX1_margin : ∀ w ∈ wsX10, w ∈ wsX1_margin := by decide +kernel
set_option maxRecDepth 20000 in
theorem innX1_clear : ∀ w ∈ wsX10, w ∈ wsX1_clear := by decide +kernel
/-- the first n numbers: is x one? -/
def among (n : Nat) (x r : Int32) : Prop := (∃ j : Nat, j < n ∧ x = nI j ∧ r = nI 1) ∨ ((∀ j : Nat, j < n → x ≠ nI j) ∧ r = nI 0)
theorem among_y {n : Nat} {x r : Int32} {j : Nat} (h : j < n) (hx : x = nI j) (hr : r = nI 1) : among n x r := Or.inl ⟨j, h, hx, hr⟩
theorem among_lo {n : Nat} {x r : Int32} (hn : n < 2 ^ 31) (h : x < 0) (hr : r = nI 0) : among n x r := Or.inr ⟨fun j hj e => nI_pos (show j < 2 ^ 31 by omega) (e ▸ h), hr⟩
theorem among_hi {n : Nat} {x r : Int32} (hn : n < 2 ^ 31) (h : nI n ≤ x) (hr : r = nI 0) : among n x r := Or.inr ⟨fun j hj e => nI_ge hj hn (e ▸ h), hr⟩
/-- the lowest byte -/
def lbN (x : Int32) : Nat := x.toBitVec.toNat % 256
theorem lbN_lt (x : Int32) : lbN x < 256 := Nat.mod_lt _ (by decide)
theorem lbN_eq (x : Int32) : x &&& nI 255 = nI (lbN x) := pk_and x 8 (by decide +kernel)
set_option maxHeartbeats 4000000 in
set_option maxRecDepth 100000 in
theorem kX0_isClass (l : Launch) (x : Int32) : Met l yX0_isClass wsX0_isClass ({ frames := 0, cells := 0, slots := 0, locals := 0 }) (va_Pc [.int x] (fun _ => True)) (va_Qi (fun (r : Int32) (_ : Unit) => among 16 x r) (fun _ _ => True) (fun _ => False)) 0 0 (fun _ => False) := by
  refine Met.ofW (cc := cX0_isClass) (maxL := 1) (ret := some .boolean) (by decide) rfl ?_
  intro p e s m args below meth c s₁ B hml hv
  obtain ⟨rfl, -⟩ := hv
  have hx := B.exec
  have hb := B.bytes
  have hr := B.returns
  have hlocks := B.notSynchronized
  have hS : va_S (fun _ => False) s.heap s.heap [] := va_S.rf
  have hl := lv_entry ([.int x]) (n := 1) (Nat.le_of_ble_eq_true rfl)
  rw [lg_entry_eq]
  generalize (lg_sl ([.int x]) ++ List.replicate (1 - (lg_sl ([.int x])).length) Slot.unset).toArray = ls at hl ⊢
  have hl : lv_has ls 1 [(0, .int x)] := hl
  refine lv_iload_n hx hb dX0_isClass_0 rfl (lv_at hl 0 rfl) ?_
  refine lv_if_lt (tgt := 14) hx hb dX0_isClass_1 (by decide) (fun h => ?_) (fun h => ?_)
  · refine lv_iconst (v := nI 0) hx hb dX0_isClass_14 (by decide +kernel) ?_
    exact W.zret hx hb hr (by decide +kernel) (fun t ht hW => ⟨⟨_, (), rfl, among_lo (by decide) h rfl, trivial⟩, hS.F ht⟩) hS.2.2 dX0_isClass_15
  · refine lv_iload_n hx hb dX0_isClass_4 rfl (lv_at hl 0 rfl) ?_
    refine lv_bipush (v := nI 16) hx hb dX0_isClass_5 (by decide +kernel) ?_
    refine lv_icmp_ge (tgt := 14) hx hb dX0_isClass_7 (by decide) (fun h2 => ?_) (fun h2 => ?_)
    · refine lv_iconst (v := nI 0) hx hb dX0_isClass_14 (by decide +kernel) ?_
      exact W.zret hx hb hr (by decide +kernel) (fun t ht hW => ⟨⟨_, (), rfl, among_hi (by decide) h2 rfl, trivial⟩, hS.F ht⟩) hS.2.2 dX0_isClass_15
    · obtain ⟨j, hj, rfl⟩ := (pk_ix x (n := 16) (by decide)).resolve_left h |>.resolve_left h2
      refine lv_iconst (v := nI 1) hx hb dX0_isClass_10 (by decide +kernel) ?_
      refine lv_goto (tgt := 15) hx hb dX0_isClass_11 (by decide) ?_
      exact W.zret hx hb hr (by decide +kernel) (fun t ht hW => ⟨⟨_, (), rfl, among_y hj rfl rfl, trivial⟩, hS.F ht⟩) hS.2.2 dX0_isClass_15
set_option maxHeartbeats 4000000 in
set_option maxRecDepth 100000 in
theorem kX0_isRank (l : Launch) (x : Int32) : Met l yX0_isRank wsX0_isRank ({ frames := 0, cells := 0, slots := 0, locals := 0 }) (va_Pc [.int x] (fun _ => True)) (va_Qi (fun (r : Int32) (_ : Unit) => among 2 x r) (fun _ _ => True) (fun _ => False)) 0 0 (fun _ => False) := by
  refine Met.ofW (cc := cX0_isRank) (maxL := 1) (ret := some .boolean) (by decide) rfl ?_
  intro p e s m args below meth c s₁ B hml hv
  obtain ⟨rfl, -⟩ := hv
  have hx := B.exec
  have hb := B.bytes
  have hr := B.returns
  have hlocks := B.notSynchronized
  have hS : va_S (fun _ => False) s.heap s.heap [] := va_S.rf
  have hl := lv_entry ([.int x]) (n := 1) (Nat.le_of_ble_eq_true rfl)
  rw [lg_entry_eq]
  generalize (lg_sl ([.int x]) ++ List.replicate (1 - (lg_sl ([.int x])).length) Slot.unset).toArray = ls at hl ⊢
  have hl : lv_has ls 1 [(0, .int x)] := hl
  refine lv_iload_n hx hb dX0_isRank_0 rfl (lv_at hl 0 rfl) ?_
  refine lv_if_eq (tgt := 9) hx hb dX0_isRank_1 (by decide) (fun h => ?_) (fun h => ?_)
  · refine lv_iconst (v := nI 1) hx hb dX0_isRank_9 (by decide +kernel) ?_
    refine lv_goto (tgt := 14) hx hb dX0_isRank_10 (by decide) ?_
    exact W.zret hx hb hr (by decide +kernel) (fun t ht hW => ⟨⟨_, (), rfl, among_y (j := 0) (by decide) (h.trans nI_0.symm) rfl, trivial⟩, hS.F ht⟩) hS.2.2 dX0_isRank_14
  · refine lv_iload_n hx hb dX0_isRank_4 rfl (lv_at hl 0 rfl) ?_
    refine lv_iconst (v := nI 1) hx hb dX0_isRank_5 (by decide +kernel) ?_
    refine lv_icmp_ne (tgt := 13) hx hb dX0_isRank_6 (by decide) (fun h2 => ?_) (fun h2 => ?_)
    · refine lv_iconst (v := nI 0) hx hb dX0_isRank_13 (by decide +kernel) ?_
      exact W.zret hx hb hr (by decide +kernel) (fun t ht hW => ⟨⟨_, (), rfl, Or.inr ⟨fun j hj e => by rcases (show j = 0 ∨ j = 1 by omega) with rfl | rfl; exact h (e.trans nI_0); exact h2 e, rfl⟩, trivial⟩, hS.F ht⟩) hS.2.2 dX0_isRank_14
    · refine lv_iconst (v := nI 1) hx hb dX0_isRank_9 (by decide +kernel) ?_
      refine lv_goto (tgt := 14) hx hb dX0_isRank_10 (by decide) ?_
      exact W.zret hx hb hr (by decide +kernel) (fun t ht hW => ⟨⟨_, (), rfl, among_y (j := 1) (by decide) h2 rfl, trivial⟩, hS.F ht⟩) hS.2.2 dX0_isRank_14
set_option maxHeartbeats 4000000 in
set_option maxRecDepth 100000 in
theorem kX0_lowestByte (l : Launch) (x : Int32) : Met l yX0_lowestByte wsX0_lowestByte ({ frames := 0, cells := 0, slots := 0, locals := 0 }) (va_Pc [.int x] (fun _ => True)) (va_Qi (fun (r : Int32) (_ : Unit) => r = nI (lbN x)) (fun _ _ => True) (fun _ => False)) 0 0 (fun _ => False) := by
  refine Met.ofW (cc := cX0_lowestByte) (maxL := 1) (ret := some .int) (by decide) rfl ?_
  intro p e s m args below meth c s₁ B hml hv
  obtain ⟨rfl, -⟩ := hv
  have hx := B.exec
  have hb := B.bytes
  have hr := B.returns
  have hlocks := B.notSynchronized
  have hS : va_S (fun _ => False) s.heap s.heap [] := va_S.rf
  have hl := lv_entry ([.int x]) (n := 1) (Nat.le_of_ble_eq_true rfl)
  rw [lg_entry_eq]
  generalize (lg_sl ([.int x]) ++ List.replicate (1 - (lg_sl ([.int x])).length) Slot.unset).toArray = ls at hl ⊢
  have hl : lv_has ls 1 [(0, .int x)] := hl
  refine lv_iload_n hx hb dX0_lowestByte_0 rfl (lv_at hl 0 rfl) ?_
  refine lv_sipush (v := nI 255) hx hb dX0_lowestByte_1 (by decide +kernel) ?_
  refine zv_iand hx hb dX0_lowestByte_4 (lbN_eq x) ?_
  exact W.iret hx hb hr (fun t ht hW => ⟨⟨_, (), rfl, rfl, trivial⟩, hS.F ht⟩) hS.2.2 dX0_lowestByte_5
set_option maxHeartbeats 4000000 in
set_option maxRecDepth 100000 in
theorem kX0_size (l : Launch) (x : UInt64) : Met l yX0_size wsX0_size ({ frames := 0, cells := 0, slots := 0, locals := 0 }) (va_Pc [.double x] (fun _ => True)) (va_Qd (fun (r : UInt64) (_ : Unit) => r = szF x) (fun _ _ => True) (fun _ => False)) 0 0 (fun _ => False) := by
  refine Met.ofW (cc := cX0_size) (maxL := 2) (ret := some .double) (by decide) rfl ?_
  intro p e s m args below meth c s₁ B hml hv
  obtain ⟨rfl, -⟩ := hv
  have hx := B.exec
  have hb := B.bytes
  have hr := B.returns
  have hlocks := B.notSynchronized
  have hS : va_S (fun _ => False) s.heap s.heap [] := va_S.rf
  have hl := lv_entry ([.double x]) (n := 2) (Nat.le_of_ble_eq_true rfl)
  rw [lg_entry_eq]
  generalize (lg_sl ([.double x]) ++ List.replicate (2 - (lg_sl ([.double x])).length) Slot.unset).toArray = ls at hl ⊢
  have hl : lv_has ls 2 [(0, .double x)] := hl
  refine lv_dload_n hx hb dX0_size_0 rfl (lv_at hl 0 rfl) ?_
  refine lv_dconst0 hx hb dX0_size_1 ?_
  refine lv_dcmp hx hb dX0_size_2 ?_
  refine lv_if_ge (tgt := 11) hx hb dX0_size_3 (by decide) (fun h => ?_) (fun h => ?_)
  · refine lv_dload_n hx hb dX0_size_11 rfl (lv_at hl 0 rfl) ?_
    exact W.dret hx hb hr (fun t ht hW => ⟨⟨_, (), rfl, (if_pos h).symm, trivial⟩, hS.F ht⟩) hS.2.2 dX0_size_12
  · refine lv_dload_n hx hb dX0_size_6 rfl (lv_at hl 0 rfl) ?_
    refine lv_dneg hx hb dX0_size_7 ?_
    refine lv_goto (tgt := 12) hx hb dX0_size_8 (by decide) ?_
    exact W.dret hx hb hr (fun t ht hW => ⟨⟨_, (), rfl, (if_neg h).symm, trivial⟩, hS.F ht⟩) hS.2.2 dX0_size_12
set_option maxHeartbeats 4000000 in
set_option maxRecDepth 100000 in
theorem kX1_size (l : Launch) (x : UInt64) : Met l yX1_size wsX1_size ({ frames := 0, cells := 0, slots := 0, locals := 0 }) (va_Pc [.double x] (fun _ => True)) (va_Qd (fun (r : UInt64) (_ : Unit) => r = szF x) (fun _ _ => True) (fun _ => False)) 0 0 (fun _ => False) := by
  refine Met.ofW (cc := cX1_size) (maxL := 2) (ret := some .double) (by decide) rfl ?_
  intro p e s m args below meth c s₁ B hml hv
  obtain ⟨rfl, -⟩ := hv
  have hx := B.exec
  have hb := B.bytes
  have hr := B.returns
  have hlocks := B.notSynchronized
  have hS : va_S (fun _ => False) s.heap s.heap [] := va_S.rf
  have hl := lv_entry ([.double x]) (n := 2) (Nat.le_of_ble_eq_true rfl)
  rw [lg_entry_eq]
  generalize (lg_sl ([.double x]) ++ List.replicate (2 - (lg_sl ([.double x])).length) Slot.unset).toArray = ls at hl ⊢
  have hl : lv_has ls 2 [(0, .double x)] := hl
  refine lv_dload_n hx hb dX1_size_0 rfl (lv_at hl 0 rfl) ?_
  refine lv_dconst0 hx hb dX1_size_1 ?_
  refine lv_dcmp hx hb dX1_size_2 ?_
  refine lv_if_ge (tgt := 11) hx hb dX1_size_3 (by decide) (fun h => ?_) (fun h => ?_)
  · refine lv_dload_n hx hb dX1_size_11 rfl (lv_at hl 0 rfl) ?_
    exact W.dret hx hb hr (fun t ht hW => ⟨⟨_, (), rfl, (if_pos h).symm, trivial⟩, hS.F ht⟩) hS.2.2 dX1_size_12
  · refine lv_dload_n hx hb dX1_size_6 rfl (lv_at hl 0 rfl) ?_
    refine lv_dneg hx hb dX1_size_7 ?_
    refine lv_goto (tgt := 12) hx hb dX1_size_8 (by decide) ?_
    exact W.dret hx hb hr (fun t ht hW => ⟨⟨_, (), rfl, (if_neg h).symm, trivial⟩, hS.F ht⟩) hS.2.2 dX1_size_12
