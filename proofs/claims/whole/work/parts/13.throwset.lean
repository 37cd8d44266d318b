/-! ===== the class: methods that throw ===== -/
def nmI : List String := ["java/lang/IndexOutOfBoundsException", "java/lang/RuntimeException", "java/lang/Exception"]
def nmA : List String := ["java/lang/RuntimeException", "java/lang/Exception"]
def atI : List Cond := vx_atS RX0 53 RJx00060 nmI
def atA : List Cond := vx_atS RX0 64 "java/lang/ArithmeticException" nmA
def isCD : Cond → Bool
  | .castable _ _ => true
  | .declares _ => true
  | _ => false
def atB : List Cond := (atI ++ atA).filter (fun w => !goodWord w)
set_option maxRecDepth 20000 in
theorem atB_cd : atB.all isCD = true := by decide +kernel
theorem isCD_ot {w : Cond} (h : isCD w = true) : w.onTables = true := by cases w <;> first | rfl | (simp [isCD] at h)
theorem isCD_warm {w : Cond} {s U : State} (h : isCD w = true) (hW : s.WarmedH U.vm) (hZ : va_Nw w s) : va_Nw w U := by
  cases w with
  | castable C T => exact va_Nw.warmC hW hZ
  | declares x => exact va_Nw.warmD hW hZ
  | _ => exact absurd h (by simp [isCD])
/-- what a throw asks of the machine -/
def zTh (A : Nat → Prop) (U : State) : Prop := (∀ w ∈ atB, va_Nw w U) ∧ vx_Zq Bundle.tN "UNASSIGNED_STACK" Bundle.steD A U U.heap ∧ vx_Zq Bundle.tN "SUPPRESSED_SENTINEL" Bundle.listD A U U.heap ∧ (∃ a : Nat, vk_R RX0 51 "no such example or feature" a U) ∧ (∃ a : Nat, vk_R RX0 62 "no examples" a U) ∧ (∃ a : Nat, vk_R RX0 81 "no such feature" a U) ∧ (∃ a : Nat, vk_R RX0 110 "no such class or feature" a U)
theorem zTh.go {A B : Nat → Prop} {s U : State} {H : Heap} {locs : List Loc} (h : zTh B s) (hW : s.WarmedH U.vm) (hU : U.heap = H) (hS : va_S B s.heap H locs) (hAB : ∀ q, A q → B q) : zTh A U := by
  obtain ⟨h1, h2, h3, ⟨a4, h4⟩, ⟨a5, h5⟩, ⟨a6, h6⟩, ⟨a7, h7⟩⟩ := h
  refine ⟨fun w hw => isCD_warm (List.all_eq_true.mp atB_cd w hw) hW (h1 w hw), ?_, ?_, ⟨a4, vk_R.warm hW h4⟩, ⟨a5, vk_R.warm hW h5⟩, ⟨a6, vk_R.warm hW h6⟩, ⟨a7, vk_R.warm hW h7⟩⟩
  · rw [hU]; exact ((h2.moved hW.alike).kept hS.2.1).narrow hAB
  · rw [hU]; exact ((h3.moved hW.alike).kept hS.2.1).narrow hAB
theorem zTh.same {A : Nat → Prop} {U V : State} (h : zTh A U) (h1 : V.vm = U.vm) (h2 : V.heap = U.heap) : zTh A V := by
  obtain ⟨g1, g2, g3, ⟨a4, g4⟩, ⟨a5, g5⟩, ⟨a6, g6⟩, ⟨a7, g7⟩⟩ := h
  have hal : U.vm.Alike V.vm := h1.symm ▸ Vm.Alike.refl _
  refine ⟨fun w hw => va_Nw.same (isCD_ot (List.all_eq_true.mp atB_cd w hw)) h1.symm (g1 w hw), ?_, ?_, ⟨a4, vk_R.same h1 g4⟩, ⟨a5, vk_R.same h1 g5⟩, ⟨a6, vk_R.same h1 g6⟩, ⟨a7, vk_R.same h1 g7⟩⟩
  · rw [h2]; exact g2.moved hal
  · rw [h2]; exact g3.moved hal
theorem zblindT {av : List Value} {D : va_G} {cl : List vw_C} {ws : va_W} {E : zE} {A : Nat → Prop} : FrameBlind (va_Pc av (fun U => va_P D cl ws U.heap ∧ zK E U ∧ zTh A U)) := fun _ U _ _ h => ⟨h.1, h.2.1, va_K.moved (Vm.Alike.refl U.vm) h.2.2.1, h.2.2.2.same rfl rfl⟩
theorem zpxT {s : State} {H : Heap} {E : zE} {ad : Nat → Nat} {κ : SX} {As : List Value} {B : Nat → Prop} {locs : List Loc} (hK : zK E s) (hP : PX E ad κ H) (hT : zTh B s) (hS : va_S B s.heap H locs) (hAB : ∀ q, aX 96 ad q → B q) : PreV s H RX0 (ad 0) (va_Pc (.ref (ad 0) :: As) (fun U => PX E ad κ U.heap ∧ zK E U ∧ zTh (aX 96 ad) U)) As := ⟨zblindT, va_recv hK hP (ci := 1) (q0 := 0) rfl (wn_at (show 0 < 96 by decide)), fun U hU hW => ⟨rfl, by rw [hU]; exact hP, va_K.moved hW.alike hK, hT.go hW hU hS hAB⟩⟩
theorem zFx {A : Nat → Prop} {s t : State} {H : Heap} {locs : List Loc} (hS : va_S A s.heap H locs) (hsz : H.size ≤ t.heap.size) (hq : ∀ q : Nat, q < H.size → t.heap[q]? = H[q]?) : va_F A s t := ⟨Nat.le_trans hS.1 hsz, fun q h1 h2 => (hq q (Nat.lt_of_lt_of_le h1 hS.1)).trans (hS.2.1 q h1 h2)⟩
theorem zPx {D : va_G} {cl : List vw_C} {ws : va_W} {H : Heap} {t : State} (hP : va_P D cl ws H) (hq : ∀ q : Nat, q < H.size → t.heap[q]? = H[q]?) : va_P D cl ws t.heap := hP.kept fun k q hk => hq q.1 ((hP k q hk).lt)
theorem goodIn_mono {a b c : List Cond} (h : ∀ w ∈ a, w ∈ b) (hg : GoodIn a c) : GoodIn b c := fun w hw => ⟨h w (hg w hw).1, (hg w hw).2⟩
set_option maxRecDepth 20000 in
theorem atI_ot : (Cond.classLink RX0 49 RJx00060 :: Cond.initialized RJx00060 :: atI).all vx_ot = true := by decide +kernel
set_option maxRecDepth 20000 in
theorem atA_ot : (Cond.classLink RX0 60 "java/lang/ArithmeticException" :: Cond.initialized "java/lang/ArithmeticException" :: atA).all vx_ot = true := by decide +kernel
theorem atI_bad : ∀ w ∈ atI.filter (fun w => !goodWord w), w ∈ atB := fun w h => by unfold atB; rw [List.filter_append]; exact List.mem_append_left _ h
theorem atA_bad : ∀ w ∈ atA.filter (fun w => !goodWord w), w ∈ atB := fun w h => by unfold atB; rw [List.filter_append]; exact List.mem_append_right _ h
theorem atB_use {A : Nat → Prop} {s : State} {args : Array Value} (h : zTh A s) : ∀ w ∈ atB, w.before args s = true := fun w hw => va_Nw.use (isCD_ot (List.all_eq_true.mp atB_cd w hw)) (h.1 w hw)
theorem fitI : Bundle.fit RJx00060 = true := by decide +kernel
theorem fitA : Bundle.fit "java/lang/ArithmeticException" = true := by decide +kernel
theorem fitNI : ∀ n ∈ nmI, Bundle.fit n = true := by decide +kernel
theorem fitNA : ∀ n ∈ nmA, Bundle.fit n = true := by decide +kernel
def atIg : List Cond := atI.filter goodWord
def wtX0_feature : List Cond := wsX0_feature ++ atIg
theorem wt_inX0_feature : ∀ w ∈ wsX0_feature, w ∈ wtX0_feature := fun w h => List.mem_append_left _ h
theorem intX0_feature : ∀ w ∈ wsX00, w ∈ wtX0_feature := fun w h => wt_inX0_feature w (innX0_feature w h)
theorem atg_X0_feature : ∀ w ∈ atI.filter goodWord, w ∈ wtX0_feature := fun w h => List.mem_append_right _ h
def wtX0_sign : List Cond := wsX0_sign ++ atIg
theorem wt_inX0_sign : ∀ w ∈ wsX0_sign, w ∈ wtX0_sign := fun w h => List.mem_append_left _ h
theorem intX0_sign : ∀ w ∈ wsX00, w ∈ wtX0_sign := fun w h => wt_inX0_sign w (innX0_sign w h)
theorem atg_X0_sign : ∀ w ∈ atI.filter goodWord, w ∈ wtX0_sign := fun w h => List.mem_append_right _ h
def wtX0_weight : List Cond := wsX0_weight ++ atIg
theorem wt_inX0_weight : ∀ w ∈ wsX0_weight, w ∈ wtX0_weight := fun w h => List.mem_append_left _ h
theorem intX0_weight : ∀ w ∈ wsX00, w ∈ wtX0_weight := fun w h => wt_inX0_weight w (innX0_weight w h)
theorem atg_X0_weight : ∀ w ∈ atI.filter goodWord, w ∈ wtX0_weight := fun w h => List.mem_append_right _ h
theorem gtX0_feature_X0_isFeature : GoodIn wtX0_feature (wsV RX0 46 RX0 yX0_isFeature wsX0_isFeature) := goodIn_mono wt_inX0_feature gX0_feature_X0_isFeature
theorem gtX0_feature_X0_lowestByte : GoodIn wtX0_feature (va_wsS RX0 56 yX0_lowestByte wsX0_lowestByte) := goodIn_mono wt_inX0_feature gX0_feature_X0_lowestByte
theorem gtX0_sign_X0_isFeature : GoodIn wtX0_sign (wsV RX0 46 RX0 yX0_isFeature wsX0_isFeature) := goodIn_mono wt_inX0_sign gX0_sign_X0_isFeature
theorem gtX0_sign_X0_lowestByte : GoodIn wtX0_sign (va_wsS RX0 56 yX0_lowestByte wsX0_lowestByte) := goodIn_mono wt_inX0_sign gX0_sign_X0_lowestByte
theorem gtX0_weight_X0_isClass : GoodIn wtX0_weight (va_wsS RX0 39 yX0_isClass wsX0_isClass) := goodIn_mono wt_inX0_weight gX0_weight_X0_isClass
theorem gtX0_weight_X0_isFeature : GoodIn wtX0_weight (wsV RX0 46 RX0 yX0_isFeature wsX0_isFeature) := goodIn_mono wt_inX0_weight gX0_weight_X0_isFeature
set_option maxRecDepth 20000 in
theorem atg_X0_make : ∀ w ∈ atA.filter goodWord, w ∈ wsX0_make := fun w h => List.mem_cons_of_mem _ (List.mem_append_right _ h)
