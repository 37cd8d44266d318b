section
-- ===== PART A: goes FIRST, ahead of the names: the tables' words, and 'selects' of the private methods out of them =====
/-- a private method of a class that the tables say can be made, by its rows of tables_1 -/
def lw_okq (q : MethodName × Nat) : Prop := (q.1.cls ≠ "java/lang/invoke/MethodHandle" ∧ q.1.cls ≠ "java/lang/invoke/VarHandle") ∧ Cond.instantiable q.1.cls q.2 ∈ tables_1 ∧ Cond.privateMethod q.1 ∈ tables_1 ∧ Cond.instanceMethod q.1 ∈ tables_1
theorem lw_p0 : lw_okq (⟨"SignTeller", "isSignBlank", "()Z"⟩, 11) := ⟨⟨by decide +kernel, by decide +kernel⟩, List.mem_of_getElem? (i := 10) (by decide +kernel), List.mem_of_getElem? (i := 72) (by decide +kernel), List.mem_of_getElem? (i := 73) (by decide +kernel)⟩
theorem lw_p1 : lw_okq (⟨"SignTeller", "nearestClass", "([II)I"⟩, 11) := ⟨⟨by decide +kernel, by decide +kernel⟩, List.mem_of_getElem? (i := 10) (by decide +kernel), List.mem_of_getElem? (i := 76) (by decide +kernel), List.mem_of_getElem? (i := 77) (by decide +kernel)⟩
theorem lw_p2 : lw_okq (⟨"SignTeller", "distanceTo", "(I[I)D"⟩, 11) := ⟨⟨by decide +kernel, by decide +kernel⟩, List.mem_of_getElem? (i := 10) (by decide +kernel), List.mem_of_getElem? (i := 80) (by decide +kernel), List.mem_of_getElem? (i := 81) (by decide +kernel)⟩
theorem lw_p3 : lw_okq (⟨"SignTeller", "isTooClose", "(II)Z"⟩, 11) := ⟨⟨by decide +kernel, by decide +kernel⟩, List.mem_of_getElem? (i := 10) (by decide +kernel), List.mem_of_getElem? (i := 87) (by decide +kernel), List.mem_of_getElem? (i := 88) (by decide +kernel)⟩
theorem lw_p4 : lw_okq (⟨"SignTeller", "isFeature", "(I)Z"⟩, 11) := ⟨⟨by decide +kernel, by decide +kernel⟩, List.mem_of_getElem? (i := 10) (by decide +kernel), List.mem_of_getElem? (i := 123) (by decide +kernel), List.mem_of_getElem? (i := 124) (by decide +kernel)⟩
theorem lw_p5 : lw_okq (⟨"java/lang/Throwable", "fillInStackTrace", "(I)Ljava/lang/Throwable;"⟩, 6) := ⟨⟨by decide +kernel, by decide +kernel⟩, List.mem_of_getElem? (i := 166) (by decide +kernel), List.mem_of_getElem? (i := 164) (by decide +kernel), List.mem_of_getElem? (i := 165) (by decide +kernel)⟩
theorem lw_p6 : lw_okq (⟨"SignTeller", "makeMeans", "()V"⟩, 11) := ⟨⟨by decide +kernel, by decide +kernel⟩, List.mem_of_getElem? (i := 10) (by decide +kernel), List.mem_of_getElem? (i := 226) (by decide +kernel), List.mem_of_getElem? (i := 227) (by decide +kernel)⟩
theorem lw_p7 : lw_okq (⟨"SignTeller", "divideMeans", "(I)V"⟩, 11) := ⟨⟨by decide +kernel, by decide +kernel⟩, List.mem_of_getElem? (i := 10) (by decide +kernel), List.mem_of_getElem? (i := 230) (by decide +kernel), List.mem_of_getElem? (i := 231) (by decide +kernel)⟩
theorem lw_p8 : lw_okq (⟨"SignTeller", "makeFirstWeights", "()V"⟩, 11) := ⟨⟨by decide +kernel, by decide +kernel⟩, List.mem_of_getElem? (i := 10) (by decide +kernel), List.mem_of_getElem? (i := 234) (by decide +kernel), List.mem_of_getElem? (i := 235) (by decide +kernel)⟩
theorem lw_p9 : lw_okq (⟨"SignTeller", "goRound", "()V"⟩, 11) := ⟨⟨by decide +kernel, by decide +kernel⟩, List.mem_of_getElem? (i := 10) (by decide +kernel), List.mem_of_getElem? (i := 238) (by decide +kernel), List.mem_of_getElem? (i := 239) (by decide +kernel)⟩
theorem lw_p10 : lw_okq (⟨"SignTeller", "shiftWeights", "([III)V"⟩, 11) := ⟨⟨by decide +kernel, by decide +kernel⟩, List.mem_of_getElem? (i := 10) (by decide +kernel), List.mem_of_getElem? (i := 242) (by decide +kernel), List.mem_of_getElem? (i := 243) (by decide +kernel)⟩
theorem lw_p11 : lw_okq (⟨"SignTeller", "countConfusions", "()V"⟩, 11) := ⟨⟨by decide +kernel, by decide +kernel⟩, List.mem_of_getElem? (i := 10) (by decide +kernel), List.mem_of_getElem? (i := 248) (by decide +kernel), List.mem_of_getElem? (i := 249) (by decide +kernel)⟩
theorem lw_p12 : lw_okq (⟨"SignTellerModel", "isFeature", "(I)Z"⟩, 12) := ⟨⟨by decide +kernel, by decide +kernel⟩, List.mem_of_getElem? (i := 268) (by decide +kernel), List.mem_of_getElem? (i := 324) (by decide +kernel), List.mem_of_getElem? (i := 325) (by decide +kernel)⟩
theorem lw_p13 : lw_okq (⟨"SignTellerModel", "means", "()V"⟩, 12) := ⟨⟨by decide +kernel, by decide +kernel⟩, List.mem_of_getElem? (i := 268) (by decide +kernel), List.mem_of_getElem? (i := 336) (by decide +kernel), List.mem_of_getElem? (i := 337) (by decide +kernel)⟩
theorem lw_p14 : lw_okq (⟨"SignTellerModel", "round", "()V"⟩, 12) := ⟨⟨by decide +kernel, by decide +kernel⟩, List.mem_of_getElem? (i := 268) (by decide +kernel), List.mem_of_getElem? (i := 340) (by decide +kernel), List.mem_of_getElem? (i := 341) (by decide +kernel)⟩
theorem lw_p15 : lw_okq (⟨"SignTellerModel", "nearest", "([III)I"⟩, 12) := ⟨⟨by decide +kernel, by decide +kernel⟩, List.mem_of_getElem? (i := 268) (by decide +kernel), List.mem_of_getElem? (i := 344) (by decide +kernel), List.mem_of_getElem? (i := 345) (by decide +kernel)⟩
def lw_privs_1 : List (MethodName × Nat) := [(⟨"SignTeller", "isSignBlank", "()Z"⟩, 11), (⟨"SignTeller", "nearestClass", "([II)I"⟩, 11), (⟨"SignTeller", "distanceTo", "(I[I)D"⟩, 11), (⟨"SignTeller", "isTooClose", "(II)Z"⟩, 11), (⟨"SignTeller", "isFeature", "(I)Z"⟩, 11), (⟨"java/lang/Throwable", "fillInStackTrace", "(I)Ljava/lang/Throwable;"⟩, 6), (⟨"SignTeller", "makeMeans", "()V"⟩, 11), (⟨"SignTeller", "divideMeans", "(I)V"⟩, 11), (⟨"SignTeller", "makeFirstWeights", "()V"⟩, 11), (⟨"SignTeller", "goRound", "()V"⟩, 11), (⟨"SignTeller", "shiftWeights", "([III)V"⟩, 11), (⟨"SignTeller", "countConfusions", "()V"⟩, 11), (⟨"SignTellerModel", "isFeature", "(I)Z"⟩, 12), (⟨"SignTellerModel", "means", "()V"⟩, 12), (⟨"SignTellerModel", "round", "()V"⟩, 12), (⟨"SignTellerModel", "nearest", "([III)I"⟩, 12)]
theorem lw_r1 : ∀ q ∈ lw_privs_1, lw_okq q := List.forall_mem_cons.mpr ⟨lw_p0, List.forall_mem_cons.mpr ⟨lw_p1, List.forall_mem_cons.mpr ⟨lw_p2, List.forall_mem_cons.mpr ⟨lw_p3, List.forall_mem_cons.mpr ⟨lw_p4, List.forall_mem_cons.mpr ⟨lw_p5, List.forall_mem_cons.mpr ⟨lw_p6, List.forall_mem_cons.mpr ⟨lw_p7, List.forall_mem_cons.mpr ⟨lw_p8, List.forall_mem_cons.mpr ⟨lw_p9, List.forall_mem_cons.mpr ⟨lw_p10, List.forall_mem_cons.mpr ⟨lw_p11, List.forall_mem_cons.mpr ⟨lw_p12, List.forall_mem_cons.mpr ⟨lw_p13, List.forall_mem_cons.mpr ⟨lw_p14, List.forall_mem_cons.mpr ⟨lw_p15, fun _ h => absurd h List.not_mem_nil⟩⟩⟩⟩⟩⟩⟩⟩⟩⟩⟩⟩⟩⟩⟩⟩
theorem lw_p16 : lw_okq (⟨"SignTellerModel", "distanceTo", "([III)D"⟩, 12) := ⟨⟨by decide +kernel, by decide +kernel⟩, List.mem_of_getElem? (i := 268) (by decide +kernel), List.mem_of_getElem? (i := 348) (by decide +kernel), List.mem_of_getElem? (i := 349) (by decide +kernel)⟩
theorem lw_p17 : lw_okq (⟨"SignTellerModel", "refusal", "(I)I"⟩, 12) := ⟨⟨by decide +kernel, by decide +kernel⟩, List.mem_of_getElem? (i := 268) (by decide +kernel), List.mem_of_getElem? (i := 361) (by decide +kernel), List.mem_of_getElem? (i := 362) (by decide +kernel)⟩
theorem lw_p18 : lw_okq (⟨"SignTellerModel", "ranked", "(I)I"⟩, 12) := ⟨⟨by decide +kernel, by decide +kernel⟩, List.mem_of_getElem? (i := 268) (by decide +kernel), List.mem_of_getElem? (i := 365) (by decide +kernel), List.mem_of_getElem? (i := 366) (by decide +kernel)⟩
def lw_privs_2 : List (MethodName × Nat) := [(⟨"SignTellerModel", "distanceTo", "([III)D"⟩, 12), (⟨"SignTellerModel", "refusal", "(I)I"⟩, 12), (⟨"SignTellerModel", "ranked", "(I)I"⟩, 12)]
theorem lw_r2 : ∀ q ∈ lw_privs_2, lw_okq q := List.forall_mem_cons.mpr ⟨lw_p16, List.forall_mem_cons.mpr ⟨lw_p17, List.forall_mem_cons.mpr ⟨lw_p18, fun _ h => absurd h List.not_mem_nil⟩⟩⟩
def lw_privs : List (MethodName × Nat) := lw_privs_1 ++ (lw_privs_2)
def lw_tbl : List Cond := k2_sels lw_privs ++ tables_1
theorem lw_privs_ok : ∀ q ∈ lw_privs, lw_okq q := by
  show ∀ q ∈ lw_privs_1 ++ (lw_privs_2), lw_okq q
  exact List.forall_mem_append.mpr ⟨lw_r1, lw_r2⟩
/-- the streams that the claim lets the run draw from -/
abbrev lw_cs : List Choice := [Jvm.Choice.named "NaN.bits"]
theorem lw_bits : nanBits ∈ lw_cs := by first | decide | exact List.mem_cons_self | simp [lw_cs, nanBits]
/-! ===== BEGIN words of one list among another's, by their places ===== -/
theorem goodIn_r {big : List Cond} (ws : List Cond) (ps : List Nat) (hp : ws = ps.filterMap (fun i => big[i]?)) (h : ws.all goodWord = true) : GoodIn big ws := by
  intro w hw
  have h1 := List.all_eq_true.mp h w hw
  rw [hp] at hw
  obtain ⟨i, -, hi⟩ := List.mem_filterMap.mp hw
  have hm : w ∈ big := by first | exact List.mem_of_getElem? hi | exact List.getElem?_mem hi
  exact ⟨hm, good_of_word h1⟩
theorem goodIn_app {big a b : List Cond} (ha : GoodIn big a) (hb : GoodIn big b) : GoodIn big (a ++ b) := fun w h => (List.mem_append.mp h).elim (ha w) (hb w)
theorem goodIn_ca {big a b : List Cond} {c : Cond} (ha : GoodIn big (c :: a)) (hb : GoodIn big b) : GoodIn big (c :: (a ++ b)) := fun w h => (List.mem_cons.mp h).elim (fun e => ha w (List.mem_cons.mpr (Or.inl e))) (fun h => (List.mem_append.mp h).elim (fun h => ha w (List.mem_cons.mpr (Or.inr h))) (hb w))
theorem goodIn_sub {big ws : List Cond} (hm : ∀ w ∈ ws, w ∈ big) (h : ws.all goodWord = true) : GoodIn big ws := fun w hw => ⟨hm w hw, good_of_word (List.all_eq_true.mp h w hw)⟩
/-! ===== END ===== -/

/-- arrays of arrays of t are there (a word of the tables, which asks nothing of the arguments) -/
def va_AOA (t : FieldType) (U : State) : Prop := (Cond.arrayOver (.array t)).before #[] U = true
theorem va_AOA.use {t : FieldType} {A : Array Value} {U : State} (h : va_AOA t U) : (Cond.arrayOver (.array t)).before A U = true := h
theorem va_AOA.of {t : FieldType} {A : Array Value} {U : State} (h : (Cond.arrayOver (.array t)).before A U = true) : va_AOA t U := h
/-! ===== BEGIN new T[n][m]: the outer array a place, the inner ones among the pooled ===== -/
/-- f, but v at every address of l -/
def vr_up {α : Type} (f : Nat → α) (l : List Nat) (v : α) : Nat → α := fun a => if a ∈ l then v else f a
theorem vr_up_in {α : Type} {f : Nat → α} {l : List Nat} {v : α} {a : Nat} (h : a ∈ l) : vr_up f l v a = v := if_pos h
theorem vr_up_ne {α : Type} {f : Nat → α} {l : List Nat} {v : α} {a : Nat} (h : a ∉ l) : vr_up f l v a = f a := if_neg h
theorem vr_rows {L l : List Nat} {f : Nat → va_E} {e : va_E} (h : ∀ a, a ∈ l → a ∉ L) : va_pl L f ++ l.map (fun a => (a, e)) = va_pl (L ++ l) (vr_up f l e) := by
  unfold va_pl
  rw [List.map_append]
  congr 1
  · apply List.map_congr_left
    intro a ha
    rw [vr_up_ne (fun q => h a q ha)]
  · apply List.map_congr_left
    intro a ha
    rw [vr_up_in ha]
theorem vr_lay {X rows : va_W} {x : Nat × va_E} {pl : va_W} {D : va_G} {cl : List vw_C} {H : Heap} (hP : va_P D cl (((X ++ pl) ++ [x]) ++ rows) H) : va_P D cl ((X ++ [x]) ++ (pl ++ rows)) H := by
  rw [List.append_assoc (X ++ pl)] at hP
  have h := va_P.swap hP
  rw [← List.append_assoc X] at h
  have h2 := va_P.swap h
  rw [List.append_assoc (X ++ [x])] at h2
  exact h2
theorem vr_layD {X rows : va_W} {x : Nat × va_E} {pl : va_W} {A : Nat → Prop} (hD : va_D A (((X ++ pl) ++ [x]) ++ rows)) : va_D A ((X ++ [x]) ++ (pl ++ rows)) := by
  rw [List.append_assoc (X ++ pl)] at hD
  have h := va_D.swap hD
  rw [← List.append_assoc X] at h
  have h2 := va_D.swap h
  rw [List.append_assoc (X ++ [x])] at h2
  exact h2
theorem vr_outer (c : ClassId) (N h0 : Nat) : ∀ i : Nat, Jvm.Free.Multi.outerC c N h0 i = arrV c N (fun j => va_rf (if j < i then some (h0 + 1 + j) else none))
  | 0 => by
    show ({ cls := c, slots := Array.replicate N .null, vm := .none } : Cell) = _
    rw [arrV_new]
    refine congrArg (arrV c N) (funext fun j => ?_)
    simp [va_rf]
  | i + 1 => by
    show (Jvm.Free.Multi.outerC c N h0 i).setSlot i (.ref (h0 + 1 + i)) = _
    rw [vr_outer c N h0 i, arrV_store]
    refine congrArg (arrV c N) (funext fun j => ?_)
    by_cases e : j = i
    · subst e
      simp [updV, va_rf]
    · by_cases h : j < i
      · simp [updV, e, h, Nat.lt_succ_of_lt h]
      · simp [updV, e, h, show ¬ j < i + 1 by omega]
section VGM
variable {p : Program} {l : Launch} {e : Env} {R : Room} {s : State} {m : MethodId} {args : Array Value} {below : List Frame} {meth : Method} {c : Code} {H : Heap} {locs : List Loc} {cells slots : Nat} {Q : State → Prop}
variable {cc : ByteArray} {pc : Nat} {ls : Array Slot} {rest : List Value} {D : va_G} {cl : List vw_C} {A : Nat → Prop} {a : Nat} {tys : List (ClassId × FieldType)} {ws : va_W} {H0 : Heap}
theorem va_mna {X : va_W} {L : List Nat} {f : Nat → va_E} {cc : ByteArray} (hexec : p.tables.exec = Jvm.exec) (hb : c.code = cc) {own : String} {index : Nat} {ty : FieldType} {cy : ClassId} (hown : s.vm.findClass own = some m.cls) (hclink : (Cond.classLink own index ("[" ++ (FieldType.array ty).toString)).before args s = true) (hover : va_AOA ty s) (harr : (Cond.arrayClass ty).before args s = true) (hcy : s.vm.findClass (FieldType.array ty).toString = some cy)
    (hK : va_K D cl tys s) (hP : va_P D cl (X ++ va_pl L f) H) (hD : va_D A (X ++ va_pl L f)) (hS : va_S A H0 H locs) (hA : ∀ q, H0.size ≤ q → A q) {n k : Int32} {N' K' : Nat} {z : vp_A} (hn : ¬ n < 0) (hk : ¬ k < 0) (hN : n.toNatClampNeg = N') (hM : k.toNatClampNeg = K')
    (hb1 : N' * 4 ≤ 536870912) (hb2 : K' * componentBytes ty ≤ 536870912) (hb3 : K' ≤ 536870912) (hdf : fits ty (defaultValue ty) = true) (hdd : (defaultValue ty).isDefault = true) (hcells : cells + (1 + N') ≤ R.cells) (hslots : slots + (N' + N' * K') ≤ R.slots) (hz : ∀ c : ClassId, Jvm.Free.Multi.innerC c K' (defaultValue ty) = vp_cell c z) (hdg : decode cc pc = .ok (.multianewarray index 2, 4))
    (kk : ∀ (q : Nat) (r : Nat → Nat) (cA : ClassId) (H1 : Heap), (∀ i j : Nat, i < N' → j < N' → r i = r j → i = j) → (∀ i : Nat, i < N' → r i ∉ L) → va_K D cl (tys ++ [(cA, .array ty)]) s →
      va_P D cl ((X ++ [(q, .inl (cA, N', .inr (.inr (.inr (.inr (fun i => if i < N' then some (r i) else none))))))]) ++ va_pl (L ++ (List.range N').map r) (vr_up f ((List.range N').map r) (.inl (cy, z)))) H1 → va_D A ((X ++ [(q, .inl (cA, N', .inr (.inr (.inr (.inr (fun i => if i < N' then some (r i) else none))))))]) ++ va_pl (L ++ (List.range N').map r) (vr_up f ((List.range N').map r) (.inl (cy, z)))) → va_S A H0 H1 locs →
      W p l e R s m args below meth c H1 locs (cells + 1 + N') (slots + N' + N' * K') Q (F0 m (pc + 4) ls (.ref q :: rest))) : W p l e R s m args below meth c H locs cells slots Q (F0 m pc ls (.int k :: .int n :: rest)) := by
  subst hN
  subst hM
  intro T hT Xs
  obtain ⟨vm₁, cA, comp, -, fA, fC, hO, -, X', step⟩ := Xs.multianewarray2F hexec hown hclink (va_AOA.use hover) harr (g := F0 m pc ls (.int k :: .int n :: rest)) rfl (by rw [hb]; exact hdg) rfl hn hk hb1 hb2 hb3 hdf hdd hcells hslots
  have ec : some cy = some comp := hcy.symm.trans fC
  cases ec
  generalize hF : Jvm.Free.Multi.fill (T.setVm vm₁) cA cy n.toNatClampNeg k.toNatClampNeg (defaultValue ty) n.toNatClampNeg = F at X' step
  have hTh : (T.setVm vm₁).heap = H := hT
  obtain ⟨f1, f2, -, -⟩ := Jvm.Free.Multi.fill_facts (T.setVm vm₁) cA cy n.toNatClampNeg k.toNatClampNeg (defaultValue ty) n.toNatClampNeg
  rw [hF, hTh] at f1 f2
  have hold : ∀ x : Nat, x < H.size → F.heap[x]? = H[x]? := fun x hx => by
    have := Jvm.Free.Multi.fill_old (T.setVm vm₁) cA cy n.toNatClampNeg k.toNatClampNeg (defaultValue ty) (a := x) (by rw [hTh]; exact hx) n.toNatClampNeg
    rw [hF, hTh] at this
    exact this
  have hrow : ∀ j : Nat, j < n.toNatClampNeg → F.heap[H.size + 1 + j]? = some (vp_cell cy z) := fun j hj => by
    have := Jvm.Free.Multi.fill_inner (T.setVm vm₁) cA cy n.toNatClampNeg k.toNatClampNeg (defaultValue ty) n.toNatClampNeg j hj
    rw [hF, hTh, hz] at this
    exact this
  have hout : Jvm.Free.Multi.outerC cA n.toNatClampNeg H.size n.toNatClampNeg = vp_cell cA (n.toNatClampNeg, .inr (.inr (.inr (.inr (fun i => if i < n.toNatClampNeg then some (H.size + 1 + i) else none))))) := by
    rw [vp_cell_q]
    exact vr_outer cA n.toNatClampNeg H.size n.toNatClampNeg
  rw [hout] at f2
  have hlt : ∀ a, a ∈ L → a < H.size := fun a ha => by
    obtain ⟨k9, hk9⟩ := va_pl_get (X := X) (f := f) ha
    exact (hP k9 _ hk9).lt
  have hnl : ∀ i : Nat, i < n.toNatClampNeg → H.size + 1 + i ∉ L := fun i _ h => by
    have := hlt _ h
    omega
  have hnm : ∀ a, a ∈ (List.range n.toNatClampNeg).map (fun i => H.size + 1 + i) → a ∉ L := fun a ha h => by
    obtain ⟨i, -, rfl⟩ := List.mem_map.mp ha
    have := hlt _ h
    omega
  have hP0 : va_P D cl (X ++ va_pl L f) F.heap := hP.kept (fun k9 x hx => hold x.1 ((hP k9 x hx).lt))
  have hP1 : va_P D cl ((X ++ va_pl L f) ++ [(H.size, .inl (cA, n.toNatClampNeg, .inr (.inr (.inr (.inr (fun i => if i < n.toNatClampNeg then some (H.size + 1 + i) else none))))))]) F.heap := hP0.app (fun k9 x hx => by
    have h0 : k9 < 1 := (List.getElem?_eq_some_iff.mp hx).1
    rw [show k9 = 0 by omega] at hx
    cases hx
    exact f2)
  have hP2 : va_P D cl (((X ++ va_pl L f) ++ [(H.size, .inl (cA, n.toNatClampNeg, .inr (.inr (.inr (.inr (fun i => if i < n.toNatClampNeg then some (H.size + 1 + i) else none))))))]) ++ ((List.range n.toNatClampNeg).map (fun i => H.size + 1 + i)).map (fun a => (a, .inl (cy, z)))) F.heap := hP1.app (fun k9 x hx => by
    obtain ⟨a, ha, rfl⟩ := List.mem_map.mp (List.mem_of_getElem? hx)
    obtain ⟨i, hi, rfl⟩ := List.mem_map.mp ha
    exact hrow i (List.mem_range.mp hi))
  have hD2 : va_D A (((X ++ va_pl L f) ++ [(H.size, .inl (cA, n.toNatClampNeg, .inr (.inr (.inr (.inr (fun i => if i < n.toNatClampNeg then some (H.size + 1 + i) else none))))))]) ++ ((List.range n.toNatClampNeg).map (fun i => H.size + 1 + i)).map (fun a => (a, .inl (cy, z)))) := by
    have hD1 := hD.push (e := .inl (cA, n.toNatClampNeg, .inr (.inr (.inr (.inr (fun i => if i < n.toNatClampNeg then some (H.size + 1 + i) else none)))))) hP rfl (hA _ hS.1)
    generalize hW1 : (X ++ va_pl L f) ++ [(H.size, .inl (cA, n.toNatClampNeg, .inr (.inr (.inr (.inr (fun i => if i < n.toNatClampNeg then some (H.size + 1 + i) else none))))))] = W1 at hD1 hP1 ⊢
    have hle : ∀ (k9 : Nat) (x : Nat × va_E), W1[k9]? = some x → x.1 ≤ H.size := fun k9 x hx => by
      rw [← hW1] at hx
      by_cases hl : k9 < (X ++ va_pl L f).length
      · rw [List.getElem?_append_left hl] at hx
        exact Nat.le_of_lt ((hP k9 x hx).lt)
      · rw [List.getElem?_append_right (by omega)] at hx
        have h0 : k9 - (X ++ va_pl L f).length < 1 := (List.getElem?_eq_some_iff.mp hx).1
        rw [show k9 - (X ++ va_pl L f).length = 0 by omega] at hx
        cases hx
        exact Nat.le_refl _
    have hr : ∀ (k9 : Nat) (x : Nat × va_E), (((List.range n.toNatClampNeg).map (fun i => H.size + 1 + i)).map (fun a => ((a, .inl (cy, z)) : Nat × va_E)))[k9]? = some x → x.1 = H.size + 1 + k9 := fun k9 x hx => by
      rw [List.getElem?_map, List.getElem?_map] at hx
      by_cases h9 : k9 < n.toNatClampNeg
      · rw [List.getElem?_range h9] at hx
        cases hx
        rfl
      · have hn0 : (List.range n.toNatClampNeg)[k9]? = none := List.getElem?_eq_none (by rw [List.length_range]; omega)
        rw [hn0] at hx
        cases hx
    refine ⟨fun i j x y hi hj hxy => ?_, fun k9 x hx => ?_⟩
    · by_cases h1 : i < W1.length <;> by_cases h2 : j < W1.length
      · rw [List.getElem?_append_left h1] at hi
        rw [List.getElem?_append_left h2] at hj
        exact hD1.1 i j x y hi hj hxy
      · rw [List.getElem?_append_left h1] at hi
        rw [List.getElem?_append_right (by omega)] at hj
        have := hle _ _ hi
        have := hr _ _ hj
        omega
      · rw [List.getElem?_append_right (by omega)] at hi
        rw [List.getElem?_append_left h2] at hj
        have := hle _ _ hj
        have := hr _ _ hi
        omega
      · rw [List.getElem?_append_right (by omega)] at hi hj
        have := hr _ _ hi
        have := hr _ _ hj
        omega
    · by_cases h1 : k9 < W1.length
      · rw [List.getElem?_append_left h1] at hx
        exact hD1.2 k9 x hx
      · rw [List.getElem?_append_right (by omega)] at hx
        have := hr _ _ hx
        exact hA _ (by have := hS.1; omega)
  have hAr : ArrOfT s cA (.array ty) := fun N9 z9 => by
    obtain ⟨-, k9, hk9, cm9, hkk9⟩ := (hO 0 0 0).1
    exact ⟨(fun q hq => by cases hq), k9, hk9, cm9, hkk9⟩
  have hK2 : va_K D cl (tys ++ [(cA, .array ty)]) s := ⟨hK.1, fun k9 x hx => by
    by_cases hl : k9 < tys.length
    · rw [List.getElem?_append_left hl] at hx
      exact hK.2 k9 x hx
    · rw [List.getElem?_append_right (by omega)] at hx
      have h0 : k9 - tys.length < 1 := (List.getElem?_eq_some_iff.mp hx).1
      rw [show k9 - tys.length = 0 by omega] at hx
      cases hx
      exact ⟨hAr, fA⟩⟩
  obtain ⟨t, a1, b1⟩ := kk H.size (fun i => H.size + 1 + i) cA F.heap (fun i j _ _ h => by have h9 : H.size + 1 + i = H.size + 1 + j := h; omega) hnl hK2 (by rw [← vr_rows hnm]; exact vr_lay hP2) (by rw [← vr_rows hnm]; exact vr_layD hD2) ⟨by rw [f1]; have := hS.1; omega, fun x h1 h2 => (hold x (Nat.lt_of_lt_of_le h1 hS.1)).trans (hS.2.1 x h1 h2), hS.2.2⟩ F rfl X'
  refine ⟨t, step t ?_, b1⟩
  have e : T.heap.size = H.size := by rw [hT]
  rw [e]
  exact a1
end VGM
/-! ===== END ===== -/
end
section
/-! ===== BEGIN exceptions that leave a method, and their catching by the caller (launches without stack traces) ===== -/
section VXA
/-! The laws vx_back, vx_callV, vx_callS, vx_callSW, vx_throw0, vx_throwS follow proofs of the library, with one case more: JvmDerived/Free/Laws.lean (Back.of_free), Shelf42/LK1.lean (callV, callS), Shelf/KitTraced.lean (throwNew0V, throwNewS). -/
/-- where a method has thrown q: the class by its name, the cell, what was written, the world -/
def vx_T (XC : String → State → State → Prop) (st : State) (q : Addr) (t : State) (mc ms : Nat) (free : Addr → Prop) : Prop :=
  ∃ (E : String) (ce : Cell) (L : List Loc), XC E st t ∧ t.heap[q]? = some ce ∧ ce.vm = .none ∧ st.vm.findClass E = some ce.cls ∧ st.WarmedH t.vm ∧ st.sameButNew ({ t with vm := st.vm } : State) L mc ms ∧ ∀ z ∈ L, free z.base
def vx_Q (Qc : Array Value → State → Outcome → State → Prop) (XC : String → State → State → Prop) (mc ms : Nat) (free : Addr → Prop) : Array Value → State → Outcome → State → Prop := fun a st o t =>
  (Qc a st o t ∧ ∃ L, FrameEnd st o t L mc ms ∧ ∀ q ∈ L, free q.base) ∨ ∃ q, o = .threw q ∧ vx_T XC st q t mc ms free
/-- a callee that returns or throws -/
def vx_Met (l : Launch) (y : MethodName) (ws : List Cond) (rm : Room) (Pc : Array Value → State → Prop) (Qc : Array Value → State → Outcome → State → Prop) (XC : String → State → State → Prop) (mc ms : Nat) (free : Addr → Prop) : Prop :=
  MetFree l y (headSpec ws rm) Pc (fun _ _ _ _ _ => True) (vx_Q Qc XC mc ms free)
def vx_Post (XC : String → State → State → Prop) (mc ms : Nat) (free : Addr → Prop) : Pt → Array Value → Addr → Pt → Prop := fun A a q B =>
  ∃ (g : JFrame) (mk : MethodId) (t : State) (L : List Loc) (E : String) (ce : Cell), B.U.heap = t.heap ∧ B.U.vm = t.vm ∧ XC E (A.U.calling g mk a) t ∧ t.heap[q]? = some ce ∧ ce.vm = .none ∧ A.U.vm.findClass E = some ce.cls ∧ B.locs = A.locs ++ L ∧ (∀ z ∈ L, free z.base) ∧ B.cells = A.cells + mc ∧ B.slots = A.slots + ms
def vx_Back (l : Launch) (R : Room) (p : Program) (e : Env) (below : List Frame) (s : State) (sargs : Array Value) (y : MethodName) (len W9 : Nat)
    (Pre : Pt → Array Value → Prop) (Post : Pt → Array Value → Option Value → Pt → Prop) (PostX : Pt → Array Value → Addr → Pt → Prop) : Prop :=
  ∀ (m : MethodId) (meth : Method) (c : Code) (A : Pt) (g : JFrame) (ig : Instr) (mk : MethodId) (a : Array Value),
    Stand p l e R s m sargs below meth c A.U A.locs A.cells A.slots → g.method = m → g.locals.size = c.maxLocals → decode c.code g.pc = .ok (ig, len) →
    2 * g.monitorRoom + (g.stack.map fun v => v.category).sum ≤ W9 → A.U.methodNamed? y = some mk → Pre A a →
    (∃ (v : Option Value) (B : Pt), Stand p l e R s m sargs below meth c B.U B.locs B.cells B.slots ∧ Post A a v B ∧
      Steps p.tables e below (doInvoke e (A.U.setTop g) [] mk a).1 (B.U.setTop { g with pc := g.pc + len, stack := v.toList ++ g.stack })) ∨
    (∃ (q : Addr) (B : Pt), Stand p l e R s m sargs below meth c B.U B.locs B.cells B.slots ∧ PostX A a q B ∧
      Steps p.tables e below (doInvoke e (A.U.setTop g) [] mk a).1 ((B.U.setTop g).pushFrame (.throwing q)))
section Payer
variable {l : Launch} {R : Room} {p : Program} {e : Env} {below : List Frame} {s : State} {sargs : Array Value} {y : MethodName} {len W9 : Nat}
theorem vx_back {ws : List Cond} {rm : Room} {Pc : Array Value → State → Prop} {Qc : Array Value → State → Outcome → State → Prop} {XC : String → State → State → Prop} {mc ms : Nat} {free : Addr → Prop} {bytes : ByteArray} {maxL : Nat} {ret : Option FieldType}
    (hM : vx_Met l y ws rm Pc Qc XC mc ms free) (hblind : FrameBlind Pc) (hrc : rm.cells = mc) (hrs : rm.slots = ms)
    (hframes : rm.frames + 1 ≤ R.frames) (hlocals : W9 + (maxL + 11) + rm.locals ≤ R.locals)
    (hws : ∀ w ∈ ws, ∀ a' U, s.WarmedH U.vm → w.before a' U = true) (hcode : Cond.code y bytes maxL ret ∈ ws) (hinit : ∀ a' U, s.WarmedH U.vm → (Cond.initialized y.cls).before a' U = true) :
    vx_Back l R p e below s sargs y len W9 (PreOf R mc ms Pc) (PostOf Qc mc ms free) (vx_Post XC mc ms free) := by
  intro m meth c A g ig mk a X hg hsize hdg hW hn hp
  have h1 : (headSpec ws rm).pre.before a A.U = true := atoms_intro fun w hw => hws w hw _ _ X.warmed
  have h2 : (Cond.code y bytes maxL ret).before a A.U = true := hws _ hcode _ _ X.warmed
  have h3 : (Cond.initialized y.cls).before a A.U = true := hinit _ _ X.warmed
  have h4 : A.cells + (headSpec ws rm).room.cells ≤ R.cells := by rw [show (headSpec ws rm).room.cells = mc from hrc]; exact hp.1
  have h5 : A.slots + (headSpec ws rm).room.slots ≤ R.slots := by rw [show (headSpec ws rm).room.slots = ms from hrs]; exact hp.2.1
  have hPc : Pc a (A.U.calling g mk a) := hblind _ _ _ _ hp.2.2
  obtain ⟨U, Ls, c0, s0⟩ := A
  dsimp only [Pt.U, Pt.locs, Pt.cells, Pt.slots] at h1 h2 h3 h4 h5 X hn hPc ⊢
  obtain ⟨methY, cY, hmY, hcY, -, hlY, -, -, -, -⟩ := Cond.code_spec hn h2
  obtain ⟨kY, hkY, -⟩ := className_of_methodNamed hn
  have hinitY : kY.init = .initialized := Cond.initialized_spec (findClass_of_methodNamed hn) hkY h3
  have h : At U g.method c below := by rw [hg]; exact X.here
  have hlocals9 : W9 + (maxL + 11) + (headSpec ws rm).room.locals ≤ R.locals := hlocals
  have happ : (headSpec ws rm).appliesLoose y e.platform (U.calling g mk a) = true :=
    Spec.appliesLoose_calling (g := g) h hdg hn hkY hinitY
      (X.room_calling (g := g) (R' := (headSpec ws rm).room) hsize hmY hcY hframes (by rw [hlY]; omega) h4 h5) h1
  obtain ⟨mid, hmid⟩ := h.above
  have hfr : (U.setTop g).frames = (.java g :: mid) ++ below := by rw [State.frames_setTop' g h.top, hmid]; rfl
  obtain ⟨o, s₂, hsteps, -, hend, hq⟩ := Steps.callFree hM p X.admits X.cas X.clock (acts := []) hfr happ hPc trivial
  have hq' : vx_Q Qc XC mc ms free a (U.calling g mk a) o s₂ := hq
  rw [State.frames_setTop' g h.top] at hend
  obtain ⟨g₀, hg0⟩ := Option.isSome_iff_exists.mp h.top
  obtain ⟨r, hr⟩ := State.topJava?_eq_some.mp hg0
  have hr' : (({ U with heap := s₂.heap, slotsUsed := s₂.slotsUsed } : State).setVm s₂.vm).frames = .java g₀ :: r := hr
  rcases hq' with ⟨hqc, L, hfe, hL⟩ | ⟨q, rfl, E, ce, L, hx, hce, hcv, hcl, hW₂, hsm, hL⟩
  · obtain ⟨⟨v, rfl⟩, hW₂, e2, q2, q3, q4, q5, q6⟩ := id hfe
    have e3 : s₂ = ({ (U.calling g mk a).setFrames s₂.frames with heap := s₂.heap, slotsUsed := s₂.slotsUsed } : State).setVm s₂.vm := by
      have : s₂ = ({ s₂ with vm := (U.calling g mk a).vm } : State).setVm s₂.vm := rfl
      rw [e2] at this
      exact this
    obtain ⟨c₂, i₂, len₂, hc₂, hd₂, hf₂⟩ := hend
    have hW' : U.WarmedH s₂.vm := hW₂
    have hcc : c₂ = c := by
      have h1 : s₂.code? g.method = U.code? g.method := by
        rw [State.code?_eq, State.code?_eq, hW'.alike.method?]
      exact Option.some.inj (hc₂.symm.trans (h1.trans h.code))
    subst hcc
    have hlen : len₂ = len := by rw [hdg] at hd₂; cases hd₂; rfl
    subst hlen
    have hs₂ : s₂ = (({ U with heap := s₂.heap, slotsUsed := s₂.slotsUsed } : State).setVm s₂.vm).setTop { g with pc := g.pc + len₂, stack := v.toList ++ g.stack } := by
      refine e3.trans ?_
      rw [hf₂, State.calling_eq h.top, State.setFrames_setFrames, State.setTop_of_frames _ hr', hr]
      rfl
    have hsame : U.sameButNew ({ U with heap := s₂.heap, slotsUsed := s₂.slotsUsed } : State) L mc ms := by
      refine ⟨?_, q2, q3, q4, q5, q6⟩
      obtain ⟨t, ht, -⟩ := State.frames_cons hr
      show ({ U with heap := s₂.heap, slotsUsed := s₂.slotsUsed } : State) = { U.setFrames U.frames with heap := s₂.heap, slotsUsed := s₂.slotsUsed }
      rw [State.setFrames_self ht]
    subst hg
    refine Or.inl ⟨v, ⟨(({ U with heap := s₂.heap, slotsUsed := s₂.slotsUsed } : State).setVm s₂.vm), Ls ++ L, c0 + mc, s0 + ms⟩,
      ⟨X.admits, X.cas, X.clock, X.frames, X.room, X.hears, X.method, X.code, (X.here.setHeapUsed s₂.heap s₂.slotsUsed).setVm hW'.alike, X.tail, State.WarmedH.trans X.warmed hW', X.limits, X.bytes, X.same.trans (hsame.setVm s.vm)⟩,
      ⟨g, mk, s₂, L, rfl, rfl, hqc, rfl, hL, rfl, rfl⟩, ?_⟩
    show Steps p.tables e below _ ((({ U with heap := s₂.heap, slotsUsed := s₂.slotsUsed } : State).setVm s₂.vm).setTop { g with pc := g.pc + len₂, stack := v.toList ++ g.stack })
    rw [← hs₂]
    exact hsteps
  · obtain ⟨e2, q2, q3, q4, q5, q6⟩ := id hsm
    have e3 : s₂ = ({ (U.calling g mk a).setFrames s₂.frames with heap := s₂.heap, slotsUsed := s₂.slotsUsed } : State).setVm s₂.vm := by
      have : s₂ = ({ s₂ with vm := (U.calling g mk a).vm } : State).setVm s₂.vm := rfl
      rw [e2] at this
      exact this
    have hf₂ : s₂.frames = .throwing q :: .java g :: U.frames.tail := hend
    have hW' : U.WarmedH s₂.vm := hW₂
    have hs₂ : s₂ = ((({ U with heap := s₂.heap, slotsUsed := s₂.slotsUsed } : State).setVm s₂.vm).setTop g).pushFrame (.throwing q) := by
      refine e3.trans ?_
      rw [hf₂, State.calling_eq h.top, State.setFrames_setFrames, State.pushFrame, State.frames_setTop _ hr', State.setTop_of_frames _ hr', State.setFrames_setFrames, hr]
      rfl
    have hsame : U.sameButNew ({ U with heap := s₂.heap, slotsUsed := s₂.slotsUsed } : State) L mc ms := by
      refine ⟨?_, q2, q3, q4, q5, q6⟩
      obtain ⟨t, ht, -⟩ := State.frames_cons hr
      show ({ U with heap := s₂.heap, slotsUsed := s₂.slotsUsed } : State) = { U.setFrames U.frames with heap := s₂.heap, slotsUsed := s₂.slotsUsed }
      rw [State.setFrames_self ht]
    subst hg
    refine Or.inr ⟨q, ⟨(({ U with heap := s₂.heap, slotsUsed := s₂.slotsUsed } : State).setVm s₂.vm), Ls ++ L, c0 + mc, s0 + ms⟩,
      ⟨X.admits, X.cas, X.clock, X.frames, X.room, X.hears, X.method, X.code, (X.here.setHeapUsed s₂.heap s₂.slotsUsed).setVm hW'.alike, X.tail, State.WarmedH.trans X.warmed hW', X.limits, X.bytes, X.same.trans (hsame.setVm s.vm)⟩,
      ⟨g, mk, s₂, L, E, ce, rfl, rfl, hx, hce, hcv, hcl, rfl, hL, rfl, rfl⟩, ?_⟩
    show Steps p.tables e below _ (((({ U with heap := s₂.heap, slotsUsed := s₂.slotsUsed } : State).setVm s₂.vm).setTop g).pushFrame (.throwing q))
    rw [← hs₂]
    exact hsteps
end Payer
section Calls
variable {p : Program} {l : Launch} {e : Env} {R : Room} {s : State} {m : MethodId} {args : Array Value} {below : List Frame} {meth : Method} {c : Code} {T : State} {locs : List Loc} {cells slots : Nat}
theorem vx_callV (X : Stand p l e R s m args below meth c T locs cells slots) (hexec : p.tables.exec = Jvm.exec) {own C : String} {index : Nat} {y : MethodName} {bytes : ByteArray} {maxL : Nat} {ret : Option FieldType}
    (hown : s.vm.findClass own = some m.cls) (hlink : (Cond.methodLink own index y).before args s = true) (hinst : (Cond.instanceMethod y).before args s = true) (hsel : (Cond.selects C y y).before args s = true)
    (hcode : (Cond.code y bytes maxL ret).before args s = true) (hy : y.cls ≠ "java/lang/invoke/MethodHandle" ∧ y.cls ≠ "java/lang/invoke/VarHandle")
    {W9 : Nat} {Pre : Pt → Array Value → Prop} {Post : Pt → Array Value → Option Value → Pt → Prop} {PostX : Pt → Array Value → Addr → Pt → Prop} (hK : vx_Back l R p e below s args y 3 W9 Pre Post PostX)
    {b : Addr} {cellB : Cell} (hcell : T.heap[b]? = some cellB) (hobj : cellB.vm.isStatics = false) (hcls : s.vm.findClass C = some cellB.cls)
    {g : JFrame} (hg : g.method = m) (hsize : g.locals.size = c.maxLocals) {argsL rest : List Value} (hlen : ∀ sig, parseMethodDescriptor y.desc = some sig → argsL.length = sig.parameters.length)
    (hstack : g.stack = argsL.reverse ++ .ref b :: rest) (hW : 2 * g.monitorRoom + (rest.map fun v => v.category).sum ≤ W9) (hdg : decode c.code g.pc = .ok (.invokevirtual index, 3))
    (hpre : ∀ vm₁, s.WarmedH vm₁ → Pre ⟨T.setVm vm₁, locs, cells, slots⟩ (Value.ref b :: argsL).toArray) :
    (∃ (v : Option Value) (vm₁ : Vm) (B : Pt), s.WarmedH vm₁ ∧ Stand p l e R s m args below meth c B.U B.locs B.cells B.slots ∧ Post ⟨T.setVm vm₁, locs, cells, slots⟩ (Value.ref b :: argsL).toArray v B ∧
      ∀ target, Steps p.tables e below (B.U.setTop { g with pc := g.pc + 3, stack := v.toList ++ rest }) target → Steps p.tables e below (T.setTop g) target) ∨
    (∃ (q : Addr) (vm₁ : Vm) (B : Pt), s.WarmedH vm₁ ∧ Stand p l e R s m args below meth c B.U B.locs B.cells B.slots ∧ PostX ⟨T.setVm vm₁, locs, cells, slots⟩ (Value.ref b :: argsL).toArray q B ∧
      Steps p.tables e below (T.setTop g) ((B.U.setTop { g with stack := rest }).pushFrame (.throwing q))) := by
  obtain ⟨mk, methM, hnamed, hmethM, hstM, habM⟩ := Cond.instanceMethod_spec hinst
  obtain ⟨methM', cM, hmethM', -, -, -, -, -, -, hsigM⟩ := Cond.code_spec hnamed hcode
  cases hmethM.symm.trans hmethM'
  obtain ⟨c2, r2, m2, q1, q2, q3, q4, kP, hkP, hkPi⟩ := Cond.selects_spec hsel
  cases hcls.symm.trans q1
  cases (State.methodFound?_of_named hnamed hy).symm.trans q2
  cases hnamed.symm.trans q3
  have hselP : selectMethod e.platform s.vm cellB.cls mk = .method mk := by rw [Launch.admits_selectMethod X.admits]; exact q4
  obtain ⟨vm₁, X₁, hstep₁⟩ := X.invokevirtual hexec hown hlink hnamed hmethM hstM hkP hkPi hy (a := b) (cell := cellB) hcell
    (fun z h => by rw [h] at hobj; cases hobj) hselP hmethM habM hkP hkPi (g := g) hg (argsL := argsL) (rest := rest) (hlen _ hsigM) hstack hdg
  rcases hK m meth c ⟨T.setVm vm₁, locs, cells, slots⟩ { g with stack := rest } (.invokevirtual index) mk (Value.ref b :: argsL).toArray X₁ hg hsize hdg hW (X₁.named hnamed) (hpre vm₁ X₁.warmed) with ⟨v, B, X', hpost, hsteps⟩ | ⟨q, B, X', hpost, hsteps⟩
  · exact Or.inl ⟨v, vm₁, B, X₁.warmed, X', hpost, fun target h => hstep₁ _ fun acts => by rw [doInvoke_state]; exact hsteps.trans h⟩
  · exact Or.inr ⟨q, vm₁, B, X₁.warmed, X', hpost, hstep₁ _ fun acts => by rw [doInvoke_state]; exact hsteps⟩
theorem vx_callS (X : Stand p l e R s m args below meth c T locs cells slots) (hexec : p.tables.exec = Jvm.exec) {own : String} {index : Nat} {y : MethodName} {bytes : ByteArray} {maxL : Nat} {ret : Option FieldType}
    (hown : s.vm.findClass own = some m.cls) (hlink : (Cond.methodLink own index y).before args s = true) (hstat : (Cond.static y).before args s = true) (hinit : (Cond.initialized y.cls).before args s = true)
    (hcode : (Cond.code y bytes maxL ret).before args s = true) (hy : y.cls ≠ "java/lang/invoke/MethodHandle" ∧ y.cls ≠ "java/lang/invoke/VarHandle")
    {W9 : Nat} {Pre : Pt → Array Value → Prop} {Post : Pt → Array Value → Option Value → Pt → Prop} {PostX : Pt → Array Value → Addr → Pt → Prop} (hK : vx_Back l R p e below s args y 3 W9 Pre Post PostX)
    {g : JFrame} (hg : g.method = m) (hsize : g.locals.size = c.maxLocals) {argsL rest : List Value} (hlen : ∀ sig, parseMethodDescriptor y.desc = some sig → argsL.length = sig.parameters.length)
    (hstack : g.stack = argsL.reverse ++ rest) (hW : 2 * g.monitorRoom + (rest.map fun v => v.category).sum ≤ W9) (hdg : decode c.code g.pc = .ok (.invokestatic index, 3))
    (hpre : ∀ vm₁, s.WarmedH vm₁ → Pre ⟨T.setVm vm₁, locs, cells, slots⟩ argsL.toArray) :
    (∃ (v : Option Value) (vm₁ : Vm) (B : Pt), s.WarmedH vm₁ ∧ Stand p l e R s m args below meth c B.U B.locs B.cells B.slots ∧ Post ⟨T.setVm vm₁, locs, cells, slots⟩ argsL.toArray v B ∧
      ∀ target, Steps p.tables e below (B.U.setTop { g with pc := g.pc + 3, stack := v.toList ++ rest }) target → Steps p.tables e below (T.setTop g) target) ∨
    (∃ (q : Addr) (vm₁ : Vm) (B : Pt), s.WarmedH vm₁ ∧ Stand p l e R s m args below meth c B.U B.locs B.cells B.slots ∧ PostX ⟨T.setVm vm₁, locs, cells, slots⟩ argsL.toArray q B ∧
      Steps p.tables e below (T.setTop g) ((B.U.setTop { g with stack := rest }).pushFrame (.throwing q))) := by
  obtain ⟨mk, hnamed⟩ := Cond.code_named hcode
  obtain ⟨methM, cM, hmethM, -, -, -, -, -, -, hsigM⟩ := Cond.code_spec hnamed hcode
  have hstatic : methM.isStatic = true := Cond.static_spec hnamed hmethM hstat
  obtain ⟨kP, hkP, -⟩ := className_of_methodNamed hnamed
  have hinitP : kP.init = .initialized := Cond.initialized_spec (findClass_of_methodNamed hnamed) hkP hinit
  obtain ⟨vm₁, X₁, hstep₁⟩ := X.invokestatic hexec hown hlink hnamed hmethM hstatic hkP hinitP hy (g := g) hg (argsL := argsL) (rest := rest) (hlen _ hsigM) hstack hdg
  rcases hK m meth c ⟨T.setVm vm₁, locs, cells, slots⟩ { g with stack := rest } (.invokestatic index) mk argsL.toArray X₁ hg hsize hdg hW (X₁.named hnamed) (hpre vm₁ X₁.warmed) with ⟨v, B, X', hpost, hsteps⟩ | ⟨q, B, X', hpost, hsteps⟩
  · exact Or.inl ⟨v, vm₁, B, X₁.warmed, X', hpost, fun target h => hstep₁ _ fun acts => by rw [doInvoke_state]; exact hsteps.trans h⟩
  · exact Or.inr ⟨q, vm₁, B, X₁.warmed, X', hpost, hstep₁ _ fun acts => by rw [doInvoke_state]; exact hsteps⟩
end Calls
theorem vx_cls {s : State} {T : State} {vm₁ : Vm} {E : String} {k : ClassId} (hW : s.WarmedH vm₁) (h : (T.setVm vm₁).vm.findClass E = some k) : s.vm.findClass E = some k := by
  have h1 : vm₁.findClass E = some k := h
  rw [hW.alike.findClass] at h1
  exact h1
/-- the method's frame g, with q thrown over it -/
def vx_W (p : Program) (l : Launch) (e : Env) (R : Room) (s : State) (m : MethodId) (args : Array Value) (below : List Frame) (meth : Method) (c : Code) (H : Heap) (locs : List Loc) (cells slots : Nat) (Q : State → Prop) (g : JFrame) (q : Addr) : Prop :=
  ∀ T : State, T.heap = H → Stand p l e R s m args below meth c T locs cells slots → ∃ t, Steps p.tables e below ((T.setTop g).pushFrame (.throwing q)) t ∧ Q t
def vx_Run (p : Program) (l : Launch) (e : Env) (R : Room) (s : State) (m : MethodId) (args : Array Value) (below : List Frame) (meth : Method) (c : Code) (H : Heap) (locs : List Loc) (cells slots mc ms : Nat) (g : JFrame) (rest : List Value) (Qa : State → Outcome → State → Prop) (XC : String → State → State → Prop) (free : Addr → Prop) : Prop :=
  ∀ T : State, T.heap = H → Stand p l e R s m args below meth c T locs cells slots →
    (∃ (v : Option Value) (st₀ t T' : State) (L : List Loc), st₀.heap = H ∧ Stand p l e R s m args below meth c T' (locs ++ L) (cells + mc) (slots + ms) ∧ (∀ q ∈ L, free q.base) ∧ T'.heap = t.heap ∧ T'.vm = t.vm ∧ Qa st₀ (.returned v) t ∧
      Goes p e below T g T' { g with pc := g.pc + 3, stack := v.toList ++ rest }) ∨
    (∃ (q : Addr) (st₀ t T' : State) (L : List Loc) (E : String) (ce : Cell), st₀.heap = H ∧ Stand p l e R s m args below meth c T' (locs ++ L) (cells + mc) (slots + ms) ∧ (∀ z ∈ L, free z.base) ∧ T'.heap = t.heap ∧ T'.vm = t.vm ∧ XC E st₀ t ∧ t.heap[q]? = some ce ∧ ce.vm = .none ∧ s.vm.findClass E = some ce.cls ∧
      Steps p.tables e below (T.setTop g) ((T'.setTop { g with stack := rest }).pushFrame (.throwing q)))
def vx_X {S : Type} (px : S → Prop) (B : String → S → State → Prop) (A : Nat → Prop) : String → State → State → Prop := fun E st t => ∃ u : S, px u ∧ B E u t ∧ va_F A st t
section Runs
variable {p : Program} {l : Launch} {e : Env} {R : Room} {s : State} {m : MethodId} {args : Array Value} {below : List Frame} {meth : Method} {c : Code} {H : Heap} {locs : List Loc} {cells slots : Nat}
variable {y : MethodName} {bytes cc : ByteArray} {maxL nL mc ms n index : Nat} {ret : Option FieldType} {ws : List Cond} {rm : Room} {Pc : Array Value → State → Prop} {Qc : Array Value → State → Outcome → State → Prop} {XC : String → State → State → Prop} {free : Addr → Prop} {Ts : List Cond} {own C : String} {b : Addr} {As rest : List Value} {g : JFrame}
theorem vx_callBack (cb : CallB R s args own index y bytes maxL ret ws rm mc ms n) (hM : vx_Met l y ws rm Pc Qc XC mc ms free) (hbl : FrameBlind Pc) : vx_Back l R p e below s args y 3 8 (PreOf R mc ms Pc) (PostOf Qc mc ms free) (vx_Post XC mc ms free) := by
  obtain ⟨hrc, hrs, hfr, hlo, hws, hcw, -, hini, -⟩ := cb
  exact vx_back (bytes := bytes) (maxL := maxL) (ret := ret) hM hbl hrc hrs hfr hlo hws hcw (fun a' U hW => word_at hW (Or.inl (by first | rfl | simp [Cond.onTables, Cond.keeps, Cond.steady])) hini)
theorem vx_runV (S : CallFix p m c cc nL s args Ts own) (hM : vx_Met l y ws rm Pc Qc XC mc ms free) (cw : CallW R s args own C index y bytes maxL ret ws rm mc ms n) (hp : PreV s H C b Pc As)
    (hg : g.method = m) (hn : As.length = n) (hsize : g.locals.size = nL) (hstack : g.stack = As.reverse ++ .ref b :: rest) (hW : 2 * g.monitorRoom + (rest.map fun v => v.category).sum ≤ 8) (hdg : decode cc g.pc = .ok (.invokevirtual index, 3)) (hf : cells + mc ≤ R.cells ∧ slots + ms ≤ R.slots) :
    vx_Run p l e R s m args below meth c H locs cells slots mc ms g rest (Qc (Value.ref b :: As).toArray) XC free := by
  have hK : vx_Back l R p e below s args y 3 8 (PreOf R mc ms Pc) (PostOf Qc mc ms free) (vx_Post XC mc ms free) := vx_callBack cw.1 hM hp.1
  obtain ⟨⟨-, -, -, -, -, -, hcode, -, hy, hlen, hl⟩, hin, hse⟩ := cw
  obtain ⟨hx, hb, hml, ho, -⟩ := S
  obtain ⟨-, ⟨cellB, hcB, hoB, hclB⟩, hPc⟩ := hp
  intro T hT X
  rcases vx_callV X hx (C := C) (bytes := bytes) (maxL := maxL) (ret := ret) ho hl hin hse hcode hy hK (by rw [hT]; exact hcB) hoB hclB hg (hsize.trans hml.symm) (argsL := As) (rest := rest) (fun sig h => hn.trans (hlen sig h)) hstack hW (by rw [hb]; exact hdg)
    (fun vm₁ hW₁ => ⟨hf.1, hf.2, hPc (T.setVm vm₁) hT hW₁⟩) with ⟨v, vm₁, ⟨U', l2, c2, s2⟩, hW₁, X', ⟨g', mk, t, L, e1, e2, hq, h1, hL, h2, h3⟩, st⟩ | ⟨q, vm₁, ⟨U', l2, c2, s2⟩, hW₁, X', ⟨g', mk, t, L, E, ce, e1, e2, hq, hce, hcv, hcl, h1, hL, h2, h3⟩, st⟩
  · dsimp only [Pt.U, Pt.locs, Pt.cells, Pt.slots] at X' e1 e2 h1 h2 h3 st
    subst h1; subst h2; subst h3
    exact Or.inl ⟨v, (T.setVm vm₁).calling g' mk (Value.ref b :: As).toArray, t, U', L, hT, X', hL, e1, e2, hq, st⟩
  · dsimp only [Pt.U, Pt.locs, Pt.cells, Pt.slots] at X' e1 e2 h1 h2 h3 st hcl
    subst h1; subst h2; subst h3
    exact Or.inr ⟨q, (T.setVm vm₁).calling g' mk (Value.ref b :: As).toArray, t, U', L, E, ce, hT, X', hL, e1, e2, hq, hce, hcv, vx_cls hW₁ hcl, st⟩
theorem vx_runS (S : CallFix p m c cc nL s args Ts own) (hM : vx_Met l y ws rm Pc Qc XC mc ms free) (cw : CallB R s args own index y bytes maxL ret ws rm mc ms n ∧ (Cond.static y).before args s = true) (hp : PreS s H Pc As)
    (hg : g.method = m) (hn : As.length = n) (hsize : g.locals.size = nL) (hstack : g.stack = As.reverse ++ rest) (hW : 2 * g.monitorRoom + (rest.map fun v => v.category).sum ≤ 8) (hdg : decode cc g.pc = .ok (.invokestatic index, 3)) (hf : cells + mc ≤ R.cells ∧ slots + ms ≤ R.slots) :
    vx_Run p l e R s m args below meth c H locs cells slots mc ms g rest (Qc As.toArray) XC free := by
  have hK : vx_Back l R p e below s args y 3 8 (PreOf R mc ms Pc) (PostOf Qc mc ms free) (vx_Post XC mc ms free) := vx_callBack cw.1 hM hp.1
  obtain ⟨⟨-, -, -, -, -, -, hcode, hini, hy, hlen, hl⟩, hstt⟩ := cw
  obtain ⟨hx, hb, hml, ho, -⟩ := S
  intro T hT X
  rcases vx_callS X hx (bytes := bytes) (maxL := maxL) (ret := ret) ho hl hstt hini hcode hy hK hg (hsize.trans hml.symm) (argsL := As) (rest := rest) (fun sig h => hn.trans (hlen sig h)) hstack hW (by rw [hb]; exact hdg)
    (fun vm₁ hW₁ => ⟨hf.1, hf.2, hp.2 (T.setVm vm₁) hT hW₁⟩) with ⟨v, vm₁, ⟨U', l2, c2, s2⟩, hW₁, X', ⟨g', mk, t, L, e1, e2, hq, h1, hL, h2, h3⟩, st⟩ | ⟨q, vm₁, ⟨U', l2, c2, s2⟩, hW₁, X', ⟨g', mk, t, L, E, ce, e1, e2, hq, hce, hcv, hcl, h1, hL, h2, h3⟩, st⟩
  · dsimp only [Pt.U, Pt.locs, Pt.cells, Pt.slots] at X' e1 e2 h1 h2 h3 st
    subst h1; subst h2; subst h3
    exact Or.inl ⟨v, (T.setVm vm₁).calling g' mk As.toArray, t, U', L, hT, X', hL, e1, e2, hq, st⟩
  · dsimp only [Pt.U, Pt.locs, Pt.cells, Pt.slots] at X' e1 e2 h1 h2 h3 st hcl
    subst h1; subst h2; subst h3
    exact Or.inr ⟨q, (T.setVm vm₁).calling g' mk As.toArray, t, U', L, E, ce, hT, X', hL, e1, e2, hq, hce, hcv, vx_cls hW₁ hcl, st⟩
end Runs
section Rows
variable {p : Program} {l : Launch} {e : Env} {R : Room} {s : State} {m : MethodId} {args : Array Value} {below : List Frame} {meth : Method} {c : Code} {H : Heap} {locs : List Loc} {cells slots : Nat} {Q : State → Prop}
variable {mc ms : Nat} {free : Addr → Prop} {A0 A1 : Nat → Prop} {H0 : Heap} {a : Array Value} {pc : Nat} {ls : Array Slot} {st0 rest : List Value}
theorem vx_keep {st₀ t T' : State} {L : List Loc} (h0 : st₀.heap = H) (e1 : T'.heap = t.heap) (hS : va_S A0 H0 H locs) (hA : ∀ q, q < H.size → A1 q → A0 q) (hf : ∀ q, free q → A0 q) (hL : ∀ q ∈ L, free q.base) (hF : va_F A1 st₀ t) :
    H.size ≤ T'.heap.size ∧ (∀ q : Nat, q < H.size → ¬ A1 q → T'.heap[q]? = H[q]?) ∧ va_S A0 H0 T'.heap (locs ++ L) := by
  obtain ⟨hz, hk⟩ := hF
  rw [h0] at hz hk
  exact ⟨by rw [e1]; exact hz, fun q h1 h2 => by rw [e1]; exact hk q h1 h2,
    ⟨Nat.le_trans hS.1 (by rw [e1]; exact hz), fun q h1 h2 => by rw [e1, hk q (Nat.lt_of_lt_of_le h1 hS.1) (fun z => h2 (hA q (Nat.lt_of_lt_of_le h1 hS.1) z))]; exact hS.2.1 q h1 h2, fun q hq => by
      rcases List.mem_append.mp hq with h | h
      · exact hS.2.2 q h
      · exact hf _ (hL q h)⟩⟩
theorem vx_calli {S SX : Type} {post : Int32 → S → Prop} {px : SX → Prop} {B : S → State → Prop} {BX : String → SX → State → Prop} {AX : Nat → Prop} (hr : vx_Run p l e R s m args below meth c H locs cells slots mc ms (F0 m pc ls st0) rest (va_Qi post B A1 a) (vx_X px BX AX) free) (hS : va_S A0 H0 H locs) (hA : ∀ q, q < H.size → A1 q → A0 q) (hf : ∀ q, free q → A0 q) (hAX : ∀ q, q < H.size → AX q → A0 q)
    (kx : ∀ (E : String) (ce : Cell) (q9 : Addr) (u : SX) (t : State) (H1 : Heap) (locs1 : List Loc), t.heap = H1 → s.vm.Alike t.vm → px u → BX E u t → H.size ≤ H1.size → (∀ q : Nat, q < H.size → ¬ AX q → H1[q]? = H[q]?) → va_S A0 H0 H1 locs1 → H1[q9]? = some ce → ce.vm = .none → s.vm.findClass E = some ce.cls → vx_W p l e R s m args below meth c H1 locs1 (cells + mc) (slots + ms) Q (F0 m pc ls rest) q9)
    (kk : ∀ (r : Int32) (u : S) (t : State) (H1 : Heap) (locs1 : List Loc), t.heap = H1 → s.vm.Alike t.vm → post r u → B u t → H.size ≤ H1.size → (∀ q : Nat, q < H.size → ¬ A1 q → H1[q]? = H[q]?) → va_S A0 H0 H1 locs1 → W p l e R s m args below meth c H1 locs1 (cells + mc) (slots + ms) Q (F0 m (pc + 3) ls (.int r :: rest))) : W p l e R s m args below meth c H locs cells slots Q (F0 m pc ls st0) := by
  intro T hT X
  rcases hr T hT X with ⟨v, st₀, t, T', L, h0, X', hL, e1, e2, ⟨⟨r, u, hv, hp, hb⟩, hF⟩, st⟩ | ⟨q, st₀, t, T', L, E, ce, h0, X', hL, e1, e2, ⟨u, hp, hb, hF⟩, hce, hcv, hcl, st⟩
  · cases hv
    obtain ⟨k1, k2, k3⟩ := vx_keep h0 e1 hS hA hf hL hF
    obtain ⟨t2, a1, b1⟩ := kk r u t T'.heap (locs ++ L) e1.symm (by rw [← e2]; exact X'.warmed.alike) hp hb k1 k2 k3 T' rfl X'
    exact ⟨t2, st t2 a1, b1⟩
  · obtain ⟨k1, k2, k3⟩ := vx_keep h0 e1 hS hAX hf hL hF
    obtain ⟨t2, a1, b1⟩ := kx E ce q u t T'.heap (locs ++ L) e1.symm (by rw [← e2]; exact X'.warmed.alike) hp hb k1 k2 k3 (by rw [e1]; exact hce) hcv hcl T' rfl X'
    exact ⟨t2, st.trans a1, b1⟩
theorem vx_calll {S SX : Type} {post : Int64 → S → Prop} {px : SX → Prop} {B : S → State → Prop} {BX : String → SX → State → Prop} {AX : Nat → Prop} (hr : vx_Run p l e R s m args below meth c H locs cells slots mc ms (F0 m pc ls st0) rest (va_Ql post B A1 a) (vx_X px BX AX) free) (hS : va_S A0 H0 H locs) (hA : ∀ q, q < H.size → A1 q → A0 q) (hf : ∀ q, free q → A0 q) (hAX : ∀ q, q < H.size → AX q → A0 q)
    (kx : ∀ (E : String) (ce : Cell) (q9 : Addr) (u : SX) (t : State) (H1 : Heap) (locs1 : List Loc), t.heap = H1 → s.vm.Alike t.vm → px u → BX E u t → H.size ≤ H1.size → (∀ q : Nat, q < H.size → ¬ AX q → H1[q]? = H[q]?) → va_S A0 H0 H1 locs1 → H1[q9]? = some ce → ce.vm = .none → s.vm.findClass E = some ce.cls → vx_W p l e R s m args below meth c H1 locs1 (cells + mc) (slots + ms) Q (F0 m pc ls rest) q9)
    (kk : ∀ (r : Int64) (u : S) (t : State) (H1 : Heap) (locs1 : List Loc), t.heap = H1 → s.vm.Alike t.vm → post r u → B u t → H.size ≤ H1.size → (∀ q : Nat, q < H.size → ¬ A1 q → H1[q]? = H[q]?) → va_S A0 H0 H1 locs1 → W p l e R s m args below meth c H1 locs1 (cells + mc) (slots + ms) Q (F0 m (pc + 3) ls (.long r :: rest))) : W p l e R s m args below meth c H locs cells slots Q (F0 m pc ls st0) := by
  intro T hT X
  rcases hr T hT X with ⟨v, st₀, t, T', L, h0, X', hL, e1, e2, ⟨⟨r, u, hv, hp, hb⟩, hF⟩, st⟩ | ⟨q, st₀, t, T', L, E, ce, h0, X', hL, e1, e2, ⟨u, hp, hb, hF⟩, hce, hcv, hcl, st⟩
  · cases hv
    obtain ⟨k1, k2, k3⟩ := vx_keep h0 e1 hS hA hf hL hF
    obtain ⟨t2, a1, b1⟩ := kk r u t T'.heap (locs ++ L) e1.symm (by rw [← e2]; exact X'.warmed.alike) hp hb k1 k2 k3 T' rfl X'
    exact ⟨t2, st t2 a1, b1⟩
  · obtain ⟨k1, k2, k3⟩ := vx_keep h0 e1 hS hAX hf hL hF
    obtain ⟨t2, a1, b1⟩ := kx E ce q u t T'.heap (locs ++ L) e1.symm (by rw [← e2]; exact X'.warmed.alike) hp hb k1 k2 k3 (by rw [e1]; exact hce) hcv hcl T' rfl X'
    exact ⟨t2, st.trans a1, b1⟩
theorem vx_callf {S SX : Type} {post : UInt32 → S → Prop} {px : SX → Prop} {B : S → State → Prop} {BX : String → SX → State → Prop} {AX : Nat → Prop} (hr : vx_Run p l e R s m args below meth c H locs cells slots mc ms (F0 m pc ls st0) rest (va_Qf post B A1 a) (vx_X px BX AX) free) (hS : va_S A0 H0 H locs) (hA : ∀ q, q < H.size → A1 q → A0 q) (hf : ∀ q, free q → A0 q) (hAX : ∀ q, q < H.size → AX q → A0 q)
    (kx : ∀ (E : String) (ce : Cell) (q9 : Addr) (u : SX) (t : State) (H1 : Heap) (locs1 : List Loc), t.heap = H1 → s.vm.Alike t.vm → px u → BX E u t → H.size ≤ H1.size → (∀ q : Nat, q < H.size → ¬ AX q → H1[q]? = H[q]?) → va_S A0 H0 H1 locs1 → H1[q9]? = some ce → ce.vm = .none → s.vm.findClass E = some ce.cls → vx_W p l e R s m args below meth c H1 locs1 (cells + mc) (slots + ms) Q (F0 m pc ls rest) q9)
    (kk : ∀ (r : UInt32) (u : S) (t : State) (H1 : Heap) (locs1 : List Loc), t.heap = H1 → s.vm.Alike t.vm → post r u → B u t → H.size ≤ H1.size → (∀ q : Nat, q < H.size → ¬ A1 q → H1[q]? = H[q]?) → va_S A0 H0 H1 locs1 → W p l e R s m args below meth c H1 locs1 (cells + mc) (slots + ms) Q (F0 m (pc + 3) ls (.float r :: rest))) : W p l e R s m args below meth c H locs cells slots Q (F0 m pc ls st0) := by
  intro T hT X
  rcases hr T hT X with ⟨v, st₀, t, T', L, h0, X', hL, e1, e2, ⟨⟨r, u, hv, hp, hb⟩, hF⟩, st⟩ | ⟨q, st₀, t, T', L, E, ce, h0, X', hL, e1, e2, ⟨u, hp, hb, hF⟩, hce, hcv, hcl, st⟩
  · cases hv
    obtain ⟨k1, k2, k3⟩ := vx_keep h0 e1 hS hA hf hL hF
    obtain ⟨t2, a1, b1⟩ := kk r u t T'.heap (locs ++ L) e1.symm (by rw [← e2]; exact X'.warmed.alike) hp hb k1 k2 k3 T' rfl X'
    exact ⟨t2, st t2 a1, b1⟩
  · obtain ⟨k1, k2, k3⟩ := vx_keep h0 e1 hS hAX hf hL hF
    obtain ⟨t2, a1, b1⟩ := kx E ce q u t T'.heap (locs ++ L) e1.symm (by rw [← e2]; exact X'.warmed.alike) hp hb k1 k2 k3 (by rw [e1]; exact hce) hcv hcl T' rfl X'
    exact ⟨t2, st.trans a1, b1⟩
theorem vx_calld {S SX : Type} {post : UInt64 → S → Prop} {px : SX → Prop} {B : S → State → Prop} {BX : String → SX → State → Prop} {AX : Nat → Prop} (hr : vx_Run p l e R s m args below meth c H locs cells slots mc ms (F0 m pc ls st0) rest (va_Qd post B A1 a) (vx_X px BX AX) free) (hS : va_S A0 H0 H locs) (hA : ∀ q, q < H.size → A1 q → A0 q) (hf : ∀ q, free q → A0 q) (hAX : ∀ q, q < H.size → AX q → A0 q)
    (kx : ∀ (E : String) (ce : Cell) (q9 : Addr) (u : SX) (t : State) (H1 : Heap) (locs1 : List Loc), t.heap = H1 → s.vm.Alike t.vm → px u → BX E u t → H.size ≤ H1.size → (∀ q : Nat, q < H.size → ¬ AX q → H1[q]? = H[q]?) → va_S A0 H0 H1 locs1 → H1[q9]? = some ce → ce.vm = .none → s.vm.findClass E = some ce.cls → vx_W p l e R s m args below meth c H1 locs1 (cells + mc) (slots + ms) Q (F0 m pc ls rest) q9)
    (kk : ∀ (r : UInt64) (u : S) (t : State) (H1 : Heap) (locs1 : List Loc), t.heap = H1 → s.vm.Alike t.vm → post r u → B u t → H.size ≤ H1.size → (∀ q : Nat, q < H.size → ¬ A1 q → H1[q]? = H[q]?) → va_S A0 H0 H1 locs1 → W p l e R s m args below meth c H1 locs1 (cells + mc) (slots + ms) Q (F0 m (pc + 3) ls (.double r :: rest))) : W p l e R s m args below meth c H locs cells slots Q (F0 m pc ls st0) := by
  intro T hT X
  rcases hr T hT X with ⟨v, st₀, t, T', L, h0, X', hL, e1, e2, ⟨⟨r, u, hv, hp, hb⟩, hF⟩, st⟩ | ⟨q, st₀, t, T', L, E, ce, h0, X', hL, e1, e2, ⟨u, hp, hb, hF⟩, hce, hcv, hcl, st⟩
  · cases hv
    obtain ⟨k1, k2, k3⟩ := vx_keep h0 e1 hS hA hf hL hF
    obtain ⟨t2, a1, b1⟩ := kk r u t T'.heap (locs ++ L) e1.symm (by rw [← e2]; exact X'.warmed.alike) hp hb k1 k2 k3 T' rfl X'
    exact ⟨t2, st t2 a1, b1⟩
  · obtain ⟨k1, k2, k3⟩ := vx_keep h0 e1 hS hAX hf hL hF
    obtain ⟨t2, a1, b1⟩ := kx E ce q u t T'.heap (locs ++ L) e1.symm (by rw [← e2]; exact X'.warmed.alike) hp hb k1 k2 k3 (by rw [e1]; exact hce) hcv hcl T' rfl X'
    exact ⟨t2, st.trans a1, b1⟩
theorem vx_callv {S SX : Type} {post : S → Prop} {px : SX → Prop} {B : S → State → Prop} {BX : String → SX → State → Prop} {AX : Nat → Prop} (hr : vx_Run p l e R s m args below meth c H locs cells slots mc ms (F0 m pc ls st0) rest (va_Qv post B A1 a) (vx_X px BX AX) free) (hS : va_S A0 H0 H locs) (hA : ∀ q, q < H.size → A1 q → A0 q) (hf : ∀ q, free q → A0 q) (hAX : ∀ q, q < H.size → AX q → A0 q)
    (kx : ∀ (E : String) (ce : Cell) (q9 : Addr) (u : SX) (t : State) (H1 : Heap) (locs1 : List Loc), t.heap = H1 → s.vm.Alike t.vm → px u → BX E u t → H.size ≤ H1.size → (∀ q : Nat, q < H.size → ¬ AX q → H1[q]? = H[q]?) → va_S A0 H0 H1 locs1 → H1[q9]? = some ce → ce.vm = .none → s.vm.findClass E = some ce.cls → vx_W p l e R s m args below meth c H1 locs1 (cells + mc) (slots + ms) Q (F0 m pc ls rest) q9)
    (kk : ∀ (u : S) (t : State) (H1 : Heap) (locs1 : List Loc), t.heap = H1 → s.vm.Alike t.vm → post u → B u t → H.size ≤ H1.size → (∀ q : Nat, q < H.size → ¬ A1 q → H1[q]? = H[q]?) → va_S A0 H0 H1 locs1 → W p l e R s m args below meth c H1 locs1 (cells + mc) (slots + ms) Q (F0 m (pc + 3) ls (rest))) : W p l e R s m args below meth c H locs cells slots Q (F0 m pc ls st0) := by
  intro T hT X
  rcases hr T hT X with ⟨v, st₀, t, T', L, h0, X', hL, e1, e2, ⟨⟨u, hv, hp, hb⟩, hF⟩, st⟩ | ⟨q, st₀, t, T', L, E, ce, h0, X', hL, e1, e2, ⟨u, hp, hb, hF⟩, hce, hcv, hcl, st⟩
  · cases hv
    obtain ⟨k1, k2, k3⟩ := vx_keep h0 e1 hS hA hf hL hF
    obtain ⟨t2, a1, b1⟩ := kk u t T'.heap (locs ++ L) e1.symm (by rw [← e2]; exact X'.warmed.alike) hp hb k1 k2 k3 T' rfl X'
    exact ⟨t2, st t2 a1, b1⟩
  · obtain ⟨k1, k2, k3⟩ := vx_keep h0 e1 hS hAX hf hL hF
    obtain ⟨t2, a1, b1⟩ := kx E ce q u t T'.heap (locs ++ L) e1.symm (by rw [← e2]; exact X'.warmed.alike) hp hb k1 k2 k3 (by rw [e1]; exact hce) hcv hcl T' rfl X'
    exact ⟨t2, st.trans a1, b1⟩
/-- caught by the row x of this method's table; the rows ahead don't take it -/
theorem vx_catch {own name : String} {E : String} {ce : Cell} {q : Addr} (hown : s.vm.findClass own = some m.cls) (pre : List ExceptionTableEntry) (x : ExceptionTableEntry) (suf : List ExceptionTableEntry) (hsplit : c.exceptionTable.toList = pre ++ x :: suf)
    (hpass : ∀ z ∈ pre, covers z pc = false ∨ (z.catchType ≠ 0 ∧ ∃ nm : String, (Cond.classLink own z.catchType nm).before args s = true ∧ va_Nc E nm s)) (hx : covers x pc = true) (h0 : x.catchType ≠ 0)
    (hlink : (Cond.classLink own x.catchType name).before args s = true) (hcast : (Cond.castable E name).before args s = true) (hcell : H[q]? = some ce) (hv : ce.vm = .none) (hcl : s.vm.findClass E = some ce.cls)
    (kk : W p l e R s m args below meth c H locs cells slots Q (F0 m x.handlerPc ls [.ref q])) : vx_W p l e R s m args below meth c H locs cells slots Q (F0 m pc ls rest) q := by
  intro T hT X
  have hpl : e.platform.magicAccessors = ({} : Platform).magicAccessors := by rw [X.admits.platform]
  obtain ⟨c3, c4, hc3, hc4, hasg⟩ := Cond.castable_spec hcast
  cases Option.some.inj (hc3.symm.trans hcl)
  obtain ⟨c5, hc5, hcl5⟩ := Cond.classLink_spec hown hlink e.platform hpl
  cases Option.some.inj (hc4.symm.trans hc5)
  obtain ⟨vm', X', st⟩ := X.thenCaughtThrough q (g := F0 m pc ls rest) rfl (Steps.refl _) (by rw [hT]; exact hcell) (by rw [hv]; rfl) (by obtain ⟨k9, h9, -⟩ := Vm.findClass_spec hcl; exact ⟨k9, h9⟩) pre x suf hsplit
    (fun z hz => by
      rcases hpass z hz with h | ⟨hz0, nm, hl1, hn1⟩
      · exact Or.inl h
      · obtain ⟨c6, hc6, hcl6⟩ := Cond.classLink_spec hown hl1 e.platform hpl
        obtain ⟨a8, b8, h1, h2, h3⟩ := hn1
        cases Option.some.inj (h1.symm.trans hcl)
        cases Option.some.inj (h2.symm.trans hc6)
        exact Or.inr ⟨hz0, _, hcl6, h3⟩) hx (Or.inr ⟨h0, c4, hcl5, hasg⟩)
  obtain ⟨t, a1, b1⟩ := kk (T.setVm vm') hT X'
  exact ⟨t, st.trans a1, b1⟩
end Rows
section Ends
variable {p : Program} {l : Launch} {e : Env} {R : Room} {s : State} {m : MethodId} {args : Array Value} {below : List Frame} {meth : Method} {c : Code} {H : Heap} {locs : List Loc} {cells slots : Nat} {Q : State → Prop}
variable {mc ms : Nat} {free : Addr → Prop} {A0 A1 : Nat → Prop} {H0 : Heap} {a : Array Value} {ls : Array Slot} {st0 rest : List Value}
variable {Qc : Array Value → State → Outcome → State → Prop} {XC : String → State → State → Prop}
/-- what a body that may throw owes at its end -/
def vx_MQ (below : List Frame) (Qc : Array Value → State → Outcome → State → Prop) (XC : String → State → State → Prop) (a : Array Value) (s : State) (mc ms : Nat) (free : Addr → Prop) : State → Prop := fun t =>
  ∃ o, t.status = .running ∧ Ended t below o ∧ vx_Q Qc XC mc ms free a s o t
theorem vx_ret {g : JFrame} {mc ms : Nat} (k : W p l e R s m args below meth c H locs cells slots (MQ below Qc args s mc ms free) g) : W p l e R s m args below meth c H locs cells slots (vx_MQ below Qc XC args s mc ms free) g := by
  intro T hT X
  obtain ⟨t, a1, o, b1, b2, b3, b4⟩ := k T hT X
  exact ⟨t, a1, o, b1, b2, Or.inl ⟨b3, b4⟩⟩
/-- not caught here: it goes on to the caller -/
theorem vx_widen {g : JFrame} {q : Addr} {k n : Nat} (h1 : cells ≤ k) (h2 : slots ≤ n) (kk : vx_W p l e R s m args below meth c H locs k n Q g q) : vx_W p l e R s m args below meth c H locs cells slots Q g q := fun T hT X => kk T hT (stand_widen X h1 h2)
theorem vx_out {pc : Nat} {E : String} {ce : Cell} {q : Addr} {mc ms : Nat} (hout : ∀ x ∈ c.exceptionTable.toList, covers x pc = false) (hlocks : meth.locks = false) (hcell : H[q]? = some ce) (hv : ce.vm = .none) (hcl : s.vm.findClass E = some ce.cls)
    (hx : ∀ t : State, t.heap = H → s.vm.Alike t.vm → XC E s t) (hf : ∀ z ∈ locs, free z.base) (hc : cells ≤ mc) (hs : slots ≤ ms) :
    vx_W p l e R s m args below meth c H locs cells slots (vx_MQ below Qc XC args s mc ms free) (F0 m pc ls rest) q := by
  intro T hT X
  obtain ⟨st1, hrun, hend, hW, hsm⟩ := X.leaveThrown q (g := F0 m pc ls rest) rfl rfl rfl hout hlocks
  have hcell9 : (T.setFrames (.throwing q :: below)).heap[q]? = some ce := by
    show T.heap[q]? = some ce
    rw [hT]; exact hcell
  exact ⟨_, st1, .threw q, hrun, hend, Or.inr ⟨q, rfl, E, ce, locs, hx _ hT hW.alike, hcell9, hv, hcl, hW, hsm.mono hc hs, hf⟩⟩
theorem vx_frame {U : State} {k n : Nat} (h : s.sameButNew ({ U with vm := s.vm } : State) locs k n) : s.heap.size ≤ U.heap.size ∧ ∀ q : Nat, q < s.heap.size → (∀ z ∈ locs, z.base ≠ q) → U.heap[q]? = s.heap[q]? := by
  obtain ⟨-, h2, -, -, -, h6⟩ := h
  refine ⟨h2, fun q hq hz => ?_⟩
  obtain ⟨c9, e1, e2, e3, e4⟩ := h6 q _ (Array.getElem?_eq_getElem hq)
  have hs : c9.slots = (s.heap[q]).slots := Array.ext_getElem? fun i => e4 i fun hm => hz _ hm rfl
  have h9 : c9 = s.heap[q] := by
    rw [hs] at e2
    exact e2
  have e5 : U.heap[q]? = some c9 := e1
  rw [e5, h9, Array.getElem?_eq_getElem hq]
/-- the words of a throw but the four that speak of the heap -/
def vx_no (w : Cond) : Bool := decide (w ≠ .isRef (.static Bundle.tN "UNASSIGNED_STACK" Bundle.steD)) && decide (w ≠ .isRef (.static Bundle.tN "SUPPRESSED_SENTINEL" Bundle.listD)) && decide (w ≠ .laysStatic Bundle.tN "UNASSIGNED_STACK" Bundle.steD) && decide (w ≠ .laysStatic Bundle.tN "SUPPRESSED_SENTINEL" Bundle.listD)
def vx_at0 (own : String) (ic : Nat) (X : String) (names : List String) : List Cond := (Bundle.ownAtoms0 own ic X names).filter vx_no
def vx_atS (own : String) (ic : Nat) (X : String) (names : List String) : List Cond := (Bundle.ownAtoms own ic X names).filter vx_no
/-- a word that the tables alone decide, or a good one -/
def vx_ot (w : Cond) : Bool := w.onTables || goodWord w
theorem vx_ot_at {args a' : Array Value} {s U : State} {w : Cond} (hW : s.WarmedH U.vm) (hvm : s.vm = U.vm) (hg : vx_ot w = true) (h : w.before args s = true) : w.before a' U = true := by
  simp only [vx_ot, Bool.or_eq_true] at hg
  rcases hg with hg | hg
  · exact va_tabs hg hvm h
  · exact word_at hW (good_of_word hg) h
/-- a list's words: the good ones out of the method's own list, the others by premises of their own -/
theorem vx_hat {args : Array Value} {s : State} {L B : List Cond} (h1 : ∀ w ∈ L.filter goodWord, w.before args s = true) (h2 : ∀ w ∈ L.filter (fun w => !goodWord w), w ∈ B) (h3 : ∀ w ∈ B, w.before args s = true) : ∀ w ∈ L, w.before args s = true := by
  intro w hw
  by_cases g : goodWord w = true
  · exact h1 w (List.mem_filter.mpr ⟨hw, g⟩)
  · refine h3 w (h2 w (List.mem_filter.mpr ⟨hw, ?_⟩))
    show (!goodWord w) = true
    cases hgw : goodWord w
    · rfl
    · exact absurd hgw g
theorem vx_c {args : Array Value} {s : State} {w : Cond} {B : List Cond} (h : w.before args s = true) (t : ∀ w ∈ B, w.before args s = true) : ∀ w' ∈ w :: B, w'.before args s = true := fun w' h' => (List.mem_cons.mp h').elim (fun e => by rw [e]; exact h) (t w')
theorem vx_n {args : Array Value} {s : State} : ∀ w ∈ ([] : List Cond), w.before args s = true := fun _ h => nomatch h
theorem vx_own {args : Array Value} {s : State} {L : List Cond} (h1 : ∀ w ∈ L.filter vx_no, w.before args s = true)
    (hU : (Cond.isRef (.static Bundle.tN "UNASSIGNED_STACK" Bundle.steD)).before args s = true) (hN : (Cond.isRef (.static Bundle.tN "SUPPRESSED_SENTINEL" Bundle.listD)).before args s = true)
    (lU : (Cond.laysStatic Bundle.tN "UNASSIGNED_STACK" Bundle.steD).before args s = true) (lN : (Cond.laysStatic Bundle.tN "SUPPRESSED_SENTINEL" Bundle.listD).before args s = true) : ∀ w ∈ L, w.before args s = true := by
  intro w hw
  by_cases e1 : w = .isRef (.static Bundle.tN "UNASSIGNED_STACK" Bundle.steD)
  · rw [e1]; exact hU
  · by_cases e2 : w = .isRef (.static Bundle.tN "SUPPRESSED_SENTINEL" Bundle.listD)
    · rw [e2]; exact hN
    · by_cases e3 : w = .laysStatic Bundle.tN "UNASSIGNED_STACK" Bundle.steD
      · rw [e3]; exact lU
      · by_cases e4 : w = .laysStatic Bundle.tN "SUPPRESSED_SENTINEL" Bundle.listD
        · rw [e4]; exact lN
        · exact h1 w (List.mem_filter.mpr ⟨hw, by unfold vx_no; rw [decide_eq_true e1, decide_eq_true e2, decide_eq_true e3, decide_eq_true e4]; rfl⟩)
/-- where a static field lies, its class's statics cell in H -/
def vx_L (C n d : String) (A : Nat → Prop) (U : State) (H : Heap) : Prop := ∃ (c : ClassId) (k : Class) (i : Nat) (f : Field) (a : Nat) (cell : Cell), U.vm.findClass C = some c ∧ U.fieldFound? C n d = some (c, k, i, f) ∧ f.isStatic = true ∧ k.statics = some a ∧ H[a]? = some cell ∧ cell.vm.isStatics = true ∧ cell.cls = c ∧ f.slot < cell.slots.size ∧ k.staticTypes[f.slot]? = some f.type ∧ ¬ A a
theorem vx_L.moved {C n d : String} {A : Nat → Prop} {u U : State} {H : Heap} (hvm : u.vm.Alike U.vm) (h : vx_L C n d A u H) : vx_L C n d A U H := by
  obtain ⟨c, k, i, f, a, cell, h1, h2, h3, h4, h5, h6, h7, h8, h9, h10⟩ := h
  obtain ⟨k', hi', he⟩ := State.fieldFound?_setVm hvm h2
  exact ⟨c, k', i, f, a, cell, by rw [hvm.findClass]; exact h1, hi', h3, by rw [he]; exact h4, h5, h6, h7, h8, by rw [he]; exact h9, h10⟩
theorem vx_L.kept {C n d : String} {A : Nat → Prop} {U : State} {H H1 : Heap} (h : vx_L C n d A U H) (hq : ∀ a : Nat, a < H.size → ¬ A a → H1[a]? = H[a]?) : vx_L C n d A U H1 := by
  obtain ⟨c, k, i, f, a, cell, h1, h2, h3, h4, h5, h6, h7, h8, h9, h10⟩ := h
  exact ⟨c, k, i, f, a, cell, h1, h2, h3, h4, by rw [hq a (Array.getElem?_eq_some_iff.mp h5).1 h10]; exact h5, h6, h7, h8, h9, h10⟩
theorem vx_L.narrow {C n d : String} {A B : Nat → Prop} {U : State} {H : Heap} (h : vx_L C n d A U H) (hAB : ∀ q, B q → A q) : vx_L C n d B U H := by
  obtain ⟨c, k, i, f, a, cell, h1, h2, h3, h4, h5, h6, h7, h8, h9, h10⟩ := h
  exact ⟨c, k, i, f, a, cell, h1, h2, h3, h4, h5, h6, h7, h8, h9, fun z => h10 (hAB _ z)⟩
theorem vx_L.word {C n d : String} {A : Nat → Prop} {s : State} {args : Array Value} (h : vx_L C n d A s s.heap) : (Cond.laysStatic C n d).before args s = true := by
  obtain ⟨c, k, i, f, a, cell, h1, h2, h3, h4, h5, h6, h7, h8, h9, -⟩ := h
  show (Cond.laysStatic C n d).holds args s none s [] = true
  exact Cond.laysStatic_of h1 h2 h3 h4 h5 h6 h7 h8 h9
/-- .. and what it holds: null or some reference -/
def vx_Zq (C n d : String) (A : Nat → Prop) (U : State) (H : Heap) : Prop := va_Zq C n d A U H ∧ vx_L C n d A U H
theorem vx_Zq.moved {C n d : String} {A : Nat → Prop} {u U : State} {H : Heap} (hvm : u.vm.Alike U.vm) (h : vx_Zq C n d A u H) : vx_Zq C n d A U H := ⟨va_Zq.moved hvm h.1, vx_L.moved hvm h.2⟩
theorem vx_Zq.kept {C n d : String} {A : Nat → Prop} {U : State} {H H1 : Heap} (h : vx_Zq C n d A U H) (hq : ∀ a : Nat, a < H.size → ¬ A a → H1[a]? = H[a]?) : vx_Zq C n d A U H1 := ⟨va_Zq.kept h.1 hq, vx_L.kept h.2 hq⟩
theorem vx_Zq.narrow {C n d : String} {A B : Nat → Prop} {U : State} {H : Heap} (h : vx_Zq C n d A U H) (hAB : ∀ q, B q → A q) : vx_Zq C n d B U H := ⟨va_Zq.narrow h.1 hAB, vx_L.narrow h.2 hAB⟩
theorem vx_Zqof {args : Array Value} {s : State} {C n d : String} {A : Nat → Prop} (hl : (Cond.laysStatic C n d).before args s = true) (hini : (Cond.initialized C).before args s = true) (h : (Cond.isRef (.static C n d)).before args s = true) (hA : ∀ a : Nat, a < s.heap.size → ¬ A a) : vx_Zq C n d A s s.heap := by
  refine ⟨va_Zqof hl hini h hA, ?_⟩
  obtain ⟨c, k, i, f, a, cell, h1, h2, h3, h4, h5, h6, h7, h8, h9⟩ := Cond.laysStatic_spec hl
  exact ⟨c, k, i, f, a, cell, h1, h2, h3, h4, h5, h6, h7, h8, h9, hA a (Array.getElem?_eq_some_iff.mp h5).1⟩
theorem vx_isRef {C n d : String} {v : Value} {A : Nat → Prop} {s : State} {args : Array Value} (h : va_Z C n d v A s s.heap) (hv : v.isRef = true) : (Cond.isRef (.static C n d)).before args s = true := by
  obtain ⟨cf, kf, fi, f, a, cell, h1, h2, h3, h4, h5, h6, h7, -⟩ := h
  have he : (Term.static C n d).eval args s none [] s = some v := by
    simp [Term.eval, State.fieldNamed?, h1, h2, h4, h5, h6, h7]
  simp only [Cond.before, Cond.holds, Cond.value, he]
  cases v <;> simp_all [Value.isRef]
theorem vx_isRefq {C n d : String} {A : Nat → Prop} {s : State} {args : Array Value} (h : va_Zq C n d A s s.heap) : (Cond.isRef (.static C n d)).before args s = true := by
  rcases h with h | ⟨t, h⟩
  · exact vx_isRef h rfl
  · exact vx_isRef h rfl
/-- the same frame, seen from here: as if the method were called anew in this heap -/
theorem vx_rebase {T : State} (X : Stand p l e R s m args below meth c T locs cells slots) {R' : Room} (hf : R'.frames ≤ R.frames) (hl : R'.locals ≤ R.locals) (hc : cells + R'.cells ≤ R.cells) (hs : slots + R'.slots ≤ R.slots) :
    Stand p l e R' ((T.setVm s.vm).setFrames (.invoking m args :: below)) m args below meth c T [] 0 0 := by
  have htop : (T.setVm s.vm).topJava?.isSome := X.here.top
  have hF : ((T.setVm s.vm).setFrames (.invoking m args :: below)).frames = .invoking m args :: below := State.frames_setFrames _ (State.cur_lt_of_top htop)
  obtain ⟨g₀, hg0⟩ := Option.isSome_iff_exists.mp htop
  obtain ⟨r, hr⟩ := State.topJava?_eq_some.mp hg0
  have hl9 : e.platform.stackLimits (T.setVm s.vm).me = e.platform.stackLimits s.me := X.limits
  have hb9 : (T.setVm s.vm).me.stackBytes = s.me.stackBytes := X.bytes
  refine ⟨X.admits, X.cas, X.clock, hF, ?_, X.hears, X.method, X.code, X.here, X.tail, X.warmed, ?_, ?_, ?_⟩
  · have h := X.room
    have hU : ((T.setVm s.vm).setFrames (.invoking m args :: below)).localsInUse = s.localsInUse := by
      rw [State.localsInUse_invoking hF (meth := meth) (c := c) X.method X.code, State.localsInUse_invoking X.frames X.method X.code]
    simp only [State.hasRoom, Bool.and_eq_true, decide_eq_true_eq] at h ⊢
    obtain ⟨⟨⟨⟨h1, h2, h3, h4, h5, h6⟩, h7⟩, h8⟩, h9⟩ := h
    rw [X.frames, List.length_cons] at h2 h3
    have q1 := X.heapSize
    have q2 := X.used
    simp only [hF, hU, List.length_cons, State.stackLimits_setFrames, State.stackBytes_setFrames, hl9, hb9]
    refine ⟨⟨⟨⟨by omega, by omega, by omega, by omega, by omega, h6⟩, ?_⟩, ?_⟩, X.book⟩
    · show T.heap.size + R'.cells ≤ e.platform.maxCells
      omega
    · show T.slotsUsed + R'.slots ≤ e.platform.maxSlots
      omega
  · rw [State.stackLimits_setFrames]; rfl
  · rw [State.stackBytes_setFrames]; rfl
  · refine ⟨?_, Nat.le_refl _, Nat.le_refl _, ?_, ?_, fun a c9 h9 => ⟨c9, h9, rfl, rfl, fun _ _ => rfl⟩⟩
    · obtain ⟨t, ht, -⟩ := State.frames_cons hr
      show T.setVm s.vm = { ((T.setVm s.vm).setFrames (.invoking m args :: below)).setFrames (T.setVm s.vm).frames with heap := T.heap, slotsUsed := T.slotsUsed }
      rw [State.setFrames_setFrames, State.setFrames_self ht]
      rfl
    · show T.slotsUsed = T.slotsUsed + ((T.heap.toList.drop T.heap.size).map (·.slots.size)).sum
      rw [List.drop_eq_nil_of_le (Nat.le_of_eq Array.length_toList)]
      rfl
    · show ((T.heap.toList.drop T.heap.size).map (·.slots.size)).sum ≤ 0
      rw [List.drop_eq_nil_of_le (Nat.le_of_eq Array.length_toList)]
      exact Nat.le_refl _
/-- 'throw new E()': new; dup; invokespecial; athrow -/
theorem vx_throw0 {cc : ByteArray} {pc : Nat} (hexec : p.tables.exec = Jvm.exec) (hb : c.code = cc) (hl : l.stackTraces = false) {own cls : String} {names : List String} {ik ic mc ms : Nat} {A : Nat → Prop}
    (hown : s.vm.findClass own = some m.cls) (hcls : Bundle.fit cls = true) (hnames : ∀ n ∈ names, Bundle.fit n = true)
    (hk : (Cond.classLink own ik cls).before args s = true) (hini : (Cond.initialized cls).before args s = true) (hat : ∀ w ∈ vx_at0 own ic cls names, w.before args s = true)
    (hgood : ∀ w ∈ Cond.classLink own ik cls :: Cond.initialized cls :: vx_at0 own ic cls names, vx_ot w = true)
    (hU : vx_Zq Bundle.tN "UNASSIGNED_STACK" Bundle.steD A s s.heap) (hN : vx_Zq Bundle.tN "SUPPRESSED_SENTINEL" Bundle.listD A s s.heap) (hS : va_S A s.heap H locs) (hsize : ls.size = c.maxLocals)
    (d0 : decode cc pc = .ok (.new ik, 3)) (d3 : decode cc (pc + 3) = .ok (.dup, 1)) (d4 : decode cc (pc + 4) = .ok (.invokespecial ic, 3)) (d7 : decode cc (pc + 7) = .ok (.athrow, 1))
    (hout : ∀ x ∈ c.exceptionTable.toList, covers x (pc + 7) = false)
    (hRframes : names.length + 3 < R.frames) (hRlocals : (rest.map fun v => v.category).sum + (13 * (names.length + 1) + 42) ≤ R.locals) (hRcells : cells + 1 ≤ R.cells) (hRslots : slots + 6 ≤ R.slots) (hlocks : meth.locks = false)
    (hx : ∀ t : State, s.vm.Alike t.vm → H.size ≤ t.heap.size → (∀ q : Nat, q < H.size → t.heap[q]? = H[q]?) → XC cls s t)
    (hf : ∀ z ∈ locs, free z.base) (hc : cells + 1 ≤ mc) (hs : slots + 6 ≤ ms) :
    W p l e R s m args below meth c H locs cells slots (vx_MQ below Qc XC args s mc ms free) (F0 m pc ls rest) := by
  intro T hT X
  have htr : e.platform.stackTraces = false := (show e.platform.stackTraces = l.stackTraces by rw [X.admits.platform]).trans hl
  have Y := vx_rebase X (R' := { frames := R.frames, locals := R.locals, cells := 1, slots := 6 }) (Nat.le_refl _) (Nat.le_refl _) hRcells hRslots
  obtain ⟨s', hA⟩ : ∃ z, z = (T.setVm s.vm).setFrames (.invoking m args :: below) := ⟨_, rfl⟩
  rw [← hA] at Y
  have hvm : s'.vm = s.vm := by rw [hA]; rfl
  have hhp : s'.heap = H := by rw [hA]; exact hT
  have hW0 : s.WarmedH s'.vm := by rw [hvm]; exact State.WarmedH.refl s
  have hat' : ∀ w ∈ vx_at0 own ic cls names, w.before args s' = true := fun w hw => vx_ot_at hW0 hvm.symm (hgood w (List.mem_cons_of_mem _ (List.mem_cons_of_mem _ hw))) (hat w hw)
  have hk' : (Cond.classLink own ik cls).before args s' = true := vx_ot_at hW0 hvm.symm (hgood _ List.mem_cons_self) hk
  have hini' : (Cond.initialized cls).before args s' = true := vx_ot_at hW0 hvm.symm (hgood _ (List.mem_cons_of_mem _ List.mem_cons_self)) hini
  have hU' : vx_Zq Bundle.tN "UNASSIGNED_STACK" Bundle.steD A s' s'.heap := by rw [hhp]; exact vx_Zq.moved hW0.alike (hU.kept hS.2.1)
  have hN' : vx_Zq Bundle.tN "SUPPRESSED_SENTINEL" Bundle.listD A s' s'.heap := by rw [hhp]; exact vx_Zq.moved hW0.alike (hN.kept hS.2.1)
  have h : ∀ w ∈ Bundle.ownAtoms0 own ic cls names, w.before args s' = true := vx_own hat' (vx_isRefq hU'.1) (vx_isRefq hN'.1) hU'.2.word hN'.2.word
  have hown' : s'.vm.findClass own = some m.cls := by rw [hvm]; exact hown
  have hins : (Cond.instantiable cls 6).before args s' = true := h _ (by simp [Bundle.ownAtoms0])
  obtain ⟨vm₁, cX, kX, hfX, hkX, -, -, X₁, st1⟩ := Y.newCold hexec (own := own) (C := cls) (index := ik) (n := 6) hown' hk' hins hini'
    (g := F0 m pc ls rest) rfl (by rw [hb]; exact d0) (Nat.le_refl _) (Nat.le_refl _)
  generalize hT1 : (T.setVm vm₁).pushCell { cls := cX, slots := kX.instanceTypes.map defaultValue, vm := .none } = T1 at X₁ st1
  have hcat : (Value.ref T.heap.size).category = 1 := rfl
  have hcellA : T1.heap[T.heap.size]? = some (freshCell cX kX) := by rw [← hT1]; exact State.heap_pushCell_size _ _
  have d3' : decode c.code (pc + 3) = .ok (.dup, 1) := by rw [hb]; exact d3
  obtain ⟨U, hsteps, hrun, hend, hW, hsame, ce, hce, hO⟩ := X₁.ctorThrow0 hexec htr (own := own) (cls := cls) (names := names) (ic := ic) hown' hcls hnames h (fun x hx => nomatch hx) hfX hkX hcellA (by rw [hhp, hT]; exact Nat.le_refl _)
    (g := { method := m, pc := pc + 4, locals := ls, stack := .ref T.heap.size :: .ref T.heap.size :: rest, locked := none }) rfl hsize rfl rfl (rest := rest) rfl
    (by rw [hb]; exact d4) (by rw [hb]; exact d7) hout hRframes (by simp only [List.map_cons, List.sum_cons, hcat]; omega) hlocks
  obtain ⟨f1, f2⟩ := vx_frame hsame
  rw [hhp] at f1 f2
  have hWs : s.WarmedH U.vm := State.WarmedH.trans hW0 hW
  have hcl : s.vm.findClass cls = some ce.cls := by
    have h9 := hO.cls
    rw [hvm] at h9
    exact h9
  have hall : s.sameButNew ({ U with vm := s.vm } : State) locs mc ms := by
    subst hA
    obtain ⟨e1, e2⟩ := hsame
    rw [State.setFrames_setFrames] at e1
    have h2 : (T.setVm s.vm).sameButNew ({ U with vm := s.vm } : State) [] (0 + 1) (0 + 6) := ⟨e1, e2⟩
    have h3 := X.same.trans h2
    rw [List.append_nil] at h3
    exact h3.mono hc hs
  refine ⟨U, ?_, .threw T.heap.size, hrun, hend, Or.inr ⟨T.heap.size, rfl, cls, ce, locs, hx U hWs.alike f1 (fun q hq => f2 q hq (fun z hz => nomatch hz)), hce, hO.vm, hcl, hWs, hall, hf⟩⟩
  refine st1 _ ?_
  show Steps p.tables e below (T1.setTop { method := m, pc := pc + 3, locals := ls, stack := .ref T.heap.size :: rest, locked := none }) _
  jvm_step X₁.here [X₁.here.top, hexec, d3', Value.category]
  exact hsteps
/-- 'throw new E("text")': new; dup; ldc; invokespecial; athrow -/
theorem vx_throwS {cc : ByteArray} {pc : Nat} (hexec : p.tables.exec = Jvm.exec) (hb : c.code = cc) (hl : l.stackTraces = false) {own cls text : String} {names : List String} {ik is ic mc ms sa : Nat} {A : Nat → Prop}
    (hown : s.vm.findClass own = some m.cls) (hcls : Bundle.fit cls = true) (hnames : ∀ n ∈ names, Bundle.fit n = true)
    (hk : (Cond.classLink own ik cls).before args s = true) (hini : (Cond.initialized cls).before args s = true) (hstr : vk_R own is text sa s) (hat : ∀ w ∈ vx_atS own ic cls names, w.before args s = true)
    (hgood : ∀ w ∈ Cond.classLink own ik cls :: Cond.initialized cls :: vx_atS own ic cls names, vx_ot w = true)
    (hU : vx_Zq Bundle.tN "UNASSIGNED_STACK" Bundle.steD A s s.heap) (hN : vx_Zq Bundle.tN "SUPPRESSED_SENTINEL" Bundle.listD A s s.heap) (hS : va_S A s.heap H locs) (hsize : ls.size = c.maxLocals)
    (d0 : decode cc pc = .ok (.new ik, 3)) (d3 : decode cc (pc + 3) = .ok (.dup, 1)) (d4 : decode cc (pc + 4) = .ok (.ldc is, 2)) (d6 : decode cc (pc + 6) = .ok (.invokespecial ic, 3)) (d9 : decode cc (pc + 9) = .ok (.athrow, 1))
    (hout : ∀ x ∈ c.exceptionTable.toList, covers x (pc + 9) = false)
    (hRframes : names.length + 3 < R.frames) (hRlocals : (rest.map fun v => v.category).sum + (13 * (names.length + 1) + 43) ≤ R.locals) (hRcells : cells + 1 ≤ R.cells) (hRslots : slots + 6 ≤ R.slots) (hlocks : meth.locks = false)
    (hx : ∀ t : State, s.vm.Alike t.vm → H.size ≤ t.heap.size → (∀ q : Nat, q < H.size → t.heap[q]? = H[q]?) → XC cls s t)
    (hf : ∀ z ∈ locs, free z.base) (hc : cells + 1 ≤ mc) (hs : slots + 6 ≤ ms) :
    W p l e R s m args below meth c H locs cells slots (vx_MQ below Qc XC args s mc ms free) (F0 m pc ls rest) := by
  intro T hT X
  have htr : e.platform.stackTraces = false := (show e.platform.stackTraces = l.stackTraces by rw [X.admits.platform]).trans hl
  have Y := vx_rebase X (R' := { frames := R.frames, locals := R.locals, cells := 1, slots := 6 }) (Nat.le_refl _) (Nat.le_refl _) hRcells hRslots
  obtain ⟨s', hA⟩ : ∃ z, z = (T.setVm s.vm).setFrames (.invoking m args :: below) := ⟨_, rfl⟩
  rw [← hA] at Y
  have hvm : s'.vm = s.vm := by rw [hA]; rfl
  have hhp : s'.heap = H := by rw [hA]; exact hT
  have hW0 : s.WarmedH s'.vm := by rw [hvm]; exact State.WarmedH.refl s
  have hat' : ∀ w ∈ vx_atS own ic cls names, w.before args s' = true := fun w hw => vx_ot_at hW0 hvm.symm (hgood w (List.mem_cons_of_mem _ (List.mem_cons_of_mem _ hw))) (hat w hw)
  have hk' : (Cond.classLink own ik cls).before args s' = true := vx_ot_at hW0 hvm.symm (hgood _ List.mem_cons_self) hk
  have hini' : (Cond.initialized cls).before args s' = true := vx_ot_at hW0 hvm.symm (hgood _ (List.mem_cons_of_mem _ List.mem_cons_self)) hini
  have hU' : vx_Zq Bundle.tN "UNASSIGNED_STACK" Bundle.steD A s' s'.heap := by rw [hhp]; exact vx_Zq.moved hW0.alike (hU.kept hS.2.1)
  have hN' : vx_Zq Bundle.tN "SUPPRESSED_SENTINEL" Bundle.listD A s' s'.heap := by rw [hhp]; exact vx_Zq.moved hW0.alike (hN.kept hS.2.1)
  have h : ∀ w ∈ Bundle.ownAtoms own ic cls names, w.before args s' = true := vx_own hat' (vx_isRefq hU'.1) (vx_isRefq hN'.1) hU'.2.word hN'.2.word
  have hown' : s'.vm.findClass own = some m.cls := by rw [hvm]; exact hown
  have hins : (Cond.instantiable cls 6).before args s' = true := h _ (by simp [Bundle.ownAtoms])
  obtain ⟨vm₁, cX, kX, hfX, hkX, -, -, X₁, st1⟩ := Y.newCold hexec (own := own) (C := cls) (index := ik) (n := 6) hown' hk' hins hini'
    (g := F0 m pc ls rest) rfl (by rw [hb]; exact d0) (Nat.le_refl _) (Nat.le_refl _)
  generalize hT1 : (T.setVm vm₁).pushCell { cls := cX, slots := kX.instanceTypes.map defaultValue, vm := .none } = T1 at X₁ st1
  have hcat : (Value.ref T.heap.size).category = 1 := rfl
  have hcellA : T1.heap[T.heap.size]? = some (freshCell cX kX) := by rw [← hT1]; exact State.heap_pushCell_size _ _
  have d3' : decode c.code (pc + 3) = .ok (.dup, 1) := by rw [hb]; exact d3
  have d4' : decode c.code (pc + 4) = .ok (.ldc is, 2) := by rw [hb]; exact d4
  have hstr' : vk_R own is text sa s' := vk_R.warm hW0 hstr
  obtain ⟨U, hsteps, hrun, hend, hW, hsame, ce, hce, hO⟩ := X₁.ctorThrowS hexec htr (own := own) (cls := cls) (names := names) (ic := ic) hown' hcls hnames h (fun x hx => nomatch hx) hfX hkX hcellA (by rw [hhp, hT]; exact Nat.le_refl _) (msg := .ref sa) rfl
    (g := { method := m, pc := pc + 6, locals := ls, stack := .ref sa :: .ref T.heap.size :: .ref T.heap.size :: rest, locked := none }) rfl hsize rfl rfl (rest := rest) rfl
    (by rw [hb]; exact d6) (by rw [hb]; exact d9) hout hRframes (by simp only [List.map_cons, List.sum_cons, hcat]; omega) hlocks
  obtain ⟨f1, f2⟩ := vx_frame hsame
  rw [hhp] at f1 f2
  have hWs : s.WarmedH U.vm := State.WarmedH.trans hW0 hW
  have hcl : s.vm.findClass cls = some ce.cls := by
    have h9 := hO.cls
    rw [hvm] at h9
    exact h9
  have hall : s.sameButNew ({ U with vm := s.vm } : State) locs mc ms := by
    subst hA
    obtain ⟨e1, e2⟩ := hsame
    rw [State.setFrames_setFrames] at e1
    have h2 : (T.setVm s.vm).sameButNew ({ U with vm := s.vm } : State) [] (0 + 1) (0 + 6) := ⟨e1, e2⟩
    have h3 := X.same.trans h2
    rw [List.append_nil] at h3
    exact h3.mono hc hs
  refine ⟨U, ?_, .threw T.heap.size, hrun, hend, Or.inr ⟨T.heap.size, rfl, cls, ce, locs, hx U hWs.alike f1 (fun q hq => f2 q hq (fun z hz => nomatch hz)), hce, hO.vm, hcl, hWs, hall, hf⟩⟩
  refine st1 _ ?_
  show Steps p.tables e below (T1.setTop { method := m, pc := pc + 3, locals := ls, stack := .ref T.heap.size :: rest, locked := none }) _
  jvm_step X₁.here [X₁.here.top, hexec, d3', Value.category]
  exact X₁.ldcString hexec (own := own) (text := text) (index := is) (a := sa) hown' hstr'.1 hstr'.2
    (g := { method := m, pc := pc + 4, locals := ls, stack := .ref T.heap.size :: .ref T.heap.size :: rest, locked := none }) rfl d4' _ hsteps
/-- 'throw new E("text")', the text by a wide index -/
theorem vx_throwSW {cc : ByteArray} {pc : Nat} (hexec : p.tables.exec = Jvm.exec) (hb : c.code = cc) (hl : l.stackTraces = false) {own cls text : String} {names : List String} {ik is ic mc ms sa : Nat} {A : Nat → Prop}
    (hown : s.vm.findClass own = some m.cls) (hcls : Bundle.fit cls = true) (hnames : ∀ n ∈ names, Bundle.fit n = true)
    (hk : (Cond.classLink own ik cls).before args s = true) (hini : (Cond.initialized cls).before args s = true) (hstr : vk_R own is text sa s) (hat : ∀ w ∈ vx_atS own ic cls names, w.before args s = true)
    (hgood : ∀ w ∈ Cond.classLink own ik cls :: Cond.initialized cls :: vx_atS own ic cls names, vx_ot w = true)
    (hU : vx_Zq Bundle.tN "UNASSIGNED_STACK" Bundle.steD A s s.heap) (hN : vx_Zq Bundle.tN "SUPPRESSED_SENTINEL" Bundle.listD A s s.heap) (hS : va_S A s.heap H locs) (hsize : ls.size = c.maxLocals)
    (d0 : decode cc pc = .ok (.new ik, 3)) (d3 : decode cc (pc + 3) = .ok (.dup, 1)) (d4 : decode cc (pc + 4) = .ok (.ldc_w is, 3)) (d7 : decode cc (pc + 7) = .ok (.invokespecial ic, 3)) (d10 : decode cc (pc + 10) = .ok (.athrow, 1))
    (hout : ∀ x ∈ c.exceptionTable.toList, covers x (pc + 10) = false)
    (hRframes : names.length + 3 < R.frames) (hRlocals : (rest.map fun v => v.category).sum + (13 * (names.length + 1) + 43) ≤ R.locals) (hRcells : cells + 1 ≤ R.cells) (hRslots : slots + 6 ≤ R.slots) (hlocks : meth.locks = false)
    (hx : ∀ t : State, s.vm.Alike t.vm → H.size ≤ t.heap.size → (∀ q : Nat, q < H.size → t.heap[q]? = H[q]?) → XC cls s t)
    (hf : ∀ z ∈ locs, free z.base) (hc : cells + 1 ≤ mc) (hs : slots + 6 ≤ ms) :
    W p l e R s m args below meth c H locs cells slots (vx_MQ below Qc XC args s mc ms free) (F0 m pc ls rest) := by
  intro T hT X
  have htr : e.platform.stackTraces = false := (show e.platform.stackTraces = l.stackTraces by rw [X.admits.platform]).trans hl
  have Y := vx_rebase X (R' := { frames := R.frames, locals := R.locals, cells := 1, slots := 6 }) (Nat.le_refl _) (Nat.le_refl _) hRcells hRslots
  obtain ⟨s', hA⟩ : ∃ z, z = (T.setVm s.vm).setFrames (.invoking m args :: below) := ⟨_, rfl⟩
  rw [← hA] at Y
  have hvm : s'.vm = s.vm := by rw [hA]; rfl
  have hhp : s'.heap = H := by rw [hA]; exact hT
  have hW0 : s.WarmedH s'.vm := by rw [hvm]; exact State.WarmedH.refl s
  have hat' : ∀ w ∈ vx_atS own ic cls names, w.before args s' = true := fun w hw => vx_ot_at hW0 hvm.symm (hgood w (List.mem_cons_of_mem _ (List.mem_cons_of_mem _ hw))) (hat w hw)
  have hk' : (Cond.classLink own ik cls).before args s' = true := vx_ot_at hW0 hvm.symm (hgood _ List.mem_cons_self) hk
  have hini' : (Cond.initialized cls).before args s' = true := vx_ot_at hW0 hvm.symm (hgood _ (List.mem_cons_of_mem _ List.mem_cons_self)) hini
  have hU' : vx_Zq Bundle.tN "UNASSIGNED_STACK" Bundle.steD A s' s'.heap := by rw [hhp]; exact vx_Zq.moved hW0.alike (hU.kept hS.2.1)
  have hN' : vx_Zq Bundle.tN "SUPPRESSED_SENTINEL" Bundle.listD A s' s'.heap := by rw [hhp]; exact vx_Zq.moved hW0.alike (hN.kept hS.2.1)
  have h : ∀ w ∈ Bundle.ownAtoms own ic cls names, w.before args s' = true := vx_own hat' (vx_isRefq hU'.1) (vx_isRefq hN'.1) hU'.2.word hN'.2.word
  have hown' : s'.vm.findClass own = some m.cls := by rw [hvm]; exact hown
  have hins : (Cond.instantiable cls 6).before args s' = true := h _ (by simp [Bundle.ownAtoms])
  obtain ⟨vm₁, cX, kX, hfX, hkX, -, -, X₁, st1⟩ := Y.newCold hexec (own := own) (C := cls) (index := ik) (n := 6) hown' hk' hins hini'
    (g := F0 m pc ls rest) rfl (by rw [hb]; exact d0) (Nat.le_refl _) (Nat.le_refl _)
  generalize hT1 : (T.setVm vm₁).pushCell { cls := cX, slots := kX.instanceTypes.map defaultValue, vm := .none } = T1 at X₁ st1
  have hcat : (Value.ref T.heap.size).category = 1 := rfl
  have hcellA : T1.heap[T.heap.size]? = some (freshCell cX kX) := by rw [← hT1]; exact State.heap_pushCell_size _ _
  have d3' : decode c.code (pc + 3) = .ok (.dup, 1) := by rw [hb]; exact d3
  have d4' : decode c.code (pc + 4) = .ok (.ldc_w is, 3) := by rw [hb]; exact d4
  have hstr' : vk_R own is text sa s' := vk_R.warm hW0 hstr
  obtain ⟨U, hsteps, hrun, hend, hW, hsame, ce, hce, hO⟩ := X₁.ctorThrowS hexec htr (own := own) (cls := cls) (names := names) (ic := ic) hown' hcls hnames h (fun x hx => nomatch hx) hfX hkX hcellA (by rw [hhp, hT]; exact Nat.le_refl _) (msg := .ref sa) rfl
    (g := { method := m, pc := pc + 7, locals := ls, stack := .ref sa :: .ref T.heap.size :: .ref T.heap.size :: rest, locked := none }) rfl hsize rfl rfl (rest := rest) rfl
    (by rw [hb]; exact d7) (by rw [hb]; exact d10) hout hRframes (by simp only [List.map_cons, List.sum_cons, hcat]; omega) hlocks
  obtain ⟨f1, f2⟩ := vx_frame hsame
  rw [hhp] at f1 f2
  have hWs : s.WarmedH U.vm := State.WarmedH.trans hW0 hW
  have hcl : s.vm.findClass cls = some ce.cls := by
    have h9 := hO.cls
    rw [hvm] at h9
    exact h9
  have hall : s.sameButNew ({ U with vm := s.vm } : State) locs mc ms := by
    subst hA
    obtain ⟨e1, e2⟩ := hsame
    rw [State.setFrames_setFrames] at e1
    have h2 : (T.setVm s.vm).sameButNew ({ U with vm := s.vm } : State) [] (0 + 1) (0 + 6) := ⟨e1, e2⟩
    have h3 := X.same.trans h2
    rw [List.append_nil] at h3
    exact h3.mono hc hs
  refine ⟨U, ?_, .threw T.heap.size, hrun, hend, Or.inr ⟨T.heap.size, rfl, cls, ce, locs, hx U hWs.alike f1 (fun q hq => f2 q hq (fun z hz => nomatch hz)), hce, hO.vm, hcl, hWs, hall, hf⟩⟩
  refine st1 _ ?_
  show Steps p.tables e below (T1.setTop { method := m, pc := pc + 3, locals := ls, stack := .ref T.heap.size :: rest, locked := none }) _
  jvm_step X₁.here [X₁.here.top, hexec, d3', Value.category]
  exact X₁.ldcStringW hexec (own := own) (text := text) (index := is) (a := sa) hown' hstr'.1 hstr'.2
    (g := { method := m, pc := pc + 4, locals := ls, stack := .ref T.heap.size :: .ref T.heap.size :: rest, locked := none }) rfl d4' _ hsteps
end Ends
section Bodies
variable {l : Launch}
theorem vx_ofW {y : MethodName} {ws ws' : List Cond} {rm : Room} {Pc : Array Value → State → Prop} {Qc : Array Value → State → Outcome → State → Prop} {XC : String → State → State → Prop} {mc ms : Nat} {free : Addr → Prop} {cc : ByteArray} {maxL : Nat} {ret : Option FieldType}
    (hy : plainName y.cls = true) (hw : ws = Cond.code y cc maxL ret :: ws')
    (body : ∀ p e s m args below meth c s₁, BodyLoose p l y (headSpec ws rm) cc maxL ret e s m args below meth c s₁ → c.maxLocals = maxL → (∀ x ∈ c.exceptionTable.toList, False) → Pc args s →
      W p l e (headSpec ws rm).room s m args below meth c s.heap [] 0 0 (vx_MQ below Qc XC args s mc ms free) (entryFrame m args maxL)) : vx_Met l y ws rm Pc Qc XC mc ms free := by
  refine MetFree.of_bodyS (code := cc) (maxLocals := maxL) (ret := ret) hy ?_ ?_
  · intro args s m h hn
    obtain ⟨meth, c, h1, h2, h3, h4, h5, h6, -, -⟩ := Cond.code_spec hn (atoms_spec (ws := ws) h _ (by rw [hw]; exact List.mem_cons_self))
    exact ⟨meth, c, h1, h2, h3, h4, h5, h6⟩
  · intro p e s m args below meth c s₁ B hml hP _
    have hh0 : s₁.heap = s.heap := by rw [B.state]; rfl
    have ht : ∀ x ∈ c.exceptionTable.toList, False := by
      obtain ⟨meth9, c9, h1, h2, -, -, -, -, h7, -⟩ := Cond.code_spec B.named (atoms_spec (ws := ws) B.pre _ (by rw [hw]; exact List.mem_cons_self))
      cases Option.some.inj (h1.symm.trans B.method)
      cases Option.some.inj (h2.symm.trans (Stand.of_body B).code)
      intro x hx
      rw [Array.isEmpty_iff.mp h7] at hx
      cases hx
    obtain ⟨t, a1, o, b1, b2, b3⟩ := body p e s m args below meth c s₁ B hml ht hP s₁ hh0 (Stand.of_body B)
    exact ⟨t, o, a1, b1, b2, b3⟩
/-- the table of a body with handlers -/
theorem vx_table {p : Program} {x y : MethodName} {S : Spec} {cc bytes : ByteArray} {maxL maxL' : Nat} {ret ret' : Option FieldType} {e : Env} {s s₁ : State} {m : MethodId} {args : Array Value} {below : List Frame} {meth : Method} {c : Code} {hh : List (Nat × Nat × Nat × Nat)}
    (B : BodyLoose p l y S cc maxL ret e s m args below meth c s₁) (h : (Cond.codeWith y bytes maxL' ret' hh).before args s = true) : c.exceptionTable.toList = tableOf hh := by
  obtain ⟨m9, meth9, c9, hn9, h1, h2, -, -, h6, -⟩ := Cond.codeWith_spec h
  cases Option.some.inj (hn9.symm.trans B.named)
  cases Option.some.inj (h1.symm.trans B.method)
  cases Option.some.inj (h2.symm.trans (Stand.of_body B).code)
  rw [← h6, table_eq]
end Bodies
end VXA
/-! ===== END ===== -/
/-! ===== BEGIN a static call of a method with an exception table ===== -/
section VXS
variable {p : Program} {l : Launch} {e : Env} {R : Room} {s : State} {m : MethodId} {args : Array Value} {below : List Frame} {meth : Method} {c : Code} {T : State} {H : Heap} {locs : List Loc} {cells slots : Nat}
abbrev vx_CSW (R : Room) (s : State) (args : Array Value) (own : String) (index : Nat) (y : MethodName) (bytes : ByteArray) (maxL : Nat) (ret : Option FieldType) (hh : List (Nat × Nat × Nat × Nat)) (ws : List Cond) (rm : Room) (mc ms n : Nat) : Prop :=
  (rm.cells = mc ∧ rm.slots = ms ∧ rm.frames + 1 ≤ R.frames ∧ 8 + (maxL + 11) + rm.locals ≤ R.locals ∧ (∀ w ∈ ws, ∀ (a' : Array Value) (U : State), s.WarmedH U.vm → w.before a' U = true) ∧ Cond.codeWith y bytes maxL ret hh ∈ ws) ∧
  (Cond.codeWith y bytes maxL ret hh).before args s = true ∧ (Cond.initialized y.cls).before args s = true ∧ (y.cls ≠ "java/lang/invoke/MethodHandle" ∧ y.cls ≠ "java/lang/invoke/VarHandle") ∧
  (∀ sig, parseMethodDescriptor y.desc = some sig → n = sig.parameters.length) ∧ (Cond.methodLink own index y).before args s = true ∧ (Cond.static y).before args s = true
theorem vx_cwSW {own : String} {index maxL mc ms : Nat} {y : MethodName} {bytes : ByteArray} {ret : Option FieldType} {hh : List (Nat × Nat × Nat × Nat)} {Ts ws ws' : List Cond} {rm : Room} (n : Nat) (ht : ∀ w ∈ Ts, w.before args s = true) (hT : GoodIn Ts (va_wsS own index y ws)) (hw : ws = Cond.codeWith y bytes maxL ret hh :: ws') (hrc : rm.cells = mc) (hrs : rm.slots = ms)
    (hd : y.cls ≠ "java/lang/invoke/MethodHandle" ∧ y.cls ≠ "java/lang/invoke/VarHandle" ∧ (parseMethodDescriptor y.desc).map (fun d => d.parameters.length) = some n) (hR : rm.frames + 1 ≤ R.frames ∧ 8 + (maxL + 11) + rm.locals ≤ R.locals) :
    vx_CSW R s args own index y bytes maxL ret hh ws rm mc ms n := by
  have ok : ∀ w ∈ va_wsS own index y ws, w.before args s = true := fun w h => ht w (hT w h).1
  have hG : GoodIn Ts ws := fun w h => hT w (by unfold va_wsS; exact List.mem_append_right _ h)
  have hc : Cond.codeWith y bytes maxL ret hh ∈ ws := by rw [hw]; exact List.mem_cons_self
  refine ⟨⟨hrc, hrs, hR.1, hR.2, pay_in ht hG, hc⟩, ht _ (hG _ hc).1, ok _ (by simp [va_wsS]), ⟨hd.1, hd.2.1⟩, fun sig h => ?_, ok _ (by simp [va_wsS]), ok _ (by simp [va_wsS])⟩
  have h2 := hd.2.2
  rw [h] at h2
  exact (Option.some.inj h2).symm
theorem vx_callSW (X : Stand p l e R s m args below meth c T locs cells slots) (hexec : p.tables.exec = Jvm.exec) {own : String} {index : Nat} {y : MethodName} {bytes : ByteArray} {maxL : Nat} {ret : Option FieldType} {hh : List (Nat × Nat × Nat × Nat)}
    (hown : s.vm.findClass own = some m.cls) (hlink : (Cond.methodLink own index y).before args s = true) (hstat : (Cond.static y).before args s = true) (hinit : (Cond.initialized y.cls).before args s = true)
    (hcode : (Cond.codeWith y bytes maxL ret hh).before args s = true) (hy : y.cls ≠ "java/lang/invoke/MethodHandle" ∧ y.cls ≠ "java/lang/invoke/VarHandle")
    {W9 : Nat} {Pre : Pt → Array Value → Prop} {Post : Pt → Array Value → Option Value → Pt → Prop} (hK : Back l R p e below s args y 3 W9 Pre Post)
    {g : JFrame} (hg : g.method = m) (hsize : g.locals.size = c.maxLocals) {argsL rest : List Value} (hlen : ∀ sig, parseMethodDescriptor y.desc = some sig → argsL.length = sig.parameters.length)
    (hstack : g.stack = argsL.reverse ++ rest) (hW : 2 * g.monitorRoom + (rest.map fun v => v.category).sum ≤ W9) (hdg : decode c.code g.pc = .ok (.invokestatic index, 3))
    (hpre : ∀ vm₁, s.WarmedH vm₁ → Pre ⟨T.setVm vm₁, locs, cells, slots⟩ argsL.toArray) :
    ∃ (v : Option Value) (vm₁ : Vm) (B : Pt), s.WarmedH vm₁ ∧ Stand p l e R s m args below meth c B.U B.locs B.cells B.slots ∧ Post ⟨T.setVm vm₁, locs, cells, slots⟩ argsL.toArray v B ∧
      ∀ target, Steps p.tables e below (B.U.setTop { g with pc := g.pc + 3, stack := v.toList ++ rest }) target → Steps p.tables e below (T.setTop g) target := by
  obtain ⟨mk, methM, cM, hnamed, hmethM, -, -, -, -, -, -, hsigM⟩ := Cond.codeWith_spec hcode
  have hstatic : methM.isStatic = true := Cond.static_spec hnamed hmethM hstat
  obtain ⟨kP, hkP, -⟩ := className_of_methodNamed hnamed
  have hinitP : kP.init = .initialized := Cond.initialized_spec (findClass_of_methodNamed hnamed) hkP hinit
  obtain ⟨vm₁, X₁, hstep₁⟩ := X.invokestatic hexec hown hlink hnamed hmethM hstatic hkP hinitP hy (g := g) hg (argsL := argsL) (rest := rest) (hlen _ hsigM) hstack hdg
  obtain ⟨v, B, X', hpost, hsteps⟩ := hK m meth c ⟨T.setVm vm₁, locs, cells, slots⟩ { g with stack := rest } (.invokestatic index) mk argsL.toArray X₁ hg hsize hdg hW (X₁.named hnamed) (hpre vm₁ X₁.warmed)
  exact ⟨v, vm₁, B, X₁.warmed, X', hpost, fun target h => hstep₁ _ fun acts => by rw [doInvoke_state]; exact hsteps.trans h⟩
theorem vx_runSW {y : MethodName} {bytes cc : ByteArray} {maxL nL mc ms n index : Nat} {ret : Option FieldType} {hh : List (Nat × Nat × Nat × Nat)} {ws : List Cond} {rm : Room} {Pc : Array Value → State → Prop} {Qc : Array Value → State → Outcome → State → Prop} {free : Addr → Prop} {Ts : List Cond} {own : String} {As rest : List Value} {g : JFrame}
    (S : CallFix p m c cc nL s args Ts own) (hM : Met l y ws rm Pc Qc mc ms free) (cw : vx_CSW R s args own index y bytes maxL ret hh ws rm mc ms n) (hp : PreS s H Pc As)
    (hg : g.method = m) (hn : As.length = n) (hsize : g.locals.size = nL) (hstack : g.stack = As.reverse ++ rest) (hW : 2 * g.monitorRoom + (rest.map fun v => v.category).sum ≤ 8) (hdg : decode cc g.pc = .ok (.invokestatic index, 3)) (hf : cells + mc ≤ R.cells ∧ slots + ms ≤ R.slots) :
    va_Run p l e R s m args below meth c H locs cells slots mc ms g rest (Qc As.toArray) (free) := by
  obtain ⟨⟨hrc, hrs, hfr, hlo, hws, hcw⟩, hcode, hini, hy, hlen, hl, hstt⟩ := cw
  have hK : Back l R p e below s args y 3 8 (PreOf R mc ms Pc) (PostOf Qc mc ms free) := va_backW (hh := hh) (bytes := bytes) (maxL := maxL) (ret := ret) hM hp.1 hrc hrs hfr hlo hws hcw (fun a' U hW => word_at hW (Or.inl (by first | rfl | simp [Cond.onTables, Cond.keeps, Cond.steady])) hini)
  obtain ⟨hx, hb, hml, ho, -⟩ := S
  intro T hT X
  obtain ⟨v, vm₁, ⟨U', l2, c2, s2⟩, hW₁, X', ⟨g', mk, t, L, e1, e2, hq, h1, hL, h2, h3⟩, st⟩ := vx_callSW X hx (hh := hh) (bytes := bytes) (maxL := maxL) (ret := ret) ho hl hstt hini hcode hy hK hg (hsize.trans hml.symm) (argsL := As) (rest := rest) (fun sig h => hn.trans (hlen sig h)) hstack hW (by rw [hb]; exact hdg)
    (fun vm₁ hW₁ => ⟨hf.1, hf.2, hp.2 (T.setVm vm₁) hT hW₁⟩)
  dsimp only [Pt.U, Pt.locs, Pt.cells, Pt.slots] at X' e1 e2 h1 h2 h3 st
  subst h1; subst h2; subst h3
  exact ⟨v, (T.setVm vm₁).calling g' mk As.toArray, t, U', L, hT, X', hL, e1, e2, hq, st⟩
/-- not caught here, past rows that name other classes: it goes on to the caller -/
theorem vx_outP {p : Program} {l : Launch} {e : Env} {R : Room} {s : State} {m : MethodId} {args : Array Value} {below : List Frame} {meth : Method} {c : Code} {H : Heap} {locs : List Loc} {cells slots : Nat} {free : Addr → Prop} {ls : Array Slot} {rest : List Value} {Qc : Array Value → State → Outcome → State → Prop} {XC : String → State → State → Prop}
    {pc : Nat} {own E : String} {ce : Cell} {q : Addr} {mc ms : Nat} (hown : s.vm.findClass own = some m.cls) (hlocks : meth.locks = false)
    (hpass : ∀ z ∈ c.exceptionTable.toList, covers z pc = false ∨ (z.catchType ≠ 0 ∧ ∃ nm : String, (Cond.classLink own z.catchType nm).before args s = true ∧ va_Nc E nm s)) (hcell : H[q]? = some ce) (hv : ce.vm = .none) (hcl : s.vm.findClass E = some ce.cls)
    (hx : ∀ t : State, t.heap = H → s.vm.Alike t.vm → XC E s t) (hf : ∀ z ∈ locs, free z.base) (hc : cells ≤ mc) (hs : slots ≤ ms) :
    vx_W p l e R s m args below meth c H locs cells slots (vx_MQ below Qc XC args s mc ms free) (F0 m pc ls rest) q := by
  intro T hT X
  have hpl : e.platform.magicAccessors = ({} : Platform).magicAccessors := by rw [X.admits.platform]
  obtain ⟨vm', hW', X', st⟩ := X.outThrough hlocks q (g := F0 m pc ls rest) rfl rfl rfl (cell := ce) (by rw [hT]; exact hcell) (by rw [hv]; rfl)
    (by obtain ⟨k9, h9, -⟩ := Vm.findClass_spec hcl; exact ⟨k9, h9⟩) (fun z hz => by
      rcases hpass z hz with h | ⟨hz0, nm, hl1, hn1⟩
      · exact Or.inl h
      · obtain ⟨c6, hc6, hcl6⟩ := Cond.classLink_spec hown hl1 e.platform hpl
        obtain ⟨a8, b8, h1, h2, h3⟩ := hn1
        cases Option.some.inj (h1.symm.trans hcl)
        cases Option.some.inj (h2.symm.trans hc6)
        exact Or.inr ⟨hz0, _, hcl6, h3⟩)
  obtain ⟨g₀, hfr⟩ := X'.frames_eq
  have hcell9 : ((T.setVm vm').setFrames (.throwing q :: below)).heap[q]? = some ce := by
    show T.heap[q]? = some ce
    rw [hT]; exact hcell
  have hend : Ended ((T.setVm vm').setFrames (.throwing q :: below)) below (.threw q) := State.frames_setFrames _ (State.cur_lt_of_frames hfr)
  refine ⟨(T.setVm vm').setFrames (.throwing q :: below), ?_, .threw q, X'.here.running, hend, Or.inr ⟨q, rfl, E, ce, locs, hx _ hT (X'.ends _).1.alike, hcell9, hv, hcl, (X'.ends _).1, (X'.ends _).2.mono hc hs, hf⟩⟩
  rw [X.pushThrowing_eq]
  exact st
/-- a thing of a world lies in the heap -/
theorem vx_lt {D : va_G} {cl : List vw_C} {ws : va_W} {H1 : Heap} (h : va_P D cl ws H1) {k : Nat} {q : Nat × va_E} (hk : ws[k]? = some q) : q.1 < H1.size := (h k q hk).lt
end VXS
/-! ===== END ===== -/
/-! ===== BEGIN methods with a table of their own: called by a name, returning or throwing ===== -/
section VXH
/-! vx_backW, vx_callVX, vx_callSX, vx_callVW, vx_runVW, vx_runVX, vx_runSX, vx_ofWH follow the same proofs as their sisters above (Free/Laws.lean, Shelf42/LK1.lean); vx_outP calls Shelf42/NT130.lean (outThrough). -/
section
variable {l : Launch} {R : Room} {p : Program} {e : Env} {below : List Frame} {s : State} {sargs : Array Value} {y : MethodName} {len W9 : Nat}
theorem vx_backW {ws : List Cond} {rm : Room} {Pc : Array Value → State → Prop} {Qc : Array Value → State → Outcome → State → Prop} {XC : String → State → State → Prop} {mc ms : Nat} {free : Addr → Prop} {bytes : ByteArray} {maxL : Nat} {ret : Option FieldType} {hh : List (Nat × Nat × Nat × Nat)}
    (hM : vx_Met l y ws rm Pc Qc XC mc ms free) (hblind : FrameBlind Pc) (hrc : rm.cells = mc) (hrs : rm.slots = ms)
    (hframes : rm.frames + 1 ≤ R.frames) (hlocals : W9 + (maxL + 11) + rm.locals ≤ R.locals)
    (hws : ∀ w ∈ ws, ∀ a' U, s.WarmedH U.vm → w.before a' U = true) (hcode : Cond.codeWith y bytes maxL ret hh ∈ ws) (hinit : ∀ a' U, s.WarmedH U.vm → (Cond.initialized y.cls).before a' U = true) :
    vx_Back l R p e below s sargs y len W9 (PreOf R mc ms Pc) (PostOf Qc mc ms free) (vx_Post XC mc ms free) := by
  intro m meth c A g ig mk a X hg hsize hdg hW hn hp
  have h1 : (headSpec ws rm).pre.before a A.U = true := atoms_intro fun w hw => hws w hw _ _ X.warmed
  have h2 : (Cond.codeWith y bytes maxL ret hh).before a A.U = true := hws _ hcode _ _ X.warmed
  have h3 : (Cond.initialized y.cls).before a A.U = true := hinit _ _ X.warmed
  have h4 : A.cells + (headSpec ws rm).room.cells ≤ R.cells := by rw [show (headSpec ws rm).room.cells = mc from hrc]; exact hp.1
  have h5 : A.slots + (headSpec ws rm).room.slots ≤ R.slots := by rw [show (headSpec ws rm).room.slots = ms from hrs]; exact hp.2.1
  have hPc : Pc a (A.U.calling g mk a) := hblind _ _ _ _ hp.2.2
  obtain ⟨U, Ls, c0, s0⟩ := A
  dsimp only [Pt.U, Pt.locs, Pt.cells, Pt.slots] at h1 h2 h3 h4 h5 X hn hPc ⊢
  obtain ⟨m9, methY, cY, hn9, hmY, hcY, -, hlY, -⟩ := Cond.codeWith_spec h2
  cases Option.some.inj (hn9.symm.trans hn)
  obtain ⟨kY, hkY, -⟩ := className_of_methodNamed hn
  have hinitY : kY.init = .initialized := Cond.initialized_spec (findClass_of_methodNamed hn) hkY h3
  have h : At U g.method c below := by rw [hg]; exact X.here
  have hlocals9 : W9 + (maxL + 11) + (headSpec ws rm).room.locals ≤ R.locals := hlocals
  have happ : (headSpec ws rm).appliesLoose y e.platform (U.calling g mk a) = true :=
    Spec.appliesLoose_calling (g := g) h hdg hn hkY hinitY
      (X.room_calling (g := g) (R' := (headSpec ws rm).room) hsize hmY hcY hframes (by rw [hlY]; omega) h4 h5) h1
  obtain ⟨mid, hmid⟩ := h.above
  have hfr : (U.setTop g).frames = (.java g :: mid) ++ below := by rw [State.frames_setTop' g h.top, hmid]; rfl
  obtain ⟨o, s₂, hsteps, -, hend, hq⟩ := Steps.callFree hM p X.admits X.cas X.clock (acts := []) hfr happ hPc trivial
  have hq' : vx_Q Qc XC mc ms free a (U.calling g mk a) o s₂ := hq
  rw [State.frames_setTop' g h.top] at hend
  obtain ⟨g₀, hg0⟩ := Option.isSome_iff_exists.mp h.top
  obtain ⟨r, hr⟩ := State.topJava?_eq_some.mp hg0
  have hr' : (({ U with heap := s₂.heap, slotsUsed := s₂.slotsUsed } : State).setVm s₂.vm).frames = .java g₀ :: r := hr
  rcases hq' with ⟨hqc, L, hfe, hL⟩ | ⟨q, rfl, E, ce, L, hx, hce, hcv, hcl, hW₂, hsm, hL⟩
  · obtain ⟨⟨v, rfl⟩, hW₂, e2, q2, q3, q4, q5, q6⟩ := id hfe
    have e3 : s₂ = ({ (U.calling g mk a).setFrames s₂.frames with heap := s₂.heap, slotsUsed := s₂.slotsUsed } : State).setVm s₂.vm := by
      have : s₂ = ({ s₂ with vm := (U.calling g mk a).vm } : State).setVm s₂.vm := rfl
      rw [e2] at this
      exact this
    obtain ⟨c₂, i₂, len₂, hc₂, hd₂, hf₂⟩ := hend
    have hW' : U.WarmedH s₂.vm := hW₂
    have hcc : c₂ = c := by
      have h1 : s₂.code? g.method = U.code? g.method := by
        rw [State.code?_eq, State.code?_eq, hW'.alike.method?]
      exact Option.some.inj (hc₂.symm.trans (h1.trans h.code))
    subst hcc
    have hlen : len₂ = len := by rw [hdg] at hd₂; cases hd₂; rfl
    subst hlen
    have hs₂ : s₂ = (({ U with heap := s₂.heap, slotsUsed := s₂.slotsUsed } : State).setVm s₂.vm).setTop { g with pc := g.pc + len₂, stack := v.toList ++ g.stack } := by
      refine e3.trans ?_
      rw [hf₂, State.calling_eq h.top, State.setFrames_setFrames, State.setTop_of_frames _ hr', hr]
      rfl
    have hsame : U.sameButNew ({ U with heap := s₂.heap, slotsUsed := s₂.slotsUsed } : State) L mc ms := by
      refine ⟨?_, q2, q3, q4, q5, q6⟩
      obtain ⟨t, ht, -⟩ := State.frames_cons hr
      show ({ U with heap := s₂.heap, slotsUsed := s₂.slotsUsed } : State) = { U.setFrames U.frames with heap := s₂.heap, slotsUsed := s₂.slotsUsed }
      rw [State.setFrames_self ht]
    subst hg
    refine Or.inl ⟨v, ⟨(({ U with heap := s₂.heap, slotsUsed := s₂.slotsUsed } : State).setVm s₂.vm), Ls ++ L, c0 + mc, s0 + ms⟩,
      ⟨X.admits, X.cas, X.clock, X.frames, X.room, X.hears, X.method, X.code, (X.here.setHeapUsed s₂.heap s₂.slotsUsed).setVm hW'.alike, X.tail, State.WarmedH.trans X.warmed hW', X.limits, X.bytes, X.same.trans (hsame.setVm s.vm)⟩,
      ⟨g, mk, s₂, L, rfl, rfl, hqc, rfl, hL, rfl, rfl⟩, ?_⟩
    show Steps p.tables e below _ ((({ U with heap := s₂.heap, slotsUsed := s₂.slotsUsed } : State).setVm s₂.vm).setTop { g with pc := g.pc + len₂, stack := v.toList ++ g.stack })
    rw [← hs₂]
    exact hsteps
  · obtain ⟨e2, q2, q3, q4, q5, q6⟩ := id hsm
    have e3 : s₂ = ({ (U.calling g mk a).setFrames s₂.frames with heap := s₂.heap, slotsUsed := s₂.slotsUsed } : State).setVm s₂.vm := by
      have : s₂ = ({ s₂ with vm := (U.calling g mk a).vm } : State).setVm s₂.vm := rfl
      rw [e2] at this
      exact this
    have hf₂ : s₂.frames = .throwing q :: .java g :: U.frames.tail := hend
    have hW' : U.WarmedH s₂.vm := hW₂
    have hs₂ : s₂ = ((({ U with heap := s₂.heap, slotsUsed := s₂.slotsUsed } : State).setVm s₂.vm).setTop g).pushFrame (.throwing q) := by
      refine e3.trans ?_
      rw [hf₂, State.calling_eq h.top, State.setFrames_setFrames, State.pushFrame, State.frames_setTop _ hr', State.setTop_of_frames _ hr', State.setFrames_setFrames, hr]
      rfl
    have hsame : U.sameButNew ({ U with heap := s₂.heap, slotsUsed := s₂.slotsUsed } : State) L mc ms := by
      refine ⟨?_, q2, q3, q4, q5, q6⟩
      obtain ⟨t, ht, -⟩ := State.frames_cons hr
      show ({ U with heap := s₂.heap, slotsUsed := s₂.slotsUsed } : State) = { U.setFrames U.frames with heap := s₂.heap, slotsUsed := s₂.slotsUsed }
      rw [State.setFrames_self ht]
    subst hg
    refine Or.inr ⟨q, ⟨(({ U with heap := s₂.heap, slotsUsed := s₂.slotsUsed } : State).setVm s₂.vm), Ls ++ L, c0 + mc, s0 + ms⟩,
      ⟨X.admits, X.cas, X.clock, X.frames, X.room, X.hears, X.method, X.code, (X.here.setHeapUsed s₂.heap s₂.slotsUsed).setVm hW'.alike, X.tail, State.WarmedH.trans X.warmed hW', X.limits, X.bytes, X.same.trans (hsame.setVm s.vm)⟩,
      ⟨g, mk, s₂, L, E, ce, rfl, rfl, hx, hce, hcv, hcl, rfl, hL, rfl, rfl⟩, ?_⟩
    show Steps p.tables e below _ (((({ U with heap := s₂.heap, slotsUsed := s₂.slotsUsed } : State).setVm s₂.vm).setTop g).pushFrame (.throwing q))
    rw [← hs₂]
    exact hsteps
end
variable {p : Program} {l : Launch} {e : Env} {R : Room} {s : State} {m : MethodId} {args : Array Value} {below : List Frame} {meth : Method} {c : Code} {T : State} {H : Heap} {locs : List Loc} {cells slots : Nat}
theorem vx_callVX (X : Stand p l e R s m args below meth c T locs cells slots) (hexec : p.tables.exec = Jvm.exec) {own C : String} {index : Nat} {y : MethodName} {bytes : ByteArray} {maxL : Nat} {ret : Option FieldType} {hh : List (Nat × Nat × Nat × Nat)}
    (hown : s.vm.findClass own = some m.cls) (hlink : (Cond.methodLink own index y).before args s = true) (hinst : (Cond.instanceMethod y).before args s = true) (hsel : (Cond.selects C y y).before args s = true)
    (hcode : (Cond.codeWith y bytes maxL ret hh).before args s = true) (hy : y.cls ≠ "java/lang/invoke/MethodHandle" ∧ y.cls ≠ "java/lang/invoke/VarHandle")
    {W9 : Nat} {Pre : Pt → Array Value → Prop} {Post : Pt → Array Value → Option Value → Pt → Prop} {PostX : Pt → Array Value → Addr → Pt → Prop} (hK : vx_Back l R p e below s args y 3 W9 Pre Post PostX)
    {b : Addr} {cellB : Cell} (hcell : T.heap[b]? = some cellB) (hobj : cellB.vm.isStatics = false) (hcls : s.vm.findClass C = some cellB.cls)
    {g : JFrame} (hg : g.method = m) (hsize : g.locals.size = c.maxLocals) {argsL rest : List Value} (hlen : ∀ sig, parseMethodDescriptor y.desc = some sig → argsL.length = sig.parameters.length)
    (hstack : g.stack = argsL.reverse ++ .ref b :: rest) (hW : 2 * g.monitorRoom + (rest.map fun v => v.category).sum ≤ W9) (hdg : decode c.code g.pc = .ok (.invokevirtual index, 3))
    (hpre : ∀ vm₁, s.WarmedH vm₁ → Pre ⟨T.setVm vm₁, locs, cells, slots⟩ (Value.ref b :: argsL).toArray) :
    (∃ (v : Option Value) (vm₁ : Vm) (B : Pt), s.WarmedH vm₁ ∧ Stand p l e R s m args below meth c B.U B.locs B.cells B.slots ∧ Post ⟨T.setVm vm₁, locs, cells, slots⟩ (Value.ref b :: argsL).toArray v B ∧
      ∀ target, Steps p.tables e below (B.U.setTop { g with pc := g.pc + 3, stack := v.toList ++ rest }) target → Steps p.tables e below (T.setTop g) target) ∨
    (∃ (q : Addr) (vm₁ : Vm) (B : Pt), s.WarmedH vm₁ ∧ Stand p l e R s m args below meth c B.U B.locs B.cells B.slots ∧ PostX ⟨T.setVm vm₁, locs, cells, slots⟩ (Value.ref b :: argsL).toArray q B ∧
      Steps p.tables e below (T.setTop g) ((B.U.setTop { g with stack := rest }).pushFrame (.throwing q))) := by
  obtain ⟨mk, methM, hnamed, hmethM, hstM, habM⟩ := Cond.instanceMethod_spec hinst
  obtain ⟨m8, methM', cM, hn8, hmethM', -, -, -, -, -, -, hsigM⟩ := Cond.codeWith_spec hcode
  cases Option.some.inj (hn8.symm.trans hnamed)
  cases hmethM.symm.trans hmethM'
  obtain ⟨c2, r2, m2, q1, q2, q3, q4, kP, hkP, hkPi⟩ := Cond.selects_spec hsel
  cases hcls.symm.trans q1
  cases (State.methodFound?_of_named hnamed hy).symm.trans q2
  cases hnamed.symm.trans q3
  have hselP : selectMethod e.platform s.vm cellB.cls mk = .method mk := by rw [Launch.admits_selectMethod X.admits]; exact q4
  obtain ⟨vm₁, X₁, hstep₁⟩ := X.invokevirtual hexec hown hlink hnamed hmethM hstM hkP hkPi hy (a := b) (cell := cellB) hcell
    (fun z h => by rw [h] at hobj; cases hobj) hselP hmethM habM hkP hkPi (g := g) hg (argsL := argsL) (rest := rest) (hlen _ hsigM) hstack hdg
  rcases hK m meth c ⟨T.setVm vm₁, locs, cells, slots⟩ { g with stack := rest } (.invokevirtual index) mk (Value.ref b :: argsL).toArray X₁ hg hsize hdg hW (X₁.named hnamed) (hpre vm₁ X₁.warmed) with ⟨v, B, X', hpost, hsteps⟩ | ⟨q, B, X', hpost, hsteps⟩
  · exact Or.inl ⟨v, vm₁, B, X₁.warmed, X', hpost, fun target h => hstep₁ _ fun acts => by rw [doInvoke_state]; exact hsteps.trans h⟩
  · exact Or.inr ⟨q, vm₁, B, X₁.warmed, X', hpost, hstep₁ _ fun acts => by rw [doInvoke_state]; exact hsteps⟩
theorem vx_callSX (X : Stand p l e R s m args below meth c T locs cells slots) (hexec : p.tables.exec = Jvm.exec) {own : String} {index : Nat} {y : MethodName} {bytes : ByteArray} {maxL : Nat} {ret : Option FieldType} {hh : List (Nat × Nat × Nat × Nat)}
    (hown : s.vm.findClass own = some m.cls) (hlink : (Cond.methodLink own index y).before args s = true) (hstat : (Cond.static y).before args s = true) (hinit : (Cond.initialized y.cls).before args s = true)
    (hcode : (Cond.codeWith y bytes maxL ret hh).before args s = true) (hy : y.cls ≠ "java/lang/invoke/MethodHandle" ∧ y.cls ≠ "java/lang/invoke/VarHandle")
    {W9 : Nat} {Pre : Pt → Array Value → Prop} {Post : Pt → Array Value → Option Value → Pt → Prop} {PostX : Pt → Array Value → Addr → Pt → Prop} (hK : vx_Back l R p e below s args y 3 W9 Pre Post PostX)
    {g : JFrame} (hg : g.method = m) (hsize : g.locals.size = c.maxLocals) {argsL rest : List Value} (hlen : ∀ sig, parseMethodDescriptor y.desc = some sig → argsL.length = sig.parameters.length)
    (hstack : g.stack = argsL.reverse ++ rest) (hW : 2 * g.monitorRoom + (rest.map fun v => v.category).sum ≤ W9) (hdg : decode c.code g.pc = .ok (.invokestatic index, 3))
    (hpre : ∀ vm₁, s.WarmedH vm₁ → Pre ⟨T.setVm vm₁, locs, cells, slots⟩ argsL.toArray) :
    (∃ (v : Option Value) (vm₁ : Vm) (B : Pt), s.WarmedH vm₁ ∧ Stand p l e R s m args below meth c B.U B.locs B.cells B.slots ∧ Post ⟨T.setVm vm₁, locs, cells, slots⟩ argsL.toArray v B ∧
      ∀ target, Steps p.tables e below (B.U.setTop { g with pc := g.pc + 3, stack := v.toList ++ rest }) target → Steps p.tables e below (T.setTop g) target) ∨
    (∃ (q : Addr) (vm₁ : Vm) (B : Pt), s.WarmedH vm₁ ∧ Stand p l e R s m args below meth c B.U B.locs B.cells B.slots ∧ PostX ⟨T.setVm vm₁, locs, cells, slots⟩ argsL.toArray q B ∧
      Steps p.tables e below (T.setTop g) ((B.U.setTop { g with stack := rest }).pushFrame (.throwing q))) := by
  obtain ⟨mk, methM, cM, hnamed, hmethM, -, -, -, -, -, -, hsigM⟩ := Cond.codeWith_spec hcode
  have hstatic : methM.isStatic = true := Cond.static_spec hnamed hmethM hstat
  obtain ⟨kP, hkP, -⟩ := className_of_methodNamed hnamed
  have hinitP : kP.init = .initialized := Cond.initialized_spec (findClass_of_methodNamed hnamed) hkP hinit
  obtain ⟨vm₁, X₁, hstep₁⟩ := X.invokestatic hexec hown hlink hnamed hmethM hstatic hkP hinitP hy (g := g) hg (argsL := argsL) (rest := rest) (hlen _ hsigM) hstack hdg
  rcases hK m meth c ⟨T.setVm vm₁, locs, cells, slots⟩ { g with stack := rest } (.invokestatic index) mk argsL.toArray X₁ hg hsize hdg hW (X₁.named hnamed) (hpre vm₁ X₁.warmed) with ⟨v, B, X', hpost, hsteps⟩ | ⟨q, B, X', hpost, hsteps⟩
  · exact Or.inl ⟨v, vm₁, B, X₁.warmed, X', hpost, fun target h => hstep₁ _ fun acts => by rw [doInvoke_state]; exact hsteps.trans h⟩
  · exact Or.inr ⟨q, vm₁, B, X₁.warmed, X', hpost, hstep₁ _ fun acts => by rw [doInvoke_state]; exact hsteps⟩
theorem vx_callVW (X : Stand p l e R s m args below meth c T locs cells slots) (hexec : p.tables.exec = Jvm.exec) {own C : String} {index : Nat} {y : MethodName} {bytes : ByteArray} {maxL : Nat} {ret : Option FieldType} {hh : List (Nat × Nat × Nat × Nat)}
    (hown : s.vm.findClass own = some m.cls) (hlink : (Cond.methodLink own index y).before args s = true) (hinst : (Cond.instanceMethod y).before args s = true) (hsel : (Cond.selects C y y).before args s = true)
    (hcode : (Cond.codeWith y bytes maxL ret hh).before args s = true) (hy : y.cls ≠ "java/lang/invoke/MethodHandle" ∧ y.cls ≠ "java/lang/invoke/VarHandle")
    {W9 : Nat} {Pre : Pt → Array Value → Prop} {Post : Pt → Array Value → Option Value → Pt → Prop} (hK : Back l R p e below s args y 3 W9 Pre Post)
    {b : Addr} {cellB : Cell} (hcell : T.heap[b]? = some cellB) (hobj : cellB.vm.isStatics = false) (hcls : s.vm.findClass C = some cellB.cls)
    {g : JFrame} (hg : g.method = m) (hsize : g.locals.size = c.maxLocals) {argsL rest : List Value} (hlen : ∀ sig, parseMethodDescriptor y.desc = some sig → argsL.length = sig.parameters.length)
    (hstack : g.stack = argsL.reverse ++ .ref b :: rest) (hW : 2 * g.monitorRoom + (rest.map fun v => v.category).sum ≤ W9) (hdg : decode c.code g.pc = .ok (.invokevirtual index, 3))
    (hpre : ∀ vm₁, s.WarmedH vm₁ → Pre ⟨T.setVm vm₁, locs, cells, slots⟩ (Value.ref b :: argsL).toArray) :
    ∃ (v : Option Value) (vm₁ : Vm) (B : Pt), s.WarmedH vm₁ ∧ Stand p l e R s m args below meth c B.U B.locs B.cells B.slots ∧ Post ⟨T.setVm vm₁, locs, cells, slots⟩ (Value.ref b :: argsL).toArray v B ∧
      ∀ target, Steps p.tables e below (B.U.setTop { g with pc := g.pc + 3, stack := v.toList ++ rest }) target → Steps p.tables e below (T.setTop g) target := by
  obtain ⟨mk, methM, hnamed, hmethM, hstM, habM⟩ := Cond.instanceMethod_spec hinst
  obtain ⟨m8, methM', cM, hn8, hmethM', -, -, -, -, -, -, hsigM⟩ := Cond.codeWith_spec hcode
  cases Option.some.inj (hn8.symm.trans hnamed)
  cases hmethM.symm.trans hmethM'
  obtain ⟨c2, r2, m2, q1, q2, q3, q4, kP, hkP, hkPi⟩ := Cond.selects_spec hsel
  cases hcls.symm.trans q1
  cases (State.methodFound?_of_named hnamed hy).symm.trans q2
  cases hnamed.symm.trans q3
  have hselP : selectMethod e.platform s.vm cellB.cls mk = .method mk := by rw [Launch.admits_selectMethod X.admits]; exact q4
  obtain ⟨vm₁, X₁, hstep₁⟩ := X.invokevirtual hexec hown hlink hnamed hmethM hstM hkP hkPi hy (a := b) (cell := cellB) hcell
    (fun z h => by rw [h] at hobj; cases hobj) hselP hmethM habM hkP hkPi (g := g) hg (argsL := argsL) (rest := rest) (hlen _ hsigM) hstack hdg
  obtain ⟨v, B, X', hpost, hsteps⟩ := hK m meth c ⟨T.setVm vm₁, locs, cells, slots⟩ { g with stack := rest } (.invokevirtual index) mk (Value.ref b :: argsL).toArray X₁ hg hsize hdg hW (X₁.named hnamed) (hpre vm₁ X₁.warmed)
  exact ⟨v, vm₁, B, X₁.warmed, X', hpost, fun target h => hstep₁ _ fun acts => by rw [doInvoke_state]; exact hsteps.trans h⟩
abbrev vx_CVW (R : Room) (s : State) (args : Array Value) (own C : String) (index : Nat) (y : MethodName) (bytes : ByteArray) (maxL : Nat) (ret : Option FieldType) (hh : List (Nat × Nat × Nat × Nat)) (ws : List Cond) (rm : Room) (mc ms n : Nat) : Prop :=
  (rm.cells = mc ∧ rm.slots = ms ∧ rm.frames + 1 ≤ R.frames ∧ 8 + (maxL + 11) + rm.locals ≤ R.locals ∧ (∀ w ∈ ws, ∀ (a' : Array Value) (U : State), s.WarmedH U.vm → w.before a' U = true) ∧ Cond.codeWith y bytes maxL ret hh ∈ ws) ∧
  (Cond.codeWith y bytes maxL ret hh).before args s = true ∧ (Cond.initialized y.cls).before args s = true ∧ (y.cls ≠ "java/lang/invoke/MethodHandle" ∧ y.cls ≠ "java/lang/invoke/VarHandle") ∧
  (∀ sig, parseMethodDescriptor y.desc = some sig → n = sig.parameters.length) ∧ (Cond.methodLink own index y).before args s = true ∧ (Cond.instanceMethod y).before args s = true ∧ (Cond.selects C y y).before args s = true
theorem vx_cwVW {own C : String} {index maxL mc ms : Nat} {y : MethodName} {bytes : ByteArray} {ret : Option FieldType} {hh : List (Nat × Nat × Nat × Nat)} {Ts ws ws' : List Cond} {rm : Room} (n : Nat) (ht : ∀ w ∈ Ts, w.before args s = true) (hT : GoodIn Ts (wsV own index C y ws)) (hw : ws = Cond.codeWith y bytes maxL ret hh :: ws') (hrc : rm.cells = mc) (hrs : rm.slots = ms)
    (hd : y.cls = C ∧ y.cls ≠ "java/lang/invoke/MethodHandle" ∧ y.cls ≠ "java/lang/invoke/VarHandle" ∧ (parseMethodDescriptor y.desc).map (fun d => d.parameters.length) = some n) (hR : rm.frames + 1 ≤ R.frames ∧ 8 + (maxL + 11) + rm.locals ≤ R.locals) :
    vx_CVW R s args own C index y bytes maxL ret hh ws rm mc ms n := by
  obtain ⟨hC, hd⟩ := hd
  subst hC
  have ok : ∀ w ∈ wsV own index y.cls y ws, w.before args s = true := fun w h => ht w (hT w h).1
  have hG : GoodIn Ts ws := fun w h => hT w (by unfold wsV; exact List.mem_append_right _ h)
  have hc : Cond.codeWith y bytes maxL ret hh ∈ ws := by rw [hw]; exact List.mem_cons_self
  refine ⟨⟨hrc, hrs, hR.1, hR.2, pay_in ht hG, hc⟩, ht _ (hG _ hc).1, ok _ (by simp [wsV]), ⟨hd.1, hd.2.1⟩, fun sig h => ?_, ok _ (by simp [wsV]), ok _ (by simp [wsV]), ok _ (by simp [wsV])⟩
  have h2 := hd.2.2
  rw [h] at h2
  exact (Option.some.inj h2).symm
theorem vx_runVW {y : MethodName} {bytes cc : ByteArray} {maxL nL mc ms n index : Nat} {ret : Option FieldType} {hh : List (Nat × Nat × Nat × Nat)} {ws : List Cond} {rm : Room} {Pc : Array Value → State → Prop} {Qc : Array Value → State → Outcome → State → Prop} {free : Addr → Prop} {Ts : List Cond} {own C : String} {b : Addr} {As rest : List Value} {g : JFrame}
    (S : CallFix p m c cc nL s args Ts own) (hM : Met l y ws rm Pc Qc mc ms free) (cw : vx_CVW R s args own C index y bytes maxL ret hh ws rm mc ms n) (hp : PreV s H C b Pc As)
    (hg : g.method = m) (hn : As.length = n) (hsize : g.locals.size = nL) (hstack : g.stack = As.reverse ++ .ref b :: rest) (hW : 2 * g.monitorRoom + (rest.map fun v => v.category).sum ≤ 8) (hdg : decode cc g.pc = .ok (.invokevirtual index, 3)) (hf : cells + mc ≤ R.cells ∧ slots + ms ≤ R.slots) :
    va_Run p l e R s m args below meth c H locs cells slots mc ms g rest (Qc (Value.ref b :: As).toArray) free := by
  obtain ⟨⟨hrc, hrs, hfr, hlo, hws, hcw⟩, hcode, hini, hy, hlen, hl, hin, hse⟩ := cw
  have hK : Back l R p e below s args y 3 8 (PreOf R mc ms Pc) (PostOf Qc mc ms free) := va_backW (hh := hh) (bytes := bytes) (maxL := maxL) (ret := ret) hM hp.1 hrc hrs hfr hlo hws hcw (fun a' U hW => word_at hW (Or.inl (by first | rfl | simp [Cond.onTables, Cond.keeps, Cond.steady])) hini)
  obtain ⟨hx, hb, hml, ho, -⟩ := S
  obtain ⟨-, ⟨cellB, hcB, hoB, hclB⟩, hPc⟩ := hp
  intro T hT X
  obtain ⟨v, vm₁, ⟨U', l2, c2, s2⟩, hW₁, X', ⟨g', mk, t, L, e1, e2, hq, h1, hL, h2, h3⟩, st⟩ := vx_callVW X hx (C := C) (hh := hh) (bytes := bytes) (maxL := maxL) (ret := ret) ho hl hin hse hcode hy hK (by rw [hT]; exact hcB) hoB hclB hg (hsize.trans hml.symm) (argsL := As) (rest := rest) (fun sig h => hn.trans (hlen sig h)) hstack hW (by rw [hb]; exact hdg)
    (fun vm₁ hW₁ => ⟨hf.1, hf.2, hPc (T.setVm vm₁) hT hW₁⟩)
  dsimp only [Pt.U, Pt.locs, Pt.cells, Pt.slots] at X' e1 e2 h1 h2 h3 st
  subst h1; subst h2; subst h3
  exact ⟨v, (T.setVm vm₁).calling g' mk (Value.ref b :: As).toArray, t, U', L, hT, X', hL, e1, e2, hq, st⟩
section
variable {y : MethodName} {bytes cc : ByteArray} {maxL nL mc ms n index : Nat} {ret : Option FieldType} {ws : List Cond} {rm : Room} {Pc : Array Value → State → Prop} {Qc : Array Value → State → Outcome → State → Prop} {XC : String → State → State → Prop} {free : Addr → Prop} {Ts : List Cond} {own C : String} {b : Addr} {As rest : List Value} {g : JFrame}
theorem vx_runVX {hh : List (Nat × Nat × Nat × Nat)} (S : CallFix p m c cc nL s args Ts own) (hM : vx_Met l y ws rm Pc Qc XC mc ms free) (cw : vx_CVW R s args own C index y bytes maxL ret hh ws rm mc ms n) (hp : PreV s H C b Pc As)
    (hg : g.method = m) (hn : As.length = n) (hsize : g.locals.size = nL) (hstack : g.stack = As.reverse ++ .ref b :: rest) (hW : 2 * g.monitorRoom + (rest.map fun v => v.category).sum ≤ 8) (hdg : decode cc g.pc = .ok (.invokevirtual index, 3)) (hf : cells + mc ≤ R.cells ∧ slots + ms ≤ R.slots) :
    vx_Run p l e R s m args below meth c H locs cells slots mc ms g rest (Qc (Value.ref b :: As).toArray) XC free := by
  obtain ⟨⟨hrc, hrs, hfr, hlo, hws, hcw⟩, hcode, hini, hy, hlen, hl, hin, hse⟩ := cw
  have hK : vx_Back l R p e below s args y 3 8 (PreOf R mc ms Pc) (PostOf Qc mc ms free) (vx_Post XC mc ms free) := vx_backW (hh := hh) (bytes := bytes) (maxL := maxL) (ret := ret) hM hp.1 hrc hrs hfr hlo hws hcw (fun a' U hW => word_at hW (Or.inl (by first | rfl | simp [Cond.onTables, Cond.keeps, Cond.steady])) hini)
  obtain ⟨hx, hb, hml, ho, -⟩ := S
  obtain ⟨-, ⟨cellB, hcB, hoB, hclB⟩, hPc⟩ := hp
  intro T hT X
  rcases vx_callVX X hx (C := C) (hh := hh) (bytes := bytes) (maxL := maxL) (ret := ret) ho hl hin hse hcode hy hK (by rw [hT]; exact hcB) hoB hclB hg (hsize.trans hml.symm) (argsL := As) (rest := rest) (fun sig h => hn.trans (hlen sig h)) hstack hW (by rw [hb]; exact hdg)
    (fun vm₁ hW₁ => ⟨hf.1, hf.2, hPc (T.setVm vm₁) hT hW₁⟩) with ⟨v, vm₁, ⟨U', l2, c2, s2⟩, hW₁, X', ⟨g', mk, t, L, e1, e2, hq, h1, hL, h2, h3⟩, st⟩ | ⟨q, vm₁, ⟨U', l2, c2, s2⟩, hW₁, X', ⟨g', mk, t, L, E, ce, e1, e2, hq, hce, hcv, hcl, h1, hL, h2, h3⟩, st⟩
  · dsimp only [Pt.U, Pt.locs, Pt.cells, Pt.slots] at X' e1 e2 h1 h2 h3 st
    subst h1; subst h2; subst h3
    exact Or.inl ⟨v, (T.setVm vm₁).calling g' mk (Value.ref b :: As).toArray, t, U', L, hT, X', hL, e1, e2, hq, st⟩
  · dsimp only [Pt.U, Pt.locs, Pt.cells, Pt.slots] at X' e1 e2 h1 h2 h3 st hcl
    subst h1; subst h2; subst h3
    exact Or.inr ⟨q, (T.setVm vm₁).calling g' mk (Value.ref b :: As).toArray, t, U', L, E, ce, hT, X', hL, e1, e2, hq, hce, hcv, vx_cls hW₁ hcl, st⟩
theorem vx_runSX {hh : List (Nat × Nat × Nat × Nat)} (S : CallFix p m c cc nL s args Ts own) (hM : vx_Met l y ws rm Pc Qc XC mc ms free) (cw : vx_CSW R s args own index y bytes maxL ret hh ws rm mc ms n) (hp : PreS s H Pc As)
    (hg : g.method = m) (hn : As.length = n) (hsize : g.locals.size = nL) (hstack : g.stack = As.reverse ++ rest) (hW : 2 * g.monitorRoom + (rest.map fun v => v.category).sum ≤ 8) (hdg : decode cc g.pc = .ok (.invokestatic index, 3)) (hf : cells + mc ≤ R.cells ∧ slots + ms ≤ R.slots) :
    vx_Run p l e R s m args below meth c H locs cells slots mc ms g rest (Qc As.toArray) XC free := by
  obtain ⟨⟨hrc, hrs, hfr, hlo, hws, hcw⟩, hcode, hini, hy, hlen, hl, hstt⟩ := cw
  have hK : vx_Back l R p e below s args y 3 8 (PreOf R mc ms Pc) (PostOf Qc mc ms free) (vx_Post XC mc ms free) := vx_backW (hh := hh) (bytes := bytes) (maxL := maxL) (ret := ret) hM hp.1 hrc hrs hfr hlo hws hcw (fun a' U hW => word_at hW (Or.inl (by first | rfl | simp [Cond.onTables, Cond.keeps, Cond.steady])) hini)
  obtain ⟨hx, hb, hml, ho, -⟩ := S
  intro T hT X
  rcases vx_callSX X hx (hh := hh) (bytes := bytes) (maxL := maxL) (ret := ret) ho hl hstt hini hcode hy hK hg (hsize.trans hml.symm) (argsL := As) (rest := rest) (fun sig h => hn.trans (hlen sig h)) hstack hW (by rw [hb]; exact hdg)
    (fun vm₁ hW₁ => ⟨hf.1, hf.2, hp.2 (T.setVm vm₁) hT hW₁⟩) with ⟨v, vm₁, ⟨U', l2, c2, s2⟩, hW₁, X', ⟨g', mk, t, L, e1, e2, hq, h1, hL, h2, h3⟩, st⟩ | ⟨q, vm₁, ⟨U', l2, c2, s2⟩, hW₁, X', ⟨g', mk, t, L, E, ce, e1, e2, hq, hce, hcv, hcl, h1, hL, h2, h3⟩, st⟩
  · dsimp only [Pt.U, Pt.locs, Pt.cells, Pt.slots] at X' e1 e2 h1 h2 h3 st
    subst h1; subst h2; subst h3
    exact Or.inl ⟨v, (T.setVm vm₁).calling g' mk As.toArray, t, U', L, hT, X', hL, e1, e2, hq, st⟩
  · dsimp only [Pt.U, Pt.locs, Pt.cells, Pt.slots] at X' e1 e2 h1 h2 h3 st hcl
    subst h1; subst h2; subst h3
    exact Or.inr ⟨q, (T.setVm vm₁).calling g' mk As.toArray, t, U', L, E, ce, hT, X', hL, e1, e2, hq, hce, hcv, vx_cls hW₁ hcl, st⟩
end
end VXH
theorem vx_ofWH {l : Launch} {y : MethodName} {ws ws' : List Cond} {rm : Room} {Pc : Array Value → State → Prop} {Qc : Array Value → State → Outcome → State → Prop} {XC : String → State → State → Prop} {mc ms : Nat} {free : Addr → Prop} {cc : ByteArray} {maxL : Nat} {ret : Option FieldType} {hh : List (Nat × Nat × Nat × Nat)}
    (hy : plainName y.cls = true) (hw : ws = Cond.codeWith y cc maxL ret hh :: ws')
    (body : ∀ p e s m args below meth c s₁, BodyLoose p l y (headSpec ws rm) cc maxL ret e s m args below meth c s₁ → c.maxLocals = maxL → Pc args s →
      W p l e (headSpec ws rm).room s m args below meth c s.heap [] 0 0 (vx_MQ below Qc XC args s mc ms free) (entryFrame m args maxL)) : vx_Met l y ws rm Pc Qc XC mc ms free := by
  refine MetFree.of_bodyS (code := cc) (maxLocals := maxL) (ret := ret) hy ?_ ?_
  · intro args s m h hn
    obtain ⟨m9, meth, c, hn9, h1, h2, h3, h4, -, h5, h6, -⟩ := Cond.codeWith_spec (atoms_spec (ws := ws) h _ (by rw [hw]; exact List.mem_cons_self))
    cases hn.symm.trans hn9
    exact ⟨meth, c, h1, h2, h3, h4, h5, h6⟩
  · intro p e s m args below meth c s₁ B hml hP _
    have hh0 : s₁.heap = s.heap := by rw [B.state]; rfl
    obtain ⟨t, a1, o, b1, b2, b3⟩ := body p e s m args below meth c s₁ B hml hP s₁ hh0 (Stand.of_body B)
    exact ⟨t, o, a1, b1, b2, b3⟩
/-! ===== END ===== -/
end
section
/-! ===== BEGIN printed: names, fields, word lists, decode rows ===== -/
def RX0 : String := "SignTeller"
def TX0 : u_T := fun k => match k with
  | 0 => ("SignTeller", "featureCount", "I", true)
  | 1 => ("SignTeller", "exampleClass", "[I", true)
  | 2 => ("SignTeller", "exampleValues", "[[I", true)
  | 3 => ("SignTeller", "exampleCount", "I", false)
  | 4 => ("SignTeller", "signValues", "[I", true)
  | 5 => ("SignTeller", "leastLead", "I", false)
  | 6 => ("SignTeller", "made", "Z", false)
  | 7 => ("SignTeller", "members", "[I", true)
  | 8 => ("SignTeller", "means", "[[D", true)
  | 9 => ("SignTeller", "weights", "[[D", true)
  | _ => ("SignTeller", "confusions", "[[I", true)
def tyX0 : Nat → FieldType := fun k => match k with
  | 0 => .int
  | 1 => .array .int
  | 2 => .array (.array .int)
  | 3 => .int
  | 4 => .array .int
  | 5 => .int
  | 6 => .boolean
  | 7 => .array .int
  | 8 => .array (.array .double)
  | 9 => .array (.array .double)
  | _ => .array (.array .int)
abbrev wsX00 : List Cond := u_ws RX0 TX0 11
theorem nmX0 : ∀ a, a < 11 → ∀ b, b < 11 → a ≠ b → (TX0 a).2.1 ≠ (TX0 b).2.1 := by decide +kernel
theorem tyX0_ok : ∀ k, k < 11 → parseFieldDescriptor (TX0 k).2.2.1 = some (tyX0 k) := by decide +kernel
abbrev cX0_init : ByteArray := prog_1_method_1_code
def yX0_init : MethodName := ⟨RX0, "<init>", "(I)V"⟩
abbrev cX0_example : ByteArray := prog_1_method_2_code
def yX0_example : MethodName := ⟨RX0, "example", "(I)I"⟩
abbrev cX0_feature : ByteArray := prog_1_method_3_code
def yX0_feature : MethodName := ⟨RX0, "feature", "(III)V"⟩
abbrev cX0_make : ByteArray := prog_1_method_4_code
def yX0_make : MethodName := ⟨RX0, "make", "(I)I"⟩
abbrev cX0_sign : ByteArray := prog_1_method_5_code
def yX0_sign : MethodName := ⟨RX0, "sign", "(II)V"⟩
abbrev cX0_tell : ByteArray := prog_1_method_6_code
def yX0_tell : MethodName := ⟨RX0, "tell", "(I)I"⟩
abbrev cX0_distance : ByteArray := prog_1_method_7_code
def yX0_distance : MethodName := ⟨RX0, "distance", "(I)J"⟩
abbrev cX0_weight : ByteArray := prog_1_method_8_code
def yX0_weight : MethodName := ⟨RX0, "weight", "(II)D"⟩
abbrev cX0_confused : ByteArray := prog_1_method_9_code
def yX0_confused : MethodName := ⟨RX0, "confused", "(II)I"⟩
abbrev cX0_margin : ByteArray := prog_1_method_10_code
def yX0_margin : MethodName := ⟨RX0, "margin", "(I)I"⟩
abbrev cX0_clear : ByteArray := prog_1_method_11_code
def yX0_clear : MethodName := ⟨RX0, "clear", "()I"⟩
abbrev cX0_isClass : ByteArray := prog_1_method_12_code
def yX0_isClass : MethodName := ⟨RX0, "isClass", "(I)Z"⟩
abbrev cX0_isRank : ByteArray := prog_1_method_13_code
def yX0_isRank : MethodName := ⟨RX0, "isRank", "(I)Z"⟩
abbrev cX0_isFeature : ByteArray := prog_1_method_14_code
def yX0_isFeature : MethodName := ⟨RX0, "isFeature", "(I)Z"⟩
abbrev cX0_lowestByte : ByteArray := prog_1_method_15_code
def yX0_lowestByte : MethodName := ⟨RX0, "lowestByte", "(I)I"⟩
abbrev cX0_size : ByteArray := prog_1_method_16_code
def yX0_size : MethodName := ⟨RX0, "size", "(D)D"⟩
abbrev cX0_makeMeans : ByteArray := prog_1_method_17_code
def yX0_makeMeans : MethodName := ⟨RX0, "makeMeans", "()V"⟩
abbrev cX0_divideMeans : ByteArray := prog_1_method_18_code
def yX0_divideMeans : MethodName := ⟨RX0, "divideMeans", "(I)V"⟩
abbrev cX0_makeFirstWeights : ByteArray := prog_1_method_19_code
def yX0_makeFirstWeights : MethodName := ⟨RX0, "makeFirstWeights", "()V"⟩
abbrev cX0_goRound : ByteArray := prog_1_method_20_code
def yX0_goRound : MethodName := ⟨RX0, "goRound", "()V"⟩
abbrev cX0_shiftWeights : ByteArray := prog_1_method_21_code
def yX0_shiftWeights : MethodName := ⟨RX0, "shiftWeights", "([III)V"⟩
abbrev cX0_countConfusions : ByteArray := prog_1_method_22_code
def yX0_countConfusions : MethodName := ⟨RX0, "countConfusions", "()V"⟩
abbrev cX0_distanceTo : ByteArray := prog_1_method_23_code
def yX0_distanceTo : MethodName := ⟨RX0, "distanceTo", "(I[I)D"⟩
abbrev cX0_nearestClass : ByteArray := prog_1_method_24_code
def yX0_nearestClass : MethodName := ⟨RX0, "nearestClass", "([II)I"⟩
abbrev cX0_isSignBlank : ByteArray := prog_1_method_25_code
def yX0_isSignBlank : MethodName := ⟨RX0, "isSignBlank", "()Z"⟩
abbrev cX0_isTooClose : ByteArray := prog_1_method_26_code
def yX0_isTooClose : MethodName := ⟨RX0, "isTooClose", "(II)Z"⟩
def RX1 : String := "SignTellerModel"
def TX1 : u_T := fun k => match k with
  | 0 => ("SignTellerModel", "code", "I", false)
  | 1 => ("SignTellerModel", "features", "I", true)
  | 2 => ("SignTellerModel", "examples", "I", false)
  | 3 => ("SignTellerModel", "cls", "[I", true)
  | 4 => ("SignTellerModel", "value", "[I", true)
  | 5 => ("SignTellerModel", "sign", "[I", true)
  | 6 => ("SignTellerModel", "made", "Z", false)
  | 7 => ("SignTellerModel", "has", "[Z", true)
  | 8 => ("SignTellerModel", "mean", "[D", true)
  | 9 => ("SignTellerModel", "weight", "[D", true)
  | 10 => ("SignTellerModel", "confused", "[I", true)
  | _ => ("SignTellerModel", "margin", "I", false)
def tyX1 : Nat → FieldType := fun k => match k with
  | 0 => .int
  | 1 => .int
  | 2 => .int
  | 3 => .array .int
  | 4 => .array .int
  | 5 => .array .int
  | 6 => .boolean
  | 7 => .array .boolean
  | 8 => .array .double
  | 9 => .array .double
  | 10 => .array .int
  | _ => .int
abbrev wsX10 : List Cond := u_ws RX1 TX1 12
theorem nmX1 : ∀ a, a < 12 → ∀ b, b < 12 → a ≠ b → (TX1 a).2.1 ≠ (TX1 b).2.1 := by decide +kernel
theorem tyX1_ok : ∀ k, k < 12 → parseFieldDescriptor (TX1 k).2.2.1 = some (tyX1 k) := by decide +kernel
abbrev cX1_init : ByteArray := prog_3_method_1_code
def yX1_init : MethodName := ⟨RX1, "<init>", "(I)V"⟩
abbrev cX1_thrown : ByteArray := prog_3_method_2_code
def yX1_thrown : MethodName := ⟨RX1, "thrown", "()I"⟩
abbrev cX1_example : ByteArray := prog_3_method_3_code
def yX1_example : MethodName := ⟨RX1, "example", "(I)I"⟩
abbrev cX1_isFeature : ByteArray := prog_3_method_4_code
def yX1_isFeature : MethodName := ⟨RX1, "isFeature", "(I)Z"⟩
abbrev cX1_feature : ByteArray := prog_3_method_5_code
def yX1_feature : MethodName := ⟨RX1, "feature", "(III)V"⟩
abbrev cX1_sign : ByteArray := prog_3_method_6_code
def yX1_sign : MethodName := ⟨RX1, "sign", "(II)V"⟩
abbrev cX1_size : ByteArray := prog_3_method_7_code
def yX1_size : MethodName := ⟨RX1, "size", "(D)D"⟩
abbrev cX1_distanceTo : ByteArray := prog_3_method_8_code
def yX1_distanceTo : MethodName := ⟨RX1, "distanceTo", "([III)D"⟩
abbrev cX1_nearest : ByteArray := prog_3_method_9_code
def yX1_nearest : MethodName := ⟨RX1, "nearest", "([III)I"⟩
abbrev cX1_means : ByteArray := prog_3_method_10_code
def yX1_means : MethodName := ⟨RX1, "means", "()V"⟩
abbrev cX1_round : ByteArray := prog_3_method_11_code
def yX1_round : MethodName := ⟨RX1, "round", "()V"⟩
abbrev cX1_make : ByteArray := prog_3_method_12_code
def yX1_make : MethodName := ⟨RX1, "make", "(I)I"⟩
abbrev cX1_ranked : ByteArray := prog_3_method_13_code
def yX1_ranked : MethodName := ⟨RX1, "ranked", "(I)I"⟩
abbrev cX1_refusal : ByteArray := prog_3_method_14_code
def yX1_refusal : MethodName := ⟨RX1, "refusal", "(I)I"⟩
abbrev cX1_tell : ByteArray := prog_3_method_15_code
def yX1_tell : MethodName := ⟨RX1, "tell", "(I)I"⟩
abbrev cX1_distance : ByteArray := prog_3_method_16_code
def yX1_distance : MethodName := ⟨RX1, "distance", "(I)J"⟩
abbrev cX1_weight : ByteArray := prog_3_method_17_code
def yX1_weight : MethodName := ⟨RX1, "weight", "(II)D"⟩
abbrev cX1_confused : ByteArray := prog_3_method_18_code
def yX1_confused : MethodName := ⟨RX1, "confused", "(II)I"⟩
abbrev cX1_margin : ByteArray := prog_3_method_19_code
def yX1_margin : MethodName := ⟨RX1, "margin", "(I)I"⟩
abbrev cX1_clear : ByteArray := prog_3_method_20_code
def yX1_clear : MethodName := ⟨RX1, "clear", "()I"⟩
def RJx00060 : String := "java/lang/ArrayIndexOutOfBoundsException"
def TJx00060 : u_T := fun k => match k with
  | 0 => ("java/lang/Throwable", "cause", "Ljava/lang/Throwable;", false)
  | 1 => ("java/lang/Throwable", "stackTrace", "[Ljava/lang/StackTraceElement;", false)
  | 2 => ("java/lang/Throwable", "suppressedExceptions", "Ljava/util/List;", false)
  | 3 => ("java/lang/Throwable", "detailMessage", "Ljava/lang/String;", false)
  | 4 => ("java/lang/Throwable", "backtrace", "Ljava/lang/Object;", false)
  | _ => ("java/lang/Throwable", "depth", "I", false)
def tyJx00060 : Nat → FieldType := fun k => match k with
  | 0 => .object "java/lang/Throwable"
  | 1 => .array (.object "java/lang/StackTraceElement")
  | 2 => .object "java/util/List"
  | 3 => .object "java/lang/String"
  | 4 => .object "java/lang/Object"
  | _ => .int
abbrev wsJx000600 : List Cond := u_ws RJx00060 TJx00060 6
theorem nmJx00060 : ∀ a, a < 6 → ∀ b, b < 6 → a ≠ b → (TJx00060 a).2.1 ≠ (TJx00060 b).2.1 := by decide +kernel
theorem tyJx00060_ok : ∀ k, k < 6 → parseFieldDescriptor (TJx00060 k).2.2.1 = some (tyJx00060 k) := by decide +kernel
abbrev cJx00060_init_a7421 : ByteArray := prog_5_method_2_code
def yJx00060_init_a7421 : MethodName := ⟨RJx00060, "<init>", "(Ljava/lang/String;)V"⟩
def RJ0 : String := "java/lang/String"
def TJ0 : u_T := fun k => match k with
  | _ => ("", "", "", false)
def tyJ0 : Nat → FieldType := fun k => match k with
  | _ => .int
abbrev wsJ00 : List Cond := u_ws RJ0 TJ0 0
theorem nmJ0 : ∀ a, a < 0 → ∀ b, b < 0 → a ≠ b → (TJ0 a).2.1 ≠ (TJ0 b).2.1 := by decide +kernel
theorem tyJ0_ok : ∀ k, k < 0 → parseFieldDescriptor (TJ0 k).2.2.1 = some (tyJ0 k) := by decide +kernel
def RL : String := "SignTellerLaw"
abbrev cL_cell : ByteArray := method_2_code
def yL_cell : MethodName := ⟨RL, "cell", "([II)I"⟩
abbrev cL_feature : ByteArray := method_3_code
def yL_feature : MethodName := ⟨RL, "feature", "(LSignTeller;III)I"⟩
abbrev cL_make : ByteArray := method_4_code
def yL_make : MethodName := ⟨RL, "make", "(LSignTeller;I[J)I"⟩
abbrev cL_sign : ByteArray := method_5_code
def yL_sign : MethodName := ⟨RL, "sign", "(LSignTeller;II)I"⟩
abbrev cL_weight : ByteArray := method_6_code
def yL_weight : MethodName := ⟨RL, "weight", "(LSignTeller;II[D)I"⟩
abbrev cL_law : ByteArray := code
def yL_law : MethodName := ⟨RL, "law", "([I)Z"⟩
def wsX0_init : List Cond := .code yX0_init cX0_init 2 none :: ([.methodLink RX0 1 objectInit, .instanceMethod objectInit, .code objectInit ⟨#[0xb1]⟩ 1 none, .fieldLink RX0 7 "SignTeller" "featureCount" "I", .arrayClass .int, .fieldLink RX0 13 "SignTeller" "exampleClass" "[I", .classLink RX0 17 "[[I", .fieldLink RX0 19 "SignTeller" "exampleValues" "[[I", .fieldLink RX0 22 "SignTeller" "signValues" "[I", .fieldLink RX0 25 "SignTeller" "members" "[I", .classLink RX0 28 "[[D", .arrayClass .double, .fieldLink RX0 30 "SignTeller" "means" "[[D", .fieldLink RX0 33 "SignTeller" "weights" "[[D", .fieldLink RX0 36 "SignTeller" "confusions" "[[I"] ++ wsX00)
def wsX0_isClass : List Cond := .code yX0_isClass cX0_isClass 1 (some .boolean) :: ([])
def wsX0_example : List Cond := .code yX0_example cX0_example 4 (some .int) :: ([.fieldLink RX0 43 "SignTeller" "exampleCount" "I", .fieldLink RX0 13 "SignTeller" "exampleClass" "[I", .fieldLink RX0 7 "SignTeller" "featureCount" "I", .fieldLink RX0 19 "SignTeller" "exampleValues" "[[I", .methodLink RX0 39 yX0_isClass, .static yX0_isClass, .initialized RX0, .code yX0_isClass cX0_isClass 1 (some .boolean)] ++ wsX00)
def wsX0_isFeature : List Cond := .code yX0_isFeature cX0_isFeature 2 (some .boolean) :: ([.fieldLink RX0 7 "SignTeller" "featureCount" "I"] ++ wsX00)
def wsX0_lowestByte : List Cond := .code yX0_lowestByte cX0_lowestByte 1 (some .int) :: ([])
def wsX0_feature : List Cond := .code yX0_feature cX0_feature 4 none :: ([.fieldLink RX0 43 "SignTeller" "exampleCount" "I", .classLink RX0 49 RJx00060, .instantiable RJx00060 6, .initialized RJx00060, .fieldLink RX0 19 "SignTeller" "exampleValues" "[[I", .methodLink RX0 46 yX0_isFeature, .instanceMethod yX0_isFeature, .selects RX0 yX0_isFeature yX0_isFeature, .initialized RX0, .code yX0_isFeature cX0_isFeature 2 (some .boolean), .fieldLink RX0 7 "SignTeller" "featureCount" "I", .methodLink RX0 56 yX0_lowestByte, .static yX0_lowestByte, .code yX0_lowestByte cX0_lowestByte 1 (some .int)] ++ wsX00 ++ wsJx000600)
def wsX0_divideMeans : List Cond := .code yX0_divideMeans cX0_divideMeans 5 none :: ([.fieldLink RX0 25 "SignTeller" "members" "[I", .fieldLink RX0 7 "SignTeller" "featureCount" "I", .fieldLink RX0 30 "SignTeller" "means" "[[D"] ++ wsX00)
def wsX0_makeMeans : List Cond := .code yX0_makeMeans cX0_makeMeans 4 none :: ([.fieldLink RX0 25 "SignTeller" "members" "[I", .fieldLink RX0 7 "SignTeller" "featureCount" "I", .fieldLink RX0 30 "SignTeller" "means" "[[D", .fieldLink RX0 43 "SignTeller" "exampleCount" "I", .fieldLink RX0 13 "SignTeller" "exampleClass" "[I", .fieldLink RX0 19 "SignTeller" "exampleValues" "[[I", .methodLink RX0 116 yX0_divideMeans, .instanceMethod yX0_divideMeans, .selects RX0 yX0_divideMeans yX0_divideMeans, .initialized RX0, .code yX0_divideMeans cX0_divideMeans 5 none] ++ wsX00)
def wsX0_makeFirstWeights : List Cond := .code yX0_makeFirstWeights cX0_makeFirstWeights 5 none :: ([.fieldLink RX0 25 "SignTeller" "members" "[I", .fieldLink RX0 7 "SignTeller" "featureCount" "I", .fieldLink RX0 33 "SignTeller" "weights" "[[D"] ++ wsX00)
def wsX0_size : List Cond := .code yX0_size cX0_size 2 (some .double) :: ([])
def wsX0_distanceTo : List Cond := .code yX0_distanceTo cX0_distanceTo 6 (some .double) :: ([.fieldLink RX0 7 "SignTeller" "featureCount" "I", .fieldLink RX0 33 "SignTeller" "weights" "[[D", .fieldLink RX0 30 "SignTeller" "means" "[[D", .methodLink RX0 124 yX0_size, .static yX0_size, .initialized RX0, .code yX0_size cX0_size 2 (some .double)] ++ wsX00)
def wsX0_nearestClass : List Cond := .code yX0_nearestClass cX0_nearestClass 9 (some .int) :: ([.fieldLink RX0 25 "SignTeller" "members" "[I", .methodLink RX0 104 yX0_distanceTo, .instanceMethod yX0_distanceTo, .selects RX0 yX0_distanceTo yX0_distanceTo, .initialized RX0, .code yX0_distanceTo cX0_distanceTo 6 (some .double), .fieldLink RX0 7 "SignTeller" "featureCount" "I", .fieldLink RX0 33 "SignTeller" "weights" "[[D", .fieldLink RX0 30 "SignTeller" "means" "[[D", .methodLink RX0 124 yX0_size, .static yX0_size, .code yX0_size cX0_size 2 (some .double)] ++ wsX00)
def wsX0_shiftWeights : List Cond := .code yX0_shiftWeights cX0_shiftWeights 9 none :: ([.fieldLink RX0 7 "SignTeller" "featureCount" "I", .fieldLink RX0 30 "SignTeller" "means" "[[D", .fieldLink RX0 33 "SignTeller" "weights" "[[D", .constantDouble RX0 128 (4606056518893174784), .constantDouble RX0 130 (4607745368753438720), .methodLink RX0 124 yX0_size, .static yX0_size, .initialized RX0, .code yX0_size cX0_size 2 (some .double)] ++ wsX00)
def wsX0_goRound_r1 : List Cond := [Cond.fieldLink RX0 43 "SignTeller" "exampleCount" "I", Cond.fieldLink RX0 13 "SignTeller" "exampleClass" "[I", Cond.fieldLink RX0 19 "SignTeller" "exampleValues" "[[I", Cond.methodLink RX0 90 yX0_nearestClass, Cond.instanceMethod yX0_nearestClass, Cond.selects RX0 yX0_nearestClass yX0_nearestClass, Cond.initialized RX0, Cond.code yX0_nearestClass cX0_nearestClass 9 (some .int), Cond.fieldLink RX0 25 "SignTeller" "members" "[I", Cond.methodLink RX0 104 yX0_distanceTo, Cond.instanceMethod yX0_distanceTo, Cond.selects RX0 yX0_distanceTo yX0_distanceTo, Cond.code yX0_distanceTo cX0_distanceTo 6 (some .double), Cond.fieldLink RX0 7 "SignTeller" "featureCount" "I", Cond.fieldLink RX0 33 "SignTeller" "weights" "[[D", Cond.fieldLink RX0 30 "SignTeller" "means" "[[D", Cond.methodLink RX0 124 yX0_size, Cond.static yX0_size, Cond.code yX0_size cX0_size 2 (some .double), Cond.methodLink RX0 39 yX0_isClass, Cond.static yX0_isClass, Cond.code yX0_isClass cX0_isClass 1 (some .boolean), Cond.methodLink RX0 120 yX0_shiftWeights, Cond.instanceMethod yX0_shiftWeights]
def wsX0_goRound_r2 : List Cond := [Cond.selects RX0 yX0_shiftWeights yX0_shiftWeights, Cond.code yX0_shiftWeights cX0_shiftWeights 9 none, Cond.constantDouble RX0 128 (4606056518893174784), Cond.constantDouble RX0 130 (4607745368753438720)]
def wsX0_goRound : List Cond := .code yX0_goRound cX0_goRound 4 none :: ((wsX0_goRound_r1 ++ wsX0_goRound_r2) ++ wsX00)
def wsX0_countConfusions : List Cond := .code yX0_countConfusions cX0_countConfusions 3 none :: ([.fieldLink RX0 36 "SignTeller" "confusions" "[[I", .fieldLink RX0 43 "SignTeller" "exampleCount" "I", .fieldLink RX0 19 "SignTeller" "exampleValues" "[[I", .fieldLink RX0 13 "SignTeller" "exampleClass" "[I", .methodLink RX0 90 yX0_nearestClass, .instanceMethod yX0_nearestClass, .selects RX0 yX0_nearestClass yX0_nearestClass, .initialized RX0, .code yX0_nearestClass cX0_nearestClass 9 (some .int), .fieldLink RX0 25 "SignTeller" "members" "[I", .methodLink RX0 104 yX0_distanceTo, .instanceMethod yX0_distanceTo, .selects RX0 yX0_distanceTo yX0_distanceTo, .code yX0_distanceTo cX0_distanceTo 6 (some .double), .fieldLink RX0 7 "SignTeller" "featureCount" "I", .fieldLink RX0 33 "SignTeller" "weights" "[[D", .fieldLink RX0 30 "SignTeller" "means" "[[D", .methodLink RX0 124 yX0_size, .static yX0_size, .code yX0_size cX0_size 2 (some .double), .methodLink RX0 39 yX0_isClass, .static yX0_isClass, .code yX0_isClass cX0_isClass 1 (some .boolean)] ++ wsX00)
def wsX0_make_r1 : List Cond := [Cond.classLink RX0 60 "java/lang/ArithmeticException", Cond.initialized "java/lang/ArithmeticException", Cond.fieldLink RX0 43 "SignTeller" "exampleCount" "I", Cond.fieldLink RX0 77 "SignTeller" "made" "Z", Cond.methodLink RX0 65 yX0_makeMeans, Cond.instanceMethod yX0_makeMeans, Cond.selects RX0 yX0_makeMeans yX0_makeMeans, Cond.initialized RX0, Cond.code yX0_makeMeans cX0_makeMeans 4 none, Cond.fieldLink RX0 25 "SignTeller" "members" "[I", Cond.fieldLink RX0 7 "SignTeller" "featureCount" "I", Cond.fieldLink RX0 30 "SignTeller" "means" "[[D", Cond.fieldLink RX0 13 "SignTeller" "exampleClass" "[I", Cond.fieldLink RX0 19 "SignTeller" "exampleValues" "[[I", Cond.methodLink RX0 116 yX0_divideMeans, Cond.instanceMethod yX0_divideMeans, Cond.selects RX0 yX0_divideMeans yX0_divideMeans, Cond.code yX0_divideMeans cX0_divideMeans 5 none, Cond.methodLink RX0 68 yX0_makeFirstWeights, Cond.instanceMethod yX0_makeFirstWeights, Cond.selects RX0 yX0_makeFirstWeights yX0_makeFirstWeights, Cond.code yX0_makeFirstWeights cX0_makeFirstWeights 5 none, Cond.fieldLink RX0 33 "SignTeller" "weights" "[[D", Cond.methodLink RX0 71 yX0_goRound]
def wsX0_make_r2 : List Cond := [Cond.instanceMethod yX0_goRound, Cond.selects RX0 yX0_goRound yX0_goRound, Cond.code yX0_goRound cX0_goRound 4 none, Cond.methodLink RX0 90 yX0_nearestClass, Cond.instanceMethod yX0_nearestClass, Cond.selects RX0 yX0_nearestClass yX0_nearestClass, Cond.code yX0_nearestClass cX0_nearestClass 9 (some .int), Cond.methodLink RX0 104 yX0_distanceTo, Cond.instanceMethod yX0_distanceTo, Cond.selects RX0 yX0_distanceTo yX0_distanceTo, Cond.code yX0_distanceTo cX0_distanceTo 6 (some .double), Cond.methodLink RX0 124 yX0_size, Cond.static yX0_size, Cond.code yX0_size cX0_size 2 (some .double), Cond.methodLink RX0 39 yX0_isClass, Cond.static yX0_isClass, Cond.code yX0_isClass cX0_isClass 1 (some .boolean), Cond.methodLink RX0 120 yX0_shiftWeights, Cond.instanceMethod yX0_shiftWeights, Cond.selects RX0 yX0_shiftWeights yX0_shiftWeights, Cond.code yX0_shiftWeights cX0_shiftWeights 9 none, Cond.constantDouble RX0 128 (4606056518893174784), Cond.constantDouble RX0 130 (4607745368753438720), Cond.methodLink RX0 74 yX0_countConfusions]
def wsX0_make_r3 : List Cond := [Cond.instanceMethod yX0_countConfusions, Cond.selects RX0 yX0_countConfusions yX0_countConfusions, Cond.code yX0_countConfusions cX0_countConfusions 3 none, Cond.fieldLink RX0 36 "SignTeller" "confusions" "[[I"]
def wsX0_make : List Cond := .code yX0_make cX0_make 3 (some .int) :: ((wsX0_make_r1 ++ (wsX0_make_r2 ++ wsX0_make_r3)) ++ wsX00 ++ (vx_atS RX0 64 "java/lang/ArithmeticException" ["java/lang/RuntimeException", "java/lang/Exception"]).filter goodWord)
def wsX0_sign : List Cond := .code yX0_sign cX0_sign 3 none :: ([.classLink RX0 49 RJx00060, .instantiable RJx00060 6, .initialized RJx00060, .fieldLink RX0 22 "SignTeller" "signValues" "[I", .methodLink RX0 46 yX0_isFeature, .instanceMethod yX0_isFeature, .selects RX0 yX0_isFeature yX0_isFeature, .initialized RX0, .code yX0_isFeature cX0_isFeature 2 (some .boolean), .fieldLink RX0 7 "SignTeller" "featureCount" "I", .methodLink RX0 56 yX0_lowestByte, .static yX0_lowestByte, .code yX0_lowestByte cX0_lowestByte 1 (some .int)] ++ wsJx000600 ++ wsX00)
def wsX0_isRank : List Cond := .code yX0_isRank cX0_isRank 1 (some .boolean) :: ([])
def wsX0_isSignBlank : List Cond := .code yX0_isSignBlank cX0_isSignBlank 2 (some .boolean) :: ([.fieldLink RX0 7 "SignTeller" "featureCount" "I", .fieldLink RX0 22 "SignTeller" "signValues" "[I"] ++ wsX00)
def wsX0_isTooClose : List Cond := .code yX0_isTooClose cX0_isTooClose 5 (some .boolean) :: ([.fieldLink RX0 22 "SignTeller" "signValues" "[I", .fieldLink RX0 113 "SignTeller" "leastLead" "I", .methodLink RX0 39 yX0_isClass, .static yX0_isClass, .initialized RX0, .code yX0_isClass cX0_isClass 1 (some .boolean), .methodLink RX0 104 yX0_distanceTo, .instanceMethod yX0_distanceTo, .selects RX0 yX0_distanceTo yX0_distanceTo, .code yX0_distanceTo cX0_distanceTo 6 (some .double), .fieldLink RX0 7 "SignTeller" "featureCount" "I", .fieldLink RX0 33 "SignTeller" "weights" "[[D", .fieldLink RX0 30 "SignTeller" "means" "[[D", .methodLink RX0 124 yX0_size, .static yX0_size, .code yX0_size cX0_size 2 (some .double)] ++ wsX00)
def wsX0_tell_r1 : List Cond := [Cond.fieldLink RX0 77 "SignTeller" "made" "Z", Cond.fieldLink RX0 22 "SignTeller" "signValues" "[I", Cond.methodLink RX0 83 yX0_isRank, Cond.static yX0_isRank, Cond.initialized RX0, Cond.code yX0_isRank cX0_isRank 1 (some .boolean), Cond.methodLink RX0 86 yX0_isSignBlank, Cond.instanceMethod yX0_isSignBlank, Cond.selects RX0 yX0_isSignBlank yX0_isSignBlank, Cond.code yX0_isSignBlank cX0_isSignBlank 2 (some .boolean), Cond.fieldLink RX0 7 "SignTeller" "featureCount" "I", Cond.methodLink RX0 90 yX0_nearestClass, Cond.instanceMethod yX0_nearestClass, Cond.selects RX0 yX0_nearestClass yX0_nearestClass, Cond.code yX0_nearestClass cX0_nearestClass 9 (some .int), Cond.fieldLink RX0 25 "SignTeller" "members" "[I", Cond.methodLink RX0 104 yX0_distanceTo, Cond.instanceMethod yX0_distanceTo, Cond.selects RX0 yX0_distanceTo yX0_distanceTo, Cond.code yX0_distanceTo cX0_distanceTo 6 (some .double), Cond.fieldLink RX0 33 "SignTeller" "weights" "[[D", Cond.fieldLink RX0 30 "SignTeller" "means" "[[D", Cond.methodLink RX0 124 yX0_size, Cond.static yX0_size]
def wsX0_tell_r2 : List Cond := [Cond.code yX0_size cX0_size 2 (some .double), Cond.methodLink RX0 94 yX0_isTooClose, Cond.instanceMethod yX0_isTooClose, Cond.selects RX0 yX0_isTooClose yX0_isTooClose, Cond.code yX0_isTooClose cX0_isTooClose 5 (some .boolean), Cond.fieldLink RX0 113 "SignTeller" "leastLead" "I", Cond.methodLink RX0 39 yX0_isClass, Cond.static yX0_isClass, Cond.code yX0_isClass cX0_isClass 1 (some .boolean)]
def wsX0_tell : List Cond := .code yX0_tell cX0_tell 4 (some .int) :: ((wsX0_tell_r1 ++ wsX0_tell_r2) ++ wsX00)
def wsX0_distance_r1 : List Cond := [Cond.constantLong RX0 98 (-12), Cond.fieldLink RX0 77 "SignTeller" "made" "Z", Cond.constantLong RX0 100 (-13), Cond.fieldLink RX0 22 "SignTeller" "signValues" "[I", Cond.constantLong RX0 102 (-1), Cond.constantDouble RX0 108 (4652007308841189376), Cond.methodLink RX0 83 yX0_isRank, Cond.static yX0_isRank, Cond.initialized RX0, Cond.code yX0_isRank cX0_isRank 1 (some .boolean), Cond.methodLink RX0 90 yX0_nearestClass, Cond.instanceMethod yX0_nearestClass, Cond.selects RX0 yX0_nearestClass yX0_nearestClass, Cond.code yX0_nearestClass cX0_nearestClass 9 (some .int), Cond.fieldLink RX0 25 "SignTeller" "members" "[I", Cond.methodLink RX0 104 yX0_distanceTo, Cond.instanceMethod yX0_distanceTo, Cond.selects RX0 yX0_distanceTo yX0_distanceTo, Cond.code yX0_distanceTo cX0_distanceTo 6 (some .double), Cond.fieldLink RX0 7 "SignTeller" "featureCount" "I", Cond.fieldLink RX0 33 "SignTeller" "weights" "[[D", Cond.fieldLink RX0 30 "SignTeller" "means" "[[D", Cond.methodLink RX0 124 yX0_size, Cond.static yX0_size]
def wsX0_distance_r2 : List Cond := [Cond.code yX0_size cX0_size 2 (some .double), Cond.methodLink RX0 39 yX0_isClass, Cond.static yX0_isClass, Cond.code yX0_isClass cX0_isClass 1 (some .boolean)]
def wsX0_distance : List Cond := .code yX0_distance cX0_distance 3 (some .long) :: ((wsX0_distance_r1 ++ wsX0_distance_r2) ++ wsX00)
def wsX0_weight : List Cond := .code yX0_weight cX0_weight 3 (some .double) :: ([.classLink RX0 49 RJx00060, .instantiable RJx00060 6, .initialized RJx00060, .fieldLink RX0 33 "SignTeller" "weights" "[[D", .methodLink RX0 39 yX0_isClass, .static yX0_isClass, .initialized RX0, .code yX0_isClass cX0_isClass 1 (some .boolean), .methodLink RX0 46 yX0_isFeature, .instanceMethod yX0_isFeature, .selects RX0 yX0_isFeature yX0_isFeature, .code yX0_isFeature cX0_isFeature 2 (some .boolean), .fieldLink RX0 7 "SignTeller" "featureCount" "I"] ++ wsJx000600 ++ wsX00)
def wsX0_confused : List Cond := .code yX0_confused cX0_confused 3 (some .int) :: ([.fieldLink RX0 36 "SignTeller" "confusions" "[[I", .methodLink RX0 39 yX0_isClass, .static yX0_isClass, .initialized RX0, .code yX0_isClass cX0_isClass 1 (some .boolean)] ++ wsX00)
def wsX0_margin : List Cond := .code yX0_margin cX0_margin 3 (some .int) :: ([.constant RX0 112 (100000), .fieldLink RX0 113 "SignTeller" "leastLead" "I"] ++ wsX00)
def wsX0_clear : List Cond := .code yX0_clear cX0_clear 2 (some .int) :: ([.fieldLink RX0 43 "SignTeller" "exampleCount" "I"] ++ wsX00)
def wsX1_init : List Cond := .code yX1_init cX1_init 2 none :: ([.methodLink RX1 1 objectInit, .instanceMethod objectInit, .code objectInit ⟨#[0xb1]⟩ 1 none, .arrayClass .int, .fieldLink RX1 7 "SignTellerModel" "cls" "[I", .fieldLink RX1 13 "SignTellerModel" "value" "[I", .fieldLink RX1 16 "SignTellerModel" "sign" "[I", .arrayClass .boolean, .fieldLink RX1 19 "SignTellerModel" "has" "[Z", .arrayClass .double, .fieldLink RX1 23 "SignTellerModel" "mean" "[D", .fieldLink RX1 27 "SignTellerModel" "weight" "[D", .fieldLink RX1 30 "SignTellerModel" "confused" "[I", .fieldLink RX1 33 "SignTellerModel" "features" "I"] ++ wsX10)
def wsX1_thrown : List Cond := .code yX1_thrown cX1_thrown 1 (some .int) :: ([.fieldLink RX1 37 "SignTellerModel" "code" "I"] ++ wsX10)
def wsX1_example : List Cond := .code yX1_example cX1_example 3 (some .int) :: ([.fieldLink RX1 37 "SignTellerModel" "code" "I", .fieldLink RX1 40 "SignTellerModel" "examples" "I", .fieldLink RX1 7 "SignTellerModel" "cls" "[I", .fieldLink RX1 13 "SignTellerModel" "value" "[I"] ++ wsX10)
def wsX1_isFeature : List Cond := .code yX1_isFeature cX1_isFeature 2 (some .boolean) :: ([.fieldLink RX1 33 "SignTellerModel" "features" "I"] ++ wsX10)
def wsX1_feature : List Cond := .code yX1_feature cX1_feature 4 none :: ([.fieldLink RX1 40 "SignTellerModel" "examples" "I", .fieldLink RX1 37 "SignTellerModel" "code" "I", .fieldLink RX1 13 "SignTellerModel" "value" "[I", .methodLink RX1 43 yX1_isFeature, .instanceMethod yX1_isFeature, .selects RX1 yX1_isFeature yX1_isFeature, .initialized RX1, .code yX1_isFeature cX1_isFeature 2 (some .boolean), .fieldLink RX1 33 "SignTellerModel" "features" "I"] ++ wsX10)
def wsX1_sign : List Cond := .code yX1_sign cX1_sign 3 none :: ([.fieldLink RX1 37 "SignTellerModel" "code" "I", .fieldLink RX1 16 "SignTellerModel" "sign" "[I", .methodLink RX1 43 yX1_isFeature, .instanceMethod yX1_isFeature, .selects RX1 yX1_isFeature yX1_isFeature, .initialized RX1, .code yX1_isFeature cX1_isFeature 2 (some .boolean), .fieldLink RX1 33 "SignTellerModel" "features" "I"] ++ wsX10)
def wsX1_size : List Cond := .code yX1_size cX1_size 2 (some .double) :: ([])
def wsX1_distanceTo : List Cond := .code yX1_distanceTo cX1_distanceTo 7 (some .double) :: ([.fieldLink RX1 33 "SignTellerModel" "features" "I", .fieldLink RX1 27 "SignTellerModel" "weight" "[D", .fieldLink RX1 23 "SignTellerModel" "mean" "[D", .methodLink RX1 47 yX1_size, .static yX1_size, .initialized RX1, .code yX1_size cX1_size 2 (some .double)] ++ wsX10)
def wsX1_nearest : List Cond := .code yX1_nearest cX1_nearest 10 (some .int) :: ([.fieldLink RX1 19 "SignTellerModel" "has" "[Z", .methodLink RX1 51 yX1_distanceTo, .instanceMethod yX1_distanceTo, .selects RX1 yX1_distanceTo yX1_distanceTo, .initialized RX1, .code yX1_distanceTo cX1_distanceTo 7 (some .double), .fieldLink RX1 33 "SignTellerModel" "features" "I", .fieldLink RX1 27 "SignTellerModel" "weight" "[D", .fieldLink RX1 23 "SignTellerModel" "mean" "[D", .methodLink RX1 47 yX1_size, .static yX1_size, .code yX1_size cX1_size 2 (some .double)] ++ wsX10)
def wsX1_means : List Cond := .code yX1_means cX1_means 6 none :: ([.fieldLink RX1 40 "SignTellerModel" "examples" "I", .fieldLink RX1 7 "SignTellerModel" "cls" "[I", .fieldLink RX1 19 "SignTellerModel" "has" "[Z", .fieldLink RX1 13 "SignTellerModel" "value" "[I", .fieldLink RX1 23 "SignTellerModel" "mean" "[D", .fieldLink RX1 27 "SignTellerModel" "weight" "[D"] ++ wsX10)
def wsX1_round : List Cond := .code yX1_round cX1_round 9 none :: ([.fieldLink RX1 40 "SignTellerModel" "examples" "I", .fieldLink RX1 7 "SignTellerModel" "cls" "[I", .fieldLink RX1 13 "SignTellerModel" "value" "[I", .fieldLink RX1 33 "SignTellerModel" "features" "I", .fieldLink RX1 23 "SignTellerModel" "mean" "[D", .fieldLink RX1 27 "SignTellerModel" "weight" "[D", .constantDouble RX1 59 (4606056518893174784), .constantDouble RX1 61 (4607745368753438720), .methodLink RX1 55 yX1_nearest, .instanceMethod yX1_nearest, .selects RX1 yX1_nearest yX1_nearest, .initialized RX1, .code yX1_nearest cX1_nearest 10 (some .int), .fieldLink RX1 19 "SignTellerModel" "has" "[Z", .methodLink RX1 51 yX1_distanceTo, .instanceMethod yX1_distanceTo, .selects RX1 yX1_distanceTo yX1_distanceTo, .code yX1_distanceTo cX1_distanceTo 7 (some .double), .methodLink RX1 47 yX1_size, .static yX1_size, .code yX1_size cX1_size 2 (some .double)] ++ wsX10)
def wsX1_make_r1 : List Cond := [Cond.fieldLink RX1 37 "SignTellerModel" "code" "I", Cond.fieldLink RX1 40 "SignTellerModel" "examples" "I", Cond.fieldLink RX1 30 "SignTellerModel" "confused" "[I", Cond.fieldLink RX1 7 "SignTellerModel" "cls" "[I", Cond.fieldLink RX1 13 "SignTellerModel" "value" "[I", Cond.fieldLink RX1 69 "SignTellerModel" "made" "Z", Cond.methodLink RX1 63 yX1_means, Cond.instanceMethod yX1_means, Cond.selects RX1 yX1_means yX1_means, Cond.initialized RX1, Cond.code yX1_means cX1_means 6 none, Cond.fieldLink RX1 19 "SignTellerModel" "has" "[Z", Cond.fieldLink RX1 23 "SignTellerModel" "mean" "[D", Cond.fieldLink RX1 27 "SignTellerModel" "weight" "[D", Cond.methodLink RX1 66 yX1_round, Cond.instanceMethod yX1_round, Cond.selects RX1 yX1_round yX1_round, Cond.code yX1_round cX1_round 9 none, Cond.fieldLink RX1 33 "SignTellerModel" "features" "I", Cond.constantDouble RX1 59 (4606056518893174784), Cond.constantDouble RX1 61 (4607745368753438720), Cond.methodLink RX1 55 yX1_nearest, Cond.instanceMethod yX1_nearest, Cond.selects RX1 yX1_nearest yX1_nearest]
def wsX1_make_r2 : List Cond := [Cond.code yX1_nearest cX1_nearest 10 (some .int), Cond.methodLink RX1 51 yX1_distanceTo, Cond.instanceMethod yX1_distanceTo, Cond.selects RX1 yX1_distanceTo yX1_distanceTo, Cond.code yX1_distanceTo cX1_distanceTo 7 (some .double), Cond.methodLink RX1 47 yX1_size, Cond.static yX1_size, Cond.code yX1_size cX1_size 2 (some .double)]
def wsX1_make : List Cond := .code yX1_make cX1_make 3 (some .int) :: ((wsX1_make_r1 ++ wsX1_make_r2) ++ wsX10)
def wsX1_ranked : List Cond := .code yX1_ranked cX1_ranked 3 (some .int) :: ([.fieldLink RX1 16 "SignTellerModel" "sign" "[I", .methodLink RX1 55 yX1_nearest, .instanceMethod yX1_nearest, .selects RX1 yX1_nearest yX1_nearest, .initialized RX1, .code yX1_nearest cX1_nearest 10 (some .int), .fieldLink RX1 19 "SignTellerModel" "has" "[Z", .methodLink RX1 51 yX1_distanceTo, .instanceMethod yX1_distanceTo, .selects RX1 yX1_distanceTo yX1_distanceTo, .code yX1_distanceTo cX1_distanceTo 7 (some .double), .fieldLink RX1 33 "SignTellerModel" "features" "I", .fieldLink RX1 27 "SignTellerModel" "weight" "[D", .fieldLink RX1 23 "SignTellerModel" "mean" "[D", .methodLink RX1 47 yX1_size, .static yX1_size, .code yX1_size cX1_size 2 (some .double)] ++ wsX10)
def wsX1_refusal : List Cond := .code yX1_refusal cX1_refusal 2 (some .int) :: ([.fieldLink RX1 69 "SignTellerModel" "made" "Z"] ++ wsX10)
def wsX1_tell_r1 : List Cond := [Cond.fieldLink RX1 37 "SignTellerModel" "code" "I", Cond.fieldLink RX1 33 "SignTellerModel" "features" "I", Cond.fieldLink RX1 16 "SignTellerModel" "sign" "[I", Cond.fieldLink RX1 80 "SignTellerModel" "margin" "I", Cond.methodLink RX1 73 yX1_refusal, Cond.instanceMethod yX1_refusal, Cond.selects RX1 yX1_refusal yX1_refusal, Cond.initialized RX1, Cond.code yX1_refusal cX1_refusal 2 (some .int), Cond.fieldLink RX1 69 "SignTellerModel" "made" "Z", Cond.methodLink RX1 77 yX1_ranked, Cond.instanceMethod yX1_ranked, Cond.selects RX1 yX1_ranked yX1_ranked, Cond.code yX1_ranked cX1_ranked 3 (some .int), Cond.methodLink RX1 55 yX1_nearest, Cond.instanceMethod yX1_nearest, Cond.selects RX1 yX1_nearest yX1_nearest, Cond.code yX1_nearest cX1_nearest 10 (some .int), Cond.fieldLink RX1 19 "SignTellerModel" "has" "[Z", Cond.methodLink RX1 51 yX1_distanceTo, Cond.instanceMethod yX1_distanceTo, Cond.selects RX1 yX1_distanceTo yX1_distanceTo, Cond.code yX1_distanceTo cX1_distanceTo 7 (some .double), Cond.fieldLink RX1 27 "SignTellerModel" "weight" "[D"]
def wsX1_tell_r2 : List Cond := [Cond.fieldLink RX1 23 "SignTellerModel" "mean" "[D", Cond.methodLink RX1 47 yX1_size, Cond.static yX1_size, Cond.code yX1_size cX1_size 2 (some .double)]
def wsX1_tell : List Cond := .code yX1_tell cX1_tell 5 (some .int) :: ((wsX1_tell_r1 ++ wsX1_tell_r2) ++ wsX10)
def wsX1_distance_r1 : List Cond := [Cond.fieldLink RX1 37 "SignTellerModel" "code" "I", Cond.constantLong RX1 83 (-1), Cond.fieldLink RX1 16 "SignTellerModel" "sign" "[I", Cond.constantDouble RX1 85 (4652007308841189376), Cond.methodLink RX1 73 yX1_refusal, Cond.instanceMethod yX1_refusal, Cond.selects RX1 yX1_refusal yX1_refusal, Cond.initialized RX1, Cond.code yX1_refusal cX1_refusal 2 (some .int), Cond.fieldLink RX1 69 "SignTellerModel" "made" "Z", Cond.methodLink RX1 77 yX1_ranked, Cond.instanceMethod yX1_ranked, Cond.selects RX1 yX1_ranked yX1_ranked, Cond.code yX1_ranked cX1_ranked 3 (some .int), Cond.methodLink RX1 55 yX1_nearest, Cond.instanceMethod yX1_nearest, Cond.selects RX1 yX1_nearest yX1_nearest, Cond.code yX1_nearest cX1_nearest 10 (some .int), Cond.fieldLink RX1 19 "SignTellerModel" "has" "[Z", Cond.methodLink RX1 51 yX1_distanceTo, Cond.instanceMethod yX1_distanceTo, Cond.selects RX1 yX1_distanceTo yX1_distanceTo, Cond.code yX1_distanceTo cX1_distanceTo 7 (some .double), Cond.fieldLink RX1 33 "SignTellerModel" "features" "I"]
def wsX1_distance_r2 : List Cond := [Cond.fieldLink RX1 27 "SignTellerModel" "weight" "[D", Cond.fieldLink RX1 23 "SignTellerModel" "mean" "[D", Cond.methodLink RX1 47 yX1_size, Cond.static yX1_size, Cond.code yX1_size cX1_size 2 (some .double)]
def wsX1_distance : List Cond := .code yX1_distance cX1_distance 3 (some .long) :: ((wsX1_distance_r1 ++ wsX1_distance_r2) ++ wsX10)
def wsX1_weight : List Cond := .code yX1_weight cX1_weight 3 (some .double) :: ([.fieldLink RX1 37 "SignTellerModel" "code" "I", .fieldLink RX1 69 "SignTellerModel" "made" "Z", .fieldLink RX1 27 "SignTellerModel" "weight" "[D", .methodLink RX1 43 yX1_isFeature, .instanceMethod yX1_isFeature, .selects RX1 yX1_isFeature yX1_isFeature, .initialized RX1, .code yX1_isFeature cX1_isFeature 2 (some .boolean), .fieldLink RX1 33 "SignTellerModel" "features" "I"] ++ wsX10)
def wsX1_confused : List Cond := .code yX1_confused cX1_confused 3 (some .int) :: ([.fieldLink RX1 37 "SignTellerModel" "code" "I", .fieldLink RX1 30 "SignTellerModel" "confused" "[I"] ++ wsX10)
def wsX1_margin : List Cond := .code yX1_margin cX1_margin 3 (some .int) :: ([.fieldLink RX1 37 "SignTellerModel" "code" "I", .constant RX1 87 (100000), .fieldLink RX1 80 "SignTellerModel" "margin" "I"] ++ wsX10)
def wsX1_clear : List Cond := .code yX1_clear cX1_clear 2 (some .int) :: ([.fieldLink RX1 37 "SignTellerModel" "code" "I", .fieldLink RX1 40 "SignTellerModel" "examples" "I"] ++ wsX10)
def wsJx00060_init_a7421 : List Cond := .code yJx00060_init_a7421 cJx00060_init_a7421 2 none :: ([])
def wsL_cell : List Cond := .code yL_cell cL_cell 2 (some .int) :: ([])
def wsL_feature : List Cond := .codeWith yL_feature cL_feature 5 (some .int) [(0, 7, 10, 13)] :: ([.methodLink RL 7 yX0_feature, .instanceMethod yX0_feature, .selects RX0 yX0_feature yX0_feature, .initialized RX0, .code yX0_feature cX0_feature 4 none, .fieldLink RX0 43 "SignTeller" "exampleCount" "I", .classLink RX0 49 RJx00060, .instantiable RJx00060 6, .initialized RJx00060, .fieldLink RX0 19 "SignTeller" "exampleValues" "[[I", .methodLink RX0 46 yX0_isFeature, .instanceMethod yX0_isFeature, .selects RX0 yX0_isFeature yX0_isFeature, .code yX0_isFeature cX0_isFeature 2 (some .boolean), .fieldLink RX0 7 "SignTeller" "featureCount" "I", .methodLink RX0 56 yX0_lowestByte, .static yX0_lowestByte, .code yX0_lowestByte cX0_lowestByte 1 (some .int)] ++ wsX00 ++ wsJx000600)
def wsL_make_r1 : List Cond := [Cond.classLink RL 19 "java/lang/ArithmeticException", Cond.methodLink RL 15 yX0_make, Cond.instanceMethod yX0_make, Cond.selects RX0 yX0_make yX0_make, Cond.initialized RX0, Cond.code yX0_make cX0_make 3 (some .int), Cond.classLink RX0 60 "java/lang/ArithmeticException", Cond.initialized "java/lang/ArithmeticException", Cond.fieldLink RX0 43 "SignTeller" "exampleCount" "I", Cond.fieldLink RX0 77 "SignTeller" "made" "Z", Cond.methodLink RX0 65 yX0_makeMeans, Cond.instanceMethod yX0_makeMeans, Cond.selects RX0 yX0_makeMeans yX0_makeMeans, Cond.code yX0_makeMeans cX0_makeMeans 4 none, Cond.fieldLink RX0 25 "SignTeller" "members" "[I", Cond.fieldLink RX0 7 "SignTeller" "featureCount" "I", Cond.fieldLink RX0 30 "SignTeller" "means" "[[D", Cond.fieldLink RX0 13 "SignTeller" "exampleClass" "[I", Cond.fieldLink RX0 19 "SignTeller" "exampleValues" "[[I", Cond.methodLink RX0 116 yX0_divideMeans, Cond.instanceMethod yX0_divideMeans, Cond.selects RX0 yX0_divideMeans yX0_divideMeans, Cond.code yX0_divideMeans cX0_divideMeans 5 none, Cond.methodLink RX0 68 yX0_makeFirstWeights]
def wsL_make_r2 : List Cond := [Cond.instanceMethod yX0_makeFirstWeights, Cond.selects RX0 yX0_makeFirstWeights yX0_makeFirstWeights, Cond.code yX0_makeFirstWeights cX0_makeFirstWeights 5 none, Cond.fieldLink RX0 33 "SignTeller" "weights" "[[D", Cond.methodLink RX0 71 yX0_goRound, Cond.instanceMethod yX0_goRound, Cond.selects RX0 yX0_goRound yX0_goRound, Cond.code yX0_goRound cX0_goRound 4 none, Cond.methodLink RX0 90 yX0_nearestClass, Cond.instanceMethod yX0_nearestClass, Cond.selects RX0 yX0_nearestClass yX0_nearestClass, Cond.code yX0_nearestClass cX0_nearestClass 9 (some .int), Cond.methodLink RX0 104 yX0_distanceTo, Cond.instanceMethod yX0_distanceTo, Cond.selects RX0 yX0_distanceTo yX0_distanceTo, Cond.code yX0_distanceTo cX0_distanceTo 6 (some .double), Cond.methodLink RX0 124 yX0_size, Cond.static yX0_size, Cond.code yX0_size cX0_size 2 (some .double), Cond.methodLink RX0 39 yX0_isClass, Cond.static yX0_isClass, Cond.code yX0_isClass cX0_isClass 1 (some .boolean), Cond.methodLink RX0 120 yX0_shiftWeights, Cond.instanceMethod yX0_shiftWeights]
def wsL_make_r3 : List Cond := [Cond.selects RX0 yX0_shiftWeights yX0_shiftWeights, Cond.code yX0_shiftWeights cX0_shiftWeights 9 none, Cond.constantDouble RX0 128 (4606056518893174784), Cond.constantDouble RX0 130 (4607745368753438720), Cond.methodLink RX0 74 yX0_countConfusions, Cond.instanceMethod yX0_countConfusions, Cond.selects RX0 yX0_countConfusions yX0_countConfusions, Cond.code yX0_countConfusions cX0_countConfusions 3 none, Cond.fieldLink RX0 36 "SignTeller" "confusions" "[[I"]
def wsL_make : List Cond := .codeWith yL_make cL_make 4 (some .int) [(0, 9, 12, 19)] :: ((wsL_make_r1 ++ (wsL_make_r2 ++ wsL_make_r3)) ++ wsX00 ++ (vx_atS RX0 64 "java/lang/ArithmeticException" ["java/lang/RuntimeException", "java/lang/Exception"]).filter goodWord)
def wsL_sign : List Cond := .codeWith yL_sign cL_sign 4 (some .int) [(0, 6, 9, 13)] :: ([.methodLink RL 21 yX0_sign, .instanceMethod yX0_sign, .selects RX0 yX0_sign yX0_sign, .initialized RX0, .code yX0_sign cX0_sign 3 none, .classLink RX0 49 RJx00060, .instantiable RJx00060 6, .initialized RJx00060, .fieldLink RX0 22 "SignTeller" "signValues" "[I", .methodLink RX0 46 yX0_isFeature, .instanceMethod yX0_isFeature, .selects RX0 yX0_isFeature yX0_isFeature, .code yX0_isFeature cX0_isFeature 2 (some .boolean), .fieldLink RX0 7 "SignTeller" "featureCount" "I", .methodLink RX0 56 yX0_lowestByte, .static yX0_lowestByte, .code yX0_lowestByte cX0_lowestByte 1 (some .int)] ++ wsJx000600 ++ wsX00)
def wsL_weight : List Cond := .codeWith yL_weight cL_weight 5 (some .int) [(0, 9, 12, 13)] :: ([.methodLink RL 25 yX0_weight, .instanceMethod yX0_weight, .selects RX0 yX0_weight yX0_weight, .initialized RX0, .code yX0_weight cX0_weight 3 (some .double), .classLink RX0 49 RJx00060, .instantiable RJx00060 6, .initialized RJx00060, .fieldLink RX0 33 "SignTeller" "weights" "[[D", .methodLink RX0 39 yX0_isClass, .static yX0_isClass, .code yX0_isClass cX0_isClass 1 (some .boolean), .methodLink RX0 46 yX0_isFeature, .instanceMethod yX0_isFeature, .selects RX0 yX0_isFeature yX0_isFeature, .code yX0_isFeature cX0_isFeature 2 (some .boolean), .fieldLink RX0 7 "SignTeller" "featureCount" "I"] ++ wsJx000600 ++ wsX00)
def wsL_law0_r1 : List Cond := [Cond.classLink RL 8 RX0, Cond.instantiable RX0 11, Cond.initialized RX0, Cond.classLink RL 38 RX1, Cond.instantiable RX1 12, Cond.initialized RX1, Cond.arrayClass .long, Cond.arrayClass .double, Cond.methodLink RL 29 yL_cell, Cond.static yL_cell, Cond.initialized RL, Cond.code yL_cell cL_cell 2 (some .int), Cond.methodLink RL 35 yX0_init, Cond.instanceMethod yX0_init, Cond.code yX0_init cX0_init 2 none, Cond.methodLink RX0 1 objectInit, Cond.instanceMethod objectInit, Cond.code objectInit ⟨#[0xb1]⟩ 1 none, Cond.fieldLink RX0 7 "SignTeller" "featureCount" "I", Cond.arrayClass .int, Cond.fieldLink RX0 13 "SignTeller" "exampleClass" "[I", Cond.classLink RX0 17 "[[I", Cond.fieldLink RX0 19 "SignTeller" "exampleValues" "[[I", Cond.fieldLink RX0 22 "SignTeller" "signValues" "[I"]
def wsL_law0_r2 : List Cond := [Cond.fieldLink RX0 25 "SignTeller" "members" "[I", Cond.classLink RX0 28 "[[D", Cond.fieldLink RX0 30 "SignTeller" "means" "[[D", Cond.fieldLink RX0 33 "SignTeller" "weights" "[[D", Cond.fieldLink RX0 36 "SignTeller" "confusions" "[[I", Cond.methodLink RL 40 yX1_init, Cond.instanceMethod yX1_init, Cond.code yX1_init cX1_init 2 none, Cond.methodLink RX1 1 objectInit, Cond.fieldLink RX1 7 "SignTellerModel" "cls" "[I", Cond.fieldLink RX1 13 "SignTellerModel" "value" "[I", Cond.fieldLink RX1 16 "SignTellerModel" "sign" "[I", Cond.arrayClass .boolean, Cond.fieldLink RX1 19 "SignTellerModel" "has" "[Z", Cond.fieldLink RX1 23 "SignTellerModel" "mean" "[D", Cond.fieldLink RX1 27 "SignTellerModel" "weight" "[D", Cond.fieldLink RX1 30 "SignTellerModel" "confused" "[I", Cond.fieldLink RX1 33 "SignTellerModel" "features" "I", Cond.methodLink RL 41 yX0_example, Cond.instanceMethod yX0_example, Cond.selects RX0 yX0_example yX0_example, Cond.code yX0_example cX0_example 4 (some .int), Cond.fieldLink RX0 43 "SignTeller" "exampleCount" "I", Cond.methodLink RX0 39 yX0_isClass]
def wsL_law0_r3 : List Cond := [Cond.static yX0_isClass, Cond.code yX0_isClass cX0_isClass 1 (some .boolean), Cond.methodLink RL 44 yX1_example, Cond.instanceMethod yX1_example, Cond.selects RX1 yX1_example yX1_example, Cond.code yX1_example cX1_example 3 (some .int), Cond.fieldLink RX1 37 "SignTellerModel" "code" "I", Cond.fieldLink RX1 40 "SignTellerModel" "examples" "I", Cond.methodLink RL 45 yL_feature, Cond.static yL_feature, Cond.codeWith yL_feature cL_feature 5 (some .int) [(0, 7, 10, 13)], Cond.methodLink RL 7 yX0_feature, Cond.instanceMethod yX0_feature, Cond.selects RX0 yX0_feature yX0_feature, Cond.code yX0_feature cX0_feature 4 none, Cond.classLink RX0 49 RJx00060, Cond.instantiable RJx00060 6, Cond.initialized RJx00060, Cond.methodLink RX0 46 yX0_isFeature, Cond.instanceMethod yX0_isFeature, Cond.selects RX0 yX0_isFeature yX0_isFeature, Cond.code yX0_isFeature cX0_isFeature 2 (some .boolean), Cond.methodLink RX0 56 yX0_lowestByte, Cond.static yX0_lowestByte]
def wsL_law0_r4 : List Cond := [Cond.code yX0_lowestByte cX0_lowestByte 1 (some .int), Cond.methodLink RL 48 yX1_feature, Cond.instanceMethod yX1_feature, Cond.selects RX1 yX1_feature yX1_feature, Cond.code yX1_feature cX1_feature 4 none, Cond.methodLink RX1 43 yX1_isFeature, Cond.instanceMethod yX1_isFeature, Cond.selects RX1 yX1_isFeature yX1_isFeature, Cond.code yX1_isFeature cX1_isFeature 2 (some .boolean), Cond.methodLink RL 49 yX1_thrown, Cond.instanceMethod yX1_thrown, Cond.selects RX1 yX1_thrown yX1_thrown, Cond.code yX1_thrown cX1_thrown 1 (some .int), Cond.methodLink RL 53 yL_make, Cond.static yL_make, Cond.codeWith yL_make cL_make 4 (some .int) [(0, 9, 12, 19)], Cond.classLink RL 19 "java/lang/ArithmeticException", Cond.methodLink RL 15 yX0_make, Cond.instanceMethod yX0_make, Cond.selects RX0 yX0_make yX0_make, Cond.code yX0_make cX0_make 3 (some .int), Cond.classLink RX0 60 "java/lang/ArithmeticException", Cond.initialized "java/lang/ArithmeticException", Cond.fieldLink RX0 77 "SignTeller" "made" "Z"]
def wsL_law0_r5 : List Cond := [Cond.methodLink RX0 65 yX0_makeMeans, Cond.instanceMethod yX0_makeMeans, Cond.selects RX0 yX0_makeMeans yX0_makeMeans, Cond.code yX0_makeMeans cX0_makeMeans 4 none, Cond.methodLink RX0 116 yX0_divideMeans, Cond.instanceMethod yX0_divideMeans, Cond.selects RX0 yX0_divideMeans yX0_divideMeans, Cond.code yX0_divideMeans cX0_divideMeans 5 none, Cond.methodLink RX0 68 yX0_makeFirstWeights, Cond.instanceMethod yX0_makeFirstWeights, Cond.selects RX0 yX0_makeFirstWeights yX0_makeFirstWeights, Cond.code yX0_makeFirstWeights cX0_makeFirstWeights 5 none, Cond.methodLink RX0 71 yX0_goRound, Cond.instanceMethod yX0_goRound, Cond.selects RX0 yX0_goRound yX0_goRound, Cond.code yX0_goRound cX0_goRound 4 none, Cond.methodLink RX0 90 yX0_nearestClass, Cond.instanceMethod yX0_nearestClass, Cond.selects RX0 yX0_nearestClass yX0_nearestClass, Cond.code yX0_nearestClass cX0_nearestClass 9 (some .int), Cond.methodLink RX0 104 yX0_distanceTo, Cond.instanceMethod yX0_distanceTo, Cond.selects RX0 yX0_distanceTo yX0_distanceTo, Cond.code yX0_distanceTo cX0_distanceTo 6 (some .double)]
def wsL_law0_r6 : List Cond := [Cond.methodLink RX0 124 yX0_size, Cond.static yX0_size, Cond.code yX0_size cX0_size 2 (some .double), Cond.methodLink RX0 120 yX0_shiftWeights, Cond.instanceMethod yX0_shiftWeights, Cond.selects RX0 yX0_shiftWeights yX0_shiftWeights, Cond.code yX0_shiftWeights cX0_shiftWeights 9 none, Cond.constantDouble RX0 128 (4606056518893174784), Cond.constantDouble RX0 130 (4607745368753438720), Cond.methodLink RX0 74 yX0_countConfusions, Cond.instanceMethod yX0_countConfusions, Cond.selects RX0 yX0_countConfusions yX0_countConfusions, Cond.code yX0_countConfusions cX0_countConfusions 3 none, Cond.methodLink RL 56 yX1_make, Cond.instanceMethod yX1_make, Cond.selects RX1 yX1_make yX1_make, Cond.code yX1_make cX1_make 3 (some .int), Cond.fieldLink RX1 69 "SignTellerModel" "made" "Z", Cond.methodLink RX1 63 yX1_means, Cond.instanceMethod yX1_means, Cond.selects RX1 yX1_means yX1_means, Cond.code yX1_means cX1_means 6 none, Cond.methodLink RX1 66 yX1_round, Cond.instanceMethod yX1_round]
def wsL_law0_r7 : List Cond := [Cond.selects RX1 yX1_round yX1_round, Cond.code yX1_round cX1_round 9 none, Cond.constantDouble RX1 59 (4606056518893174784), Cond.constantDouble RX1 61 (4607745368753438720), Cond.methodLink RX1 55 yX1_nearest, Cond.instanceMethod yX1_nearest, Cond.selects RX1 yX1_nearest yX1_nearest, Cond.code yX1_nearest cX1_nearest 10 (some .int), Cond.methodLink RX1 51 yX1_distanceTo, Cond.instanceMethod yX1_distanceTo, Cond.selects RX1 yX1_distanceTo yX1_distanceTo, Cond.code yX1_distanceTo cX1_distanceTo 7 (some .double), Cond.methodLink RX1 47 yX1_size, Cond.static yX1_size, Cond.code yX1_size cX1_size 2 (some .double), Cond.methodLink RL 57 yL_sign, Cond.static yL_sign, Cond.codeWith yL_sign cL_sign 4 (some .int) [(0, 6, 9, 13)], Cond.methodLink RL 21 yX0_sign, Cond.instanceMethod yX0_sign, Cond.selects RX0 yX0_sign yX0_sign, Cond.code yX0_sign cX0_sign 3 none, Cond.methodLink RL 60 yX1_sign, Cond.instanceMethod yX1_sign]
def wsL_law0_r8 : List Cond := [Cond.selects RX1 yX1_sign yX1_sign, Cond.code yX1_sign cX1_sign 3 none, Cond.methodLink RL 61 yX0_tell, Cond.instanceMethod yX0_tell, Cond.selects RX0 yX0_tell yX0_tell, Cond.code yX0_tell cX0_tell 4 (some .int), Cond.methodLink RX0 83 yX0_isRank, Cond.static yX0_isRank, Cond.code yX0_isRank cX0_isRank 1 (some .boolean), Cond.methodLink RX0 86 yX0_isSignBlank, Cond.instanceMethod yX0_isSignBlank, Cond.selects RX0 yX0_isSignBlank yX0_isSignBlank, Cond.code yX0_isSignBlank cX0_isSignBlank 2 (some .boolean), Cond.methodLink RX0 94 yX0_isTooClose, Cond.instanceMethod yX0_isTooClose, Cond.selects RX0 yX0_isTooClose yX0_isTooClose, Cond.code yX0_isTooClose cX0_isTooClose 5 (some .boolean), Cond.fieldLink RX0 113 "SignTeller" "leastLead" "I", Cond.methodLink RL 64 yX1_tell, Cond.instanceMethod yX1_tell, Cond.selects RX1 yX1_tell yX1_tell, Cond.code yX1_tell cX1_tell 5 (some .int), Cond.fieldLink RX1 80 "SignTellerModel" "margin" "I", Cond.methodLink RX1 73 yX1_refusal]
def wsL_law0_r9 : List Cond := [Cond.instanceMethod yX1_refusal, Cond.selects RX1 yX1_refusal yX1_refusal, Cond.code yX1_refusal cX1_refusal 2 (some .int), Cond.methodLink RX1 77 yX1_ranked, Cond.instanceMethod yX1_ranked, Cond.selects RX1 yX1_ranked yX1_ranked, Cond.code yX1_ranked cX1_ranked 3 (some .int), Cond.methodLink RL 65 yX0_distance, Cond.instanceMethod yX0_distance, Cond.selects RX0 yX0_distance yX0_distance, Cond.code yX0_distance cX0_distance 3 (some .long), Cond.constantLong RX0 98 (-12), Cond.constantLong RX0 100 (-13), Cond.constantLong RX0 102 (-1), Cond.constantDouble RX0 108 (4652007308841189376), Cond.methodLink RL 69 yX1_distance, Cond.instanceMethod yX1_distance, Cond.selects RX1 yX1_distance yX1_distance, Cond.code yX1_distance cX1_distance 3 (some .long), Cond.constantLong RX1 83 (-1), Cond.constantDouble RX1 85 (4652007308841189376), Cond.methodLink RL 70 yL_weight, Cond.static yL_weight, Cond.codeWith yL_weight cL_weight 5 (some .int) [(0, 9, 12, 13)]]
def wsL_law0_r10 : List Cond := [Cond.methodLink RL 25 yX0_weight, Cond.instanceMethod yX0_weight, Cond.selects RX0 yX0_weight yX0_weight, Cond.code yX0_weight cX0_weight 3 (some .double), Cond.methodLink RL 73 yX1_weight, Cond.instanceMethod yX1_weight, Cond.selects RX1 yX1_weight yX1_weight, Cond.code yX1_weight cX1_weight 3 (some .double), Cond.methodLink RL 74 yX0_confused, Cond.instanceMethod yX0_confused, Cond.selects RX0 yX0_confused yX0_confused, Cond.code yX0_confused cX0_confused 3 (some .int), Cond.methodLink RL 78 yX1_confused, Cond.instanceMethod yX1_confused, Cond.selects RX1 yX1_confused yX1_confused, Cond.code yX1_confused cX1_confused 3 (some .int), Cond.methodLink RL 79 yX0_margin, Cond.instanceMethod yX0_margin, Cond.selects RX0 yX0_margin yX0_margin, Cond.code yX0_margin cX0_margin 3 (some .int), Cond.constant RX0 112 (100000), Cond.methodLink RL 82 yX1_margin, Cond.instanceMethod yX1_margin, Cond.selects RX1 yX1_margin yX1_margin]
def wsL_law0_r11 : List Cond := [Cond.code yX1_margin cX1_margin 3 (some .int), Cond.constant RX1 87 (100000), Cond.methodLink RL 83 yX0_clear, Cond.instanceMethod yX0_clear, Cond.selects RX0 yX0_clear yX0_clear, Cond.code yX0_clear cX0_clear 2 (some .int), Cond.methodLink RL 86 yX1_clear, Cond.instanceMethod yX1_clear, Cond.selects RX1 yX1_clear yX1_clear, Cond.code yX1_clear cX1_clear 2 (some .int)]
def wsL_law0 : List Cond := (wsL_law0_r1 ++ (wsL_law0_r2 ++ (wsL_law0_r3 ++ (wsL_law0_r4 ++ (wsL_law0_r5 ++ (wsL_law0_r6 ++ (wsL_law0_r7 ++ (wsL_law0_r8 ++ (wsL_law0_r9 ++ (wsL_law0_r10 ++ wsL_law0_r11)))))))))) ++ wsX00 ++ wsX10 ++ wsJx000600 ++ ([] : List Cond)
def wsL_law : List Cond := wsL_law0 ++ (vx_atS RX0 64 "java/lang/ArithmeticException" ["java/lang/RuntimeException", "java/lang/Exception"]).filter goodWord
set_option maxRecDepth 20000 in
theorem wsL_law_in0 : ∀ w ∈ wsL_law0, w ∈ lw_tbl := fun w h => (goodIn_p wsL_law0 [132, 32, 35, 290, 79, 82, 337, 140, 144, 219, 341, 345, 333, 227, 247, 251, 255, 259, 97, 101, 104, 263, 269, 353, 357, 361, 365, 369, 372, 276, 349, 86, 89, 93, 108, 378, 382, 386, 112, 390, 284, 396, 120, 400, 124, 404, 129, 409] (by decide +kernel) (by decide +kernel) w h).1
theorem wsL_law_x0 : ∀ w ∈ (vx_atS RX0 64 "java/lang/ArithmeticException" ["java/lang/RuntimeException", "java/lang/Exception"]).filter goodWord, w ∈ lw_tbl := by decide +kernel
theorem wsL_law_in : ∀ w ∈ wsL_law, w ∈ lw_tbl := fun w h => (List.mem_append.mp h).elim (fun h => wsL_law_in0 w h) (fun h => wsL_law_x0 w h)
theorem inlX0 : ∀ w ∈ wsX00, w ∈ wsL_law := fun _ h => List.mem_append_left _ (List.mem_append_left _ (List.mem_append_left _ (List.mem_append_left _ (List.mem_append_right _ h))))
theorem inX0 : ∀ w ∈ wsX00, w ∈ lw_tbl := fun w h => wsL_law_in w (inlX0 w h)
theorem inlX1 : ∀ w ∈ wsX10, w ∈ wsL_law := fun _ h => List.mem_append_left _ (List.mem_append_left _ (List.mem_append_left _ (List.mem_append_right _ h)))
theorem inX1 : ∀ w ∈ wsX10, w ∈ lw_tbl := fun w h => wsL_law_in w (inlX1 w h)
theorem inlJx00060 : ∀ w ∈ wsJx000600, w ∈ wsL_law := fun _ h => List.mem_append_left _ (List.mem_append_left _ (List.mem_append_right _ h))
theorem inJx00060 : ∀ w ∈ wsJx000600, w ∈ lw_tbl := fun w h => wsL_law_in w (inlJx00060 w h)
theorem inJ0 : ∀ w ∈ wsJ00, w ∈ lw_tbl := by decide +kernel
theorem dX0_init_0 : decode cX0_init 0 = .ok (.aload_n 0, 1) := by decide +kernel
theorem dX0_init_1 : decode cX0_init 1 = .ok (.invokespecial 1, 3) := by decide +kernel
theorem dX0_init_4 : decode cX0_init 4 = .ok (.aload_n 0, 1) := by decide +kernel
theorem dX0_init_5 : decode cX0_init 5 = .ok (.iconst 1, 1) := by decide +kernel
theorem dX0_init_6 : decode cX0_init 6 = .ok (.iload_n 1, 1) := by decide +kernel
theorem dX0_init_7 : decode cX0_init 7 = .ok (.bipush 15, 2) := by decide +kernel
theorem dX0_init_9 : decode cX0_init 9 = .ok (.iand, 1) := by decide +kernel
theorem dX0_init_10 : decode cX0_init 10 = .ok (.iadd, 1) := by decide +kernel
theorem dX0_init_11 : decode cX0_init 11 = .ok (.putfield 7, 3) := by decide +kernel
theorem dX0_init_14 : decode cX0_init 14 = .ok (.aload_n 0, 1) := by decide +kernel
theorem dX0_init_15 : decode cX0_init 15 = .ok (.bipush 40, 2) := by decide +kernel
theorem dX0_init_17 : decode cX0_init 17 = .ok (.newarray .int, 2) := by decide +kernel
theorem dX0_init_19 : decode cX0_init 19 = .ok (.putfield 13, 3) := by decide +kernel
theorem dX0_init_22 : decode cX0_init 22 = .ok (.aload_n 0, 1) := by decide +kernel
theorem dX0_init_23 : decode cX0_init 23 = .ok (.bipush 40, 2) := by decide +kernel
theorem dX0_init_25 : decode cX0_init 25 = .ok (.aload_n 0, 1) := by decide +kernel
theorem dX0_init_26 : decode cX0_init 26 = .ok (.getfield 7, 3) := by decide +kernel
theorem dX0_init_29 : decode cX0_init 29 = .ok (.multianewarray 17 2, 4) := by decide +kernel
theorem dX0_init_33 : decode cX0_init 33 = .ok (.putfield 19, 3) := by decide +kernel
theorem dX0_init_36 : decode cX0_init 36 = .ok (.aload_n 0, 1) := by decide +kernel
theorem dX0_init_37 : decode cX0_init 37 = .ok (.aload_n 0, 1) := by decide +kernel
theorem dX0_init_38 : decode cX0_init 38 = .ok (.getfield 7, 3) := by decide +kernel
theorem dX0_init_41 : decode cX0_init 41 = .ok (.newarray .int, 2) := by decide +kernel
theorem dX0_init_43 : decode cX0_init 43 = .ok (.putfield 22, 3) := by decide +kernel
theorem dX0_init_46 : decode cX0_init 46 = .ok (.aload_n 0, 1) := by decide +kernel
theorem dX0_init_47 : decode cX0_init 47 = .ok (.bipush 16, 2) := by decide +kernel
theorem dX0_init_49 : decode cX0_init 49 = .ok (.newarray .int, 2) := by decide +kernel
theorem dX0_init_51 : decode cX0_init 51 = .ok (.putfield 25, 3) := by decide +kernel
theorem dX0_init_54 : decode cX0_init 54 = .ok (.aload_n 0, 1) := by decide +kernel
theorem dX0_init_55 : decode cX0_init 55 = .ok (.bipush 16, 2) := by decide +kernel
theorem dX0_init_57 : decode cX0_init 57 = .ok (.aload_n 0, 1) := by decide +kernel
theorem dX0_init_58 : decode cX0_init 58 = .ok (.getfield 7, 3) := by decide +kernel
theorem dX0_init_61 : decode cX0_init 61 = .ok (.multianewarray 28 2, 4) := by decide +kernel
theorem dX0_init_65 : decode cX0_init 65 = .ok (.putfield 30, 3) := by decide +kernel
theorem dX0_init_68 : decode cX0_init 68 = .ok (.aload_n 0, 1) := by decide +kernel
theorem dX0_init_69 : decode cX0_init 69 = .ok (.bipush 16, 2) := by decide +kernel
theorem dX0_init_71 : decode cX0_init 71 = .ok (.aload_n 0, 1) := by decide +kernel
theorem dX0_init_72 : decode cX0_init 72 = .ok (.getfield 7, 3) := by decide +kernel
theorem dX0_init_75 : decode cX0_init 75 = .ok (.multianewarray 28 2, 4) := by decide +kernel
theorem dX0_init_79 : decode cX0_init 79 = .ok (.putfield 33, 3) := by decide +kernel
theorem dX0_init_82 : decode cX0_init 82 = .ok (.aload_n 0, 1) := by decide +kernel
theorem dX0_init_83 : decode cX0_init 83 = .ok (.bipush 16, 2) := by decide +kernel
theorem dX0_init_85 : decode cX0_init 85 = .ok (.bipush 16, 2) := by decide +kernel
theorem dX0_init_87 : decode cX0_init 87 = .ok (.multianewarray 17 2, 4) := by decide +kernel
theorem dX0_init_91 : decode cX0_init 91 = .ok (.putfield 36, 3) := by decide +kernel
theorem dX0_init_94 : decode cX0_init 94 = .ok (.return_, 1) := by decide +kernel
set_option maxRecDepth 20000 in
theorem ggX0_example_X0_isClass : GoodIn wsX0_example wsX0_isClass := goodIn_r _ [8] (by decide +kernel) (by decide +kernel)
set_option maxRecDepth 20000 in
theorem gX0_example_X0_isClass : GoodIn wsX0_example (va_wsS RX0 39 yX0_isClass wsX0_isClass) := goodIn_app (goodIn_of _ (by decide +kernel)) ggX0_example_X0_isClass
theorem dX0_example_0 : decode cX0_example 0 = .ok (.iload_n 1, 1) := by decide +kernel
theorem dX0_example_1 : decode cX0_example 1 = .ok (.invokestatic 39, 3) := by decide +kernel
theorem dX0_example_4 : decode cX0_example 4 = .ok (.ifCond .ne 6, 3) := by decide +kernel
theorem dX0_example_7 : decode cX0_example 7 = .ok (.bipush (-12), 2) := by decide +kernel
theorem dX0_example_9 : decode cX0_example 9 = .ok (.ireturn, 1) := by decide +kernel
theorem dX0_example_10 : decode cX0_example 10 = .ok (.aload_n 0, 1) := by decide +kernel
theorem dX0_example_11 : decode cX0_example 11 = .ok (.getfield 43, 3) := by decide +kernel
theorem dX0_example_14 : decode cX0_example 14 = .ok (.bipush 40, 2) := by decide +kernel
theorem dX0_example_16 : decode cX0_example 16 = .ok (.if_icmp .lt 6, 3) := by decide +kernel
theorem dX0_example_19 : decode cX0_example 19 = .ok (.bipush (-14), 2) := by decide +kernel
theorem dX0_example_21 : decode cX0_example 21 = .ok (.ireturn, 1) := by decide +kernel
theorem dX0_example_22 : decode cX0_example 22 = .ok (.aload_n 0, 1) := by decide +kernel
theorem dX0_example_23 : decode cX0_example 23 = .ok (.getfield 43, 3) := by decide +kernel
theorem dX0_example_26 : decode cX0_example 26 = .ok (.istore_n 2, 1) := by decide +kernel
theorem dX0_example_27 : decode cX0_example 27 = .ok (.aload_n 0, 1) := by decide +kernel
theorem dX0_example_28 : decode cX0_example 28 = .ok (.getfield 13, 3) := by decide +kernel
theorem dX0_example_31 : decode cX0_example 31 = .ok (.iload_n 2, 1) := by decide +kernel
theorem dX0_example_32 : decode cX0_example 32 = .ok (.iload_n 1, 1) := by decide +kernel
theorem dX0_example_33 : decode cX0_example 33 = .ok (.iastore, 1) := by decide +kernel
theorem dX0_example_34 : decode cX0_example 34 = .ok (.iconst 0, 1) := by decide +kernel
theorem dX0_example_35 : decode cX0_example 35 = .ok (.istore_n 3, 1) := by decide +kernel
theorem dX0_example_36 : decode cX0_example 36 = .ok (.iload_n 3, 1) := by decide +kernel
theorem dX0_example_37 : decode cX0_example 37 = .ok (.aload_n 0, 1) := by decide +kernel
theorem dX0_example_38 : decode cX0_example 38 = .ok (.getfield 7, 3) := by decide +kernel
theorem dX0_example_41 : decode cX0_example 41 = .ok (.if_icmp .ge 18, 3) := by decide +kernel
theorem dX0_example_44 : decode cX0_example 44 = .ok (.aload_n 0, 1) := by decide +kernel
theorem dX0_example_45 : decode cX0_example 45 = .ok (.getfield 19, 3) := by decide +kernel
theorem dX0_example_48 : decode cX0_example 48 = .ok (.iload_n 2, 1) := by decide +kernel
theorem dX0_example_49 : decode cX0_example 49 = .ok (.aaload, 1) := by decide +kernel
theorem dX0_example_50 : decode cX0_example 50 = .ok (.iload_n 3, 1) := by decide +kernel
theorem dX0_example_51 : decode cX0_example 51 = .ok (.iconst 0, 1) := by decide +kernel
theorem dX0_example_52 : decode cX0_example 52 = .ok (.iastore, 1) := by decide +kernel
theorem dX0_example_53 : decode cX0_example 53 = .ok (.iinc 3 1, 3) := by decide +kernel
theorem dX0_example_56 : decode cX0_example 56 = .ok (.goto (-20), 3) := by decide +kernel
theorem dX0_example_59 : decode cX0_example 59 = .ok (.aload_n 0, 1) := by decide +kernel
theorem dX0_example_60 : decode cX0_example 60 = .ok (.iload_n 2, 1) := by decide +kernel
theorem dX0_example_61 : decode cX0_example 61 = .ok (.iconst 1, 1) := by decide +kernel
theorem dX0_example_62 : decode cX0_example 62 = .ok (.iadd, 1) := by decide +kernel
theorem dX0_example_63 : decode cX0_example 63 = .ok (.putfield 43, 3) := by decide +kernel
theorem dX0_example_66 : decode cX0_example 66 = .ok (.iload_n 2, 1) := by decide +kernel
theorem dX0_example_67 : decode cX0_example 67 = .ok (.ireturn, 1) := by decide +kernel
set_option maxRecDepth 20000 in
theorem ggX0_feature_X0_isFeature : GoodIn wsX0_feature wsX0_isFeature := goodIn_r _ [10, 11, 15, 16, 17, 18, 19, 20, 21, 22, 23, 24, 25] (by decide +kernel) (by decide +kernel)
set_option maxRecDepth 20000 in
theorem gX0_feature_X0_isFeature : GoodIn wsX0_feature (wsV RX0 46 RX0 yX0_isFeature wsX0_isFeature) := goodIn_app (goodIn_of _ (by decide +kernel)) ggX0_feature_X0_isFeature
set_option maxRecDepth 20000 in
theorem ggX0_feature_X0_lowestByte : GoodIn wsX0_feature wsX0_lowestByte := goodIn_r _ [14] (by decide +kernel) (by decide +kernel)
set_option maxRecDepth 20000 in
theorem gX0_feature_X0_lowestByte : GoodIn wsX0_feature (va_wsS RX0 56 yX0_lowestByte wsX0_lowestByte) := goodIn_app (goodIn_of _ (by decide +kernel)) ggX0_feature_X0_lowestByte
theorem dX0_feature_0 : decode cX0_feature 0 = .ok (.iload_n 1, 1) := by decide +kernel
theorem dX0_feature_1 : decode cX0_feature 1 = .ok (.ifCond .lt 19, 3) := by decide +kernel
theorem dX0_feature_4 : decode cX0_feature 4 = .ok (.iload_n 1, 1) := by decide +kernel
theorem dX0_feature_5 : decode cX0_feature 5 = .ok (.aload_n 0, 1) := by decide +kernel
theorem dX0_feature_6 : decode cX0_feature 6 = .ok (.getfield 43, 3) := by decide +kernel
theorem dX0_feature_9 : decode cX0_feature 9 = .ok (.if_icmp .ge 11, 3) := by decide +kernel
theorem dX0_feature_12 : decode cX0_feature 12 = .ok (.aload_n 0, 1) := by decide +kernel
theorem dX0_feature_13 : decode cX0_feature 13 = .ok (.iload_n 2, 1) := by decide +kernel
theorem dX0_feature_14 : decode cX0_feature 14 = .ok (.invokevirtual 46, 3) := by decide +kernel
theorem dX0_feature_17 : decode cX0_feature 17 = .ok (.ifCond .ne 13, 3) := by decide +kernel
theorem dX0_feature_20 : decode cX0_feature 20 = .ok (.new 49, 3) := by decide +kernel
theorem dX0_feature_23 : decode cX0_feature 23 = .ok (.dup, 1) := by decide +kernel
theorem dX0_feature_24 : decode cX0_feature 24 = .ok (.ldc 51, 2) := by decide +kernel
theorem dX0_feature_26 : decode cX0_feature 26 = .ok (.invokespecial 53, 3) := by decide +kernel
theorem dX0_feature_29 : decode cX0_feature 29 = .ok (.athrow, 1) := by decide +kernel
theorem dX0_feature_30 : decode cX0_feature 30 = .ok (.aload_n 0, 1) := by decide +kernel
theorem dX0_feature_31 : decode cX0_feature 31 = .ok (.getfield 19, 3) := by decide +kernel
theorem dX0_feature_34 : decode cX0_feature 34 = .ok (.iload_n 1, 1) := by decide +kernel
theorem dX0_feature_35 : decode cX0_feature 35 = .ok (.aaload, 1) := by decide +kernel
theorem dX0_feature_36 : decode cX0_feature 36 = .ok (.iload_n 2, 1) := by decide +kernel
theorem dX0_feature_37 : decode cX0_feature 37 = .ok (.iload_n 3, 1) := by decide +kernel
theorem dX0_feature_38 : decode cX0_feature 38 = .ok (.invokestatic 56, 3) := by decide +kernel
theorem dX0_feature_41 : decode cX0_feature 41 = .ok (.iastore, 1) := by decide +kernel
theorem dX0_feature_42 : decode cX0_feature 42 = .ok (.return_, 1) := by decide +kernel
set_option maxRecDepth 20000 in
theorem ggX0_make_X0_makeMeans : GoodIn wsX0_make wsX0_makeMeans := goodIn_r _ [9, 10, 11, 12, 3, 13, 14, 15, 16, 17, 8, 18, 53, 54, 55, 56, 57, 58, 59, 60, 61, 62, 63] (by decide +kernel) (by decide +kernel)
set_option maxRecDepth 20000 in
theorem gX0_make_X0_makeMeans : GoodIn wsX0_make (wsV RX0 65 RX0 yX0_makeMeans wsX0_makeMeans) := goodIn_app (goodIn_of _ (by decide +kernel)) ggX0_make_X0_makeMeans
set_option maxRecDepth 20000 in
theorem ggX0_make_X0_makeFirstWeights : GoodIn wsX0_make wsX0_makeFirstWeights := goodIn_r _ [22, 10, 11, 23, 53, 54, 55, 56, 57, 58, 59, 60, 61, 62, 63] (by decide +kernel) (by decide +kernel)
set_option maxRecDepth 20000 in
theorem gX0_make_X0_makeFirstWeights : GoodIn wsX0_make (wsV RX0 68 RX0 yX0_makeFirstWeights wsX0_makeFirstWeights) := goodIn_app (goodIn_of _ (by decide +kernel)) ggX0_make_X0_makeFirstWeights
set_option maxRecDepth 20000 in
theorem ggX0_make_X0_goRound : GoodIn wsX0_make wsX0_goRound := goodIn_r _ [27, 3, 13, 14, 28, 29, 30, 8, 31, 10, 32, 33, 34, 35, 11, 23, 12, 36, 37, 38, 39, 40, 41, 42, 43, 44, 45, 46, 47, 53, 54, 55, 56, 57, 58, 59, 60, 61, 62, 63] (by decide +kernel) (by decide +kernel)
set_option maxRecDepth 20000 in
theorem gX0_make_X0_goRound : GoodIn wsX0_make (wsV RX0 71 RX0 yX0_goRound wsX0_goRound) := goodIn_app (goodIn_of _ (by decide +kernel)) ggX0_make_X0_goRound
set_option maxRecDepth 20000 in
theorem ggX0_make_X0_countConfusions : GoodIn wsX0_make wsX0_countConfusions := goodIn_r _ [51, 52, 3, 14, 13, 28, 29, 30, 8, 31, 10, 32, 33, 34, 35, 11, 23, 12, 36, 37, 38, 39, 40, 41, 53, 54, 55, 56, 57, 58, 59, 60, 61, 62, 63] (by decide +kernel) (by decide +kernel)
set_option maxRecDepth 20000 in
theorem gX0_make_X0_countConfusions : GoodIn wsX0_make (wsV RX0 74 RX0 yX0_countConfusions wsX0_countConfusions) := goodIn_app (goodIn_of _ (by decide +kernel)) ggX0_make_X0_countConfusions
theorem dX0_make_0 : decode cX0_make 0 = .ok (.iload_n 1, 1) := by decide +kernel
theorem dX0_make_1 : decode cX0_make 1 = .ok (.ifCond .lt 9, 3) := by decide +kernel
theorem dX0_make_4 : decode cX0_make 4 = .ok (.iload_n 1, 1) := by decide +kernel
theorem dX0_make_5 : decode cX0_make 5 = .ok (.bipush 20, 2) := by decide +kernel
theorem dX0_make_7 : decode cX0_make 7 = .ok (.if_icmp .le 6, 3) := by decide +kernel
theorem dX0_make_10 : decode cX0_make 10 = .ok (.bipush (-12), 2) := by decide +kernel
theorem dX0_make_12 : decode cX0_make 12 = .ok (.ireturn, 1) := by decide +kernel
theorem dX0_make_13 : decode cX0_make 13 = .ok (.aload_n 0, 1) := by decide +kernel
theorem dX0_make_14 : decode cX0_make 14 = .ok (.getfield 43, 3) := by decide +kernel
theorem dX0_make_17 : decode cX0_make 17 = .ok (.ifCond .ne 13, 3) := by decide +kernel
theorem dX0_make_20 : decode cX0_make 20 = .ok (.new 60, 3) := by decide +kernel
theorem dX0_make_23 : decode cX0_make 23 = .ok (.dup, 1) := by decide +kernel
theorem dX0_make_24 : decode cX0_make 24 = .ok (.ldc 62, 2) := by decide +kernel
theorem dX0_make_26 : decode cX0_make 26 = .ok (.invokespecial 64, 3) := by decide +kernel
theorem dX0_make_29 : decode cX0_make 29 = .ok (.athrow, 1) := by decide +kernel
theorem dX0_make_30 : decode cX0_make 30 = .ok (.aload_n 0, 1) := by decide +kernel
theorem dX0_make_31 : decode cX0_make 31 = .ok (.invokevirtual 65, 3) := by decide +kernel
theorem dX0_make_34 : decode cX0_make 34 = .ok (.aload_n 0, 1) := by decide +kernel
theorem dX0_make_35 : decode cX0_make 35 = .ok (.invokevirtual 68, 3) := by decide +kernel
theorem dX0_make_38 : decode cX0_make 38 = .ok (.iconst 0, 1) := by decide +kernel
theorem dX0_make_39 : decode cX0_make 39 = .ok (.istore_n 2, 1) := by decide +kernel
theorem dX0_make_40 : decode cX0_make 40 = .ok (.iload_n 2, 1) := by decide +kernel
theorem dX0_make_41 : decode cX0_make 41 = .ok (.iload_n 1, 1) := by decide +kernel
theorem dX0_make_42 : decode cX0_make 42 = .ok (.if_icmp .ge 13, 3) := by decide +kernel
theorem dX0_make_45 : decode cX0_make 45 = .ok (.aload_n 0, 1) := by decide +kernel
theorem dX0_make_46 : decode cX0_make 46 = .ok (.invokevirtual 71, 3) := by decide +kernel
theorem dX0_make_49 : decode cX0_make 49 = .ok (.iinc 2 1, 3) := by decide +kernel
theorem dX0_make_52 : decode cX0_make 52 = .ok (.goto (-12), 3) := by decide +kernel
theorem dX0_make_55 : decode cX0_make 55 = .ok (.aload_n 0, 1) := by decide +kernel
theorem dX0_make_56 : decode cX0_make 56 = .ok (.invokevirtual 74, 3) := by decide +kernel
theorem dX0_make_59 : decode cX0_make 59 = .ok (.aload_n 0, 1) := by decide +kernel
theorem dX0_make_60 : decode cX0_make 60 = .ok (.iconst 1, 1) := by decide +kernel
theorem dX0_make_61 : decode cX0_make 61 = .ok (.putfield 77, 3) := by decide +kernel
theorem dX0_make_64 : decode cX0_make 64 = .ok (.iconst 1, 1) := by decide +kernel
theorem dX0_make_65 : decode cX0_make 65 = .ok (.ireturn, 1) := by decide +kernel
set_option maxRecDepth 20000 in
theorem ggX0_sign_X0_isFeature : GoodIn wsX0_sign wsX0_isFeature := goodIn_r _ [9, 10, 20, 21, 22, 23, 24, 25, 26, 27, 28, 29, 30] (by decide +kernel) (by decide +kernel)
set_option maxRecDepth 20000 in
theorem gX0_sign_X0_isFeature : GoodIn wsX0_sign (wsV RX0 46 RX0 yX0_isFeature wsX0_isFeature) := goodIn_app (goodIn_of _ (by decide +kernel)) ggX0_sign_X0_isFeature
set_option maxRecDepth 20000 in
theorem ggX0_sign_X0_lowestByte : GoodIn wsX0_sign wsX0_lowestByte := goodIn_r _ [13] (by decide +kernel) (by decide +kernel)
set_option maxRecDepth 20000 in
theorem gX0_sign_X0_lowestByte : GoodIn wsX0_sign (va_wsS RX0 56 yX0_lowestByte wsX0_lowestByte) := goodIn_app (goodIn_of _ (by decide +kernel)) ggX0_sign_X0_lowestByte
theorem dX0_sign_0 : decode cX0_sign 0 = .ok (.aload_n 0, 1) := by decide +kernel
theorem dX0_sign_1 : decode cX0_sign 1 = .ok (.iload_n 1, 1) := by decide +kernel
theorem dX0_sign_2 : decode cX0_sign 2 = .ok (.invokevirtual 46, 3) := by decide +kernel
theorem dX0_sign_5 : decode cX0_sign 5 = .ok (.ifCond .ne 13, 3) := by decide +kernel
theorem dX0_sign_8 : decode cX0_sign 8 = .ok (.new 49, 3) := by decide +kernel
theorem dX0_sign_11 : decode cX0_sign 11 = .ok (.dup, 1) := by decide +kernel
theorem dX0_sign_12 : decode cX0_sign 12 = .ok (.ldc 81, 2) := by decide +kernel
theorem dX0_sign_14 : decode cX0_sign 14 = .ok (.invokespecial 53, 3) := by decide +kernel
theorem dX0_sign_17 : decode cX0_sign 17 = .ok (.athrow, 1) := by decide +kernel
theorem dX0_sign_18 : decode cX0_sign 18 = .ok (.aload_n 0, 1) := by decide +kernel
theorem dX0_sign_19 : decode cX0_sign 19 = .ok (.getfield 22, 3) := by decide +kernel
theorem dX0_sign_22 : decode cX0_sign 22 = .ok (.iload_n 1, 1) := by decide +kernel
theorem dX0_sign_23 : decode cX0_sign 23 = .ok (.iload_n 2, 1) := by decide +kernel
theorem dX0_sign_24 : decode cX0_sign 24 = .ok (.invokestatic 56, 3) := by decide +kernel
theorem dX0_sign_27 : decode cX0_sign 27 = .ok (.iastore, 1) := by decide +kernel
theorem dX0_sign_28 : decode cX0_sign 28 = .ok (.return_, 1) := by decide +kernel
set_option maxRecDepth 20000 in
theorem ggX0_tell_X0_isRank : GoodIn wsX0_tell wsX0_isRank := goodIn_r _ [6] (by decide +kernel) (by decide +kernel)
set_option maxRecDepth 20000 in
theorem gX0_tell_X0_isRank : GoodIn wsX0_tell (va_wsS RX0 83 yX0_isRank wsX0_isRank) := goodIn_app (goodIn_of _ (by decide +kernel)) ggX0_tell_X0_isRank
set_option maxRecDepth 20000 in
theorem ggX0_tell_X0_isSignBlank : GoodIn wsX0_tell wsX0_isSignBlank := goodIn_r _ [10, 11, 2, 34, 35, 36, 37, 38, 39, 40, 41, 42, 43, 44] (by decide +kernel) (by decide +kernel)
set_option maxRecDepth 20000 in
theorem gX0_tell_X0_isSignBlank : GoodIn wsX0_tell (wsV RX0 86 RX0 yX0_isSignBlank wsX0_isSignBlank) := goodIn_app (goodIn_of _ (by decide +kernel)) ggX0_tell_X0_isSignBlank
set_option maxRecDepth 20000 in
theorem ggX0_tell_X0_nearestClass : GoodIn wsX0_tell wsX0_nearestClass := goodIn_r _ [15, 16, 17, 18, 19, 5, 20, 11, 21, 22, 23, 24, 25, 34, 35, 36, 37, 38, 39, 40, 41, 42, 43, 44] (by decide +kernel) (by decide +kernel)
set_option maxRecDepth 20000 in
theorem gX0_tell_X0_nearestClass : GoodIn wsX0_tell (wsV RX0 90 RX0 yX0_nearestClass wsX0_nearestClass) := goodIn_app (goodIn_of _ (by decide +kernel)) ggX0_tell_X0_nearestClass
set_option maxRecDepth 20000 in
theorem ggX0_tell_X0_isTooClose : GoodIn wsX0_tell wsX0_isTooClose := goodIn_r _ [29, 2, 30, 31, 32, 5, 33, 17, 18, 19, 20, 11, 21, 22, 23, 24, 25, 34, 35, 36, 37, 38, 39, 40, 41, 42, 43, 44] (by decide +kernel) (by decide +kernel)
set_option maxRecDepth 20000 in
theorem gX0_tell_X0_isTooClose : GoodIn wsX0_tell (wsV RX0 94 RX0 yX0_isTooClose wsX0_isTooClose) := goodIn_app (goodIn_of _ (by decide +kernel)) ggX0_tell_X0_isTooClose
theorem dX0_tell_0 : decode cX0_tell 0 = .ok (.iload_n 1, 1) := by decide +kernel
theorem dX0_tell_1 : decode cX0_tell 1 = .ok (.invokestatic 83, 3) := by decide +kernel
theorem dX0_tell_4 : decode cX0_tell 4 = .ok (.ifCond .ne 6, 3) := by decide +kernel
theorem dX0_tell_7 : decode cX0_tell 7 = .ok (.bipush (-12), 2) := by decide +kernel
theorem dX0_tell_9 : decode cX0_tell 9 = .ok (.ireturn, 1) := by decide +kernel
theorem dX0_tell_10 : decode cX0_tell 10 = .ok (.aload_n 0, 1) := by decide +kernel
theorem dX0_tell_11 : decode cX0_tell 11 = .ok (.getfield 77, 3) := by decide +kernel
theorem dX0_tell_14 : decode cX0_tell 14 = .ok (.ifCond .ne 6, 3) := by decide +kernel
theorem dX0_tell_17 : decode cX0_tell 17 = .ok (.bipush (-13), 2) := by decide +kernel
theorem dX0_tell_19 : decode cX0_tell 19 = .ok (.ireturn, 1) := by decide +kernel
theorem dX0_tell_20 : decode cX0_tell 20 = .ok (.aload_n 0, 1) := by decide +kernel
theorem dX0_tell_21 : decode cX0_tell 21 = .ok (.invokevirtual 86, 3) := by decide +kernel
theorem dX0_tell_24 : decode cX0_tell 24 = .ok (.ifCond .eq 6, 3) := by decide +kernel
theorem dX0_tell_27 : decode cX0_tell 27 = .ok (.bipush (-3), 2) := by decide +kernel
theorem dX0_tell_29 : decode cX0_tell 29 = .ok (.ireturn, 1) := by decide +kernel
theorem dX0_tell_30 : decode cX0_tell 30 = .ok (.aload_n 0, 1) := by decide +kernel
theorem dX0_tell_31 : decode cX0_tell 31 = .ok (.aload_n 0, 1) := by decide +kernel
theorem dX0_tell_32 : decode cX0_tell 32 = .ok (.getfield 22, 3) := by decide +kernel
theorem dX0_tell_35 : decode cX0_tell 35 = .ok (.iconst (-1), 1) := by decide +kernel
theorem dX0_tell_36 : decode cX0_tell 36 = .ok (.invokevirtual 90, 3) := by decide +kernel
theorem dX0_tell_39 : decode cX0_tell 39 = .ok (.istore_n 2, 1) := by decide +kernel
theorem dX0_tell_40 : decode cX0_tell 40 = .ok (.aload_n 0, 1) := by decide +kernel
theorem dX0_tell_41 : decode cX0_tell 41 = .ok (.aload_n 0, 1) := by decide +kernel
theorem dX0_tell_42 : decode cX0_tell 42 = .ok (.getfield 22, 3) := by decide +kernel
theorem dX0_tell_45 : decode cX0_tell 45 = .ok (.iload_n 2, 1) := by decide +kernel
theorem dX0_tell_46 : decode cX0_tell 46 = .ok (.invokevirtual 90, 3) := by decide +kernel
theorem dX0_tell_49 : decode cX0_tell 49 = .ok (.istore_n 3, 1) := by decide +kernel
theorem dX0_tell_50 : decode cX0_tell 50 = .ok (.aload_n 0, 1) := by decide +kernel
theorem dX0_tell_51 : decode cX0_tell 51 = .ok (.iload_n 2, 1) := by decide +kernel
theorem dX0_tell_52 : decode cX0_tell 52 = .ok (.iload_n 3, 1) := by decide +kernel
theorem dX0_tell_53 : decode cX0_tell 53 = .ok (.invokevirtual 94, 3) := by decide +kernel
theorem dX0_tell_56 : decode cX0_tell 56 = .ok (.ifCond .eq 6, 3) := by decide +kernel
theorem dX0_tell_59 : decode cX0_tell 59 = .ok (.bipush (-2), 2) := by decide +kernel
theorem dX0_tell_61 : decode cX0_tell 61 = .ok (.ireturn, 1) := by decide +kernel
theorem dX0_tell_62 : decode cX0_tell 62 = .ok (.iload_n 1, 1) := by decide +kernel
theorem dX0_tell_63 : decode cX0_tell 63 = .ok (.ifCond .ne 7, 3) := by decide +kernel
theorem dX0_tell_66 : decode cX0_tell 66 = .ok (.iload_n 2, 1) := by decide +kernel
theorem dX0_tell_67 : decode cX0_tell 67 = .ok (.goto 4, 3) := by decide +kernel
theorem dX0_tell_70 : decode cX0_tell 70 = .ok (.iload_n 3, 1) := by decide +kernel
theorem dX0_tell_71 : decode cX0_tell 71 = .ok (.ireturn, 1) := by decide +kernel
set_option maxRecDepth 20000 in
theorem ggX0_distance_X0_isRank : GoodIn wsX0_distance wsX0_isRank := goodIn_r _ [10] (by decide +kernel) (by decide +kernel)
set_option maxRecDepth 20000 in
theorem gX0_distance_X0_isRank : GoodIn wsX0_distance (va_wsS RX0 83 yX0_isRank wsX0_isRank) := goodIn_app (goodIn_of _ (by decide +kernel)) ggX0_distance_X0_isRank
set_option maxRecDepth 20000 in
theorem ggX0_distance_X0_nearestClass : GoodIn wsX0_distance wsX0_nearestClass := goodIn_r _ [14, 15, 16, 17, 18, 9, 19, 20, 21, 22, 23, 24, 25, 29, 30, 31, 32, 33, 34, 35, 36, 37, 38, 39] (by decide +kernel) (by decide +kernel)
set_option maxRecDepth 20000 in
theorem gX0_distance_X0_nearestClass : GoodIn wsX0_distance (wsV RX0 90 RX0 yX0_nearestClass wsX0_nearestClass) := goodIn_app (goodIn_of _ (by decide +kernel)) ggX0_distance_X0_nearestClass
set_option maxRecDepth 20000 in
theorem ggX0_distance_X0_isClass : GoodIn wsX0_distance wsX0_isClass := goodIn_r _ [28] (by decide +kernel) (by decide +kernel)
set_option maxRecDepth 20000 in
theorem gX0_distance_X0_isClass : GoodIn wsX0_distance (va_wsS RX0 39 yX0_isClass wsX0_isClass) := goodIn_app (goodIn_of _ (by decide +kernel)) ggX0_distance_X0_isClass
set_option maxRecDepth 20000 in
theorem ggX0_distance_X0_distanceTo : GoodIn wsX0_distance wsX0_distanceTo := goodIn_r _ [19, 20, 21, 22, 23, 24, 9, 25, 29, 30, 31, 32, 33, 34, 35, 36, 37, 38, 39] (by decide +kernel) (by decide +kernel)
set_option maxRecDepth 20000 in
theorem gX0_distance_X0_distanceTo : GoodIn wsX0_distance (wsV RX0 104 RX0 yX0_distanceTo wsX0_distanceTo) := goodIn_app (goodIn_of _ (by decide +kernel)) ggX0_distance_X0_distanceTo
theorem dX0_distance_0 : decode cX0_distance 0 = .ok (.iload_n 1, 1) := by decide +kernel
theorem dX0_distance_1 : decode cX0_distance 1 = .ok (.invokestatic 83, 3) := by decide +kernel
theorem dX0_distance_4 : decode cX0_distance 4 = .ok (.ifCond .ne 7, 3) := by decide +kernel
theorem dX0_distance_7 : decode cX0_distance 7 = .ok (.ldc2_w 98, 3) := by decide +kernel
theorem dX0_distance_10 : decode cX0_distance 10 = .ok (.lreturn, 1) := by decide +kernel
theorem dX0_distance_11 : decode cX0_distance 11 = .ok (.aload_n 0, 1) := by decide +kernel
theorem dX0_distance_12 : decode cX0_distance 12 = .ok (.getfield 77, 3) := by decide +kernel
theorem dX0_distance_15 : decode cX0_distance 15 = .ok (.ifCond .ne 7, 3) := by decide +kernel
theorem dX0_distance_18 : decode cX0_distance 18 = .ok (.ldc2_w 100, 3) := by decide +kernel
theorem dX0_distance_21 : decode cX0_distance 21 = .ok (.lreturn, 1) := by decide +kernel
theorem dX0_distance_22 : decode cX0_distance 22 = .ok (.aload_n 0, 1) := by decide +kernel
theorem dX0_distance_23 : decode cX0_distance 23 = .ok (.aload_n 0, 1) := by decide +kernel
theorem dX0_distance_24 : decode cX0_distance 24 = .ok (.getfield 22, 3) := by decide +kernel
theorem dX0_distance_27 : decode cX0_distance 27 = .ok (.iconst (-1), 1) := by decide +kernel
theorem dX0_distance_28 : decode cX0_distance 28 = .ok (.invokevirtual 90, 3) := by decide +kernel
theorem dX0_distance_31 : decode cX0_distance 31 = .ok (.istore_n 2, 1) := by decide +kernel
theorem dX0_distance_32 : decode cX0_distance 32 = .ok (.iload_n 1, 1) := by decide +kernel
theorem dX0_distance_33 : decode cX0_distance 33 = .ok (.iconst 1, 1) := by decide +kernel
theorem dX0_distance_34 : decode cX0_distance 34 = .ok (.if_icmp .ne 13, 3) := by decide +kernel
theorem dX0_distance_37 : decode cX0_distance 37 = .ok (.aload_n 0, 1) := by decide +kernel
theorem dX0_distance_38 : decode cX0_distance 38 = .ok (.aload_n 0, 1) := by decide +kernel
theorem dX0_distance_39 : decode cX0_distance 39 = .ok (.getfield 22, 3) := by decide +kernel
theorem dX0_distance_42 : decode cX0_distance 42 = .ok (.iload_n 2, 1) := by decide +kernel
theorem dX0_distance_43 : decode cX0_distance 43 = .ok (.invokevirtual 90, 3) := by decide +kernel
theorem dX0_distance_46 : decode cX0_distance 46 = .ok (.istore_n 2, 1) := by decide +kernel
theorem dX0_distance_47 : decode cX0_distance 47 = .ok (.iload_n 2, 1) := by decide +kernel
theorem dX0_distance_48 : decode cX0_distance 48 = .ok (.invokestatic 39, 3) := by decide +kernel
theorem dX0_distance_51 : decode cX0_distance 51 = .ok (.ifCond .ne 7, 3) := by decide +kernel
theorem dX0_distance_54 : decode cX0_distance 54 = .ok (.ldc2_w 102, 3) := by decide +kernel
theorem dX0_distance_57 : decode cX0_distance 57 = .ok (.lreturn, 1) := by decide +kernel
theorem dX0_distance_58 : decode cX0_distance 58 = .ok (.aload_n 0, 1) := by decide +kernel
theorem dX0_distance_59 : decode cX0_distance 59 = .ok (.iload_n 2, 1) := by decide +kernel
theorem dX0_distance_60 : decode cX0_distance 60 = .ok (.aload_n 0, 1) := by decide +kernel
theorem dX0_distance_61 : decode cX0_distance 61 = .ok (.getfield 22, 3) := by decide +kernel
theorem dX0_distance_64 : decode cX0_distance 64 = .ok (.invokevirtual 104, 3) := by decide +kernel
theorem dX0_distance_67 : decode cX0_distance 67 = .ok (.ldc2_w 108, 3) := by decide +kernel
theorem dX0_distance_70 : decode cX0_distance 70 = .ok (.dmul, 1) := by decide +kernel
theorem dX0_distance_71 : decode cX0_distance 71 = .ok (.d2l, 1) := by decide +kernel
theorem dX0_distance_72 : decode cX0_distance 72 = .ok (.lreturn, 1) := by decide +kernel
set_option maxRecDepth 20000 in
theorem ggX0_weight_X0_isClass : GoodIn wsX0_weight wsX0_isClass := goodIn_r _ [8] (by decide +kernel) (by decide +kernel)
set_option maxRecDepth 20000 in
theorem gX0_weight_X0_isClass : GoodIn wsX0_weight (va_wsS RX0 39 yX0_isClass wsX0_isClass) := goodIn_app (goodIn_of _ (by decide +kernel)) ggX0_weight_X0_isClass
set_option maxRecDepth 20000 in
theorem ggX0_weight_X0_isFeature : GoodIn wsX0_weight wsX0_isFeature := goodIn_r _ [12, 13, 20, 21, 22, 23, 24, 25, 26, 27, 28, 29, 30] (by decide +kernel) (by decide +kernel)
set_option maxRecDepth 20000 in
theorem gX0_weight_X0_isFeature : GoodIn wsX0_weight (wsV RX0 46 RX0 yX0_isFeature wsX0_isFeature) := goodIn_app (goodIn_of _ (by decide +kernel)) ggX0_weight_X0_isFeature
theorem dX0_weight_0 : decode cX0_weight 0 = .ok (.iload_n 1, 1) := by decide +kernel
theorem dX0_weight_1 : decode cX0_weight 1 = .ok (.invokestatic 39, 3) := by decide +kernel
theorem dX0_weight_4 : decode cX0_weight 4 = .ok (.ifCond .eq 11, 3) := by decide +kernel
theorem dX0_weight_7 : decode cX0_weight 7 = .ok (.aload_n 0, 1) := by decide +kernel
theorem dX0_weight_8 : decode cX0_weight 8 = .ok (.iload_n 2, 1) := by decide +kernel
theorem dX0_weight_9 : decode cX0_weight 9 = .ok (.invokevirtual 46, 3) := by decide +kernel
theorem dX0_weight_12 : decode cX0_weight 12 = .ok (.ifCond .ne 13, 3) := by decide +kernel
theorem dX0_weight_15 : decode cX0_weight 15 = .ok (.new 49, 3) := by decide +kernel
theorem dX0_weight_18 : decode cX0_weight 18 = .ok (.dup, 1) := by decide +kernel
theorem dX0_weight_19 : decode cX0_weight 19 = .ok (.ldc 110, 2) := by decide +kernel
theorem dX0_weight_21 : decode cX0_weight 21 = .ok (.invokespecial 53, 3) := by decide +kernel
theorem dX0_weight_24 : decode cX0_weight 24 = .ok (.athrow, 1) := by decide +kernel
theorem dX0_weight_25 : decode cX0_weight 25 = .ok (.aload_n 0, 1) := by decide +kernel
theorem dX0_weight_26 : decode cX0_weight 26 = .ok (.getfield 33, 3) := by decide +kernel
theorem dX0_weight_29 : decode cX0_weight 29 = .ok (.iload_n 1, 1) := by decide +kernel
theorem dX0_weight_30 : decode cX0_weight 30 = .ok (.aaload, 1) := by decide +kernel
theorem dX0_weight_31 : decode cX0_weight 31 = .ok (.iload_n 2, 1) := by decide +kernel
theorem dX0_weight_32 : decode cX0_weight 32 = .ok (.daload, 1) := by decide +kernel
theorem dX0_weight_33 : decode cX0_weight 33 = .ok (.dreturn, 1) := by decide +kernel
set_option maxRecDepth 20000 in
theorem ggX0_confused_X0_isClass : GoodIn wsX0_confused wsX0_isClass := goodIn_r _ [5] (by decide +kernel) (by decide +kernel)
set_option maxRecDepth 20000 in
theorem gX0_confused_X0_isClass : GoodIn wsX0_confused (va_wsS RX0 39 yX0_isClass wsX0_isClass) := goodIn_app (goodIn_of _ (by decide +kernel)) ggX0_confused_X0_isClass
theorem dX0_confused_0 : decode cX0_confused 0 = .ok (.iload_n 1, 1) := by decide +kernel
theorem dX0_confused_1 : decode cX0_confused 1 = .ok (.invokestatic 39, 3) := by decide +kernel
theorem dX0_confused_4 : decode cX0_confused 4 = .ok (.ifCond .eq 10, 3) := by decide +kernel
theorem dX0_confused_7 : decode cX0_confused 7 = .ok (.iload_n 2, 1) := by decide +kernel
theorem dX0_confused_8 : decode cX0_confused 8 = .ok (.invokestatic 39, 3) := by decide +kernel
theorem dX0_confused_11 : decode cX0_confused 11 = .ok (.ifCond .ne 6, 3) := by decide +kernel
theorem dX0_confused_14 : decode cX0_confused 14 = .ok (.bipush (-12), 2) := by decide +kernel
theorem dX0_confused_16 : decode cX0_confused 16 = .ok (.ireturn, 1) := by decide +kernel
theorem dX0_confused_17 : decode cX0_confused 17 = .ok (.aload_n 0, 1) := by decide +kernel
theorem dX0_confused_18 : decode cX0_confused 18 = .ok (.getfield 36, 3) := by decide +kernel
theorem dX0_confused_21 : decode cX0_confused 21 = .ok (.iload_n 1, 1) := by decide +kernel
theorem dX0_confused_22 : decode cX0_confused 22 = .ok (.aaload, 1) := by decide +kernel
theorem dX0_confused_23 : decode cX0_confused 23 = .ok (.iload_n 2, 1) := by decide +kernel
theorem dX0_confused_24 : decode cX0_confused 24 = .ok (.iaload, 1) := by decide +kernel
theorem dX0_confused_25 : decode cX0_confused 25 = .ok (.ireturn, 1) := by decide +kernel
theorem dX0_margin_0 : decode cX0_margin 0 = .ok (.iload_n 1, 1) := by decide +kernel
theorem dX0_margin_1 : decode cX0_margin 1 = .ok (.ifCond .lt 9, 3) := by decide +kernel
theorem dX0_margin_4 : decode cX0_margin 4 = .ok (.iload_n 1, 1) := by decide +kernel
theorem dX0_margin_5 : decode cX0_margin 5 = .ok (.ldc 112, 2) := by decide +kernel
theorem dX0_margin_7 : decode cX0_margin 7 = .ok (.if_icmp .le 6, 3) := by decide +kernel
theorem dX0_margin_10 : decode cX0_margin 10 = .ok (.bipush (-12), 2) := by decide +kernel
theorem dX0_margin_12 : decode cX0_margin 12 = .ok (.ireturn, 1) := by decide +kernel
theorem dX0_margin_13 : decode cX0_margin 13 = .ok (.aload_n 0, 1) := by decide +kernel
theorem dX0_margin_14 : decode cX0_margin 14 = .ok (.getfield 113, 3) := by decide +kernel
theorem dX0_margin_17 : decode cX0_margin 17 = .ok (.istore_n 2, 1) := by decide +kernel
theorem dX0_margin_18 : decode cX0_margin 18 = .ok (.aload_n 0, 1) := by decide +kernel
theorem dX0_margin_19 : decode cX0_margin 19 = .ok (.iload_n 1, 1) := by decide +kernel
theorem dX0_margin_20 : decode cX0_margin 20 = .ok (.putfield 113, 3) := by decide +kernel
theorem dX0_margin_23 : decode cX0_margin 23 = .ok (.iload_n 2, 1) := by decide +kernel
theorem dX0_margin_24 : decode cX0_margin 24 = .ok (.ireturn, 1) := by decide +kernel
theorem dX0_clear_0 : decode cX0_clear 0 = .ok (.aload_n 0, 1) := by decide +kernel
theorem dX0_clear_1 : decode cX0_clear 1 = .ok (.getfield 43, 3) := by decide +kernel
theorem dX0_clear_4 : decode cX0_clear 4 = .ok (.istore_n 1, 1) := by decide +kernel
theorem dX0_clear_5 : decode cX0_clear 5 = .ok (.aload_n 0, 1) := by decide +kernel
theorem dX0_clear_6 : decode cX0_clear 6 = .ok (.iconst 0, 1) := by decide +kernel
theorem dX0_clear_7 : decode cX0_clear 7 = .ok (.putfield 43, 3) := by decide +kernel
theorem dX0_clear_10 : decode cX0_clear 10 = .ok (.iload_n 1, 1) := by decide +kernel
theorem dX0_clear_11 : decode cX0_clear 11 = .ok (.ireturn, 1) := by decide +kernel
theorem dX0_isClass_0 : decode cX0_isClass 0 = .ok (.iload_n 0, 1) := by decide +kernel
theorem dX0_isClass_1 : decode cX0_isClass 1 = .ok (.ifCond .lt 13, 3) := by decide +kernel
theorem dX0_isClass_4 : decode cX0_isClass 4 = .ok (.iload_n 0, 1) := by decide +kernel
theorem dX0_isClass_5 : decode cX0_isClass 5 = .ok (.bipush 16, 2) := by decide +kernel
theorem dX0_isClass_7 : decode cX0_isClass 7 = .ok (.if_icmp .ge 7, 3) := by decide +kernel
theorem dX0_isClass_10 : decode cX0_isClass 10 = .ok (.iconst 1, 1) := by decide +kernel
theorem dX0_isClass_11 : decode cX0_isClass 11 = .ok (.goto 4, 3) := by decide +kernel
theorem dX0_isClass_14 : decode cX0_isClass 14 = .ok (.iconst 0, 1) := by decide +kernel
theorem dX0_isClass_15 : decode cX0_isClass 15 = .ok (.ireturn, 1) := by decide +kernel
theorem dX0_isRank_0 : decode cX0_isRank 0 = .ok (.iload_n 0, 1) := by decide +kernel
theorem dX0_isRank_1 : decode cX0_isRank 1 = .ok (.ifCond .eq 8, 3) := by decide +kernel
theorem dX0_isRank_4 : decode cX0_isRank 4 = .ok (.iload_n 0, 1) := by decide +kernel
theorem dX0_isRank_5 : decode cX0_isRank 5 = .ok (.iconst 1, 1) := by decide +kernel
theorem dX0_isRank_6 : decode cX0_isRank 6 = .ok (.if_icmp .ne 7, 3) := by decide +kernel
theorem dX0_isRank_9 : decode cX0_isRank 9 = .ok (.iconst 1, 1) := by decide +kernel
theorem dX0_isRank_10 : decode cX0_isRank 10 = .ok (.goto 4, 3) := by decide +kernel
theorem dX0_isRank_13 : decode cX0_isRank 13 = .ok (.iconst 0, 1) := by decide +kernel
theorem dX0_isRank_14 : decode cX0_isRank 14 = .ok (.ireturn, 1) := by decide +kernel
theorem dX0_isFeature_0 : decode cX0_isFeature 0 = .ok (.iload_n 1, 1) := by decide +kernel
theorem dX0_isFeature_1 : decode cX0_isFeature 1 = .ok (.ifCond .lt 15, 3) := by decide +kernel
theorem dX0_isFeature_4 : decode cX0_isFeature 4 = .ok (.iload_n 1, 1) := by decide +kernel
theorem dX0_isFeature_5 : decode cX0_isFeature 5 = .ok (.aload_n 0, 1) := by decide +kernel
theorem dX0_isFeature_6 : decode cX0_isFeature 6 = .ok (.getfield 7, 3) := by decide +kernel
theorem dX0_isFeature_9 : decode cX0_isFeature 9 = .ok (.if_icmp .ge 7, 3) := by decide +kernel
theorem dX0_isFeature_12 : decode cX0_isFeature 12 = .ok (.iconst 1, 1) := by decide +kernel
theorem dX0_isFeature_13 : decode cX0_isFeature 13 = .ok (.goto 4, 3) := by decide +kernel
theorem dX0_isFeature_16 : decode cX0_isFeature 16 = .ok (.iconst 0, 1) := by decide +kernel
theorem dX0_isFeature_17 : decode cX0_isFeature 17 = .ok (.ireturn, 1) := by decide +kernel
theorem dX0_lowestByte_0 : decode cX0_lowestByte 0 = .ok (.iload_n 0, 1) := by decide +kernel
theorem dX0_lowestByte_1 : decode cX0_lowestByte 1 = .ok (.sipush 255, 3) := by decide +kernel
theorem dX0_lowestByte_4 : decode cX0_lowestByte 4 = .ok (.iand, 1) := by decide +kernel
theorem dX0_lowestByte_5 : decode cX0_lowestByte 5 = .ok (.ireturn, 1) := by decide +kernel
theorem dX0_size_0 : decode cX0_size 0 = .ok (.dload_n 0, 1) := by decide +kernel
theorem dX0_size_1 : decode cX0_size 1 = .ok (.dconst 0, 1) := by decide +kernel
theorem dX0_size_2 : decode cX0_size 2 = .ok (.dcmp .g, 1) := by decide +kernel
theorem dX0_size_3 : decode cX0_size 3 = .ok (.ifCond .ge 8, 3) := by decide +kernel
theorem dX0_size_6 : decode cX0_size 6 = .ok (.dload_n 0, 1) := by decide +kernel
theorem dX0_size_7 : decode cX0_size 7 = .ok (.dneg, 1) := by decide +kernel
theorem dX0_size_8 : decode cX0_size 8 = .ok (.goto 4, 3) := by decide +kernel
theorem dX0_size_11 : decode cX0_size 11 = .ok (.dload_n 0, 1) := by decide +kernel
theorem dX0_size_12 : decode cX0_size 12 = .ok (.dreturn, 1) := by decide +kernel
set_option maxRecDepth 20000 in
theorem ggX0_makeMeans_X0_divideMeans : GoodIn wsX0_makeMeans wsX0_divideMeans := goodIn_r _ [11, 1, 2, 3, 12, 13, 14, 15, 16, 17, 18, 19, 20, 21, 22] (by decide +kernel) (by decide +kernel)
set_option maxRecDepth 20000 in
theorem gX0_makeMeans_X0_divideMeans : GoodIn wsX0_makeMeans (wsV RX0 116 RX0 yX0_divideMeans wsX0_divideMeans) := goodIn_app (goodIn_of _ (by decide +kernel)) ggX0_makeMeans_X0_divideMeans
theorem dX0_makeMeans_0 : decode cX0_makeMeans 0 = .ok (.iconst 0, 1) := by decide +kernel
theorem dX0_makeMeans_1 : decode cX0_makeMeans 1 = .ok (.istore_n 1, 1) := by decide +kernel
theorem dX0_makeMeans_2 : decode cX0_makeMeans 2 = .ok (.iload_n 1, 1) := by decide +kernel
theorem dX0_makeMeans_3 : decode cX0_makeMeans 3 = .ok (.bipush 16, 2) := by decide +kernel
theorem dX0_makeMeans_5 : decode cX0_makeMeans 5 = .ok (.if_icmp .ge 41, 3) := by decide +kernel
theorem dX0_makeMeans_8 : decode cX0_makeMeans 8 = .ok (.aload_n 0, 1) := by decide +kernel
theorem dX0_makeMeans_9 : decode cX0_makeMeans 9 = .ok (.getfield 25, 3) := by decide +kernel
theorem dX0_makeMeans_12 : decode cX0_makeMeans 12 = .ok (.iload_n 1, 1) := by decide +kernel
theorem dX0_makeMeans_13 : decode cX0_makeMeans 13 = .ok (.iconst 0, 1) := by decide +kernel
theorem dX0_makeMeans_14 : decode cX0_makeMeans 14 = .ok (.iastore, 1) := by decide +kernel
theorem dX0_makeMeans_15 : decode cX0_makeMeans 15 = .ok (.iconst 0, 1) := by decide +kernel
theorem dX0_makeMeans_16 : decode cX0_makeMeans 16 = .ok (.istore_n 2, 1) := by decide +kernel
theorem dX0_makeMeans_17 : decode cX0_makeMeans 17 = .ok (.iload_n 2, 1) := by decide +kernel
theorem dX0_makeMeans_18 : decode cX0_makeMeans 18 = .ok (.aload_n 0, 1) := by decide +kernel
theorem dX0_makeMeans_19 : decode cX0_makeMeans 19 = .ok (.getfield 7, 3) := by decide +kernel
theorem dX0_makeMeans_22 : decode cX0_makeMeans 22 = .ok (.if_icmp .ge 18, 3) := by decide +kernel
theorem dX0_makeMeans_25 : decode cX0_makeMeans 25 = .ok (.aload_n 0, 1) := by decide +kernel
theorem dX0_makeMeans_26 : decode cX0_makeMeans 26 = .ok (.getfield 30, 3) := by decide +kernel
theorem dX0_makeMeans_29 : decode cX0_makeMeans 29 = .ok (.iload_n 1, 1) := by decide +kernel
theorem dX0_makeMeans_30 : decode cX0_makeMeans 30 = .ok (.aaload, 1) := by decide +kernel
theorem dX0_makeMeans_31 : decode cX0_makeMeans 31 = .ok (.iload_n 2, 1) := by decide +kernel
theorem dX0_makeMeans_32 : decode cX0_makeMeans 32 = .ok (.dconst 0, 1) := by decide +kernel
theorem dX0_makeMeans_33 : decode cX0_makeMeans 33 = .ok (.dastore, 1) := by decide +kernel
theorem dX0_makeMeans_34 : decode cX0_makeMeans 34 = .ok (.iinc 2 1, 3) := by decide +kernel
theorem dX0_makeMeans_37 : decode cX0_makeMeans 37 = .ok (.goto (-20), 3) := by decide +kernel
theorem dX0_makeMeans_40 : decode cX0_makeMeans 40 = .ok (.iinc 1 1, 3) := by decide +kernel
theorem dX0_makeMeans_43 : decode cX0_makeMeans 43 = .ok (.goto (-41), 3) := by decide +kernel
theorem dX0_makeMeans_46 : decode cX0_makeMeans 46 = .ok (.iconst 0, 1) := by decide +kernel
theorem dX0_makeMeans_47 : decode cX0_makeMeans 47 = .ok (.istore_n 1, 1) := by decide +kernel
theorem dX0_makeMeans_48 : decode cX0_makeMeans 48 = .ok (.iload_n 1, 1) := by decide +kernel
theorem dX0_makeMeans_49 : decode cX0_makeMeans 49 = .ok (.aload_n 0, 1) := by decide +kernel
theorem dX0_makeMeans_50 : decode cX0_makeMeans 50 = .ok (.getfield 43, 3) := by decide +kernel
theorem dX0_makeMeans_53 : decode cX0_makeMeans 53 = .ok (.if_icmp .ge 62, 3) := by decide +kernel
theorem dX0_makeMeans_56 : decode cX0_makeMeans 56 = .ok (.aload_n 0, 1) := by decide +kernel
theorem dX0_makeMeans_57 : decode cX0_makeMeans 57 = .ok (.getfield 13, 3) := by decide +kernel
theorem dX0_makeMeans_60 : decode cX0_makeMeans 60 = .ok (.iload_n 1, 1) := by decide +kernel
theorem dX0_makeMeans_61 : decode cX0_makeMeans 61 = .ok (.iaload, 1) := by decide +kernel
theorem dX0_makeMeans_62 : decode cX0_makeMeans 62 = .ok (.istore_n 2, 1) := by decide +kernel
theorem dX0_makeMeans_63 : decode cX0_makeMeans 63 = .ok (.aload_n 0, 1) := by decide +kernel
theorem dX0_makeMeans_64 : decode cX0_makeMeans 64 = .ok (.getfield 25, 3) := by decide +kernel
theorem dX0_makeMeans_67 : decode cX0_makeMeans 67 = .ok (.iload_n 2, 1) := by decide +kernel
theorem dX0_makeMeans_68 : decode cX0_makeMeans 68 = .ok (.dup2, 1) := by decide +kernel
theorem dX0_makeMeans_69 : decode cX0_makeMeans 69 = .ok (.iaload, 1) := by decide +kernel
theorem dX0_makeMeans_70 : decode cX0_makeMeans 70 = .ok (.iconst 1, 1) := by decide +kernel
theorem dX0_makeMeans_71 : decode cX0_makeMeans 71 = .ok (.iadd, 1) := by decide +kernel
theorem dX0_makeMeans_72 : decode cX0_makeMeans 72 = .ok (.iastore, 1) := by decide +kernel
theorem dX0_makeMeans_73 : decode cX0_makeMeans 73 = .ok (.iconst 0, 1) := by decide +kernel
theorem dX0_makeMeans_74 : decode cX0_makeMeans 74 = .ok (.istore_n 3, 1) := by decide +kernel
theorem dX0_makeMeans_75 : decode cX0_makeMeans 75 = .ok (.iload_n 3, 1) := by decide +kernel
theorem dX0_makeMeans_76 : decode cX0_makeMeans 76 = .ok (.aload_n 0, 1) := by decide +kernel
theorem dX0_makeMeans_77 : decode cX0_makeMeans 77 = .ok (.getfield 7, 3) := by decide +kernel
theorem dX0_makeMeans_80 : decode cX0_makeMeans 80 = .ok (.if_icmp .ge 29, 3) := by decide +kernel
theorem dX0_makeMeans_83 : decode cX0_makeMeans 83 = .ok (.aload_n 0, 1) := by decide +kernel
theorem dX0_makeMeans_84 : decode cX0_makeMeans 84 = .ok (.getfield 30, 3) := by decide +kernel
theorem dX0_makeMeans_87 : decode cX0_makeMeans 87 = .ok (.iload_n 2, 1) := by decide +kernel
theorem dX0_makeMeans_88 : decode cX0_makeMeans 88 = .ok (.aaload, 1) := by decide +kernel
theorem dX0_makeMeans_89 : decode cX0_makeMeans 89 = .ok (.iload_n 3, 1) := by decide +kernel
theorem dX0_makeMeans_90 : decode cX0_makeMeans 90 = .ok (.dup2, 1) := by decide +kernel
theorem dX0_makeMeans_91 : decode cX0_makeMeans 91 = .ok (.daload, 1) := by decide +kernel
theorem dX0_makeMeans_92 : decode cX0_makeMeans 92 = .ok (.aload_n 0, 1) := by decide +kernel
theorem dX0_makeMeans_93 : decode cX0_makeMeans 93 = .ok (.getfield 19, 3) := by decide +kernel
theorem dX0_makeMeans_96 : decode cX0_makeMeans 96 = .ok (.iload_n 1, 1) := by decide +kernel
theorem dX0_makeMeans_97 : decode cX0_makeMeans 97 = .ok (.aaload, 1) := by decide +kernel
theorem dX0_makeMeans_98 : decode cX0_makeMeans 98 = .ok (.iload_n 3, 1) := by decide +kernel
theorem dX0_makeMeans_99 : decode cX0_makeMeans 99 = .ok (.iaload, 1) := by decide +kernel
theorem dX0_makeMeans_100 : decode cX0_makeMeans 100 = .ok (.i2d, 1) := by decide +kernel
theorem dX0_makeMeans_101 : decode cX0_makeMeans 101 = .ok (.dadd, 1) := by decide +kernel
theorem dX0_makeMeans_102 : decode cX0_makeMeans 102 = .ok (.dastore, 1) := by decide +kernel
theorem dX0_makeMeans_103 : decode cX0_makeMeans 103 = .ok (.iinc 3 1, 3) := by decide +kernel
theorem dX0_makeMeans_106 : decode cX0_makeMeans 106 = .ok (.goto (-31), 3) := by decide +kernel
theorem dX0_makeMeans_109 : decode cX0_makeMeans 109 = .ok (.iinc 1 1, 3) := by decide +kernel
theorem dX0_makeMeans_112 : decode cX0_makeMeans 112 = .ok (.goto (-64), 3) := by decide +kernel
theorem dX0_makeMeans_115 : decode cX0_makeMeans 115 = .ok (.iconst 0, 1) := by decide +kernel
theorem dX0_makeMeans_116 : decode cX0_makeMeans 116 = .ok (.istore_n 1, 1) := by decide +kernel
theorem dX0_makeMeans_117 : decode cX0_makeMeans 117 = .ok (.iload_n 1, 1) := by decide +kernel
theorem dX0_makeMeans_118 : decode cX0_makeMeans 118 = .ok (.bipush 16, 2) := by decide +kernel
theorem dX0_makeMeans_120 : decode cX0_makeMeans 120 = .ok (.if_icmp .ge 23, 3) := by decide +kernel
theorem dX0_makeMeans_123 : decode cX0_makeMeans 123 = .ok (.aload_n 0, 1) := by decide +kernel
theorem dX0_makeMeans_124 : decode cX0_makeMeans 124 = .ok (.getfield 25, 3) := by decide +kernel
theorem dX0_makeMeans_127 : decode cX0_makeMeans 127 = .ok (.iload_n 1, 1) := by decide +kernel
theorem dX0_makeMeans_128 : decode cX0_makeMeans 128 = .ok (.iaload, 1) := by decide +kernel
theorem dX0_makeMeans_129 : decode cX0_makeMeans 129 = .ok (.ifCond .le 8, 3) := by decide +kernel
theorem dX0_makeMeans_132 : decode cX0_makeMeans 132 = .ok (.aload_n 0, 1) := by decide +kernel
theorem dX0_makeMeans_133 : decode cX0_makeMeans 133 = .ok (.iload_n 1, 1) := by decide +kernel
theorem dX0_makeMeans_134 : decode cX0_makeMeans 134 = .ok (.invokevirtual 116, 3) := by decide +kernel
theorem dX0_makeMeans_137 : decode cX0_makeMeans 137 = .ok (.iinc 1 1, 3) := by decide +kernel
theorem dX0_makeMeans_140 : decode cX0_makeMeans 140 = .ok (.goto (-23), 3) := by decide +kernel
theorem dX0_makeMeans_143 : decode cX0_makeMeans 143 = .ok (.return_, 1) := by decide +kernel
theorem dX0_divideMeans_0 : decode cX0_divideMeans 0 = .ok (.aload_n 0, 1) := by decide +kernel
theorem dX0_divideMeans_1 : decode cX0_divideMeans 1 = .ok (.getfield 25, 3) := by decide +kernel
theorem dX0_divideMeans_4 : decode cX0_divideMeans 4 = .ok (.iload_n 1, 1) := by decide +kernel
theorem dX0_divideMeans_5 : decode cX0_divideMeans 5 = .ok (.iaload, 1) := by decide +kernel
theorem dX0_divideMeans_6 : decode cX0_divideMeans 6 = .ok (.i2d, 1) := by decide +kernel
theorem dX0_divideMeans_7 : decode cX0_divideMeans 7 = .ok (.dstore_n 2, 1) := by decide +kernel
theorem dX0_divideMeans_8 : decode cX0_divideMeans 8 = .ok (.iconst 0, 1) := by decide +kernel
theorem dX0_divideMeans_9 : decode cX0_divideMeans 9 = .ok (.istore 4, 2) := by decide +kernel
theorem dX0_divideMeans_11 : decode cX0_divideMeans 11 = .ok (.iload 4, 2) := by decide +kernel
theorem dX0_divideMeans_13 : decode cX0_divideMeans 13 = .ok (.aload_n 0, 1) := by decide +kernel
theorem dX0_divideMeans_14 : decode cX0_divideMeans 14 = .ok (.getfield 7, 3) := by decide +kernel
theorem dX0_divideMeans_17 : decode cX0_divideMeans 17 = .ok (.if_icmp .ge 29, 3) := by decide +kernel
theorem dX0_divideMeans_20 : decode cX0_divideMeans 20 = .ok (.aload_n 0, 1) := by decide +kernel
theorem dX0_divideMeans_21 : decode cX0_divideMeans 21 = .ok (.getfield 30, 3) := by decide +kernel
theorem dX0_divideMeans_24 : decode cX0_divideMeans 24 = .ok (.iload_n 1, 1) := by decide +kernel
theorem dX0_divideMeans_25 : decode cX0_divideMeans 25 = .ok (.aaload, 1) := by decide +kernel
theorem dX0_divideMeans_26 : decode cX0_divideMeans 26 = .ok (.iload 4, 2) := by decide +kernel
theorem dX0_divideMeans_28 : decode cX0_divideMeans 28 = .ok (.aload_n 0, 1) := by decide +kernel
theorem dX0_divideMeans_29 : decode cX0_divideMeans 29 = .ok (.getfield 30, 3) := by decide +kernel
theorem dX0_divideMeans_32 : decode cX0_divideMeans 32 = .ok (.iload_n 1, 1) := by decide +kernel
theorem dX0_divideMeans_33 : decode cX0_divideMeans 33 = .ok (.aaload, 1) := by decide +kernel
theorem dX0_divideMeans_34 : decode cX0_divideMeans 34 = .ok (.iload 4, 2) := by decide +kernel
theorem dX0_divideMeans_36 : decode cX0_divideMeans 36 = .ok (.daload, 1) := by decide +kernel
theorem dX0_divideMeans_37 : decode cX0_divideMeans 37 = .ok (.dload_n 2, 1) := by decide +kernel
theorem dX0_divideMeans_38 : decode cX0_divideMeans 38 = .ok (.ddiv, 1) := by decide +kernel
theorem dX0_divideMeans_39 : decode cX0_divideMeans 39 = .ok (.dastore, 1) := by decide +kernel
theorem dX0_divideMeans_40 : decode cX0_divideMeans 40 = .ok (.iinc 4 1, 3) := by decide +kernel
theorem dX0_divideMeans_43 : decode cX0_divideMeans 43 = .ok (.goto (-32), 3) := by decide +kernel
theorem dX0_divideMeans_46 : decode cX0_divideMeans 46 = .ok (.return_, 1) := by decide +kernel
theorem dX0_makeFirstWeights_0 : decode cX0_makeFirstWeights 0 = .ok (.iconst 0, 1) := by decide +kernel
theorem dX0_makeFirstWeights_1 : decode cX0_makeFirstWeights 1 = .ok (.istore_n 1, 1) := by decide +kernel
theorem dX0_makeFirstWeights_2 : decode cX0_makeFirstWeights 2 = .ok (.iload_n 1, 1) := by decide +kernel
theorem dX0_makeFirstWeights_3 : decode cX0_makeFirstWeights 3 = .ok (.bipush 16, 2) := by decide +kernel
theorem dX0_makeFirstWeights_5 : decode cX0_makeFirstWeights 5 = .ok (.if_icmp .ge 52, 3) := by decide +kernel
theorem dX0_makeFirstWeights_8 : decode cX0_makeFirstWeights 8 = .ok (.aload_n 0, 1) := by decide +kernel
theorem dX0_makeFirstWeights_9 : decode cX0_makeFirstWeights 9 = .ok (.getfield 25, 3) := by decide +kernel
theorem dX0_makeFirstWeights_12 : decode cX0_makeFirstWeights 12 = .ok (.iload_n 1, 1) := by decide +kernel
theorem dX0_makeFirstWeights_13 : decode cX0_makeFirstWeights 13 = .ok (.iaload, 1) := by decide +kernel
theorem dX0_makeFirstWeights_14 : decode cX0_makeFirstWeights 14 = .ok (.ifCond .le 7, 3) := by decide +kernel
theorem dX0_makeFirstWeights_17 : decode cX0_makeFirstWeights 17 = .ok (.dconst 1, 1) := by decide +kernel
theorem dX0_makeFirstWeights_18 : decode cX0_makeFirstWeights 18 = .ok (.goto 4, 3) := by decide +kernel
theorem dX0_makeFirstWeights_21 : decode cX0_makeFirstWeights 21 = .ok (.dconst 0, 1) := by decide +kernel
theorem dX0_makeFirstWeights_22 : decode cX0_makeFirstWeights 22 = .ok (.dstore_n 2, 1) := by decide +kernel
theorem dX0_makeFirstWeights_23 : decode cX0_makeFirstWeights 23 = .ok (.iconst 0, 1) := by decide +kernel
theorem dX0_makeFirstWeights_24 : decode cX0_makeFirstWeights 24 = .ok (.istore 4, 2) := by decide +kernel
theorem dX0_makeFirstWeights_26 : decode cX0_makeFirstWeights 26 = .ok (.iload 4, 2) := by decide +kernel
theorem dX0_makeFirstWeights_28 : decode cX0_makeFirstWeights 28 = .ok (.aload_n 0, 1) := by decide +kernel
theorem dX0_makeFirstWeights_29 : decode cX0_makeFirstWeights 29 = .ok (.getfield 7, 3) := by decide +kernel
theorem dX0_makeFirstWeights_32 : decode cX0_makeFirstWeights 32 = .ok (.if_icmp .ge 19, 3) := by decide +kernel
theorem dX0_makeFirstWeights_35 : decode cX0_makeFirstWeights 35 = .ok (.aload_n 0, 1) := by decide +kernel
theorem dX0_makeFirstWeights_36 : decode cX0_makeFirstWeights 36 = .ok (.getfield 33, 3) := by decide +kernel
theorem dX0_makeFirstWeights_39 : decode cX0_makeFirstWeights 39 = .ok (.iload_n 1, 1) := by decide +kernel
theorem dX0_makeFirstWeights_40 : decode cX0_makeFirstWeights 40 = .ok (.aaload, 1) := by decide +kernel
theorem dX0_makeFirstWeights_41 : decode cX0_makeFirstWeights 41 = .ok (.iload 4, 2) := by decide +kernel
theorem dX0_makeFirstWeights_43 : decode cX0_makeFirstWeights 43 = .ok (.dload_n 2, 1) := by decide +kernel
theorem dX0_makeFirstWeights_44 : decode cX0_makeFirstWeights 44 = .ok (.dastore, 1) := by decide +kernel
theorem dX0_makeFirstWeights_45 : decode cX0_makeFirstWeights 45 = .ok (.iinc 4 1, 3) := by decide +kernel
theorem dX0_makeFirstWeights_48 : decode cX0_makeFirstWeights 48 = .ok (.goto (-22), 3) := by decide +kernel
theorem dX0_makeFirstWeights_51 : decode cX0_makeFirstWeights 51 = .ok (.iinc 1 1, 3) := by decide +kernel
theorem dX0_makeFirstWeights_54 : decode cX0_makeFirstWeights 54 = .ok (.goto (-52), 3) := by decide +kernel
theorem dX0_makeFirstWeights_57 : decode cX0_makeFirstWeights 57 = .ok (.return_, 1) := by decide +kernel
set_option maxRecDepth 20000 in
theorem ggX0_goRound_X0_nearestClass : GoodIn wsX0_goRound wsX0_nearestClass := goodIn_r _ [8, 9, 10, 11, 12, 7, 13, 14, 15, 16, 17, 18, 19, 29, 30, 31, 32, 33, 34, 35, 36, 37, 38, 39] (by decide +kernel) (by decide +kernel)
set_option maxRecDepth 20000 in
theorem gX0_goRound_X0_nearestClass : GoodIn wsX0_goRound (wsV RX0 90 RX0 yX0_nearestClass wsX0_nearestClass) := goodIn_app (goodIn_of _ (by decide +kernel)) ggX0_goRound_X0_nearestClass
set_option maxRecDepth 20000 in
theorem ggX0_goRound_X0_isClass : GoodIn wsX0_goRound wsX0_isClass := goodIn_r _ [22] (by decide +kernel) (by decide +kernel)
set_option maxRecDepth 20000 in
theorem gX0_goRound_X0_isClass : GoodIn wsX0_goRound (va_wsS RX0 39 yX0_isClass wsX0_isClass) := goodIn_app (goodIn_of _ (by decide +kernel)) ggX0_goRound_X0_isClass
set_option maxRecDepth 20000 in
theorem ggX0_goRound_X0_shiftWeights : GoodIn wsX0_goRound wsX0_shiftWeights := goodIn_r _ [26, 14, 16, 15, 27, 28, 17, 18, 7, 19, 29, 30, 31, 32, 33, 34, 35, 36, 37, 38, 39] (by decide +kernel) (by decide +kernel)
set_option maxRecDepth 20000 in
theorem gX0_goRound_X0_shiftWeights : GoodIn wsX0_goRound (wsV RX0 120 RX0 yX0_shiftWeights wsX0_shiftWeights) := goodIn_app (goodIn_of _ (by decide +kernel)) ggX0_goRound_X0_shiftWeights
theorem dX0_goRound_0 : decode cX0_goRound 0 = .ok (.iconst 0, 1) := by decide +kernel
theorem dX0_goRound_1 : decode cX0_goRound 1 = .ok (.istore_n 1, 1) := by decide +kernel
theorem dX0_goRound_2 : decode cX0_goRound 2 = .ok (.iload_n 1, 1) := by decide +kernel
theorem dX0_goRound_3 : decode cX0_goRound 3 = .ok (.aload_n 0, 1) := by decide +kernel
theorem dX0_goRound_4 : decode cX0_goRound 4 = .ok (.getfield 43, 3) := by decide +kernel
theorem dX0_goRound_7 : decode cX0_goRound 7 = .ok (.if_icmp .ge 52, 3) := by decide +kernel
theorem dX0_goRound_10 : decode cX0_goRound 10 = .ok (.aload_n 0, 1) := by decide +kernel
theorem dX0_goRound_11 : decode cX0_goRound 11 = .ok (.getfield 13, 3) := by decide +kernel
theorem dX0_goRound_14 : decode cX0_goRound 14 = .ok (.iload_n 1, 1) := by decide +kernel
theorem dX0_goRound_15 : decode cX0_goRound 15 = .ok (.iaload, 1) := by decide +kernel
theorem dX0_goRound_16 : decode cX0_goRound 16 = .ok (.istore_n 2, 1) := by decide +kernel
theorem dX0_goRound_17 : decode cX0_goRound 17 = .ok (.aload_n 0, 1) := by decide +kernel
theorem dX0_goRound_18 : decode cX0_goRound 18 = .ok (.aload_n 0, 1) := by decide +kernel
theorem dX0_goRound_19 : decode cX0_goRound 19 = .ok (.getfield 19, 3) := by decide +kernel
theorem dX0_goRound_22 : decode cX0_goRound 22 = .ok (.iload_n 1, 1) := by decide +kernel
theorem dX0_goRound_23 : decode cX0_goRound 23 = .ok (.aaload, 1) := by decide +kernel
theorem dX0_goRound_24 : decode cX0_goRound 24 = .ok (.iconst (-1), 1) := by decide +kernel
theorem dX0_goRound_25 : decode cX0_goRound 25 = .ok (.invokevirtual 90, 3) := by decide +kernel
theorem dX0_goRound_28 : decode cX0_goRound 28 = .ok (.istore_n 3, 1) := by decide +kernel
theorem dX0_goRound_29 : decode cX0_goRound 29 = .ok (.iload_n 3, 1) := by decide +kernel
theorem dX0_goRound_30 : decode cX0_goRound 30 = .ok (.invokestatic 39, 3) := by decide +kernel
theorem dX0_goRound_33 : decode cX0_goRound 33 = .ok (.ifCond .eq 20, 3) := by decide +kernel
theorem dX0_goRound_36 : decode cX0_goRound 36 = .ok (.iload_n 3, 1) := by decide +kernel
theorem dX0_goRound_37 : decode cX0_goRound 37 = .ok (.iload_n 2, 1) := by decide +kernel
theorem dX0_goRound_38 : decode cX0_goRound 38 = .ok (.if_icmp .eq 15, 3) := by decide +kernel
theorem dX0_goRound_41 : decode cX0_goRound 41 = .ok (.aload_n 0, 1) := by decide +kernel
theorem dX0_goRound_42 : decode cX0_goRound 42 = .ok (.aload_n 0, 1) := by decide +kernel
theorem dX0_goRound_43 : decode cX0_goRound 43 = .ok (.getfield 19, 3) := by decide +kernel
theorem dX0_goRound_46 : decode cX0_goRound 46 = .ok (.iload_n 1, 1) := by decide +kernel
theorem dX0_goRound_47 : decode cX0_goRound 47 = .ok (.aaload, 1) := by decide +kernel
theorem dX0_goRound_48 : decode cX0_goRound 48 = .ok (.iload_n 2, 1) := by decide +kernel
theorem dX0_goRound_49 : decode cX0_goRound 49 = .ok (.iload_n 3, 1) := by decide +kernel
theorem dX0_goRound_50 : decode cX0_goRound 50 = .ok (.invokevirtual 120, 3) := by decide +kernel
theorem dX0_goRound_53 : decode cX0_goRound 53 = .ok (.iinc 1 1, 3) := by decide +kernel
theorem dX0_goRound_56 : decode cX0_goRound 56 = .ok (.goto (-54), 3) := by decide +kernel
theorem dX0_goRound_59 : decode cX0_goRound 59 = .ok (.return_, 1) := by decide +kernel
set_option maxRecDepth 20000 in
theorem ggX0_shiftWeights_X0_size : GoodIn wsX0_shiftWeights wsX0_size := goodIn_r _ [9] (by decide +kernel) (by decide +kernel)
set_option maxRecDepth 20000 in
theorem gX0_shiftWeights_X0_size : GoodIn wsX0_shiftWeights (va_wsS RX0 124 yX0_size wsX0_size) := goodIn_app (goodIn_of _ (by decide +kernel)) ggX0_shiftWeights_X0_size
theorem dX0_shiftWeights_0 : decode cX0_shiftWeights 0 = .ok (.iconst 0, 1) := by decide +kernel
theorem dX0_shiftWeights_1 : decode cX0_shiftWeights 1 = .ok (.istore 4, 2) := by decide +kernel
theorem dX0_shiftWeights_3 : decode cX0_shiftWeights 3 = .ok (.iload 4, 2) := by decide +kernel
theorem dX0_shiftWeights_5 : decode cX0_shiftWeights 5 = .ok (.aload_n 0, 1) := by decide +kernel
theorem dX0_shiftWeights_6 : decode cX0_shiftWeights 6 = .ok (.getfield 7, 3) := by decide +kernel
theorem dX0_shiftWeights_9 : decode cX0_shiftWeights 9 = .ok (.if_icmp .ge 112, 3) := by decide +kernel
theorem dX0_shiftWeights_12 : decode cX0_shiftWeights 12 = .ok (.aload_n 1, 1) := by decide +kernel
theorem dX0_shiftWeights_13 : decode cX0_shiftWeights 13 = .ok (.iload 4, 2) := by decide +kernel
theorem dX0_shiftWeights_15 : decode cX0_shiftWeights 15 = .ok (.iaload, 1) := by decide +kernel
theorem dX0_shiftWeights_16 : decode cX0_shiftWeights 16 = .ok (.i2d, 1) := by decide +kernel
theorem dX0_shiftWeights_17 : decode cX0_shiftWeights 17 = .ok (.aload_n 0, 1) := by decide +kernel
theorem dX0_shiftWeights_18 : decode cX0_shiftWeights 18 = .ok (.getfield 30, 3) := by decide +kernel
theorem dX0_shiftWeights_21 : decode cX0_shiftWeights 21 = .ok (.iload_n 2, 1) := by decide +kernel
theorem dX0_shiftWeights_22 : decode cX0_shiftWeights 22 = .ok (.aaload, 1) := by decide +kernel
theorem dX0_shiftWeights_23 : decode cX0_shiftWeights 23 = .ok (.iload 4, 2) := by decide +kernel
theorem dX0_shiftWeights_25 : decode cX0_shiftWeights 25 = .ok (.daload, 1) := by decide +kernel
theorem dX0_shiftWeights_26 : decode cX0_shiftWeights 26 = .ok (.dsub, 1) := by decide +kernel
theorem dX0_shiftWeights_27 : decode cX0_shiftWeights 27 = .ok (.invokestatic 124, 3) := by decide +kernel
theorem dX0_shiftWeights_30 : decode cX0_shiftWeights 30 = .ok (.dstore 5, 2) := by decide +kernel
theorem dX0_shiftWeights_32 : decode cX0_shiftWeights 32 = .ok (.aload_n 1, 1) := by decide +kernel
theorem dX0_shiftWeights_33 : decode cX0_shiftWeights 33 = .ok (.iload 4, 2) := by decide +kernel
theorem dX0_shiftWeights_35 : decode cX0_shiftWeights 35 = .ok (.iaload, 1) := by decide +kernel
theorem dX0_shiftWeights_36 : decode cX0_shiftWeights 36 = .ok (.i2d, 1) := by decide +kernel
theorem dX0_shiftWeights_37 : decode cX0_shiftWeights 37 = .ok (.aload_n 0, 1) := by decide +kernel
theorem dX0_shiftWeights_38 : decode cX0_shiftWeights 38 = .ok (.getfield 30, 3) := by decide +kernel
theorem dX0_shiftWeights_41 : decode cX0_shiftWeights 41 = .ok (.iload_n 3, 1) := by decide +kernel
theorem dX0_shiftWeights_42 : decode cX0_shiftWeights 42 = .ok (.aaload, 1) := by decide +kernel
theorem dX0_shiftWeights_43 : decode cX0_shiftWeights 43 = .ok (.iload 4, 2) := by decide +kernel
theorem dX0_shiftWeights_45 : decode cX0_shiftWeights 45 = .ok (.daload, 1) := by decide +kernel
theorem dX0_shiftWeights_46 : decode cX0_shiftWeights 46 = .ok (.dsub, 1) := by decide +kernel
theorem dX0_shiftWeights_47 : decode cX0_shiftWeights 47 = .ok (.invokestatic 124, 3) := by decide +kernel
theorem dX0_shiftWeights_50 : decode cX0_shiftWeights 50 = .ok (.dstore 7, 2) := by decide +kernel
theorem dX0_shiftWeights_52 : decode cX0_shiftWeights 52 = .ok (.dload 5, 2) := by decide +kernel
theorem dX0_shiftWeights_54 : decode cX0_shiftWeights 54 = .ok (.dload 7, 2) := by decide +kernel
theorem dX0_shiftWeights_56 : decode cX0_shiftWeights 56 = .ok (.dcmp .l, 1) := by decide +kernel
theorem dX0_shiftWeights_57 : decode cX0_shiftWeights 57 = .ok (.ifCond .le 28, 3) := by decide +kernel
theorem dX0_shiftWeights_60 : decode cX0_shiftWeights 60 = .ok (.aload_n 0, 1) := by decide +kernel
theorem dX0_shiftWeights_61 : decode cX0_shiftWeights 61 = .ok (.getfield 33, 3) := by decide +kernel
theorem dX0_shiftWeights_64 : decode cX0_shiftWeights 64 = .ok (.iload_n 2, 1) := by decide +kernel
theorem dX0_shiftWeights_65 : decode cX0_shiftWeights 65 = .ok (.aaload, 1) := by decide +kernel
theorem dX0_shiftWeights_66 : decode cX0_shiftWeights 66 = .ok (.iload 4, 2) := by decide +kernel
theorem dX0_shiftWeights_68 : decode cX0_shiftWeights 68 = .ok (.aload_n 0, 1) := by decide +kernel
theorem dX0_shiftWeights_69 : decode cX0_shiftWeights 69 = .ok (.getfield 33, 3) := by decide +kernel
theorem dX0_shiftWeights_72 : decode cX0_shiftWeights 72 = .ok (.iload_n 2, 1) := by decide +kernel
theorem dX0_shiftWeights_73 : decode cX0_shiftWeights 73 = .ok (.aaload, 1) := by decide +kernel
theorem dX0_shiftWeights_74 : decode cX0_shiftWeights 74 = .ok (.iload 4, 2) := by decide +kernel
theorem dX0_shiftWeights_76 : decode cX0_shiftWeights 76 = .ok (.daload, 1) := by decide +kernel
theorem dX0_shiftWeights_77 : decode cX0_shiftWeights 77 = .ok (.ldc2_w 128, 3) := by decide +kernel
theorem dX0_shiftWeights_80 : decode cX0_shiftWeights 80 = .ok (.dmul, 1) := by decide +kernel
theorem dX0_shiftWeights_81 : decode cX0_shiftWeights 81 = .ok (.dastore, 1) := by decide +kernel
theorem dX0_shiftWeights_82 : decode cX0_shiftWeights 82 = .ok (.goto 33, 3) := by decide +kernel
theorem dX0_shiftWeights_85 : decode cX0_shiftWeights 85 = .ok (.dload 7, 2) := by decide +kernel
theorem dX0_shiftWeights_87 : decode cX0_shiftWeights 87 = .ok (.dload 5, 2) := by decide +kernel
theorem dX0_shiftWeights_89 : decode cX0_shiftWeights 89 = .ok (.dcmp .l, 1) := by decide +kernel
theorem dX0_shiftWeights_90 : decode cX0_shiftWeights 90 = .ok (.ifCond .le 25, 3) := by decide +kernel
theorem dX0_shiftWeights_93 : decode cX0_shiftWeights 93 = .ok (.aload_n 0, 1) := by decide +kernel
theorem dX0_shiftWeights_94 : decode cX0_shiftWeights 94 = .ok (.getfield 33, 3) := by decide +kernel
theorem dX0_shiftWeights_97 : decode cX0_shiftWeights 97 = .ok (.iload_n 3, 1) := by decide +kernel
theorem dX0_shiftWeights_98 : decode cX0_shiftWeights 98 = .ok (.aaload, 1) := by decide +kernel
theorem dX0_shiftWeights_99 : decode cX0_shiftWeights 99 = .ok (.iload 4, 2) := by decide +kernel
theorem dX0_shiftWeights_101 : decode cX0_shiftWeights 101 = .ok (.aload_n 0, 1) := by decide +kernel
theorem dX0_shiftWeights_102 : decode cX0_shiftWeights 102 = .ok (.getfield 33, 3) := by decide +kernel
theorem dX0_shiftWeights_105 : decode cX0_shiftWeights 105 = .ok (.iload_n 3, 1) := by decide +kernel
theorem dX0_shiftWeights_106 : decode cX0_shiftWeights 106 = .ok (.aaload, 1) := by decide +kernel
theorem dX0_shiftWeights_107 : decode cX0_shiftWeights 107 = .ok (.iload 4, 2) := by decide +kernel
theorem dX0_shiftWeights_109 : decode cX0_shiftWeights 109 = .ok (.daload, 1) := by decide +kernel
theorem dX0_shiftWeights_110 : decode cX0_shiftWeights 110 = .ok (.ldc2_w 130, 3) := by decide +kernel
theorem dX0_shiftWeights_113 : decode cX0_shiftWeights 113 = .ok (.dmul, 1) := by decide +kernel
theorem dX0_shiftWeights_114 : decode cX0_shiftWeights 114 = .ok (.dastore, 1) := by decide +kernel
theorem dX0_shiftWeights_115 : decode cX0_shiftWeights 115 = .ok (.iinc 4 1, 3) := by decide +kernel
theorem dX0_shiftWeights_118 : decode cX0_shiftWeights 118 = .ok (.goto (-115), 3) := by decide +kernel
theorem dX0_shiftWeights_121 : decode cX0_shiftWeights 121 = .ok (.return_, 1) := by decide +kernel
set_option maxRecDepth 20000 in
theorem ggX0_countConfusions_X0_nearestClass : GoodIn wsX0_countConfusions wsX0_nearestClass := goodIn_r _ [9, 10, 11, 12, 13, 8, 14, 15, 16, 17, 18, 19, 20, 24, 25, 26, 27, 28, 29, 30, 31, 32, 33, 34] (by decide +kernel) (by decide +kernel)
set_option maxRecDepth 20000 in
theorem gX0_countConfusions_X0_nearestClass : GoodIn wsX0_countConfusions (wsV RX0 90 RX0 yX0_nearestClass wsX0_nearestClass) := goodIn_app (goodIn_of _ (by decide +kernel)) ggX0_countConfusions_X0_nearestClass
set_option maxRecDepth 20000 in
theorem ggX0_countConfusions_X0_isClass : GoodIn wsX0_countConfusions wsX0_isClass := goodIn_r _ [23] (by decide +kernel) (by decide +kernel)
set_option maxRecDepth 20000 in
theorem gX0_countConfusions_X0_isClass : GoodIn wsX0_countConfusions (va_wsS RX0 39 yX0_isClass wsX0_isClass) := goodIn_app (goodIn_of _ (by decide +kernel)) ggX0_countConfusions_X0_isClass
theorem dX0_countConfusions_0 : decode cX0_countConfusions 0 = .ok (.iconst 0, 1) := by decide +kernel
theorem dX0_countConfusions_1 : decode cX0_countConfusions 1 = .ok (.istore_n 1, 1) := by decide +kernel
theorem dX0_countConfusions_2 : decode cX0_countConfusions 2 = .ok (.iload_n 1, 1) := by decide +kernel
theorem dX0_countConfusions_3 : decode cX0_countConfusions 3 = .ok (.bipush 16, 2) := by decide +kernel
theorem dX0_countConfusions_5 : decode cX0_countConfusions 5 = .ok (.if_icmp .ge 32, 3) := by decide +kernel
theorem dX0_countConfusions_8 : decode cX0_countConfusions 8 = .ok (.iconst 0, 1) := by decide +kernel
theorem dX0_countConfusions_9 : decode cX0_countConfusions 9 = .ok (.istore_n 2, 1) := by decide +kernel
theorem dX0_countConfusions_10 : decode cX0_countConfusions 10 = .ok (.iload_n 2, 1) := by decide +kernel
theorem dX0_countConfusions_11 : decode cX0_countConfusions 11 = .ok (.bipush 16, 2) := by decide +kernel
theorem dX0_countConfusions_13 : decode cX0_countConfusions 13 = .ok (.if_icmp .ge 18, 3) := by decide +kernel
theorem dX0_countConfusions_16 : decode cX0_countConfusions 16 = .ok (.aload_n 0, 1) := by decide +kernel
theorem dX0_countConfusions_17 : decode cX0_countConfusions 17 = .ok (.getfield 36, 3) := by decide +kernel
theorem dX0_countConfusions_20 : decode cX0_countConfusions 20 = .ok (.iload_n 1, 1) := by decide +kernel
theorem dX0_countConfusions_21 : decode cX0_countConfusions 21 = .ok (.aaload, 1) := by decide +kernel
theorem dX0_countConfusions_22 : decode cX0_countConfusions 22 = .ok (.iload_n 2, 1) := by decide +kernel
theorem dX0_countConfusions_23 : decode cX0_countConfusions 23 = .ok (.iconst 0, 1) := by decide +kernel
theorem dX0_countConfusions_24 : decode cX0_countConfusions 24 = .ok (.iastore, 1) := by decide +kernel
theorem dX0_countConfusions_25 : decode cX0_countConfusions 25 = .ok (.iinc 2 1, 3) := by decide +kernel
theorem dX0_countConfusions_28 : decode cX0_countConfusions 28 = .ok (.goto (-18), 3) := by decide +kernel
theorem dX0_countConfusions_31 : decode cX0_countConfusions 31 = .ok (.iinc 1 1, 3) := by decide +kernel
theorem dX0_countConfusions_34 : decode cX0_countConfusions 34 = .ok (.goto (-32), 3) := by decide +kernel
theorem dX0_countConfusions_37 : decode cX0_countConfusions 37 = .ok (.iconst 0, 1) := by decide +kernel
theorem dX0_countConfusions_38 : decode cX0_countConfusions 38 = .ok (.istore_n 1, 1) := by decide +kernel
theorem dX0_countConfusions_39 : decode cX0_countConfusions 39 = .ok (.iload_n 1, 1) := by decide +kernel
theorem dX0_countConfusions_40 : decode cX0_countConfusions 40 = .ok (.aload_n 0, 1) := by decide +kernel
theorem dX0_countConfusions_41 : decode cX0_countConfusions 41 = .ok (.getfield 43, 3) := by decide +kernel
theorem dX0_countConfusions_44 : decode cX0_countConfusions 44 = .ok (.if_icmp .ge 45, 3) := by decide +kernel
theorem dX0_countConfusions_47 : decode cX0_countConfusions 47 = .ok (.aload_n 0, 1) := by decide +kernel
theorem dX0_countConfusions_48 : decode cX0_countConfusions 48 = .ok (.aload_n 0, 1) := by decide +kernel
theorem dX0_countConfusions_49 : decode cX0_countConfusions 49 = .ok (.getfield 19, 3) := by decide +kernel
theorem dX0_countConfusions_52 : decode cX0_countConfusions 52 = .ok (.iload_n 1, 1) := by decide +kernel
theorem dX0_countConfusions_53 : decode cX0_countConfusions 53 = .ok (.aaload, 1) := by decide +kernel
theorem dX0_countConfusions_54 : decode cX0_countConfusions 54 = .ok (.iconst (-1), 1) := by decide +kernel
theorem dX0_countConfusions_55 : decode cX0_countConfusions 55 = .ok (.invokevirtual 90, 3) := by decide +kernel
theorem dX0_countConfusions_58 : decode cX0_countConfusions 58 = .ok (.istore_n 2, 1) := by decide +kernel
theorem dX0_countConfusions_59 : decode cX0_countConfusions 59 = .ok (.iload_n 2, 1) := by decide +kernel
theorem dX0_countConfusions_60 : decode cX0_countConfusions 60 = .ok (.invokestatic 39, 3) := by decide +kernel
theorem dX0_countConfusions_63 : decode cX0_countConfusions 63 = .ok (.ifCond .eq 20, 3) := by decide +kernel
theorem dX0_countConfusions_66 : decode cX0_countConfusions 66 = .ok (.aload_n 0, 1) := by decide +kernel
theorem dX0_countConfusions_67 : decode cX0_countConfusions 67 = .ok (.getfield 36, 3) := by decide +kernel
theorem dX0_countConfusions_70 : decode cX0_countConfusions 70 = .ok (.aload_n 0, 1) := by decide +kernel
theorem dX0_countConfusions_71 : decode cX0_countConfusions 71 = .ok (.getfield 13, 3) := by decide +kernel
theorem dX0_countConfusions_74 : decode cX0_countConfusions 74 = .ok (.iload_n 1, 1) := by decide +kernel
theorem dX0_countConfusions_75 : decode cX0_countConfusions 75 = .ok (.iaload, 1) := by decide +kernel
theorem dX0_countConfusions_76 : decode cX0_countConfusions 76 = .ok (.aaload, 1) := by decide +kernel
theorem dX0_countConfusions_77 : decode cX0_countConfusions 77 = .ok (.iload_n 2, 1) := by decide +kernel
theorem dX0_countConfusions_78 : decode cX0_countConfusions 78 = .ok (.dup2, 1) := by decide +kernel
theorem dX0_countConfusions_79 : decode cX0_countConfusions 79 = .ok (.iaload, 1) := by decide +kernel
theorem dX0_countConfusions_80 : decode cX0_countConfusions 80 = .ok (.iconst 1, 1) := by decide +kernel
theorem dX0_countConfusions_81 : decode cX0_countConfusions 81 = .ok (.iadd, 1) := by decide +kernel
theorem dX0_countConfusions_82 : decode cX0_countConfusions 82 = .ok (.iastore, 1) := by decide +kernel
theorem dX0_countConfusions_83 : decode cX0_countConfusions 83 = .ok (.iinc 1 1, 3) := by decide +kernel
theorem dX0_countConfusions_86 : decode cX0_countConfusions 86 = .ok (.goto (-47), 3) := by decide +kernel
theorem dX0_countConfusions_89 : decode cX0_countConfusions 89 = .ok (.return_, 1) := by decide +kernel
set_option maxRecDepth 20000 in
theorem ggX0_distanceTo_X0_size : GoodIn wsX0_distanceTo wsX0_size := goodIn_r _ [7] (by decide +kernel) (by decide +kernel)
set_option maxRecDepth 20000 in
theorem gX0_distanceTo_X0_size : GoodIn wsX0_distanceTo (va_wsS RX0 124 yX0_size wsX0_size) := goodIn_app (goodIn_of _ (by decide +kernel)) ggX0_distanceTo_X0_size
theorem dX0_distanceTo_0 : decode cX0_distanceTo 0 = .ok (.dconst 0, 1) := by decide +kernel
theorem dX0_distanceTo_1 : decode cX0_distanceTo 1 = .ok (.dstore_n 3, 1) := by decide +kernel
theorem dX0_distanceTo_2 : decode cX0_distanceTo 2 = .ok (.iconst 0, 1) := by decide +kernel
theorem dX0_distanceTo_3 : decode cX0_distanceTo 3 = .ok (.istore 5, 2) := by decide +kernel
theorem dX0_distanceTo_5 : decode cX0_distanceTo 5 = .ok (.iload 5, 2) := by decide +kernel
theorem dX0_distanceTo_7 : decode cX0_distanceTo 7 = .ok (.aload_n 0, 1) := by decide +kernel
theorem dX0_distanceTo_8 : decode cX0_distanceTo 8 = .ok (.getfield 7, 3) := by decide +kernel
theorem dX0_distanceTo_11 : decode cX0_distanceTo 11 = .ok (.if_icmp .ge 40, 3) := by decide +kernel
theorem dX0_distanceTo_14 : decode cX0_distanceTo 14 = .ok (.dload_n 3, 1) := by decide +kernel
theorem dX0_distanceTo_15 : decode cX0_distanceTo 15 = .ok (.aload_n 0, 1) := by decide +kernel
theorem dX0_distanceTo_16 : decode cX0_distanceTo 16 = .ok (.getfield 33, 3) := by decide +kernel
theorem dX0_distanceTo_19 : decode cX0_distanceTo 19 = .ok (.iload_n 1, 1) := by decide +kernel
theorem dX0_distanceTo_20 : decode cX0_distanceTo 20 = .ok (.aaload, 1) := by decide +kernel
theorem dX0_distanceTo_21 : decode cX0_distanceTo 21 = .ok (.iload 5, 2) := by decide +kernel
theorem dX0_distanceTo_23 : decode cX0_distanceTo 23 = .ok (.daload, 1) := by decide +kernel
theorem dX0_distanceTo_24 : decode cX0_distanceTo 24 = .ok (.aload_n 2, 1) := by decide +kernel
theorem dX0_distanceTo_25 : decode cX0_distanceTo 25 = .ok (.iload 5, 2) := by decide +kernel
theorem dX0_distanceTo_27 : decode cX0_distanceTo 27 = .ok (.iaload, 1) := by decide +kernel
theorem dX0_distanceTo_28 : decode cX0_distanceTo 28 = .ok (.i2d, 1) := by decide +kernel
theorem dX0_distanceTo_29 : decode cX0_distanceTo 29 = .ok (.aload_n 0, 1) := by decide +kernel
theorem dX0_distanceTo_30 : decode cX0_distanceTo 30 = .ok (.getfield 30, 3) := by decide +kernel
theorem dX0_distanceTo_33 : decode cX0_distanceTo 33 = .ok (.iload_n 1, 1) := by decide +kernel
theorem dX0_distanceTo_34 : decode cX0_distanceTo 34 = .ok (.aaload, 1) := by decide +kernel
theorem dX0_distanceTo_35 : decode cX0_distanceTo 35 = .ok (.iload 5, 2) := by decide +kernel
theorem dX0_distanceTo_37 : decode cX0_distanceTo 37 = .ok (.daload, 1) := by decide +kernel
theorem dX0_distanceTo_38 : decode cX0_distanceTo 38 = .ok (.dsub, 1) := by decide +kernel
theorem dX0_distanceTo_39 : decode cX0_distanceTo 39 = .ok (.invokestatic 124, 3) := by decide +kernel
theorem dX0_distanceTo_42 : decode cX0_distanceTo 42 = .ok (.dmul, 1) := by decide +kernel
theorem dX0_distanceTo_43 : decode cX0_distanceTo 43 = .ok (.dadd, 1) := by decide +kernel
theorem dX0_distanceTo_44 : decode cX0_distanceTo 44 = .ok (.dstore_n 3, 1) := by decide +kernel
theorem dX0_distanceTo_45 : decode cX0_distanceTo 45 = .ok (.iinc 5 1, 3) := by decide +kernel
theorem dX0_distanceTo_48 : decode cX0_distanceTo 48 = .ok (.goto (-43), 3) := by decide +kernel
theorem dX0_distanceTo_51 : decode cX0_distanceTo 51 = .ok (.dload_n 3, 1) := by decide +kernel
theorem dX0_distanceTo_52 : decode cX0_distanceTo 52 = .ok (.dreturn, 1) := by decide +kernel
set_option maxRecDepth 20000 in
theorem ggX0_nearestClass_X0_distanceTo : GoodIn wsX0_nearestClass wsX0_distanceTo := goodIn_r _ [6, 7, 8, 9, 10, 11, 5, 12, 13, 14, 15, 16, 17, 18, 19, 20, 21, 22, 23] (by decide +kernel) (by decide +kernel)
set_option maxRecDepth 20000 in
theorem gX0_nearestClass_X0_distanceTo : GoodIn wsX0_nearestClass (wsV RX0 104 RX0 yX0_distanceTo wsX0_distanceTo) := goodIn_app (goodIn_of _ (by decide +kernel)) ggX0_nearestClass_X0_distanceTo
theorem dX0_nearestClass_0 : decode cX0_nearestClass 0 = .ok (.iconst (-1), 1) := by decide +kernel
theorem dX0_nearestClass_1 : decode cX0_nearestClass 1 = .ok (.istore_n 3, 1) := by decide +kernel
theorem dX0_nearestClass_2 : decode cX0_nearestClass 2 = .ok (.dconst 0, 1) := by decide +kernel
theorem dX0_nearestClass_3 : decode cX0_nearestClass 3 = .ok (.dstore 4, 2) := by decide +kernel
theorem dX0_nearestClass_5 : decode cX0_nearestClass 5 = .ok (.iconst 0, 1) := by decide +kernel
theorem dX0_nearestClass_6 : decode cX0_nearestClass 6 = .ok (.istore 6, 2) := by decide +kernel
theorem dX0_nearestClass_8 : decode cX0_nearestClass 8 = .ok (.iload 6, 2) := by decide +kernel
theorem dX0_nearestClass_10 : decode cX0_nearestClass 10 = .ok (.bipush 16, 2) := by decide +kernel
theorem dX0_nearestClass_12 : decode cX0_nearestClass 12 = .ok (.if_icmp .ge 57, 3) := by decide +kernel
theorem dX0_nearestClass_15 : decode cX0_nearestClass 15 = .ok (.aload_n 0, 1) := by decide +kernel
theorem dX0_nearestClass_16 : decode cX0_nearestClass 16 = .ok (.getfield 25, 3) := by decide +kernel
theorem dX0_nearestClass_19 : decode cX0_nearestClass 19 = .ok (.iload 6, 2) := by decide +kernel
theorem dX0_nearestClass_21 : decode cX0_nearestClass 21 = .ok (.iaload, 1) := by decide +kernel
theorem dX0_nearestClass_22 : decode cX0_nearestClass 22 = .ok (.ifCond .eq 41, 3) := by decide +kernel
theorem dX0_nearestClass_25 : decode cX0_nearestClass 25 = .ok (.iload 6, 2) := by decide +kernel
theorem dX0_nearestClass_27 : decode cX0_nearestClass 27 = .ok (.iload_n 2, 1) := by decide +kernel
theorem dX0_nearestClass_28 : decode cX0_nearestClass 28 = .ok (.if_icmp .ne 6, 3) := by decide +kernel
theorem dX0_nearestClass_31 : decode cX0_nearestClass 31 = .ok (.goto 32, 3) := by decide +kernel
theorem dX0_nearestClass_34 : decode cX0_nearestClass 34 = .ok (.aload_n 0, 1) := by decide +kernel
theorem dX0_nearestClass_35 : decode cX0_nearestClass 35 = .ok (.iload 6, 2) := by decide +kernel
theorem dX0_nearestClass_37 : decode cX0_nearestClass 37 = .ok (.aload_n 1, 1) := by decide +kernel
theorem dX0_nearestClass_38 : decode cX0_nearestClass 38 = .ok (.invokevirtual 104, 3) := by decide +kernel
theorem dX0_nearestClass_41 : decode cX0_nearestClass 41 = .ok (.dstore 7, 2) := by decide +kernel
theorem dX0_nearestClass_43 : decode cX0_nearestClass 43 = .ok (.iload_n 3, 1) := by decide +kernel
theorem dX0_nearestClass_44 : decode cX0_nearestClass 44 = .ok (.iconst (-1), 1) := by decide +kernel
theorem dX0_nearestClass_45 : decode cX0_nearestClass 45 = .ok (.if_icmp .eq 11, 3) := by decide +kernel
theorem dX0_nearestClass_48 : decode cX0_nearestClass 48 = .ok (.dload 7, 2) := by decide +kernel
theorem dX0_nearestClass_50 : decode cX0_nearestClass 50 = .ok (.dload 4, 2) := by decide +kernel
theorem dX0_nearestClass_52 : decode cX0_nearestClass 52 = .ok (.dcmp .g, 1) := by decide +kernel
theorem dX0_nearestClass_53 : decode cX0_nearestClass 53 = .ok (.ifCond .ge 10, 3) := by decide +kernel
theorem dX0_nearestClass_56 : decode cX0_nearestClass 56 = .ok (.iload 6, 2) := by decide +kernel
theorem dX0_nearestClass_58 : decode cX0_nearestClass 58 = .ok (.istore_n 3, 1) := by decide +kernel
theorem dX0_nearestClass_59 : decode cX0_nearestClass 59 = .ok (.dload 7, 2) := by decide +kernel
theorem dX0_nearestClass_61 : decode cX0_nearestClass 61 = .ok (.dstore 4, 2) := by decide +kernel
theorem dX0_nearestClass_63 : decode cX0_nearestClass 63 = .ok (.iinc 6 1, 3) := by decide +kernel
theorem dX0_nearestClass_66 : decode cX0_nearestClass 66 = .ok (.goto (-58), 3) := by decide +kernel
theorem dX0_nearestClass_69 : decode cX0_nearestClass 69 = .ok (.iload_n 3, 1) := by decide +kernel
theorem dX0_nearestClass_70 : decode cX0_nearestClass 70 = .ok (.ireturn, 1) := by decide +kernel
theorem dX0_isSignBlank_0 : decode cX0_isSignBlank 0 = .ok (.iconst 0, 1) := by decide +kernel
theorem dX0_isSignBlank_1 : decode cX0_isSignBlank 1 = .ok (.istore_n 1, 1) := by decide +kernel
theorem dX0_isSignBlank_2 : decode cX0_isSignBlank 2 = .ok (.iload_n 1, 1) := by decide +kernel
theorem dX0_isSignBlank_3 : decode cX0_isSignBlank 3 = .ok (.aload_n 0, 1) := by decide +kernel
theorem dX0_isSignBlank_4 : decode cX0_isSignBlank 4 = .ok (.getfield 7, 3) := by decide +kernel
theorem dX0_isSignBlank_7 : decode cX0_isSignBlank 7 = .ok (.if_icmp .ge 20, 3) := by decide +kernel
theorem dX0_isSignBlank_10 : decode cX0_isSignBlank 10 = .ok (.aload_n 0, 1) := by decide +kernel
theorem dX0_isSignBlank_11 : decode cX0_isSignBlank 11 = .ok (.getfield 22, 3) := by decide +kernel
theorem dX0_isSignBlank_14 : decode cX0_isSignBlank 14 = .ok (.iload_n 1, 1) := by decide +kernel
theorem dX0_isSignBlank_15 : decode cX0_isSignBlank 15 = .ok (.iaload, 1) := by decide +kernel
theorem dX0_isSignBlank_16 : decode cX0_isSignBlank 16 = .ok (.ifCond .eq 5, 3) := by decide +kernel
theorem dX0_isSignBlank_19 : decode cX0_isSignBlank 19 = .ok (.iconst 0, 1) := by decide +kernel
theorem dX0_isSignBlank_20 : decode cX0_isSignBlank 20 = .ok (.ireturn, 1) := by decide +kernel
theorem dX0_isSignBlank_21 : decode cX0_isSignBlank 21 = .ok (.iinc 1 1, 3) := by decide +kernel
theorem dX0_isSignBlank_24 : decode cX0_isSignBlank 24 = .ok (.goto (-22), 3) := by decide +kernel
theorem dX0_isSignBlank_27 : decode cX0_isSignBlank 27 = .ok (.iconst 1, 1) := by decide +kernel
theorem dX0_isSignBlank_28 : decode cX0_isSignBlank 28 = .ok (.ireturn, 1) := by decide +kernel
set_option maxRecDepth 20000 in
theorem ggX0_isTooClose_X0_isClass : GoodIn wsX0_isTooClose wsX0_isClass := goodIn_r _ [6] (by decide +kernel) (by decide +kernel)
set_option maxRecDepth 20000 in
theorem gX0_isTooClose_X0_isClass : GoodIn wsX0_isTooClose (va_wsS RX0 39 yX0_isClass wsX0_isClass) := goodIn_app (goodIn_of _ (by decide +kernel)) ggX0_isTooClose_X0_isClass
set_option maxRecDepth 20000 in
theorem ggX0_isTooClose_X0_distanceTo : GoodIn wsX0_isTooClose wsX0_distanceTo := goodIn_r _ [10, 11, 12, 13, 14, 15, 5, 16, 17, 18, 19, 20, 21, 22, 23, 24, 25, 26, 27] (by decide +kernel) (by decide +kernel)
set_option maxRecDepth 20000 in
theorem gX0_isTooClose_X0_distanceTo : GoodIn wsX0_isTooClose (wsV RX0 104 RX0 yX0_distanceTo wsX0_distanceTo) := goodIn_app (goodIn_of _ (by decide +kernel)) ggX0_isTooClose_X0_distanceTo
theorem dX0_isTooClose_0 : decode cX0_isTooClose 0 = .ok (.iload_n 1, 1) := by decide +kernel
theorem dX0_isTooClose_1 : decode cX0_isTooClose 1 = .ok (.invokestatic 39, 3) := by decide +kernel
theorem dX0_isTooClose_4 : decode cX0_isTooClose 4 = .ok (.ifCond .eq 10, 3) := by decide +kernel
theorem dX0_isTooClose_7 : decode cX0_isTooClose 7 = .ok (.iload_n 2, 1) := by decide +kernel
theorem dX0_isTooClose_8 : decode cX0_isTooClose 8 = .ok (.invokestatic 39, 3) := by decide +kernel
theorem dX0_isTooClose_11 : decode cX0_isTooClose 11 = .ok (.ifCond .ne 5, 3) := by decide +kernel
theorem dX0_isTooClose_14 : decode cX0_isTooClose 14 = .ok (.iconst 0, 1) := by decide +kernel
theorem dX0_isTooClose_15 : decode cX0_isTooClose 15 = .ok (.ireturn, 1) := by decide +kernel
theorem dX0_isTooClose_16 : decode cX0_isTooClose 16 = .ok (.aload_n 0, 1) := by decide +kernel
theorem dX0_isTooClose_17 : decode cX0_isTooClose 17 = .ok (.iload_n 2, 1) := by decide +kernel
theorem dX0_isTooClose_18 : decode cX0_isTooClose 18 = .ok (.aload_n 0, 1) := by decide +kernel
theorem dX0_isTooClose_19 : decode cX0_isTooClose 19 = .ok (.getfield 22, 3) := by decide +kernel
theorem dX0_isTooClose_22 : decode cX0_isTooClose 22 = .ok (.invokevirtual 104, 3) := by decide +kernel
theorem dX0_isTooClose_25 : decode cX0_isTooClose 25 = .ok (.aload_n 0, 1) := by decide +kernel
theorem dX0_isTooClose_26 : decode cX0_isTooClose 26 = .ok (.iload_n 1, 1) := by decide +kernel
theorem dX0_isTooClose_27 : decode cX0_isTooClose 27 = .ok (.aload_n 0, 1) := by decide +kernel
theorem dX0_isTooClose_28 : decode cX0_isTooClose 28 = .ok (.getfield 22, 3) := by decide +kernel
theorem dX0_isTooClose_31 : decode cX0_isTooClose 31 = .ok (.invokevirtual 104, 3) := by decide +kernel
theorem dX0_isTooClose_34 : decode cX0_isTooClose 34 = .ok (.dsub, 1) := by decide +kernel
theorem dX0_isTooClose_35 : decode cX0_isTooClose 35 = .ok (.dstore_n 3, 1) := by decide +kernel
theorem dX0_isTooClose_36 : decode cX0_isTooClose 36 = .ok (.dload_n 3, 1) := by decide +kernel
theorem dX0_isTooClose_37 : decode cX0_isTooClose 37 = .ok (.aload_n 0, 1) := by decide +kernel
theorem dX0_isTooClose_38 : decode cX0_isTooClose 38 = .ok (.getfield 113, 3) := by decide +kernel
theorem dX0_isTooClose_41 : decode cX0_isTooClose 41 = .ok (.i2d, 1) := by decide +kernel
theorem dX0_isTooClose_42 : decode cX0_isTooClose 42 = .ok (.dcmp .g, 1) := by decide +kernel
theorem dX0_isTooClose_43 : decode cX0_isTooClose 43 = .ok (.ifCond .ge 7, 3) := by decide +kernel
theorem dX0_isTooClose_46 : decode cX0_isTooClose 46 = .ok (.iconst 1, 1) := by decide +kernel
theorem dX0_isTooClose_47 : decode cX0_isTooClose 47 = .ok (.goto 4, 3) := by decide +kernel
theorem dX0_isTooClose_50 : decode cX0_isTooClose 50 = .ok (.iconst 0, 1) := by decide +kernel
theorem dX0_isTooClose_51 : decode cX0_isTooClose 51 = .ok (.ireturn, 1) := by decide +kernel
theorem dX1_init_0 : decode cX1_init 0 = .ok (.aload_n 0, 1) := by decide +kernel
theorem dX1_init_1 : decode cX1_init 1 = .ok (.invokespecial 1, 3) := by decide +kernel
theorem dX1_init_4 : decode cX1_init 4 = .ok (.aload_n 0, 1) := by decide +kernel
theorem dX1_init_5 : decode cX1_init 5 = .ok (.bipush 40, 2) := by decide +kernel
theorem dX1_init_7 : decode cX1_init 7 = .ok (.newarray .int, 2) := by decide +kernel
theorem dX1_init_9 : decode cX1_init 9 = .ok (.putfield 7, 3) := by decide +kernel
theorem dX1_init_12 : decode cX1_init 12 = .ok (.aload_n 0, 1) := by decide +kernel
theorem dX1_init_13 : decode cX1_init 13 = .ok (.sipush 640, 3) := by decide +kernel
theorem dX1_init_16 : decode cX1_init 16 = .ok (.newarray .int, 2) := by decide +kernel
theorem dX1_init_18 : decode cX1_init 18 = .ok (.putfield 13, 3) := by decide +kernel
theorem dX1_init_21 : decode cX1_init 21 = .ok (.aload_n 0, 1) := by decide +kernel
theorem dX1_init_22 : decode cX1_init 22 = .ok (.bipush 16, 2) := by decide +kernel
theorem dX1_init_24 : decode cX1_init 24 = .ok (.newarray .int, 2) := by decide +kernel
theorem dX1_init_26 : decode cX1_init 26 = .ok (.putfield 16, 3) := by decide +kernel
theorem dX1_init_29 : decode cX1_init 29 = .ok (.aload_n 0, 1) := by decide +kernel
theorem dX1_init_30 : decode cX1_init 30 = .ok (.bipush 16, 2) := by decide +kernel
theorem dX1_init_32 : decode cX1_init 32 = .ok (.newarray .boolean, 2) := by decide +kernel
theorem dX1_init_34 : decode cX1_init 34 = .ok (.putfield 19, 3) := by decide +kernel
theorem dX1_init_37 : decode cX1_init 37 = .ok (.aload_n 0, 1) := by decide +kernel
theorem dX1_init_38 : decode cX1_init 38 = .ok (.sipush 256, 3) := by decide +kernel
theorem dX1_init_41 : decode cX1_init 41 = .ok (.newarray .double, 2) := by decide +kernel
theorem dX1_init_43 : decode cX1_init 43 = .ok (.putfield 23, 3) := by decide +kernel
theorem dX1_init_46 : decode cX1_init 46 = .ok (.aload_n 0, 1) := by decide +kernel
theorem dX1_init_47 : decode cX1_init 47 = .ok (.sipush 256, 3) := by decide +kernel
theorem dX1_init_50 : decode cX1_init 50 = .ok (.newarray .double, 2) := by decide +kernel
theorem dX1_init_52 : decode cX1_init 52 = .ok (.putfield 27, 3) := by decide +kernel
theorem dX1_init_55 : decode cX1_init 55 = .ok (.aload_n 0, 1) := by decide +kernel
theorem dX1_init_56 : decode cX1_init 56 = .ok (.sipush 256, 3) := by decide +kernel
theorem dX1_init_59 : decode cX1_init 59 = .ok (.newarray .int, 2) := by decide +kernel
theorem dX1_init_61 : decode cX1_init 61 = .ok (.putfield 30, 3) := by decide +kernel
theorem dX1_init_64 : decode cX1_init 64 = .ok (.aload_n 0, 1) := by decide +kernel
theorem dX1_init_65 : decode cX1_init 65 = .ok (.iconst 1, 1) := by decide +kernel
theorem dX1_init_66 : decode cX1_init 66 = .ok (.iload_n 1, 1) := by decide +kernel
theorem dX1_init_67 : decode cX1_init 67 = .ok (.bipush 15, 2) := by decide +kernel
theorem dX1_init_69 : decode cX1_init 69 = .ok (.iand, 1) := by decide +kernel
theorem dX1_init_70 : decode cX1_init 70 = .ok (.iadd, 1) := by decide +kernel
theorem dX1_init_71 : decode cX1_init 71 = .ok (.putfield 33, 3) := by decide +kernel
theorem dX1_init_74 : decode cX1_init 74 = .ok (.return_, 1) := by decide +kernel
theorem dX1_thrown_0 : decode cX1_thrown 0 = .ok (.aload_n 0, 1) := by decide +kernel
theorem dX1_thrown_1 : decode cX1_thrown 1 = .ok (.getfield 37, 3) := by decide +kernel
theorem dX1_thrown_4 : decode cX1_thrown 4 = .ok (.ireturn, 1) := by decide +kernel
theorem dX1_example_0 : decode cX1_example 0 = .ok (.aload_n 0, 1) := by decide +kernel
theorem dX1_example_1 : decode cX1_example 1 = .ok (.iconst 0, 1) := by decide +kernel
theorem dX1_example_2 : decode cX1_example 2 = .ok (.putfield 37, 3) := by decide +kernel
theorem dX1_example_5 : decode cX1_example 5 = .ok (.iload_n 1, 1) := by decide +kernel
theorem dX1_example_6 : decode cX1_example 6 = .ok (.ifCond .lt 9, 3) := by decide +kernel
theorem dX1_example_9 : decode cX1_example 9 = .ok (.iload_n 1, 1) := by decide +kernel
theorem dX1_example_10 : decode cX1_example 10 = .ok (.bipush 15, 2) := by decide +kernel
theorem dX1_example_12 : decode cX1_example 12 = .ok (.if_icmp .le 6, 3) := by decide +kernel
theorem dX1_example_15 : decode cX1_example 15 = .ok (.bipush (-12), 2) := by decide +kernel
theorem dX1_example_17 : decode cX1_example 17 = .ok (.ireturn, 1) := by decide +kernel
theorem dX1_example_18 : decode cX1_example 18 = .ok (.aload_n 0, 1) := by decide +kernel
theorem dX1_example_19 : decode cX1_example 19 = .ok (.getfield 40, 3) := by decide +kernel
theorem dX1_example_22 : decode cX1_example 22 = .ok (.bipush 40, 2) := by decide +kernel
theorem dX1_example_24 : decode cX1_example 24 = .ok (.if_icmp .ne 6, 3) := by decide +kernel
theorem dX1_example_27 : decode cX1_example 27 = .ok (.bipush (-14), 2) := by decide +kernel
theorem dX1_example_29 : decode cX1_example 29 = .ok (.ireturn, 1) := by decide +kernel
theorem dX1_example_30 : decode cX1_example 30 = .ok (.aload_n 0, 1) := by decide +kernel
theorem dX1_example_31 : decode cX1_example 31 = .ok (.getfield 7, 3) := by decide +kernel
theorem dX1_example_34 : decode cX1_example 34 = .ok (.aload_n 0, 1) := by decide +kernel
theorem dX1_example_35 : decode cX1_example 35 = .ok (.getfield 40, 3) := by decide +kernel
theorem dX1_example_38 : decode cX1_example 38 = .ok (.iload_n 1, 1) := by decide +kernel
theorem dX1_example_39 : decode cX1_example 39 = .ok (.iastore, 1) := by decide +kernel
theorem dX1_example_40 : decode cX1_example 40 = .ok (.iconst 0, 1) := by decide +kernel
theorem dX1_example_41 : decode cX1_example 41 = .ok (.istore_n 2, 1) := by decide +kernel
theorem dX1_example_42 : decode cX1_example 42 = .ok (.iload_n 2, 1) := by decide +kernel
theorem dX1_example_43 : decode cX1_example 43 = .ok (.bipush 16, 2) := by decide +kernel
theorem dX1_example_45 : decode cX1_example 45 = .ok (.if_icmp .ge 24, 3) := by decide +kernel
theorem dX1_example_48 : decode cX1_example 48 = .ok (.aload_n 0, 1) := by decide +kernel
theorem dX1_example_49 : decode cX1_example 49 = .ok (.getfield 13, 3) := by decide +kernel
theorem dX1_example_52 : decode cX1_example 52 = .ok (.bipush 16, 2) := by decide +kernel
theorem dX1_example_54 : decode cX1_example 54 = .ok (.aload_n 0, 1) := by decide +kernel
theorem dX1_example_55 : decode cX1_example 55 = .ok (.getfield 40, 3) := by decide +kernel
theorem dX1_example_58 : decode cX1_example 58 = .ok (.imul, 1) := by decide +kernel
theorem dX1_example_59 : decode cX1_example 59 = .ok (.iload_n 2, 1) := by decide +kernel
theorem dX1_example_60 : decode cX1_example 60 = .ok (.iadd, 1) := by decide +kernel
theorem dX1_example_61 : decode cX1_example 61 = .ok (.iconst 0, 1) := by decide +kernel
theorem dX1_example_62 : decode cX1_example 62 = .ok (.iastore, 1) := by decide +kernel
theorem dX1_example_63 : decode cX1_example 63 = .ok (.iinc 2 1, 3) := by decide +kernel
theorem dX1_example_66 : decode cX1_example 66 = .ok (.goto (-24), 3) := by decide +kernel
theorem dX1_example_69 : decode cX1_example 69 = .ok (.aload_n 0, 1) := by decide +kernel
theorem dX1_example_70 : decode cX1_example 70 = .ok (.dup, 1) := by decide +kernel
theorem dX1_example_71 : decode cX1_example 71 = .ok (.getfield 40, 3) := by decide +kernel
theorem dX1_example_74 : decode cX1_example 74 = .ok (.iconst 1, 1) := by decide +kernel
theorem dX1_example_75 : decode cX1_example 75 = .ok (.iadd, 1) := by decide +kernel
theorem dX1_example_76 : decode cX1_example 76 = .ok (.putfield 40, 3) := by decide +kernel
theorem dX1_example_79 : decode cX1_example 79 = .ok (.aload_n 0, 1) := by decide +kernel
theorem dX1_example_80 : decode cX1_example 80 = .ok (.getfield 40, 3) := by decide +kernel
theorem dX1_example_83 : decode cX1_example 83 = .ok (.iconst 1, 1) := by decide +kernel
theorem dX1_example_84 : decode cX1_example 84 = .ok (.isub, 1) := by decide +kernel
theorem dX1_example_85 : decode cX1_example 85 = .ok (.ireturn, 1) := by decide +kernel
theorem dX1_isFeature_0 : decode cX1_isFeature 0 = .ok (.iload_n 1, 1) := by decide +kernel
theorem dX1_isFeature_1 : decode cX1_isFeature 1 = .ok (.ifCond .lt 15, 3) := by decide +kernel
theorem dX1_isFeature_4 : decode cX1_isFeature 4 = .ok (.iload_n 1, 1) := by decide +kernel
theorem dX1_isFeature_5 : decode cX1_isFeature 5 = .ok (.aload_n 0, 1) := by decide +kernel
theorem dX1_isFeature_6 : decode cX1_isFeature 6 = .ok (.getfield 33, 3) := by decide +kernel
theorem dX1_isFeature_9 : decode cX1_isFeature 9 = .ok (.if_icmp .ge 7, 3) := by decide +kernel
theorem dX1_isFeature_12 : decode cX1_isFeature 12 = .ok (.iconst 1, 1) := by decide +kernel
theorem dX1_isFeature_13 : decode cX1_isFeature 13 = .ok (.goto 4, 3) := by decide +kernel
theorem dX1_isFeature_16 : decode cX1_isFeature 16 = .ok (.iconst 0, 1) := by decide +kernel
theorem dX1_isFeature_17 : decode cX1_isFeature 17 = .ok (.ireturn, 1) := by decide +kernel
set_option maxRecDepth 20000 in
theorem ggX1_feature_X1_isFeature : GoodIn wsX1_feature wsX1_isFeature := goodIn_r _ [8, 9, 10, 11, 12, 13, 14, 15, 16, 17, 18, 19, 20, 21] (by decide +kernel) (by decide +kernel)
set_option maxRecDepth 20000 in
theorem gX1_feature_X1_isFeature : GoodIn wsX1_feature (wsV RX1 43 RX1 yX1_isFeature wsX1_isFeature) := goodIn_app (goodIn_of _ (by decide +kernel)) ggX1_feature_X1_isFeature
theorem dX1_feature_0 : decode cX1_feature 0 = .ok (.aload_n 0, 1) := by decide +kernel
theorem dX1_feature_1 : decode cX1_feature 1 = .ok (.iload_n 1, 1) := by decide +kernel
theorem dX1_feature_2 : decode cX1_feature 2 = .ok (.ifCond .lt 19, 3) := by decide +kernel
theorem dX1_feature_5 : decode cX1_feature 5 = .ok (.iload_n 1, 1) := by decide +kernel
theorem dX1_feature_6 : decode cX1_feature 6 = .ok (.aload_n 0, 1) := by decide +kernel
theorem dX1_feature_7 : decode cX1_feature 7 = .ok (.getfield 40, 3) := by decide +kernel
theorem dX1_feature_10 : decode cX1_feature 10 = .ok (.if_icmp .ge 11, 3) := by decide +kernel
theorem dX1_feature_13 : decode cX1_feature 13 = .ok (.aload_n 0, 1) := by decide +kernel
theorem dX1_feature_14 : decode cX1_feature 14 = .ok (.iload_n 2, 1) := by decide +kernel
theorem dX1_feature_15 : decode cX1_feature 15 = .ok (.invokevirtual 43, 3) := by decide +kernel
theorem dX1_feature_18 : decode cX1_feature 18 = .ok (.ifCond .ne 7, 3) := by decide +kernel
theorem dX1_feature_21 : decode cX1_feature 21 = .ok (.iconst 1, 1) := by decide +kernel
theorem dX1_feature_22 : decode cX1_feature 22 = .ok (.goto 4, 3) := by decide +kernel
theorem dX1_feature_25 : decode cX1_feature 25 = .ok (.iconst 0, 1) := by decide +kernel
theorem dX1_feature_26 : decode cX1_feature 26 = .ok (.putfield 37, 3) := by decide +kernel
theorem dX1_feature_29 : decode cX1_feature 29 = .ok (.aload_n 0, 1) := by decide +kernel
theorem dX1_feature_30 : decode cX1_feature 30 = .ok (.getfield 37, 3) := by decide +kernel
theorem dX1_feature_33 : decode cX1_feature 33 = .ok (.ifCond .ne 19, 3) := by decide +kernel
theorem dX1_feature_36 : decode cX1_feature 36 = .ok (.aload_n 0, 1) := by decide +kernel
theorem dX1_feature_37 : decode cX1_feature 37 = .ok (.getfield 13, 3) := by decide +kernel
theorem dX1_feature_40 : decode cX1_feature 40 = .ok (.bipush 16, 2) := by decide +kernel
theorem dX1_feature_42 : decode cX1_feature 42 = .ok (.iload_n 1, 1) := by decide +kernel
theorem dX1_feature_43 : decode cX1_feature 43 = .ok (.imul, 1) := by decide +kernel
theorem dX1_feature_44 : decode cX1_feature 44 = .ok (.iload_n 2, 1) := by decide +kernel
theorem dX1_feature_45 : decode cX1_feature 45 = .ok (.iadd, 1) := by decide +kernel
theorem dX1_feature_46 : decode cX1_feature 46 = .ok (.iload_n 3, 1) := by decide +kernel
theorem dX1_feature_47 : decode cX1_feature 47 = .ok (.sipush 255, 3) := by decide +kernel
theorem dX1_feature_50 : decode cX1_feature 50 = .ok (.iand, 1) := by decide +kernel
theorem dX1_feature_51 : decode cX1_feature 51 = .ok (.iastore, 1) := by decide +kernel
theorem dX1_feature_52 : decode cX1_feature 52 = .ok (.return_, 1) := by decide +kernel
set_option maxRecDepth 20000 in
theorem ggX1_sign_X1_isFeature : GoodIn wsX1_sign wsX1_isFeature := goodIn_r _ [7, 8, 9, 10, 11, 12, 13, 14, 15, 16, 17, 18, 19, 20] (by decide +kernel) (by decide +kernel)
set_option maxRecDepth 20000 in
theorem gX1_sign_X1_isFeature : GoodIn wsX1_sign (wsV RX1 43 RX1 yX1_isFeature wsX1_isFeature) := goodIn_app (goodIn_of _ (by decide +kernel)) ggX1_sign_X1_isFeature
theorem dX1_sign_0 : decode cX1_sign 0 = .ok (.aload_n 0, 1) := by decide +kernel
theorem dX1_sign_1 : decode cX1_sign 1 = .ok (.aload_n 0, 1) := by decide +kernel
theorem dX1_sign_2 : decode cX1_sign 2 = .ok (.iload_n 1, 1) := by decide +kernel
theorem dX1_sign_3 : decode cX1_sign 3 = .ok (.invokevirtual 43, 3) := by decide +kernel
theorem dX1_sign_6 : decode cX1_sign 6 = .ok (.ifCond .eq 7, 3) := by decide +kernel
theorem dX1_sign_9 : decode cX1_sign 9 = .ok (.iconst 0, 1) := by decide +kernel
theorem dX1_sign_10 : decode cX1_sign 10 = .ok (.goto 4, 3) := by decide +kernel
theorem dX1_sign_13 : decode cX1_sign 13 = .ok (.iconst 1, 1) := by decide +kernel
theorem dX1_sign_14 : decode cX1_sign 14 = .ok (.putfield 37, 3) := by decide +kernel
theorem dX1_sign_17 : decode cX1_sign 17 = .ok (.aload_n 0, 1) := by decide +kernel
theorem dX1_sign_18 : decode cX1_sign 18 = .ok (.getfield 37, 3) := by decide +kernel
theorem dX1_sign_21 : decode cX1_sign 21 = .ok (.ifCond .ne 14, 3) := by decide +kernel
theorem dX1_sign_24 : decode cX1_sign 24 = .ok (.aload_n 0, 1) := by decide +kernel
theorem dX1_sign_25 : decode cX1_sign 25 = .ok (.getfield 16, 3) := by decide +kernel
theorem dX1_sign_28 : decode cX1_sign 28 = .ok (.iload_n 1, 1) := by decide +kernel
theorem dX1_sign_29 : decode cX1_sign 29 = .ok (.iload_n 2, 1) := by decide +kernel
theorem dX1_sign_30 : decode cX1_sign 30 = .ok (.sipush 255, 3) := by decide +kernel
theorem dX1_sign_33 : decode cX1_sign 33 = .ok (.iand, 1) := by decide +kernel
theorem dX1_sign_34 : decode cX1_sign 34 = .ok (.iastore, 1) := by decide +kernel
theorem dX1_sign_35 : decode cX1_sign 35 = .ok (.return_, 1) := by decide +kernel
theorem dX1_size_0 : decode cX1_size 0 = .ok (.dload_n 0, 1) := by decide +kernel
theorem dX1_size_1 : decode cX1_size 1 = .ok (.dconst 0, 1) := by decide +kernel
theorem dX1_size_2 : decode cX1_size 2 = .ok (.dcmp .g, 1) := by decide +kernel
theorem dX1_size_3 : decode cX1_size 3 = .ok (.ifCond .ge 8, 3) := by decide +kernel
theorem dX1_size_6 : decode cX1_size 6 = .ok (.dload_n 0, 1) := by decide +kernel
theorem dX1_size_7 : decode cX1_size 7 = .ok (.dneg, 1) := by decide +kernel
theorem dX1_size_8 : decode cX1_size 8 = .ok (.goto 4, 3) := by decide +kernel
theorem dX1_size_11 : decode cX1_size 11 = .ok (.dload_n 0, 1) := by decide +kernel
theorem dX1_size_12 : decode cX1_size 12 = .ok (.dreturn, 1) := by decide +kernel
set_option maxRecDepth 20000 in
theorem ggX1_distanceTo_X1_size : GoodIn wsX1_distanceTo wsX1_size := goodIn_r _ [7] (by decide +kernel) (by decide +kernel)
set_option maxRecDepth 20000 in
theorem gX1_distanceTo_X1_size : GoodIn wsX1_distanceTo (va_wsS RX1 47 yX1_size wsX1_size) := goodIn_app (goodIn_of _ (by decide +kernel)) ggX1_distanceTo_X1_size
theorem dX1_distanceTo_0 : decode cX1_distanceTo 0 = .ok (.dconst 0, 1) := by decide +kernel
theorem dX1_distanceTo_1 : decode cX1_distanceTo 1 = .ok (.dstore 4, 2) := by decide +kernel
theorem dX1_distanceTo_3 : decode cX1_distanceTo 3 = .ok (.iconst 0, 1) := by decide +kernel
theorem dX1_distanceTo_4 : decode cX1_distanceTo 4 = .ok (.istore 6, 2) := by decide +kernel
theorem dX1_distanceTo_6 : decode cX1_distanceTo 6 = .ok (.iload 6, 2) := by decide +kernel
theorem dX1_distanceTo_8 : decode cX1_distanceTo 8 = .ok (.aload_n 0, 1) := by decide +kernel
theorem dX1_distanceTo_9 : decode cX1_distanceTo 9 = .ok (.getfield 33, 3) := by decide +kernel
theorem dX1_distanceTo_12 : decode cX1_distanceTo 12 = .ok (.if_icmp .ge 50, 3) := by decide +kernel
theorem dX1_distanceTo_15 : decode cX1_distanceTo 15 = .ok (.dload 4, 2) := by decide +kernel
theorem dX1_distanceTo_17 : decode cX1_distanceTo 17 = .ok (.aload_n 0, 1) := by decide +kernel
theorem dX1_distanceTo_18 : decode cX1_distanceTo 18 = .ok (.getfield 27, 3) := by decide +kernel
theorem dX1_distanceTo_21 : decode cX1_distanceTo 21 = .ok (.bipush 16, 2) := by decide +kernel
theorem dX1_distanceTo_23 : decode cX1_distanceTo 23 = .ok (.iload_n 3, 1) := by decide +kernel
theorem dX1_distanceTo_24 : decode cX1_distanceTo 24 = .ok (.imul, 1) := by decide +kernel
theorem dX1_distanceTo_25 : decode cX1_distanceTo 25 = .ok (.iload 6, 2) := by decide +kernel
theorem dX1_distanceTo_27 : decode cX1_distanceTo 27 = .ok (.iadd, 1) := by decide +kernel
theorem dX1_distanceTo_28 : decode cX1_distanceTo 28 = .ok (.daload, 1) := by decide +kernel
theorem dX1_distanceTo_29 : decode cX1_distanceTo 29 = .ok (.aload_n 1, 1) := by decide +kernel
theorem dX1_distanceTo_30 : decode cX1_distanceTo 30 = .ok (.iload_n 2, 1) := by decide +kernel
theorem dX1_distanceTo_31 : decode cX1_distanceTo 31 = .ok (.iload 6, 2) := by decide +kernel
theorem dX1_distanceTo_33 : decode cX1_distanceTo 33 = .ok (.iadd, 1) := by decide +kernel
theorem dX1_distanceTo_34 : decode cX1_distanceTo 34 = .ok (.iaload, 1) := by decide +kernel
theorem dX1_distanceTo_35 : decode cX1_distanceTo 35 = .ok (.i2d, 1) := by decide +kernel
theorem dX1_distanceTo_36 : decode cX1_distanceTo 36 = .ok (.aload_n 0, 1) := by decide +kernel
theorem dX1_distanceTo_37 : decode cX1_distanceTo 37 = .ok (.getfield 23, 3) := by decide +kernel
theorem dX1_distanceTo_40 : decode cX1_distanceTo 40 = .ok (.bipush 16, 2) := by decide +kernel
theorem dX1_distanceTo_42 : decode cX1_distanceTo 42 = .ok (.iload_n 3, 1) := by decide +kernel
theorem dX1_distanceTo_43 : decode cX1_distanceTo 43 = .ok (.imul, 1) := by decide +kernel
theorem dX1_distanceTo_44 : decode cX1_distanceTo 44 = .ok (.iload 6, 2) := by decide +kernel
theorem dX1_distanceTo_46 : decode cX1_distanceTo 46 = .ok (.iadd, 1) := by decide +kernel
theorem dX1_distanceTo_47 : decode cX1_distanceTo 47 = .ok (.daload, 1) := by decide +kernel
theorem dX1_distanceTo_48 : decode cX1_distanceTo 48 = .ok (.dsub, 1) := by decide +kernel
theorem dX1_distanceTo_49 : decode cX1_distanceTo 49 = .ok (.invokestatic 47, 3) := by decide +kernel
theorem dX1_distanceTo_52 : decode cX1_distanceTo 52 = .ok (.dmul, 1) := by decide +kernel
theorem dX1_distanceTo_53 : decode cX1_distanceTo 53 = .ok (.dadd, 1) := by decide +kernel
theorem dX1_distanceTo_54 : decode cX1_distanceTo 54 = .ok (.dstore 4, 2) := by decide +kernel
theorem dX1_distanceTo_56 : decode cX1_distanceTo 56 = .ok (.iinc 6 1, 3) := by decide +kernel
theorem dX1_distanceTo_59 : decode cX1_distanceTo 59 = .ok (.goto (-53), 3) := by decide +kernel
theorem dX1_distanceTo_62 : decode cX1_distanceTo 62 = .ok (.dload 4, 2) := by decide +kernel
theorem dX1_distanceTo_64 : decode cX1_distanceTo 64 = .ok (.dreturn, 1) := by decide +kernel
set_option maxRecDepth 20000 in
theorem ggX1_nearest_X1_distanceTo : GoodIn wsX1_nearest wsX1_distanceTo := goodIn_r _ [6, 7, 8, 9, 10, 11, 5, 12, 13, 14, 15, 16, 17, 18, 19, 20, 21, 22, 23, 24] (by decide +kernel) (by decide +kernel)
set_option maxRecDepth 20000 in
theorem gX1_nearest_X1_distanceTo : GoodIn wsX1_nearest (wsV RX1 51 RX1 yX1_distanceTo wsX1_distanceTo) := goodIn_app (goodIn_of _ (by decide +kernel)) ggX1_nearest_X1_distanceTo
theorem dX1_nearest_0 : decode cX1_nearest 0 = .ok (.iconst (-1), 1) := by decide +kernel
theorem dX1_nearest_1 : decode cX1_nearest 1 = .ok (.istore 4, 2) := by decide +kernel
theorem dX1_nearest_3 : decode cX1_nearest 3 = .ok (.dconst 0, 1) := by decide +kernel
theorem dX1_nearest_4 : decode cX1_nearest 4 = .ok (.dstore 5, 2) := by decide +kernel
theorem dX1_nearest_6 : decode cX1_nearest 6 = .ok (.iconst 0, 1) := by decide +kernel
theorem dX1_nearest_7 : decode cX1_nearest 7 = .ok (.istore 7, 2) := by decide +kernel
theorem dX1_nearest_9 : decode cX1_nearest 9 = .ok (.iload 7, 2) := by decide +kernel
theorem dX1_nearest_11 : decode cX1_nearest 11 = .ok (.bipush 16, 2) := by decide +kernel
theorem dX1_nearest_13 : decode cX1_nearest 13 = .ok (.if_icmp .ge 56, 3) := by decide +kernel
theorem dX1_nearest_16 : decode cX1_nearest 16 = .ok (.aload_n 0, 1) := by decide +kernel
theorem dX1_nearest_17 : decode cX1_nearest 17 = .ok (.getfield 19, 3) := by decide +kernel
theorem dX1_nearest_20 : decode cX1_nearest 20 = .ok (.iload 7, 2) := by decide +kernel
theorem dX1_nearest_22 : decode cX1_nearest 22 = .ok (.baload, 1) := by decide +kernel
theorem dX1_nearest_23 : decode cX1_nearest 23 = .ok (.ifCond .eq 40, 3) := by decide +kernel
theorem dX1_nearest_26 : decode cX1_nearest 26 = .ok (.iload 7, 2) := by decide +kernel
theorem dX1_nearest_28 : decode cX1_nearest 28 = .ok (.iload_n 3, 1) := by decide +kernel
theorem dX1_nearest_29 : decode cX1_nearest 29 = .ok (.if_icmp .eq 34, 3) := by decide +kernel
theorem dX1_nearest_32 : decode cX1_nearest 32 = .ok (.aload_n 0, 1) := by decide +kernel
theorem dX1_nearest_33 : decode cX1_nearest 33 = .ok (.aload_n 1, 1) := by decide +kernel
theorem dX1_nearest_34 : decode cX1_nearest 34 = .ok (.iload_n 2, 1) := by decide +kernel
theorem dX1_nearest_35 : decode cX1_nearest 35 = .ok (.iload 7, 2) := by decide +kernel
theorem dX1_nearest_37 : decode cX1_nearest 37 = .ok (.invokevirtual 51, 3) := by decide +kernel
theorem dX1_nearest_40 : decode cX1_nearest 40 = .ok (.dstore 8, 2) := by decide +kernel
theorem dX1_nearest_42 : decode cX1_nearest 42 = .ok (.iload 4, 2) := by decide +kernel
theorem dX1_nearest_44 : decode cX1_nearest 44 = .ok (.ifCond .lt 11, 3) := by decide +kernel
theorem dX1_nearest_47 : decode cX1_nearest 47 = .ok (.dload 8, 2) := by decide +kernel
theorem dX1_nearest_49 : decode cX1_nearest 49 = .ok (.dload 5, 2) := by decide +kernel
theorem dX1_nearest_51 : decode cX1_nearest 51 = .ok (.dcmp .g, 1) := by decide +kernel
theorem dX1_nearest_52 : decode cX1_nearest 52 = .ok (.ifCond .ge 11, 3) := by decide +kernel
theorem dX1_nearest_55 : decode cX1_nearest 55 = .ok (.iload 7, 2) := by decide +kernel
theorem dX1_nearest_57 : decode cX1_nearest 57 = .ok (.istore 4, 2) := by decide +kernel
theorem dX1_nearest_59 : decode cX1_nearest 59 = .ok (.dload 8, 2) := by decide +kernel
theorem dX1_nearest_61 : decode cX1_nearest 61 = .ok (.dstore 5, 2) := by decide +kernel
theorem dX1_nearest_63 : decode cX1_nearest 63 = .ok (.iinc 7 1, 3) := by decide +kernel
theorem dX1_nearest_66 : decode cX1_nearest 66 = .ok (.goto (-57), 3) := by decide +kernel
theorem dX1_nearest_69 : decode cX1_nearest 69 = .ok (.iload 4, 2) := by decide +kernel
theorem dX1_nearest_71 : decode cX1_nearest 71 = .ok (.ireturn, 1) := by decide +kernel
theorem dX1_means_0 : decode cX1_means 0 = .ok (.iconst 0, 1) := by decide +kernel
theorem dX1_means_1 : decode cX1_means 1 = .ok (.istore_n 1, 1) := by decide +kernel
theorem dX1_means_2 : decode cX1_means 2 = .ok (.iload_n 1, 1) := by decide +kernel
theorem dX1_means_3 : decode cX1_means 3 = .ok (.bipush 16, 2) := by decide +kernel
theorem dX1_means_5 : decode cX1_means 5 = .ok (.if_icmp .ge 172, 3) := by decide +kernel
theorem dX1_means_8 : decode cX1_means 8 = .ok (.iconst 0, 1) := by decide +kernel
theorem dX1_means_9 : decode cX1_means 9 = .ok (.istore_n 2, 1) := by decide +kernel
theorem dX1_means_10 : decode cX1_means 10 = .ok (.iconst 0, 1) := by decide +kernel
theorem dX1_means_11 : decode cX1_means 11 = .ok (.istore_n 3, 1) := by decide +kernel
theorem dX1_means_12 : decode cX1_means 12 = .ok (.iload_n 3, 1) := by decide +kernel
theorem dX1_means_13 : decode cX1_means 13 = .ok (.aload_n 0, 1) := by decide +kernel
theorem dX1_means_14 : decode cX1_means 14 = .ok (.getfield 40, 3) := by decide +kernel
theorem dX1_means_17 : decode cX1_means 17 = .ok (.if_icmp .ge 27, 3) := by decide +kernel
theorem dX1_means_20 : decode cX1_means 20 = .ok (.iload_n 2, 1) := by decide +kernel
theorem dX1_means_21 : decode cX1_means 21 = .ok (.aload_n 0, 1) := by decide +kernel
theorem dX1_means_22 : decode cX1_means 22 = .ok (.getfield 7, 3) := by decide +kernel
theorem dX1_means_25 : decode cX1_means 25 = .ok (.iload_n 3, 1) := by decide +kernel
theorem dX1_means_26 : decode cX1_means 26 = .ok (.iaload, 1) := by decide +kernel
theorem dX1_means_27 : decode cX1_means 27 = .ok (.iload_n 1, 1) := by decide +kernel
theorem dX1_means_28 : decode cX1_means 28 = .ok (.if_icmp .ne 7, 3) := by decide +kernel
theorem dX1_means_31 : decode cX1_means 31 = .ok (.iconst 1, 1) := by decide +kernel
theorem dX1_means_32 : decode cX1_means 32 = .ok (.goto 4, 3) := by decide +kernel
theorem dX1_means_35 : decode cX1_means 35 = .ok (.iconst 0, 1) := by decide +kernel
theorem dX1_means_36 : decode cX1_means 36 = .ok (.iadd, 1) := by decide +kernel
theorem dX1_means_37 : decode cX1_means 37 = .ok (.istore_n 2, 1) := by decide +kernel
theorem dX1_means_38 : decode cX1_means 38 = .ok (.iinc 3 1, 3) := by decide +kernel
theorem dX1_means_41 : decode cX1_means 41 = .ok (.goto (-29), 3) := by decide +kernel
theorem dX1_means_44 : decode cX1_means 44 = .ok (.aload_n 0, 1) := by decide +kernel
theorem dX1_means_45 : decode cX1_means 45 = .ok (.getfield 19, 3) := by decide +kernel
theorem dX1_means_48 : decode cX1_means 48 = .ok (.iload_n 1, 1) := by decide +kernel
theorem dX1_means_49 : decode cX1_means 49 = .ok (.iload_n 2, 1) := by decide +kernel
theorem dX1_means_50 : decode cX1_means 50 = .ok (.ifCond .le 7, 3) := by decide +kernel
theorem dX1_means_53 : decode cX1_means 53 = .ok (.iconst 1, 1) := by decide +kernel
theorem dX1_means_54 : decode cX1_means 54 = .ok (.goto 4, 3) := by decide +kernel
theorem dX1_means_57 : decode cX1_means 57 = .ok (.iconst 0, 1) := by decide +kernel
theorem dX1_means_58 : decode cX1_means 58 = .ok (.bastore, 1) := by decide +kernel
theorem dX1_means_59 : decode cX1_means 59 = .ok (.iconst 0, 1) := by decide +kernel
theorem dX1_means_60 : decode cX1_means 60 = .ok (.istore_n 3, 1) := by decide +kernel
theorem dX1_means_61 : decode cX1_means 61 = .ok (.iload_n 3, 1) := by decide +kernel
theorem dX1_means_62 : decode cX1_means 62 = .ok (.bipush 16, 2) := by decide +kernel
theorem dX1_means_64 : decode cX1_means 64 = .ok (.if_icmp .ge 107, 3) := by decide +kernel
theorem dX1_means_67 : decode cX1_means 67 = .ok (.iconst 0, 1) := by decide +kernel
theorem dX1_means_68 : decode cX1_means 68 = .ok (.istore 4, 2) := by decide +kernel
theorem dX1_means_70 : decode cX1_means 70 = .ok (.iconst 0, 1) := by decide +kernel
theorem dX1_means_71 : decode cX1_means 71 = .ok (.istore 5, 2) := by decide +kernel
theorem dX1_means_73 : decode cX1_means 73 = .ok (.iload 5, 2) := by decide +kernel
theorem dX1_means_75 : decode cX1_means 75 = .ok (.aload_n 0, 1) := by decide +kernel
theorem dX1_means_76 : decode cX1_means 76 = .ok (.getfield 40, 3) := by decide +kernel
theorem dX1_means_79 : decode cX1_means 79 = .ok (.if_icmp .ge 41, 3) := by decide +kernel
theorem dX1_means_82 : decode cX1_means 82 = .ok (.iload 4, 2) := by decide +kernel
theorem dX1_means_84 : decode cX1_means 84 = .ok (.aload_n 0, 1) := by decide +kernel
theorem dX1_means_85 : decode cX1_means 85 = .ok (.getfield 7, 3) := by decide +kernel
theorem dX1_means_88 : decode cX1_means 88 = .ok (.iload 5, 2) := by decide +kernel
theorem dX1_means_90 : decode cX1_means 90 = .ok (.iaload, 1) := by decide +kernel
theorem dX1_means_91 : decode cX1_means 91 = .ok (.iload_n 1, 1) := by decide +kernel
theorem dX1_means_92 : decode cX1_means 92 = .ok (.if_icmp .ne 18, 3) := by decide +kernel
theorem dX1_means_95 : decode cX1_means 95 = .ok (.aload_n 0, 1) := by decide +kernel
theorem dX1_means_96 : decode cX1_means 96 = .ok (.getfield 13, 3) := by decide +kernel
theorem dX1_means_99 : decode cX1_means 99 = .ok (.bipush 16, 2) := by decide +kernel
theorem dX1_means_101 : decode cX1_means 101 = .ok (.iload 5, 2) := by decide +kernel
theorem dX1_means_103 : decode cX1_means 103 = .ok (.imul, 1) := by decide +kernel
theorem dX1_means_104 : decode cX1_means 104 = .ok (.iload_n 3, 1) := by decide +kernel
theorem dX1_means_105 : decode cX1_means 105 = .ok (.iadd, 1) := by decide +kernel
theorem dX1_means_106 : decode cX1_means 106 = .ok (.iaload, 1) := by decide +kernel
theorem dX1_means_107 : decode cX1_means 107 = .ok (.goto 4, 3) := by decide +kernel
theorem dX1_means_110 : decode cX1_means 110 = .ok (.iconst 0, 1) := by decide +kernel
theorem dX1_means_111 : decode cX1_means 111 = .ok (.iadd, 1) := by decide +kernel
theorem dX1_means_112 : decode cX1_means 112 = .ok (.istore 4, 2) := by decide +kernel
theorem dX1_means_114 : decode cX1_means 114 = .ok (.iinc 5 1, 3) := by decide +kernel
theorem dX1_means_117 : decode cX1_means 117 = .ok (.goto (-44), 3) := by decide +kernel
theorem dX1_means_120 : decode cX1_means 120 = .ok (.aload_n 0, 1) := by decide +kernel
theorem dX1_means_121 : decode cX1_means 121 = .ok (.getfield 23, 3) := by decide +kernel
theorem dX1_means_124 : decode cX1_means 124 = .ok (.bipush 16, 2) := by decide +kernel
theorem dX1_means_126 : decode cX1_means 126 = .ok (.iload_n 1, 1) := by decide +kernel
theorem dX1_means_127 : decode cX1_means 127 = .ok (.imul, 1) := by decide +kernel
theorem dX1_means_128 : decode cX1_means 128 = .ok (.iload_n 3, 1) := by decide +kernel
theorem dX1_means_129 : decode cX1_means 129 = .ok (.iadd, 1) := by decide +kernel
theorem dX1_means_130 : decode cX1_means 130 = .ok (.iload_n 2, 1) := by decide +kernel
theorem dX1_means_131 : decode cX1_means 131 = .ok (.ifCond .le 12, 3) := by decide +kernel
theorem dX1_means_134 : decode cX1_means 134 = .ok (.iload 4, 2) := by decide +kernel
theorem dX1_means_136 : decode cX1_means 136 = .ok (.i2d, 1) := by decide +kernel
theorem dX1_means_137 : decode cX1_means 137 = .ok (.iload_n 2, 1) := by decide +kernel
theorem dX1_means_138 : decode cX1_means 138 = .ok (.i2d, 1) := by decide +kernel
theorem dX1_means_139 : decode cX1_means 139 = .ok (.ddiv, 1) := by decide +kernel
theorem dX1_means_140 : decode cX1_means 140 = .ok (.goto 4, 3) := by decide +kernel
theorem dX1_means_143 : decode cX1_means 143 = .ok (.dconst 0, 1) := by decide +kernel
theorem dX1_means_144 : decode cX1_means 144 = .ok (.dastore, 1) := by decide +kernel
theorem dX1_means_145 : decode cX1_means 145 = .ok (.aload_n 0, 1) := by decide +kernel
theorem dX1_means_146 : decode cX1_means 146 = .ok (.getfield 27, 3) := by decide +kernel
theorem dX1_means_149 : decode cX1_means 149 = .ok (.bipush 16, 2) := by decide +kernel
theorem dX1_means_151 : decode cX1_means 151 = .ok (.iload_n 1, 1) := by decide +kernel
theorem dX1_means_152 : decode cX1_means 152 = .ok (.imul, 1) := by decide +kernel
theorem dX1_means_153 : decode cX1_means 153 = .ok (.iload_n 3, 1) := by decide +kernel
theorem dX1_means_154 : decode cX1_means 154 = .ok (.iadd, 1) := by decide +kernel
theorem dX1_means_155 : decode cX1_means 155 = .ok (.iload_n 2, 1) := by decide +kernel
theorem dX1_means_156 : decode cX1_means 156 = .ok (.ifCond .le 7, 3) := by decide +kernel
theorem dX1_means_159 : decode cX1_means 159 = .ok (.dconst 1, 1) := by decide +kernel
theorem dX1_means_160 : decode cX1_means 160 = .ok (.goto 4, 3) := by decide +kernel
theorem dX1_means_163 : decode cX1_means 163 = .ok (.dconst 0, 1) := by decide +kernel
theorem dX1_means_164 : decode cX1_means 164 = .ok (.dastore, 1) := by decide +kernel
theorem dX1_means_165 : decode cX1_means 165 = .ok (.iinc 3 1, 3) := by decide +kernel
theorem dX1_means_168 : decode cX1_means 168 = .ok (.goto (-107), 3) := by decide +kernel
theorem dX1_means_171 : decode cX1_means 171 = .ok (.iinc 1 1, 3) := by decide +kernel
theorem dX1_means_174 : decode cX1_means 174 = .ok (.goto (-172), 3) := by decide +kernel
theorem dX1_means_177 : decode cX1_means 177 = .ok (.return_, 1) := by decide +kernel
set_option maxRecDepth 20000 in
theorem ggX1_round_X1_nearest : GoodIn wsX1_round wsX1_nearest := goodIn_r _ [13, 14, 15, 16, 17, 12, 18, 4, 6, 5, 19, 20, 21, 22, 23, 24, 25, 26, 27, 28, 29, 30, 31, 32, 33] (by decide +kernel) (by decide +kernel)
set_option maxRecDepth 20000 in
theorem gX1_round_X1_nearest : GoodIn wsX1_round (wsV RX1 55 RX1 yX1_nearest wsX1_nearest) := goodIn_app (goodIn_of _ (by decide +kernel)) ggX1_round_X1_nearest
set_option maxRecDepth 20000 in
theorem ggX1_round_X1_size : GoodIn wsX1_round wsX1_size := goodIn_r _ [21] (by decide +kernel) (by decide +kernel)
set_option maxRecDepth 20000 in
theorem gX1_round_X1_size : GoodIn wsX1_round (va_wsS RX1 47 yX1_size wsX1_size) := goodIn_app (goodIn_of _ (by decide +kernel)) ggX1_round_X1_size
theorem dX1_round_0 : decode cX1_round 0 = .ok (.iconst 0, 1) := by decide +kernel
theorem dX1_round_1 : decode cX1_round 1 = .ok (.istore_n 1, 1) := by decide +kernel
theorem dX1_round_2 : decode cX1_round 2 = .ok (.iload_n 1, 1) := by decide +kernel
theorem dX1_round_3 : decode cX1_round 3 = .ok (.aload_n 0, 1) := by decide +kernel
theorem dX1_round_4 : decode cX1_round 4 = .ok (.getfield 40, 3) := by decide +kernel
theorem dX1_round_7 : decode cX1_round 7 = .ok (.if_icmp .ge 187, 3) := by decide +kernel
theorem dX1_round_10 : decode cX1_round 10 = .ok (.aload_n 0, 1) := by decide +kernel
theorem dX1_round_11 : decode cX1_round 11 = .ok (.getfield 7, 3) := by decide +kernel
theorem dX1_round_14 : decode cX1_round 14 = .ok (.iload_n 1, 1) := by decide +kernel
theorem dX1_round_15 : decode cX1_round 15 = .ok (.iaload, 1) := by decide +kernel
theorem dX1_round_16 : decode cX1_round 16 = .ok (.istore_n 2, 1) := by decide +kernel
theorem dX1_round_17 : decode cX1_round 17 = .ok (.aload_n 0, 1) := by decide +kernel
theorem dX1_round_18 : decode cX1_round 18 = .ok (.aload_n 0, 1) := by decide +kernel
theorem dX1_round_19 : decode cX1_round 19 = .ok (.getfield 13, 3) := by decide +kernel
theorem dX1_round_22 : decode cX1_round 22 = .ok (.bipush 16, 2) := by decide +kernel
theorem dX1_round_24 : decode cX1_round 24 = .ok (.iload_n 1, 1) := by decide +kernel
theorem dX1_round_25 : decode cX1_round 25 = .ok (.imul, 1) := by decide +kernel
theorem dX1_round_26 : decode cX1_round 26 = .ok (.iconst (-1), 1) := by decide +kernel
theorem dX1_round_27 : decode cX1_round 27 = .ok (.invokevirtual 55, 3) := by decide +kernel
theorem dX1_round_30 : decode cX1_round 30 = .ok (.istore_n 3, 1) := by decide +kernel
theorem dX1_round_31 : decode cX1_round 31 = .ok (.iconst 0, 1) := by decide +kernel
theorem dX1_round_32 : decode cX1_round 32 = .ok (.istore 4, 2) := by decide +kernel
theorem dX1_round_34 : decode cX1_round 34 = .ok (.iload 4, 2) := by decide +kernel
theorem dX1_round_36 : decode cX1_round 36 = .ok (.aload_n 0, 1) := by decide +kernel
theorem dX1_round_37 : decode cX1_round 37 = .ok (.getfield 33, 3) := by decide +kernel
theorem dX1_round_40 : decode cX1_round 40 = .ok (.if_icmp .ge 148, 3) := by decide +kernel
theorem dX1_round_43 : decode cX1_round 43 = .ok (.iload_n 3, 1) := by decide +kernel
theorem dX1_round_44 : decode cX1_round 44 = .ok (.iload_n 2, 1) := by decide +kernel
theorem dX1_round_45 : decode cX1_round 45 = .ok (.if_icmp .eq 143, 3) := by decide +kernel
theorem dX1_round_48 : decode cX1_round 48 = .ok (.aload_n 0, 1) := by decide +kernel
theorem dX1_round_49 : decode cX1_round 49 = .ok (.getfield 13, 3) := by decide +kernel
theorem dX1_round_52 : decode cX1_round 52 = .ok (.bipush 16, 2) := by decide +kernel
theorem dX1_round_54 : decode cX1_round 54 = .ok (.iload_n 1, 1) := by decide +kernel
theorem dX1_round_55 : decode cX1_round 55 = .ok (.imul, 1) := by decide +kernel
theorem dX1_round_56 : decode cX1_round 56 = .ok (.iload 4, 2) := by decide +kernel
theorem dX1_round_58 : decode cX1_round 58 = .ok (.iadd, 1) := by decide +kernel
theorem dX1_round_59 : decode cX1_round 59 = .ok (.iaload, 1) := by decide +kernel
theorem dX1_round_60 : decode cX1_round 60 = .ok (.i2d, 1) := by decide +kernel
theorem dX1_round_61 : decode cX1_round 61 = .ok (.aload_n 0, 1) := by decide +kernel
theorem dX1_round_62 : decode cX1_round 62 = .ok (.getfield 23, 3) := by decide +kernel
theorem dX1_round_65 : decode cX1_round 65 = .ok (.bipush 16, 2) := by decide +kernel
theorem dX1_round_67 : decode cX1_round 67 = .ok (.iload_n 2, 1) := by decide +kernel
theorem dX1_round_68 : decode cX1_round 68 = .ok (.imul, 1) := by decide +kernel
theorem dX1_round_69 : decode cX1_round 69 = .ok (.iload 4, 2) := by decide +kernel
theorem dX1_round_71 : decode cX1_round 71 = .ok (.iadd, 1) := by decide +kernel
theorem dX1_round_72 : decode cX1_round 72 = .ok (.daload, 1) := by decide +kernel
theorem dX1_round_73 : decode cX1_round 73 = .ok (.dsub, 1) := by decide +kernel
theorem dX1_round_74 : decode cX1_round 74 = .ok (.invokestatic 47, 3) := by decide +kernel
theorem dX1_round_77 : decode cX1_round 77 = .ok (.dstore 5, 2) := by decide +kernel
theorem dX1_round_79 : decode cX1_round 79 = .ok (.aload_n 0, 1) := by decide +kernel
theorem dX1_round_80 : decode cX1_round 80 = .ok (.getfield 13, 3) := by decide +kernel
theorem dX1_round_83 : decode cX1_round 83 = .ok (.bipush 16, 2) := by decide +kernel
theorem dX1_round_85 : decode cX1_round 85 = .ok (.iload_n 1, 1) := by decide +kernel
theorem dX1_round_86 : decode cX1_round 86 = .ok (.imul, 1) := by decide +kernel
theorem dX1_round_87 : decode cX1_round 87 = .ok (.iload 4, 2) := by decide +kernel
theorem dX1_round_89 : decode cX1_round 89 = .ok (.iadd, 1) := by decide +kernel
theorem dX1_round_90 : decode cX1_round 90 = .ok (.iaload, 1) := by decide +kernel
theorem dX1_round_91 : decode cX1_round 91 = .ok (.i2d, 1) := by decide +kernel
theorem dX1_round_92 : decode cX1_round 92 = .ok (.aload_n 0, 1) := by decide +kernel
theorem dX1_round_93 : decode cX1_round 93 = .ok (.getfield 23, 3) := by decide +kernel
theorem dX1_round_96 : decode cX1_round 96 = .ok (.bipush 16, 2) := by decide +kernel
theorem dX1_round_98 : decode cX1_round 98 = .ok (.iload_n 3, 1) := by decide +kernel
theorem dX1_round_99 : decode cX1_round 99 = .ok (.imul, 1) := by decide +kernel
theorem dX1_round_100 : decode cX1_round 100 = .ok (.iload 4, 2) := by decide +kernel
theorem dX1_round_102 : decode cX1_round 102 = .ok (.iadd, 1) := by decide +kernel
theorem dX1_round_103 : decode cX1_round 103 = .ok (.daload, 1) := by decide +kernel
theorem dX1_round_104 : decode cX1_round 104 = .ok (.dsub, 1) := by decide +kernel
theorem dX1_round_105 : decode cX1_round 105 = .ok (.invokestatic 47, 3) := by decide +kernel
theorem dX1_round_108 : decode cX1_round 108 = .ok (.dstore 7, 2) := by decide +kernel
theorem dX1_round_110 : decode cX1_round 110 = .ok (.dload 5, 2) := by decide +kernel
theorem dX1_round_112 : decode cX1_round 112 = .ok (.dload 7, 2) := by decide +kernel
theorem dX1_round_114 : decode cX1_round 114 = .ok (.dcmp .l, 1) := by decide +kernel
theorem dX1_round_115 : decode cX1_round 115 = .ok (.ifCond .le 31, 3) := by decide +kernel
theorem dX1_round_118 : decode cX1_round 118 = .ok (.aload_n 0, 1) := by decide +kernel
theorem dX1_round_119 : decode cX1_round 119 = .ok (.getfield 27, 3) := by decide +kernel
theorem dX1_round_122 : decode cX1_round 122 = .ok (.bipush 16, 2) := by decide +kernel
theorem dX1_round_124 : decode cX1_round 124 = .ok (.iload_n 2, 1) := by decide +kernel
theorem dX1_round_125 : decode cX1_round 125 = .ok (.imul, 1) := by decide +kernel
theorem dX1_round_126 : decode cX1_round 126 = .ok (.iload 4, 2) := by decide +kernel
theorem dX1_round_128 : decode cX1_round 128 = .ok (.iadd, 1) := by decide +kernel
theorem dX1_round_129 : decode cX1_round 129 = .ok (.aload_n 0, 1) := by decide +kernel
theorem dX1_round_130 : decode cX1_round 130 = .ok (.getfield 27, 3) := by decide +kernel
theorem dX1_round_133 : decode cX1_round 133 = .ok (.bipush 16, 2) := by decide +kernel
theorem dX1_round_135 : decode cX1_round 135 = .ok (.iload_n 2, 1) := by decide +kernel
theorem dX1_round_136 : decode cX1_round 136 = .ok (.imul, 1) := by decide +kernel
theorem dX1_round_137 : decode cX1_round 137 = .ok (.iload 4, 2) := by decide +kernel
theorem dX1_round_139 : decode cX1_round 139 = .ok (.iadd, 1) := by decide +kernel
theorem dX1_round_140 : decode cX1_round 140 = .ok (.daload, 1) := by decide +kernel
theorem dX1_round_141 : decode cX1_round 141 = .ok (.ldc2_w 59, 3) := by decide +kernel
theorem dX1_round_144 : decode cX1_round 144 = .ok (.dmul, 1) := by decide +kernel
theorem dX1_round_145 : decode cX1_round 145 = .ok (.dastore, 1) := by decide +kernel
theorem dX1_round_146 : decode cX1_round 146 = .ok (.dload 7, 2) := by decide +kernel
theorem dX1_round_148 : decode cX1_round 148 = .ok (.dload 5, 2) := by decide +kernel
theorem dX1_round_150 : decode cX1_round 150 = .ok (.dcmp .l, 1) := by decide +kernel
theorem dX1_round_151 : decode cX1_round 151 = .ok (.ifCond .le 31, 3) := by decide +kernel
theorem dX1_round_154 : decode cX1_round 154 = .ok (.aload_n 0, 1) := by decide +kernel
theorem dX1_round_155 : decode cX1_round 155 = .ok (.getfield 27, 3) := by decide +kernel
theorem dX1_round_158 : decode cX1_round 158 = .ok (.bipush 16, 2) := by decide +kernel
theorem dX1_round_160 : decode cX1_round 160 = .ok (.iload_n 3, 1) := by decide +kernel
theorem dX1_round_161 : decode cX1_round 161 = .ok (.imul, 1) := by decide +kernel
theorem dX1_round_162 : decode cX1_round 162 = .ok (.iload 4, 2) := by decide +kernel
theorem dX1_round_164 : decode cX1_round 164 = .ok (.iadd, 1) := by decide +kernel
theorem dX1_round_165 : decode cX1_round 165 = .ok (.aload_n 0, 1) := by decide +kernel
theorem dX1_round_166 : decode cX1_round 166 = .ok (.getfield 27, 3) := by decide +kernel
theorem dX1_round_169 : decode cX1_round 169 = .ok (.bipush 16, 2) := by decide +kernel
theorem dX1_round_171 : decode cX1_round 171 = .ok (.iload_n 3, 1) := by decide +kernel
theorem dX1_round_172 : decode cX1_round 172 = .ok (.imul, 1) := by decide +kernel
theorem dX1_round_173 : decode cX1_round 173 = .ok (.iload 4, 2) := by decide +kernel
theorem dX1_round_175 : decode cX1_round 175 = .ok (.iadd, 1) := by decide +kernel
theorem dX1_round_176 : decode cX1_round 176 = .ok (.daload, 1) := by decide +kernel
theorem dX1_round_177 : decode cX1_round 177 = .ok (.ldc2_w 61, 3) := by decide +kernel
theorem dX1_round_180 : decode cX1_round 180 = .ok (.dmul, 1) := by decide +kernel
theorem dX1_round_181 : decode cX1_round 181 = .ok (.dastore, 1) := by decide +kernel
theorem dX1_round_182 : decode cX1_round 182 = .ok (.iinc 4 1, 3) := by decide +kernel
theorem dX1_round_185 : decode cX1_round 185 = .ok (.goto (-151), 3) := by decide +kernel
theorem dX1_round_188 : decode cX1_round 188 = .ok (.iinc 1 1, 3) := by decide +kernel
theorem dX1_round_191 : decode cX1_round 191 = .ok (.goto (-189), 3) := by decide +kernel
theorem dX1_round_194 : decode cX1_round 194 = .ok (.return_, 1) := by decide +kernel
set_option maxRecDepth 20000 in
theorem ggX1_make_X1_means : GoodIn wsX1_make wsX1_means := goodIn_r _ [11, 2, 4, 12, 5, 13, 14, 33, 34, 35, 36, 37, 38, 39, 40, 41, 42, 43, 44] (by decide +kernel) (by decide +kernel)
set_option maxRecDepth 20000 in
theorem gX1_make_X1_means : GoodIn wsX1_make (wsV RX1 63 RX1 yX1_means wsX1_means) := goodIn_app (goodIn_of _ (by decide +kernel)) ggX1_make_X1_means
set_option maxRecDepth 20000 in
theorem ggX1_make_X1_round : GoodIn wsX1_make wsX1_round := goodIn_r _ [18, 2, 4, 5, 19, 13, 14, 20, 21, 22, 23, 24, 10, 25, 12, 26, 27, 28, 29, 30, 31, 32, 33, 34, 35, 36, 37, 38, 39, 40, 41, 42, 43, 44] (by decide +kernel) (by decide +kernel)
set_option maxRecDepth 20000 in
theorem gX1_make_X1_round : GoodIn wsX1_make (wsV RX1 66 RX1 yX1_round wsX1_round) := goodIn_app (goodIn_of _ (by decide +kernel)) ggX1_make_X1_round
set_option maxRecDepth 20000 in
theorem ggX1_make_X1_nearest : GoodIn wsX1_make wsX1_nearest := goodIn_r _ [25, 12, 26, 27, 28, 10, 29, 19, 14, 13, 30, 31, 32, 33, 34, 35, 36, 37, 38, 39, 40, 41, 42, 43, 44] (by decide +kernel) (by decide +kernel)
set_option maxRecDepth 20000 in
theorem gX1_make_X1_nearest : GoodIn wsX1_make (wsV RX1 55 RX1 yX1_nearest wsX1_nearest) := goodIn_app (goodIn_of _ (by decide +kernel)) ggX1_make_X1_nearest
theorem dX1_make_0 : decode cX1_make 0 = .ok (.aload_n 0, 1) := by decide +kernel
theorem dX1_make_1 : decode cX1_make 1 = .ok (.iconst 0, 1) := by decide +kernel
theorem dX1_make_2 : decode cX1_make 2 = .ok (.putfield 37, 3) := by decide +kernel
theorem dX1_make_5 : decode cX1_make 5 = .ok (.iload_n 1, 1) := by decide +kernel
theorem dX1_make_6 : decode cX1_make 6 = .ok (.ifCond .lt 9, 3) := by decide +kernel
theorem dX1_make_9 : decode cX1_make 9 = .ok (.iload_n 1, 1) := by decide +kernel
theorem dX1_make_10 : decode cX1_make 10 = .ok (.bipush 20, 2) := by decide +kernel
theorem dX1_make_12 : decode cX1_make 12 = .ok (.if_icmp .le 6, 3) := by decide +kernel
theorem dX1_make_15 : decode cX1_make 15 = .ok (.bipush (-12), 2) := by decide +kernel
theorem dX1_make_17 : decode cX1_make 17 = .ok (.ireturn, 1) := by decide +kernel
theorem dX1_make_18 : decode cX1_make 18 = .ok (.aload_n 0, 1) := by decide +kernel
theorem dX1_make_19 : decode cX1_make 19 = .ok (.getfield 40, 3) := by decide +kernel
theorem dX1_make_22 : decode cX1_make 22 = .ok (.ifCond .ne 10, 3) := by decide +kernel
theorem dX1_make_25 : decode cX1_make 25 = .ok (.aload_n 0, 1) := by decide +kernel
theorem dX1_make_26 : decode cX1_make 26 = .ok (.iconst 1, 1) := by decide +kernel
theorem dX1_make_27 : decode cX1_make 27 = .ok (.putfield 37, 3) := by decide +kernel
theorem dX1_make_30 : decode cX1_make 30 = .ok (.iconst 0, 1) := by decide +kernel
theorem dX1_make_31 : decode cX1_make 31 = .ok (.ireturn, 1) := by decide +kernel
theorem dX1_make_32 : decode cX1_make 32 = .ok (.aload_n 0, 1) := by decide +kernel
theorem dX1_make_33 : decode cX1_make 33 = .ok (.invokevirtual 63, 3) := by decide +kernel
theorem dX1_make_36 : decode cX1_make 36 = .ok (.iconst 0, 1) := by decide +kernel
theorem dX1_make_37 : decode cX1_make 37 = .ok (.istore_n 2, 1) := by decide +kernel
theorem dX1_make_38 : decode cX1_make 38 = .ok (.iload_n 2, 1) := by decide +kernel
theorem dX1_make_39 : decode cX1_make 39 = .ok (.iload_n 1, 1) := by decide +kernel
theorem dX1_make_40 : decode cX1_make 40 = .ok (.if_icmp .ge 13, 3) := by decide +kernel
theorem dX1_make_43 : decode cX1_make 43 = .ok (.aload_n 0, 1) := by decide +kernel
theorem dX1_make_44 : decode cX1_make 44 = .ok (.invokevirtual 66, 3) := by decide +kernel
theorem dX1_make_47 : decode cX1_make 47 = .ok (.iinc 2 1, 3) := by decide +kernel
theorem dX1_make_50 : decode cX1_make 50 = .ok (.goto (-12), 3) := by decide +kernel
theorem dX1_make_53 : decode cX1_make 53 = .ok (.iconst 0, 1) := by decide +kernel
theorem dX1_make_54 : decode cX1_make 54 = .ok (.istore_n 2, 1) := by decide +kernel
theorem dX1_make_55 : decode cX1_make 55 = .ok (.iload_n 2, 1) := by decide +kernel
theorem dX1_make_56 : decode cX1_make 56 = .ok (.sipush 256, 3) := by decide +kernel
theorem dX1_make_59 : decode cX1_make 59 = .ok (.if_icmp .ge 16, 3) := by decide +kernel
theorem dX1_make_62 : decode cX1_make 62 = .ok (.aload_n 0, 1) := by decide +kernel
theorem dX1_make_63 : decode cX1_make 63 = .ok (.getfield 30, 3) := by decide +kernel
theorem dX1_make_66 : decode cX1_make 66 = .ok (.iload_n 2, 1) := by decide +kernel
theorem dX1_make_67 : decode cX1_make 67 = .ok (.iconst 0, 1) := by decide +kernel
theorem dX1_make_68 : decode cX1_make 68 = .ok (.iastore, 1) := by decide +kernel
theorem dX1_make_69 : decode cX1_make 69 = .ok (.iinc 2 1, 3) := by decide +kernel
theorem dX1_make_72 : decode cX1_make 72 = .ok (.goto (-17), 3) := by decide +kernel
theorem dX1_make_75 : decode cX1_make 75 = .ok (.iconst 0, 1) := by decide +kernel
theorem dX1_make_76 : decode cX1_make 76 = .ok (.istore_n 2, 1) := by decide +kernel
theorem dX1_make_77 : decode cX1_make 77 = .ok (.iload_n 2, 1) := by decide +kernel
theorem dX1_make_78 : decode cX1_make 78 = .ok (.aload_n 0, 1) := by decide +kernel
theorem dX1_make_79 : decode cX1_make 79 = .ok (.getfield 40, 3) := by decide +kernel
theorem dX1_make_82 : decode cX1_make 82 = .ok (.if_icmp .ge 41, 3) := by decide +kernel
theorem dX1_make_85 : decode cX1_make 85 = .ok (.aload_n 0, 1) := by decide +kernel
theorem dX1_make_86 : decode cX1_make 86 = .ok (.getfield 30, 3) := by decide +kernel
theorem dX1_make_89 : decode cX1_make 89 = .ok (.bipush 16, 2) := by decide +kernel
theorem dX1_make_91 : decode cX1_make 91 = .ok (.aload_n 0, 1) := by decide +kernel
theorem dX1_make_92 : decode cX1_make 92 = .ok (.getfield 7, 3) := by decide +kernel
theorem dX1_make_95 : decode cX1_make 95 = .ok (.iload_n 2, 1) := by decide +kernel
theorem dX1_make_96 : decode cX1_make 96 = .ok (.iaload, 1) := by decide +kernel
theorem dX1_make_97 : decode cX1_make 97 = .ok (.imul, 1) := by decide +kernel
theorem dX1_make_98 : decode cX1_make 98 = .ok (.aload_n 0, 1) := by decide +kernel
theorem dX1_make_99 : decode cX1_make 99 = .ok (.aload_n 0, 1) := by decide +kernel
theorem dX1_make_100 : decode cX1_make 100 = .ok (.getfield 13, 3) := by decide +kernel
theorem dX1_make_103 : decode cX1_make 103 = .ok (.bipush 16, 2) := by decide +kernel
theorem dX1_make_105 : decode cX1_make 105 = .ok (.iload_n 2, 1) := by decide +kernel
theorem dX1_make_106 : decode cX1_make 106 = .ok (.imul, 1) := by decide +kernel
theorem dX1_make_107 : decode cX1_make 107 = .ok (.iconst (-1), 1) := by decide +kernel
theorem dX1_make_108 : decode cX1_make 108 = .ok (.invokevirtual 55, 3) := by decide +kernel
theorem dX1_make_111 : decode cX1_make 111 = .ok (.iadd, 1) := by decide +kernel
theorem dX1_make_112 : decode cX1_make 112 = .ok (.dup2, 1) := by decide +kernel
theorem dX1_make_113 : decode cX1_make 113 = .ok (.iaload, 1) := by decide +kernel
theorem dX1_make_114 : decode cX1_make 114 = .ok (.iconst 1, 1) := by decide +kernel
theorem dX1_make_115 : decode cX1_make 115 = .ok (.iadd, 1) := by decide +kernel
theorem dX1_make_116 : decode cX1_make 116 = .ok (.iastore, 1) := by decide +kernel
theorem dX1_make_117 : decode cX1_make 117 = .ok (.iinc 2 1, 3) := by decide +kernel
theorem dX1_make_120 : decode cX1_make 120 = .ok (.goto (-43), 3) := by decide +kernel
theorem dX1_make_123 : decode cX1_make 123 = .ok (.aload_n 0, 1) := by decide +kernel
theorem dX1_make_124 : decode cX1_make 124 = .ok (.iconst 1, 1) := by decide +kernel
theorem dX1_make_125 : decode cX1_make 125 = .ok (.putfield 69, 3) := by decide +kernel
theorem dX1_make_128 : decode cX1_make 128 = .ok (.iconst 1, 1) := by decide +kernel
theorem dX1_make_129 : decode cX1_make 129 = .ok (.ireturn, 1) := by decide +kernel
set_option maxRecDepth 20000 in
theorem ggX1_ranked_X1_nearest : GoodIn wsX1_ranked wsX1_nearest := goodIn_r _ [6, 7, 8, 9, 10, 5, 11, 12, 13, 14, 15, 16, 17, 18, 19, 20, 21, 22, 23, 24, 25, 26, 27, 28, 29] (by decide +kernel) (by decide +kernel)
set_option maxRecDepth 20000 in
theorem gX1_ranked_X1_nearest : GoodIn wsX1_ranked (wsV RX1 55 RX1 yX1_nearest wsX1_nearest) := goodIn_app (goodIn_of _ (by decide +kernel)) ggX1_ranked_X1_nearest
theorem dX1_ranked_0 : decode cX1_ranked 0 = .ok (.aload_n 0, 1) := by decide +kernel
theorem dX1_ranked_1 : decode cX1_ranked 1 = .ok (.aload_n 0, 1) := by decide +kernel
theorem dX1_ranked_2 : decode cX1_ranked 2 = .ok (.getfield 16, 3) := by decide +kernel
theorem dX1_ranked_5 : decode cX1_ranked 5 = .ok (.iconst 0, 1) := by decide +kernel
theorem dX1_ranked_6 : decode cX1_ranked 6 = .ok (.iconst (-1), 1) := by decide +kernel
theorem dX1_ranked_7 : decode cX1_ranked 7 = .ok (.invokevirtual 55, 3) := by decide +kernel
theorem dX1_ranked_10 : decode cX1_ranked 10 = .ok (.istore_n 2, 1) := by decide +kernel
theorem dX1_ranked_11 : decode cX1_ranked 11 = .ok (.iload_n 1, 1) := by decide +kernel
theorem dX1_ranked_12 : decode cX1_ranked 12 = .ok (.ifCond .ne 7, 3) := by decide +kernel
theorem dX1_ranked_15 : decode cX1_ranked 15 = .ok (.iload_n 2, 1) := by decide +kernel
theorem dX1_ranked_16 : decode cX1_ranked 16 = .ok (.goto 13, 3) := by decide +kernel
theorem dX1_ranked_19 : decode cX1_ranked 19 = .ok (.aload_n 0, 1) := by decide +kernel
theorem dX1_ranked_20 : decode cX1_ranked 20 = .ok (.aload_n 0, 1) := by decide +kernel
theorem dX1_ranked_21 : decode cX1_ranked 21 = .ok (.getfield 16, 3) := by decide +kernel
theorem dX1_ranked_24 : decode cX1_ranked 24 = .ok (.iconst 0, 1) := by decide +kernel
theorem dX1_ranked_25 : decode cX1_ranked 25 = .ok (.iload_n 2, 1) := by decide +kernel
theorem dX1_ranked_26 : decode cX1_ranked 26 = .ok (.invokevirtual 55, 3) := by decide +kernel
theorem dX1_ranked_29 : decode cX1_ranked 29 = .ok (.ireturn, 1) := by decide +kernel
theorem dX1_refusal_0 : decode cX1_refusal 0 = .ok (.iload_n 1, 1) := by decide +kernel
theorem dX1_refusal_1 : decode cX1_refusal 1 = .ok (.ifCond .lt 8, 3) := by decide +kernel
theorem dX1_refusal_4 : decode cX1_refusal 4 = .ok (.iload_n 1, 1) := by decide +kernel
theorem dX1_refusal_5 : decode cX1_refusal 5 = .ok (.iconst 1, 1) := by decide +kernel
theorem dX1_refusal_6 : decode cX1_refusal 6 = .ok (.if_icmp .le 8, 3) := by decide +kernel
theorem dX1_refusal_9 : decode cX1_refusal 9 = .ok (.bipush (-12), 2) := by decide +kernel
theorem dX1_refusal_11 : decode cX1_refusal 11 = .ok (.goto 16, 3) := by decide +kernel
theorem dX1_refusal_14 : decode cX1_refusal 14 = .ok (.aload_n 0, 1) := by decide +kernel
theorem dX1_refusal_15 : decode cX1_refusal 15 = .ok (.getfield 69, 3) := by decide +kernel
theorem dX1_refusal_18 : decode cX1_refusal 18 = .ok (.ifCond .ne 8, 3) := by decide +kernel
theorem dX1_refusal_21 : decode cX1_refusal 21 = .ok (.bipush (-13), 2) := by decide +kernel
theorem dX1_refusal_23 : decode cX1_refusal 23 = .ok (.goto 4, 3) := by decide +kernel
theorem dX1_refusal_26 : decode cX1_refusal 26 = .ok (.iconst 0, 1) := by decide +kernel
theorem dX1_refusal_27 : decode cX1_refusal 27 = .ok (.ireturn, 1) := by decide +kernel
set_option maxRecDepth 20000 in
theorem ggX1_tell_X1_refusal : GoodIn wsX1_tell wsX1_refusal := goodIn_r _ [9, 10, 29, 30, 31, 32, 33, 34, 35, 36, 37, 38, 39, 40] (by decide +kernel) (by decide +kernel)
set_option maxRecDepth 20000 in
theorem gX1_tell_X1_refusal : GoodIn wsX1_tell (wsV RX1 73 RX1 yX1_refusal wsX1_refusal) := goodIn_app (goodIn_of _ (by decide +kernel)) ggX1_tell_X1_refusal
set_option maxRecDepth 20000 in
theorem ggX1_tell_X1_ranked : GoodIn wsX1_tell wsX1_ranked := goodIn_r _ [14, 3, 15, 16, 17, 8, 18, 19, 20, 21, 22, 23, 2, 24, 25, 26, 27, 28, 29, 30, 31, 32, 33, 34, 35, 36, 37, 38, 39, 40] (by decide +kernel) (by decide +kernel)
set_option maxRecDepth 20000 in
theorem gX1_tell_X1_ranked : GoodIn wsX1_tell (wsV RX1 77 RX1 yX1_ranked wsX1_ranked) := goodIn_app (goodIn_of _ (by decide +kernel)) ggX1_tell_X1_ranked
set_option maxRecDepth 20000 in
theorem ggX1_tell_X1_distanceTo : GoodIn wsX1_tell wsX1_distanceTo := goodIn_r _ [23, 2, 24, 25, 26, 27, 8, 28, 29, 30, 31, 32, 33, 34, 35, 36, 37, 38, 39, 40] (by decide +kernel) (by decide +kernel)
set_option maxRecDepth 20000 in
theorem gX1_tell_X1_distanceTo : GoodIn wsX1_tell (wsV RX1 51 RX1 yX1_distanceTo wsX1_distanceTo) := goodIn_app (goodIn_of _ (by decide +kernel)) ggX1_tell_X1_distanceTo
theorem dX1_tell_0 : decode cX1_tell 0 = .ok (.aload_n 0, 1) := by decide +kernel
theorem dX1_tell_1 : decode cX1_tell 1 = .ok (.iconst 0, 1) := by decide +kernel
theorem dX1_tell_2 : decode cX1_tell 2 = .ok (.putfield 37, 3) := by decide +kernel
theorem dX1_tell_5 : decode cX1_tell 5 = .ok (.aload_n 0, 1) := by decide +kernel
theorem dX1_tell_6 : decode cX1_tell 6 = .ok (.iload_n 1, 1) := by decide +kernel
theorem dX1_tell_7 : decode cX1_tell 7 = .ok (.invokevirtual 73, 3) := by decide +kernel
theorem dX1_tell_10 : decode cX1_tell 10 = .ok (.ifCond .eq 9, 3) := by decide +kernel
theorem dX1_tell_13 : decode cX1_tell 13 = .ok (.aload_n 0, 1) := by decide +kernel
theorem dX1_tell_14 : decode cX1_tell 14 = .ok (.iload_n 1, 1) := by decide +kernel
theorem dX1_tell_15 : decode cX1_tell 15 = .ok (.invokevirtual 73, 3) := by decide +kernel
theorem dX1_tell_18 : decode cX1_tell 18 = .ok (.ireturn, 1) := by decide +kernel
theorem dX1_tell_19 : decode cX1_tell 19 = .ok (.iconst 1, 1) := by decide +kernel
theorem dX1_tell_20 : decode cX1_tell 20 = .ok (.istore_n 2, 1) := by decide +kernel
theorem dX1_tell_21 : decode cX1_tell 21 = .ok (.iconst 0, 1) := by decide +kernel
theorem dX1_tell_22 : decode cX1_tell 22 = .ok (.istore_n 3, 1) := by decide +kernel
theorem dX1_tell_23 : decode cX1_tell 23 = .ok (.iload_n 3, 1) := by decide +kernel
theorem dX1_tell_24 : decode cX1_tell 24 = .ok (.aload_n 0, 1) := by decide +kernel
theorem dX1_tell_25 : decode cX1_tell 25 = .ok (.getfield 33, 3) := by decide +kernel
theorem dX1_tell_28 : decode cX1_tell 28 = .ok (.if_icmp .ge 28, 3) := by decide +kernel
theorem dX1_tell_31 : decode cX1_tell 31 = .ok (.iload_n 2, 1) := by decide +kernel
theorem dX1_tell_32 : decode cX1_tell 32 = .ok (.ifCond .eq 16, 3) := by decide +kernel
theorem dX1_tell_35 : decode cX1_tell 35 = .ok (.aload_n 0, 1) := by decide +kernel
theorem dX1_tell_36 : decode cX1_tell 36 = .ok (.getfield 16, 3) := by decide +kernel
theorem dX1_tell_39 : decode cX1_tell 39 = .ok (.iload_n 3, 1) := by decide +kernel
theorem dX1_tell_40 : decode cX1_tell 40 = .ok (.iaload, 1) := by decide +kernel
theorem dX1_tell_41 : decode cX1_tell 41 = .ok (.ifCond .ne 7, 3) := by decide +kernel
theorem dX1_tell_44 : decode cX1_tell 44 = .ok (.iconst 1, 1) := by decide +kernel
theorem dX1_tell_45 : decode cX1_tell 45 = .ok (.goto 4, 3) := by decide +kernel
theorem dX1_tell_48 : decode cX1_tell 48 = .ok (.iconst 0, 1) := by decide +kernel
theorem dX1_tell_49 : decode cX1_tell 49 = .ok (.istore_n 2, 1) := by decide +kernel
theorem dX1_tell_50 : decode cX1_tell 50 = .ok (.iinc 3 1, 3) := by decide +kernel
theorem dX1_tell_53 : decode cX1_tell 53 = .ok (.goto (-30), 3) := by decide +kernel
theorem dX1_tell_56 : decode cX1_tell 56 = .ok (.iload_n 2, 1) := by decide +kernel
theorem dX1_tell_57 : decode cX1_tell 57 = .ok (.ifCond .eq 6, 3) := by decide +kernel
theorem dX1_tell_60 : decode cX1_tell 60 = .ok (.bipush (-3), 2) := by decide +kernel
theorem dX1_tell_62 : decode cX1_tell 62 = .ok (.ireturn, 1) := by decide +kernel
theorem dX1_tell_63 : decode cX1_tell 63 = .ok (.aload_n 0, 1) := by decide +kernel
theorem dX1_tell_64 : decode cX1_tell 64 = .ok (.iconst 0, 1) := by decide +kernel
theorem dX1_tell_65 : decode cX1_tell 65 = .ok (.invokevirtual 77, 3) := by decide +kernel
theorem dX1_tell_68 : decode cX1_tell 68 = .ok (.istore_n 3, 1) := by decide +kernel
theorem dX1_tell_69 : decode cX1_tell 69 = .ok (.aload_n 0, 1) := by decide +kernel
theorem dX1_tell_70 : decode cX1_tell 70 = .ok (.iconst 1, 1) := by decide +kernel
theorem dX1_tell_71 : decode cX1_tell 71 = .ok (.invokevirtual 77, 3) := by decide +kernel
theorem dX1_tell_74 : decode cX1_tell 74 = .ok (.istore 4, 2) := by decide +kernel
theorem dX1_tell_76 : decode cX1_tell 76 = .ok (.iload 4, 2) := by decide +kernel
theorem dX1_tell_78 : decode cX1_tell 78 = .ok (.ifCond .lt 37, 3) := by decide +kernel
theorem dX1_tell_81 : decode cX1_tell 81 = .ok (.aload_n 0, 1) := by decide +kernel
theorem dX1_tell_82 : decode cX1_tell 82 = .ok (.aload_n 0, 1) := by decide +kernel
theorem dX1_tell_83 : decode cX1_tell 83 = .ok (.getfield 16, 3) := by decide +kernel
theorem dX1_tell_86 : decode cX1_tell 86 = .ok (.iconst 0, 1) := by decide +kernel
theorem dX1_tell_87 : decode cX1_tell 87 = .ok (.iload 4, 2) := by decide +kernel
theorem dX1_tell_89 : decode cX1_tell 89 = .ok (.invokevirtual 51, 3) := by decide +kernel
theorem dX1_tell_92 : decode cX1_tell 92 = .ok (.aload_n 0, 1) := by decide +kernel
theorem dX1_tell_93 : decode cX1_tell 93 = .ok (.aload_n 0, 1) := by decide +kernel
theorem dX1_tell_94 : decode cX1_tell 94 = .ok (.getfield 16, 3) := by decide +kernel
theorem dX1_tell_97 : decode cX1_tell 97 = .ok (.iconst 0, 1) := by decide +kernel
theorem dX1_tell_98 : decode cX1_tell 98 = .ok (.iload_n 3, 1) := by decide +kernel
theorem dX1_tell_99 : decode cX1_tell 99 = .ok (.invokevirtual 51, 3) := by decide +kernel
theorem dX1_tell_102 : decode cX1_tell 102 = .ok (.dsub, 1) := by decide +kernel
theorem dX1_tell_103 : decode cX1_tell 103 = .ok (.aload_n 0, 1) := by decide +kernel
theorem dX1_tell_104 : decode cX1_tell 104 = .ok (.getfield 80, 3) := by decide +kernel
theorem dX1_tell_107 : decode cX1_tell 107 = .ok (.i2d, 1) := by decide +kernel
theorem dX1_tell_108 : decode cX1_tell 108 = .ok (.dcmp .g, 1) := by decide +kernel
theorem dX1_tell_109 : decode cX1_tell 109 = .ok (.ifCond .ge 6, 3) := by decide +kernel
theorem dX1_tell_112 : decode cX1_tell 112 = .ok (.bipush (-2), 2) := by decide +kernel
theorem dX1_tell_114 : decode cX1_tell 114 = .ok (.ireturn, 1) := by decide +kernel
theorem dX1_tell_115 : decode cX1_tell 115 = .ok (.iload_n 1, 1) := by decide +kernel
theorem dX1_tell_116 : decode cX1_tell 116 = .ok (.ifCond .ne 7, 3) := by decide +kernel
theorem dX1_tell_119 : decode cX1_tell 119 = .ok (.iload_n 3, 1) := by decide +kernel
theorem dX1_tell_120 : decode cX1_tell 120 = .ok (.goto 5, 3) := by decide +kernel
theorem dX1_tell_123 : decode cX1_tell 123 = .ok (.iload 4, 2) := by decide +kernel
theorem dX1_tell_125 : decode cX1_tell 125 = .ok (.ireturn, 1) := by decide +kernel
set_option maxRecDepth 20000 in
theorem ggX1_distance_X1_refusal : GoodIn wsX1_distance wsX1_refusal := goodIn_r _ [9, 10, 30, 31, 32, 33, 34, 35, 36, 37, 38, 39, 40, 41] (by decide +kernel) (by decide +kernel)
set_option maxRecDepth 20000 in
theorem gX1_distance_X1_refusal : GoodIn wsX1_distance (wsV RX1 73 RX1 yX1_refusal wsX1_refusal) := goodIn_app (goodIn_of _ (by decide +kernel)) ggX1_distance_X1_refusal
set_option maxRecDepth 20000 in
theorem ggX1_distance_X1_ranked : GoodIn wsX1_distance wsX1_ranked := goodIn_r _ [14, 3, 15, 16, 17, 8, 18, 19, 20, 21, 22, 23, 24, 25, 26, 27, 28, 29, 30, 31, 32, 33, 34, 35, 36, 37, 38, 39, 40, 41] (by decide +kernel) (by decide +kernel)
set_option maxRecDepth 20000 in
theorem gX1_distance_X1_ranked : GoodIn wsX1_distance (wsV RX1 77 RX1 yX1_ranked wsX1_ranked) := goodIn_app (goodIn_of _ (by decide +kernel)) ggX1_distance_X1_ranked
set_option maxRecDepth 20000 in
theorem ggX1_distance_X1_distanceTo : GoodIn wsX1_distance wsX1_distanceTo := goodIn_r _ [23, 24, 25, 26, 27, 28, 8, 29, 30, 31, 32, 33, 34, 35, 36, 37, 38, 39, 40, 41] (by decide +kernel) (by decide +kernel)
set_option maxRecDepth 20000 in
theorem gX1_distance_X1_distanceTo : GoodIn wsX1_distance (wsV RX1 51 RX1 yX1_distanceTo wsX1_distanceTo) := goodIn_app (goodIn_of _ (by decide +kernel)) ggX1_distance_X1_distanceTo
theorem dX1_distance_0 : decode cX1_distance 0 = .ok (.aload_n 0, 1) := by decide +kernel
theorem dX1_distance_1 : decode cX1_distance 1 = .ok (.iconst 0, 1) := by decide +kernel
theorem dX1_distance_2 : decode cX1_distance 2 = .ok (.putfield 37, 3) := by decide +kernel
theorem dX1_distance_5 : decode cX1_distance 5 = .ok (.aload_n 0, 1) := by decide +kernel
theorem dX1_distance_6 : decode cX1_distance 6 = .ok (.iload_n 1, 1) := by decide +kernel
theorem dX1_distance_7 : decode cX1_distance 7 = .ok (.invokevirtual 73, 3) := by decide +kernel
theorem dX1_distance_10 : decode cX1_distance 10 = .ok (.ifCond .eq 10, 3) := by decide +kernel
theorem dX1_distance_13 : decode cX1_distance 13 = .ok (.aload_n 0, 1) := by decide +kernel
theorem dX1_distance_14 : decode cX1_distance 14 = .ok (.iload_n 1, 1) := by decide +kernel
theorem dX1_distance_15 : decode cX1_distance 15 = .ok (.invokevirtual 73, 3) := by decide +kernel
theorem dX1_distance_18 : decode cX1_distance 18 = .ok (.i2l, 1) := by decide +kernel
theorem dX1_distance_19 : decode cX1_distance 19 = .ok (.lreturn, 1) := by decide +kernel
theorem dX1_distance_20 : decode cX1_distance 20 = .ok (.aload_n 0, 1) := by decide +kernel
theorem dX1_distance_21 : decode cX1_distance 21 = .ok (.iload_n 1, 1) := by decide +kernel
theorem dX1_distance_22 : decode cX1_distance 22 = .ok (.invokevirtual 77, 3) := by decide +kernel
theorem dX1_distance_25 : decode cX1_distance 25 = .ok (.istore_n 2, 1) := by decide +kernel
theorem dX1_distance_26 : decode cX1_distance 26 = .ok (.iload_n 2, 1) := by decide +kernel
theorem dX1_distance_27 : decode cX1_distance 27 = .ok (.ifCond .ge 9, 3) := by decide +kernel
theorem dX1_distance_30 : decode cX1_distance 30 = .ok (.ldc2_w 83, 3) := by decide +kernel
theorem dX1_distance_33 : decode cX1_distance 33 = .ok (.goto 18, 3) := by decide +kernel
theorem dX1_distance_36 : decode cX1_distance 36 = .ok (.aload_n 0, 1) := by decide +kernel
theorem dX1_distance_37 : decode cX1_distance 37 = .ok (.aload_n 0, 1) := by decide +kernel
theorem dX1_distance_38 : decode cX1_distance 38 = .ok (.getfield 16, 3) := by decide +kernel
theorem dX1_distance_41 : decode cX1_distance 41 = .ok (.iconst 0, 1) := by decide +kernel
theorem dX1_distance_42 : decode cX1_distance 42 = .ok (.iload_n 2, 1) := by decide +kernel
theorem dX1_distance_43 : decode cX1_distance 43 = .ok (.invokevirtual 51, 3) := by decide +kernel
theorem dX1_distance_46 : decode cX1_distance 46 = .ok (.ldc2_w 85, 3) := by decide +kernel
theorem dX1_distance_49 : decode cX1_distance 49 = .ok (.dmul, 1) := by decide +kernel
theorem dX1_distance_50 : decode cX1_distance 50 = .ok (.d2l, 1) := by decide +kernel
theorem dX1_distance_51 : decode cX1_distance 51 = .ok (.lreturn, 1) := by decide +kernel
set_option maxRecDepth 20000 in
theorem ggX1_weight_X1_isFeature : GoodIn wsX1_weight wsX1_isFeature := goodIn_r _ [8, 9, 10, 11, 12, 13, 14, 15, 16, 17, 18, 19, 20, 21] (by decide +kernel) (by decide +kernel)
set_option maxRecDepth 20000 in
theorem gX1_weight_X1_isFeature : GoodIn wsX1_weight (wsV RX1 43 RX1 yX1_isFeature wsX1_isFeature) := goodIn_app (goodIn_of _ (by decide +kernel)) ggX1_weight_X1_isFeature
theorem dX1_weight_0 : decode cX1_weight 0 = .ok (.aload_n 0, 1) := by decide +kernel
theorem dX1_weight_1 : decode cX1_weight 1 = .ok (.iload_n 1, 1) := by decide +kernel
theorem dX1_weight_2 : decode cX1_weight 2 = .ok (.ifCond .lt 17, 3) := by decide +kernel
theorem dX1_weight_5 : decode cX1_weight 5 = .ok (.iload_n 1, 1) := by decide +kernel
theorem dX1_weight_6 : decode cX1_weight 6 = .ok (.bipush 15, 2) := by decide +kernel
theorem dX1_weight_8 : decode cX1_weight 8 = .ok (.if_icmp .gt 11, 3) := by decide +kernel
theorem dX1_weight_11 : decode cX1_weight 11 = .ok (.aload_n 0, 1) := by decide +kernel
theorem dX1_weight_12 : decode cX1_weight 12 = .ok (.iload_n 2, 1) := by decide +kernel
theorem dX1_weight_13 : decode cX1_weight 13 = .ok (.invokevirtual 43, 3) := by decide +kernel
theorem dX1_weight_16 : decode cX1_weight 16 = .ok (.ifCond .ne 7, 3) := by decide +kernel
theorem dX1_weight_19 : decode cX1_weight 19 = .ok (.iconst 1, 1) := by decide +kernel
theorem dX1_weight_20 : decode cX1_weight 20 = .ok (.goto 4, 3) := by decide +kernel
theorem dX1_weight_23 : decode cX1_weight 23 = .ok (.iconst 0, 1) := by decide +kernel
theorem dX1_weight_24 : decode cX1_weight 24 = .ok (.putfield 37, 3) := by decide +kernel
theorem dX1_weight_27 : decode cX1_weight 27 = .ok (.aload_n 0, 1) := by decide +kernel
theorem dX1_weight_28 : decode cX1_weight 28 = .ok (.getfield 37, 3) := by decide +kernel
theorem dX1_weight_31 : decode cX1_weight 31 = .ok (.ifCond .gt 10, 3) := by decide +kernel
theorem dX1_weight_34 : decode cX1_weight 34 = .ok (.aload_n 0, 1) := by decide +kernel
theorem dX1_weight_35 : decode cX1_weight 35 = .ok (.getfield 69, 3) := by decide +kernel
theorem dX1_weight_38 : decode cX1_weight 38 = .ok (.ifCond .ne 7, 3) := by decide +kernel
theorem dX1_weight_41 : decode cX1_weight 41 = .ok (.dconst 0, 1) := by decide +kernel
theorem dX1_weight_42 : decode cX1_weight 42 = .ok (.goto 14, 3) := by decide +kernel
theorem dX1_weight_45 : decode cX1_weight 45 = .ok (.aload_n 0, 1) := by decide +kernel
theorem dX1_weight_46 : decode cX1_weight 46 = .ok (.getfield 27, 3) := by decide +kernel
theorem dX1_weight_49 : decode cX1_weight 49 = .ok (.bipush 16, 2) := by decide +kernel
theorem dX1_weight_51 : decode cX1_weight 51 = .ok (.iload_n 1, 1) := by decide +kernel
theorem dX1_weight_52 : decode cX1_weight 52 = .ok (.imul, 1) := by decide +kernel
theorem dX1_weight_53 : decode cX1_weight 53 = .ok (.iload_n 2, 1) := by decide +kernel
theorem dX1_weight_54 : decode cX1_weight 54 = .ok (.iadd, 1) := by decide +kernel
theorem dX1_weight_55 : decode cX1_weight 55 = .ok (.daload, 1) := by decide +kernel
theorem dX1_weight_56 : decode cX1_weight 56 = .ok (.dreturn, 1) := by decide +kernel
theorem dX1_confused_0 : decode cX1_confused 0 = .ok (.aload_n 0, 1) := by decide +kernel
theorem dX1_confused_1 : decode cX1_confused 1 = .ok (.iconst 0, 1) := by decide +kernel
theorem dX1_confused_2 : decode cX1_confused 2 = .ok (.putfield 37, 3) := by decide +kernel
theorem dX1_confused_5 : decode cX1_confused 5 = .ok (.iload_n 1, 1) := by decide +kernel
theorem dX1_confused_6 : decode cX1_confused 6 = .ok (.ifCond .lt 19, 3) := by decide +kernel
theorem dX1_confused_9 : decode cX1_confused 9 = .ok (.iload_n 1, 1) := by decide +kernel
theorem dX1_confused_10 : decode cX1_confused 10 = .ok (.bipush 15, 2) := by decide +kernel
theorem dX1_confused_12 : decode cX1_confused 12 = .ok (.if_icmp .gt 13, 3) := by decide +kernel
theorem dX1_confused_15 : decode cX1_confused 15 = .ok (.iload_n 2, 1) := by decide +kernel
theorem dX1_confused_16 : decode cX1_confused 16 = .ok (.ifCond .lt 9, 3) := by decide +kernel
theorem dX1_confused_19 : decode cX1_confused 19 = .ok (.iload_n 2, 1) := by decide +kernel
theorem dX1_confused_20 : decode cX1_confused 20 = .ok (.bipush 15, 2) := by decide +kernel
theorem dX1_confused_22 : decode cX1_confused 22 = .ok (.if_icmp .le 8, 3) := by decide +kernel
theorem dX1_confused_25 : decode cX1_confused 25 = .ok (.bipush (-12), 2) := by decide +kernel
theorem dX1_confused_27 : decode cX1_confused 27 = .ok (.goto 14, 3) := by decide +kernel
theorem dX1_confused_30 : decode cX1_confused 30 = .ok (.aload_n 0, 1) := by decide +kernel
theorem dX1_confused_31 : decode cX1_confused 31 = .ok (.getfield 30, 3) := by decide +kernel
theorem dX1_confused_34 : decode cX1_confused 34 = .ok (.bipush 16, 2) := by decide +kernel
theorem dX1_confused_36 : decode cX1_confused 36 = .ok (.iload_n 1, 1) := by decide +kernel
theorem dX1_confused_37 : decode cX1_confused 37 = .ok (.imul, 1) := by decide +kernel
theorem dX1_confused_38 : decode cX1_confused 38 = .ok (.iload_n 2, 1) := by decide +kernel
theorem dX1_confused_39 : decode cX1_confused 39 = .ok (.iadd, 1) := by decide +kernel
theorem dX1_confused_40 : decode cX1_confused 40 = .ok (.iaload, 1) := by decide +kernel
theorem dX1_confused_41 : decode cX1_confused 41 = .ok (.ireturn, 1) := by decide +kernel
theorem dX1_margin_0 : decode cX1_margin 0 = .ok (.aload_n 0, 1) := by decide +kernel
theorem dX1_margin_1 : decode cX1_margin 1 = .ok (.iconst 0, 1) := by decide +kernel
theorem dX1_margin_2 : decode cX1_margin 2 = .ok (.putfield 37, 3) := by decide +kernel
theorem dX1_margin_5 : decode cX1_margin 5 = .ok (.iload_n 1, 1) := by decide +kernel
theorem dX1_margin_6 : decode cX1_margin 6 = .ok (.ifCond .lt 9, 3) := by decide +kernel
theorem dX1_margin_9 : decode cX1_margin 9 = .ok (.iload_n 1, 1) := by decide +kernel
theorem dX1_margin_10 : decode cX1_margin 10 = .ok (.ldc 87, 2) := by decide +kernel
theorem dX1_margin_12 : decode cX1_margin 12 = .ok (.if_icmp .le 6, 3) := by decide +kernel
theorem dX1_margin_15 : decode cX1_margin 15 = .ok (.bipush (-12), 2) := by decide +kernel
theorem dX1_margin_17 : decode cX1_margin 17 = .ok (.ireturn, 1) := by decide +kernel
theorem dX1_margin_18 : decode cX1_margin 18 = .ok (.aload_n 0, 1) := by decide +kernel
theorem dX1_margin_19 : decode cX1_margin 19 = .ok (.getfield 80, 3) := by decide +kernel
theorem dX1_margin_22 : decode cX1_margin 22 = .ok (.istore_n 2, 1) := by decide +kernel
theorem dX1_margin_23 : decode cX1_margin 23 = .ok (.aload_n 0, 1) := by decide +kernel
theorem dX1_margin_24 : decode cX1_margin 24 = .ok (.iload_n 1, 1) := by decide +kernel
theorem dX1_margin_25 : decode cX1_margin 25 = .ok (.putfield 80, 3) := by decide +kernel
theorem dX1_margin_28 : decode cX1_margin 28 = .ok (.iload_n 2, 1) := by decide +kernel
theorem dX1_margin_29 : decode cX1_margin 29 = .ok (.ireturn, 1) := by decide +kernel
theorem dX1_clear_0 : decode cX1_clear 0 = .ok (.aload_n 0, 1) := by decide +kernel
theorem dX1_clear_1 : decode cX1_clear 1 = .ok (.iconst 0, 1) := by decide +kernel
theorem dX1_clear_2 : decode cX1_clear 2 = .ok (.putfield 37, 3) := by decide +kernel
theorem dX1_clear_5 : decode cX1_clear 5 = .ok (.aload_n 0, 1) := by decide +kernel
theorem dX1_clear_6 : decode cX1_clear 6 = .ok (.getfield 40, 3) := by decide +kernel
theorem dX1_clear_9 : decode cX1_clear 9 = .ok (.istore_n 1, 1) := by decide +kernel
theorem dX1_clear_10 : decode cX1_clear 10 = .ok (.aload_n 0, 1) := by decide +kernel
theorem dX1_clear_11 : decode cX1_clear 11 = .ok (.iconst 0, 1) := by decide +kernel
theorem dX1_clear_12 : decode cX1_clear 12 = .ok (.putfield 40, 3) := by decide +kernel
theorem dX1_clear_15 : decode cX1_clear 15 = .ok (.iload_n 1, 1) := by decide +kernel
theorem dX1_clear_16 : decode cX1_clear 16 = .ok (.ireturn, 1) := by decide +kernel
theorem dJx00060_init_a7421_0 : decode cJx00060_init_a7421 0 = .ok (.aload_n 0, 1) := by decide +kernel
theorem dJx00060_init_a7421_1 : decode cJx00060_init_a7421 1 = .ok (.aload_n 1, 1) := by decide +kernel
theorem dJx00060_init_a7421_2 : decode cJx00060_init_a7421 2 = .ok (.invokespecial 7, 3) := by decide +kernel
theorem dJx00060_init_a7421_5 : decode cJx00060_init_a7421 5 = .ok (.return_, 1) := by decide +kernel
theorem dL_cell_0 : decode cL_cell 0 = .ok (.iload_n 1, 1) := by decide +kernel
theorem dL_cell_1 : decode cL_cell 1 = .ok (.aload_n 0, 1) := by decide +kernel
theorem dL_cell_2 : decode cL_cell 2 = .ok (.arraylength, 1) := by decide +kernel
theorem dL_cell_3 : decode cL_cell 3 = .ok (.if_icmp .ge 9, 3) := by decide +kernel
theorem dL_cell_6 : decode cL_cell 6 = .ok (.aload_n 0, 1) := by decide +kernel
theorem dL_cell_7 : decode cL_cell 7 = .ok (.iload_n 1, 1) := by decide +kernel
theorem dL_cell_8 : decode cL_cell 8 = .ok (.iaload, 1) := by decide +kernel
theorem dL_cell_9 : decode cL_cell 9 = .ok (.goto 4, 3) := by decide +kernel
theorem dL_cell_12 : decode cL_cell 12 = .ok (.iconst 0, 1) := by decide +kernel
theorem dL_cell_13 : decode cL_cell 13 = .ok (.ireturn, 1) := by decide +kernel
set_option maxRecDepth 20000 in
theorem ggL_feature_X0_feature : GoodIn wsL_feature wsX0_feature := goodIn_r _ [5, 6, 7, 8, 9, 10, 11, 12, 13, 4, 14, 15, 16, 17, 18, 19, 20, 21, 22, 23, 24, 25, 26, 27, 28, 29, 30, 31, 32, 33, 34, 35] (by decide +kernel) (by decide +kernel)
set_option maxRecDepth 20000 in
theorem gL_feature_X0_feature : GoodIn wsL_feature (wsV RL 7 RX0 yX0_feature wsX0_feature) := goodIn_app (goodIn_of _ (by decide +kernel)) ggL_feature_X0_feature
theorem dL_feature_0 : decode cL_feature 0 = .ok (.aload_n 0, 1) := by decide +kernel
theorem dL_feature_1 : decode cL_feature 1 = .ok (.iload_n 1, 1) := by decide +kernel
theorem dL_feature_2 : decode cL_feature 2 = .ok (.iload_n 2, 1) := by decide +kernel
theorem dL_feature_3 : decode cL_feature 3 = .ok (.iload_n 3, 1) := by decide +kernel
theorem dL_feature_4 : decode cL_feature 4 = .ok (.invokevirtual 7, 3) := by decide +kernel
theorem dL_feature_7 : decode cL_feature 7 = .ok (.goto 7, 3) := by decide +kernel
theorem dL_feature_10 : decode cL_feature 10 = .ok (.astore 4, 2) := by decide +kernel
theorem dL_feature_12 : decode cL_feature 12 = .ok (.iconst 1, 1) := by decide +kernel
theorem dL_feature_13 : decode cL_feature 13 = .ok (.ireturn, 1) := by decide +kernel
theorem dL_feature_14 : decode cL_feature 14 = .ok (.iconst 0, 1) := by decide +kernel
theorem dL_feature_15 : decode cL_feature 15 = .ok (.ireturn, 1) := by decide +kernel
set_option maxRecDepth 20000 in
theorem ggL_make_X0_make : GoodIn wsL_make wsX0_make := goodIn_ca (goodIn_r _ [6, 7, 8, 9, 10, 11, 12, 13, 5, 14, 15, 16, 17, 18, 19, 20, 21, 22, 23, 24, 25, 26, 27, 28, 29, 30, 31, 32, 33, 34, 35, 36, 37, 38, 39, 40, 41, 42, 43, 44, 45, 46, 47, 48, 49, 50, 51, 52, 53, 54, 55, 56, 57, 58, 59, 60, 61, 62, 63, 64, 65, 66, 67, 68] (by decide +kernel) (by decide +kernel)) (goodIn_sub (fun _ h => List.mem_cons_of_mem _ (List.mem_append_right _ h)) (by decide +kernel))
set_option maxRecDepth 20000 in
theorem gL_make_X0_make : GoodIn wsL_make (wsV RL 15 RX0 yX0_make wsX0_make) := goodIn_app (goodIn_of _ (by decide +kernel)) ggL_make_X0_make
theorem dL_make_0 : decode cL_make 0 = .ok (.aload_n 2, 1) := by decide +kernel
theorem dL_make_1 : decode cL_make 1 = .ok (.iconst 0, 1) := by decide +kernel
theorem dL_make_2 : decode cL_make 2 = .ok (.aload_n 0, 1) := by decide +kernel
theorem dL_make_3 : decode cL_make 3 = .ok (.iload_n 1, 1) := by decide +kernel
theorem dL_make_4 : decode cL_make 4 = .ok (.invokevirtual 15, 3) := by decide +kernel
theorem dL_make_7 : decode cL_make 7 = .ok (.i2l, 1) := by decide +kernel
theorem dL_make_8 : decode cL_make 8 = .ok (.lastore, 1) := by decide +kernel
theorem dL_make_9 : decode cL_make 9 = .ok (.goto 6, 3) := by decide +kernel
theorem dL_make_12 : decode cL_make 12 = .ok (.astore_n 3, 1) := by decide +kernel
theorem dL_make_13 : decode cL_make 13 = .ok (.iconst 1, 1) := by decide +kernel
theorem dL_make_14 : decode cL_make 14 = .ok (.ireturn, 1) := by decide +kernel
theorem dL_make_15 : decode cL_make 15 = .ok (.iconst 0, 1) := by decide +kernel
theorem dL_make_16 : decode cL_make 16 = .ok (.ireturn, 1) := by decide +kernel
set_option maxRecDepth 20000 in
theorem ggL_sign_X0_sign : GoodIn wsL_sign wsX0_sign := goodIn_r _ [5, 6, 7, 8, 9, 10, 11, 12, 4, 13, 14, 15, 16, 17, 18, 19, 20, 21, 22, 23, 24, 25, 26, 27, 28, 29, 30, 31, 32, 33, 34] (by decide +kernel) (by decide +kernel)
set_option maxRecDepth 20000 in
theorem gL_sign_X0_sign : GoodIn wsL_sign (wsV RL 21 RX0 yX0_sign wsX0_sign) := goodIn_app (goodIn_of _ (by decide +kernel)) ggL_sign_X0_sign
theorem dL_sign_0 : decode cL_sign 0 = .ok (.aload_n 0, 1) := by decide +kernel
theorem dL_sign_1 : decode cL_sign 1 = .ok (.iload_n 1, 1) := by decide +kernel
theorem dL_sign_2 : decode cL_sign 2 = .ok (.iload_n 2, 1) := by decide +kernel
theorem dL_sign_3 : decode cL_sign 3 = .ok (.invokevirtual 21, 3) := by decide +kernel
theorem dL_sign_6 : decode cL_sign 6 = .ok (.goto 6, 3) := by decide +kernel
theorem dL_sign_9 : decode cL_sign 9 = .ok (.astore_n 3, 1) := by decide +kernel
theorem dL_sign_10 : decode cL_sign 10 = .ok (.iconst 1, 1) := by decide +kernel
theorem dL_sign_11 : decode cL_sign 11 = .ok (.ireturn, 1) := by decide +kernel
theorem dL_sign_12 : decode cL_sign 12 = .ok (.iconst 0, 1) := by decide +kernel
theorem dL_sign_13 : decode cL_sign 13 = .ok (.ireturn, 1) := by decide +kernel
set_option maxRecDepth 20000 in
theorem ggL_weight_X0_weight : GoodIn wsL_weight wsX0_weight := goodIn_r _ [5, 6, 7, 8, 9, 10, 11, 4, 12, 13, 14, 15, 16, 17, 18, 19, 20, 21, 22, 23, 24, 25, 26, 27, 28, 29, 30, 31, 32, 33, 34] (by decide +kernel) (by decide +kernel)
set_option maxRecDepth 20000 in
theorem gL_weight_X0_weight : GoodIn wsL_weight (wsV RL 25 RX0 yX0_weight wsX0_weight) := goodIn_app (goodIn_of _ (by decide +kernel)) ggL_weight_X0_weight
theorem dL_weight_0 : decode cL_weight 0 = .ok (.aload_n 3, 1) := by decide +kernel
theorem dL_weight_1 : decode cL_weight 1 = .ok (.iconst 0, 1) := by decide +kernel
theorem dL_weight_2 : decode cL_weight 2 = .ok (.aload_n 0, 1) := by decide +kernel
theorem dL_weight_3 : decode cL_weight 3 = .ok (.iload_n 1, 1) := by decide +kernel
theorem dL_weight_4 : decode cL_weight 4 = .ok (.iload_n 2, 1) := by decide +kernel
theorem dL_weight_5 : decode cL_weight 5 = .ok (.invokevirtual 25, 3) := by decide +kernel
theorem dL_weight_8 : decode cL_weight 8 = .ok (.dastore, 1) := by decide +kernel
theorem dL_weight_9 : decode cL_weight 9 = .ok (.goto 7, 3) := by decide +kernel
theorem dL_weight_12 : decode cL_weight 12 = .ok (.astore 4, 2) := by decide +kernel
theorem dL_weight_14 : decode cL_weight 14 = .ok (.iconst 1, 1) := by decide +kernel
theorem dL_weight_15 : decode cL_weight 15 = .ok (.ireturn, 1) := by decide +kernel
theorem dL_weight_16 : decode cL_weight 16 = .ok (.iconst 0, 1) := by decide +kernel
theorem dL_weight_17 : decode cL_weight 17 = .ok (.ireturn, 1) := by decide +kernel
set_option maxRecDepth 20000 in
theorem ggL_law_L_cell : GoodIn wsL_law wsL_cell := goodIn_r _ [11] (by decide +kernel) (by decide +kernel)
set_option maxRecDepth 20000 in
theorem gL_law_L_cell : GoodIn wsL_law (va_wsS RL 29 yL_cell wsL_cell) := goodIn_app (goodIn_of _ (by decide +kernel)) ggL_law_L_cell
set_option maxRecDepth 20000 in
theorem ggL_law_X0_init : GoodIn wsL_law wsX0_init := goodIn_r _ [14, 15, 16, 17, 18, 19, 20, 21, 22, 23, 24, 25, 7, 26, 27, 28, 250, 251, 252, 253, 254, 255, 256, 257, 258, 259, 260] (by decide +kernel) (by decide +kernel)
set_option maxRecDepth 20000 in
theorem gL_law_X0_init : GoodIn wsL_law (wsX0_init) := ggL_law_X0_init
set_option maxRecDepth 20000 in
theorem ggL_law_X1_init : GoodIn wsL_law wsX1_init := goodIn_r _ [31, 32, 16, 17, 19, 33, 34, 35, 36, 37, 7, 38, 39, 40, 41, 261, 262, 263, 264, 265, 266, 267, 268, 269, 270, 271, 272] (by decide +kernel) (by decide +kernel)
set_option maxRecDepth 20000 in
theorem gL_law_X1_init : GoodIn wsL_law (wsX1_init) := ggL_law_X1_init
set_option maxRecDepth 20000 in
theorem ggL_law_X0_example : GoodIn wsL_law wsX0_example := goodIn_r _ [45, 46, 20, 18, 22, 47, 48, 2, 49, 250, 251, 252, 253, 254, 255, 256, 257, 258, 259, 260] (by decide +kernel) (by decide +kernel)
set_option maxRecDepth 20000 in
theorem gL_law_X0_example : GoodIn wsL_law (wsV RL 41 RX0 yX0_example wsX0_example) := goodIn_app (goodIn_of _ (by decide +kernel)) ggL_law_X0_example
set_option maxRecDepth 20000 in
theorem ggL_law_X1_example : GoodIn wsL_law wsX1_example := goodIn_r _ [53, 54, 55, 33, 34, 261, 262, 263, 264, 265, 266, 267, 268, 269, 270, 271, 272] (by decide +kernel) (by decide +kernel)
set_option maxRecDepth 20000 in
theorem gL_law_X1_example : GoodIn wsL_law (wsV RL 44 RX1 yX1_example wsX1_example) := goodIn_app (goodIn_of _ (by decide +kernel)) ggL_law_X1_example
set_option maxRecDepth 20000 in
theorem ggL_law_L_feature : GoodIn wsL_law wsL_feature := goodIn_r _ [58, 59, 60, 61, 2, 62, 46, 63, 64, 65, 22, 66, 67, 68, 69, 18, 70, 71, 72, 250, 251, 252, 253, 254, 255, 256, 257, 258, 259, 260, 273, 274, 275, 276, 277, 278] (by decide +kernel) (by decide +kernel)
set_option maxRecDepth 20000 in
theorem gL_law_L_feature : GoodIn wsL_law (va_wsS RL 45 yL_feature wsL_feature) := goodIn_app (goodIn_of _ (by decide +kernel)) ggL_law_L_feature
set_option maxRecDepth 20000 in
theorem ggL_law_X1_feature : GoodIn wsL_law wsX1_feature := goodIn_r _ [76, 55, 54, 34, 77, 78, 79, 5, 80, 41, 261, 262, 263, 264, 265, 266, 267, 268, 269, 270, 271, 272] (by decide +kernel) (by decide +kernel)
set_option maxRecDepth 20000 in
theorem gL_law_X1_feature : GoodIn wsL_law (wsV RL 48 RX1 yX1_feature wsX1_feature) := goodIn_app (goodIn_of _ (by decide +kernel)) ggL_law_X1_feature
set_option maxRecDepth 20000 in
theorem ggL_law_X1_thrown : GoodIn wsL_law wsX1_thrown := goodIn_r _ [84, 54, 261, 262, 263, 264, 265, 266, 267, 268, 269, 270, 271, 272] (by decide +kernel) (by decide +kernel)
set_option maxRecDepth 20000 in
theorem gL_law_X1_thrown : GoodIn wsL_law (wsV RL 49 RX1 yX1_thrown wsX1_thrown) := goodIn_app (goodIn_of _ (by decide +kernel)) ggL_law_X1_thrown
set_option maxRecDepth 20000 in
theorem ggL_law_L_make : GoodIn wsL_law wsL_make := goodIn_ca (goodIn_r _ [87, 88, 89, 90, 91, 2, 92, 93, 94, 46, 95, 96, 97, 98, 99, 24, 18, 26, 20, 22, 100, 101, 102, 103, 104, 105, 106, 107, 27, 108, 109, 110, 111, 112, 113, 114, 115, 116, 117, 118, 119, 120, 121, 122, 47, 48, 49, 123, 124, 125, 126, 127, 128, 129, 130, 131, 132, 28, 250, 251, 252, 253, 254, 255, 256, 257, 258, 259, 260] (by decide +kernel) (by decide +kernel)) (goodIn_sub (fun _ h => List.mem_append_right _ h) (by decide +kernel))
set_option maxRecDepth 20000 in
theorem gL_law_L_make : GoodIn wsL_law (va_wsS RL 53 yL_make wsL_make) := goodIn_app (goodIn_of _ (by decide +kernel)) ggL_law_L_make
set_option maxRecDepth 20000 in
theorem ggL_law_X1_make : GoodIn wsL_law wsX1_make := goodIn_r _ [136, 54, 55, 40, 33, 34, 137, 138, 139, 140, 5, 141, 37, 38, 39, 142, 143, 144, 145, 41, 146, 147, 148, 149, 150, 151, 152, 153, 154, 155, 156, 157, 158, 261, 262, 263, 264, 265, 266, 267, 268, 269, 270, 271, 272] (by decide +kernel) (by decide +kernel)
set_option maxRecDepth 20000 in
theorem gL_law_X1_make : GoodIn wsL_law (wsV RL 56 RX1 yX1_make wsX1_make) := goodIn_app (goodIn_of _ (by decide +kernel)) ggL_law_X1_make
set_option maxRecDepth 20000 in
theorem ggL_law_L_sign : GoodIn wsL_law wsL_sign := goodIn_r _ [161, 162, 163, 164, 2, 165, 63, 64, 65, 23, 66, 67, 68, 69, 18, 70, 71, 72, 273, 274, 275, 276, 277, 278, 250, 251, 252, 253, 254, 255, 256, 257, 258, 259, 260] (by decide +kernel) (by decide +kernel)
set_option maxRecDepth 20000 in
theorem gL_law_L_sign : GoodIn wsL_law (va_wsS RL 57 yL_sign wsL_sign) := goodIn_app (goodIn_of _ (by decide +kernel)) ggL_law_L_sign
set_option maxRecDepth 20000 in
theorem ggL_law_X1_sign : GoodIn wsL_law wsX1_sign := goodIn_r _ [169, 54, 35, 77, 78, 79, 5, 80, 41, 261, 262, 263, 264, 265, 266, 267, 268, 269, 270, 271, 272] (by decide +kernel) (by decide +kernel)
set_option maxRecDepth 20000 in
theorem gL_law_X1_sign : GoodIn wsL_law (wsV RL 60 RX1 yX1_sign wsX1_sign) := goodIn_app (goodIn_of _ (by decide +kernel)) ggL_law_X1_sign
set_option maxRecDepth 20000 in
theorem ggL_law_X0_tell : GoodIn wsL_law wsX0_tell := goodIn_r _ [173, 95, 23, 174, 175, 2, 176, 177, 178, 179, 180, 18, 112, 113, 114, 115, 24, 116, 117, 118, 119, 27, 26, 120, 121, 122, 181, 182, 183, 184, 185, 47, 48, 49, 250, 251, 252, 253, 254, 255, 256, 257, 258, 259, 260] (by decide +kernel) (by decide +kernel)
set_option maxRecDepth 20000 in
theorem gL_law_X0_tell : GoodIn wsL_law (wsV RL 61 RX0 yX0_tell wsX0_tell) := goodIn_app (goodIn_of _ (by decide +kernel)) ggL_law_X0_tell
set_option maxRecDepth 20000 in
theorem ggL_law_X1_tell : GoodIn wsL_law wsX1_tell := goodIn_r _ [189, 54, 41, 35, 190, 191, 192, 193, 5, 194, 137, 195, 196, 197, 198, 148, 149, 150, 151, 37, 152, 153, 154, 155, 39, 38, 156, 157, 158, 261, 262, 263, 264, 265, 266, 267, 268, 269, 270, 271, 272] (by decide +kernel) (by decide +kernel)
set_option maxRecDepth 20000 in
theorem gL_law_X1_tell : GoodIn wsL_law (wsV RL 64 RX1 yX1_tell wsX1_tell) := goodIn_app (goodIn_of _ (by decide +kernel)) ggL_law_X1_tell
set_option maxRecDepth 20000 in
theorem ggL_law_X0_distance : GoodIn wsL_law wsX0_distance := goodIn_r _ [202, 203, 95, 204, 23, 205, 206, 174, 175, 2, 176, 112, 113, 114, 115, 24, 116, 117, 118, 119, 18, 27, 26, 120, 121, 122, 47, 48, 49, 250, 251, 252, 253, 254, 255, 256, 257, 258, 259, 260] (by decide +kernel) (by decide +kernel)
set_option maxRecDepth 20000 in
theorem gL_law_X0_distance : GoodIn wsL_law (wsV RL 65 RX0 yX0_distance wsX0_distance) := goodIn_app (goodIn_of _ (by decide +kernel)) ggL_law_X0_distance
set_option maxRecDepth 20000 in
theorem ggL_law_X1_distance : GoodIn wsL_law wsX1_distance := goodIn_r _ [210, 54, 211, 35, 212, 191, 192, 193, 5, 194, 137, 195, 196, 197, 198, 148, 149, 150, 151, 37, 152, 153, 154, 155, 41, 39, 38, 156, 157, 158, 261, 262, 263, 264, 265, 266, 267, 268, 269, 270, 271, 272] (by decide +kernel) (by decide +kernel)
set_option maxRecDepth 20000 in
theorem gL_law_X1_distance : GoodIn wsL_law (wsV RL 69 RX1 yX1_distance wsX1_distance) := goodIn_app (goodIn_of _ (by decide +kernel)) ggL_law_X1_distance
set_option maxRecDepth 20000 in
theorem ggL_law_L_weight : GoodIn wsL_law wsL_weight := goodIn_r _ [215, 216, 217, 218, 2, 219, 63, 64, 65, 27, 47, 48, 49, 66, 67, 68, 69, 18, 273, 274, 275, 276, 277, 278, 250, 251, 252, 253, 254, 255, 256, 257, 258, 259, 260] (by decide +kernel) (by decide +kernel)
set_option maxRecDepth 20000 in
theorem gL_law_L_weight : GoodIn wsL_law (va_wsS RL 70 yL_weight wsL_weight) := goodIn_app (goodIn_of _ (by decide +kernel)) ggL_law_L_weight
set_option maxRecDepth 20000 in
theorem ggL_law_X1_weight : GoodIn wsL_law wsX1_weight := goodIn_r _ [223, 54, 137, 39, 77, 78, 79, 5, 80, 41, 261, 262, 263, 264, 265, 266, 267, 268, 269, 270, 271, 272] (by decide +kernel) (by decide +kernel)
set_option maxRecDepth 20000 in
theorem gL_law_X1_weight : GoodIn wsL_law (wsV RL 73 RX1 yX1_weight wsX1_weight) := goodIn_app (goodIn_of _ (by decide +kernel)) ggL_law_X1_weight
set_option maxRecDepth 20000 in
theorem ggL_law_X0_confused : GoodIn wsL_law wsX0_confused := goodIn_r _ [227, 28, 47, 48, 2, 49, 250, 251, 252, 253, 254, 255, 256, 257, 258, 259, 260] (by decide +kernel) (by decide +kernel)
set_option maxRecDepth 20000 in
theorem gL_law_X0_confused : GoodIn wsL_law (wsV RL 74 RX0 yX0_confused wsX0_confused) := goodIn_app (goodIn_of _ (by decide +kernel)) ggL_law_X0_confused
set_option maxRecDepth 20000 in
theorem ggL_law_X1_confused : GoodIn wsL_law wsX1_confused := goodIn_r _ [231, 54, 40, 261, 262, 263, 264, 265, 266, 267, 268, 269, 270, 271, 272] (by decide +kernel) (by decide +kernel)
set_option maxRecDepth 20000 in
theorem gL_law_X1_confused : GoodIn wsL_law (wsV RL 78 RX1 yX1_confused wsX1_confused) := goodIn_app (goodIn_of _ (by decide +kernel)) ggL_law_X1_confused
set_option maxRecDepth 20000 in
theorem ggL_law_X0_margin : GoodIn wsL_law wsX0_margin := goodIn_r _ [235, 236, 185, 250, 251, 252, 253, 254, 255, 256, 257, 258, 259, 260] (by decide +kernel) (by decide +kernel)
set_option maxRecDepth 20000 in
theorem gL_law_X0_margin : GoodIn wsL_law (wsV RL 79 RX0 yX0_margin wsX0_margin) := goodIn_app (goodIn_of _ (by decide +kernel)) ggL_law_X0_margin
set_option maxRecDepth 20000 in
theorem ggL_law_X1_margin : GoodIn wsL_law wsX1_margin := goodIn_r _ [240, 54, 241, 190, 261, 262, 263, 264, 265, 266, 267, 268, 269, 270, 271, 272] (by decide +kernel) (by decide +kernel)
set_option maxRecDepth 20000 in
theorem gL_law_X1_margin : GoodIn wsL_law (wsV RL 82 RX1 yX1_margin wsX1_margin) := goodIn_app (goodIn_of _ (by decide +kernel)) ggL_law_X1_margin
set_option maxRecDepth 20000 in
theorem ggL_law_X0_clear : GoodIn wsL_law wsX0_clear := goodIn_r _ [245, 46, 250, 251, 252, 253, 254, 255, 256, 257, 258, 259, 260] (by decide +kernel) (by decide +kernel)
set_option maxRecDepth 20000 in
theorem gL_law_X0_clear : GoodIn wsL_law (wsV RL 83 RX0 yX0_clear wsX0_clear) := goodIn_app (goodIn_of _ (by decide +kernel)) ggL_law_X0_clear
set_option maxRecDepth 20000 in
theorem ggL_law_X1_clear : GoodIn wsL_law wsX1_clear := goodIn_r _ [249, 54, 55, 261, 262, 263, 264, 265, 266, 267, 268, 269, 270, 271, 272] (by decide +kernel) (by decide +kernel)
set_option maxRecDepth 20000 in
theorem gL_law_X1_clear : GoodIn wsL_law (wsV RL 86 RX1 yX1_clear wsX1_clear) := goodIn_app (goodIn_of _ (by decide +kernel)) ggL_law_X1_clear
theorem dL_law_0 : decode cL_law 0 = .ok (.new 8, 3) := by decide +kernel
theorem dL_law_3 : decode cL_law 3 = .ok (.dup, 1) := by decide +kernel
theorem dL_law_4 : decode cL_law 4 = .ok (.aload_n 0, 1) := by decide +kernel
theorem dL_law_5 : decode cL_law 5 = .ok (.iconst 0, 1) := by decide +kernel
theorem dL_law_6 : decode cL_law 6 = .ok (.invokestatic 29, 3) := by decide +kernel
theorem dL_law_9 : decode cL_law 9 = .ok (.invokespecial 35, 3) := by decide +kernel
theorem dL_law_12 : decode cL_law 12 = .ok (.astore_n 1, 1) := by decide +kernel
theorem dL_law_13 : decode cL_law 13 = .ok (.new 38, 3) := by decide +kernel
theorem dL_law_16 : decode cL_law 16 = .ok (.dup, 1) := by decide +kernel
theorem dL_law_17 : decode cL_law 17 = .ok (.aload_n 0, 1) := by decide +kernel
theorem dL_law_18 : decode cL_law 18 = .ok (.iconst 0, 1) := by decide +kernel
theorem dL_law_19 : decode cL_law 19 = .ok (.invokestatic 29, 3) := by decide +kernel
theorem dL_law_22 : decode cL_law 22 = .ok (.invokespecial 40, 3) := by decide +kernel
theorem dL_law_25 : decode cL_law 25 = .ok (.astore_n 2, 1) := by decide +kernel
theorem dL_law_26 : decode cL_law 26 = .ok (.iconst 1, 1) := by decide +kernel
theorem dL_law_27 : decode cL_law 27 = .ok (.newarray .long, 2) := by decide +kernel
theorem dL_law_29 : decode cL_law 29 = .ok (.astore_n 3, 1) := by decide +kernel
theorem dL_law_30 : decode cL_law 30 = .ok (.iconst 1, 1) := by decide +kernel
theorem dL_law_31 : decode cL_law 31 = .ok (.newarray .double, 2) := by decide +kernel
theorem dL_law_33 : decode cL_law 33 = .ok (.astore 4, 2) := by decide +kernel
theorem dL_law_35 : decode cL_law 35 = .ok (.iconst 1, 1) := by decide +kernel
theorem dL_law_36 : decode cL_law 36 = .ok (.istore 5, 2) := by decide +kernel
theorem dL_law_38 : decode cL_law 38 = .ok (.iload 5, 2) := by decide +kernel
theorem dL_law_40 : decode cL_law 40 = .ok (.aload_n 0, 1) := by decide +kernel
theorem dL_law_41 : decode cL_law 41 = .ok (.arraylength, 1) := by decide +kernel
theorem dL_law_42 : decode cL_law 42 = .ok (.iconst 4, 1) := by decide +kernel
theorem dL_law_43 : decode cL_law 43 = .ok (.isub, 1) := by decide +kernel
theorem dL_law_44 : decode cL_law 44 = .ok (.if_icmp .gt 474, 3) := by decide +kernel
theorem dL_law_47 : decode cL_law 47 = .ok (.aload_n 0, 1) := by decide +kernel
theorem dL_law_48 : decode cL_law 48 = .ok (.iload 5, 2) := by decide +kernel
theorem dL_law_50 : decode cL_law 50 = .ok (.iaload, 1) := by decide +kernel
theorem dL_law_51 : decode cL_law 51 = .ok (.bipush 15, 2) := by decide +kernel
theorem dL_law_53 : decode cL_law 53 = .ok (.iand, 1) := by decide +kernel
theorem dL_law_54 : decode cL_law 54 = .ok (.tableswitch 458 0 9 #[54, 79, 139, 195, 243, 268, 294, 383, 420, 445], 54) := by decide +kernel
theorem dL_law_108 : decode cL_law 108 = .ok (.aload_n 1, 1) := by decide +kernel
theorem dL_law_109 : decode cL_law 109 = .ok (.aload_n 0, 1) := by decide +kernel
theorem dL_law_110 : decode cL_law 110 = .ok (.iload 5, 2) := by decide +kernel
theorem dL_law_112 : decode cL_law 112 = .ok (.iconst 1, 1) := by decide +kernel
theorem dL_law_113 : decode cL_law 113 = .ok (.iadd, 1) := by decide +kernel
theorem dL_law_114 : decode cL_law 114 = .ok (.iaload, 1) := by decide +kernel
theorem dL_law_115 : decode cL_law 115 = .ok (.invokevirtual 41, 3) := by decide +kernel
theorem dL_law_118 : decode cL_law 118 = .ok (.aload_n 2, 1) := by decide +kernel
theorem dL_law_119 : decode cL_law 119 = .ok (.aload_n 0, 1) := by decide +kernel
theorem dL_law_120 : decode cL_law 120 = .ok (.iload 5, 2) := by decide +kernel
theorem dL_law_122 : decode cL_law 122 = .ok (.iconst 1, 1) := by decide +kernel
theorem dL_law_123 : decode cL_law 123 = .ok (.iadd, 1) := by decide +kernel
theorem dL_law_124 : decode cL_law 124 = .ok (.iaload, 1) := by decide +kernel
theorem dL_law_125 : decode cL_law 125 = .ok (.invokevirtual 44, 3) := by decide +kernel
theorem dL_law_128 : decode cL_law 128 = .ok (.if_icmp .eq 384, 3) := by decide +kernel
theorem dL_law_131 : decode cL_law 131 = .ok (.iconst 0, 1) := by decide +kernel
theorem dL_law_132 : decode cL_law 132 = .ok (.ireturn, 1) := by decide +kernel
theorem dL_law_133 : decode cL_law 133 = .ok (.aload_n 1, 1) := by decide +kernel
theorem dL_law_134 : decode cL_law 134 = .ok (.aload_n 0, 1) := by decide +kernel
theorem dL_law_135 : decode cL_law 135 = .ok (.iload 5, 2) := by decide +kernel
theorem dL_law_137 : decode cL_law 137 = .ok (.iconst 1, 1) := by decide +kernel
theorem dL_law_138 : decode cL_law 138 = .ok (.iadd, 1) := by decide +kernel
theorem dL_law_139 : decode cL_law 139 = .ok (.iaload, 1) := by decide +kernel
theorem dL_law_140 : decode cL_law 140 = .ok (.aload_n 0, 1) := by decide +kernel
theorem dL_law_141 : decode cL_law 141 = .ok (.iload 5, 2) := by decide +kernel
theorem dL_law_143 : decode cL_law 143 = .ok (.iconst 2, 1) := by decide +kernel
theorem dL_law_144 : decode cL_law 144 = .ok (.iadd, 1) := by decide +kernel
theorem dL_law_145 : decode cL_law 145 = .ok (.iaload, 1) := by decide +kernel
theorem dL_law_146 : decode cL_law 146 = .ok (.aload_n 0, 1) := by decide +kernel
theorem dL_law_147 : decode cL_law 147 = .ok (.iload 5, 2) := by decide +kernel
theorem dL_law_149 : decode cL_law 149 = .ok (.iconst 3, 1) := by decide +kernel
theorem dL_law_150 : decode cL_law 150 = .ok (.iadd, 1) := by decide +kernel
theorem dL_law_151 : decode cL_law 151 = .ok (.iaload, 1) := by decide +kernel
theorem dL_law_152 : decode cL_law 152 = .ok (.invokestatic 45, 3) := by decide +kernel
theorem dL_law_155 : decode cL_law 155 = .ok (.istore 6, 2) := by decide +kernel
theorem dL_law_157 : decode cL_law 157 = .ok (.aload_n 2, 1) := by decide +kernel
theorem dL_law_158 : decode cL_law 158 = .ok (.aload_n 0, 1) := by decide +kernel
theorem dL_law_159 : decode cL_law 159 = .ok (.iload 5, 2) := by decide +kernel
theorem dL_law_161 : decode cL_law 161 = .ok (.iconst 1, 1) := by decide +kernel
theorem dL_law_162 : decode cL_law 162 = .ok (.iadd, 1) := by decide +kernel
theorem dL_law_163 : decode cL_law 163 = .ok (.iaload, 1) := by decide +kernel
theorem dL_law_164 : decode cL_law 164 = .ok (.aload_n 0, 1) := by decide +kernel
theorem dL_law_165 : decode cL_law 165 = .ok (.iload 5, 2) := by decide +kernel
theorem dL_law_167 : decode cL_law 167 = .ok (.iconst 2, 1) := by decide +kernel
theorem dL_law_168 : decode cL_law 168 = .ok (.iadd, 1) := by decide +kernel
theorem dL_law_169 : decode cL_law 169 = .ok (.iaload, 1) := by decide +kernel
theorem dL_law_170 : decode cL_law 170 = .ok (.aload_n 0, 1) := by decide +kernel
theorem dL_law_171 : decode cL_law 171 = .ok (.iload 5, 2) := by decide +kernel
theorem dL_law_173 : decode cL_law 173 = .ok (.iconst 3, 1) := by decide +kernel
theorem dL_law_174 : decode cL_law 174 = .ok (.iadd, 1) := by decide +kernel
theorem dL_law_175 : decode cL_law 175 = .ok (.iaload, 1) := by decide +kernel
theorem dL_law_176 : decode cL_law 176 = .ok (.invokevirtual 48, 3) := by decide +kernel
theorem dL_law_179 : decode cL_law 179 = .ok (.aload_n 2, 1) := by decide +kernel
theorem dL_law_180 : decode cL_law 180 = .ok (.invokevirtual 49, 3) := by decide +kernel
theorem dL_law_183 : decode cL_law 183 = .ok (.iload 6, 2) := by decide +kernel
theorem dL_law_185 : decode cL_law 185 = .ok (.if_icmp .eq 5, 3) := by decide +kernel
theorem dL_law_188 : decode cL_law 188 = .ok (.iconst 0, 1) := by decide +kernel
theorem dL_law_189 : decode cL_law 189 = .ok (.ireturn, 1) := by decide +kernel
theorem dL_law_190 : decode cL_law 190 = .ok (.goto 322, 3) := by decide +kernel
theorem dL_law_193 : decode cL_law 193 = .ok (.aload_n 1, 1) := by decide +kernel
theorem dL_law_194 : decode cL_law 194 = .ok (.aload_n 0, 1) := by decide +kernel
theorem dL_law_195 : decode cL_law 195 = .ok (.iload 5, 2) := by decide +kernel
theorem dL_law_197 : decode cL_law 197 = .ok (.iconst 1, 1) := by decide +kernel
theorem dL_law_198 : decode cL_law 198 = .ok (.iadd, 1) := by decide +kernel
theorem dL_law_199 : decode cL_law 199 = .ok (.iaload, 1) := by decide +kernel
theorem dL_law_200 : decode cL_law 200 = .ok (.aload_n 3, 1) := by decide +kernel
theorem dL_law_201 : decode cL_law 201 = .ok (.invokestatic 53, 3) := by decide +kernel
theorem dL_law_204 : decode cL_law 204 = .ok (.istore 6, 2) := by decide +kernel
theorem dL_law_206 : decode cL_law 206 = .ok (.aload_n 2, 1) := by decide +kernel
theorem dL_law_207 : decode cL_law 207 = .ok (.aload_n 0, 1) := by decide +kernel
theorem dL_law_208 : decode cL_law 208 = .ok (.iload 5, 2) := by decide +kernel
theorem dL_law_210 : decode cL_law 210 = .ok (.iconst 1, 1) := by decide +kernel
theorem dL_law_211 : decode cL_law 211 = .ok (.iadd, 1) := by decide +kernel
theorem dL_law_212 : decode cL_law 212 = .ok (.iaload, 1) := by decide +kernel
theorem dL_law_213 : decode cL_law 213 = .ok (.invokevirtual 56, 3) := by decide +kernel
theorem dL_law_216 : decode cL_law 216 = .ok (.istore 7, 2) := by decide +kernel
theorem dL_law_218 : decode cL_law 218 = .ok (.aload_n 2, 1) := by decide +kernel
theorem dL_law_219 : decode cL_law 219 = .ok (.invokevirtual 49, 3) := by decide +kernel
theorem dL_law_222 : decode cL_law 222 = .ok (.iload 6, 2) := by decide +kernel
theorem dL_law_224 : decode cL_law 224 = .ok (.if_icmp .eq 5, 3) := by decide +kernel
theorem dL_law_227 : decode cL_law 227 = .ok (.iconst 0, 1) := by decide +kernel
theorem dL_law_228 : decode cL_law 228 = .ok (.ireturn, 1) := by decide +kernel
theorem dL_law_229 : decode cL_law 229 = .ok (.iload 6, 2) := by decide +kernel
theorem dL_law_231 : decode cL_law 231 = .ok (.ifCond .ne 15, 3) := by decide +kernel
theorem dL_law_234 : decode cL_law 234 = .ok (.aload_n 3, 1) := by decide +kernel
theorem dL_law_235 : decode cL_law 235 = .ok (.iconst 0, 1) := by decide +kernel
theorem dL_law_236 : decode cL_law 236 = .ok (.laload, 1) := by decide +kernel
theorem dL_law_237 : decode cL_law 237 = .ok (.iload 7, 2) := by decide +kernel
theorem dL_law_239 : decode cL_law 239 = .ok (.i2l, 1) := by decide +kernel
theorem dL_law_240 : decode cL_law 240 = .ok (.lcmp, 1) := by decide +kernel
theorem dL_law_241 : decode cL_law 241 = .ok (.ifCond .eq 5, 3) := by decide +kernel
theorem dL_law_244 : decode cL_law 244 = .ok (.iconst 0, 1) := by decide +kernel
theorem dL_law_245 : decode cL_law 245 = .ok (.ireturn, 1) := by decide +kernel
theorem dL_law_246 : decode cL_law 246 = .ok (.goto 266, 3) := by decide +kernel
theorem dL_law_249 : decode cL_law 249 = .ok (.aload_n 1, 1) := by decide +kernel
theorem dL_law_250 : decode cL_law 250 = .ok (.aload_n 0, 1) := by decide +kernel
theorem dL_law_251 : decode cL_law 251 = .ok (.iload 5, 2) := by decide +kernel
theorem dL_law_253 : decode cL_law 253 = .ok (.iconst 1, 1) := by decide +kernel
theorem dL_law_254 : decode cL_law 254 = .ok (.iadd, 1) := by decide +kernel
theorem dL_law_255 : decode cL_law 255 = .ok (.iaload, 1) := by decide +kernel
theorem dL_law_256 : decode cL_law 256 = .ok (.aload_n 0, 1) := by decide +kernel
theorem dL_law_257 : decode cL_law 257 = .ok (.iload 5, 2) := by decide +kernel
theorem dL_law_259 : decode cL_law 259 = .ok (.iconst 2, 1) := by decide +kernel
theorem dL_law_260 : decode cL_law 260 = .ok (.iadd, 1) := by decide +kernel
theorem dL_law_261 : decode cL_law 261 = .ok (.iaload, 1) := by decide +kernel
theorem dL_law_262 : decode cL_law 262 = .ok (.invokestatic 57, 3) := by decide +kernel
theorem dL_law_265 : decode cL_law 265 = .ok (.istore 6, 2) := by decide +kernel
theorem dL_law_267 : decode cL_law 267 = .ok (.aload_n 2, 1) := by decide +kernel
theorem dL_law_268 : decode cL_law 268 = .ok (.aload_n 0, 1) := by decide +kernel
theorem dL_law_269 : decode cL_law 269 = .ok (.iload 5, 2) := by decide +kernel
theorem dL_law_271 : decode cL_law 271 = .ok (.iconst 1, 1) := by decide +kernel
theorem dL_law_272 : decode cL_law 272 = .ok (.iadd, 1) := by decide +kernel
theorem dL_law_273 : decode cL_law 273 = .ok (.iaload, 1) := by decide +kernel
theorem dL_law_274 : decode cL_law 274 = .ok (.aload_n 0, 1) := by decide +kernel
theorem dL_law_275 : decode cL_law 275 = .ok (.iload 5, 2) := by decide +kernel
theorem dL_law_277 : decode cL_law 277 = .ok (.iconst 2, 1) := by decide +kernel
theorem dL_law_278 : decode cL_law 278 = .ok (.iadd, 1) := by decide +kernel
theorem dL_law_279 : decode cL_law 279 = .ok (.iaload, 1) := by decide +kernel
theorem dL_law_280 : decode cL_law 280 = .ok (.invokevirtual 60, 3) := by decide +kernel
theorem dL_law_283 : decode cL_law 283 = .ok (.aload_n 2, 1) := by decide +kernel
theorem dL_law_284 : decode cL_law 284 = .ok (.invokevirtual 49, 3) := by decide +kernel
theorem dL_law_287 : decode cL_law 287 = .ok (.iload 6, 2) := by decide +kernel
theorem dL_law_289 : decode cL_law 289 = .ok (.if_icmp .eq 5, 3) := by decide +kernel
theorem dL_law_292 : decode cL_law 292 = .ok (.iconst 0, 1) := by decide +kernel
theorem dL_law_293 : decode cL_law 293 = .ok (.ireturn, 1) := by decide +kernel
theorem dL_law_294 : decode cL_law 294 = .ok (.goto 218, 3) := by decide +kernel
theorem dL_law_297 : decode cL_law 297 = .ok (.aload_n 1, 1) := by decide +kernel
theorem dL_law_298 : decode cL_law 298 = .ok (.aload_n 0, 1) := by decide +kernel
theorem dL_law_299 : decode cL_law 299 = .ok (.iload 5, 2) := by decide +kernel
theorem dL_law_301 : decode cL_law 301 = .ok (.iconst 1, 1) := by decide +kernel
theorem dL_law_302 : decode cL_law 302 = .ok (.iadd, 1) := by decide +kernel
theorem dL_law_303 : decode cL_law 303 = .ok (.iaload, 1) := by decide +kernel
theorem dL_law_304 : decode cL_law 304 = .ok (.invokevirtual 61, 3) := by decide +kernel
theorem dL_law_307 : decode cL_law 307 = .ok (.aload_n 2, 1) := by decide +kernel
theorem dL_law_308 : decode cL_law 308 = .ok (.aload_n 0, 1) := by decide +kernel
theorem dL_law_309 : decode cL_law 309 = .ok (.iload 5, 2) := by decide +kernel
theorem dL_law_311 : decode cL_law 311 = .ok (.iconst 1, 1) := by decide +kernel
theorem dL_law_312 : decode cL_law 312 = .ok (.iadd, 1) := by decide +kernel
theorem dL_law_313 : decode cL_law 313 = .ok (.iaload, 1) := by decide +kernel
theorem dL_law_314 : decode cL_law 314 = .ok (.invokevirtual 64, 3) := by decide +kernel
theorem dL_law_317 : decode cL_law 317 = .ok (.if_icmp .eq 195, 3) := by decide +kernel
theorem dL_law_320 : decode cL_law 320 = .ok (.iconst 0, 1) := by decide +kernel
theorem dL_law_321 : decode cL_law 321 = .ok (.ireturn, 1) := by decide +kernel
theorem dL_law_322 : decode cL_law 322 = .ok (.aload_n 1, 1) := by decide +kernel
theorem dL_law_323 : decode cL_law 323 = .ok (.aload_n 0, 1) := by decide +kernel
theorem dL_law_324 : decode cL_law 324 = .ok (.iload 5, 2) := by decide +kernel
theorem dL_law_326 : decode cL_law 326 = .ok (.iconst 1, 1) := by decide +kernel
theorem dL_law_327 : decode cL_law 327 = .ok (.iadd, 1) := by decide +kernel
theorem dL_law_328 : decode cL_law 328 = .ok (.iaload, 1) := by decide +kernel
theorem dL_law_329 : decode cL_law 329 = .ok (.invokevirtual 65, 3) := by decide +kernel
theorem dL_law_332 : decode cL_law 332 = .ok (.aload_n 2, 1) := by decide +kernel
theorem dL_law_333 : decode cL_law 333 = .ok (.aload_n 0, 1) := by decide +kernel
theorem dL_law_334 : decode cL_law 334 = .ok (.iload 5, 2) := by decide +kernel
theorem dL_law_336 : decode cL_law 336 = .ok (.iconst 1, 1) := by decide +kernel
theorem dL_law_337 : decode cL_law 337 = .ok (.iadd, 1) := by decide +kernel
theorem dL_law_338 : decode cL_law 338 = .ok (.iaload, 1) := by decide +kernel
theorem dL_law_339 : decode cL_law 339 = .ok (.invokevirtual 69, 3) := by decide +kernel
theorem dL_law_342 : decode cL_law 342 = .ok (.lcmp, 1) := by decide +kernel
theorem dL_law_343 : decode cL_law 343 = .ok (.ifCond .eq 169, 3) := by decide +kernel
theorem dL_law_346 : decode cL_law 346 = .ok (.iconst 0, 1) := by decide +kernel
theorem dL_law_347 : decode cL_law 347 = .ok (.ireturn, 1) := by decide +kernel
theorem dL_law_348 : decode cL_law 348 = .ok (.aload_n 1, 1) := by decide +kernel
theorem dL_law_349 : decode cL_law 349 = .ok (.aload_n 0, 1) := by decide +kernel
theorem dL_law_350 : decode cL_law 350 = .ok (.iload 5, 2) := by decide +kernel
theorem dL_law_352 : decode cL_law 352 = .ok (.iconst 1, 1) := by decide +kernel
theorem dL_law_353 : decode cL_law 353 = .ok (.iadd, 1) := by decide +kernel
theorem dL_law_354 : decode cL_law 354 = .ok (.iaload, 1) := by decide +kernel
theorem dL_law_355 : decode cL_law 355 = .ok (.aload_n 0, 1) := by decide +kernel
theorem dL_law_356 : decode cL_law 356 = .ok (.iload 5, 2) := by decide +kernel
theorem dL_law_358 : decode cL_law 358 = .ok (.iconst 2, 1) := by decide +kernel
theorem dL_law_359 : decode cL_law 359 = .ok (.iadd, 1) := by decide +kernel
theorem dL_law_360 : decode cL_law 360 = .ok (.iaload, 1) := by decide +kernel
theorem dL_law_361 : decode cL_law 361 = .ok (.aload 4, 2) := by decide +kernel
theorem dL_law_363 : decode cL_law 363 = .ok (.invokestatic 70, 3) := by decide +kernel
theorem dL_law_366 : decode cL_law 366 = .ok (.istore 6, 2) := by decide +kernel
theorem dL_law_368 : decode cL_law 368 = .ok (.aload_n 2, 1) := by decide +kernel
theorem dL_law_369 : decode cL_law 369 = .ok (.aload_n 0, 1) := by decide +kernel
theorem dL_law_370 : decode cL_law 370 = .ok (.iload 5, 2) := by decide +kernel
theorem dL_law_372 : decode cL_law 372 = .ok (.iconst 1, 1) := by decide +kernel
theorem dL_law_373 : decode cL_law 373 = .ok (.iadd, 1) := by decide +kernel
theorem dL_law_374 : decode cL_law 374 = .ok (.iaload, 1) := by decide +kernel
theorem dL_law_375 : decode cL_law 375 = .ok (.aload_n 0, 1) := by decide +kernel
theorem dL_law_376 : decode cL_law 376 = .ok (.iload 5, 2) := by decide +kernel
theorem dL_law_378 : decode cL_law 378 = .ok (.iconst 2, 1) := by decide +kernel
theorem dL_law_379 : decode cL_law 379 = .ok (.iadd, 1) := by decide +kernel
theorem dL_law_380 : decode cL_law 380 = .ok (.iaload, 1) := by decide +kernel
theorem dL_law_381 : decode cL_law 381 = .ok (.invokevirtual 73, 3) := by decide +kernel
theorem dL_law_384 : decode cL_law 384 = .ok (.dstore 7, 2) := by decide +kernel
theorem dL_law_386 : decode cL_law 386 = .ok (.aload_n 2, 1) := by decide +kernel
theorem dL_law_387 : decode cL_law 387 = .ok (.invokevirtual 49, 3) := by decide +kernel
theorem dL_law_390 : decode cL_law 390 = .ok (.iload 6, 2) := by decide +kernel
theorem dL_law_392 : decode cL_law 392 = .ok (.if_icmp .eq 5, 3) := by decide +kernel
theorem dL_law_395 : decode cL_law 395 = .ok (.iconst 0, 1) := by decide +kernel
theorem dL_law_396 : decode cL_law 396 = .ok (.ireturn, 1) := by decide +kernel
theorem dL_law_397 : decode cL_law 397 = .ok (.iload 6, 2) := by decide +kernel
theorem dL_law_399 : decode cL_law 399 = .ok (.ifCond .ne 35, 3) := by decide +kernel
theorem dL_law_402 : decode cL_law 402 = .ok (.aload 4, 2) := by decide +kernel
theorem dL_law_404 : decode cL_law 404 = .ok (.iconst 0, 1) := by decide +kernel
theorem dL_law_405 : decode cL_law 405 = .ok (.daload, 1) := by decide +kernel
theorem dL_law_406 : decode cL_law 406 = .ok (.dload 7, 2) := by decide +kernel
theorem dL_law_408 : decode cL_law 408 = .ok (.dcmp .l, 1) := by decide +kernel
theorem dL_law_409 : decode cL_law 409 = .ok (.ifCond .eq 25, 3) := by decide +kernel
theorem dL_law_412 : decode cL_law 412 = .ok (.aload 4, 2) := by decide +kernel
theorem dL_law_414 : decode cL_law 414 = .ok (.iconst 0, 1) := by decide +kernel
theorem dL_law_415 : decode cL_law 415 = .ok (.daload, 1) := by decide +kernel
theorem dL_law_416 : decode cL_law 416 = .ok (.aload 4, 2) := by decide +kernel
theorem dL_law_418 : decode cL_law 418 = .ok (.iconst 0, 1) := by decide +kernel
theorem dL_law_419 : decode cL_law 419 = .ok (.daload, 1) := by decide +kernel
theorem dL_law_420 : decode cL_law 420 = .ok (.dcmp .l, 1) := by decide +kernel
theorem dL_law_421 : decode cL_law 421 = .ok (.ifCond .eq 11, 3) := by decide +kernel
theorem dL_law_424 : decode cL_law 424 = .ok (.dload 7, 2) := by decide +kernel
theorem dL_law_426 : decode cL_law 426 = .ok (.dload 7, 2) := by decide +kernel
theorem dL_law_428 : decode cL_law 428 = .ok (.dcmp .l, 1) := by decide +kernel
theorem dL_law_429 : decode cL_law 429 = .ok (.ifCond .ne 5, 3) := by decide +kernel
theorem dL_law_432 : decode cL_law 432 = .ok (.iconst 0, 1) := by decide +kernel
theorem dL_law_433 : decode cL_law 433 = .ok (.ireturn, 1) := by decide +kernel
theorem dL_law_434 : decode cL_law 434 = .ok (.goto 78, 3) := by decide +kernel
theorem dL_law_437 : decode cL_law 437 = .ok (.aload_n 1, 1) := by decide +kernel
theorem dL_law_438 : decode cL_law 438 = .ok (.aload_n 0, 1) := by decide +kernel
theorem dL_law_439 : decode cL_law 439 = .ok (.iload 5, 2) := by decide +kernel
theorem dL_law_441 : decode cL_law 441 = .ok (.iconst 1, 1) := by decide +kernel
theorem dL_law_442 : decode cL_law 442 = .ok (.iadd, 1) := by decide +kernel
theorem dL_law_443 : decode cL_law 443 = .ok (.iaload, 1) := by decide +kernel
theorem dL_law_444 : decode cL_law 444 = .ok (.aload_n 0, 1) := by decide +kernel
theorem dL_law_445 : decode cL_law 445 = .ok (.iload 5, 2) := by decide +kernel
theorem dL_law_447 : decode cL_law 447 = .ok (.iconst 2, 1) := by decide +kernel
theorem dL_law_448 : decode cL_law 448 = .ok (.iadd, 1) := by decide +kernel
theorem dL_law_449 : decode cL_law 449 = .ok (.iaload, 1) := by decide +kernel
theorem dL_law_450 : decode cL_law 450 = .ok (.invokevirtual 74, 3) := by decide +kernel
theorem dL_law_453 : decode cL_law 453 = .ok (.aload_n 2, 1) := by decide +kernel
theorem dL_law_454 : decode cL_law 454 = .ok (.aload_n 0, 1) := by decide +kernel
theorem dL_law_455 : decode cL_law 455 = .ok (.iload 5, 2) := by decide +kernel
theorem dL_law_457 : decode cL_law 457 = .ok (.iconst 1, 1) := by decide +kernel
theorem dL_law_458 : decode cL_law 458 = .ok (.iadd, 1) := by decide +kernel
theorem dL_law_459 : decode cL_law 459 = .ok (.iaload, 1) := by decide +kernel
theorem dL_law_460 : decode cL_law 460 = .ok (.aload_n 0, 1) := by decide +kernel
theorem dL_law_461 : decode cL_law 461 = .ok (.iload 5, 2) := by decide +kernel
theorem dL_law_463 : decode cL_law 463 = .ok (.iconst 2, 1) := by decide +kernel
theorem dL_law_464 : decode cL_law 464 = .ok (.iadd, 1) := by decide +kernel
theorem dL_law_465 : decode cL_law 465 = .ok (.iaload, 1) := by decide +kernel
theorem dL_law_466 : decode cL_law 466 = .ok (.invokevirtual 78, 3) := by decide +kernel
theorem dL_law_469 : decode cL_law 469 = .ok (.if_icmp .eq 43, 3) := by decide +kernel
theorem dL_law_472 : decode cL_law 472 = .ok (.iconst 0, 1) := by decide +kernel
theorem dL_law_473 : decode cL_law 473 = .ok (.ireturn, 1) := by decide +kernel
theorem dL_law_474 : decode cL_law 474 = .ok (.aload_n 1, 1) := by decide +kernel
theorem dL_law_475 : decode cL_law 475 = .ok (.aload_n 0, 1) := by decide +kernel
theorem dL_law_476 : decode cL_law 476 = .ok (.iload 5, 2) := by decide +kernel
theorem dL_law_478 : decode cL_law 478 = .ok (.iconst 1, 1) := by decide +kernel
theorem dL_law_479 : decode cL_law 479 = .ok (.iadd, 1) := by decide +kernel
theorem dL_law_480 : decode cL_law 480 = .ok (.iaload, 1) := by decide +kernel
theorem dL_law_481 : decode cL_law 481 = .ok (.invokevirtual 79, 3) := by decide +kernel
theorem dL_law_484 : decode cL_law 484 = .ok (.aload_n 2, 1) := by decide +kernel
theorem dL_law_485 : decode cL_law 485 = .ok (.aload_n 0, 1) := by decide +kernel
theorem dL_law_486 : decode cL_law 486 = .ok (.iload 5, 2) := by decide +kernel
theorem dL_law_488 : decode cL_law 488 = .ok (.iconst 1, 1) := by decide +kernel
theorem dL_law_489 : decode cL_law 489 = .ok (.iadd, 1) := by decide +kernel
theorem dL_law_490 : decode cL_law 490 = .ok (.iaload, 1) := by decide +kernel
theorem dL_law_491 : decode cL_law 491 = .ok (.invokevirtual 82, 3) := by decide +kernel
theorem dL_law_494 : decode cL_law 494 = .ok (.if_icmp .eq 18, 3) := by decide +kernel
theorem dL_law_497 : decode cL_law 497 = .ok (.iconst 0, 1) := by decide +kernel
theorem dL_law_498 : decode cL_law 498 = .ok (.ireturn, 1) := by decide +kernel
theorem dL_law_499 : decode cL_law 499 = .ok (.aload_n 1, 1) := by decide +kernel
theorem dL_law_500 : decode cL_law 500 = .ok (.invokevirtual 83, 3) := by decide +kernel
theorem dL_law_503 : decode cL_law 503 = .ok (.aload_n 2, 1) := by decide +kernel
theorem dL_law_504 : decode cL_law 504 = .ok (.invokevirtual 86, 3) := by decide +kernel
theorem dL_law_507 : decode cL_law 507 = .ok (.if_icmp .eq 5, 3) := by decide +kernel
theorem dL_law_510 : decode cL_law 510 = .ok (.iconst 0, 1) := by decide +kernel
theorem dL_law_511 : decode cL_law 511 = .ok (.ireturn, 1) := by decide +kernel
theorem dL_law_512 : decode cL_law 512 = .ok (.iinc 5 4, 3) := by decide +kernel
theorem dL_law_515 : decode cL_law 515 = .ok (.goto (-477), 3) := by decide +kernel
theorem dL_law_518 : decode cL_law 518 = .ok (.iconst 1, 1) := by decide +kernel
theorem dL_law_519 : decode cL_law 519 = .ok (.ireturn, 1) := by decide +kernel
abbrev vwCl : List vw_C := [(RJx00060, TJx00060, 6), (RX0, TX0, 11), (RX1, TX1, 12)]
/-! ===== END printed: names (without the pool) ===== -/
end
section
/-! ===== doubles: magnitudes, whole numbers, the functions that class and reference share ===== -/
/-- the magnitude of x is at most 2^(K - 1023) -/
def mg (K : Nat) (x : UInt64) : Prop := x.toNat % 2 ^ 63 ≤ K * 2 ^ 52
theorem mg_mono {K L : Nat} {x : UInt64} (h : mg K x) (hl : K ≤ L) : mg L x := Nat.le_trans h (Nat.mul_le_mul_right _ hl)
theorem mg_n64 {K : Nat} {x : UInt64} (h : mg K x) (hK : K ≤ 2046) : vf_n64 x := by
  unfold vf_n64
  unfold mg at h
  rw [UInt64.le_iff_toNat_le, UInt64.toNat_and]
  rw [show (0x7fffffffffffffff : UInt64).toNat = 2 ^ 63 - 1 by decide +kernel, Nat.and_two_pow_sub_one_eq_mod]
  rw [show (0x7ff0000000000000 : UInt64).toNat = 2047 * 2 ^ 52 by decide +kernel]
  exact Nat.le_trans h (Nat.mul_le_mul_right _ (Nat.le_succ_of_le hK))
theorem mg_fin {K : Nat} {x : UInt64} (h : mg K x) (hK : K ≤ 2046) : ∃ s c q, FP.Core.val64 x = .fin s c q ∧ FP.Core.fits FP.Core.b64 (.fin s c q) ∧ FP.Core.zmag FP.Core.b64 (.fin s c q) = FP.Core.unitsOf FP.Core.b64 (x.toNat % 2 ^ 63) := by
  unfold mg at h
  have h1 : FP.Core.DFin x := FP.Core.fin_of_lt (K := 2047) (by
    have : K * 2 ^ 52 ≤ 2046 * 2 ^ 52 := Nat.mul_le_mul_right _ hK
    omega) (by decide)
  obtain ⟨s, c, q, h2⟩ := h1
  refine ⟨s, c, q, h2, h2 ▸ FP.Core.val64_fits x, ?_⟩
  have := FP.Core.zmag_bits (a := x) (by rw [h2]; exact FP.Core.Datum.noConfusion)
  rw [h2] at this
  exact this
theorem mg_units {K : Nat} {x : UInt64} (h : mg K x) (hK : 1 ≤ K) : FP.Core.unitsOf FP.Core.b64 (x.toNat % 2 ^ 63) ≤ 2 ^ (52 + (K - 1)) := by
  unfold mg at h
  have h1 : FP.Core.unitsOf FP.Core.b64 (x.toNat % 2 ^ 63) ≤ FP.Core.unitsOf FP.Core.b64 (K * FP.Core.b64.tails) := FP.Core.unitsOf_le_iff.mpr (by rw [FP.Core.tails_b64]; exact h)
  rw [FP.Core.unitsOf_start hK, FP.Core.tails_b64, ← Nat.pow_add] at h1
  exact h1
theorem mg_dmul {Ka Kb K : Nat} {a b : UInt64} (ha : mg Ka a) (hb : mg Kb b) (h1 : 1 ≤ Ka) (h2 : 1 ≤ Kb) (h3 : Ka ≤ 2046) (h4 : Kb ≤ 2046) (hK : 1 ≤ K) (h : Ka + Kb ≤ K + 1023) : mg K (FP.dmul a b) := by
  obtain ⟨s, c, q, x1, x2, x3⟩ := mg_fin ha h3
  obtain ⟨t, d, r, y1, y2, y3⟩ := mg_fin hb h4
  obtain ⟨p1, p2, p3⟩ := FP.Core.product_units x2 y2
  have hd : FP.Core.decode FP.Core.b64 (FP.dmul a b).toNat = FP.Core.roundRatio FP.Core.b64 (s != t) (c * d) 1 (q + r) := by
    have e := FP.Core.val64_dmul a b
    rw [x1, y1, p1] at e
    exact e
  have hm := FP.Core.mag_le (m := K * FP.Core.b64.tails) FP.Core.good_b64 hd (by decide) (e0 := 2 * FP.Core.b64.qmin) (by rw [FP.Core.qmin_b64]; decide) p2 (by
    rw [p3, x3, y3, FP.Core.unitsOf_start hK, Nat.mul_one, FP.Core.tails_b64, FP.Core.qmin_b64]
    have e1 : ((-1074 : Int) - 2 * -1074).toNat = 1074 := by decide
    rw [e1, ← Nat.pow_add, ← Nat.pow_add]
    refine Nat.le_trans (Nat.mul_le_mul (mg_units ha h1) (mg_units hb h2)) ?_
    rw [← Nat.pow_add]
    exact Nat.pow_le_pow_right (by decide) (by omega))
  rw [FP.Core.mag_toNat64, FP.Core.tails_b64] at hm
  exact hm
theorem mg_sum {K : Nat} {a b n : UInt64} {y : FP.Core.Datum} (hn : FP.Core.val64 n = FP.Core.round FP.Core.b64 (FP.Core.exactSum (FP.Core.val64 a) y)) (ha : mg K a) (hy : ∃ t d r, y = .fin t d r ∧ FP.Core.fits FP.Core.b64 (.fin t d r) ∧ FP.Core.zmag FP.Core.b64 (.fin t d r) = FP.Core.unitsOf FP.Core.b64 (b.toNat % 2 ^ 63)) (hb : mg K b) (h1 : 1 ≤ K) (h2 : K ≤ 2046) : mg (K + 1) n := by
  obtain ⟨s, c, q, x1, x2, x3⟩ := mg_fin ha h2
  obtain ⟨t, d, r, rfl, y2, y3⟩ := hy
  obtain ⟨sg, v, e, p1, p2, p3⟩ := FP.Core.sum_units x2 y2
  rw [x1, p1] at hn
  have hm := FP.Core.mag_le (m := (K + 1) * FP.Core.b64.tails) (s := sg) (A := v) (B := 1) (e := e) FP.Core.good_b64 hn (by decide) (e0 := FP.Core.b64.qmin) (by omega) p2 (by
    rw [FP.Core.unitsOf_start (by omega), Int.sub_self, Int.toNat_zero, Nat.pow_zero, Nat.mul_one, Nat.mul_one]
    have h5 : FP.Core.inUnits v e FP.Core.b64.qmin ≤ FP.Core.zmag FP.Core.b64 (.fin s c q) + FP.Core.zmag FP.Core.b64 (.fin t d r) := by
      have := congrArg Int.natAbs p3
      rw [FP.Core.natAbs_signed] at this
      rw [this]
      refine Nat.le_trans (Int.natAbs_add_le _ _) ?_
      unfold FP.Core.zval
      rw [FP.Core.natAbs_signed, FP.Core.natAbs_signed]
      exact Nat.le_refl _
    rw [x3, y3] at h5
    have u1 := mg_units ha h1
    have u2 := mg_units hb h1
    rw [FP.Core.tails_b64, ← Nat.pow_add, show 52 + (K + 1 - 1) = (52 + (K - 1)) + 1 by omega, Nat.pow_succ]
    omega)
  rw [FP.Core.mag_toNat64, FP.Core.tails_b64] at hm
  exact hm
theorem mg_dadd {K L : Nat} {a b : UInt64} (ha : mg K a) (hb : mg K b) (h1 : 1 ≤ K) (h2 : K ≤ 2046) (hL : K + 1 ≤ L) : mg L (FP.dadd a b) := by
  obtain ⟨t, d, r, y1, y2, y3⟩ := mg_fin hb h2
  exact mg_mono (mg_sum (b := b) (FP.Core.val64_dadd a b) ha ⟨t, d, r, y1, y2, y3⟩ hb h1 h2) hL
theorem mg_dsub {K L : Nat} {a b : UInt64} (ha : mg K a) (hb : mg K b) (h1 : 1 ≤ K) (h2 : K ≤ 2046) (hL : K + 1 ≤ L) : mg L (FP.dsub a b) := by
  obtain ⟨t, d, r, y1, y2, y3⟩ := mg_fin hb h2
  exact mg_mono (mg_sum (b := b) (FP.Core.val64_dsub a b) ha ⟨!t, d, r, by rw [y1]; rfl, y2, y3⟩ hb h1 h2) hL
theorem mg_dneg {K : Nat} {a : UInt64} (h : mg K a) : mg K (FP.dneg a) := by
  unfold mg at h ⊢
  unfold FP.dneg
  rw [UInt64.toNat_xor, show (0x8000000000000000 : UInt64).toNat = 2 ^ 63 by decide +kernel, Nat.xor_mod_two_pow]
  simpa using h
theorem mg_i2d (v : Int32) : mg 1056 (FP.i2d v) := Nat.le_of_lt (FP.Core.i2d_mag v)
theorem mg_ddiv (a : Int32) {b : Int32} (hb : b ≠ 0) : mg 1057 (FP.ddiv (FP.i2d a) (FP.i2d b)) := by
  have h1 := FP.Core.i2d_big (v := b) (FP.Core.int32_ne hb)
  exact Nat.le_of_lt (FP.Core.ddiv_mag (K := 1056) (L := 1023) (FP.Core.i2d_mag a) h1.1 h1.2 (by decide) (by decide))
theorem mg_0 : mg 1 FP.dconst0 := Nat.le_of_ble_eq_true (by decide +kernel)
theorem mg_1 : mg 1023 FP.dconst1 := Nat.le_of_ble_eq_true (by decide +kernel)
/-- 0.875, 1.125 and 1000.0 -/
def k875 : UInt64 := 4606056518893174784
def k1125 : UInt64 := 4607745368753438720
def k1000 : UInt64 := 4652007308841189376
theorem mg_875 : mg 1023 k875 := Nat.le_of_ble_eq_true (by decide +kernel)
theorem mg_1125 : mg 1024 k1125 := Nat.le_of_ble_eq_true (by decide +kernel)
theorem mg_1000 : mg 1033 k1000 := Nat.le_of_ble_eq_true (by decide +kernel)
/-- the size of a number, as both write it -/
def szF (x : UInt64) : UInt64 := if 0 ≤ Op.cmpValue (FP.dcmp x FP.dconst0) CmpOp.g then x else FP.dneg x
theorem mg_szF {K : Nat} {x : UInt64} (h : mg K x) : mg K (szF x) := by
  unfold szF
  split
  · exact h
  · exact mg_dneg h
/-- whole numbers add as they should -/
theorem i2d_add {a b : Nat} (h : a + b < 2 ^ 31) : FP.dadd (FP.i2d (nI a)) (FP.i2d (nI b)) = FP.i2d (nI (a + b)) := by
  have e : ∀ n : Nat, n < 2 ^ 31 → FP.i2d (nI n) = FP.l2d (lN n) := fun n hn => (FP.Core.i2d_l2d (nI n)).trans (congrArg FP.l2d (nI_l hn))
  have sm : ∀ n : Nat, n < 2 ^ 31 → FP.Core.Small53 (lN n) := fun n hn => by
    unfold FP.Core.Small53
    rw [lN_toInt hn]
    omega
  rw [e a (by omega), e b (by omega), e (a + b) h]
  exact (FP.Core.dadd_l2d (sm a (by omega)) (sm b (by omega))).trans (congrArg FP.l2d (lN_add a b))
theorem i2d_0 : FP.i2d (nI 0) = FP.dconst0 := by decide +kernel
/-- the distance of the values v to a class of weights w and means u, over the first n features -/
def dsF (w u : Nat → UInt64) (v : Nat → Nat) : Nat → UInt64
  | 0 => FP.dconst0
  | f + 1 => FP.dadd (dsF w u v f) (FP.dmul (w f) (szF (FP.dsub (FP.i2d (nI (v f))) (u f))))
theorem dsF_congr {w u w' u' : Nat → UInt64} {v v' : Nat → Nat} : ∀ {n : Nat}, (∀ f, f < n → w f = w' f ∧ u f = u' f ∧ v f = v' f) → dsF w u v n = dsF w' u' v' n
  | 0, _ => rfl
  | n + 1, h => by
    obtain ⟨h1, h2, h3⟩ := h n (Nat.lt_succ_self n)
    rw [dsF, dsF, dsF_congr (fun f hf => h f (Nat.lt_succ_of_lt hf)), h1, h2, h3]
/-- one feature's part of a distance -/
def dtF (w u : UInt64) (v : Nat) : UInt64 := FP.dmul w (szF (FP.dsub (FP.i2d (nI v)) u))
theorem mg_df {u : UInt64} (v : Nat) (hu : mg 1057 u) : mg 1058 (FP.dsub (FP.i2d (nI v)) u) := mg_dsub (mg_mono (mg_i2d _) (by decide)) hu (by decide) (by decide) (by decide)
theorem mg_dt {K : Nat} {w u : UInt64} {v : Nat} (hw : mg K w) (hu : mg 1057 u) (h1 : 1023 ≤ K) (h2 : K ≤ 1900) : mg (K + 35) (FP.dmul w (szF (FP.dsub (FP.i2d (nI v)) u))) :=
  mg_dmul hw (mg_szF (mg_df v hu)) (by omega) (by decide) (by omega) (by decide) (by omega) (by omega)
theorem mg_ds {K : Nat} {w u : Nat → UInt64} {v : Nat → Nat} (h1 : 1023 ≤ K) (h2 : K ≤ 1900) : ∀ {n : Nat}, n ≤ 16 → (∀ f, f < n → mg K (w f) ∧ mg 1057 (u f)) → mg (K + 35 + n) (dsF w u v n)
  | 0, _, _ => mg_mono mg_0 (by omega)
  | n + 1, hn, h => by
    have hq := h n (Nat.lt_succ_self n)
    exact mg_dadd (mg_ds h1 h2 (by omega) (fun f hf => h f (Nat.lt_succ_of_lt hf))) (mg_mono (mg_dt hq.1 hq.2 h1 h2) (by omega)) (by omega) (by omega) (by omega)
/-- a is above b -/
def gtF (a b : UInt64) : Prop := ¬ Op.cmpValue (FP.dcmp a b) CmpOp.l ≤ 0
theorem gtF_anti {a b : UInt64} (h : gtF a b) : ¬ gtF b a := by
  have key : ∀ x y : UInt64, gtF x y → FP.dcmp x y = some .gt := by
    intro x y hxy
    unfold gtF at hxy
    cases hc : FP.dcmp x y with
    | none => rw [hc] at hxy; exact absurd (by decide) hxy
    | some o => cases o with
      | gt => rfl
      | lt => rw [hc] at hxy; exact absurd (by decide) hxy
      | eq => rw [hc] at hxy; exact absurd (by decide) hxy
  intro h2
  have e1 := key _ _ h
  have e2 := key _ _ h2
  have n1 := FP.Core.dcmp_notNaN e1
  have na := (FP.Core.notNaN_iff a).mp n1.1
  have nb := (FP.Core.notNaN_iff b).mp n1.2
  have k1 := (FP.Core.dcmp_gt_key na nb).mp e1
  have k2 := (FP.Core.dcmp_gt_key nb na).mp e2
  omega
/-- the nearest class among the first n: has says which there are, dd their distances, but which is left out -/
def nrF (has : Nat → Bool) (dd : Nat → UInt64) (but : Int32) : Nat → Int32 × UInt64
  | 0 => (-1, FP.dconst0)
  | c + 1 => if has c = true ∧ ¬ nI c = but ∧ ((nrF has dd but c).1 = -1 ∨ ¬ 0 ≤ Op.cmpValue (FP.dcmp (dd c) (nrF has dd but c).2) CmpOp.g) then (nI c, dd c) else nrF has dd but c
end
section
/-! ===== indexed worlds, and the rows that read and write them ===== -/
/-- the world of n cells at the addresses ad, holding d -/
def wn (n : Nat) (ad : Nat → Nat) (d : Nat → va_E) : va_W := (List.range n).map (fun k => (ad k, d k))
theorem wn_at {n k : Nat} {ad : Nat → Nat} {d : Nat → va_E} (h : k < n) : (wn n ad d)[k]? = some (ad k, d k) := by
  unfold wn
  rw [List.getElem?_map, List.getElem?_range h]
  rfl
theorem wn_of {n k : Nat} {ad : Nat → Nat} {d : Nat → va_E} {q : Nat × va_E} (h : (wn n ad d)[k]? = some q) : k < n ∧ q = (ad k, d k) := by
  have hk : k < n := by
    have := (List.getElem?_eq_some_iff.mp h).1
    unfold wn at this
    rw [List.length_map, List.length_range] at this
    exact this
  rw [wn_at hk] at h
  exact ⟨hk, (Option.some.inj h).symm⟩
theorem wn_len {n : Nat} {ad : Nat → Nat} {d : Nat → va_E} : (wn n ad d).length = n := by
  unfold wn
  rw [List.length_map, List.length_range]
theorem wn_set {n k : Nat} {ad : Nat → Nat} {d : Nat → va_E} {e : va_E} (h : k < n) : (wn n ad d).set k (ad k, e) = wn n ad (va_up d k e) := by
  refine List.ext_getElem? fun j => ?_
  by_cases hj : j < n
  · rw [wn_at hj]
    by_cases e : j = k
    · subst e
      rw [List.getElem?_set_self (by rw [wn_len]; exact hj), va_up_self]
    · rw [List.getElem?_set_ne (Ne.symm e), wn_at hj, va_up_ne _ _ e]
  · rw [List.getElem?_eq_none (by rw [List.length_set, wn_len]; omega), List.getElem?_eq_none (by rw [wn_len]; omega)]
/-- the addresses are apart -/
def apart (n : Nat) (ad : Nat → Nat) : Prop := ∀ i j, i < n → j < n → ad i = ad j → i = j
/-- one of the addresses -/
def aX (n : Nat) (ad : Nat → Nat) : Nat → Prop := fun q => ∃ k, k < n ∧ q = ad k
theorem wn_D {n : Nat} {A : Nat → Prop} {ad : Nat → Nat} {d : Nat → va_E} (h : apart n ad) (hA : ∀ k, k < n → A (ad k)) : va_D A (wn n ad d) := by
  refine ⟨fun i j p q hi hj e => ?_, fun k q hk => ?_⟩
  · obtain ⟨h1, rfl⟩ := wn_of hi
    obtain ⟨h2, rfl⟩ := wn_of hj
    exact h i j h1 h2 e
  · obtain ⟨h1, rfl⟩ := wn_of hk
    exact hA k h1
theorem wn_DX {n : Nat} {ad : Nat → Nat} {d : Nat → va_E} (h : apart n ad) : va_D (aX n ad) (wn n ad d) := wn_D h fun k hk => ⟨k, hk, rfl⟩
theorem wn_congr {D : va_G} {cl : List vw_C} {n : Nat} {ad : Nat → Nat} {d d' : Nat → va_E} {H : Heap} (h : va_P D cl (wn n ad d) H) (he : ∀ k, k < n → d k = d' k) : va_P D cl (wn n ad d') H := by
  intro k q hk
  obtain ⟨h1, rfl⟩ := wn_of hk
  have := h k _ (wn_at h1)
  rw [he k h1] at this
  exact this
theorem wn_ro {D : va_G} {cl : List vw_C} {ws : va_W} {H H1 : Heap} (h : va_P D cl ws H) (hq : ∀ q : Nat, q < H.size → ¬ False → H1[q]? = H[q]?) : va_P D cl ws H1 :=
  h.kept fun k q hk => hq q.1 ((h k q hk).lt) not_false
/-- the classes of the arrays: int[], int[][], double[], double[][], boolean[], long[] -/
abbrev zE : Type := va_G × ClassId × ClassId × ClassId × ClassId × ClassId × ClassId
abbrev eI (E : zE) : ClassId := E.2.1
abbrev eII (E : zE) : ClassId := E.2.2.1
abbrev eD (E : zE) : ClassId := E.2.2.2.1
abbrev eDD (E : zE) : ClassId := E.2.2.2.2.1
abbrev eZ (E : zE) : ClassId := E.2.2.2.2.2.1
abbrev eJ (E : zE) : ClassId := E.2.2.2.2.2.2
abbrev zT (E : zE) : List (ClassId × FieldType) := [(eI E, .int), (eII E, .array .int), (eD E, .double), (eDD E, .array .double), (eZ E, .boolean), (eJ E, .long)]
abbrev zK (E : zE) (U : State) : Prop := va_K E.1 vwCl (zT E) U
/-- what an array holds -/
abbrev hI (c : ClassId) (n : Nat) (f : Nat → Int32) : va_E := .inl (c, n, .inl f)
abbrev hD (c : ClassId) (n : Nat) (f : Nat → UInt64) : va_E := .inl (c, n, .inr (.inr (.inr (.inl f))))
abbrev hQ (c : ClassId) (n : Nat) (f : Nat → Option Nat) : va_E := .inl (c, n, .inr (.inr (.inr (.inr f))))
abbrev hJ (c : ClassId) (n : Nat) (f : Nat → Int64) : va_E := .inl (c, n, .inr (.inl f))
/-- an array's cell asks for its places alone -/
theorem cell_congr {D : va_G} {cl : List vw_C} {H : Heap} {a : Nat} {e e' : va_E} (h : va_at D cl (a, e) H) (he : ∀ c x, e = .inl (c, x) → ∃ x', e' = .inl (c, x') ∧ vp_cell c x = vp_cell c x') (hr : ∀ o, e = .inr o → e' = .inr o) : va_at D cl (a, e') H := by
  cases e with
  | inl x =>
    obtain ⟨x', rfl, h2⟩ := he x.1 x.2 rfl
    show H[a]? = some (vp_cell x.1 x')
    rw [← h2]
    exact h
  | inr o =>
    rw [hr o rfl]
    exact h
theorem arrV_congr {c : ClassId} {n : Nat} {f g : Nat → Value} (h : ∀ j, j < n → f j = g j) : arrV c n f = arrV c n g := by
  unfold arrV
  have : (fun j : Fin n => f j.val) = fun j : Fin n => g j.val := funext fun j => h j.val j.isLt
  rw [this]
theorem at_I {D : va_G} {cl : List vw_C} {H : Heap} {a n : Nat} {c : ClassId} {f g : Nat → Int32} (h : va_at D cl (a, hI c n f) H) (hj : ∀ j, j < n → f j = g j) : va_at D cl (a, hI c n g) H := by
  have h1 : H[a]? = some (arrV c n (fun j => .int (f j))) := h
  rw [arrV_congr (g := fun j => .int (g j)) (fun j hn => by rw [hj j hn])] at h1
  exact h1
theorem at_D {D : va_G} {cl : List vw_C} {H : Heap} {a n : Nat} {c : ClassId} {f g : Nat → UInt64} (h : va_at D cl (a, hD c n f) H) (hj : ∀ j, j < n → f j = g j) : va_at D cl (a, hD c n g) H := by
  have h1 : H[a]? = some (arrV c n (fun j => .double (f j))) := h
  rw [arrV_congr (g := fun j => .double (g j)) (fun j hn => by rw [hj j hn])] at h1
  exact h1
theorem at_Q {D : va_G} {cl : List vw_C} {H : Heap} {a n : Nat} {c : ClassId} {f g : Nat → Option Nat} (h : va_at D cl (a, hQ c n f) H) (hj : ∀ j, j < n → f j = g j) : va_at D cl (a, hQ c n g) H := by
  have h1 : H[a]? = some (vp_cell c (n, .inr (.inr (.inr (.inr f))))) := h
  rw [vp_cell_q, arrV_congr (g := fun j => va_rf (g j)) (fun j hn => by rw [hj j hn]), ← vp_cell_q] at h1
  exact h1
section ZROWS
variable {p : Program} {l : Launch} {e : Env} {R : Room} {s : State} {m : MethodId} {args : Array Value} {below : List Frame} {meth : Method} {c : Code} {H : Heap} {locs : List Loc} {cells slots : Nat} {Q : State → Prop}
variable {cc : ByteArray} {pc : Nat} {ls : Array Slot} {rest : List Value}
theorem zv_iadd (hx : p.tables.exec = Jvm.exec) (hb : c.code = cc) {x y v : Int32} (hdg : decode cc pc = .ok (.iadd, 1)) (hv : x + y = v)
    (k : W p l e R s m args below meth c H locs cells slots Q (F0 m (pc + 1) ls (.int v :: rest))) : W p l e R s m args below meth c H locs cells slots Q (F0 m pc ls (.int y :: .int x :: rest)) := by
  subst hv
  exact lv_iadd hx hb hdg k
theorem zv_isub (hx : p.tables.exec = Jvm.exec) (hb : c.code = cc) {x y v : Int32} (hdg : decode cc pc = .ok (.isub, 1)) (hv : x - y = v)
    (k : W p l e R s m args below meth c H locs cells slots Q (F0 m (pc + 1) ls (.int v :: rest))) : W p l e R s m args below meth c H locs cells slots Q (F0 m pc ls (.int y :: .int x :: rest)) := by
  subst hv
  exact lv_isub hx hb hdg k
theorem zv_imul (hx : p.tables.exec = Jvm.exec) (hb : c.code = cc) {x y v : Int32} (hdg : decode cc pc = .ok (.imul, 1)) (hv : x * y = v)
    (k : W p l e R s m args below meth c H locs cells slots Q (F0 m (pc + 1) ls (.int v :: rest))) : W p l e R s m args below meth c H locs cells slots Q (F0 m pc ls (.int y :: .int x :: rest)) := by
  subst hv
  exact lv_imul hx hb hdg k
theorem zv_iand (hx : p.tables.exec = Jvm.exec) (hb : c.code = cc) {x y v : Int32} (hdg : decode cc pc = .ok (.iand, 1)) (hv : x &&& y = v)
    (k : W p l e R s m args below meth c H locs cells slots Q (F0 m (pc + 1) ls (.int v :: rest))) : W p l e R s m args below meth c H locs cells slots Q (F0 m pc ls (.int y :: .int x :: rest)) := by
  subst hv
  exact lv_iand hx hb hdg k
variable {E : zE} {n : Nat} {ad : Nat → Nat} {d : Nat → va_E} {A : Nat → Prop} {H0 : Heap}
/-- reading and writing arrays at a place that is a number -/
theorem z_iald (hx : p.tables.exec = Jvm.exec) (hb : c.code = cc) (hK : zK E s) (hP : va_P E.1 vwCl (wn n ad d) H) (kx : Nat) (hk : kx < n) {N i : Nat} {f : Nat → Int32} (hd : d kx = hI (eI E) N f) (hi : i < N) (hN : N < 2 ^ 31) (hdg : decode cc pc = .ok (.iaload, 1))
    (kk : W p l e R s m args below meth c H locs cells slots Q (F0 m (pc + 1) ls (.int (f i) :: rest))) : W p l e R s m args below meth c H locs cells slots Q (F0 m pc ls (.int (nI i) :: .ref (ad kx) :: rest)) := by
  refine va_iald hx hb hK hP kx 0 (by rw [wn_at hk, hd]) rfl (vp_in_nI hi hN) hdg ?_
  rw [nI_clamp (by omega)]
  exact kk
theorem z_zald (hx : p.tables.exec = Jvm.exec) (hb : c.code = cc) (hK : zK E s) (hP : va_P E.1 vwCl (wn n ad d) H) (kx : Nat) (hk : kx < n) {N i : Nat} {f : Nat → Int32} (hd : d kx = hI (eZ E) N f) (hi : i < N) (hN : N < 2 ^ 31) (hdg : decode cc pc = .ok (.baload, 1))
    (kk : W p l e R s m args below meth c H locs cells slots Q (F0 m (pc + 1) ls (.int (f i) :: rest))) : W p l e R s m args below meth c H locs cells slots Q (F0 m pc ls (.int (nI i) :: .ref (ad kx) :: rest)) := by
  refine va_zald hx hb hK hP kx 4 (by rw [wn_at hk, hd]) rfl (vp_in_nI hi hN) hdg ?_
  rw [nI_clamp (by omega)]
  exact kk
theorem z_dald (hx : p.tables.exec = Jvm.exec) (hb : c.code = cc) (hK : zK E s) (hP : va_P E.1 vwCl (wn n ad d) H) (kx : Nat) (hk : kx < n) {N i : Nat} {f : Nat → UInt64} (hd : d kx = hD (eD E) N f) (hi : i < N) (hN : N < 2 ^ 31) (hdg : decode cc pc = .ok (.daload, 1))
    (kk : W p l e R s m args below meth c H locs cells slots Q (F0 m (pc + 1) ls (.double (f i) :: rest))) : W p l e R s m args below meth c H locs cells slots Q (F0 m pc ls (.int (nI i) :: .ref (ad kx) :: rest)) := by
  refine va_dald hx hb hK hP kx 2 (by rw [wn_at hk, hd]) rfl (vp_in_nI hi hN) hdg ?_
  rw [nI_clamp (by omega)]
  exact kk
theorem z_aald {ty : FieldType} {cA : ClassId} (t0 : Nat) (hx : p.tables.exec = Jvm.exec) (hb : c.code = cc) (hK : zK E s) (hP : va_P E.1 vwCl (wn n ad d) H) (kx : Nat) (hk : kx < n) {N i y : Nat} {f : Nat → Option Nat} (hd : d kx = hQ cA N f) (ht : (zT E)[t0]? = some (cA, ty)) (hty : ty.isReference = true) (hi : i < N) (hN : N < 2 ^ 31) (hy : f i = some y) (hdg : decode cc pc = .ok (.aaload, 1))
    (kk : W p l e R s m args below meth c H locs cells slots Q (F0 m (pc + 1) ls (.ref y :: rest))) : W p l e R s m args below meth c H locs cells slots Q (F0 m pc ls (.int (nI i) :: .ref (ad kx) :: rest)) := by
  have h1 : H[ad kx]? = some (vp_cell cA (N, .inr (.inr (.inr (.inr f))))) := by
    have := hP kx _ (wn_at hk)
    rw [hd] at this
    exact this
  have hin : ¬ (nI i < 0 ∨ N ≤ (nI i).toNatClampNeg) := vp_in_nI hi hN
  refine W.aald (v := .ref y) (ty := ty) hx hb h1 ((hK.2 t0 _ ht).1 N (fun j => va_rf (f j))) hty (fun q => by cases q) (by show ¬ (nI i < 0 ∨ (arrV _ _ _).slots.size ≤ _); rw [arrV_size]; exact hin) (by show (arrV _ _ (fun j => va_rf (f j))).slots[_]? = _; rw [nI_clamp (by omega), arrV_read _ _ hi, hy]; rfl) rfl rfl hdg kk
theorem z_iast (hx : p.tables.exec = Jvm.exec) (hb : c.code = cc) (hK : zK E s) (hP : va_P E.1 vwCl (wn n ad d) H) (hap : apart n ad) (hA : ∀ k, k < n → A (ad k)) (hS : va_S A H0 H locs) (kx : Nat) (hk : kx < n) {N i : Nat} {f : Nat → Int32} {x : Int32} (hd : d kx = hI (eI E) N f) (hi : i < N) (hN : N < 2 ^ 31) (hdg : decode cc pc = .ok (.iastore, 1))
    (kk : ∀ (H1 : Heap) (locs1 : List Loc), va_P E.1 vwCl (wn n ad (va_up d kx (hI (eI E) N (va_up f i x)))) H1 → va_S A H0 H1 locs1 → W p l e R s m args below meth c H1 locs1 cells slots Q (F0 m (pc + 1) ls rest)) : W p l e R s m args below meth c H locs cells slots Q (F0 m pc ls (.int x :: .int (nI i) :: .ref (ad kx) :: rest)) := by
  refine va_iast hx hb hK hP (wn_D hap hA) hS kx 0 (by rw [wn_at hk, hd]) rfl (vp_in_nI hi hN) hdg fun H1 locs1 h1 _ h3 => ?_
  rw [wn_set hk, nI_clamp (by omega)] at h1
  exact kk H1 locs1 h1 h3
theorem z_zast (hx : p.tables.exec = Jvm.exec) (hb : c.code = cc) (hK : zK E s) (hP : va_P E.1 vwCl (wn n ad d) H) (hap : apart n ad) (hA : ∀ k, k < n → A (ad k)) (hS : va_S A H0 H locs) (kx : Nat) (hk : kx < n) {N i : Nat} {f : Nat → Int32} {x : Int32} (hd : d kx = hI (eZ E) N f) (hi : i < N) (hN : N < 2 ^ 31) (hxn : vp_nar .boolean x = x) (hdg : decode cc pc = .ok (.bastore, 1))
    (kk : ∀ (H1 : Heap) (locs1 : List Loc), va_P E.1 vwCl (wn n ad (va_up d kx (hI (eZ E) N (va_up f i x)))) H1 → va_S A H0 H1 locs1 → W p l e R s m args below meth c H1 locs1 cells slots Q (F0 m (pc + 1) ls rest)) : W p l e R s m args below meth c H locs cells slots Q (F0 m pc ls (.int x :: .int (nI i) :: .ref (ad kx) :: rest)) := by
  refine va_zast hx hb hK hP (wn_D hap hA) hS kx 4 (by rw [wn_at hk, hd]) rfl (vp_in_nI hi hN) hdg fun H1 locs1 h1 _ h3 => ?_
  rw [wn_set hk, nI_clamp (by omega), hxn] at h1
  exact kk H1 locs1 h1 h3
theorem z_dast (hx : p.tables.exec = Jvm.exec) (hb : c.code = cc) (hK : zK E s) (hP : va_P E.1 vwCl (wn n ad d) H) (hap : apart n ad) (hA : ∀ k, k < n → A (ad k)) (hS : va_S A H0 H locs) (kx : Nat) (hk : kx < n) {N i : Nat} {f : Nat → UInt64} {x : UInt64} (hd : d kx = hD (eD E) N f) (hi : i < N) (hN : N < 2 ^ 31) (hdg : decode cc pc = .ok (.dastore, 1))
    (kk : ∀ (H1 : Heap) (locs1 : List Loc), va_P E.1 vwCl (wn n ad (va_up d kx (hD (eD E) N (va_up f i x)))) H1 → va_S A H0 H1 locs1 → W p l e R s m args below meth c H1 locs1 cells slots Q (F0 m (pc + 1) ls rest)) : W p l e R s m args below meth c H locs cells slots Q (F0 m pc ls (.double x :: .int (nI i) :: .ref (ad kx) :: rest)) := by
  refine va_dast hx hb hK hP (wn_D hap hA) hS kx 2 (by rw [wn_at hk, hd]) rfl (vp_in_nI hi hN) hdg fun H1 locs1 h1 _ h3 => ?_
  rw [wn_set hk, nI_clamp (by omega)] at h1
  exact kk H1 locs1 h1 h3
end ZROWS
end
section
/-! ===== the states, as numbers and functions; their cells; their fields ===== -/
/-- two places deep -/
def up2 {α : Type} (g : Nat → Nat → α) (i j : Nat) (v : α) : Nat → Nat → α := va_up g i (va_up (g i) j v)
theorem up2_self {α : Type} (g : Nat → Nat → α) (i j : Nat) (v : α) : up2 g i j v i = va_up (g i) j v := va_up_self _ _ _
theorem up2_ne {α : Type} (g : Nat → Nat → α) {i a : Nat} (j : Nat) (v : α) (h : a ≠ i) : up2 g i j v a = g a := va_up_ne _ _ h
theorem up_fun {α β : Type} (F : α → β) (g : Nat → α) (i : Nat) (v : α) : va_up (fun j => F (g j)) i (F v) = fun j => F (va_up g i v j) := by
  funext j
  by_cases h : j = i <;> simp [va_up, h]
abbrev SX : Type := Nat × (Nat → Nat) × (Nat → Nat → Nat) × Nat × (Nat → Nat) × Nat × Nat × (Nat → Nat) × (Nat → Nat → UInt64) × (Nat → Nat → UInt64) × (Nat → Nat → Nat)
def xF (κ : SX) : Nat := κ.1
def xEc (κ : SX) : Nat → Nat := κ.2.1
def xEv (κ : SX) : Nat → Nat → Nat := κ.2.2.1
def xN (κ : SX) : Nat := κ.2.2.2.1
def xSg (κ : SX) : Nat → Nat := κ.2.2.2.2.1
def xLd (κ : SX) : Nat := κ.2.2.2.2.2.1
def xMd (κ : SX) : Nat := κ.2.2.2.2.2.2.1
def xMb (κ : SX) : Nat → Nat := κ.2.2.2.2.2.2.2.1
def xMn (κ : SX) : Nat → Nat → UInt64 := κ.2.2.2.2.2.2.2.2.1
def xWt (κ : SX) : Nat → Nat → UInt64 := κ.2.2.2.2.2.2.2.2.2.1
def xCf (κ : SX) : Nat → Nat → Nat := κ.2.2.2.2.2.2.2.2.2.2
def sxF (κ : SX) (z : Nat) : SX := (z, κ.2)
def sxEc (κ : SX) (z : Nat → Nat) : SX := (κ.1, z, κ.2.2)
def sxEv (κ : SX) (z : Nat → Nat → Nat) : SX := (κ.1, κ.2.1, z, κ.2.2.2)
def sxN (κ : SX) (z : Nat) : SX := (κ.1, κ.2.1, κ.2.2.1, z, κ.2.2.2.2)
def sxSg (κ : SX) (z : Nat → Nat) : SX := (κ.1, κ.2.1, κ.2.2.1, κ.2.2.2.1, z, κ.2.2.2.2.2)
def sxLd (κ : SX) (z : Nat) : SX := (κ.1, κ.2.1, κ.2.2.1, κ.2.2.2.1, κ.2.2.2.2.1, z, κ.2.2.2.2.2.2)
def sxMd (κ : SX) (z : Nat) : SX := (κ.1, κ.2.1, κ.2.2.1, κ.2.2.2.1, κ.2.2.2.2.1, κ.2.2.2.2.2.1, z, κ.2.2.2.2.2.2.2)
def sxMb (κ : SX) (z : Nat → Nat) : SX := (κ.1, κ.2.1, κ.2.2.1, κ.2.2.2.1, κ.2.2.2.2.1, κ.2.2.2.2.2.1, κ.2.2.2.2.2.2.1, z, κ.2.2.2.2.2.2.2.2)
def sxMn (κ : SX) (z : Nat → Nat → UInt64) : SX := (κ.1, κ.2.1, κ.2.2.1, κ.2.2.2.1, κ.2.2.2.2.1, κ.2.2.2.2.2.1, κ.2.2.2.2.2.2.1, κ.2.2.2.2.2.2.2.1, z, κ.2.2.2.2.2.2.2.2.2)
def sxWt (κ : SX) (z : Nat → Nat → UInt64) : SX := (κ.1, κ.2.1, κ.2.2.1, κ.2.2.2.1, κ.2.2.2.2.1, κ.2.2.2.2.2.1, κ.2.2.2.2.2.2.1, κ.2.2.2.2.2.2.2.1, κ.2.2.2.2.2.2.2.2.1, z, κ.2.2.2.2.2.2.2.2.2.2)
def sxCf (κ : SX) (z : Nat → Nat → Nat) : SX := (κ.1, κ.2.1, κ.2.2.1, κ.2.2.2.1, κ.2.2.2.2.1, κ.2.2.2.2.2.1, κ.2.2.2.2.2.2.1, κ.2.2.2.2.2.2.2.1, κ.2.2.2.2.2.2.2.2.1, κ.2.2.2.2.2.2.2.2.2.1, z)
abbrev SM : Type := Nat × Nat × Nat × (Nat → Nat) × (Nat → Nat) × (Nat → Nat) × Nat × (Nat → Nat) × (Nat → UInt64) × (Nat → UInt64) × (Nat → Nat) × Nat
def mC (τ : SM) : Nat := τ.1
def mF (τ : SM) : Nat := τ.2.1
def mN (τ : SM) : Nat := τ.2.2.1
def mCl (τ : SM) : Nat → Nat := τ.2.2.2.1
def mVl (τ : SM) : Nat → Nat := τ.2.2.2.2.1
def mSg (τ : SM) : Nat → Nat := τ.2.2.2.2.2.1
def mMd (τ : SM) : Nat := τ.2.2.2.2.2.2.1
def mHs (τ : SM) : Nat → Nat := τ.2.2.2.2.2.2.2.1
def mMn (τ : SM) : Nat → UInt64 := τ.2.2.2.2.2.2.2.2.1
def mWt (τ : SM) : Nat → UInt64 := τ.2.2.2.2.2.2.2.2.2.1
def mCf (τ : SM) : Nat → Nat := τ.2.2.2.2.2.2.2.2.2.2.1
def mMg (τ : SM) : Nat := τ.2.2.2.2.2.2.2.2.2.2.2
def smC (τ : SM) (z : Nat) : SM := (z, τ.2)
def smF (τ : SM) (z : Nat) : SM := (τ.1, z, τ.2.2)
def smN (τ : SM) (z : Nat) : SM := (τ.1, τ.2.1, z, τ.2.2.2)
def smCl (τ : SM) (z : Nat → Nat) : SM := (τ.1, τ.2.1, τ.2.2.1, z, τ.2.2.2.2)
def smVl (τ : SM) (z : Nat → Nat) : SM := (τ.1, τ.2.1, τ.2.2.1, τ.2.2.2.1, z, τ.2.2.2.2.2)
def smSg (τ : SM) (z : Nat → Nat) : SM := (τ.1, τ.2.1, τ.2.2.1, τ.2.2.2.1, τ.2.2.2.2.1, z, τ.2.2.2.2.2.2)
def smMd (τ : SM) (z : Nat) : SM := (τ.1, τ.2.1, τ.2.2.1, τ.2.2.2.1, τ.2.2.2.2.1, τ.2.2.2.2.2.1, z, τ.2.2.2.2.2.2.2)
def smHs (τ : SM) (z : Nat → Nat) : SM := (τ.1, τ.2.1, τ.2.2.1, τ.2.2.2.1, τ.2.2.2.2.1, τ.2.2.2.2.2.1, τ.2.2.2.2.2.2.1, z, τ.2.2.2.2.2.2.2.2)
def smMn (τ : SM) (z : Nat → UInt64) : SM := (τ.1, τ.2.1, τ.2.2.1, τ.2.2.2.1, τ.2.2.2.2.1, τ.2.2.2.2.2.1, τ.2.2.2.2.2.2.1, τ.2.2.2.2.2.2.2.1, z, τ.2.2.2.2.2.2.2.2.2)
def smWt (τ : SM) (z : Nat → UInt64) : SM := (τ.1, τ.2.1, τ.2.2.1, τ.2.2.2.1, τ.2.2.2.2.1, τ.2.2.2.2.2.1, τ.2.2.2.2.2.2.1, τ.2.2.2.2.2.2.2.1, τ.2.2.2.2.2.2.2.2.1, z, τ.2.2.2.2.2.2.2.2.2.2)
def smCf (τ : SM) (z : Nat → Nat) : SM := (τ.1, τ.2.1, τ.2.2.1, τ.2.2.2.1, τ.2.2.2.2.1, τ.2.2.2.2.2.1, τ.2.2.2.2.2.2.1, τ.2.2.2.2.2.2.2.1, τ.2.2.2.2.2.2.2.2.1, τ.2.2.2.2.2.2.2.2.2.1, z, τ.2.2.2.2.2.2.2.2.2.2.2)
def smMg (τ : SM) (z : Nat) : SM := (τ.1, τ.2.1, τ.2.2.1, τ.2.2.2.1, τ.2.2.2.2.1, τ.2.2.2.2.2.1, τ.2.2.2.2.2.2.1, τ.2.2.2.2.2.2.2.1, τ.2.2.2.2.2.2.2.2.1, τ.2.2.2.2.2.2.2.2.2.1, τ.2.2.2.2.2.2.2.2.2.2.1, z)
def fx (ad : Nat → Nat) (κ : SX) : List Value := [.int (nI (xF κ)), .ref (ad 1), .ref (ad 2), .int (nI (xN κ)), .ref (ad 43), .int (nI (xLd κ)), .int (nI (xMd κ)), .ref (ad 44), .ref (ad 45), .ref (ad 62), .ref (ad 79)]
def cx (E : zE) (ad : Nat → Nat) (κ : SX) (k : Nat) : va_E :=
  if k = 0 then .inr (1, fx ad κ)
  else if k = 1 then hI (eI E) 40 (fun i => nI (xEc κ i))
  else if k = 2 then hQ (eII E) 40 (fun i => if i < 40 then some (ad (3 + i)) else none)
  else if k < 43 then hI (eI E) (xF κ) (fun j => nI (xEv κ (k - 3) j))
  else if k = 43 then hI (eI E) (xF κ) (fun j => nI (xSg κ j))
  else if k = 44 then hI (eI E) 16 (fun j => nI (xMb κ j))
  else if k = 45 then hQ (eDD E) 16 (fun i => if i < 16 then some (ad (46 + i)) else none)
  else if k < 62 then hD (eD E) (xF κ) (xMn κ (k - 46))
  else if k = 62 then hQ (eDD E) 16 (fun i => if i < 16 then some (ad (63 + i)) else none)
  else if k < 79 then hD (eD E) (xF κ) (xWt κ (k - 63))
  else if k = 79 then hQ (eII E) 16 (fun i => if i < 16 then some (ad (80 + i)) else none)
  else hI (eI E) 16 (fun j => nI (xCf κ (k - 80) j))
abbrev PX (E : zE) (ad : Nat → Nat) (κ : SX) (H : Heap) : Prop := va_P E.1 vwCl (wn 96 ad (cx E ad κ)) H
section CXROWS
variable {E : zE} {ad : Nat → Nat} {κ : SX} {H : Heap}
theorem cx_obj : cx E ad κ 0 = .inr (1, fx ad κ) := rfl
theorem cx_ec : cx E ad κ 1 = hI (eI E) 40 (fun i => nI (xEc κ i)) := rfl
theorem cx_evO : cx E ad κ 2 = hQ (eII E) 40 (fun i => if i < 40 then some (ad (3 + i)) else none) := rfl
theorem cx_sg : cx E ad κ 43 = hI (eI E) (xF κ) (fun j => nI (xSg κ j)) := rfl
theorem cx_mb : cx E ad κ 44 = hI (eI E) 16 (fun j => nI (xMb κ j)) := rfl
theorem cx_mnO : cx E ad κ 45 = hQ (eDD E) 16 (fun i => if i < 16 then some (ad (46 + i)) else none) := rfl
theorem cx_wtO : cx E ad κ 62 = hQ (eDD E) 16 (fun i => if i < 16 then some (ad (63 + i)) else none) := rfl
theorem cx_cfO : cx E ad κ 79 = hQ (eII E) 16 (fun i => if i < 16 then some (ad (80 + i)) else none) := rfl
theorem cx_ev {i : Nat} (h : i < 40) : cx E ad κ (3 + i) = hI (eI E) (xF κ) (fun j => nI (xEv κ i j)) := by
  unfold cx
  rw [if_neg (show ¬ 3 + i = 0 by omega)]
  rw [if_neg (show ¬ 3 + i = 1 by omega)]
  rw [if_neg (show ¬ 3 + i = 2 by omega)]
  rw [if_pos (show 3 + i < 43 by omega)]
  rw [Nat.add_sub_cancel_left]
theorem cx_mn {i : Nat} (h : i < 16) : cx E ad κ (46 + i) = hD (eD E) (xF κ) (xMn κ i) := by
  unfold cx
  rw [if_neg (show ¬ 46 + i = 0 by omega)]
  rw [if_neg (show ¬ 46 + i = 1 by omega)]
  rw [if_neg (show ¬ 46 + i = 2 by omega)]
  rw [if_neg (show ¬ 46 + i < 43 by omega)]
  rw [if_neg (show ¬ 46 + i = 43 by omega)]
  rw [if_neg (show ¬ 46 + i = 44 by omega)]
  rw [if_neg (show ¬ 46 + i = 45 by omega)]
  rw [if_pos (show 46 + i < 62 by omega)]
  rw [Nat.add_sub_cancel_left]
theorem cx_wt {i : Nat} (h : i < 16) : cx E ad κ (63 + i) = hD (eD E) (xF κ) (xWt κ i) := by
  unfold cx
  rw [if_neg (show ¬ 63 + i = 0 by omega)]
  rw [if_neg (show ¬ 63 + i = 1 by omega)]
  rw [if_neg (show ¬ 63 + i = 2 by omega)]
  rw [if_neg (show ¬ 63 + i < 43 by omega)]
  rw [if_neg (show ¬ 63 + i = 43 by omega)]
  rw [if_neg (show ¬ 63 + i = 44 by omega)]
  rw [if_neg (show ¬ 63 + i = 45 by omega)]
  rw [if_neg (show ¬ 63 + i < 62 by omega)]
  rw [if_neg (show ¬ 63 + i = 62 by omega)]
  rw [if_pos (show 63 + i < 79 by omega)]
  rw [Nat.add_sub_cancel_left]
theorem cx_cf {i : Nat} (h : i < 16) : cx E ad κ (80 + i) = hI (eI E) 16 (fun j => nI (xCf κ i j)) := by
  unfold cx
  rw [if_neg (show ¬ 80 + i = 0 by omega)]
  rw [if_neg (show ¬ 80 + i = 1 by omega)]
  rw [if_neg (show ¬ 80 + i = 2 by omega)]
  rw [if_neg (show ¬ 80 + i < 43 by omega)]
  rw [if_neg (show ¬ 80 + i = 43 by omega)]
  rw [if_neg (show ¬ 80 + i = 44 by omega)]
  rw [if_neg (show ¬ 80 + i = 45 by omega)]
  rw [if_neg (show ¬ 80 + i < 62 by omega)]
  rw [if_neg (show ¬ 80 + i = 62 by omega)]
  rw [if_neg (show ¬ 80 + i < 79 by omega)]
  rw [if_neg (show ¬ 80 + i = 79 by omega)]
  rw [Nat.add_sub_cancel_left]
theorem cx_all {P : Nat → Prop} (h0 : P 0) (h1 : P 1) (h2 : P 2) (h3 : ∀ i, i < 40 → P (3 + i)) (h4 : P 43) (h5 : P 44) (h6 : P 45) (h7 : ∀ i, i < 16 → P (46 + i)) (h8 : P 62) (h9 : ∀ i, i < 16 → P (63 + i)) (h10 : P 79) (h11 : ∀ i, i < 16 → P (80 + i)) : ∀ k, k < 96 → P k := by
  intro k hk
  by_cases e0 : k = 0
  · exact e0 ▸ h0
  by_cases e1 : k = 1
  · exact e1 ▸ h1
  by_cases e2 : k = 2
  · exact e2 ▸ h2
  by_cases f43 : k < 43
  · have := h3 (k - 3) (by omega)
    rw [show 3 + (k - 3) = k by omega] at this
    exact this
  by_cases e43 : k = 43
  · exact e43 ▸ h4
  by_cases e44 : k = 44
  · exact e44 ▸ h5
  by_cases e45 : k = 45
  · exact e45 ▸ h6
  by_cases f62 : k < 62
  · have := h7 (k - 46) (by omega)
    rw [show 46 + (k - 46) = k by omega] at this
    exact this
  by_cases e62 : k = 62
  · exact e62 ▸ h8
  by_cases f79 : k < 79
  · have := h9 (k - 63) (by omega)
    rw [show 63 + (k - 63) = k by omega] at this
    exact this
  by_cases e79 : k = 79
  · exact e79 ▸ h10
  have := h11 (k - 80) (by omega)
  rw [show 80 + (k - 80) = k by omega] at this
  exact this
theorem px_ec {i v : Nat} (h : va_P E.1 vwCl (wn 96 ad (va_up (cx E ad κ) 1 (hI (eI E) 40 (va_up (fun j => nI (xEc κ j)) i (nI v))))) H) : PX E ad (sxEc κ (va_up (xEc κ) i v)) H := by
  refine wn_congr h (cx_all ?_ ?_ ?_ ?_ ?_ ?_ ?_ ?_ ?_ ?_ ?_ ?_)
  · rw [va_up_ne _ _ (show 0 ≠ 1 by omega)]
    rfl
  · rw [va_up_self]
    rw [up_fun nI]
    rfl
  · rw [va_up_ne _ _ (show 2 ≠ 1 by omega)]
    rfl
  · intro a ha
    rw [va_up_ne _ _ (show 3 + a ≠ 1 by omega), cx_ev ha, cx_ev ha]
    rfl
  · rw [va_up_ne _ _ (show 43 ≠ 1 by omega)]
    rfl
  · rw [va_up_ne _ _ (show 44 ≠ 1 by omega)]
    rfl
  · rw [va_up_ne _ _ (show 45 ≠ 1 by omega)]
    rfl
  · intro a ha
    rw [va_up_ne _ _ (show 46 + a ≠ 1 by omega), cx_mn ha, cx_mn ha]
    rfl
  · rw [va_up_ne _ _ (show 62 ≠ 1 by omega)]
    rfl
  · intro a ha
    rw [va_up_ne _ _ (show 63 + a ≠ 1 by omega), cx_wt ha, cx_wt ha]
    rfl
  · rw [va_up_ne _ _ (show 79 ≠ 1 by omega)]
    rfl
  · intro a ha
    rw [va_up_ne _ _ (show 80 + a ≠ 1 by omega), cx_cf ha, cx_cf ha]
    rfl
theorem px_sg {i v : Nat} (h : va_P E.1 vwCl (wn 96 ad (va_up (cx E ad κ) 43 (hI (eI E) (xF κ) (va_up (fun j => nI (xSg κ j)) i (nI v))))) H) : PX E ad (sxSg κ (va_up (xSg κ) i v)) H := by
  refine wn_congr h (cx_all ?_ ?_ ?_ ?_ ?_ ?_ ?_ ?_ ?_ ?_ ?_ ?_)
  · rw [va_up_ne _ _ (show 0 ≠ 43 by omega)]
    rfl
  · rw [va_up_ne _ _ (show 1 ≠ 43 by omega)]
    rfl
  · rw [va_up_ne _ _ (show 2 ≠ 43 by omega)]
    rfl
  · intro a ha
    rw [va_up_ne _ _ (show 3 + a ≠ 43 by omega), cx_ev ha, cx_ev ha]
    rfl
  · rw [va_up_self]
    rw [up_fun nI]
    rfl
  · rw [va_up_ne _ _ (show 44 ≠ 43 by omega)]
    rfl
  · rw [va_up_ne _ _ (show 45 ≠ 43 by omega)]
    rfl
  · intro a ha
    rw [va_up_ne _ _ (show 46 + a ≠ 43 by omega), cx_mn ha, cx_mn ha]
    rfl
  · rw [va_up_ne _ _ (show 62 ≠ 43 by omega)]
    rfl
  · intro a ha
    rw [va_up_ne _ _ (show 63 + a ≠ 43 by omega), cx_wt ha, cx_wt ha]
    rfl
  · rw [va_up_ne _ _ (show 79 ≠ 43 by omega)]
    rfl
  · intro a ha
    rw [va_up_ne _ _ (show 80 + a ≠ 43 by omega), cx_cf ha, cx_cf ha]
    rfl
theorem px_mb {i v : Nat} (h : va_P E.1 vwCl (wn 96 ad (va_up (cx E ad κ) 44 (hI (eI E) 16 (va_up (fun j => nI (xMb κ j)) i (nI v))))) H) : PX E ad (sxMb κ (va_up (xMb κ) i v)) H := by
  refine wn_congr h (cx_all ?_ ?_ ?_ ?_ ?_ ?_ ?_ ?_ ?_ ?_ ?_ ?_)
  · rw [va_up_ne _ _ (show 0 ≠ 44 by omega)]
    rfl
  · rw [va_up_ne _ _ (show 1 ≠ 44 by omega)]
    rfl
  · rw [va_up_ne _ _ (show 2 ≠ 44 by omega)]
    rfl
  · intro a ha
    rw [va_up_ne _ _ (show 3 + a ≠ 44 by omega), cx_ev ha, cx_ev ha]
    rfl
  · rw [va_up_ne _ _ (show 43 ≠ 44 by omega)]
    rfl
  · rw [va_up_self]
    rw [up_fun nI]
    rfl
  · rw [va_up_ne _ _ (show 45 ≠ 44 by omega)]
    rfl
  · intro a ha
    rw [va_up_ne _ _ (show 46 + a ≠ 44 by omega), cx_mn ha, cx_mn ha]
    rfl
  · rw [va_up_ne _ _ (show 62 ≠ 44 by omega)]
    rfl
  · intro a ha
    rw [va_up_ne _ _ (show 63 + a ≠ 44 by omega), cx_wt ha, cx_wt ha]
    rfl
  · rw [va_up_ne _ _ (show 79 ≠ 44 by omega)]
    rfl
  · intro a ha
    rw [va_up_ne _ _ (show 80 + a ≠ 44 by omega), cx_cf ha, cx_cf ha]
    rfl
theorem px_ev {i j9 v : Nat} (hi : i < 40) (h : va_P E.1 vwCl (wn 96 ad (va_up (cx E ad κ) (3 + i) (hI (eI E) (xF κ) (va_up (fun j => nI (xEv κ i j)) j9 (nI v))))) H) : PX E ad (sxEv κ (up2 (xEv κ) i j9 v)) H := by
  refine wn_congr h (cx_all ?_ ?_ ?_ ?_ ?_ ?_ ?_ ?_ ?_ ?_ ?_ ?_)
  · rw [va_up_ne _ _ (show 0 ≠ 3 + i by omega)]
    rfl
  · rw [va_up_ne _ _ (show 1 ≠ 3 + i by omega)]
    rfl
  · rw [va_up_ne _ _ (show 2 ≠ 3 + i by omega)]
    rfl
  · intro a ha
    by_cases e : a = i
    · subst e
      rw [va_up_self, cx_ev ha]
      show _ = hI (eI E) (xF κ) (fun j => nI (up2 (xEv κ) a j9 v a j))
      rw [up_fun nI, up2_self]
    · rw [va_up_ne _ _ (show 3 + a ≠ 3 + i by omega), cx_ev ha, cx_ev ha]
      show _ = hI (eI E) (xF κ) (fun j => nI (up2 (xEv κ) i j9 v a j))
      rw [up2_ne _ _ _ e]
  · rw [va_up_ne _ _ (show 43 ≠ 3 + i by omega)]
    rfl
  · rw [va_up_ne _ _ (show 44 ≠ 3 + i by omega)]
    rfl
  · rw [va_up_ne _ _ (show 45 ≠ 3 + i by omega)]
    rfl
  · intro a ha
    rw [va_up_ne _ _ (show 46 + a ≠ 3 + i by omega), cx_mn ha, cx_mn ha]
    rfl
  · rw [va_up_ne _ _ (show 62 ≠ 3 + i by omega)]
    rfl
  · intro a ha
    rw [va_up_ne _ _ (show 63 + a ≠ 3 + i by omega), cx_wt ha, cx_wt ha]
    rfl
  · rw [va_up_ne _ _ (show 79 ≠ 3 + i by omega)]
    rfl
  · intro a ha
    rw [va_up_ne _ _ (show 80 + a ≠ 3 + i by omega), cx_cf ha, cx_cf ha]
    rfl
theorem px_cf {i j9 v : Nat} (hi : i < 16) (h : va_P E.1 vwCl (wn 96 ad (va_up (cx E ad κ) (80 + i) (hI (eI E) 16 (va_up (fun j => nI (xCf κ i j)) j9 (nI v))))) H) : PX E ad (sxCf κ (up2 (xCf κ) i j9 v)) H := by
  refine wn_congr h (cx_all ?_ ?_ ?_ ?_ ?_ ?_ ?_ ?_ ?_ ?_ ?_ ?_)
  · rw [va_up_ne _ _ (show 0 ≠ 80 + i by omega)]
    rfl
  · rw [va_up_ne _ _ (show 1 ≠ 80 + i by omega)]
    rfl
  · rw [va_up_ne _ _ (show 2 ≠ 80 + i by omega)]
    rfl
  · intro a ha
    rw [va_up_ne _ _ (show 3 + a ≠ 80 + i by omega), cx_ev ha, cx_ev ha]
    rfl
  · rw [va_up_ne _ _ (show 43 ≠ 80 + i by omega)]
    rfl
  · rw [va_up_ne _ _ (show 44 ≠ 80 + i by omega)]
    rfl
  · rw [va_up_ne _ _ (show 45 ≠ 80 + i by omega)]
    rfl
  · intro a ha
    rw [va_up_ne _ _ (show 46 + a ≠ 80 + i by omega), cx_mn ha, cx_mn ha]
    rfl
  · rw [va_up_ne _ _ (show 62 ≠ 80 + i by omega)]
    rfl
  · intro a ha
    rw [va_up_ne _ _ (show 63 + a ≠ 80 + i by omega), cx_wt ha, cx_wt ha]
    rfl
  · rw [va_up_ne _ _ (show 79 ≠ 80 + i by omega)]
    rfl
  · intro a ha
    by_cases e : a = i
    · subst e
      rw [va_up_self, cx_cf ha]
      show _ = hI (eI E) 16 (fun j => nI (up2 (xCf κ) a j9 v a j))
      rw [up_fun nI, up2_self]
    · rw [va_up_ne _ _ (show 80 + a ≠ 80 + i by omega), cx_cf ha, cx_cf ha]
      show _ = hI (eI E) 16 (fun j => nI (up2 (xCf κ) i j9 v a j))
      rw [up2_ne _ _ _ e]
theorem px_mn {i j9 : Nat} {v : UInt64} (hi : i < 16) (h : va_P E.1 vwCl (wn 96 ad (va_up (cx E ad κ) (46 + i) (hD (eD E) (xF κ) (va_up (xMn κ i) j9 v)))) H) : PX E ad (sxMn κ (up2 (xMn κ) i j9 v)) H := by
  refine wn_congr h (cx_all ?_ ?_ ?_ ?_ ?_ ?_ ?_ ?_ ?_ ?_ ?_ ?_)
  · rw [va_up_ne _ _ (show 0 ≠ 46 + i by omega)]
    rfl
  · rw [va_up_ne _ _ (show 1 ≠ 46 + i by omega)]
    rfl
  · rw [va_up_ne _ _ (show 2 ≠ 46 + i by omega)]
    rfl
  · intro a ha
    rw [va_up_ne _ _ (show 3 + a ≠ 46 + i by omega), cx_ev ha, cx_ev ha]
    rfl
  · rw [va_up_ne _ _ (show 43 ≠ 46 + i by omega)]
    rfl
  · rw [va_up_ne _ _ (show 44 ≠ 46 + i by omega)]
    rfl
  · rw [va_up_ne _ _ (show 45 ≠ 46 + i by omega)]
    rfl
  · intro a ha
    by_cases e : a = i
    · subst e
      rw [va_up_self, cx_mn ha]
      show _ = hD (eD E) (xF κ) (up2 (xMn κ) a j9 v a)
      rw [up2_self]
    · rw [va_up_ne _ _ (show 46 + a ≠ 46 + i by omega), cx_mn ha, cx_mn ha]
      show _ = hD (eD E) (xF κ) (up2 (xMn κ) i j9 v a)
      rw [up2_ne _ _ _ e]
  · rw [va_up_ne _ _ (show 62 ≠ 46 + i by omega)]
    rfl
  · intro a ha
    rw [va_up_ne _ _ (show 63 + a ≠ 46 + i by omega), cx_wt ha, cx_wt ha]
    rfl
  · rw [va_up_ne _ _ (show 79 ≠ 46 + i by omega)]
    rfl
  · intro a ha
    rw [va_up_ne _ _ (show 80 + a ≠ 46 + i by omega), cx_cf ha, cx_cf ha]
    rfl
theorem px_wt {i j9 : Nat} {v : UInt64} (hi : i < 16) (h : va_P E.1 vwCl (wn 96 ad (va_up (cx E ad κ) (63 + i) (hD (eD E) (xF κ) (va_up (xWt κ i) j9 v)))) H) : PX E ad (sxWt κ (up2 (xWt κ) i j9 v)) H := by
  refine wn_congr h (cx_all ?_ ?_ ?_ ?_ ?_ ?_ ?_ ?_ ?_ ?_ ?_ ?_)
  · rw [va_up_ne _ _ (show 0 ≠ 63 + i by omega)]
    rfl
  · rw [va_up_ne _ _ (show 1 ≠ 63 + i by omega)]
    rfl
  · rw [va_up_ne _ _ (show 2 ≠ 63 + i by omega)]
    rfl
  · intro a ha
    rw [va_up_ne _ _ (show 3 + a ≠ 63 + i by omega), cx_ev ha, cx_ev ha]
    rfl
  · rw [va_up_ne _ _ (show 43 ≠ 63 + i by omega)]
    rfl
  · rw [va_up_ne _ _ (show 44 ≠ 63 + i by omega)]
    rfl
  · rw [va_up_ne _ _ (show 45 ≠ 63 + i by omega)]
    rfl
  · intro a ha
    rw [va_up_ne _ _ (show 46 + a ≠ 63 + i by omega), cx_mn ha, cx_mn ha]
    rfl
  · rw [va_up_ne _ _ (show 62 ≠ 63 + i by omega)]
    rfl
  · intro a ha
    by_cases e : a = i
    · subst e
      rw [va_up_self, cx_wt ha]
      show _ = hD (eD E) (xF κ) (up2 (xWt κ) a j9 v a)
      rw [up2_self]
    · rw [va_up_ne _ _ (show 63 + a ≠ 63 + i by omega), cx_wt ha, cx_wt ha]
      show _ = hD (eD E) (xF κ) (up2 (xWt κ) i j9 v a)
      rw [up2_ne _ _ _ e]
  · rw [va_up_ne _ _ (show 79 ≠ 63 + i by omega)]
    rfl
  · intro a ha
    rw [va_up_ne _ _ (show 80 + a ≠ 63 + i by omega), cx_cf ha, cx_cf ha]
    rfl
theorem px_n {v : Nat} (h : va_P E.1 vwCl (wn 96 ad (va_up (cx E ad κ) 0 (.inr (1, (fx ad κ).set 3 (.int (nI v)))))) H) : PX E ad (sxN κ v) H := by
  refine wn_congr h (cx_all ?_ ?_ ?_ ?_ ?_ ?_ ?_ ?_ ?_ ?_ ?_ ?_)
  · rw [va_up_self]
    rfl
  · rw [va_up_ne _ _ (show 1 ≠ 0 by omega)]
    rfl
  · rw [va_up_ne _ _ (show 2 ≠ 0 by omega)]
    rfl
  · intro a ha
    rw [va_up_ne _ _ (show 3 + a ≠ 0 by omega), cx_ev ha, cx_ev ha]
    rfl
  · rw [va_up_ne _ _ (show 43 ≠ 0 by omega)]
    rfl
  · rw [va_up_ne _ _ (show 44 ≠ 0 by omega)]
    rfl
  · rw [va_up_ne _ _ (show 45 ≠ 0 by omega)]
    rfl
  · intro a ha
    rw [va_up_ne _ _ (show 46 + a ≠ 0 by omega), cx_mn ha, cx_mn ha]
    rfl
  · rw [va_up_ne _ _ (show 62 ≠ 0 by omega)]
    rfl
  · intro a ha
    rw [va_up_ne _ _ (show 63 + a ≠ 0 by omega), cx_wt ha, cx_wt ha]
    rfl
  · rw [va_up_ne _ _ (show 79 ≠ 0 by omega)]
    rfl
  · intro a ha
    rw [va_up_ne _ _ (show 80 + a ≠ 0 by omega), cx_cf ha, cx_cf ha]
    rfl
theorem px_ld {v : Nat} (h : va_P E.1 vwCl (wn 96 ad (va_up (cx E ad κ) 0 (.inr (1, (fx ad κ).set 5 (.int (nI v)))))) H) : PX E ad (sxLd κ v) H := by
  refine wn_congr h (cx_all ?_ ?_ ?_ ?_ ?_ ?_ ?_ ?_ ?_ ?_ ?_ ?_)
  · rw [va_up_self]
    rfl
  · rw [va_up_ne _ _ (show 1 ≠ 0 by omega)]
    rfl
  · rw [va_up_ne _ _ (show 2 ≠ 0 by omega)]
    rfl
  · intro a ha
    rw [va_up_ne _ _ (show 3 + a ≠ 0 by omega), cx_ev ha, cx_ev ha]
    rfl
  · rw [va_up_ne _ _ (show 43 ≠ 0 by omega)]
    rfl
  · rw [va_up_ne _ _ (show 44 ≠ 0 by omega)]
    rfl
  · rw [va_up_ne _ _ (show 45 ≠ 0 by omega)]
    rfl
  · intro a ha
    rw [va_up_ne _ _ (show 46 + a ≠ 0 by omega), cx_mn ha, cx_mn ha]
    rfl
  · rw [va_up_ne _ _ (show 62 ≠ 0 by omega)]
    rfl
  · intro a ha
    rw [va_up_ne _ _ (show 63 + a ≠ 0 by omega), cx_wt ha, cx_wt ha]
    rfl
  · rw [va_up_ne _ _ (show 79 ≠ 0 by omega)]
    rfl
  · intro a ha
    rw [va_up_ne _ _ (show 80 + a ≠ 0 by omega), cx_cf ha, cx_cf ha]
    rfl
theorem px_md {v : Nat} (h : va_P E.1 vwCl (wn 96 ad (va_up (cx E ad κ) 0 (.inr (1, (fx ad κ).set 6 (.int (nI v)))))) H) : PX E ad (sxMd κ v) H := by
  refine wn_congr h (cx_all ?_ ?_ ?_ ?_ ?_ ?_ ?_ ?_ ?_ ?_ ?_ ?_)
  · rw [va_up_self]
    rfl
  · rw [va_up_ne _ _ (show 1 ≠ 0 by omega)]
    rfl
  · rw [va_up_ne _ _ (show 2 ≠ 0 by omega)]
    rfl
  · intro a ha
    rw [va_up_ne _ _ (show 3 + a ≠ 0 by omega), cx_ev ha, cx_ev ha]
    rfl
  · rw [va_up_ne _ _ (show 43 ≠ 0 by omega)]
    rfl
  · rw [va_up_ne _ _ (show 44 ≠ 0 by omega)]
    rfl
  · rw [va_up_ne _ _ (show 45 ≠ 0 by omega)]
    rfl
  · intro a ha
    rw [va_up_ne _ _ (show 46 + a ≠ 0 by omega), cx_mn ha, cx_mn ha]
    rfl
  · rw [va_up_ne _ _ (show 62 ≠ 0 by omega)]
    rfl
  · intro a ha
    rw [va_up_ne _ _ (show 63 + a ≠ 0 by omega), cx_wt ha, cx_wt ha]
    rfl
  · rw [va_up_ne _ _ (show 79 ≠ 0 by omega)]
    rfl
  · intro a ha
    rw [va_up_ne _ _ (show 80 + a ≠ 0 by omega), cx_cf ha, cx_cf ha]
    rfl
def fm (ad : Nat → Nat) (τ : SM) : List Value := [.int (nI (mC τ)), .int (nI (mF τ)), .int (nI (mN τ)), .ref (ad 1), .ref (ad 2), .ref (ad 3), .int (nI (mMd τ)), .ref (ad 4), .ref (ad 5), .ref (ad 6), .ref (ad 7), .int (nI (mMg τ))]
def cm (E : zE) (ad : Nat → Nat) (τ : SM) (k : Nat) : va_E :=
  if k = 0 then .inr (2, fm ad τ)
  else if k = 1 then hI (eI E) 40 (fun i => nI (mCl τ i))
  else if k = 2 then hI (eI E) 640 (fun i => nI (mVl τ i))
  else if k = 3 then hI (eI E) 16 (fun i => nI (mSg τ i))
  else if k = 4 then hI (eZ E) 16 (fun i => nI (mHs τ i))
  else if k = 5 then hD (eD E) 256 (mMn τ)
  else if k = 6 then hD (eD E) 256 (mWt τ)
  else hI (eI E) 256 (fun i => nI (mCf τ i))
abbrev PM (E : zE) (ad : Nat → Nat) (τ : SM) (H : Heap) : Prop := va_P E.1 vwCl (wn 8 ad (cm E ad τ)) H
variable {τ : SM}
theorem cm_obj : cm E ad τ 0 = .inr (2, fm ad τ) := rfl
theorem cm_cl : cm E ad τ 1 = hI (eI E) 40 (fun i => nI (mCl τ i)) := rfl
theorem cm_vl : cm E ad τ 2 = hI (eI E) 640 (fun i => nI (mVl τ i)) := rfl
theorem cm_sg : cm E ad τ 3 = hI (eI E) 16 (fun i => nI (mSg τ i)) := rfl
theorem cm_hs : cm E ad τ 4 = hI (eZ E) 16 (fun i => nI (mHs τ i)) := rfl
theorem cm_mn : cm E ad τ 5 = hD (eD E) 256 (mMn τ) := rfl
theorem cm_wt : cm E ad τ 6 = hD (eD E) 256 (mWt τ) := rfl
theorem cm_cf : cm E ad τ 7 = hI (eI E) 256 (fun i => nI (mCf τ i)) := rfl
theorem cm_all {P : Nat → Prop} (h0 : P 0) (h1 : P 1) (h2 : P 2) (h3 : P 3) (h4 : P 4) (h5 : P 5) (h6 : P 6) (h7 : P 7) : ∀ k, k < 8 → P k := by
  intro k hk
  by_cases e0 : k = 0
  · exact e0 ▸ h0
  by_cases e1 : k = 1
  · exact e1 ▸ h1
  by_cases e2 : k = 2
  · exact e2 ▸ h2
  by_cases e3 : k = 3
  · exact e3 ▸ h3
  by_cases e4 : k = 4
  · exact e4 ▸ h4
  by_cases e5 : k = 5
  · exact e5 ▸ h5
  by_cases e6 : k = 6
  · exact e6 ▸ h6
  exact (show k = 7 by omega) ▸ h7
theorem pm_cl {i v : Nat} (h : va_P E.1 vwCl (wn 8 ad (va_up (cm E ad τ) 1 (hI (eI E) 40 (va_up (fun j => nI (mCl τ j)) i (nI v))))) H) : PM E ad (smCl τ (va_up (mCl τ) i v)) H := by
  refine wn_congr h (cm_all ?_ ?_ ?_ ?_ ?_ ?_ ?_ ?_)
  · rw [va_up_ne _ _ (show 0 ≠ 1 by omega)]
    rfl
  · rw [va_up_self]
    rw [up_fun nI]
    rfl
  · rw [va_up_ne _ _ (show 2 ≠ 1 by omega)]
    rfl
  · rw [va_up_ne _ _ (show 3 ≠ 1 by omega)]
    rfl
  · rw [va_up_ne _ _ (show 4 ≠ 1 by omega)]
    rfl
  · rw [va_up_ne _ _ (show 5 ≠ 1 by omega)]
    rfl
  · rw [va_up_ne _ _ (show 6 ≠ 1 by omega)]
    rfl
  · rw [va_up_ne _ _ (show 7 ≠ 1 by omega)]
    rfl
theorem pm_vl {i v : Nat} (h : va_P E.1 vwCl (wn 8 ad (va_up (cm E ad τ) 2 (hI (eI E) 640 (va_up (fun j => nI (mVl τ j)) i (nI v))))) H) : PM E ad (smVl τ (va_up (mVl τ) i v)) H := by
  refine wn_congr h (cm_all ?_ ?_ ?_ ?_ ?_ ?_ ?_ ?_)
  · rw [va_up_ne _ _ (show 0 ≠ 2 by omega)]
    rfl
  · rw [va_up_ne _ _ (show 1 ≠ 2 by omega)]
    rfl
  · rw [va_up_self]
    rw [up_fun nI]
    rfl
  · rw [va_up_ne _ _ (show 3 ≠ 2 by omega)]
    rfl
  · rw [va_up_ne _ _ (show 4 ≠ 2 by omega)]
    rfl
  · rw [va_up_ne _ _ (show 5 ≠ 2 by omega)]
    rfl
  · rw [va_up_ne _ _ (show 6 ≠ 2 by omega)]
    rfl
  · rw [va_up_ne _ _ (show 7 ≠ 2 by omega)]
    rfl
theorem pm_sg {i v : Nat} (h : va_P E.1 vwCl (wn 8 ad (va_up (cm E ad τ) 3 (hI (eI E) 16 (va_up (fun j => nI (mSg τ j)) i (nI v))))) H) : PM E ad (smSg τ (va_up (mSg τ) i v)) H := by
  refine wn_congr h (cm_all ?_ ?_ ?_ ?_ ?_ ?_ ?_ ?_)
  · rw [va_up_ne _ _ (show 0 ≠ 3 by omega)]
    rfl
  · rw [va_up_ne _ _ (show 1 ≠ 3 by omega)]
    rfl
  · rw [va_up_ne _ _ (show 2 ≠ 3 by omega)]
    rfl
  · rw [va_up_self]
    rw [up_fun nI]
    rfl
  · rw [va_up_ne _ _ (show 4 ≠ 3 by omega)]
    rfl
  · rw [va_up_ne _ _ (show 5 ≠ 3 by omega)]
    rfl
  · rw [va_up_ne _ _ (show 6 ≠ 3 by omega)]
    rfl
  · rw [va_up_ne _ _ (show 7 ≠ 3 by omega)]
    rfl
theorem pm_hs {i v : Nat} (h : va_P E.1 vwCl (wn 8 ad (va_up (cm E ad τ) 4 (hI (eZ E) 16 (va_up (fun j => nI (mHs τ j)) i (nI v))))) H) : PM E ad (smHs τ (va_up (mHs τ) i v)) H := by
  refine wn_congr h (cm_all ?_ ?_ ?_ ?_ ?_ ?_ ?_ ?_)
  · rw [va_up_ne _ _ (show 0 ≠ 4 by omega)]
    rfl
  · rw [va_up_ne _ _ (show 1 ≠ 4 by omega)]
    rfl
  · rw [va_up_ne _ _ (show 2 ≠ 4 by omega)]
    rfl
  · rw [va_up_ne _ _ (show 3 ≠ 4 by omega)]
    rfl
  · rw [va_up_self]
    rw [up_fun nI]
    rfl
  · rw [va_up_ne _ _ (show 5 ≠ 4 by omega)]
    rfl
  · rw [va_up_ne _ _ (show 6 ≠ 4 by omega)]
    rfl
  · rw [va_up_ne _ _ (show 7 ≠ 4 by omega)]
    rfl
theorem pm_cf {i v : Nat} (h : va_P E.1 vwCl (wn 8 ad (va_up (cm E ad τ) 7 (hI (eI E) 256 (va_up (fun j => nI (mCf τ j)) i (nI v))))) H) : PM E ad (smCf τ (va_up (mCf τ) i v)) H := by
  refine wn_congr h (cm_all ?_ ?_ ?_ ?_ ?_ ?_ ?_ ?_)
  · rw [va_up_ne _ _ (show 0 ≠ 7 by omega)]
    rfl
  · rw [va_up_ne _ _ (show 1 ≠ 7 by omega)]
    rfl
  · rw [va_up_ne _ _ (show 2 ≠ 7 by omega)]
    rfl
  · rw [va_up_ne _ _ (show 3 ≠ 7 by omega)]
    rfl
  · rw [va_up_ne _ _ (show 4 ≠ 7 by omega)]
    rfl
  · rw [va_up_ne _ _ (show 5 ≠ 7 by omega)]
    rfl
  · rw [va_up_ne _ _ (show 6 ≠ 7 by omega)]
    rfl
  · rw [va_up_self]
    rw [up_fun nI]
    rfl
theorem pm_mn {i : Nat} {v : UInt64} (h : va_P E.1 vwCl (wn 8 ad (va_up (cm E ad τ) 5 (hD (eD E) 256 (va_up (mMn τ) i v)))) H) : PM E ad (smMn τ (va_up (mMn τ) i v)) H := by
  refine wn_congr h (cm_all ?_ ?_ ?_ ?_ ?_ ?_ ?_ ?_)
  · rw [va_up_ne _ _ (show 0 ≠ 5 by omega)]
    rfl
  · rw [va_up_ne _ _ (show 1 ≠ 5 by omega)]
    rfl
  · rw [va_up_ne _ _ (show 2 ≠ 5 by omega)]
    rfl
  · rw [va_up_ne _ _ (show 3 ≠ 5 by omega)]
    rfl
  · rw [va_up_ne _ _ (show 4 ≠ 5 by omega)]
    rfl
  · rw [va_up_self]
    rfl
  · rw [va_up_ne _ _ (show 6 ≠ 5 by omega)]
    rfl
  · rw [va_up_ne _ _ (show 7 ≠ 5 by omega)]
    rfl
theorem pm_wt {i : Nat} {v : UInt64} (h : va_P E.1 vwCl (wn 8 ad (va_up (cm E ad τ) 6 (hD (eD E) 256 (va_up (mWt τ) i v)))) H) : PM E ad (smWt τ (va_up (mWt τ) i v)) H := by
  refine wn_congr h (cm_all ?_ ?_ ?_ ?_ ?_ ?_ ?_ ?_)
  · rw [va_up_ne _ _ (show 0 ≠ 6 by omega)]
    rfl
  · rw [va_up_ne _ _ (show 1 ≠ 6 by omega)]
    rfl
  · rw [va_up_ne _ _ (show 2 ≠ 6 by omega)]
    rfl
  · rw [va_up_ne _ _ (show 3 ≠ 6 by omega)]
    rfl
  · rw [va_up_ne _ _ (show 4 ≠ 6 by omega)]
    rfl
  · rw [va_up_ne _ _ (show 5 ≠ 6 by omega)]
    rfl
  · rw [va_up_self]
    rfl
  · rw [va_up_ne _ _ (show 7 ≠ 6 by omega)]
    rfl
theorem pm_c {v : Nat} (h : va_P E.1 vwCl (wn 8 ad (va_up (cm E ad τ) 0 (.inr (2, (fm ad τ).set 0 (.int (nI v)))))) H) : PM E ad (smC τ v) H := by
  refine wn_congr h (cm_all ?_ ?_ ?_ ?_ ?_ ?_ ?_ ?_)
  · rw [va_up_self]
    rfl
  · rw [va_up_ne _ _ (show 1 ≠ 0 by omega)]
    rfl
  · rw [va_up_ne _ _ (show 2 ≠ 0 by omega)]
    rfl
  · rw [va_up_ne _ _ (show 3 ≠ 0 by omega)]
    rfl
  · rw [va_up_ne _ _ (show 4 ≠ 0 by omega)]
    rfl
  · rw [va_up_ne _ _ (show 5 ≠ 0 by omega)]
    rfl
  · rw [va_up_ne _ _ (show 6 ≠ 0 by omega)]
    rfl
  · rw [va_up_ne _ _ (show 7 ≠ 0 by omega)]
    rfl
theorem pm_n {v : Nat} (h : va_P E.1 vwCl (wn 8 ad (va_up (cm E ad τ) 0 (.inr (2, (fm ad τ).set 2 (.int (nI v)))))) H) : PM E ad (smN τ v) H := by
  refine wn_congr h (cm_all ?_ ?_ ?_ ?_ ?_ ?_ ?_ ?_)
  · rw [va_up_self]
    rfl
  · rw [va_up_ne _ _ (show 1 ≠ 0 by omega)]
    rfl
  · rw [va_up_ne _ _ (show 2 ≠ 0 by omega)]
    rfl
  · rw [va_up_ne _ _ (show 3 ≠ 0 by omega)]
    rfl
  · rw [va_up_ne _ _ (show 4 ≠ 0 by omega)]
    rfl
  · rw [va_up_ne _ _ (show 5 ≠ 0 by omega)]
    rfl
  · rw [va_up_ne _ _ (show 6 ≠ 0 by omega)]
    rfl
  · rw [va_up_ne _ _ (show 7 ≠ 0 by omega)]
    rfl
theorem pm_md {v : Nat} (h : va_P E.1 vwCl (wn 8 ad (va_up (cm E ad τ) 0 (.inr (2, (fm ad τ).set 6 (.int (nI v)))))) H) : PM E ad (smMd τ v) H := by
  refine wn_congr h (cm_all ?_ ?_ ?_ ?_ ?_ ?_ ?_ ?_)
  · rw [va_up_self]
    rfl
  · rw [va_up_ne _ _ (show 1 ≠ 0 by omega)]
    rfl
  · rw [va_up_ne _ _ (show 2 ≠ 0 by omega)]
    rfl
  · rw [va_up_ne _ _ (show 3 ≠ 0 by omega)]
    rfl
  · rw [va_up_ne _ _ (show 4 ≠ 0 by omega)]
    rfl
  · rw [va_up_ne _ _ (show 5 ≠ 0 by omega)]
    rfl
  · rw [va_up_ne _ _ (show 6 ≠ 0 by omega)]
    rfl
  · rw [va_up_ne _ _ (show 7 ≠ 0 by omega)]
    rfl
theorem pm_mg {v : Nat} (h : va_P E.1 vwCl (wn 8 ad (va_up (cm E ad τ) 0 (.inr (2, (fm ad τ).set 11 (.int (nI v)))))) H) : PM E ad (smMg τ v) H := by
  refine wn_congr h (cm_all ?_ ?_ ?_ ?_ ?_ ?_ ?_ ?_)
  · rw [va_up_self]
    rfl
  · rw [va_up_ne _ _ (show 1 ≠ 0 by omega)]
    rfl
  · rw [va_up_ne _ _ (show 2 ≠ 0 by omega)]
    rfl
  · rw [va_up_ne _ _ (show 3 ≠ 0 by omega)]
    rfl
  · rw [va_up_ne _ _ (show 4 ≠ 0 by omega)]
    rfl
  · rw [va_up_ne _ _ (show 5 ≠ 0 by omega)]
    rfl
  · rw [va_up_ne _ _ (show 6 ≠ 0 by omega)]
    rfl
  · rw [va_up_ne _ _ (show 7 ≠ 0 by omega)]
    rfl
end CXROWS
section FROWS
variable {p : Program} {l : Launch} {e : Env} {R : Room} {s : State} {m : MethodId} {args : Array Value} {below : List Frame} {meth : Method} {c : Code} {H : Heap} {locs : List Loc} {cells slots : Nat} {Q : State → Prop}
variable {cc : ByteArray} {pc : Nat} {ls : Array Slot} {rest : List Value} {E : zE} {ad : Nat → Nat} {κ : SX} {τ : SM} {A : Nat → Prop} {H0 : Heap} {Ts : List Cond}
theorem gx (hx : p.tables.exec = Jvm.exec) (hb : c.code = cc) (hts : ∀ w ∈ Ts, w.before args s = true) (hin : ∀ w ∈ wsX00, w ∈ Ts) (hown : s.vm.findClass RX0 = some m.cls) (hK : zK E s) (hP : PX E ad κ H) (k : Nat) (hk : k < 11) {index : Nat} (hlink : Cond.fieldLink RX0 index RX0 (TX0 k).2.1 (TX0 k).2.2.1 ∈ Ts) (hr : (TX0 k).1 = RX0) {v : Value} (hv : (fx ad κ)[k]? = some v) (hdg : decode cc pc = .ok (.getfield index, 3))
    (kk : W p l e R s m args below meth c H locs cells slots Q (F0 m (pc + 3) ls (v :: rest))) : W p l e R s m args below meth c H locs cells slots Q (F0 m pc ls (.ref (ad 0) :: rest)) :=
  va_get (C := RX0) (T := TX0) (N := 11) (ci := 1) hx hb hts hin hown hK hP 0 (fs := fx ad κ) (wn_at (show 0 < 96 by decide)) rfl k hk (hts _ hlink) (fun x h => by rw [hr] at h; exact h) hv hdg kk
theorem gxput (hx : p.tables.exec = Jvm.exec) (hb : c.code = cc) (hts : ∀ w ∈ Ts, w.before args s = true) (hin : ∀ w ∈ wsX00, w ∈ Ts) (hown : s.vm.findClass RX0 = some m.cls) (hK : zK E s) (hP : PX E ad κ H) (hap : apart 96 ad) (hA : ∀ k, k < 96 → A (ad k)) (hS : va_S A H0 H locs) (k : Nat) (hk : k < 11) {index : Nat} (hlink : Cond.fieldLink RX0 index RX0 (TX0 k).2.1 (TX0 k).2.2.1 ∈ Ts) (hr : (TX0 k).1 = RX0) (hfin : (TX0 k).2.2.2 = false) {v : Value} (hn : narrow (tyX0 k) v = v) (hf : Jvm.fits (tyX0 k) v = true) (hl : k < (fx ad κ).length) (hdg : decode cc pc = .ok (.putfield index, 3))
    (kk : ∀ (H1 : Heap) (locs1 : List Loc), va_P E.1 vwCl (wn 96 ad (va_up (cx E ad κ) 0 (.inr (1, (fx ad κ).set k v)))) H1 → va_S A H0 H1 locs1 → W p l e R s m args below meth c H1 locs1 cells slots Q (F0 m (pc + 3) ls rest)) : W p l e R s m args below meth c H locs cells slots Q (F0 m pc ls (v :: .ref (ad 0) :: rest)) := by
  refine va_put (C := RX0) (T := TX0) (N := 11) (ci := 1) hx hb hts hin tyX0 tyX0_ok nmX0 hown hK hP (wn_D hap hA) hS 0 (fs := fx ad κ) (wn_at (show 0 < 96 by decide)) rfl k hk (hts _ hlink) (fun x h => by rw [hr] at h; exact h) hfin (tyX0_ok k hk) hn hf hl hdg fun H1 locs1 h1 _ h3 => ?_
  rw [wn_set (show 0 < 96 by decide)] at h1
  exact kk H1 locs1 h1 h3
theorem gm (hx : p.tables.exec = Jvm.exec) (hb : c.code = cc) (hts : ∀ w ∈ Ts, w.before args s = true) (hin : ∀ w ∈ wsX10, w ∈ Ts) (hown : s.vm.findClass RX1 = some m.cls) (hK : zK E s) (hP : PM E ad τ H) (k : Nat) (hk : k < 12) {index : Nat} (hlink : Cond.fieldLink RX1 index RX1 (TX1 k).2.1 (TX1 k).2.2.1 ∈ Ts) (hr : (TX1 k).1 = RX1) {v : Value} (hv : (fm ad τ)[k]? = some v) (hdg : decode cc pc = .ok (.getfield index, 3))
    (kk : W p l e R s m args below meth c H locs cells slots Q (F0 m (pc + 3) ls (v :: rest))) : W p l e R s m args below meth c H locs cells slots Q (F0 m pc ls (.ref (ad 0) :: rest)) :=
  va_get (C := RX1) (T := TX1) (N := 12) (ci := 2) hx hb hts hin hown hK hP 0 (fs := fm ad τ) (wn_at (show 0 < 8 by decide)) rfl k hk (hts _ hlink) (fun x h => by rw [hr] at h; exact h) hv hdg kk
theorem gmput (hx : p.tables.exec = Jvm.exec) (hb : c.code = cc) (hts : ∀ w ∈ Ts, w.before args s = true) (hin : ∀ w ∈ wsX10, w ∈ Ts) (hown : s.vm.findClass RX1 = some m.cls) (hK : zK E s) (hP : PM E ad τ H) (hap : apart 8 ad) (hA : ∀ k, k < 8 → A (ad k)) (hS : va_S A H0 H locs) (k : Nat) (hk : k < 12) {index : Nat} (hlink : Cond.fieldLink RX1 index RX1 (TX1 k).2.1 (TX1 k).2.2.1 ∈ Ts) (hr : (TX1 k).1 = RX1) (hfin : (TX1 k).2.2.2 = false) {v : Value} (hn : narrow (tyX1 k) v = v) (hf : Jvm.fits (tyX1 k) v = true) (hl : k < (fm ad τ).length) (hdg : decode cc pc = .ok (.putfield index, 3))
    (kk : ∀ (H1 : Heap) (locs1 : List Loc), va_P E.1 vwCl (wn 8 ad (va_up (cm E ad τ) 0 (.inr (2, (fm ad τ).set k v)))) H1 → va_S A H0 H1 locs1 → W p l e R s m args below meth c H1 locs1 cells slots Q (F0 m (pc + 3) ls rest)) : W p l e R s m args below meth c H locs cells slots Q (F0 m pc ls (v :: .ref (ad 0) :: rest)) := by
  refine va_put (C := RX1) (T := TX1) (N := 12) (ci := 2) hx hb hts hin tyX1 tyX1_ok nmX1 hown hK hP (wn_D hap hA) hS 0 (fs := fm ad τ) (wn_at (show 0 < 8 by decide)) rfl k hk (hts _ hlink) (fun x h => by rw [hr] at h; exact h) hfin (tyX1_ok k hk) hn hf hl hdg fun H1 locs1 h1 _ h3 => ?_
  rw [wn_set (show 0 < 8 by decide)] at h1
  exact kk H1 locs1 h1 h3
end FROWS
end
section
/-! ===== branches over numbers; what a call hands over; the leaves ===== -/
section BROWS
variable {p : Program} {l : Launch} {e : Env} {R : Room} {s : State} {m : MethodId} {args : Array Value} {below : List Frame} {meth : Method} {c : Code} {Q : State → Prop} {H : Heap} {locs : List Loc} {cells slots : Nat} {cc : ByteArray} {pc : Nat} {ls : Array Slot} {rest : List Value}
theorem zb_ge (hx : p.tables.exec = Jvm.exec) (hb : c.code = cc) {a b : Nat} {off : Int} {tgt : Nat} (ha : a < 2 ^ 31) (hb9 : b < 2 ^ 31) (hdg : decode cc pc = .ok (.if_icmp .ge off, 3)) (ht : (pc : Int) + off = (tgt : Int))
    (kt : b ≤ a → W p l e R s m args below meth c H locs cells slots Q (F0 m tgt ls rest)) (kf : a < b → W p l e R s m args below meth c H locs cells slots Q (F0 m (pc + 3) ls rest)) : W p l e R s m args below meth c H locs cells slots Q (F0 m pc ls (.int (nI b) :: .int (nI a) :: rest)) :=
  lv_icmp_ge hx hb hdg ht (fun h => kt ((nI_leI hb9 ha).mp h)) (fun h => kf (Nat.lt_of_not_le fun q => h ((nI_leI hb9 ha).mpr q)))
theorem zb_lt (hx : p.tables.exec = Jvm.exec) (hb : c.code = cc) {a b : Nat} {off : Int} {tgt : Nat} (ha : a < 2 ^ 31) (hb9 : b < 2 ^ 31) (hdg : decode cc pc = .ok (.if_icmp .lt off, 3)) (ht : (pc : Int) + off = (tgt : Int))
    (kt : a < b → W p l e R s m args below meth c H locs cells slots Q (F0 m tgt ls rest)) (kf : b ≤ a → W p l e R s m args below meth c H locs cells slots Q (F0 m (pc + 3) ls rest)) : W p l e R s m args below meth c H locs cells slots Q (F0 m pc ls (.int (nI b) :: .int (nI a) :: rest)) :=
  lv_icmp_lt hx hb hdg ht (fun h => kt ((nI_ltI ha hb9).mp h)) (fun h => kf (Nat.le_of_not_lt fun q => h ((nI_ltI ha hb9).mpr q)))
theorem zb_eq (hx : p.tables.exec = Jvm.exec) (hb : c.code = cc) {a b : Nat} {off : Int} {tgt : Nat} (ha : a < 2 ^ 31) (hb9 : b < 2 ^ 31) (hdg : decode cc pc = .ok (.if_icmp .eq off, 3)) (ht : (pc : Int) + off = (tgt : Int))
    (kt : a = b → W p l e R s m args below meth c H locs cells slots Q (F0 m tgt ls rest)) (kf : a ≠ b → W p l e R s m args below meth c H locs cells slots Q (F0 m (pc + 3) ls rest)) : W p l e R s m args below meth c H locs cells slots Q (F0 m pc ls (.int (nI b) :: .int (nI a) :: rest)) :=
  lv_icmp_eq hx hb hdg ht (fun h => kt ((nI_eq ha hb9).mp h)) (fun h => kf (fun q => h ((nI_eq ha hb9).mpr q)))
theorem zb_ne (hx : p.tables.exec = Jvm.exec) (hb : c.code = cc) {a b : Nat} {off : Int} {tgt : Nat} (ha : a < 2 ^ 31) (hb9 : b < 2 ^ 31) (hdg : decode cc pc = .ok (.if_icmp .ne off, 3)) (ht : (pc : Int) + off = (tgt : Int))
    (kt : a ≠ b → W p l e R s m args below meth c H locs cells slots Q (F0 m tgt ls rest)) (kf : a = b → W p l e R s m args below meth c H locs cells slots Q (F0 m (pc + 3) ls rest)) : W p l e R s m args below meth c H locs cells slots Q (F0 m pc ls (.int (nI b) :: .int (nI a) :: rest)) :=
  lv_icmp_ne hx hb hdg ht (fun h => kt (fun q => h ((nI_eq ha hb9).mpr q))) (fun h => kf ((nI_eq ha hb9).mp h))
theorem zb_le (hx : p.tables.exec = Jvm.exec) (hb : c.code = cc) {a b : Nat} {off : Int} {tgt : Nat} (ha : a < 2 ^ 31) (hb9 : b < 2 ^ 31) (hdg : decode cc pc = .ok (.if_icmp .le off, 3)) (ht : (pc : Int) + off = (tgt : Int))
    (kt : a ≤ b → W p l e R s m args below meth c H locs cells slots Q (F0 m tgt ls rest)) (kf : b < a → W p l e R s m args below meth c H locs cells slots Q (F0 m (pc + 3) ls rest)) : W p l e R s m args below meth c H locs cells slots Q (F0 m pc ls (.int (nI b) :: .int (nI a) :: rest)) :=
  lv_icmp_le hx hb hdg ht (fun h => kt ((nI_leI ha hb9).mp h)) (fun h => kf (Nat.lt_of_not_le fun q => h ((nI_leI ha hb9).mpr q)))
theorem zb_gt (hx : p.tables.exec = Jvm.exec) (hb : c.code = cc) {a b : Nat} {off : Int} {tgt : Nat} (ha : a < 2 ^ 31) (hb9 : b < 2 ^ 31) (hdg : decode cc pc = .ok (.if_icmp .gt off, 3)) (ht : (pc : Int) + off = (tgt : Int))
    (kt : b < a → W p l e R s m args below meth c H locs cells slots Q (F0 m tgt ls rest)) (kf : a ≤ b → W p l e R s m args below meth c H locs cells slots Q (F0 m (pc + 3) ls rest)) : W p l e R s m args below meth c H locs cells slots Q (F0 m pc ls (.int (nI b) :: .int (nI a) :: rest)) :=
  lv_icmp_gt hx hb hdg ht (fun h => kt ((nI_ltI hb9 ha).mp h)) (fun h => kf (Nat.le_of_not_lt fun q => h ((nI_ltI hb9 ha).mpr q)))
theorem zu_eq (hx : p.tables.exec = Jvm.exec) (hb : c.code = cc) {a : Nat} {off : Int} {tgt : Nat} (ha : a < 2 ^ 31) (hdg : decode cc pc = .ok (.ifCond .eq off, 3)) (ht : (pc : Int) + off = (tgt : Int))
    (kt : a = 0 → W p l e R s m args below meth c H locs cells slots Q (F0 m tgt ls rest)) (kf : 0 < a → W p l e R s m args below meth c H locs cells slots Q (F0 m (pc + 3) ls rest)) : W p l e R s m args below meth c H locs cells slots Q (F0 m pc ls (.int (nI a) :: rest)) :=
  lv_if_eq hx hb hdg ht (fun h => kt (by rw [← nI_0] at h; exact (nI_eq ha (by decide)).mp h)) (fun h => kf (Nat.pos_of_ne_zero fun q => h (by rw [q]; exact nI_0)))
theorem zu_ne (hx : p.tables.exec = Jvm.exec) (hb : c.code = cc) {a : Nat} {off : Int} {tgt : Nat} (ha : a < 2 ^ 31) (hdg : decode cc pc = .ok (.ifCond .ne off, 3)) (ht : (pc : Int) + off = (tgt : Int))
    (kt : 0 < a → W p l e R s m args below meth c H locs cells slots Q (F0 m tgt ls rest)) (kf : a = 0 → W p l e R s m args below meth c H locs cells slots Q (F0 m (pc + 3) ls rest)) : W p l e R s m args below meth c H locs cells slots Q (F0 m pc ls (.int (nI a) :: rest)) :=
  lv_if_ne hx hb hdg ht (fun h => kt (Nat.pos_of_ne_zero fun q => h (by rw [q]; exact nI_0))) (fun h => kf (by rw [← nI_0] at h; exact (nI_eq ha (by decide)).mp h))
theorem zu_le (hx : p.tables.exec = Jvm.exec) (hb : c.code = cc) {a : Nat} {off : Int} {tgt : Nat} (ha : a < 2 ^ 31) (hdg : decode cc pc = .ok (.ifCond .le off, 3)) (ht : (pc : Int) + off = (tgt : Int))
    (kt : a = 0 → W p l e R s m args below meth c H locs cells slots Q (F0 m tgt ls rest)) (kf : 0 < a → W p l e R s m args below meth c H locs cells slots Q (F0 m (pc + 3) ls rest)) : W p l e R s m args below meth c H locs cells slots Q (F0 m pc ls (.int (nI a) :: rest)) :=
  lv_if_le hx hb hdg ht (fun h => kt (Classical.not_not.mp fun q => nI_nle (Nat.pos_of_ne_zero q) ha h)) (fun h => kf (Nat.pos_of_ne_zero fun q => h (by rw [q, nI_0]; exact Int32.le_refl 0)))
theorem zu_gt (hx : p.tables.exec = Jvm.exec) (hb : c.code = cc) {a : Nat} {off : Int} {tgt : Nat} (ha : a < 2 ^ 31) (hdg : decode cc pc = .ok (.ifCond .gt off, 3)) (ht : (pc : Int) + off = (tgt : Int))
    (kt : 0 < a → W p l e R s m args below meth c H locs cells slots Q (F0 m tgt ls rest)) (kf : a = 0 → W p l e R s m args below meth c H locs cells slots Q (F0 m (pc + 3) ls rest)) : W p l e R s m args below meth c H locs cells slots Q (F0 m pc ls (.int (nI a) :: rest)) :=
  lv_if_gt hx hb hdg ht (fun h => kt (Nat.pos_of_ne_zero fun q => by rw [q, nI_0] at h; exact Int32.lt_irrefl h)) (fun h => kf (Classical.not_not.mp fun q => h (by have := nI_lt (a := 0) (Nat.pos_of_ne_zero q) ha; rw [nI_0] at this; exact this)))
theorem zu_lt (hx : p.tables.exec = Jvm.exec) (hb : c.code = cc) {a : Nat} {off : Int} (tgt : Nat) (ha : a < 2 ^ 31) (hdg : decode cc pc = .ok (.ifCond .lt off, 3)) (ht : (pc : Int) + off = (tgt : Int)) (kf : W p l e R s m args below meth c H locs cells slots Q (F0 m (pc + 3) ls rest)) : W p l e R s m args below meth c H locs cells slots Q (F0 m pc ls (.int (nI a) :: rest)) :=
  lv_if_lt (tgt := tgt) hx hb hdg ht (fun h => absurd h (nI_pos ha)) (fun _ => kf)
theorem zu_ge (hx : p.tables.exec = Jvm.exec) (hb : c.code = cc) {a : Nat} {off : Int} (tgt : Nat) (ha : a < 2 ^ 31) (hdg : decode cc pc = .ok (.ifCond .ge off, 3)) (ht : (pc : Int) + off = (tgt : Int)) (kt : W p l e R s m args below meth c H locs cells slots Q (F0 m tgt ls rest)) : W p l e R s m args below meth c H locs cells slots Q (F0 m pc ls (.int (nI a) :: rest)) :=
  lv_if_ge (tgt := tgt) hx hb hdg ht (fun _ => kt) (fun h => absurd (nI_pos' ha) h)
end BROWS
theorem zblind {av : List Value} {D : va_G} {cl : List vw_C} {ws : va_W} {E : zE} : FrameBlind (va_Pc av (fun U => va_P D cl ws U.heap ∧ zK E U)) := fun _ U _ _ h => ⟨h.1, h.2.1, va_K.moved (Vm.Alike.refl U.vm) h.2.2⟩
theorem zps {s : State} {H : Heap} {As : List Value} : PreS s H (va_Pc As (fun _ => True)) As := ⟨fun _ _ _ _ q => q, fun _ _ _ => ⟨rfl, trivial⟩⟩
theorem zpx {s : State} {H : Heap} {E : zE} {ad : Nat → Nat} {κ : SX} {As : List Value} (hK : zK E s) (hP : PX E ad κ H) : PreV s H RX0 (ad 0) (va_Pc (.ref (ad 0) :: As) (fun U => PX E ad κ U.heap ∧ zK E U)) As := ⟨zblind, va_recv hK hP (ci := 1) (q0 := 0) rfl (wn_at (show 0 < 96 by decide)), fun U hU hW => ⟨rfl, by rw [hU]; exact hP, va_K.moved hW.alike hK⟩⟩
theorem zpm {s : State} {H : Heap} {E : zE} {ad : Nat → Nat} {τ : SM} {As : List Value} (hK : zK E s) (hP : PM E ad τ H) : PreV s H RX1 (ad 0) (va_Pc (.ref (ad 0) :: As) (fun U => PM E ad τ U.heap ∧ zK E U)) As := ⟨zblind, va_recv hK hP (ci := 2) (q0 := 0) rfl (wn_at (show 0 < 8 by decide)), fun U hU hW => ⟨rfl, by rw [hU]; exact hP, va_K.moved hW.alike hK⟩⟩
set_option maxRecDepth 20000 in
theorem innX0_example : ∀ w ∈ wsX00, w ∈ wsX0_example := by decide +kernel
set_option maxRecDepth 20000 in
theorem innX0_feature : ∀ w ∈ wsX00, w ∈ wsX0_feature := by decide +kernel
set_option maxRecDepth 20000 in
theorem innX0_make : ∀ w ∈ wsX00, w ∈ wsX0_make := by decide +kernel
set_option maxRecDepth 20000 in
theorem innX0_sign : ∀ w ∈ wsX00, w ∈ wsX0_sign := by decide +kernel
set_option maxRecDepth 20000 in
theorem innX0_tell : ∀ w ∈ wsX00, w ∈ wsX0_tell := by decide +kernel
set_option maxRecDepth 20000 in
theorem innX0_distance : ∀ w ∈ wsX00, w ∈ wsX0_distance := by decide +kernel
set_option maxRecDepth 20000 in
theorem innX0_weight : ∀ w ∈ wsX00, w ∈ wsX0_weight := by decide +kernel
set_option maxRecDepth 20000 in
theorem innX0_confused : ∀ w ∈ wsX00, w ∈ wsX0_confused := by decide +kernel
set_option maxRecDepth 20000 in
theorem innX0_margin : ∀ w ∈ wsX00, w ∈ wsX0_margin := by decide +kernel
set_option maxRecDepth 20000 in
theorem innX0_clear : ∀ w ∈ wsX00, w ∈ wsX0_clear := by decide +kernel
set_option maxRecDepth 20000 in
theorem innX0_isFeature : ∀ w ∈ wsX00, w ∈ wsX0_isFeature := by decide +kernel
set_option maxRecDepth 20000 in
theorem innX0_makeMeans : ∀ w ∈ wsX00, w ∈ wsX0_makeMeans := by decide +kernel
set_option maxRecDepth 20000 in
theorem innX0_divideMeans : ∀ w ∈ wsX00, w ∈ wsX0_divideMeans := by decide +kernel
set_option maxRecDepth 20000 in
theorem innX0_makeFirstWeights : ∀ w ∈ wsX00, w ∈ wsX0_makeFirstWeights := by decide +kernel
set_option maxRecDepth 20000 in
theorem innX0_goRound : ∀ w ∈ wsX00, w ∈ wsX0_goRound := by decide +kernel
set_option maxRecDepth 20000 in
theorem innX0_shiftWeights : ∀ w ∈ wsX00, w ∈ wsX0_shiftWeights := by decide +kernel
set_option maxRecDepth 20000 in
theorem innX0_countConfusions : ∀ w ∈ wsX00, w ∈ wsX0_countConfusions := by decide +kernel
set_option maxRecDepth 20000 in
theorem innX0_distanceTo : ∀ w ∈ wsX00, w ∈ wsX0_distanceTo := by decide +kernel
set_option maxRecDepth 20000 in
theorem innX0_nearestClass : ∀ w ∈ wsX00, w ∈ wsX0_nearestClass := by decide +kernel
set_option maxRecDepth 20000 in
theorem innX0_isSignBlank : ∀ w ∈ wsX00, w ∈ wsX0_isSignBlank := by decide +kernel
set_option maxRecDepth 20000 in
theorem innX0_isTooClose : ∀ w ∈ wsX00, w ∈ wsX0_isTooClose := by decide +kernel
set_option maxRecDepth 20000 in
theorem innX1_thrown : ∀ w ∈ wsX10, w ∈ wsX1_thrown := by decide +kernel
set_option maxRecDepth 20000 in
theorem innX1_example : ∀ w ∈ wsX10, w ∈ wsX1_example := by decide +kernel
set_option maxRecDepth 20000 in
theorem innX1_isFeature : ∀ w ∈ wsX10, w ∈ wsX1_isFeature := by decide +kernel
set_option maxRecDepth 20000 in
theorem innX1_feature : ∀ w ∈ wsX10, w ∈ wsX1_feature := by decide +kernel
set_option maxRecDepth 20000 in
theorem innX1_sign : ∀ w ∈ wsX10, w ∈ wsX1_sign := by decide +kernel
set_option maxRecDepth 20000 in
theorem innX1_distanceTo : ∀ w ∈ wsX10, w ∈ wsX1_distanceTo := by decide +kernel
set_option maxRecDepth 20000 in
theorem innX1_nearest : ∀ w ∈ wsX10, w ∈ wsX1_nearest := by decide +kernel
set_option maxRecDepth 20000 in
theorem innX1_means : ∀ w ∈ wsX10, w ∈ wsX1_means := by decide +kernel
set_option maxRecDepth 20000 in
theorem innX1_round : ∀ w ∈ wsX10, w ∈ wsX1_round := by decide +kernel
set_option maxRecDepth 20000 in
theorem innX1_make : ∀ w ∈ wsX10, w ∈ wsX1_make := by decide +kernel
set_option maxRecDepth 20000 in
theorem innX1_ranked : ∀ w ∈ wsX10, w ∈ wsX1_ranked := by decide +kernel
set_option maxRecDepth 20000 in
theorem innX1_refusal : ∀ w ∈ wsX10, w ∈ wsX1_refusal := by decide +kernel
set_option maxRecDepth 20000 in
theorem innX1_tell : ∀ w ∈ wsX10, w ∈ wsX1_tell := by decide +kernel
set_option maxRecDepth 20000 in
theorem innX1_distance : ∀ w ∈ wsX10, w ∈ wsX1_distance := by decide +kernel
set_option maxRecDepth 20000 in
theorem innX1_weight : ∀ w ∈ wsX10, w ∈ wsX1_weight := by decide +kernel
set_option maxRecDepth 20000 in
theorem innX1_confused : ∀ w ∈ wsX10, w ∈ wsX1_confused := by decide +kernel
set_option maxRecDepth 20000 in
theorem innX1_margin : ∀ w ∈ wsX10, w ∈ wsX1_margin := by decide +kernel
set_option maxRecDepth 20000 in
theorem innX1_clear : ∀ w ∈ wsX10, w ∈ wsX1_clear := by decide +kernel
/-- the first n numbers: is x one? -/
def among (n : Nat) (x r : Int32) : Prop := (∃ j : Nat, j < n ∧ x = nI j ∧ r = nI 1) ∨ ((∀ j : Nat, j < n → x ≠ nI j) ∧ r = nI 0)
theorem among_y {n : Nat} {x r : Int32} {j : Nat} (h : j < n) (hx : x = nI j) (hr : r = nI 1) : among n x r := Or.inl ⟨j, h, hx, hr⟩
theorem among_lo {n : Nat} {x r : Int32} (hn : n < 2 ^ 31) (h : x < 0) (hr : r = nI 0) : among n x r := Or.inr ⟨fun j hj e => nI_pos (show j < 2 ^ 31 by omega) (e ▸ h), hr⟩
theorem among_hi {n : Nat} {x r : Int32} (hn : n < 2 ^ 31) (h : nI n ≤ x) (hr : r = nI 0) : among n x r := Or.inr ⟨fun j hj e => nI_ge hj hn (e ▸ h), hr⟩
/-- the lowest byte -/
def lbN (x : Int32) : Nat := x.toBitVec.toNat % 256
theorem lbN_lt (x : Int32) : lbN x < 256 := Nat.mod_lt _ (by decide)
theorem lbN_eq (x : Int32) : x &&& nI 255 = nI (lbN x) := pk_and x 8 (by decide +kernel)
set_option maxHeartbeats 4000000 in
set_option maxRecDepth 100000 in
theorem kX0_isClass (l : Launch) (x : Int32) : Met l yX0_isClass wsX0_isClass ({ frames := 0, cells := 0, slots := 0, locals := 0 }) (va_Pc [.int x] (fun _ => True)) (va_Qi (fun (r : Int32) (_ : Unit) => among 16 x r) (fun _ _ => True) (fun _ => False)) 0 0 (fun _ => False) := by
  refine Met.ofW (cc := cX0_isClass) (maxL := 1) (ret := some .boolean) (by decide) rfl ?_
  intro p e s m args below meth c s₁ B hml hv
  obtain ⟨rfl, -⟩ := hv
  have hx := B.exec
  have hb := B.bytes
  have hr := B.returns
  have hlocks := B.notSynchronized
  have hS : va_S (fun _ => False) s.heap s.heap [] := va_S.rf
  have hl := lv_entry ([.int x]) (n := 1) (Nat.le_of_ble_eq_true rfl)
  rw [lg_entry_eq]
  generalize (lg_sl ([.int x]) ++ List.replicate (1 - (lg_sl ([.int x])).length) Slot.unset).toArray = ls at hl ⊢
  have hl : lv_has ls 1 [(0, .int x)] := hl
  refine lv_iload_n hx hb dX0_isClass_0 rfl (lv_at hl 0 rfl) ?_
  refine lv_if_lt (tgt := 14) hx hb dX0_isClass_1 (by decide) (fun h => ?_) (fun h => ?_)
  · refine lv_iconst (v := nI 0) hx hb dX0_isClass_14 (by decide +kernel) ?_
    exact W.zret hx hb hr (by decide +kernel) (fun t ht hW => ⟨⟨_, (), rfl, among_lo (by decide) h rfl, trivial⟩, hS.F ht⟩) hS.2.2 dX0_isClass_15
  · refine lv_iload_n hx hb dX0_isClass_4 rfl (lv_at hl 0 rfl) ?_
    refine lv_bipush (v := nI 16) hx hb dX0_isClass_5 (by decide +kernel) ?_
    refine lv_icmp_ge (tgt := 14) hx hb dX0_isClass_7 (by decide) (fun h2 => ?_) (fun h2 => ?_)
    · refine lv_iconst (v := nI 0) hx hb dX0_isClass_14 (by decide +kernel) ?_
      exact W.zret hx hb hr (by decide +kernel) (fun t ht hW => ⟨⟨_, (), rfl, among_hi (by decide) h2 rfl, trivial⟩, hS.F ht⟩) hS.2.2 dX0_isClass_15
    · obtain ⟨j, hj, rfl⟩ := (pk_ix x (n := 16) (by decide)).resolve_left h |>.resolve_left h2
      refine lv_iconst (v := nI 1) hx hb dX0_isClass_10 (by decide +kernel) ?_
      refine lv_goto (tgt := 15) hx hb dX0_isClass_11 (by decide) ?_
      exact W.zret hx hb hr (by decide +kernel) (fun t ht hW => ⟨⟨_, (), rfl, among_y hj rfl rfl, trivial⟩, hS.F ht⟩) hS.2.2 dX0_isClass_15
set_option maxHeartbeats 4000000 in
set_option maxRecDepth 100000 in
theorem kX0_isRank (l : Launch) (x : Int32) : Met l yX0_isRank wsX0_isRank ({ frames := 0, cells := 0, slots := 0, locals := 0 }) (va_Pc [.int x] (fun _ => True)) (va_Qi (fun (r : Int32) (_ : Unit) => among 2 x r) (fun _ _ => True) (fun _ => False)) 0 0 (fun _ => False) := by
  refine Met.ofW (cc := cX0_isRank) (maxL := 1) (ret := some .boolean) (by decide) rfl ?_
  intro p e s m args below meth c s₁ B hml hv
  obtain ⟨rfl, -⟩ := hv
  have hx := B.exec
  have hb := B.bytes
  have hr := B.returns
  have hlocks := B.notSynchronized
  have hS : va_S (fun _ => False) s.heap s.heap [] := va_S.rf
  have hl := lv_entry ([.int x]) (n := 1) (Nat.le_of_ble_eq_true rfl)
  rw [lg_entry_eq]
  generalize (lg_sl ([.int x]) ++ List.replicate (1 - (lg_sl ([.int x])).length) Slot.unset).toArray = ls at hl ⊢
  have hl : lv_has ls 1 [(0, .int x)] := hl
  refine lv_iload_n hx hb dX0_isRank_0 rfl (lv_at hl 0 rfl) ?_
  refine lv_if_eq (tgt := 9) hx hb dX0_isRank_1 (by decide) (fun h => ?_) (fun h => ?_)
  · refine lv_iconst (v := nI 1) hx hb dX0_isRank_9 (by decide +kernel) ?_
    refine lv_goto (tgt := 14) hx hb dX0_isRank_10 (by decide) ?_
    exact W.zret hx hb hr (by decide +kernel) (fun t ht hW => ⟨⟨_, (), rfl, among_y (j := 0) (by decide) (h.trans nI_0.symm) rfl, trivial⟩, hS.F ht⟩) hS.2.2 dX0_isRank_14
  · refine lv_iload_n hx hb dX0_isRank_4 rfl (lv_at hl 0 rfl) ?_
    refine lv_iconst (v := nI 1) hx hb dX0_isRank_5 (by decide +kernel) ?_
    refine lv_icmp_ne (tgt := 13) hx hb dX0_isRank_6 (by decide) (fun h2 => ?_) (fun h2 => ?_)
    · refine lv_iconst (v := nI 0) hx hb dX0_isRank_13 (by decide +kernel) ?_
      exact W.zret hx hb hr (by decide +kernel) (fun t ht hW => ⟨⟨_, (), rfl, Or.inr ⟨fun j hj e => by rcases (show j = 0 ∨ j = 1 by omega) with rfl | rfl; exact h (e.trans nI_0); exact h2 e, rfl⟩, trivial⟩, hS.F ht⟩) hS.2.2 dX0_isRank_14
    · refine lv_iconst (v := nI 1) hx hb dX0_isRank_9 (by decide +kernel) ?_
      refine lv_goto (tgt := 14) hx hb dX0_isRank_10 (by decide) ?_
      exact W.zret hx hb hr (by decide +kernel) (fun t ht hW => ⟨⟨_, (), rfl, among_y (j := 1) (by decide) h2 rfl, trivial⟩, hS.F ht⟩) hS.2.2 dX0_isRank_14
set_option maxHeartbeats 4000000 in
set_option maxRecDepth 100000 in
theorem kX0_lowestByte (l : Launch) (x : Int32) : Met l yX0_lowestByte wsX0_lowestByte ({ frames := 0, cells := 0, slots := 0, locals := 0 }) (va_Pc [.int x] (fun _ => True)) (va_Qi (fun (r : Int32) (_ : Unit) => r = nI (lbN x)) (fun _ _ => True) (fun _ => False)) 0 0 (fun _ => False) := by
  refine Met.ofW (cc := cX0_lowestByte) (maxL := 1) (ret := some .int) (by decide) rfl ?_
  intro p e s m args below meth c s₁ B hml hv
  obtain ⟨rfl, -⟩ := hv
  have hx := B.exec
  have hb := B.bytes
  have hr := B.returns
  have hlocks := B.notSynchronized
  have hS : va_S (fun _ => False) s.heap s.heap [] := va_S.rf
  have hl := lv_entry ([.int x]) (n := 1) (Nat.le_of_ble_eq_true rfl)
  rw [lg_entry_eq]
  generalize (lg_sl ([.int x]) ++ List.replicate (1 - (lg_sl ([.int x])).length) Slot.unset).toArray = ls at hl ⊢
  have hl : lv_has ls 1 [(0, .int x)] := hl
  refine lv_iload_n hx hb dX0_lowestByte_0 rfl (lv_at hl 0 rfl) ?_
  refine lv_sipush (v := nI 255) hx hb dX0_lowestByte_1 (by decide +kernel) ?_
  refine zv_iand hx hb dX0_lowestByte_4 (lbN_eq x) ?_
  exact W.iret hx hb hr (fun t ht hW => ⟨⟨_, (), rfl, rfl, trivial⟩, hS.F ht⟩) hS.2.2 dX0_lowestByte_5
set_option maxHeartbeats 4000000 in
set_option maxRecDepth 100000 in
theorem kX0_size (l : Launch) (x : UInt64) : Met l yX0_size wsX0_size ({ frames := 0, cells := 0, slots := 0, locals := 0 }) (va_Pc [.double x] (fun _ => True)) (va_Qd (fun (r : UInt64) (_ : Unit) => r = szF x) (fun _ _ => True) (fun _ => False)) 0 0 (fun _ => False) := by
  refine Met.ofW (cc := cX0_size) (maxL := 2) (ret := some .double) (by decide) rfl ?_
  intro p e s m args below meth c s₁ B hml hv
  obtain ⟨rfl, -⟩ := hv
  have hx := B.exec
  have hb := B.bytes
  have hr := B.returns
  have hlocks := B.notSynchronized
  have hS : va_S (fun _ => False) s.heap s.heap [] := va_S.rf
  have hl := lv_entry ([.double x]) (n := 2) (Nat.le_of_ble_eq_true rfl)
  rw [lg_entry_eq]
  generalize (lg_sl ([.double x]) ++ List.replicate (2 - (lg_sl ([.double x])).length) Slot.unset).toArray = ls at hl ⊢
  have hl : lv_has ls 2 [(0, .double x)] := hl
  refine lv_dload_n hx hb dX0_size_0 rfl (lv_at hl 0 rfl) ?_
  refine lv_dconst0 hx hb dX0_size_1 ?_
  refine lv_dcmp hx hb dX0_size_2 ?_
  refine lv_if_ge (tgt := 11) hx hb dX0_size_3 (by decide) (fun h => ?_) (fun h => ?_)
  · refine lv_dload_n hx hb dX0_size_11 rfl (lv_at hl 0 rfl) ?_
    exact W.dret hx hb hr (fun t ht hW => ⟨⟨_, (), rfl, (if_pos h).symm, trivial⟩, hS.F ht⟩) hS.2.2 dX0_size_12
  · refine lv_dload_n hx hb dX0_size_6 rfl (lv_at hl 0 rfl) ?_
    refine lv_dneg hx hb dX0_size_7 ?_
    refine lv_goto (tgt := 12) hx hb dX0_size_8 (by decide) ?_
    exact W.dret hx hb hr (fun t ht hW => ⟨⟨_, (), rfl, (if_neg h).symm, trivial⟩, hS.F ht⟩) hS.2.2 dX0_size_12
set_option maxHeartbeats 4000000 in
set_option maxRecDepth 100000 in
theorem kX1_size (l : Launch) (x : UInt64) : Met l yX1_size wsX1_size ({ frames := 0, cells := 0, slots := 0, locals := 0 }) (va_Pc [.double x] (fun _ => True)) (va_Qd (fun (r : UInt64) (_ : Unit) => r = szF x) (fun _ _ => True) (fun _ => False)) 0 0 (fun _ => False) := by
  refine Met.ofW (cc := cX1_size) (maxL := 2) (ret := some .double) (by decide) rfl ?_
  intro p e s m args below meth c s₁ B hml hv
  obtain ⟨rfl, -⟩ := hv
  have hx := B.exec
  have hb := B.bytes
  have hr := B.returns
  have hlocks := B.notSynchronized
  have hS : va_S (fun _ => False) s.heap s.heap [] := va_S.rf
  have hl := lv_entry ([.double x]) (n := 2) (Nat.le_of_ble_eq_true rfl)
  rw [lg_entry_eq]
  generalize (lg_sl ([.double x]) ++ List.replicate (2 - (lg_sl ([.double x])).length) Slot.unset).toArray = ls at hl ⊢
  have hl : lv_has ls 2 [(0, .double x)] := hl
  refine lv_dload_n hx hb dX1_size_0 rfl (lv_at hl 0 rfl) ?_
  refine lv_dconst0 hx hb dX1_size_1 ?_
  refine lv_dcmp hx hb dX1_size_2 ?_
  refine lv_if_ge (tgt := 11) hx hb dX1_size_3 (by decide) (fun h => ?_) (fun h => ?_)
  · refine lv_dload_n hx hb dX1_size_11 rfl (lv_at hl 0 rfl) ?_
    exact W.dret hx hb hr (fun t ht hW => ⟨⟨_, (), rfl, (if_pos h).symm, trivial⟩, hS.F ht⟩) hS.2.2 dX1_size_12
  · refine lv_dload_n hx hb dX1_size_6 rfl (lv_at hl 0 rfl) ?_
    refine lv_dneg hx hb dX1_size_7 ?_
    refine lv_goto (tgt := 12) hx hb dX1_size_8 (by decide) ?_
    exact W.dret hx hb hr (fun t ht hW => ⟨⟨_, (), rfl, (if_neg h).symm, trivial⟩, hS.F ht⟩) hS.2.2 dX1_size_12
end
section
/-! ===== the class: reads ===== -/
set_option maxHeartbeats 4000000 in
set_option maxRecDepth 100000 in
theorem kX0_isFeature (l : Launch) (E : zE) (ad : Nat → Nat) (hap : apart 96 ad) (κ : SX) (x : Int32) (hF : xF κ ≤ 16) : Met l yX0_isFeature wsX0_isFeature ({ frames := 0, cells := 0, slots := 0, locals := 0 }) (va_Pc [.ref (ad 0), .int (x)] (fun U => PX E ad κ U.heap ∧ zK E U)) (va_Qi (fun (r : Int32) (_ : Unit) => among (xF κ) x r) (fun _ _ => True) (fun _ => False)) 0 0 (fun _ => False) := by
  refine Met.ofW (cc := cX0_isFeature) (maxL := 2) (ret := some .boolean) (by decide) rfl ?_
  intro p e s m args below meth c s₁ B hml hv
  obtain ⟨rfl, hP, hK⟩ := hv
  have hx := B.exec
  have hb := B.bytes
  have hr := B.returns
  have hts := atoms_spec (ws := wsX0_isFeature) B.pre
  have hown : s.vm.findClass RX0 = some m.cls := findClass_of_methodNamed B.named
  have hlocks := B.notSynchronized
  have hS : va_S (fun _ => False) s.heap s.heap [] := va_S.rf
  have hRf : 0 ≤ ((headSpec wsX0_isFeature ({ frames := 0, cells := 0, slots := 0, locals := 0 })).room).frames := Nat.le_of_ble_eq_true rfl
  have hRl : 0 ≤ ((headSpec wsX0_isFeature ({ frames := 0, cells := 0, slots := 0, locals := 0 })).room).locals := Nat.le_of_ble_eq_true rfl
  have hl := lv_entry ([.ref (ad 0), .int (x)]) (n := 2) (Nat.le_of_ble_eq_true rfl)
  rw [lg_entry_eq]
  generalize (lg_sl ([.ref (ad 0), .int (x)]) ++ List.replicate (2 - (lg_sl ([.ref (ad 0), .int (x)])).length) Slot.unset).toArray = ls at hl ⊢
  have hl : lv_has ls 2 [(0, .ref (ad 0)), (1, .int (x))] := hl
  refine lv_iload_n hx hb dX0_isFeature_0 rfl (lv_at hl 1 rfl) ?_
  refine lv_if_lt (tgt := 16) hx hb dX0_isFeature_1 (by decide) (fun h => ?_) (fun h => ?_)
  · refine lv_iconst (v := nI 0) hx hb dX0_isFeature_16 (by decide +kernel) ?_
    exact W.zret hx hb hr (by decide +kernel) (fun t ht hW => ⟨⟨_, (), rfl, among_lo (by omega) h rfl, trivial⟩, hS.F ht⟩) hS.2.2 dX0_isFeature_17
  · refine lv_iload_n hx hb dX0_isFeature_4 rfl (lv_at hl 1 rfl) ?_
    refine lv_aload_n hx hb dX0_isFeature_5 rfl (lv_at hl 0 rfl) ?_
    refine gx hx hb hts innX0_isFeature hown hK hP 0 (by decide) (by decide +kernel) rfl (v := .int (nI ((xF κ)))) rfl dX0_isFeature_6 ?_
    refine lv_icmp_ge (tgt := 16) hx hb dX0_isFeature_9 (by decide) (fun h2 => ?_) (fun h2 => ?_)
    · refine lv_iconst (v := nI 0) hx hb dX0_isFeature_16 (by decide +kernel) ?_
      exact W.zret hx hb hr (by decide +kernel) (fun t ht hW => ⟨⟨_, (), rfl, among_hi (by omega) h2 rfl, trivial⟩, hS.F ht⟩) hS.2.2 dX0_isFeature_17
    · obtain ⟨j, hj, rfl⟩ := (pk_ix x (n := xF κ) (by omega)).resolve_left h |>.resolve_left h2
      refine lv_iconst (v := nI 1) hx hb dX0_isFeature_12 (by decide +kernel) ?_
      refine lv_goto (tgt := 17) hx hb dX0_isFeature_13 (by decide) ?_
      exact W.zret hx hb hr (by decide +kernel) (fun t ht hW => ⟨⟨_, (), rfl, among_y hj rfl rfl, trivial⟩, hS.F ht⟩) hS.2.2 dX0_isFeature_17
set_option maxHeartbeats 4000000 in
set_option maxRecDepth 100000 in
theorem lp_X0_distanceTo {p : Program} {l : Launch} {e : Env} {R : Room} {s : State} {m : MethodId} {args : Array Value} {below : List Frame} {meth : Method} {c : Code} {Q : State → Prop} {E : zE} {ad : Nat → Nat} (hx : p.tables.exec = Jvm.exec) (hb : c.code = cX0_distanceTo) (hml : c.maxLocals = 6) (hts : ∀ w ∈ wsX0_distanceTo, w.before args s = true) (hown : s.vm.findClass RX0 = some m.cls) (hK : zK E s) (hap : apart 96 ad) {H0 : Heap} (hRf : 1 ≤ R.frames) (hRl : 21 ≤ R.locals) (κ : SX) (c9 kv K : Nat) (v : Nat → Nat) (hF : xF κ ≤ 16) (hc : c9 < 16) (hkv : kv < 96) (hdv : cx E ad κ kv = hI (eI E) (xF κ) (fun j => nI (v j))) (hK1 : 1023 ≤ K) (hK2 : K ≤ 1900) (hw : ∀ f, f < xF κ → mg K (xWt κ c9 f) ∧ mg 1057 (xMn κ c9 f))
    (exit : ∀ (H : Heap) (locs : List Loc) (ls : Array Slot), PX E ad κ H → va_S (fun _ => False) H0 H locs → lv_has ls 6 [(3, .double (dsF (xWt κ c9) (xMn κ c9) v (xF κ))), (0, .ref (ad 0)), (1, .int (nI (c9))), (2, .ref (ad kv))] → W p l e R s m args below meth c H locs 0 0 Q (F0 m 51 ls [])) :
    ∀ (n i : Nat) (H : Heap) (locs : List Loc) (ls : Array Slot), i ≤ xF κ → xF κ - i < n → PX E ad κ H → va_S (fun _ => False) H0 H locs → lv_has ls 6 [(5, .int (nI (i))), (3, .double (dsF (xWt κ c9) (xMn κ c9) v i)), (0, .ref (ad 0)), (1, .int (nI (c9))), (2, .ref (ad kv))] → W p l e R s m args below meth c H locs 0 0 Q (F0 m 5 ls []) := by
  intro n
  induction n with
  | zero => intro i H locs ls h1 h2; omega
  | succ n ih =>
    intro i H locs ls hi hn hP hS hl
    refine lv_iload hx hb dX0_distanceTo_5 (lv_at hl 0 rfl) ?_
    refine lv_aload_n hx hb dX0_distanceTo_7 rfl (lv_at hl 2 rfl) ?_
    refine gx hx hb hts innX0_distanceTo hown hK hP 0 (by decide) (by decide +kernel) rfl (v := .int (nI ((xF κ)))) rfl dX0_distanceTo_8 ?_
    refine zb_ge (tgt := 51) hx hb (show i < 2 ^ 31 by omega) (show (xF κ) < 2 ^ 31 by omega) dX0_distanceTo_11 (by decide) (fun h => ?_) (fun h => ?_)
    · have h : (xF κ) ≤ i := h
      have hend : i = xF κ := by omega
      subst hend
      exact exit _ _ _ hP hS (lv_sub hl [1, 2, 3, 4] rfl)
    · have h : i < (xF κ) := h
      have hq := hw i h
      refine lv_dload_n hx hb dX0_distanceTo_14 rfl (lv_at hl 1 rfl) ?_
      refine lv_aload_n hx hb dX0_distanceTo_15 rfl (lv_at hl 2 rfl) ?_
      refine gx hx hb hts innX0_distanceTo hown hK hP 9 (by decide) (by decide +kernel) rfl (v := .ref (ad 62)) rfl dX0_distanceTo_16 ?_
      refine lv_iload_n hx hb dX0_distanceTo_19 rfl (lv_at hl 3 rfl) ?_
      refine z_aald 3 hx hb hK hP 62 (by decide) cx_wtO rfl rfl (show c9 < 16 by omega) (by decide) (if_pos (show c9 < 16 by omega)) dX0_distanceTo_20 ?_
      refine lv_iload hx hb dX0_distanceTo_21 (lv_at hl 0 rfl) ?_
      refine z_dald hx hb hK hP (63 + c9) (show 63 + c9 < 96 by omega) (cx_wt (show c9 < 16 by omega)) (show i < xF κ by omega) (show xF κ < 2 ^ 31 by omega) dX0_distanceTo_23 ?_
      refine lv_aload_n hx hb dX0_distanceTo_24 rfl (lv_at hl 4 rfl) ?_
      refine lv_iload hx hb dX0_distanceTo_25 (lv_at hl 0 rfl) ?_
      refine z_iald hx hb hK hP kv hkv hdv (show i < xF κ by omega) (show xF κ < 2 ^ 31 by omega) dX0_distanceTo_27 ?_
      refine lv_i2d hx hb dX0_distanceTo_28 ?_
      refine lv_aload_n hx hb dX0_distanceTo_29 rfl (lv_at hl 2 rfl) ?_
      refine gx hx hb hts innX0_distanceTo hown hK hP 8 (by decide) (by decide +kernel) rfl (v := .ref (ad 45)) rfl dX0_distanceTo_30 ?_
      refine lv_iload_n hx hb dX0_distanceTo_33 rfl (lv_at hl 3 rfl) ?_
      refine z_aald 3 hx hb hK hP 45 (by decide) cx_mnO rfl rfl (show c9 < 16 by omega) (by decide) (if_pos (show c9 < 16 by omega)) dX0_distanceTo_34 ?_
      refine lv_iload hx hb dX0_distanceTo_35 (lv_at hl 0 rfl) ?_
      refine z_dald hx hb hK hP (46 + c9) (show 46 + c9 < 96 by omega) (cx_mn (show c9 < 16 by omega)) (show i < xF κ by omega) (show xF κ < 2 ^ 31 by omega) dX0_distanceTo_37 ?_
      refine lv_dsub hx hb dX0_distanceTo_38 (mg_n64 (mg_df _ hq.2) (by decide)) ?_
      refine va_calld (va_runS (As := [.double (FP.dsub (FP.i2d (nI (v (i)))) ((xMn κ) (c9) (i)))]) (rest := [.double ((xWt κ) (c9) (i)), .double (dsF (xWt κ c9) (xMn κ c9) v i)]) ⟨hx, hb, hml, hown, hts⟩ (kX0_size l _) (va_cwS 1 hts gX0_distanceTo_X0_size rfl rfl rfl (by decide +kernel) ⟨Nat.le_trans (Nat.le_of_ble_eq_true rfl) hRf, Nat.le_trans (Nat.le_of_ble_eq_true rfl) hRl⟩) zps rfl rfl hl.1 rfl (lv_room (Nat.le_of_ble_eq_true rfl)) dX0_distanceTo_39 ⟨Nat.zero_le _, Nat.zero_le _⟩) hS (fun q _ h => h.elim) (fun q h => h.elim) (fun r u9 t9 H locs ht9 hvm9 hw9 hB9 hz9 hk9 hS => ?_)
      have hP := wn_ro hP hk9
      subst hw9
      refine lv_dmul hx hb dX0_distanceTo_42 (mg_n64 (mg_dt hq.1 hq.2 hK1 hK2) (by omega)) ?_
      refine lv_dadd hx hb dX0_distanceTo_43 (mg_n64 (mg_dadd (L := K + 52) (mg_mono (mg_ds hK1 hK2 (show i ≤ 16 by omega) (fun f hf => hw f (by omega))) (show _ ≤ K + 51 by omega)) (mg_mono (mg_dt hq.1 hq.2 hK1 hK2) (by omega)) (by omega) (by omega) (by omega)) (by omega)) ?_
      refine lv_dstore_n (lv' := [(3, .double (dsF (xWt κ c9) (xMn κ c9) v (i + 1))), (5, .int (nI (i))), (0, .ref (ad 0)), (1, .int (nI (c9))), (2, .ref (ad kv))]) hx hb dX0_distanceTo_44 rfl hl (by decide) rfl (fun ls hl => ?_)
      refine lv_iinc (v := nI (i + 1)) (lv' := [(5, .int (nI (i + 1))), (3, .double (dsF (xWt κ c9) (xMn κ c9) v (i + 1))), (0, .ref (ad 0)), (1, .int (nI (c9))), (2, .ref (ad kv))]) hx hb dX0_distanceTo_45 hl (k := 1) rfl (nI_1 _) (by decide) rfl (fun ls hl => ?_)
      refine lv_goto (tgt := 5) hx hb dX0_distanceTo_48 (by decide) ?_
      exact ih (i + 1) _ _ _ (by omega) (by omega) hP hS (lv_sub hl [0, 1, 2, 3, 4] rfl)
set_option maxHeartbeats 4000000 in
set_option maxRecDepth 100000 in
theorem kX0_distanceTo (l : Launch) (E : zE) (ad : Nat → Nat) (hap : apart 96 ad) (κ : SX) (c9 kv K : Nat) (v : Nat → Nat) (hF : xF κ ≤ 16) (hc : c9 < 16) (hkv : kv < 96) (hdv : cx E ad κ kv = hI (eI E) (xF κ) (fun j => nI (v j))) (hK1 : 1023 ≤ K) (hK2 : K ≤ 1900) (hw : ∀ f, f < xF κ → mg K (xWt κ c9 f) ∧ mg 1057 (xMn κ c9 f)) : Met l yX0_distanceTo wsX0_distanceTo ({ frames := 1, cells := 0, slots := 0, locals := 21 }) (va_Pc [.ref (ad 0), .int (nI (c9)), .ref (ad kv)] (fun U => PX E ad κ U.heap ∧ zK E U)) (va_Qd (fun (r : UInt64) (_ : Unit) => r = dsF (xWt κ c9) (xMn κ c9) v (xF κ)) (fun _ _ => True) (fun _ => False)) 0 0 (fun _ => False) := by
  refine Met.ofW (cc := cX0_distanceTo) (maxL := 6) (ret := some .double) (by decide) rfl ?_
  intro p e s m args below meth c s₁ B hml hv
  obtain ⟨rfl, hP, hK⟩ := hv
  have hx := B.exec
  have hb := B.bytes
  have hr := B.returns
  have hts := atoms_spec (ws := wsX0_distanceTo) B.pre
  have hown : s.vm.findClass RX0 = some m.cls := findClass_of_methodNamed B.named
  have hlocks := B.notSynchronized
  have hS : va_S (fun _ => False) s.heap s.heap [] := va_S.rf
  have hRf : 1 ≤ ((headSpec wsX0_distanceTo ({ frames := 1, cells := 0, slots := 0, locals := 21 })).room).frames := Nat.le_of_ble_eq_true rfl
  have hRl : 21 ≤ ((headSpec wsX0_distanceTo ({ frames := 1, cells := 0, slots := 0, locals := 21 })).room).locals := Nat.le_of_ble_eq_true rfl
  have hl := lv_entry ([.ref (ad 0), .int (nI (c9)), .ref (ad kv)]) (n := 6) (Nat.le_of_ble_eq_true rfl)
  rw [lg_entry_eq]
  generalize (lg_sl ([.ref (ad 0), .int (nI (c9)), .ref (ad kv)]) ++ List.replicate (6 - (lg_sl ([.ref (ad 0), .int (nI (c9)), .ref (ad kv)])).length) Slot.unset).toArray = ls at hl ⊢
  have hl : lv_has ls 6 [(0, .ref (ad 0)), (1, .int (nI (c9))), (2, .ref (ad kv))] := hl
  refine lv_dconst0 hx hb dX0_distanceTo_0 ?_
  refine lv_dstore_n (lv' := [(3, .double (FP.dconst0)), (0, .ref (ad 0)), (1, .int (nI (c9))), (2, .ref (ad kv))]) hx hb dX0_distanceTo_1 rfl hl (by decide) rfl (fun ls hl => ?_)
  refine lv_iconst (v := nI 0) hx hb dX0_distanceTo_2 (by decide +kernel) ?_
  refine lv_istore (lv' := [(5, .int (nI (0))), (3, .double (FP.dconst0)), (0, .ref (ad 0)), (1, .int (nI (c9))), (2, .ref (ad kv))]) hx hb dX0_distanceTo_3 hl (by decide) rfl (fun ls hl => ?_)
  refine lp_X0_distanceTo hx hb hml hts hown hK hap hRf hRl κ c9 kv K v hF hc hkv hdv hK1 hK2 hw (fun H locs ls hP hS hl => ?_) (xF κ + 1) 0 _ _ _ (by omega) (by omega) hP hS (lv_sub hl [0, 1, 2, 3, 4] rfl)
  refine lv_dload_n hx hb dX0_distanceTo_51 rfl (lv_at hl 0 rfl) ?_
  exact W.dret hx hb hr (fun t ht hW => ⟨⟨_, (), rfl, rfl, trivial⟩, hS.F ht⟩) hS.2.2 dX0_distanceTo_52
/-- which classes there are, and how far they are -/
def hasX (κ : SX) : Nat → Bool := fun c => decide (xMb κ c ≠ 0)
def ddX (κ : SX) (v : Nat → Nat) : Nat → UInt64 := fun c => dsF (xWt κ c) (xMn κ c) v (xF κ)
def nearX (κ : SX) (v : Nat → Nat) (but : Int32) : Int32 := (nrF (hasX κ) (ddX κ v) but 16).1
theorem nrF_fst {has : Nat → Bool} {dd : Nat → UInt64} {but : Int32} : ∀ n : Nat, (nrF has dd but n).1 = -1 ∨ ∃ j, j < n ∧ has j = true ∧ nI j ≠ but ∧ (nrF has dd but n).1 = nI j
  | 0 => Or.inl rfl
  | n + 1 => by
    rw [nrF]
    split
    · rename_i h
      exact Or.inr ⟨n, Nat.lt_succ_self n, h.1, h.2.1, rfl⟩
    · rcases nrF_fst n with h | ⟨j, h1, h2, h3, h4⟩
      · exact Or.inl h
      · exact Or.inr ⟨j, Nat.lt_succ_of_lt h1, h2, h3, h4⟩
theorem m1_ne {j : Nat} (h : j < 2 ^ 31) : nI j ≠ -1 := fun e => nI_pos h (by rw [e]; decide)
theorem nrF_neg {has : Nat → Bool} {dd : Nat → UInt64} {but : Int32} {n : Nat} (hn : n ≤ 16) : (nrF has dd but n).1 < 0 ↔ (nrF has dd but n).1 = -1 := by
  rcases nrF_fst (has := has) (dd := dd) (but := but) n with h | ⟨j, h1, h2, h3, h4⟩
  · rw [h]; exact ⟨fun _ => rfl, fun _ => by decide⟩
  · rw [h4]; exact ⟨fun q => absurd q (nI_pos (by omega)), fun q => absurd q (m1_ne (by omega))⟩
set_option maxHeartbeats 4000000 in
set_option maxRecDepth 100000 in
theorem lp_X0_nearestClass {p : Program} {l : Launch} {e : Env} {R : Room} {s : State} {m : MethodId} {args : Array Value} {below : List Frame} {meth : Method} {c : Code} {Q : State → Prop} {E : zE} {ad : Nat → Nat} (hx : p.tables.exec = Jvm.exec) (hb : c.code = cX0_nearestClass) (hml : c.maxLocals = 9) (hts : ∀ w ∈ wsX0_nearestClass, w.before args s = true) (hown : s.vm.findClass RX0 = some m.cls) (hK : zK E s) (hap : apart 96 ad) {H0 : Heap} (hRf : 2 ≤ R.frames) (hRl : 46 ≤ R.locals) (κ : SX) (kv K : Nat) (v : Nat → Nat) (but : Int32) (hF : xF κ ≤ 16) (hmb : ∀ c, c < 16 → xMb κ c < 2 ^ 31) (hkv : kv < 96) (hdv : cx E ad κ kv = hI (eI E) (xF κ) (fun j => nI (v j))) (hK1 : 1023 ≤ K) (hK2 : K ≤ 1900) (hw : ∀ c, c < 16 → ∀ f, f < xF κ → mg K (xWt κ c f) ∧ mg 1057 (xMn κ c f))
    (exit : ∀ (H : Heap) (locs : List Loc) (ls : Array Slot), PX E ad κ H → va_S (fun _ => False) H0 H locs → lv_has ls 9 [(3, .int ((nrF (hasX κ) (ddX κ v) but 16).1)), (0, .ref (ad 0)), (1, .ref (ad kv)), (2, .int (but))] → W p l e R s m args below meth c H locs 0 0 Q (F0 m 69 ls [])) :
    ∀ (n i : Nat) (H : Heap) (locs : List Loc) (ls : Array Slot), i ≤ 16 → 16 - i < n → PX E ad κ H → va_S (fun _ => False) H0 H locs → lv_has ls 9 [(6, .int (nI (i))), (4, .double ((nrF (hasX κ) (ddX κ v) but i).2)), (3, .int ((nrF (hasX κ) (ddX κ v) but i).1)), (0, .ref (ad 0)), (1, .ref (ad kv)), (2, .int (but))] → W p l e R s m args below meth c H locs 0 0 Q (F0 m 8 ls []) := by
  intro n
  induction n with
  | zero => intro i H locs ls h1 h2; omega
  | succ n ih =>
    intro i H locs ls hi hn hP hS hl
    refine lv_iload hx hb dX0_nearestClass_8 (lv_at hl 0 rfl) ?_
    refine lv_bipush (v := nI 16) hx hb dX0_nearestClass_10 (by decide +kernel) ?_
    refine zb_ge (tgt := 69) hx hb (show i < 2 ^ 31 by omega) (show 16 < 2 ^ 31 by omega) dX0_nearestClass_12 (by decide) (fun h => ?_) (fun h => ?_)
    · have h : 16 ≤ i := h
      have hend : i = 16 := by omega
      subst hend
      exact exit _ _ _ hP hS (lv_sub hl [2, 3, 4, 5] rfl)
    · have h : i < 16 := h
      have hmi := hmb i h
      refine lv_aload_n hx hb dX0_nearestClass_15 rfl (lv_at hl 3 rfl) ?_
      refine gx hx hb hts innX0_nearestClass hown hK hP 7 (by decide) (by decide +kernel) rfl (v := .ref (ad 44)) rfl dX0_nearestClass_16 ?_
      refine lv_iload hx hb dX0_nearestClass_19 (lv_at hl 0 rfl) ?_
      refine z_iald hx hb hK hP 44 (by decide) cx_mb (show i < 16 by omega) (by decide) dX0_nearestClass_21 ?_
      refine zu_eq (tgt := 63) hx hb (show (xMb κ) (i) < 2 ^ 31 by omega) dX0_nearestClass_22 (by decide) (fun h1 => ?_) (fun h1 => ?_)
      · have h1 : ((xMb κ) (i)) = 0 := h1
        have e9 : (nrF (hasX κ) (ddX κ v) but (i + 1)) = (nrF (hasX κ) (ddX κ v) but i) := if_neg (fun q => absurd q.1 (by unfold hasX; rw [h1]; decide))
        refine lv_iinc (v := nI (i + 1)) (lv' := [(6, .int (nI (i + 1))), (4, .double ((nrF (hasX κ) (ddX κ v) but i).2)), (3, .int ((nrF (hasX κ) (ddX κ v) but i).1)), (0, .ref (ad 0)), (1, .ref (ad kv)), (2, .int (but))]) hx hb dX0_nearestClass_63 hl (k := 0) rfl (nI_1 _) (by decide) rfl (fun ls hl => ?_)
        refine lv_goto (tgt := 8) hx hb dX0_nearestClass_66 (by decide) ?_
        exact ih (i + 1) _ _ _ (by omega) (by omega) hP hS (by rw [e9]; exact lv_sub hl [0, 1, 2, 3, 4, 5] rfl)
      · have h1 : 0 < ((xMb κ) (i)) := h1
        refine lv_iload hx hb dX0_nearestClass_25 (lv_at hl 0 rfl) ?_
        refine lv_iload_n hx hb dX0_nearestClass_27 rfl (lv_at hl 5 rfl) ?_
        refine lv_icmp_ne (tgt := 34) hx hb dX0_nearestClass_28 (by decide) (fun h2 => ?_) (fun h2 => ?_)
        · refine lv_aload_n hx hb dX0_nearestClass_34 rfl (lv_at hl 3 rfl) ?_
          refine lv_iload hx hb dX0_nearestClass_35 (lv_at hl 0 rfl) ?_
          refine lv_aload_n hx hb dX0_nearestClass_37 rfl (lv_at hl 4 rfl) ?_
          refine va_calld (va_runV (As := [.int (nI (i)), .ref (ad kv)]) (rest := []) ⟨hx, hb, hml, hown, hts⟩ (kX0_distanceTo l E ad hap κ i kv K v hF h hkv hdv hK1 hK2 (hw i h)) (cwV 2 hts gX0_nearestClass_X0_distanceTo rfl rfl rfl (by decide +kernel) ⟨Nat.le_trans (Nat.le_of_ble_eq_true rfl) hRf, Nat.le_trans (Nat.le_of_ble_eq_true rfl) hRl⟩) (zpx hK hP) rfl rfl hl.1 rfl (lv_room (Nat.le_of_ble_eq_true rfl)) dX0_nearestClass_38 ⟨Nat.zero_le _, Nat.zero_le _⟩) hS (fun q _ h => h.elim) (fun q h => h.elim) (fun r u9 t9 H locs ht9 hvm9 hw9 hB9 hz9 hk9 hS => ?_)
          have hP := wn_ro hP hk9
          subst hw9
          show W p l e R s m args below meth c H locs 0 0 Q (F0 m 41 ls [.double (ddX κ v i)])
          refine lv_dstore (lv' := [(7, .double (ddX κ v i)), (6, .int (nI (i))), (4, .double ((nrF (hasX κ) (ddX κ v) but i).2)), (3, .int ((nrF (hasX κ) (ddX κ v) but i).1)), (0, .ref (ad 0)), (1, .ref (ad kv)), (2, .int (but))]) hx hb dX0_nearestClass_41 hl (by decide) rfl (fun ls hl => ?_)
          refine lv_iload_n hx hb dX0_nearestClass_43 rfl (lv_at hl 3 rfl) ?_
          refine lv_iconst (v := -1) hx hb dX0_nearestClass_44 (by decide +kernel) ?_
          refine lv_icmp_eq (tgt := 56) hx hb dX0_nearestClass_45 (by decide) (fun h3 => ?_) (fun h3 => ?_)
          · have e9 : (nrF (hasX κ) (ddX κ v) but (i + 1)) = (nI i, ddX κ v i) := if_pos ⟨decide_eq_true (Nat.ne_of_gt h1), h2, Or.inl h3⟩
            refine lv_iload hx hb dX0_nearestClass_56 (lv_at hl 1 rfl) ?_
            refine lv_istore_n (lv' := [(3, .int (nI (i))), (7, .double (ddX κ v i)), (6, .int (nI (i))), (4, .double ((nrF (hasX κ) (ddX κ v) but i).2)), (0, .ref (ad 0)), (1, .ref (ad kv)), (2, .int (but))]) hx hb dX0_nearestClass_58 rfl hl (by decide) rfl (fun ls hl => ?_)
            refine lv_dload hx hb dX0_nearestClass_59 (lv_at hl 1 rfl) ?_
            refine lv_dstore (lv' := [(4, .double (ddX κ v i)), (3, .int (nI (i))), (7, .double (ddX κ v i)), (6, .int (nI (i))), (0, .ref (ad 0)), (1, .ref (ad kv)), (2, .int (but))]) hx hb dX0_nearestClass_61 hl (by decide) rfl (fun ls hl => ?_)
            refine lv_iinc (v := nI (i + 1)) (lv' := [(6, .int (nI (i + 1))), (4, .double (ddX κ v i)), (3, .int (nI (i))), (7, .double (ddX κ v i)), (0, .ref (ad 0)), (1, .ref (ad kv)), (2, .int (but))]) hx hb dX0_nearestClass_63 hl (k := 3) rfl (nI_1 _) (by decide) rfl (fun ls hl => ?_)
            refine lv_goto (tgt := 8) hx hb dX0_nearestClass_66 (by decide) ?_
            exact ih (i + 1) _ _ _ (by omega) (by omega) hP hS (by rw [e9]; exact lv_sub hl [0, 1, 2, 4, 5, 6] rfl)
          · refine lv_dload hx hb dX0_nearestClass_48 (lv_at hl 0 rfl) ?_
            refine lv_dload hx hb dX0_nearestClass_50 (lv_at hl 2 rfl) ?_
            refine lv_dcmp hx hb dX0_nearestClass_52 ?_
            refine lv_if_ge (tgt := 63) hx hb dX0_nearestClass_53 (by decide) (fun h4 => ?_) (fun h4 => ?_)
            · have e9 : (nrF (hasX κ) (ddX κ v) but (i + 1)) = (nrF (hasX κ) (ddX κ v) but i) := if_neg (fun q => q.2.2.elim h3 (fun z => z h4))
              refine lv_iinc (v := nI (i + 1)) (lv' := [(6, .int (nI (i + 1))), (7, .double (ddX κ v i)), (4, .double ((nrF (hasX κ) (ddX κ v) but i).2)), (3, .int ((nrF (hasX κ) (ddX κ v) but i).1)), (0, .ref (ad 0)), (1, .ref (ad kv)), (2, .int (but))]) hx hb dX0_nearestClass_63 hl (k := 1) rfl (nI_1 _) (by decide) rfl (fun ls hl => ?_)
              refine lv_goto (tgt := 8) hx hb dX0_nearestClass_66 (by decide) ?_
              exact ih (i + 1) _ _ _ (by omega) (by omega) hP hS (by rw [e9]; exact lv_sub hl [0, 2, 3, 4, 5, 6] rfl)
            · have e9 : (nrF (hasX κ) (ddX κ v) but (i + 1)) = (nI i, ddX κ v i) := if_pos ⟨decide_eq_true (Nat.ne_of_gt h1), h2, Or.inr h4⟩
              refine lv_iload hx hb dX0_nearestClass_56 (lv_at hl 1 rfl) ?_
              refine lv_istore_n (lv' := [(3, .int (nI (i))), (7, .double (ddX κ v i)), (6, .int (nI (i))), (4, .double ((nrF (hasX κ) (ddX κ v) but i).2)), (0, .ref (ad 0)), (1, .ref (ad kv)), (2, .int (but))]) hx hb dX0_nearestClass_58 rfl hl (by decide) rfl (fun ls hl => ?_)
              refine lv_dload hx hb dX0_nearestClass_59 (lv_at hl 1 rfl) ?_
              refine lv_dstore (lv' := [(4, .double (ddX κ v i)), (3, .int (nI (i))), (7, .double (ddX κ v i)), (6, .int (nI (i))), (0, .ref (ad 0)), (1, .ref (ad kv)), (2, .int (but))]) hx hb dX0_nearestClass_61 hl (by decide) rfl (fun ls hl => ?_)
              refine lv_iinc (v := nI (i + 1)) (lv' := [(6, .int (nI (i + 1))), (4, .double (ddX κ v i)), (3, .int (nI (i))), (7, .double (ddX κ v i)), (0, .ref (ad 0)), (1, .ref (ad kv)), (2, .int (but))]) hx hb dX0_nearestClass_63 hl (k := 3) rfl (nI_1 _) (by decide) rfl (fun ls hl => ?_)
              refine lv_goto (tgt := 8) hx hb dX0_nearestClass_66 (by decide) ?_
              exact ih (i + 1) _ _ _ (by omega) (by omega) hP hS (by rw [e9]; exact lv_sub hl [0, 1, 2, 4, 5, 6] rfl)
        · refine lv_goto (tgt := 63) hx hb dX0_nearestClass_31 (by decide) ?_
          have e9 : (nrF (hasX κ) (ddX κ v) but (i + 1)) = (nrF (hasX κ) (ddX κ v) but i) := if_neg (fun q => q.2.1 h2)
          refine lv_iinc (v := nI (i + 1)) (lv' := [(6, .int (nI (i + 1))), (4, .double ((nrF (hasX κ) (ddX κ v) but i).2)), (3, .int ((nrF (hasX κ) (ddX κ v) but i).1)), (0, .ref (ad 0)), (1, .ref (ad kv)), (2, .int (but))]) hx hb dX0_nearestClass_63 hl (k := 0) rfl (nI_1 _) (by decide) rfl (fun ls hl => ?_)
          refine lv_goto (tgt := 8) hx hb dX0_nearestClass_66 (by decide) ?_
          exact ih (i + 1) _ _ _ (by omega) (by omega) hP hS (by rw [e9]; exact lv_sub hl [0, 1, 2, 3, 4, 5] rfl)
set_option maxHeartbeats 4000000 in
set_option maxRecDepth 100000 in
theorem kX0_nearestClass (l : Launch) (E : zE) (ad : Nat → Nat) (hap : apart 96 ad) (κ : SX) (kv K : Nat) (v : Nat → Nat) (but : Int32) (hF : xF κ ≤ 16) (hmb : ∀ c, c < 16 → xMb κ c < 2 ^ 31) (hkv : kv < 96) (hdv : cx E ad κ kv = hI (eI E) (xF κ) (fun j => nI (v j))) (hK1 : 1023 ≤ K) (hK2 : K ≤ 1900) (hw : ∀ c, c < 16 → ∀ f, f < xF κ → mg K (xWt κ c f) ∧ mg 1057 (xMn κ c f)) : Met l yX0_nearestClass wsX0_nearestClass ({ frames := 2, cells := 0, slots := 0, locals := 46 }) (va_Pc [.ref (ad 0), .ref (ad kv), .int (but)] (fun U => PX E ad κ U.heap ∧ zK E U)) (va_Qi (fun (r : Int32) (_ : Unit) => r = nearX κ v but) (fun _ _ => True) (fun _ => False)) 0 0 (fun _ => False) := by
  refine Met.ofW (cc := cX0_nearestClass) (maxL := 9) (ret := some .int) (by decide) rfl ?_
  intro p e s m args below meth c s₁ B hml hv
  obtain ⟨rfl, hP, hK⟩ := hv
  have hx := B.exec
  have hb := B.bytes
  have hr := B.returns
  have hts := atoms_spec (ws := wsX0_nearestClass) B.pre
  have hown : s.vm.findClass RX0 = some m.cls := findClass_of_methodNamed B.named
  have hlocks := B.notSynchronized
  have hS : va_S (fun _ => False) s.heap s.heap [] := va_S.rf
  have hRf : 2 ≤ ((headSpec wsX0_nearestClass ({ frames := 2, cells := 0, slots := 0, locals := 46 })).room).frames := Nat.le_of_ble_eq_true rfl
  have hRl : 46 ≤ ((headSpec wsX0_nearestClass ({ frames := 2, cells := 0, slots := 0, locals := 46 })).room).locals := Nat.le_of_ble_eq_true rfl
  have hl := lv_entry ([.ref (ad 0), .ref (ad kv), .int (but)]) (n := 9) (Nat.le_of_ble_eq_true rfl)
  rw [lg_entry_eq]
  generalize (lg_sl ([.ref (ad 0), .ref (ad kv), .int (but)]) ++ List.replicate (9 - (lg_sl ([.ref (ad 0), .ref (ad kv), .int (but)])).length) Slot.unset).toArray = ls at hl ⊢
  have hl : lv_has ls 9 [(0, .ref (ad 0)), (1, .ref (ad kv)), (2, .int (but))] := hl
  refine lv_iconst (v := -1) hx hb dX0_nearestClass_0 (by decide +kernel) ?_
  refine lv_istore_n (lv' := [(3, .int (-1)), (0, .ref (ad 0)), (1, .ref (ad kv)), (2, .int (but))]) hx hb dX0_nearestClass_1 rfl hl (by decide) rfl (fun ls hl => ?_)
  refine lv_dconst0 hx hb dX0_nearestClass_2 ?_
  refine lv_dstore (lv' := [(4, .double (FP.dconst0)), (3, .int (-1)), (0, .ref (ad 0)), (1, .ref (ad kv)), (2, .int (but))]) hx hb dX0_nearestClass_3 hl (by decide) rfl (fun ls hl => ?_)
  refine lv_iconst (v := nI 0) hx hb dX0_nearestClass_5 (by decide +kernel) ?_
  refine lv_istore (lv' := [(6, .int (nI (0))), (4, .double (FP.dconst0)), (3, .int (-1)), (0, .ref (ad 0)), (1, .ref (ad kv)), (2, .int (but))]) hx hb dX0_nearestClass_6 hl (by decide) rfl (fun ls hl => ?_)
  refine lp_X0_nearestClass hx hb hml hts hown hK hap hRf hRl κ kv K v but hF hmb hkv hdv hK1 hK2 hw (fun H locs ls hP hS hl => ?_) (16 + 1) 0 _ _ _ (by omega) (by omega) hP hS (lv_sub hl [0, 1, 2, 3, 4, 5] rfl)
  refine lv_iload_n hx hb dX0_nearestClass_69 rfl (lv_at hl 0 rfl) ?_
  exact W.iret hx hb hr (fun t ht hW => ⟨⟨_, (), rfl, rfl, trivial⟩, hS.F ht⟩) hS.2.2 dX0_nearestClass_70
set_option maxHeartbeats 4000000 in
set_option maxRecDepth 100000 in
theorem lp_X0_isSignBlank {p : Program} {l : Launch} {e : Env} {R : Room} {s : State} {m : MethodId} {args : Array Value} {below : List Frame} {meth : Method} {c : Code} {Q : State → Prop} {E : zE} {ad : Nat → Nat} (hx : p.tables.exec = Jvm.exec) (hb : c.code = cX0_isSignBlank) (hml : c.maxLocals = 2) (hts : ∀ w ∈ wsX0_isSignBlank, w.before args s = true) (hown : s.vm.findClass RX0 = some m.cls) (hK : zK E s) (hap : apart 96 ad) {H0 : Heap} (hRf : 0 ≤ R.frames) (hRl : 0 ≤ R.locals) (κ : SX) (hF : xF κ ≤ 16) (hsg : ∀ f, f < xF κ → xSg κ f < 2 ^ 31)
    (exit : ∀ (H : Heap) (locs : List Loc) (ls : Array Slot), PX E ad κ H → va_S (fun _ => False) H0 H locs → lv_has ls 2 [(0, .ref (ad 0))] → (∀ f, f < xF κ → xSg κ f = 0) → W p l e R s m args below meth c H locs 0 0 Q (F0 m 27 ls []))
    (exit2 : ∀ (H : Heap) (locs : List Loc) (ls : Array Slot) (i : Nat), i < xF κ → 0 < xSg κ i → va_S (fun _ => False) H0 H locs → W p l e R s m args below meth c H locs 0 0 Q (F0 m 19 ls [])) :
    ∀ (n i : Nat) (H : Heap) (locs : List Loc) (ls : Array Slot), i ≤ xF κ → xF κ - i < n → (∀ f, f < i → xSg κ f = 0) → PX E ad κ H → va_S (fun _ => False) H0 H locs → lv_has ls 2 [(1, .int (nI (i))), (0, .ref (ad 0))] → W p l e R s m args below meth c H locs 0 0 Q (F0 m 2 ls []) := by
  intro n
  induction n with
  | zero => intro i H locs ls h1 h2; omega
  | succ n ih =>
    intro i H locs ls hi hn hz hP hS hl
    refine lv_iload_n hx hb dX0_isSignBlank_2 rfl (lv_at hl 0 rfl) ?_
    refine lv_aload_n hx hb dX0_isSignBlank_3 rfl (lv_at hl 1 rfl) ?_
    refine gx hx hb hts innX0_isSignBlank hown hK hP 0 (by decide) (by decide +kernel) rfl (v := .int (nI ((xF κ)))) rfl dX0_isSignBlank_4 ?_
    refine zb_ge (tgt := 27) hx hb (show i < 2 ^ 31 by omega) (show (xF κ) < 2 ^ 31 by omega) dX0_isSignBlank_7 (by decide) (fun h => ?_) (fun h => ?_)
    · have h : (xF κ) ≤ i := h
      exact exit _ _ _ hP hS (lv_sub hl [1] rfl) (fun f hf => hz f (by omega))
    · have h : i < (xF κ) := h
      have hsi := hsg i h
      refine lv_aload_n hx hb dX0_isSignBlank_10 rfl (lv_at hl 1 rfl) ?_
      refine gx hx hb hts innX0_isSignBlank hown hK hP 4 (by decide) (by decide +kernel) rfl (v := .ref (ad 43)) rfl dX0_isSignBlank_11 ?_
      refine lv_iload_n hx hb dX0_isSignBlank_14 rfl (lv_at hl 0 rfl) ?_
      refine z_iald hx hb hK hP 43 (by decide) cx_sg (show i < xF κ by omega) (show xF κ < 2 ^ 31 by omega) dX0_isSignBlank_15 ?_
      refine zu_eq (tgt := 21) hx hb (show (xSg κ) (i) < 2 ^ 31 by omega) dX0_isSignBlank_16 (by decide) (fun h1 => ?_) (fun h1 => ?_)
      · have h1 : ((xSg κ) (i)) = 0 := h1
        refine lv_iinc (v := nI (i + 1)) (lv' := [(1, .int (nI (i + 1))), (0, .ref (ad 0))]) hx hb dX0_isSignBlank_21 hl (k := 0) rfl (nI_1 _) (by decide) rfl (fun ls hl => ?_)
        refine lv_goto (tgt := 2) hx hb dX0_isSignBlank_24 (by decide) ?_
        exact ih (i + 1) _ _ _ (by omega) (by omega) (fun f hf => by rcases Nat.lt_or_ge f i with q | q; exact hz f q; exact (show f = i by omega) ▸ h1) hP hS (lv_sub hl [0, 1] rfl)
      · have h1 : 0 < ((xSg κ) (i)) := h1
        exact exit2 _ _ _ i h h1 hS
set_option maxHeartbeats 4000000 in
set_option maxRecDepth 100000 in
theorem kX0_isSignBlank (l : Launch) (E : zE) (ad : Nat → Nat) (hap : apart 96 ad) (κ : SX) (hF : xF κ ≤ 16) (hsg : ∀ f, f < xF κ → xSg κ f < 2 ^ 31) : Met l yX0_isSignBlank wsX0_isSignBlank ({ frames := 0, cells := 0, slots := 0, locals := 0 }) (va_Pc [.ref (ad 0)] (fun U => PX E ad κ U.heap ∧ zK E U)) (va_Qi (fun (r : Int32) (_ : Unit) => (r = nI 1 ∧ ∀ f, f < xF κ → xSg κ f = 0) ∨ (r = nI 0 ∧ ∃ f, f < xF κ ∧ 0 < xSg κ f)) (fun _ _ => True) (fun _ => False)) 0 0 (fun _ => False) := by
  refine Met.ofW (cc := cX0_isSignBlank) (maxL := 2) (ret := some .boolean) (by decide) rfl ?_
  intro p e s m args below meth c s₁ B hml hv
  obtain ⟨rfl, hP, hK⟩ := hv
  have hx := B.exec
  have hb := B.bytes
  have hr := B.returns
  have hts := atoms_spec (ws := wsX0_isSignBlank) B.pre
  have hown : s.vm.findClass RX0 = some m.cls := findClass_of_methodNamed B.named
  have hlocks := B.notSynchronized
  have hS : va_S (fun _ => False) s.heap s.heap [] := va_S.rf
  have hRf : 0 ≤ ((headSpec wsX0_isSignBlank ({ frames := 0, cells := 0, slots := 0, locals := 0 })).room).frames := Nat.le_of_ble_eq_true rfl
  have hRl : 0 ≤ ((headSpec wsX0_isSignBlank ({ frames := 0, cells := 0, slots := 0, locals := 0 })).room).locals := Nat.le_of_ble_eq_true rfl
  have hl := lv_entry ([.ref (ad 0)]) (n := 2) (Nat.le_of_ble_eq_true rfl)
  rw [lg_entry_eq]
  generalize (lg_sl ([.ref (ad 0)]) ++ List.replicate (2 - (lg_sl ([.ref (ad 0)])).length) Slot.unset).toArray = ls at hl ⊢
  have hl : lv_has ls 2 [(0, .ref (ad 0))] := hl
  refine lv_iconst (v := nI 0) hx hb dX0_isSignBlank_0 (by decide +kernel) ?_
  refine lv_istore_n (lv' := [(1, .int (nI (0))), (0, .ref (ad 0))]) hx hb dX0_isSignBlank_1 rfl hl (by decide) rfl (fun ls hl => ?_)
  refine lp_X0_isSignBlank hx hb hml hts hown hK hap hRf hRl κ hF hsg (fun H locs ls hP hS hl hz => ?_) (fun H locs ls i hi h1 hS => ?_) (xF κ + 1) 0 _ _ _ (by omega) (by omega) (fun f hf => absurd hf (Nat.not_lt_zero f)) hP hS (lv_sub hl [0, 1] rfl)
  · refine lv_iconst (v := nI 1) hx hb dX0_isSignBlank_27 (by decide +kernel) ?_
    exact W.zret hx hb hr (by decide +kernel) (fun t ht hW => ⟨⟨_, (), rfl, Or.inl ⟨rfl, hz⟩, trivial⟩, hS.F ht⟩) hS.2.2 dX0_isSignBlank_28
  · refine lv_iconst (v := nI 0) hx hb dX0_isSignBlank_19 (by decide +kernel) ?_
    exact W.zret hx hb hr (by decide +kernel) (fun t ht hW => ⟨⟨_, (), rfl, Or.inr ⟨rfl, i, hi, h1⟩, trivial⟩, hS.F ht⟩) hS.2.2 dX0_isSignBlank_20
/-- 1 where the lead of b over a is below l -/
def ldF (a b : UInt64) (l : Nat) : Int32 := if 0 ≤ Op.cmpValue (FP.dcmp (FP.dsub b a) (FP.i2d (nI l))) CmpOp.g then nI 0 else nI 1
def tooX (κ : SX) (x y r : Int32) : Prop := (∃ i j : Nat, i < 16 ∧ j < 16 ∧ x = nI i ∧ y = nI j ∧ r = ldF (ddX κ (xSg κ) i) (ddX κ (xSg κ) j) (xLd κ)) ∨ (((∀ j : Nat, j < 16 → x ≠ nI j) ∨ ∀ j : Nat, j < 16 → y ≠ nI j) ∧ r = nI 0)
set_option maxHeartbeats 4000000 in
set_option maxRecDepth 100000 in
theorem kX0_isTooClose (l : Launch) (E : zE) (ad : Nat → Nat) (hap : apart 96 ad) (κ : SX) (x y : Int32) (K : Nat) (hF : xF κ ≤ 16) (hK1 : 1023 ≤ K) (hK2 : K ≤ 1900) (hw : ∀ c, c < 16 → ∀ f, f < xF κ → mg K (xWt κ c f) ∧ mg 1057 (xMn κ c f)) : Met l yX0_isTooClose wsX0_isTooClose ({ frames := 2, cells := 0, slots := 0, locals := 46 }) (va_Pc [.ref (ad 0), .int (x), .int (y)] (fun U => PX E ad κ U.heap ∧ zK E U)) (va_Qi (fun (r : Int32) (_ : Unit) => tooX κ x y r) (fun _ _ => True) (fun _ => False)) 0 0 (fun _ => False) := by
  refine Met.ofW (cc := cX0_isTooClose) (maxL := 5) (ret := some .boolean) (by decide) rfl ?_
  intro p e s m args below meth c s₁ B hml hv
  obtain ⟨rfl, hP, hK⟩ := hv
  have hx := B.exec
  have hb := B.bytes
  have hr := B.returns
  have hts := atoms_spec (ws := wsX0_isTooClose) B.pre
  have hown : s.vm.findClass RX0 = some m.cls := findClass_of_methodNamed B.named
  have hlocks := B.notSynchronized
  have hS : va_S (fun _ => False) s.heap s.heap [] := va_S.rf
  have hRf : 2 ≤ ((headSpec wsX0_isTooClose ({ frames := 2, cells := 0, slots := 0, locals := 46 })).room).frames := Nat.le_of_ble_eq_true rfl
  have hRl : 46 ≤ ((headSpec wsX0_isTooClose ({ frames := 2, cells := 0, slots := 0, locals := 46 })).room).locals := Nat.le_of_ble_eq_true rfl
  have hl := lv_entry ([.ref (ad 0), .int (x), .int (y)]) (n := 5) (Nat.le_of_ble_eq_true rfl)
  rw [lg_entry_eq]
  generalize (lg_sl ([.ref (ad 0), .int (x), .int (y)]) ++ List.replicate (5 - (lg_sl ([.ref (ad 0), .int (x), .int (y)])).length) Slot.unset).toArray = ls at hl ⊢
  have hl : lv_has ls 5 [(0, .ref (ad 0)), (1, .int (x)), (2, .int (y))] := hl
  refine lv_iload_n hx hb dX0_isTooClose_0 rfl (lv_at hl 1 rfl) ?_
  refine va_calli (va_runS (As := [.int (x)]) (rest := []) ⟨hx, hb, hml, hown, hts⟩ (kX0_isClass l x) (va_cwS 1 hts gX0_isTooClose_X0_isClass rfl rfl rfl (by decide +kernel) ⟨Nat.le_trans (Nat.le_of_ble_eq_true rfl) hRf, Nat.le_trans (Nat.le_of_ble_eq_true rfl) hRl⟩) zps rfl rfl hl.1 rfl (lv_room (Nat.le_of_ble_eq_true rfl)) dX0_isTooClose_1 ⟨Nat.zero_le _, Nat.zero_le _⟩) hS (fun q _ h => h.elim) (fun q h => h.elim) (fun r u9 t9 H locs ht9 hvm9 hw9 hB9 hz9 hk9 hS => ?_)
  have hP := wn_ro hP hk9
  rcases hw9 with ⟨i, hi, rfl, rfl⟩ | ⟨hno, rfl⟩
  · refine zu_eq (tgt := 14) hx hb (show 1 < 2 ^ 31 by omega) dX0_isTooClose_4 (by decide) (fun h => ?_) (fun h => ?_)
    · have h : 1 = 0 := h
      exact absurd h (by decide)
    · have h : 0 < 1 := h
      refine lv_iload_n hx hb dX0_isTooClose_7 rfl (lv_at hl 2 rfl) ?_
      refine va_calli (va_runS (As := [.int (y)]) (rest := []) ⟨hx, hb, hml, hown, hts⟩ (kX0_isClass l y) (va_cwS 1 hts gX0_isTooClose_X0_isClass rfl rfl rfl (by decide +kernel) ⟨Nat.le_trans (Nat.le_of_ble_eq_true rfl) hRf, Nat.le_trans (Nat.le_of_ble_eq_true rfl) hRl⟩) zps rfl rfl hl.1 rfl (lv_room (Nat.le_of_ble_eq_true rfl)) dX0_isTooClose_8 ⟨Nat.zero_le _, Nat.zero_le _⟩) hS (fun q _ h => h.elim) (fun q h => h.elim) (fun r u9 t9 H locs ht9 hvm9 hw9 hB9 hz9 hk9 hS => ?_)
      have hP := wn_ro hP hk9
      rcases hw9 with ⟨j, hj, rfl, rfl⟩ | ⟨hno, rfl⟩
      · refine zu_ne (tgt := 16) hx hb (show 1 < 2 ^ 31 by omega) dX0_isTooClose_11 (by decide) (fun h => ?_) (fun h => ?_)
        · have h : 0 < 1 := h
          refine lv_aload_n hx hb dX0_isTooClose_16 rfl (lv_at hl 0 rfl) ?_
          refine lv_iload_n hx hb dX0_isTooClose_17 rfl (lv_at hl 2 rfl) ?_
          refine lv_aload_n hx hb dX0_isTooClose_18 rfl (lv_at hl 0 rfl) ?_
          refine gx hx hb hts innX0_isTooClose hown hK hP 4 (by decide) (by decide +kernel) rfl (v := .ref (ad 43)) rfl dX0_isTooClose_19 ?_
          have hdv : cx E ad κ 43 = hI (eI E) (xF κ) (fun j => nI (xSg κ j)) := cx_sg
          refine va_calld (va_runV (As := [.int (nI (j)), .ref (ad 43)]) (rest := []) ⟨hx, hb, hml, hown, hts⟩ (kX0_distanceTo l E ad hap κ j 43 K (xSg κ) hF hj (by decide) hdv hK1 hK2 (hw j hj)) (cwV 2 hts gX0_isTooClose_X0_distanceTo rfl rfl rfl (by decide +kernel) ⟨Nat.le_trans (Nat.le_of_ble_eq_true rfl) hRf, Nat.le_trans (Nat.le_of_ble_eq_true rfl) hRl⟩) (zpx hK hP) rfl rfl hl.1 rfl (lv_room (Nat.le_of_ble_eq_true rfl)) dX0_isTooClose_22 ⟨Nat.zero_le _, Nat.zero_le _⟩) hS (fun q _ h => h.elim) (fun q h => h.elim) (fun r u9 t9 H locs ht9 hvm9 hw9 hB9 hz9 hk9 hS => ?_)
          have hP := wn_ro hP hk9
          subst hw9
          refine lv_aload_n hx hb dX0_isTooClose_25 rfl (lv_at hl 0 rfl) ?_
          refine lv_iload_n hx hb dX0_isTooClose_26 rfl (lv_at hl 1 rfl) ?_
          refine lv_aload_n hx hb dX0_isTooClose_27 rfl (lv_at hl 0 rfl) ?_
          refine gx hx hb hts innX0_isTooClose hown hK hP 4 (by decide) (by decide +kernel) rfl (v := .ref (ad 43)) rfl dX0_isTooClose_28 ?_
          refine va_calld (va_runV (As := [.int (nI (i)), .ref (ad 43)]) (rest := [.double (ddX κ (xSg κ) j)]) ⟨hx, hb, hml, hown, hts⟩ (kX0_distanceTo l E ad hap κ i 43 K (xSg κ) hF hi (by decide) hdv hK1 hK2 (hw i hi)) (cwV 2 hts gX0_isTooClose_X0_distanceTo rfl rfl rfl (by decide +kernel) ⟨Nat.le_trans (Nat.le_of_ble_eq_true rfl) hRf, Nat.le_trans (Nat.le_of_ble_eq_true rfl) hRl⟩) (zpx hK hP) rfl rfl hl.1 rfl (lv_room (Nat.le_of_ble_eq_true rfl)) dX0_isTooClose_31 ⟨Nat.zero_le _, Nat.zero_le _⟩) hS (fun q _ h => h.elim) (fun q h => h.elim) (fun r u9 t9 H locs ht9 hvm9 hw9 hB9 hz9 hk9 hS => ?_)
          have hP := wn_ro hP hk9
          subst hw9
          refine lv_dsub hx hb dX0_isTooClose_34 (mg_n64 (mg_dsub (L := K + 52) (mg_ds hK1 hK2 (n := xF κ) hF (hw j hj)) (mg_ds hK1 hK2 (n := xF κ) hF (hw i hi)) (by omega) (by omega) (by omega)) (by omega)) ?_
          refine lv_dstore_n (lv' := [(3, .double (FP.dsub (ddX κ (xSg κ) j) (ddX κ (xSg κ) i))), (0, .ref (ad 0)), (1, .int (nI (i))), (2, .int (nI (j)))]) hx hb dX0_isTooClose_35 rfl hl (by decide) rfl (fun ls hl => ?_)
          refine lv_dload_n hx hb dX0_isTooClose_36 rfl (lv_at hl 0 rfl) ?_
          refine lv_aload_n hx hb dX0_isTooClose_37 rfl (lv_at hl 1 rfl) ?_
          refine gx hx hb hts innX0_isTooClose hown hK hP 5 (by decide) (by decide +kernel) rfl (v := .int (nI ((xLd κ)))) rfl dX0_isTooClose_38 ?_
          refine lv_i2d hx hb dX0_isTooClose_41 ?_
          refine lv_dcmp hx hb dX0_isTooClose_42 ?_
          refine lv_if_ge (tgt := 50) hx hb dX0_isTooClose_43 (by decide) (fun h => ?_) (fun h => ?_)
          · refine lv_iconst (v := nI 0) hx hb dX0_isTooClose_50 (by decide +kernel) ?_
            exact W.zret hx hb hr (by decide +kernel) (fun t ht hW => ⟨⟨_, (), rfl, Or.inl ⟨i, j, hi, hj, rfl, rfl, (if_pos h).symm⟩, trivial⟩, hS.F ht⟩) hS.2.2 dX0_isTooClose_51
          · refine lv_iconst (v := nI 1) hx hb dX0_isTooClose_46 (by decide +kernel) ?_
            refine lv_goto (tgt := 51) hx hb dX0_isTooClose_47 (by decide) ?_
            exact W.zret hx hb hr (by decide +kernel) (fun t ht hW => ⟨⟨_, (), rfl, Or.inl ⟨i, j, hi, hj, rfl, rfl, (if_neg h).symm⟩, trivial⟩, hS.F ht⟩) hS.2.2 dX0_isTooClose_51
        · have h : 1 = 0 := h
          exact absurd h (by decide)
      · refine zu_ne (tgt := 16) hx hb (show 0 < 2 ^ 31 by omega) dX0_isTooClose_11 (by decide) (fun h => ?_) (fun h => ?_)
        · have h : 0 < 0 := h
          exact absurd h (by decide)
        · have h : 0 = 0 := h
          refine lv_iconst (v := nI 0) hx hb dX0_isTooClose_14 (by decide +kernel) ?_
          exact W.zret hx hb hr (by decide +kernel) (fun t ht hW => ⟨⟨_, (), rfl, Or.inr ⟨Or.inr hno, rfl⟩, trivial⟩, hS.F ht⟩) hS.2.2 dX0_isTooClose_15
  · refine zu_eq (tgt := 14) hx hb (show 0 < 2 ^ 31 by omega) dX0_isTooClose_4 (by decide) (fun h => ?_) (fun h => ?_)
    · have h : 0 = 0 := h
      refine lv_iconst (v := nI 0) hx hb dX0_isTooClose_14 (by decide +kernel) ?_
      exact W.zret hx hb hr (by decide +kernel) (fun t ht hW => ⟨⟨_, (), rfl, Or.inr ⟨Or.inl hno, rfl⟩, trivial⟩, hS.F ht⟩) hS.2.2 dX0_isTooClose_15
    · have h : 0 < 0 := h
      exact absurd h (by decide)
end
section
/-! ===== the reference: reads ===== -/
set_option maxHeartbeats 4000000 in
set_option maxRecDepth 100000 in
theorem kX1_isFeature (l : Launch) (E : zE) (ad : Nat → Nat) (hap : apart 8 ad) (τ : SM) (x : Int32) (hF : mF τ ≤ 16) : Met l yX1_isFeature wsX1_isFeature ({ frames := 0, cells := 0, slots := 0, locals := 0 }) (va_Pc [.ref (ad 0), .int (x)] (fun U => PM E ad τ U.heap ∧ zK E U)) (va_Qi (fun (r : Int32) (_ : Unit) => among (mF τ) x r) (fun _ _ => True) (fun _ => False)) 0 0 (fun _ => False) := by
  refine Met.ofW (cc := cX1_isFeature) (maxL := 2) (ret := some .boolean) (by decide) rfl ?_
  intro p e s m args below meth c s₁ B hml hv
  obtain ⟨rfl, hP, hK⟩ := hv
  have hx := B.exec
  have hb := B.bytes
  have hr := B.returns
  have hts := atoms_spec (ws := wsX1_isFeature) B.pre
  have hown : s.vm.findClass RX1 = some m.cls := findClass_of_methodNamed B.named
  have hlocks := B.notSynchronized
  have hS : va_S (fun _ => False) s.heap s.heap [] := va_S.rf
  have hRf : 0 ≤ ((headSpec wsX1_isFeature ({ frames := 0, cells := 0, slots := 0, locals := 0 })).room).frames := Nat.le_of_ble_eq_true rfl
  have hRl : 0 ≤ ((headSpec wsX1_isFeature ({ frames := 0, cells := 0, slots := 0, locals := 0 })).room).locals := Nat.le_of_ble_eq_true rfl
  have hl := lv_entry ([.ref (ad 0), .int (x)]) (n := 2) (Nat.le_of_ble_eq_true rfl)
  rw [lg_entry_eq]
  generalize (lg_sl ([.ref (ad 0), .int (x)]) ++ List.replicate (2 - (lg_sl ([.ref (ad 0), .int (x)])).length) Slot.unset).toArray = ls at hl ⊢
  have hl : lv_has ls 2 [(0, .ref (ad 0)), (1, .int (x))] := hl
  refine lv_iload_n hx hb dX1_isFeature_0 rfl (lv_at hl 1 rfl) ?_
  refine lv_if_lt (tgt := 16) hx hb dX1_isFeature_1 (by decide) (fun h => ?_) (fun h => ?_)
  · refine lv_iconst (v := nI 0) hx hb dX1_isFeature_16 (by decide +kernel) ?_
    exact W.zret hx hb hr (by decide +kernel) (fun t ht hW => ⟨⟨_, (), rfl, among_lo (by omega) h rfl, trivial⟩, hS.F ht⟩) hS.2.2 dX1_isFeature_17
  · refine lv_iload_n hx hb dX1_isFeature_4 rfl (lv_at hl 1 rfl) ?_
    refine lv_aload_n hx hb dX1_isFeature_5 rfl (lv_at hl 0 rfl) ?_
    refine gm hx hb hts innX1_isFeature hown hK hP 1 (by decide) (by decide +kernel) rfl (v := .int (nI ((mF τ)))) rfl dX1_isFeature_6 ?_
    refine lv_icmp_ge (tgt := 16) hx hb dX1_isFeature_9 (by decide) (fun h2 => ?_) (fun h2 => ?_)
    · refine lv_iconst (v := nI 0) hx hb dX1_isFeature_16 (by decide +kernel) ?_
      exact W.zret hx hb hr (by decide +kernel) (fun t ht hW => ⟨⟨_, (), rfl, among_hi (by omega) h2 rfl, trivial⟩, hS.F ht⟩) hS.2.2 dX1_isFeature_17
    · obtain ⟨j, hj, rfl⟩ := (pk_ix x (n := mF τ) (by omega)).resolve_left h |>.resolve_left h2
      refine lv_iconst (v := nI 1) hx hb dX1_isFeature_12 (by decide +kernel) ?_
      refine lv_goto (tgt := 17) hx hb dX1_isFeature_13 (by decide) ?_
      exact W.zret hx hb hr (by decide +kernel) (fun t ht hW => ⟨⟨_, (), rfl, among_y hj rfl rfl, trivial⟩, hS.F ht⟩) hS.2.2 dX1_isFeature_17
set_option maxHeartbeats 4000000 in
set_option maxRecDepth 100000 in
theorem kX1_thrown (l : Launch) (E : zE) (ad : Nat → Nat) (hap : apart 8 ad) (τ : SM) : Met l yX1_thrown wsX1_thrown ({ frames := 0, cells := 0, slots := 0, locals := 0 }) (va_Pc [.ref (ad 0)] (fun U => PM E ad τ U.heap ∧ zK E U)) (va_Qi (fun (r : Int32) (_ : Unit) => r = nI (mC τ)) (fun _ _ => True) (fun _ => False)) 0 0 (fun _ => False) := by
  refine Met.ofW (cc := cX1_thrown) (maxL := 1) (ret := some .int) (by decide) rfl ?_
  intro p e s m args below meth c s₁ B hml hv
  obtain ⟨rfl, hP, hK⟩ := hv
  have hx := B.exec
  have hb := B.bytes
  have hr := B.returns
  have hts := atoms_spec (ws := wsX1_thrown) B.pre
  have hown : s.vm.findClass RX1 = some m.cls := findClass_of_methodNamed B.named
  have hlocks := B.notSynchronized
  have hS : va_S (fun _ => False) s.heap s.heap [] := va_S.rf
  have hRf : 0 ≤ ((headSpec wsX1_thrown ({ frames := 0, cells := 0, slots := 0, locals := 0 })).room).frames := Nat.le_of_ble_eq_true rfl
  have hRl : 0 ≤ ((headSpec wsX1_thrown ({ frames := 0, cells := 0, slots := 0, locals := 0 })).room).locals := Nat.le_of_ble_eq_true rfl
  have hl := lv_entry ([.ref (ad 0)]) (n := 1) (Nat.le_of_ble_eq_true rfl)
  rw [lg_entry_eq]
  generalize (lg_sl ([.ref (ad 0)]) ++ List.replicate (1 - (lg_sl ([.ref (ad 0)])).length) Slot.unset).toArray = ls at hl ⊢
  have hl : lv_has ls 1 [(0, .ref (ad 0))] := hl
  refine lv_aload_n hx hb dX1_thrown_0 rfl (lv_at hl 0 rfl) ?_
  refine gm hx hb hts innX1_thrown hown hK hP 0 (by decide) (by decide +kernel) rfl (v := .int (nI ((mC τ)))) rfl dX1_thrown_1 ?_
  exact W.iret hx hb hr (fun t ht hW => ⟨⟨_, (), rfl, rfl, trivial⟩, hS.F ht⟩) hS.2.2 dX1_thrown_4
set_option maxHeartbeats 4000000 in
set_option maxRecDepth 100000 in
theorem lp_X1_distanceTo {p : Program} {l : Launch} {e : Env} {R : Room} {s : State} {m : MethodId} {args : Array Value} {below : List Frame} {meth : Method} {c : Code} {Q : State → Prop} {E : zE} {ad : Nat → Nat} (hx : p.tables.exec = Jvm.exec) (hb : c.code = cX1_distanceTo) (hml : c.maxLocals = 7) (hts : ∀ w ∈ wsX1_distanceTo, w.before args s = true) (hown : s.vm.findClass RX1 = some m.cls) (hK : zK E s) (hap : apart 8 ad) {H0 : Heap} (hRf : 1 ≤ R.frames) (hRl : 21 ≤ R.locals) (τ : SM) (kv nv fr c9 K : Nat) (v : Nat → Nat) (hF : mF τ ≤ 16) (hc : c9 < 16) (hkv : kv < 8) (hdv : cm E ad τ kv = hI (eI E) nv (fun j => nI (v j))) (hnv : nv < 2 ^ 31) (hfr : fr + mF τ ≤ nv) (hK1 : 1023 ≤ K) (hK2 : K ≤ 1900) (hw : ∀ f, f < mF τ → mg K (mWt τ (16 * c9 + f)) ∧ mg 1057 (mMn τ (16 * c9 + f)))
    (exit : ∀ (H : Heap) (locs : List Loc) (ls : Array Slot), PM E ad τ H → va_S (fun _ => False) H0 H locs → lv_has ls 7 [(4, .double (dsF (fun f => mWt τ (16 * c9 + f)) (fun f => mMn τ (16 * c9 + f)) (fun f => v (fr + f)) (mF τ))), (0, .ref (ad 0)), (1, .ref (ad kv)), (2, .int (nI (fr))), (3, .int (nI (c9)))] → W p l e R s m args below meth c H locs 0 0 Q (F0 m 62 ls [])) :
    ∀ (n i : Nat) (H : Heap) (locs : List Loc) (ls : Array Slot), i ≤ mF τ → mF τ - i < n → PM E ad τ H → va_S (fun _ => False) H0 H locs → lv_has ls 7 [(6, .int (nI (i))), (4, .double (dsF (fun f => mWt τ (16 * c9 + f)) (fun f => mMn τ (16 * c9 + f)) (fun f => v (fr + f)) i)), (0, .ref (ad 0)), (1, .ref (ad kv)), (2, .int (nI (fr))), (3, .int (nI (c9)))] → W p l e R s m args below meth c H locs 0 0 Q (F0 m 6 ls []) := by
  intro n
  induction n with
  | zero => intro i H locs ls h1 h2; omega
  | succ n ih =>
    intro i H locs ls hi hn hP hS hl
    refine lv_iload hx hb dX1_distanceTo_6 (lv_at hl 0 rfl) ?_
    refine lv_aload_n hx hb dX1_distanceTo_8 rfl (lv_at hl 2 rfl) ?_
    refine gm hx hb hts innX1_distanceTo hown hK hP 1 (by decide) (by decide +kernel) rfl (v := .int (nI ((mF τ)))) rfl dX1_distanceTo_9 ?_
    refine zb_ge (tgt := 62) hx hb (show i < 2 ^ 31 by omega) (show (mF τ) < 2 ^ 31 by omega) dX1_distanceTo_12 (by decide) (fun h => ?_) (fun h => ?_)
    · have h : (mF τ) ≤ i := h
      have hend : i = mF τ := by omega
      subst hend
      exact exit _ _ _ hP hS (lv_sub hl [1, 2, 3, 4, 5] rfl)
    · have h : i < (mF τ) := h
      have hq := hw i h
      refine lv_dload hx hb dX1_distanceTo_15 (lv_at hl 1 rfl) ?_
      refine lv_aload_n hx hb dX1_distanceTo_17 rfl (lv_at hl 2 rfl) ?_
      refine gm hx hb hts innX1_distanceTo hown hK hP 9 (by decide) (by decide +kernel) rfl (v := .ref (ad 6)) rfl dX1_distanceTo_18 ?_
      refine lv_bipush (v := nI 16) hx hb dX1_distanceTo_21 (by decide +kernel) ?_
      refine lv_iload_n hx hb dX1_distanceTo_23 rfl (lv_at hl 5 rfl) ?_
      refine zv_imul (v := (nI (16 * c9))) hx hb dX1_distanceTo_24 (pk_mul _ _) ?_
      refine lv_iload hx hb dX1_distanceTo_25 (lv_at hl 0 rfl) ?_
      refine zv_iadd (v := (nI ((16 * c9) + i))) hx hb dX1_distanceTo_27 (nI_add _ _) ?_
      refine z_dald hx hb hK hP 6 (by decide) cm_wt (show (16 * c9) + i < 256 by omega) (by decide) dX1_distanceTo_28 ?_
      refine lv_aload_n hx hb dX1_distanceTo_29 rfl (lv_at hl 3 rfl) ?_
      refine lv_iload_n hx hb dX1_distanceTo_30 rfl (lv_at hl 4 rfl) ?_
      refine lv_iload hx hb dX1_distanceTo_31 (lv_at hl 0 rfl) ?_
      refine zv_iadd (v := (nI (fr + i))) hx hb dX1_distanceTo_33 (nI_add _ _) ?_
      refine z_iald hx hb hK hP kv hkv hdv (show fr + i < nv by omega) (show nv < 2 ^ 31 by omega) dX1_distanceTo_34 ?_
      refine lv_i2d hx hb dX1_distanceTo_35 ?_
      refine lv_aload_n hx hb dX1_distanceTo_36 rfl (lv_at hl 2 rfl) ?_
      refine gm hx hb hts innX1_distanceTo hown hK hP 8 (by decide) (by decide +kernel) rfl (v := .ref (ad 5)) rfl dX1_distanceTo_37 ?_
      refine lv_bipush (v := nI 16) hx hb dX1_distanceTo_40 (by decide +kernel) ?_
      refine lv_iload_n hx hb dX1_distanceTo_42 rfl (lv_at hl 5 rfl) ?_
      refine zv_imul (v := (nI (16 * c9))) hx hb dX1_distanceTo_43 (pk_mul _ _) ?_
      refine lv_iload hx hb dX1_distanceTo_44 (lv_at hl 0 rfl) ?_
      refine zv_iadd (v := (nI ((16 * c9) + i))) hx hb dX1_distanceTo_46 (nI_add _ _) ?_
      refine z_dald hx hb hK hP 5 (by decide) cm_mn (show (16 * c9) + i < 256 by omega) (by decide) dX1_distanceTo_47 ?_
      refine lv_dsub hx hb dX1_distanceTo_48 (mg_n64 (mg_df _ hq.2) (by decide)) ?_
      refine va_calld (va_runS (As := [.double (FP.dsub (FP.i2d (nI (v (fr + i)))) ((mMn τ) ((16 * c9) + i)))]) (rest := [.double ((mWt τ) ((16 * c9) + i)), .double (dsF (fun f => mWt τ (16 * c9 + f)) (fun f => mMn τ (16 * c9 + f)) (fun f => v (fr + f)) i)]) ⟨hx, hb, hml, hown, hts⟩ (kX1_size l _) (va_cwS 1 hts gX1_distanceTo_X1_size rfl rfl rfl (by decide +kernel) ⟨Nat.le_trans (Nat.le_of_ble_eq_true rfl) hRf, Nat.le_trans (Nat.le_of_ble_eq_true rfl) hRl⟩) zps rfl rfl hl.1 rfl (lv_room (Nat.le_of_ble_eq_true rfl)) dX1_distanceTo_49 ⟨Nat.zero_le _, Nat.zero_le _⟩) hS (fun q _ h => h.elim) (fun q h => h.elim) (fun r u9 t9 H locs ht9 hvm9 hw9 hB9 hz9 hk9 hS => ?_)
      have hP := wn_ro hP hk9
      subst hw9
      refine lv_dmul hx hb dX1_distanceTo_52 (mg_n64 (mg_dt hq.1 hq.2 hK1 hK2) (by omega)) ?_
      refine lv_dadd hx hb dX1_distanceTo_53 (mg_n64 (mg_dadd (L := K + 52) (mg_mono (mg_ds hK1 hK2 (show i ≤ 16 by omega) (fun f hf => hw f (by omega))) (show _ ≤ K + 51 by omega)) (mg_mono (mg_dt hq.1 hq.2 hK1 hK2) (by omega)) (by omega) (by omega) (by omega)) (by omega)) ?_
      refine lv_dstore (lv' := [(4, .double (dsF (fun f => mWt τ (16 * c9 + f)) (fun f => mMn τ (16 * c9 + f)) (fun f => v (fr + f)) (i + 1))), (6, .int (nI (i))), (0, .ref (ad 0)), (1, .ref (ad kv)), (2, .int (nI (fr))), (3, .int (nI (c9)))]) hx hb dX1_distanceTo_54 hl (by decide) rfl (fun ls hl => ?_)
      refine lv_iinc (v := nI (i + 1)) (lv' := [(6, .int (nI (i + 1))), (4, .double (dsF (fun f => mWt τ (16 * c9 + f)) (fun f => mMn τ (16 * c9 + f)) (fun f => v (fr + f)) (i + 1))), (0, .ref (ad 0)), (1, .ref (ad kv)), (2, .int (nI (fr))), (3, .int (nI (c9)))]) hx hb dX1_distanceTo_56 hl (k := 1) rfl (nI_1 _) (by decide) rfl (fun ls hl => ?_)
      refine lv_goto (tgt := 6) hx hb dX1_distanceTo_59 (by decide) ?_
      exact ih (i + 1) _ _ _ (by omega) (by omega) hP hS (lv_sub hl [0, 1, 2, 3, 4, 5] rfl)
set_option maxHeartbeats 4000000 in
set_option maxRecDepth 100000 in
theorem kX1_distanceTo (l : Launch) (E : zE) (ad : Nat → Nat) (hap : apart 8 ad) (τ : SM) (kv nv fr c9 K : Nat) (v : Nat → Nat) (hF : mF τ ≤ 16) (hc : c9 < 16) (hkv : kv < 8) (hdv : cm E ad τ kv = hI (eI E) nv (fun j => nI (v j))) (hnv : nv < 2 ^ 31) (hfr : fr + mF τ ≤ nv) (hK1 : 1023 ≤ K) (hK2 : K ≤ 1900) (hw : ∀ f, f < mF τ → mg K (mWt τ (16 * c9 + f)) ∧ mg 1057 (mMn τ (16 * c9 + f))) : Met l yX1_distanceTo wsX1_distanceTo ({ frames := 1, cells := 0, slots := 0, locals := 21 }) (va_Pc [.ref (ad 0), .ref (ad kv), .int (nI (fr)), .int (nI (c9))] (fun U => PM E ad τ U.heap ∧ zK E U)) (va_Qd (fun (r : UInt64) (_ : Unit) => r = dsF (fun f => mWt τ (16 * c9 + f)) (fun f => mMn τ (16 * c9 + f)) (fun f => v (fr + f)) (mF τ)) (fun _ _ => True) (fun _ => False)) 0 0 (fun _ => False) := by
  refine Met.ofW (cc := cX1_distanceTo) (maxL := 7) (ret := some .double) (by decide) rfl ?_
  intro p e s m args below meth c s₁ B hml hv
  obtain ⟨rfl, hP, hK⟩ := hv
  have hx := B.exec
  have hb := B.bytes
  have hr := B.returns
  have hts := atoms_spec (ws := wsX1_distanceTo) B.pre
  have hown : s.vm.findClass RX1 = some m.cls := findClass_of_methodNamed B.named
  have hlocks := B.notSynchronized
  have hS : va_S (fun _ => False) s.heap s.heap [] := va_S.rf
  have hRf : 1 ≤ ((headSpec wsX1_distanceTo ({ frames := 1, cells := 0, slots := 0, locals := 21 })).room).frames := Nat.le_of_ble_eq_true rfl
  have hRl : 21 ≤ ((headSpec wsX1_distanceTo ({ frames := 1, cells := 0, slots := 0, locals := 21 })).room).locals := Nat.le_of_ble_eq_true rfl
  have hl := lv_entry ([.ref (ad 0), .ref (ad kv), .int (nI (fr)), .int (nI (c9))]) (n := 7) (Nat.le_of_ble_eq_true rfl)
  rw [lg_entry_eq]
  generalize (lg_sl ([.ref (ad 0), .ref (ad kv), .int (nI (fr)), .int (nI (c9))]) ++ List.replicate (7 - (lg_sl ([.ref (ad 0), .ref (ad kv), .int (nI (fr)), .int (nI (c9))])).length) Slot.unset).toArray = ls at hl ⊢
  have hl : lv_has ls 7 [(0, .ref (ad 0)), (1, .ref (ad kv)), (2, .int (nI (fr))), (3, .int (nI (c9)))] := hl
  refine lv_dconst0 hx hb dX1_distanceTo_0 ?_
  refine lv_dstore (lv' := [(4, .double (FP.dconst0)), (0, .ref (ad 0)), (1, .ref (ad kv)), (2, .int (nI (fr))), (3, .int (nI (c9)))]) hx hb dX1_distanceTo_1 hl (by decide) rfl (fun ls hl => ?_)
  refine lv_iconst (v := nI 0) hx hb dX1_distanceTo_3 (by decide +kernel) ?_
  refine lv_istore (lv' := [(6, .int (nI (0))), (4, .double (FP.dconst0)), (0, .ref (ad 0)), (1, .ref (ad kv)), (2, .int (nI (fr))), (3, .int (nI (c9)))]) hx hb dX1_distanceTo_4 hl (by decide) rfl (fun ls hl => ?_)
  refine lp_X1_distanceTo hx hb hml hts hown hK hap hRf hRl τ kv nv fr c9 K v hF hc hkv hdv hnv hfr hK1 hK2 hw (fun H locs ls hP hS hl => ?_) (mF τ + 1) 0 _ _ _ (by omega) (by omega) hP hS (lv_sub hl [0, 1, 2, 3, 4, 5] rfl)
  refine lv_dload hx hb dX1_distanceTo_62 (lv_at hl 0 rfl) ?_
  exact W.dret hx hb hr (fun t ht hW => ⟨⟨_, (), rfl, rfl, trivial⟩, hS.F ht⟩) hS.2.2 dX1_distanceTo_64
def hasM (τ : SM) : Nat → Bool := fun c => decide (mHs τ c ≠ 0)
def ddM (τ : SM) (v : Nat → Nat) (fr : Nat) : Nat → UInt64 := fun c => dsF (fun f => mWt τ (16 * c + f)) (fun f => mMn τ (16 * c + f)) (fun f => v (fr + f)) (mF τ)
def nearM (τ : SM) (v : Nat → Nat) (fr : Nat) (but : Int32) : Int32 := (nrF (hasM τ) (ddM τ v fr) but 16).1
set_option maxHeartbeats 4000000 in
set_option maxRecDepth 100000 in
theorem lp_X1_nearest {p : Program} {l : Launch} {e : Env} {R : Room} {s : State} {m : MethodId} {args : Array Value} {below : List Frame} {meth : Method} {c : Code} {Q : State → Prop} {E : zE} {ad : Nat → Nat} (hx : p.tables.exec = Jvm.exec) (hb : c.code = cX1_nearest) (hml : c.maxLocals = 10) (hts : ∀ w ∈ wsX1_nearest, w.before args s = true) (hown : s.vm.findClass RX1 = some m.cls) (hK : zK E s) (hap : apart 8 ad) {H0 : Heap} (hRf : 2 ≤ R.frames) (hRl : 47 ≤ R.locals) (τ : SM) (kv nv fr K : Nat) (v : Nat → Nat) (but : Int32) (hF : mF τ ≤ 16) (hmb : ∀ c, c < 16 → mHs τ c < 2 ^ 31) (hkv : kv < 8) (hdv : cm E ad τ kv = hI (eI E) nv (fun j => nI (v j))) (hnv : nv < 2 ^ 31) (hfr : fr + mF τ ≤ nv) (hK1 : 1023 ≤ K) (hK2 : K ≤ 1900) (hw : ∀ c, c < 16 → ∀ f, f < mF τ → mg K (mWt τ (16 * c + f)) ∧ mg 1057 (mMn τ (16 * c + f)))
    (exit : ∀ (H : Heap) (locs : List Loc) (ls : Array Slot), PM E ad τ H → va_S (fun _ => False) H0 H locs → lv_has ls 10 [(4, .int ((nrF (hasM τ) (ddM τ v fr) but 16).1)), (0, .ref (ad 0)), (1, .ref (ad kv)), (2, .int (nI (fr))), (3, .int (but))] → W p l e R s m args below meth c H locs 0 0 Q (F0 m 69 ls [])) :
    ∀ (n i : Nat) (H : Heap) (locs : List Loc) (ls : Array Slot), i ≤ 16 → 16 - i < n → PM E ad τ H → va_S (fun _ => False) H0 H locs → lv_has ls 10 [(7, .int (nI (i))), (5, .double ((nrF (hasM τ) (ddM τ v fr) but i).2)), (4, .int ((nrF (hasM τ) (ddM τ v fr) but i).1)), (0, .ref (ad 0)), (1, .ref (ad kv)), (2, .int (nI (fr))), (3, .int (but))] → W p l e R s m args below meth c H locs 0 0 Q (F0 m 9 ls []) := by
  intro n
  induction n with
  | zero => intro i H locs ls h1 h2; omega
  | succ n ih =>
    intro i H locs ls hi hn hP hS hl
    refine lv_iload hx hb dX1_nearest_9 (lv_at hl 0 rfl) ?_
    refine lv_bipush (v := nI 16) hx hb dX1_nearest_11 (by decide +kernel) ?_
    refine zb_ge (tgt := 69) hx hb (show i < 2 ^ 31 by omega) (show 16 < 2 ^ 31 by omega) dX1_nearest_13 (by decide) (fun h => ?_) (fun h => ?_)
    · have h : 16 ≤ i := h
      have hend : i = 16 := by omega
      subst hend
      exact exit _ _ _ hP hS (lv_sub hl [2, 3, 4, 5, 6] rfl)
    · have h : i < 16 := h
      have hmi := hmb i h
      refine lv_aload_n hx hb dX1_nearest_16 rfl (lv_at hl 3 rfl) ?_
      refine gm hx hb hts innX1_nearest hown hK hP 7 (by decide) (by decide +kernel) rfl (v := .ref (ad 4)) rfl dX1_nearest_17 ?_
      refine lv_iload hx hb dX1_nearest_20 (lv_at hl 0 rfl) ?_
      refine z_zald hx hb hK hP 4 (by decide) cm_hs (show i < 16 by omega) (by decide) dX1_nearest_22 ?_
      refine zu_eq (tgt := 63) hx hb (show (mHs τ) (i) < 2 ^ 31 by omega) dX1_nearest_23 (by decide) (fun h1 => ?_) (fun h1 => ?_)
      · have h1 : ((mHs τ) (i)) = 0 := h1
        have e9 : (nrF (hasM τ) (ddM τ v fr) but (i + 1)) = (nrF (hasM τ) (ddM τ v fr) but i) := if_neg (fun q => absurd q.1 (by unfold hasM; rw [h1]; decide))
        refine lv_iinc (v := nI (i + 1)) (lv' := [(7, .int (nI (i + 1))), (5, .double ((nrF (hasM τ) (ddM τ v fr) but i).2)), (4, .int ((nrF (hasM τ) (ddM τ v fr) but i).1)), (0, .ref (ad 0)), (1, .ref (ad kv)), (2, .int (nI (fr))), (3, .int (but))]) hx hb dX1_nearest_63 hl (k := 0) rfl (nI_1 _) (by decide) rfl (fun ls hl => ?_)
        refine lv_goto (tgt := 9) hx hb dX1_nearest_66 (by decide) ?_
        exact ih (i + 1) _ _ _ (by omega) (by omega) hP hS (by rw [e9]; exact lv_sub hl [0, 1, 2, 3, 4, 5, 6] rfl)
      · have h1 : 0 < ((mHs τ) (i)) := h1
        refine lv_iload hx hb dX1_nearest_26 (lv_at hl 0 rfl) ?_
        refine lv_iload_n hx hb dX1_nearest_28 rfl (lv_at hl 6 rfl) ?_
        refine lv_icmp_eq (tgt := 63) hx hb dX1_nearest_29 (by decide) (fun h2 => ?_) (fun h2 => ?_)
        · have e9 : (nrF (hasM τ) (ddM τ v fr) but (i + 1)) = (nrF (hasM τ) (ddM τ v fr) but i) := if_neg (fun q => q.2.1 h2)
          refine lv_iinc (v := nI (i + 1)) (lv' := [(7, .int (nI (i + 1))), (5, .double ((nrF (hasM τ) (ddM τ v fr) but i).2)), (4, .int ((nrF (hasM τ) (ddM τ v fr) but i).1)), (0, .ref (ad 0)), (1, .ref (ad kv)), (2, .int (nI (fr))), (3, .int (but))]) hx hb dX1_nearest_63 hl (k := 0) rfl (nI_1 _) (by decide) rfl (fun ls hl => ?_)
          refine lv_goto (tgt := 9) hx hb dX1_nearest_66 (by decide) ?_
          exact ih (i + 1) _ _ _ (by omega) (by omega) hP hS (by rw [e9]; exact lv_sub hl [0, 1, 2, 3, 4, 5, 6] rfl)
        · refine lv_aload_n hx hb dX1_nearest_32 rfl (lv_at hl 3 rfl) ?_
          refine lv_aload_n hx hb dX1_nearest_33 rfl (lv_at hl 4 rfl) ?_
          refine lv_iload_n hx hb dX1_nearest_34 rfl (lv_at hl 5 rfl) ?_
          refine lv_iload hx hb dX1_nearest_35 (lv_at hl 0 rfl) ?_
          refine va_calld (va_runV (As := [.ref (ad kv), .int (nI (fr)), .int (nI (i))]) (rest := []) ⟨hx, hb, hml, hown, hts⟩ (kX1_distanceTo l E ad hap τ kv nv fr i K v hF h hkv hdv hnv hfr hK1 hK2 (hw i h)) (cwV 3 hts gX1_nearest_X1_distanceTo rfl rfl rfl (by decide +kernel) ⟨Nat.le_trans (Nat.le_of_ble_eq_true rfl) hRf, Nat.le_trans (Nat.le_of_ble_eq_true rfl) hRl⟩) (zpm hK hP) rfl rfl hl.1 rfl (lv_room (Nat.le_of_ble_eq_true rfl)) dX1_nearest_37 ⟨Nat.zero_le _, Nat.zero_le _⟩) hS (fun q _ h => h.elim) (fun q h => h.elim) (fun r u9 t9 H locs ht9 hvm9 hw9 hB9 hz9 hk9 hS => ?_)
          have hP := wn_ro hP hk9
          subst hw9
          show W p l e R s m args below meth c H locs 0 0 Q (F0 m 40 ls [.double (ddM τ v fr i)])
          refine lv_dstore (lv' := [(8, .double (ddM τ v fr i)), (7, .int (nI (i))), (5, .double ((nrF (hasM τ) (ddM τ v fr) but i).2)), (4, .int ((nrF (hasM τ) (ddM τ v fr) but i).1)), (0, .ref (ad 0)), (1, .ref (ad kv)), (2, .int (nI (fr))), (3, .int (but))]) hx hb dX1_nearest_40 hl (by decide) rfl (fun ls hl => ?_)
          refine lv_iload hx hb dX1_nearest_42 (lv_at hl 3 rfl) ?_
          refine lv_if_lt (tgt := 55) hx hb dX1_nearest_44 (by decide) (fun h3 => ?_) (fun h3 => ?_)
          · have e9 : (nrF (hasM τ) (ddM τ v fr) but (i + 1)) = (nI i, ddM τ v fr i) := if_pos ⟨decide_eq_true (Nat.ne_of_gt h1), h2, Or.inl ((nrF_neg (by omega)).mp h3)⟩
            refine lv_iload hx hb dX1_nearest_55 (lv_at hl 1 rfl) ?_
            refine lv_istore (lv' := [(4, .int (nI (i))), (8, .double (ddM τ v fr i)), (7, .int (nI (i))), (5, .double ((nrF (hasM τ) (ddM τ v fr) but i).2)), (0, .ref (ad 0)), (1, .ref (ad kv)), (2, .int (nI (fr))), (3, .int (but))]) hx hb dX1_nearest_57 hl (by decide) rfl (fun ls hl => ?_)
            refine lv_dload hx hb dX1_nearest_59 (lv_at hl 1 rfl) ?_
            refine lv_dstore (lv' := [(5, .double (ddM τ v fr i)), (4, .int (nI (i))), (8, .double (ddM τ v fr i)), (7, .int (nI (i))), (0, .ref (ad 0)), (1, .ref (ad kv)), (2, .int (nI (fr))), (3, .int (but))]) hx hb dX1_nearest_61 hl (by decide) rfl (fun ls hl => ?_)
            refine lv_iinc (v := nI (i + 1)) (lv' := [(7, .int (nI (i + 1))), (5, .double (ddM τ v fr i)), (4, .int (nI (i))), (8, .double (ddM τ v fr i)), (0, .ref (ad 0)), (1, .ref (ad kv)), (2, .int (nI (fr))), (3, .int (but))]) hx hb dX1_nearest_63 hl (k := 3) rfl (nI_1 _) (by decide) rfl (fun ls hl => ?_)
            refine lv_goto (tgt := 9) hx hb dX1_nearest_66 (by decide) ?_
            exact ih (i + 1) _ _ _ (by omega) (by omega) hP hS (by rw [e9]; exact lv_sub hl [0, 1, 2, 4, 5, 6, 7] rfl)
          · refine lv_dload hx hb dX1_nearest_47 (lv_at hl 0 rfl) ?_
            refine lv_dload hx hb dX1_nearest_49 (lv_at hl 2 rfl) ?_
            refine lv_dcmp hx hb dX1_nearest_51 ?_
            refine lv_if_ge (tgt := 63) hx hb dX1_nearest_52 (by decide) (fun h4 => ?_) (fun h4 => ?_)
            · have e9 : (nrF (hasM τ) (ddM τ v fr) but (i + 1)) = (nrF (hasM τ) (ddM τ v fr) but i) := if_neg (fun q => q.2.2.elim (fun z => h3 ((nrF_neg (by omega)).mpr z)) (fun z => z h4))
              refine lv_iinc (v := nI (i + 1)) (lv' := [(7, .int (nI (i + 1))), (8, .double (ddM τ v fr i)), (5, .double ((nrF (hasM τ) (ddM τ v fr) but i).2)), (4, .int ((nrF (hasM τ) (ddM τ v fr) but i).1)), (0, .ref (ad 0)), (1, .ref (ad kv)), (2, .int (nI (fr))), (3, .int (but))]) hx hb dX1_nearest_63 hl (k := 1) rfl (nI_1 _) (by decide) rfl (fun ls hl => ?_)
              refine lv_goto (tgt := 9) hx hb dX1_nearest_66 (by decide) ?_
              exact ih (i + 1) _ _ _ (by omega) (by omega) hP hS (by rw [e9]; exact lv_sub hl [0, 2, 3, 4, 5, 6, 7] rfl)
            · have e9 : (nrF (hasM τ) (ddM τ v fr) but (i + 1)) = (nI i, ddM τ v fr i) := if_pos ⟨decide_eq_true (Nat.ne_of_gt h1), h2, Or.inr h4⟩
              refine lv_iload hx hb dX1_nearest_55 (lv_at hl 1 rfl) ?_
              refine lv_istore (lv' := [(4, .int (nI (i))), (8, .double (ddM τ v fr i)), (7, .int (nI (i))), (5, .double ((nrF (hasM τ) (ddM τ v fr) but i).2)), (0, .ref (ad 0)), (1, .ref (ad kv)), (2, .int (nI (fr))), (3, .int (but))]) hx hb dX1_nearest_57 hl (by decide) rfl (fun ls hl => ?_)
              refine lv_dload hx hb dX1_nearest_59 (lv_at hl 1 rfl) ?_
              refine lv_dstore (lv' := [(5, .double (ddM τ v fr i)), (4, .int (nI (i))), (8, .double (ddM τ v fr i)), (7, .int (nI (i))), (0, .ref (ad 0)), (1, .ref (ad kv)), (2, .int (nI (fr))), (3, .int (but))]) hx hb dX1_nearest_61 hl (by decide) rfl (fun ls hl => ?_)
              refine lv_iinc (v := nI (i + 1)) (lv' := [(7, .int (nI (i + 1))), (5, .double (ddM τ v fr i)), (4, .int (nI (i))), (8, .double (ddM τ v fr i)), (0, .ref (ad 0)), (1, .ref (ad kv)), (2, .int (nI (fr))), (3, .int (but))]) hx hb dX1_nearest_63 hl (k := 3) rfl (nI_1 _) (by decide) rfl (fun ls hl => ?_)
              refine lv_goto (tgt := 9) hx hb dX1_nearest_66 (by decide) ?_
              exact ih (i + 1) _ _ _ (by omega) (by omega) hP hS (by rw [e9]; exact lv_sub hl [0, 1, 2, 4, 5, 6, 7] rfl)
set_option maxHeartbeats 4000000 in
set_option maxRecDepth 100000 in
theorem kX1_nearest (l : Launch) (E : zE) (ad : Nat → Nat) (hap : apart 8 ad) (τ : SM) (kv nv fr K : Nat) (v : Nat → Nat) (but : Int32) (hF : mF τ ≤ 16) (hmb : ∀ c, c < 16 → mHs τ c < 2 ^ 31) (hkv : kv < 8) (hdv : cm E ad τ kv = hI (eI E) nv (fun j => nI (v j))) (hnv : nv < 2 ^ 31) (hfr : fr + mF τ ≤ nv) (hK1 : 1023 ≤ K) (hK2 : K ≤ 1900) (hw : ∀ c, c < 16 → ∀ f, f < mF τ → mg K (mWt τ (16 * c + f)) ∧ mg 1057 (mMn τ (16 * c + f))) : Met l yX1_nearest wsX1_nearest ({ frames := 2, cells := 0, slots := 0, locals := 47 }) (va_Pc [.ref (ad 0), .ref (ad kv), .int (nI (fr)), .int (but)] (fun U => PM E ad τ U.heap ∧ zK E U)) (va_Qi (fun (r : Int32) (_ : Unit) => r = nearM τ v fr but) (fun _ _ => True) (fun _ => False)) 0 0 (fun _ => False) := by
  refine Met.ofW (cc := cX1_nearest) (maxL := 10) (ret := some .int) (by decide) rfl ?_
  intro p e s m args below meth c s₁ B hml hv
  obtain ⟨rfl, hP, hK⟩ := hv
  have hx := B.exec
  have hb := B.bytes
  have hr := B.returns
  have hts := atoms_spec (ws := wsX1_nearest) B.pre
  have hown : s.vm.findClass RX1 = some m.cls := findClass_of_methodNamed B.named
  have hlocks := B.notSynchronized
  have hS : va_S (fun _ => False) s.heap s.heap [] := va_S.rf
  have hRf : 2 ≤ ((headSpec wsX1_nearest ({ frames := 2, cells := 0, slots := 0, locals := 47 })).room).frames := Nat.le_of_ble_eq_true rfl
  have hRl : 47 ≤ ((headSpec wsX1_nearest ({ frames := 2, cells := 0, slots := 0, locals := 47 })).room).locals := Nat.le_of_ble_eq_true rfl
  have hl := lv_entry ([.ref (ad 0), .ref (ad kv), .int (nI (fr)), .int (but)]) (n := 10) (Nat.le_of_ble_eq_true rfl)
  rw [lg_entry_eq]
  generalize (lg_sl ([.ref (ad 0), .ref (ad kv), .int (nI (fr)), .int (but)]) ++ List.replicate (10 - (lg_sl ([.ref (ad 0), .ref (ad kv), .int (nI (fr)), .int (but)])).length) Slot.unset).toArray = ls at hl ⊢
  have hl : lv_has ls 10 [(0, .ref (ad 0)), (1, .ref (ad kv)), (2, .int (nI (fr))), (3, .int (but))] := hl
  refine lv_iconst (v := -1) hx hb dX1_nearest_0 (by decide +kernel) ?_
  refine lv_istore (lv' := [(4, .int (-1)), (0, .ref (ad 0)), (1, .ref (ad kv)), (2, .int (nI (fr))), (3, .int (but))]) hx hb dX1_nearest_1 hl (by decide) rfl (fun ls hl => ?_)
  refine lv_dconst0 hx hb dX1_nearest_3 ?_
  refine lv_dstore (lv' := [(5, .double (FP.dconst0)), (4, .int (-1)), (0, .ref (ad 0)), (1, .ref (ad kv)), (2, .int (nI (fr))), (3, .int (but))]) hx hb dX1_nearest_4 hl (by decide) rfl (fun ls hl => ?_)
  refine lv_iconst (v := nI 0) hx hb dX1_nearest_6 (by decide +kernel) ?_
  refine lv_istore (lv' := [(7, .int (nI (0))), (5, .double (FP.dconst0)), (4, .int (-1)), (0, .ref (ad 0)), (1, .ref (ad kv)), (2, .int (nI (fr))), (3, .int (but))]) hx hb dX1_nearest_7 hl (by decide) rfl (fun ls hl => ?_)
  refine lp_X1_nearest hx hb hml hts hown hK hap hRf hRl τ kv nv fr K v but hF hmb hkv hdv hnv hfr hK1 hK2 hw (fun H locs ls hP hS hl => ?_) (16 + 1) 0 _ _ _ (by omega) (by omega) hP hS (lv_sub hl [0, 1, 2, 3, 4, 5, 6] rfl)
  refine lv_iload hx hb dX1_nearest_69 (lv_at hl 0 rfl) ?_
  exact W.iret hx hb hr (fun t ht hW => ⟨⟨_, (), rfl, rfl, trivial⟩, hS.F ht⟩) hS.2.2 dX1_nearest_71
/-- what is refused of a rank -/
def rfM (md : Nat) (x r : Int32) : Prop := ((∀ j : Nat, j < 2 → x ≠ nI j) ∧ r = -12) ∨ (∃ j : Nat, j < 2 ∧ x = nI j ∧ ((md = 0 ∧ r = -13) ∨ (0 < md ∧ r = nI 0)))
set_option maxHeartbeats 4000000 in
set_option maxRecDepth 100000 in
theorem kX1_refusal (l : Launch) (E : zE) (ad : Nat → Nat) (hap : apart 8 ad) (τ : SM) (x : Int32) (hmd : mMd τ ≤ 1) : Met l yX1_refusal wsX1_refusal ({ frames := 0, cells := 0, slots := 0, locals := 0 }) (va_Pc [.ref (ad 0), .int (x)] (fun U => PM E ad τ U.heap ∧ zK E U)) (va_Qi (fun (r : Int32) (_ : Unit) => rfM (mMd τ) x r) (fun _ _ => True) (fun _ => False)) 0 0 (fun _ => False) := by
  refine Met.ofW (cc := cX1_refusal) (maxL := 2) (ret := some .int) (by decide) rfl ?_
  intro p e s m args below meth c s₁ B hml hv
  obtain ⟨rfl, hP, hK⟩ := hv
  have hx := B.exec
  have hb := B.bytes
  have hr := B.returns
  have hts := atoms_spec (ws := wsX1_refusal) B.pre
  have hown : s.vm.findClass RX1 = some m.cls := findClass_of_methodNamed B.named
  have hlocks := B.notSynchronized
  have hS : va_S (fun _ => False) s.heap s.heap [] := va_S.rf
  have hRf : 0 ≤ ((headSpec wsX1_refusal ({ frames := 0, cells := 0, slots := 0, locals := 0 })).room).frames := Nat.le_of_ble_eq_true rfl
  have hRl : 0 ≤ ((headSpec wsX1_refusal ({ frames := 0, cells := 0, slots := 0, locals := 0 })).room).locals := Nat.le_of_ble_eq_true rfl
  have hl := lv_entry ([.ref (ad 0), .int (x)]) (n := 2) (Nat.le_of_ble_eq_true rfl)
  rw [lg_entry_eq]
  generalize (lg_sl ([.ref (ad 0), .int (x)]) ++ List.replicate (2 - (lg_sl ([.ref (ad 0), .int (x)])).length) Slot.unset).toArray = ls at hl ⊢
  have hl : lv_has ls 2 [(0, .ref (ad 0)), (1, .int (x))] := hl
  refine lv_iload_n hx hb dX1_refusal_0 rfl (lv_at hl 1 rfl) ?_
  refine lv_if_lt (tgt := 9) hx hb dX1_refusal_1 (by decide) (fun h => ?_) (fun h => ?_)
  · refine lv_bipush (v := -12) hx hb dX1_refusal_9 (by decide +kernel) ?_
    refine lv_goto (tgt := 27) hx hb dX1_refusal_11 (by decide) ?_
    exact W.iret hx hb hr (fun t ht hW => ⟨⟨_, (), rfl, Or.inl ⟨fun j hj e => nI_pos (show j < 2 ^ 31 by omega) (e ▸ h), rfl⟩, trivial⟩, hS.F ht⟩) hS.2.2 dX1_refusal_27
  · refine lv_iload_n hx hb dX1_refusal_4 rfl (lv_at hl 1 rfl) ?_
    refine lv_iconst (v := nI 1) hx hb dX1_refusal_5 (by decide +kernel) ?_
    refine lv_icmp_le (tgt := 14) hx hb dX1_refusal_6 (by decide) (fun h2 => ?_) (fun h2 => ?_)
    · obtain ⟨j, hj, rfl⟩ : ∃ j : Nat, j < 2 ∧ x = nI j := by
        rcases pk_ix x (n := 2) (by decide) with q | q | ⟨j, hj, e⟩
        · exact absurd q h
        · have q1 := Int32.le_trans q h2; exact absurd q1 (by decide)
        · exact ⟨j, hj, e⟩
      refine lv_aload_n hx hb dX1_refusal_14 rfl (lv_at hl 0 rfl) ?_
      refine gm hx hb hts innX1_refusal hown hK hP 6 (by decide) (by decide +kernel) rfl (v := .int (nI ((mMd τ)))) rfl dX1_refusal_15 ?_
      refine zu_ne (tgt := 26) hx hb (show (mMd τ) < 2 ^ 31 by omega) dX1_refusal_18 (by decide) (fun h3 => ?_) (fun h3 => ?_)
      · have h3 : 0 < (mMd τ) := h3
        refine lv_iconst (v := nI 0) hx hb dX1_refusal_26 (by decide +kernel) ?_
        exact W.iret hx hb hr (fun t ht hW => ⟨⟨_, (), rfl, Or.inr ⟨j, hj, rfl, Or.inr ⟨h3, rfl⟩⟩, trivial⟩, hS.F ht⟩) hS.2.2 dX1_refusal_27
      · have h3 : (mMd τ) = 0 := h3
        refine lv_bipush (v := -13) hx hb dX1_refusal_21 (by decide +kernel) ?_
        refine lv_goto (tgt := 27) hx hb dX1_refusal_23 (by decide) ?_
        exact W.iret hx hb hr (fun t ht hW => ⟨⟨_, (), rfl, Or.inr ⟨j, hj, rfl, Or.inl ⟨h3, rfl⟩⟩, trivial⟩, hS.F ht⟩) hS.2.2 dX1_refusal_27
    · refine lv_bipush (v := -12) hx hb dX1_refusal_9 (by decide +kernel) ?_
      refine lv_goto (tgt := 27) hx hb dX1_refusal_11 (by decide) ?_
      exact W.iret hx hb hr (fun t ht hW => ⟨⟨_, (), rfl, Or.inl ⟨fun j hj e => h2 (by rw [e]; exact nI_le (by omega) (by decide)), rfl⟩, trivial⟩, hS.F ht⟩) hS.2.2 dX1_refusal_27
set_option maxHeartbeats 4000000 in
set_option maxRecDepth 100000 in
theorem kX1_ranked (l : Launch) (E : zE) (ad : Nat → Nat) (hap : apart 8 ad) (τ : SM) (x : Int32) (K : Nat) (hF : mF τ ≤ 16) (hmb : ∀ c, c < 16 → mHs τ c < 2 ^ 31) (hK1 : 1023 ≤ K) (hK2 : K ≤ 1900) (hw : ∀ c, c < 16 → ∀ f, f < mF τ → mg K (mWt τ (16 * c + f)) ∧ mg 1057 (mMn τ (16 * c + f))) : Met l yX1_ranked wsX1_ranked ({ frames := 3, cells := 0, slots := 0, locals := 76 }) (va_Pc [.ref (ad 0), .int (x)] (fun U => PM E ad τ U.heap ∧ zK E U)) (va_Qi (fun (r : Int32) (_ : Unit) => r = if x = 0 then nearM τ (mSg τ) 0 (-1) else nearM τ (mSg τ) 0 (nearM τ (mSg τ) 0 (-1))) (fun _ _ => True) (fun _ => False)) 0 0 (fun _ => False) := by
  refine Met.ofW (cc := cX1_ranked) (maxL := 3) (ret := some .int) (by decide) rfl ?_
  intro p e s m args below meth c s₁ B hml hv
  obtain ⟨rfl, hP, hK⟩ := hv
  have hx := B.exec
  have hb := B.bytes
  have hr := B.returns
  have hts := atoms_spec (ws := wsX1_ranked) B.pre
  have hown : s.vm.findClass RX1 = some m.cls := findClass_of_methodNamed B.named
  have hlocks := B.notSynchronized
  have hS : va_S (fun _ => False) s.heap s.heap [] := va_S.rf
  have hRf : 3 ≤ ((headSpec wsX1_ranked ({ frames := 3, cells := 0, slots := 0, locals := 76 })).room).frames := Nat.le_of_ble_eq_true rfl
  have hRl : 76 ≤ ((headSpec wsX1_ranked ({ frames := 3, cells := 0, slots := 0, locals := 76 })).room).locals := Nat.le_of_ble_eq_true rfl
  have hl := lv_entry ([.ref (ad 0), .int (x)]) (n := 3) (Nat.le_of_ble_eq_true rfl)
  rw [lg_entry_eq]
  generalize (lg_sl ([.ref (ad 0), .int (x)]) ++ List.replicate (3 - (lg_sl ([.ref (ad 0), .int (x)])).length) Slot.unset).toArray = ls at hl ⊢
  have hl : lv_has ls 3 [(0, .ref (ad 0)), (1, .int (x))] := hl
  refine lv_aload_n hx hb dX1_ranked_0 rfl (lv_at hl 0 rfl) ?_
  refine lv_aload_n hx hb dX1_ranked_1 rfl (lv_at hl 0 rfl) ?_
  refine gm hx hb hts innX1_ranked hown hK hP 5 (by decide) (by decide +kernel) rfl (v := .ref (ad 3)) rfl dX1_ranked_2 ?_
  refine lv_iconst (v := nI 0) hx hb dX1_ranked_5 (by decide +kernel) ?_
  refine lv_iconst (v := -1) hx hb dX1_ranked_6 (by decide +kernel) ?_
  refine va_calli (va_runV (As := [.ref (ad 3), .int (nI (0)), .int (-1)]) (rest := []) ⟨hx, hb, hml, hown, hts⟩ (kX1_nearest l E ad hap τ 3 16 0 K (mSg τ) (-1) hF hmb (by decide) cm_sg (by decide) (by omega) hK1 hK2 hw) (cwV 3 hts gX1_ranked_X1_nearest rfl rfl rfl (by decide +kernel) ⟨Nat.le_trans (Nat.le_of_ble_eq_true rfl) hRf, Nat.le_trans (Nat.le_of_ble_eq_true rfl) hRl⟩) (zpm hK hP) rfl rfl hl.1 rfl (lv_room (Nat.le_of_ble_eq_true rfl)) dX1_ranked_7 ⟨Nat.zero_le _, Nat.zero_le _⟩) hS (fun q _ h => h.elim) (fun q h => h.elim) (fun r u9 t9 H locs ht9 hvm9 hw9 hB9 hz9 hk9 hS => ?_)
  have hP := wn_ro hP hk9
  subst hw9
  refine lv_istore_n (lv' := [(2, .int (nearM τ (mSg τ) 0 (-1))), (0, .ref (ad 0)), (1, .int (x))]) hx hb dX1_ranked_10 rfl hl (by decide) rfl (fun ls hl => ?_)
  refine lv_iload_n hx hb dX1_ranked_11 rfl (lv_at hl 2 rfl) ?_
  refine lv_if_ne (tgt := 19) hx hb dX1_ranked_12 (by decide) (fun h => ?_) (fun h => ?_)
  · refine lv_aload_n hx hb dX1_ranked_19 rfl (lv_at hl 1 rfl) ?_
    refine lv_aload_n hx hb dX1_ranked_20 rfl (lv_at hl 1 rfl) ?_
    refine gm hx hb hts innX1_ranked hown hK hP 5 (by decide) (by decide +kernel) rfl (v := .ref (ad 3)) rfl dX1_ranked_21 ?_
    refine lv_iconst (v := nI 0) hx hb dX1_ranked_24 (by decide +kernel) ?_
    refine lv_iload_n hx hb dX1_ranked_25 rfl (lv_at hl 0 rfl) ?_
    refine va_calli (va_runV (As := [.ref (ad 3), .int (nI (0)), .int (nearM τ (mSg τ) 0 (-1))]) (rest := []) ⟨hx, hb, hml, hown, hts⟩ (kX1_nearest l E ad hap τ 3 16 0 K (mSg τ) (nearM τ (mSg τ) 0 (-1)) hF hmb (by decide) cm_sg (by decide) (by omega) hK1 hK2 hw) (cwV 3 hts gX1_ranked_X1_nearest rfl rfl rfl (by decide +kernel) ⟨Nat.le_trans (Nat.le_of_ble_eq_true rfl) hRf, Nat.le_trans (Nat.le_of_ble_eq_true rfl) hRl⟩) (zpm hK hP) rfl rfl hl.1 rfl (lv_room (Nat.le_of_ble_eq_true rfl)) dX1_ranked_26 ⟨Nat.zero_le _, Nat.zero_le _⟩) hS (fun q _ h => h.elim) (fun q h => h.elim) (fun r u9 t9 H locs ht9 hvm9 hw9 hB9 hz9 hk9 hS => ?_)
    have hP := wn_ro hP hk9
    subst hw9
    exact W.iret hx hb hr (fun t ht hW => ⟨⟨_, (), rfl, (if_neg h).symm, trivial⟩, hS.F ht⟩) hS.2.2 dX1_ranked_29
  · refine lv_iload_n hx hb dX1_ranked_15 rfl (lv_at hl 0 rfl) ?_
    refine lv_goto (tgt := 29) hx hb dX1_ranked_16 (by decide) ?_
    exact W.iret hx hb hr (fun t ht hW => ⟨⟨_, (), rfl, (if_pos h).symm, trivial⟩, hS.F ht⟩) hS.2.2 dX1_ranked_29
end
section
/-! ===== what the class's writing methods do, as folds over its rows ===== -/
/-- the first j places of row i become z -/
def zrow {α : Type} (g : Nat → Nat → α) (i : Nat) (z : α) : Nat → Nat → Nat → α
  | 0 => g
  | j + 1 => up2 (zrow g i z j) i j z
/-- the first k rows, n places each -/
def zrows {α : Type} (g : Nat → Nat → α) (n : Nat) (z : Nat → α) : Nat → Nat → Nat → α
  | 0 => g
  | k + 1 => zrow (zrows g n z k) k (z k) n
/-- the first k places become 0 -/
def zline (g : Nat → Nat) : Nat → Nat → Nat
  | 0 => g
  | k + 1 => va_up (zline g k) k 0
/-- how many of the first k examples each class has, g at first -/
def cnE (ec : Nat → Nat) (g : Nat → Nat) : Nat → Nat → Nat
  | 0 => g
  | k + 1 => va_up (cnE ec g k) (ec k) (cnE ec g k (ec k) + 1)
/-- the values v come to the first f places of row c -/
def adR (g : Nat → Nat → UInt64) (c : Nat) (v : Nat → Nat) : Nat → Nat → Nat → UInt64
  | 0 => g
  | f + 1 => up2 (adR g c v f) c f (FP.dadd (adR g c v f c f) (FP.i2d (nI (v f))))
def adE (n : Nat) (ec : Nat → Nat) (ev : Nat → Nat → Nat) (g : Nat → Nat → UInt64) : Nat → Nat → Nat → UInt64
  | 0 => g
  | k + 1 => adR (adE n ec ev g k) (ec k) (ev k) n
/-- the first f places of row c by x -/
def dvR (g : Nat → Nat → UInt64) (c : Nat) (x : UInt64) : Nat → Nat → Nat → UInt64
  | 0 => g
  | f + 1 => up2 (dvR g c x f) c f (FP.ddiv (dvR g c x f c f) x)
def dvE (n : Nat) (mb : Nat → Nat) (g : Nat → Nat → UInt64) : Nat → Nat → Nat → UInt64
  | 0 => g
  | c + 1 => if 0 < mb c then dvR (dvE n mb g c) c (FP.i2d (nI (mb c))) n else dvE n mb g c
/-- one example's round: from its class c to the nearest n -/
def shW (mn : Nat → Nat → UInt64) (v : Nat → Nat) (c n : Nat) (w : Nat → Nat → UInt64) : Nat → Nat → Nat → UInt64
  | 0 => w
  | f + 1 =>
    if ¬ Op.cmpValue (FP.dcmp (szF (FP.dsub (FP.i2d (nI (v f))) (mn c f))) (szF (FP.dsub (FP.i2d (nI (v f))) (mn n f)))) CmpOp.l ≤ 0 then up2 (shW mn v c n w f) c f (FP.dmul (shW mn v c n w f c f) k875)
    else if ¬ Op.cmpValue (FP.dcmp (szF (FP.dsub (FP.i2d (nI (v f))) (mn n f))) (szF (FP.dsub (FP.i2d (nI (v f))) (mn c f)))) CmpOp.l ≤ 0 then up2 (shW mn v c n w f) n f (FP.dmul (shW mn v c n w f n f) k1125)
    else shW mn v c n w f
/-- a round over the first k examples: the weights -/
def rdX (κ : SX) (w : Nat → Nat → UInt64) : Nat → Nat → Nat → UInt64
  | 0 => w
  | k + 1 =>
    if nearX (sxWt κ (rdX κ w k)) (xEv κ k) (-1) = -1 ∨ nearX (sxWt κ (rdX κ w k)) (xEv κ k) (-1) = nI (xEc κ k) then rdX κ w k
    else shW (xMn κ) (xEv κ k) (xEc κ k) (nearX (sxWt κ (rdX κ w k)) (xEv κ k) (-1)).toNatClampNeg (rdX κ w k) (xF κ)
/-- rounds -/
def rdsX (κ : SX) : Nat → Nat → Nat → UInt64
  | 0 => xWt κ
  | r + 1 => rdX κ (rdsX κ r) (xN κ)
/-- told once more: how often each class was told for each -/
def cfX (κ : SX) (g : Nat → Nat → Nat) : Nat → Nat → Nat → Nat
  | 0 => g
  | k + 1 =>
    if nearX κ (xEv κ k) (-1) = -1 then cfX κ g k
    else up2 (cfX κ g k) (xEc κ k) (nearX κ (xEv κ k) (-1)).toNatClampNeg (cfX κ g k (xEc κ k) (nearX κ (xEv κ k) (-1)).toNatClampNeg + 1)
/-- an example more -/
def addX (κ : SX) (c : Nat) : SX := sxN (sxEv (sxEc κ (va_up (xEc κ) (xN κ) c)) (zrow (xEv κ) (xN κ) 0 (xF κ))) (xN κ + 1)
def exP (κ : SX) (x r : Int32) (κ' : SX) : Prop := (∃ c : Nat, c < 16 ∧ x = nI c ∧ ((40 ≤ xN κ ∧ r = -14 ∧ κ' = κ) ∨ (xN κ < 40 ∧ r = nI (xN κ) ∧ κ' = addX κ c))) ∨ ((∀ j : Nat, j < 16 → x ≠ nI j) ∧ r = -12 ∧ κ' = κ)
/-- the means, and how many each class has -/
def mmB (κ : SX) : Nat → Nat := cnE (xEc κ) (zline (xMb κ) 16) (xN κ)
def mmS (κ : SX) : Nat → Nat → UInt64 := adE (xF κ) (xEc κ) (xEv κ) (zrows (xMn κ) (xF κ) (fun _ => FP.dconst0) 16) (xN κ)
def mmX (κ : SX) : SX := sxMn (sxMb κ (mmB κ)) (dvE (xF κ) (mmB κ) (mmS κ) 16)
def fwX (κ : SX) : SX := sxWt κ (zrows (xWt κ) (xF κ) (fun c => if 0 < xMb κ c then FP.dconst1 else FP.dconst0) 16)
/-- ===== bounds ===== -/
theorem up2_ij {α : Type} (g : Nat → Nat → α) (i j : Nat) (v : α) : up2 g i j v i j = v := by rw [up2_self, va_up_self]
theorem up2_nj {α : Type} (g : Nat → Nat → α) {i j b : Nat} (a : Nat) (v : α) (h : b ≠ j) : up2 g i j v a b = g a b := by
  by_cases e : a = i
  · subst e
    rw [up2_self, va_up_ne _ _ h]
  · rw [up2_ne _ _ _ e]
theorem shW_rest {mn : Nat → Nat → UInt64} {v : Nat → Nat} {c n : Nat} {w : Nat → Nat → UInt64} : ∀ {f a j : Nat}, f ≤ j → shW mn v c n w f a j = w a j
  | 0, _, _, _ => rfl
  | f + 1, a, j, h => by
    have ih : shW mn v c n w f a j = w a j := shW_rest (by omega)
    rw [shW]
    split
    · rw [up2_nj _ _ _ (by omega), ih]
    · split
      · rw [up2_nj _ _ _ (by omega), ih]
      · exact ih
theorem up2_P {α : Type} {P : α → Prop} {q : Nat → Nat → Prop} {g : Nat → Nat → α} {i j : Nat} {v : α} (hg : ∀ a b, q a b → P (g a b)) (hv : P v) (a b : Nat) (h : q a b) : P (up2 g i j v a b) := by
  by_cases e : b = j
  · by_cases e2 : a = i
    · subst e; subst e2
      rw [up2_ij]; exact hv
    · rw [up2_ne _ _ _ e2]; exact hg a b h
  · rw [up2_nj _ _ _ e]; exact hg a b h
/-- the weights of the places that there are, at most so great -/
def wB (F K : Nat) (w : Nat → Nat → UInt64) : Prop := ∀ a b, (a < 16 ∧ b < F) → mg K (w a b)
theorem shW_mg {F K : Nat} {mn : Nat → Nat → UInt64} {v : Nat → Nat} {c n : Nat} {w : Nat → Nat → UInt64} (hc : c < 16) (hn : n < 16) (h1 : 1023 ≤ K) (h2 : K ≤ 1900) (hw : wB F K w) : ∀ f, f ≤ F → wB F (K + 1) (shW mn v c n w f)
  | 0, _ => fun a b h => mg_mono (hw a b h) (by omega)
  | f + 1, hf => fun a b h => by
    have ih := shW_mg (mn := mn) (v := v) hc hn h1 h2 hw f (by omega)
    rw [shW]
    split
    · exact up2_P ih (by rw [shW_rest (Nat.le_refl f)]; exact mg_dmul (hw c f ⟨hc, hf⟩) mg_875 (by omega) (by decide) (by omega) (by decide) (by omega) (by omega)) a b h
    · split
      · exact up2_P ih (by rw [shW_rest (Nat.le_refl f)]; exact mg_dmul (hw n f ⟨hn, hf⟩) mg_1125 (by omega) (by decide) (by omega) (by decide) (by omega) (by omega)) a b h
      · exact ih a b h
/-- the nearest class, where there is one -/
theorem nearX_cases (κ : SX) (v : Nat → Nat) (but : Int32) : nearX κ v but = -1 ∨ ∃ j : Nat, j < 16 ∧ hasX κ j = true ∧ nI j ≠ but ∧ nearX κ v but = nI j := nrF_fst 16
theorem rdX_mg {K : Nat} {κ : SX} {w : Nat → Nat → UInt64} (hec : ∀ e, xEc κ e < 16) (h1 : 1023 ≤ K) (hw : wB (xF κ) K w) : ∀ k, K + k ≤ 1900 → wB (xF κ) (K + k) (rdX κ w k)
  | 0, _ => hw
  | k + 1, h2 => fun a b h => by
    have ih := rdX_mg (κ := κ) hec h1 hw k (by omega)
    rw [rdX]
    split
    · exact mg_mono (ih a b h) (by omega)
    · rename_i hq
      rcases nearX_cases (sxWt κ (rdX κ w k)) (xEv κ k) (-1) with e | ⟨j, hj, -, -, e⟩
      · exact absurd (Or.inl e) hq
      · rw [e, nI_clamp (by omega)]
        exact shW_mg (K := K + k) (hec k) hj (by omega) (by omega) ih _ (Nat.le_refl _) a b h
theorem rdsX_mg {K : Nat} {κ : SX} (hec : ∀ e, xEc κ e < 16) (h1 : 1023 ≤ K) (hN : xN κ ≤ 40) (hw : wB (xF κ) K (xWt κ)) : ∀ r, K + 40 * r ≤ 1860 → wB (xF κ) (K + 40 * r) (rdsX κ r)
  | 0, _ => hw
  | r + 1, h2 => fun a b h => mg_mono (rdX_mg (κ := κ) (K := K + 40 * r) hec (by omega) (rdsX_mg hec h1 hN hw r (by omega)) (xN κ) (by omega) a b h) (by omega)
/-- what is in the first k rows and n places -/
theorem zrow_in {α : Type} {g : Nat → Nat → α} {i : Nat} {z : α} : ∀ {n b : Nat}, b < n → zrow g i z n i b = z
  | n + 1, b, h => by
    rw [zrow]
    by_cases e : b = n
    · subst e; rw [up2_ij]
    · rw [up2_nj _ _ _ e]; exact zrow_in (by omega)
theorem zrow_out {α : Type} {g : Nat → Nat → α} {i : Nat} {z : α} : ∀ {n a b : Nat}, (a ≠ i ∨ n ≤ b) → zrow g i z n a b = g a b
  | 0, _, _, _ => rfl
  | n + 1, a, b, h => by
    rw [zrow]
    by_cases e : a = i
    · rw [up2_nj _ _ _ (show b ≠ n by omega)]; exact zrow_out (by omega)
    · rw [up2_ne _ _ _ e]; exact zrow_out (Or.inl e)
theorem zrows_in {α : Type} {g : Nat → Nat → α} {n : Nat} {z : Nat → α} : ∀ {k a b : Nat}, a < k → b < n → zrows g n z k a b = z a
  | k + 1, a, b, h, hb => by
    rw [zrows]
    by_cases e : a = k
    · subst e; exact zrow_in hb
    · rw [zrow_out (Or.inl e)]; exact zrows_in (by omega) hb
theorem zline_in {g : Nat → Nat} : ∀ {k a : Nat}, a < k → zline g k a = 0
  | k + 1, a, h => by
    rw [zline]
    by_cases e : a = k
    · subst e; rw [va_up_self]
    · rw [va_up_ne _ _ e]; exact zline_in (by omega)
/-- counted and summed -/
def ctE (ec : Nat → Nat) (c : Nat) : Nat → Nat
  | 0 => 0
  | k + 1 => ctE ec c k + if ec k = c then 1 else 0
def smE (ec : Nat → Nat) (ev : Nat → Nat → Nat) (c f : Nat) : Nat → Nat
  | 0 => 0
  | k + 1 => smE ec ev c f k + if ec k = c then ev k f else 0
theorem ctE_le (ec : Nat → Nat) (c : Nat) : ∀ k, ctE ec c k ≤ k
  | 0 => Nat.le_refl 0
  | k + 1 => by
    have := ctE_le ec c k
    rw [ctE]
    split <;> omega
theorem smE_le {ec : Nat → Nat} {ev : Nat → Nat → Nat} (h : ∀ e f, ev e f < 256) (c f : Nat) : ∀ k, smE ec ev c f k ≤ 255 * k
  | 0 => Nat.le_refl 0
  | k + 1 => by
    have := smE_le (ec := ec) h c f k
    have := h k f
    rw [smE]
    split <;> omega
theorem cnE_ct {ec g : Nat → Nat} {c : Nat} (hg : g c = 0) : ∀ k, cnE ec g k c = ctE ec c k
  | 0 => hg
  | k + 1 => by
    have ih := cnE_ct (ec := ec) hg k
    rw [cnE, ctE]
    by_cases e : ec k = c
    · rw [if_pos e, ← ih, ← e, va_up_self]
    · rw [if_neg e, va_up_ne _ _ (Ne.symm e), ih, Nat.add_zero]
theorem adR_rest {g : Nat → Nat → UInt64} {c : Nat} {v : Nat → Nat} : ∀ {f a b : Nat}, (a ≠ c ∨ f ≤ b) → adR g c v f a b = g a b
  | 0, _, _, _ => rfl
  | f + 1, a, b, h => by
    rw [adR]
    by_cases e : a = c
    · rw [up2_nj _ _ _ (show b ≠ f by omega)]; exact adR_rest (by omega)
    · rw [up2_ne _ _ _ e]; exact adR_rest (Or.inl e)
theorem adR_in {g : Nat → Nat → UInt64} {c : Nat} {v : Nat → Nat} : ∀ {f b : Nat}, b < f → adR g c v f c b = FP.dadd (g c b) (FP.i2d (nI (v b)))
  | f + 1, b, h => by
    rw [adR]
    by_cases e : b = f
    · subst e; rw [up2_ij, adR_rest (Or.inr (Nat.le_refl _))]
    · rw [up2_nj _ _ _ e]; exact adR_in (by omega)
theorem adE_sm {n : Nat} {ec : Nat → Nat} {ev : Nat → Nat → Nat} {g : Nat → Nat → UInt64} (hev : ∀ e f, ev e f < 256) {c f : Nat} (hf : f < n) (hg : g c f = FP.i2d (nI 0)) : ∀ k, k ≤ 40 → adE n ec ev g k c f = FP.i2d (nI (smE ec ev c f k))
  | 0, _ => hg
  | k + 1, hk => by
    have ih := adE_sm (n := n) (ec := ec) hev hf hg k (by omega)
    have b1 := smE_le (ec := ec) hev c f k
    have b2 := hev k f
    rw [adE, smE]
    by_cases e : ec k = c
    · rw [if_pos e, e, adR_in hf, ih, i2d_add (by omega)]
    · rw [if_neg e, adR_rest (Or.inl (Ne.symm e)), ih, Nat.add_zero]
theorem dvR_rest {g : Nat → Nat → UInt64} {c : Nat} {x : UInt64} : ∀ {f a b : Nat}, (a ≠ c ∨ f ≤ b) → dvR g c x f a b = g a b
  | 0, _, _, _ => rfl
  | f + 1, a, b, h => by
    rw [dvR]
    by_cases e : a = c
    · rw [up2_nj _ _ _ (show b ≠ f by omega)]; exact dvR_rest (by omega)
    · rw [up2_ne _ _ _ e]; exact dvR_rest (Or.inl e)
theorem dvR_in {g : Nat → Nat → UInt64} {c : Nat} {x : UInt64} : ∀ {f b : Nat}, b < f → dvR g c x f c b = FP.ddiv (g c b) x
  | f + 1, b, h => by
    rw [dvR]
    by_cases e : b = f
    · subst e; rw [up2_ij, dvR_rest (Or.inr (Nat.le_refl _))]
    · rw [up2_nj _ _ _ e]; exact dvR_in (by omega)
theorem dvE_rest {n : Nat} {mb : Nat → Nat} {g : Nat → Nat → UInt64} : ∀ {k c f : Nat}, k ≤ c → dvE n mb g k c f = g c f
  | 0, _, _, _ => rfl
  | k + 1, c, f, h => by
    rw [dvE]
    split
    · rw [dvR_rest (Or.inl (show c ≠ k by omega))]; exact dvE_rest (by omega)
    · exact dvE_rest (by omega)
theorem dvE_in {n : Nat} {mb : Nat → Nat} {g : Nat → Nat → UInt64} : ∀ {k c f : Nat}, c < k → f < n → dvE n mb g k c f = if 0 < mb c then FP.ddiv (g c f) (FP.i2d (nI (mb c))) else g c f
  | k + 1, c, f, h, hf => by
    rw [dvE]
    by_cases e : c = k
    · subst e
      split
      · rw [dvR_in hf, dvE_rest (Nat.le_refl _)]
      · exact dvE_rest (Nat.le_refl _)
    · split
      · rw [dvR_rest (Or.inl e)]; exact dvE_in (by omega) hf
      · exact dvE_in (by omega) hf
end
section
/-! ===== the class: writes ===== -/
theorem wn_h {D : va_G} {cl : List vw_C} {ws : va_W} {H : Heap} {t : State} (ht : t.heap = H) (hP : va_P D cl ws H) : va_P D cl ws t.heap := ht.symm ▸ hP
set_option maxHeartbeats 4000000 in
set_option maxRecDepth 100000 in
theorem kX0_clear (l : Launch) (E : zE) (ad : Nat → Nat) (hap : apart 96 ad) (κ : SX) : Met l yX0_clear wsX0_clear ({ frames := 0, cells := 0, slots := 0, locals := 0 }) (va_Pc [.ref (ad 0)] (fun U => PX E ad κ U.heap ∧ zK E U)) (va_Qi (fun (r : Int32) (κ' : SX) => r = nI (xN κ) ∧ κ' = sxN κ 0) (fun κ' t => PX E ad κ' t.heap) (aX 96 ad)) 0 0 (aX 96 ad) := by
  refine Met.ofW (cc := cX0_clear) (maxL := 2) (ret := some .int) (by decide) rfl ?_
  intro p e s m args below meth c s₁ B hml hv
  obtain ⟨rfl, hP, hK⟩ := hv
  have hx := B.exec
  have hb := B.bytes
  have hr := B.returns
  have hts := atoms_spec (ws := wsX0_clear) B.pre
  have hown : s.vm.findClass RX0 = some m.cls := findClass_of_methodNamed B.named
  have hlocks := B.notSynchronized
  have hS : va_S (aX 96 ad) s.heap s.heap [] := va_S.rf
  have hA : ∀ k, k < 96 → aX 96 ad (ad k) := fun k hk => ⟨k, hk, rfl⟩
  have hRf : 0 ≤ ((headSpec wsX0_clear ({ frames := 0, cells := 0, slots := 0, locals := 0 })).room).frames := Nat.le_of_ble_eq_true rfl
  have hRl : 0 ≤ ((headSpec wsX0_clear ({ frames := 0, cells := 0, slots := 0, locals := 0 })).room).locals := Nat.le_of_ble_eq_true rfl
  have hl := lv_entry ([.ref (ad 0)]) (n := 2) (Nat.le_of_ble_eq_true rfl)
  rw [lg_entry_eq]
  generalize (lg_sl ([.ref (ad 0)]) ++ List.replicate (2 - (lg_sl ([.ref (ad 0)])).length) Slot.unset).toArray = ls at hl ⊢
  have hl : lv_has ls 2 [(0, .ref (ad 0))] := hl
  refine lv_aload_n hx hb dX0_clear_0 rfl (lv_at hl 0 rfl) ?_
  refine gx hx hb hts innX0_clear hown hK hP 3 (by decide) (by decide +kernel) rfl (v := .int (nI ((xN κ)))) rfl dX0_clear_1 ?_
  refine lv_istore_n (lv' := [(1, .int (nI ((xN κ)))), (0, .ref (ad 0))]) hx hb dX0_clear_4 rfl hl (by decide) rfl (fun ls hl => ?_)
  refine lv_aload_n hx hb dX0_clear_5 rfl (lv_at hl 1 rfl) ?_
  refine lv_iconst (v := nI 0) hx hb dX0_clear_6 (by decide +kernel) ?_
  refine gxput hx hb hts innX0_clear hown hK hP hap hA hS 3 (by decide) (by decide +kernel) rfl rfl (v := .int (nI (0))) rfl rfl (by show 3 < (List.length _); exact Nat.le_of_ble_eq_true rfl) dX0_clear_7 (fun H locs hP hS => ?_)
  have hP := px_n hP
  refine lv_iload_n hx hb dX0_clear_10 rfl (lv_at hl 0 rfl) ?_
  exact W.iret hx hb hr (fun t ht hW => ⟨⟨_, (sxN κ (0)), rfl, ⟨rfl, rfl⟩, (wn_h ht hP)⟩, hS.F ht⟩) hS.2.2 dX0_clear_11
/-- a number of 0 .. 100000 becomes the margin -/
def mgP (κ : SX) (x r : Int32) (κ' : SX) : Prop := (∃ j : Nat, j < 100001 ∧ x = nI j ∧ r = nI (xLd κ) ∧ κ' = sxLd κ j) ∨ ((∀ j : Nat, j < 100001 → x ≠ nI j) ∧ r = -12 ∧ κ' = κ)
set_option maxHeartbeats 4000000 in
set_option maxRecDepth 100000 in
theorem kX0_margin (l : Launch) (E : zE) (ad : Nat → Nat) (hap : apart 96 ad) (κ : SX) (x : Int32) : Met l yX0_margin wsX0_margin ({ frames := 0, cells := 0, slots := 0, locals := 0 }) (va_Pc [.ref (ad 0), .int (x)] (fun U => PX E ad κ U.heap ∧ zK E U)) (va_Qi (fun (r : Int32) (κ' : SX) => mgP κ x r κ') (fun κ' t => PX E ad κ' t.heap) (aX 96 ad)) 0 0 (aX 96 ad) := by
  refine Met.ofW (cc := cX0_margin) (maxL := 3) (ret := some .int) (by decide) rfl ?_
  intro p e s m args below meth c s₁ B hml hv
  obtain ⟨rfl, hP, hK⟩ := hv
  have hx := B.exec
  have hb := B.bytes
  have hr := B.returns
  have hts := atoms_spec (ws := wsX0_margin) B.pre
  have hown : s.vm.findClass RX0 = some m.cls := findClass_of_methodNamed B.named
  have hlocks := B.notSynchronized
  have hS : va_S (aX 96 ad) s.heap s.heap [] := va_S.rf
  have hA : ∀ k, k < 96 → aX 96 ad (ad k) := fun k hk => ⟨k, hk, rfl⟩
  have hRf : 0 ≤ ((headSpec wsX0_margin ({ frames := 0, cells := 0, slots := 0, locals := 0 })).room).frames := Nat.le_of_ble_eq_true rfl
  have hRl : 0 ≤ ((headSpec wsX0_margin ({ frames := 0, cells := 0, slots := 0, locals := 0 })).room).locals := Nat.le_of_ble_eq_true rfl
  have hl := lv_entry ([.ref (ad 0), .int (x)]) (n := 3) (Nat.le_of_ble_eq_true rfl)
  rw [lg_entry_eq]
  generalize (lg_sl ([.ref (ad 0), .int (x)]) ++ List.replicate (3 - (lg_sl ([.ref (ad 0), .int (x)])).length) Slot.unset).toArray = ls at hl ⊢
  have hl : lv_has ls 3 [(0, .ref (ad 0)), (1, .int (x))] := hl
  refine lv_iload_n hx hb dX0_margin_0 rfl (lv_at hl 1 rfl) ?_
  refine lv_if_lt (tgt := 10) hx hb dX0_margin_1 (by decide) (fun h => ?_) (fun h => ?_)
  · refine lv_bipush (v := -12) hx hb dX0_margin_10 (by decide +kernel) ?_
    exact W.iret hx hb hr (fun t ht hW => ⟨⟨_, κ, rfl, Or.inr ⟨fun j hj e => nI_pos (show j < 2 ^ 31 by omega) (e ▸ h), rfl, rfl⟩, (wn_h ht hP)⟩, hS.F ht⟩) hS.2.2 dX0_margin_12
  · refine lv_iload_n hx hb dX0_margin_4 rfl (lv_at hl 1 rfl) ?_
    refine lv_ldc (v := nI 100000) hx hb hown (hts (.constant RX0 112 (nI 100000)) (by decide +kernel)) dX0_margin_5 ?_
    refine lv_icmp_le (tgt := 13) hx hb dX0_margin_7 (by decide) (fun h2 => ?_) (fun h2 => ?_)
    · obtain ⟨j, hj, rfl⟩ : ∃ j : Nat, j < 100001 ∧ x = nI j := by
        rcases pk_ix x (n := 100001) (by decide) with q | q | ⟨j, hj, e⟩
        · exact absurd q h
        · have q1 := Int32.le_trans q h2; exact absurd q1 (by decide)
        · exact ⟨j, hj, e⟩
      refine lv_aload_n hx hb dX0_margin_13 rfl (lv_at hl 0 rfl) ?_
      refine gx hx hb hts innX0_margin hown hK hP 5 (by decide) (by decide +kernel) rfl (v := .int (nI ((xLd κ)))) rfl dX0_margin_14 ?_
      refine lv_istore_n (lv' := [(2, .int (nI ((xLd κ)))), (0, .ref (ad 0)), (1, .int (nI (j)))]) hx hb dX0_margin_17 rfl hl (by decide) rfl (fun ls hl => ?_)
      refine lv_aload_n hx hb dX0_margin_18 rfl (lv_at hl 1 rfl) ?_
      refine lv_iload_n hx hb dX0_margin_19 rfl (lv_at hl 2 rfl) ?_
      refine gxput hx hb hts innX0_margin hown hK hP hap hA hS 5 (by decide) (by decide +kernel) rfl rfl (v := .int (nI (j))) rfl rfl (by show 5 < (List.length _); exact Nat.le_of_ble_eq_true rfl) dX0_margin_20 (fun H locs hP hS => ?_)
      have hP := px_ld hP
      refine lv_iload_n hx hb dX0_margin_23 rfl (lv_at hl 0 rfl) ?_
      exact W.iret hx hb hr (fun t ht hW => ⟨⟨_, (sxLd κ (j)), rfl, Or.inl ⟨j, hj, rfl, rfl, rfl⟩, (wn_h ht hP)⟩, hS.F ht⟩) hS.2.2 dX0_margin_24
    · refine lv_bipush (v := -12) hx hb dX0_margin_10 (by decide +kernel) ?_
      exact W.iret hx hb hr (fun t ht hW => ⟨⟨_, κ, rfl, Or.inr ⟨fun j hj e => h2 (by rw [e]; exact nI_le (by omega) (by decide)), rfl, rfl⟩, (wn_h ht hP)⟩, hS.F ht⟩) hS.2.2 dX0_margin_12
set_option maxHeartbeats 4000000 in
set_option maxRecDepth 100000 in
theorem lp_X0_example {p : Program} {l : Launch} {e : Env} {R : Room} {s : State} {m : MethodId} {args : Array Value} {below : List Frame} {meth : Method} {c : Code} {Q : State → Prop} {E : zE} {ad : Nat → Nat} (hx : p.tables.exec = Jvm.exec) (hb : c.code = cX0_example) (hml : c.maxLocals = 4) (hts : ∀ w ∈ wsX0_example, w.before args s = true) (hown : s.vm.findClass RX0 = some m.cls) (hK : zK E s) (hap : apart 96 ad) {H0 : Heap} (hRf : 1 ≤ R.frames) (hRl : 20 ≤ R.locals) (κ : SX) (hF : xF κ ≤ 16) (hN : xN κ ≤ 40) (c9 : Nat) (hN1 : xN κ < 40)
    (exit : ∀ (H : Heap) (locs : List Loc) (ls : Array Slot), PX E ad (sxEv (sxEc κ (va_up (xEc κ) (xN κ) c9)) (zrow (xEv κ) (xN κ) 0 (xF κ))) H → va_S (aX 96 ad) H0 H locs → lv_has ls 4 [(2, .int (nI (xN κ))), (0, .ref (ad 0))] → W p l e R s m args below meth c H locs 0 0 Q (F0 m 59 ls [])) :
    ∀ (n j : Nat) (H : Heap) (locs : List Loc) (ls : Array Slot), j ≤ xF κ → xF κ - j < n → PX E ad (sxEv (sxEc κ (va_up (xEc κ) (xN κ) c9)) (zrow (xEv κ) (xN κ) 0 j)) H → va_S (aX 96 ad) H0 H locs → lv_has ls 4 [(3, .int (nI (j))), (2, .int (nI (xN κ))), (0, .ref (ad 0))] → W p l e R s m args below meth c H locs 0 0 Q (F0 m 36 ls []) := by
  have hA : ∀ k, k < 96 → aX 96 ad (ad k) := fun k hk => ⟨k, hk, rfl⟩
  intro n
  induction n with
  | zero => intro j H locs ls h1 h2; omega
  | succ n ih =>
    intro j H locs ls hi hn hP hS hl
    refine lv_iload_n hx hb dX0_example_36 rfl (lv_at hl 0 rfl) ?_
    refine lv_aload_n hx hb dX0_example_37 rfl (lv_at hl 2 rfl) ?_
    refine gx hx hb hts innX0_example hown hK hP 0 (by decide) (by decide +kernel) rfl (v := .int (nI ((xF κ)))) rfl dX0_example_38 ?_
    refine zb_ge (tgt := 59) hx hb (show j < 2 ^ 31 by omega) (show (xF κ) < 2 ^ 31 by omega) dX0_example_41 (by decide) (fun h => ?_) (fun h => ?_)
    · have h : (xF κ) ≤ j := h
      have hend : j = xF κ := by omega
      subst hend
      exact exit _ _ _ hP hS (lv_sub hl [1, 2] rfl)
    · have h : j < (xF κ) := h
      refine lv_aload_n hx hb dX0_example_44 rfl (lv_at hl 2 rfl) ?_
      refine gx hx hb hts innX0_example hown hK hP 2 (by decide) (by decide +kernel) rfl (v := .ref (ad 2)) rfl dX0_example_45 ?_
      refine lv_iload_n hx hb dX0_example_48 rfl (lv_at hl 1 rfl) ?_
      refine z_aald 1 hx hb hK hP 2 (by decide) cx_evO rfl rfl (show xN κ < 40 by omega) (by decide) (if_pos (show xN κ < 40 by omega)) dX0_example_49 ?_
      refine lv_iload_n hx hb dX0_example_50 rfl (lv_at hl 0 rfl) ?_
      refine lv_iconst (v := nI 0) hx hb dX0_example_51 (by decide +kernel) ?_
      refine z_iast hx hb hK hP hap hA hS (3 + (xN κ)) (show 3 + (xN κ) < 96 by omega) (cx_ev (show (xN κ) < 40 by omega)) (show j < xF κ by omega) (show xF κ < 2 ^ 31 by omega) dX0_example_52 (fun H locs hP hS => ?_)
      have hP := px_ev (show (xN κ) < 40 by omega) hP
      refine lv_iinc (v := nI (j + 1)) (lv' := [(3, .int (nI (j + 1))), (2, .int (nI (xN κ))), (0, .ref (ad 0))]) hx hb dX0_example_53 hl (k := 0) rfl (nI_1 _) (by decide) rfl (fun ls hl => ?_)
      refine lv_goto (tgt := 36) hx hb dX0_example_56 (by decide) ?_
      exact ih (j + 1) _ _ _ (by omega) (by omega) hP hS (lv_sub hl [0, 1, 2] rfl)
set_option maxHeartbeats 4000000 in
set_option maxRecDepth 100000 in
theorem kX0_example (l : Launch) (E : zE) (ad : Nat → Nat) (hap : apart 96 ad) (κ : SX) (x : Int32) (hF : xF κ ≤ 16) (hN : xN κ ≤ 40) : Met l yX0_example wsX0_example ({ frames := 1, cells := 0, slots := 0, locals := 20 }) (va_Pc [.ref (ad 0), .int (x)] (fun U => PX E ad κ U.heap ∧ zK E U)) (va_Qi (fun (r : Int32) (κ' : SX) => exP κ x r κ') (fun κ' t => PX E ad κ' t.heap) (aX 96 ad)) 0 0 (aX 96 ad) := by
  refine Met.ofW (cc := cX0_example) (maxL := 4) (ret := some .int) (by decide) rfl ?_
  intro p e s m args below meth c s₁ B hml hv
  obtain ⟨rfl, hP, hK⟩ := hv
  have hx := B.exec
  have hb := B.bytes
  have hr := B.returns
  have hts := atoms_spec (ws := wsX0_example) B.pre
  have hown : s.vm.findClass RX0 = some m.cls := findClass_of_methodNamed B.named
  have hlocks := B.notSynchronized
  have hS : va_S (aX 96 ad) s.heap s.heap [] := va_S.rf
  have hA : ∀ k, k < 96 → aX 96 ad (ad k) := fun k hk => ⟨k, hk, rfl⟩
  have hRf : 1 ≤ ((headSpec wsX0_example ({ frames := 1, cells := 0, slots := 0, locals := 20 })).room).frames := Nat.le_of_ble_eq_true rfl
  have hRl : 20 ≤ ((headSpec wsX0_example ({ frames := 1, cells := 0, slots := 0, locals := 20 })).room).locals := Nat.le_of_ble_eq_true rfl
  have hl := lv_entry ([.ref (ad 0), .int (x)]) (n := 4) (Nat.le_of_ble_eq_true rfl)
  rw [lg_entry_eq]
  generalize (lg_sl ([.ref (ad 0), .int (x)]) ++ List.replicate (4 - (lg_sl ([.ref (ad 0), .int (x)])).length) Slot.unset).toArray = ls at hl ⊢
  have hl : lv_has ls 4 [(0, .ref (ad 0)), (1, .int (x))] := hl
  refine lv_iload_n hx hb dX0_example_0 rfl (lv_at hl 1 rfl) ?_
  refine va_calli (va_runS (As := [.int (x)]) (rest := []) ⟨hx, hb, hml, hown, hts⟩ (kX0_isClass l x) (va_cwS 1 hts gX0_example_X0_isClass rfl rfl rfl (by decide +kernel) ⟨Nat.le_trans (Nat.le_of_ble_eq_true rfl) hRf, Nat.le_trans (Nat.le_of_ble_eq_true rfl) hRl⟩) zps rfl rfl hl.1 rfl (lv_room (Nat.le_of_ble_eq_true rfl)) dX0_example_1 ⟨Nat.zero_le _, Nat.zero_le _⟩) hS (fun q _ h => h.elim) (fun q h => h.elim) (fun r u9 t9 H locs ht9 hvm9 hw9 hB9 hz9 hk9 hS => ?_)
  have hP := wn_ro hP hk9
  rcases hw9 with ⟨c9, hc, rfl, rfl⟩ | ⟨hno, rfl⟩
  · refine zu_ne (tgt := 10) hx hb (show 1 < 2 ^ 31 by omega) dX0_example_4 (by decide) (fun h => ?_) (fun h => ?_)
    · have h : 0 < 1 := h
      refine lv_aload_n hx hb dX0_example_10 rfl (lv_at hl 0 rfl) ?_
      refine gx hx hb hts innX0_example hown hK hP 3 (by decide) (by decide +kernel) rfl (v := .int (nI ((xN κ)))) rfl dX0_example_11 ?_
      refine lv_bipush (v := nI 40) hx hb dX0_example_14 (by decide +kernel) ?_
      refine zb_lt (tgt := 22) hx hb (show (xN κ) < 2 ^ 31 by omega) (show 40 < 2 ^ 31 by omega) dX0_example_16 (by decide) (fun h2 => ?_) (fun h2 => ?_)
      · have h2 : (xN κ) < 40 := h2
        refine lv_aload_n hx hb dX0_example_22 rfl (lv_at hl 0 rfl) ?_
        refine gx hx hb hts innX0_example hown hK hP 3 (by decide) (by decide +kernel) rfl (v := .int (nI ((xN κ)))) rfl dX0_example_23 ?_
        refine lv_istore_n (lv' := [(2, .int (nI ((xN κ)))), (0, .ref (ad 0)), (1, .int (nI (c9)))]) hx hb dX0_example_26 rfl hl (by decide) rfl (fun ls hl => ?_)
        refine lv_aload_n hx hb dX0_example_27 rfl (lv_at hl 1 rfl) ?_
        refine gx hx hb hts innX0_example hown hK hP 1 (by decide) (by decide +kernel) rfl (v := .ref (ad 1)) rfl dX0_example_28 ?_
        refine lv_iload_n hx hb dX0_example_31 rfl (lv_at hl 0 rfl) ?_
        refine lv_iload_n hx hb dX0_example_32 rfl (lv_at hl 2 rfl) ?_
        refine z_iast hx hb hK hP hap hA hS 1 (by decide) cx_ec (show (xN κ) < 40 by omega) (by decide) dX0_example_33 (fun H locs hP hS => ?_)
        have hP := px_ec hP
        refine lv_iconst (v := nI 0) hx hb dX0_example_34 (by decide +kernel) ?_
        refine lv_istore_n (lv' := [(3, .int (nI (0))), (2, .int (nI ((xN κ)))), (0, .ref (ad 0)), (1, .int (nI (c9)))]) hx hb dX0_example_35 rfl hl (by decide) rfl (fun ls hl => ?_)
        refine lp_X0_example hx hb hml hts hown hK hap hRf hRl κ hF hN c9 h2 (fun H locs ls hP hS hl => ?_) (xF κ + 1) 0 _ _ _ (by omega) (by omega) hP hS (lv_sub hl [0, 1, 2] rfl)
        refine lv_aload_n hx hb dX0_example_59 rfl (lv_at hl 1 rfl) ?_
        refine lv_iload_n hx hb dX0_example_60 rfl (lv_at hl 0 rfl) ?_
        refine lv_iconst (v := nI 1) hx hb dX0_example_61 (by decide +kernel) ?_
        refine zv_iadd (v := (nI ((xN κ) + 1))) hx hb dX0_example_62 (nI_add _ _) ?_
        refine gxput hx hb hts innX0_example hown hK hP hap hA hS 3 (by decide) (by decide +kernel) rfl rfl (v := .int (nI ((xN κ) + 1))) rfl rfl (by show 3 < (List.length _); exact Nat.le_of_ble_eq_true rfl) dX0_example_63 (fun H locs hP hS => ?_)
        have hP := px_n hP
        refine lv_iload_n hx hb dX0_example_66 rfl (lv_at hl 0 rfl) ?_
        exact W.iret hx hb hr (fun t ht hW => ⟨⟨_, addX κ c9, rfl, Or.inl ⟨c9, hc, rfl, Or.inr ⟨h2, rfl, rfl⟩⟩, (wn_h ht hP)⟩, hS.F ht⟩) hS.2.2 dX0_example_67
      · have h2 : 40 ≤ (xN κ) := h2
        refine lv_bipush (v := -14) hx hb dX0_example_19 (by decide +kernel) ?_
        exact W.iret hx hb hr (fun t ht hW => ⟨⟨_, κ, rfl, Or.inl ⟨c9, hc, rfl, Or.inl ⟨h2, rfl, rfl⟩⟩, (wn_h ht hP)⟩, hS.F ht⟩) hS.2.2 dX0_example_21
    · have h : 1 = 0 := h
      exact absurd h (by decide)
  · refine zu_ne (tgt := 10) hx hb (show 0 < 2 ^ 31 by omega) dX0_example_4 (by decide) (fun h => ?_) (fun h => ?_)
    · have h : 0 < 0 := h
      exact absurd h (by decide)
    · have h : 0 = 0 := h
      refine lv_bipush (v := -12) hx hb dX0_example_7 (by decide +kernel) ?_
      exact W.iret hx hb hr (fun t ht hW => ⟨⟨_, κ, rfl, Or.inr ⟨hno, rfl, rfl⟩, (wn_h ht hP)⟩, hS.F ht⟩) hS.2.2 dX0_example_9
set_option maxHeartbeats 4000000 in
set_option maxRecDepth 100000 in
theorem lp_X0_divideMeans {p : Program} {l : Launch} {e : Env} {R : Room} {s : State} {m : MethodId} {args : Array Value} {below : List Frame} {meth : Method} {c : Code} {Q : State → Prop} {E : zE} {ad : Nat → Nat} (hx : p.tables.exec = Jvm.exec) (hb : c.code = cX0_divideMeans) (hml : c.maxLocals = 5) (hts : ∀ w ∈ wsX0_divideMeans, w.before args s = true) (hown : s.vm.findClass RX0 = some m.cls) (hK : zK E s) (hap : apart 96 ad) {H0 : Heap} (hRf : 0 ≤ R.frames) (hRl : 0 ≤ R.locals) (κ : SX) (c9 : Nat) (hF : xF κ ≤ 16) (hc : c9 < 16) (hdm : ∀ f, f < xF κ → vf_n64 (FP.ddiv (dvR (xMn κ) c9 (FP.i2d (nI (xMb κ c9))) f c9 f) (FP.i2d (nI (xMb κ c9)))))
    (exit : ∀ (H : Heap) (locs : List Loc) (ls : Array Slot), PX E ad (sxMn κ (dvR (xMn κ) c9 (FP.i2d (nI (xMb κ c9))) (xF κ))) H → va_S (aX 96 ad) H0 H locs → lv_has ls 5 [(2, .double ((FP.i2d (nI (xMb κ c9))))), (0, .ref (ad 0)), (1, .int (nI (c9)))] → W p l e R s m args below meth c H locs 0 0 Q (F0 m 46 ls [])) :
    ∀ (n j : Nat) (H : Heap) (locs : List Loc) (ls : Array Slot), j ≤ xF κ → xF κ - j < n → PX E ad (sxMn κ (dvR (xMn κ) c9 (FP.i2d (nI (xMb κ c9))) j)) H → va_S (aX 96 ad) H0 H locs → lv_has ls 5 [(4, .int (nI (j))), (2, .double ((FP.i2d (nI (xMb κ c9))))), (0, .ref (ad 0)), (1, .int (nI (c9)))] → W p l e R s m args below meth c H locs 0 0 Q (F0 m 11 ls []) := by
  have hA : ∀ k, k < 96 → aX 96 ad (ad k) := fun k hk => ⟨k, hk, rfl⟩
  intro n
  induction n with
  | zero => intro j H locs ls h1 h2; omega
  | succ n ih =>
    intro j H locs ls hi hn hP hS hl
    refine lv_iload hx hb dX0_divideMeans_11 (lv_at hl 0 rfl) ?_
    refine lv_aload_n hx hb dX0_divideMeans_13 rfl (lv_at hl 2 rfl) ?_
    refine gx hx hb hts innX0_divideMeans hown hK hP 0 (by decide) (by decide +kernel) rfl (v := .int (nI ((xF κ)))) rfl dX0_divideMeans_14 ?_
    refine zb_ge (tgt := 46) hx hb (show j < 2 ^ 31 by omega) (show (xF κ) < 2 ^ 31 by omega) dX0_divideMeans_17 (by decide) (fun h => ?_) (fun h => ?_)
    · have h : (xF κ) ≤ j := h
      have hend : j = xF κ := by omega
      subst hend
      exact exit _ _ _ hP hS (lv_sub hl [1, 2, 3] rfl)
    · have h : j < (xF κ) := h
      refine lv_aload_n hx hb dX0_divideMeans_20 rfl (lv_at hl 2 rfl) ?_
      refine gx hx hb hts innX0_divideMeans hown hK hP 8 (by decide) (by decide +kernel) rfl (v := .ref (ad 45)) rfl dX0_divideMeans_21 ?_
      refine lv_iload_n hx hb dX0_divideMeans_24 rfl (lv_at hl 3 rfl) ?_
      refine z_aald 3 hx hb hK hP 45 (by decide) cx_mnO rfl rfl (show c9 < 16 by omega) (by decide) (if_pos (show c9 < 16 by omega)) dX0_divideMeans_25 ?_
      refine lv_iload hx hb dX0_divideMeans_26 (lv_at hl 0 rfl) ?_
      refine lv_aload_n hx hb dX0_divideMeans_28 rfl (lv_at hl 2 rfl) ?_
      refine gx hx hb hts innX0_divideMeans hown hK hP 8 (by decide) (by decide +kernel) rfl (v := .ref (ad 45)) rfl dX0_divideMeans_29 ?_
      refine lv_iload_n hx hb dX0_divideMeans_32 rfl (lv_at hl 3 rfl) ?_
      refine z_aald 3 hx hb hK hP 45 (by decide) cx_mnO rfl rfl (show c9 < 16 by omega) (by decide) (if_pos (show c9 < 16 by omega)) dX0_divideMeans_33 ?_
      refine lv_iload hx hb dX0_divideMeans_34 (lv_at hl 0 rfl) ?_
      refine z_dald hx hb hK hP (46 + c9) (show 46 + c9 < 96 by omega) (cx_mn (show c9 < 16 by omega)) (show j < xF κ by omega) (show xF κ < 2 ^ 31 by omega) dX0_divideMeans_36 ?_
      refine lv_dload_n hx hb dX0_divideMeans_37 rfl (lv_at hl 1 rfl) ?_
      refine lv_ddiv hx hb dX0_divideMeans_38 (hdm j h) ?_
      refine z_dast hx hb hK hP hap hA hS (46 + c9) (show 46 + c9 < 96 by omega) (cx_mn (show c9 < 16 by omega)) (show j < xF κ by omega) (show xF κ < 2 ^ 31 by omega) dX0_divideMeans_39 (fun H locs hP hS => ?_)
      have hP := px_mn (show c9 < 16 by omega) hP
      refine lv_iinc (v := nI (j + 1)) (lv' := [(4, .int (nI (j + 1))), (2, .double ((FP.i2d (nI (xMb κ c9))))), (0, .ref (ad 0)), (1, .int (nI (c9)))]) hx hb dX0_divideMeans_40 hl (k := 0) rfl (nI_1 _) (by decide) rfl (fun ls hl => ?_)
      refine lv_goto (tgt := 11) hx hb dX0_divideMeans_43 (by decide) ?_
      exact ih (j + 1) _ _ _ (by omega) (by omega) hP hS (lv_sub hl [0, 1, 2, 3] rfl)
set_option maxHeartbeats 4000000 in
set_option maxRecDepth 100000 in
theorem kX0_divideMeans (l : Launch) (E : zE) (ad : Nat → Nat) (hap : apart 96 ad) (κ : SX) (c9 : Nat) (hF : xF κ ≤ 16) (hc : c9 < 16) (hdm : ∀ f, f < xF κ → vf_n64 (FP.ddiv (dvR (xMn κ) c9 (FP.i2d (nI (xMb κ c9))) f c9 f) (FP.i2d (nI (xMb κ c9))))) : Met l yX0_divideMeans wsX0_divideMeans ({ frames := 0, cells := 0, slots := 0, locals := 0 }) (va_Pc [.ref (ad 0), .int (nI (c9))] (fun U => PX E ad κ U.heap ∧ zK E U)) (va_Qv (fun κ' : SX => κ' = sxMn κ (dvR (xMn κ) c9 (FP.i2d (nI (xMb κ c9))) (xF κ))) (fun κ' t => PX E ad κ' t.heap) (aX 96 ad)) 0 0 (aX 96 ad) := by
  refine Met.ofW (cc := cX0_divideMeans) (maxL := 5) (ret := none) (by decide) rfl ?_
  intro p e s m args below meth c s₁ B hml hv
  obtain ⟨rfl, hP, hK⟩ := hv
  have hx := B.exec
  have hb := B.bytes
  have hr := B.returns
  have hts := atoms_spec (ws := wsX0_divideMeans) B.pre
  have hown : s.vm.findClass RX0 = some m.cls := findClass_of_methodNamed B.named
  have hlocks := B.notSynchronized
  have hS : va_S (aX 96 ad) s.heap s.heap [] := va_S.rf
  have hA : ∀ k, k < 96 → aX 96 ad (ad k) := fun k hk => ⟨k, hk, rfl⟩
  have hRf : 0 ≤ ((headSpec wsX0_divideMeans ({ frames := 0, cells := 0, slots := 0, locals := 0 })).room).frames := Nat.le_of_ble_eq_true rfl
  have hRl : 0 ≤ ((headSpec wsX0_divideMeans ({ frames := 0, cells := 0, slots := 0, locals := 0 })).room).locals := Nat.le_of_ble_eq_true rfl
  have hl := lv_entry ([.ref (ad 0), .int (nI (c9))]) (n := 5) (Nat.le_of_ble_eq_true rfl)
  rw [lg_entry_eq]
  generalize (lg_sl ([.ref (ad 0), .int (nI (c9))]) ++ List.replicate (5 - (lg_sl ([.ref (ad 0), .int (nI (c9))])).length) Slot.unset).toArray = ls at hl ⊢
  have hl : lv_has ls 5 [(0, .ref (ad 0)), (1, .int (nI (c9)))] := hl
  refine lv_aload_n hx hb dX0_divideMeans_0 rfl (lv_at hl 0 rfl) ?_
  refine gx hx hb hts innX0_divideMeans hown hK hP 7 (by decide) (by decide +kernel) rfl (v := .ref (ad 44)) rfl dX0_divideMeans_1 ?_
  refine lv_iload_n hx hb dX0_divideMeans_4 rfl (lv_at hl 1 rfl) ?_
  refine z_iald hx hb hK hP 44 (by decide) cx_mb (show c9 < 16 by omega) (by decide) dX0_divideMeans_5 ?_
  refine lv_i2d hx hb dX0_divideMeans_6 ?_
  refine lv_dstore_n (lv' := [(2, .double (FP.i2d (nI ((xMb κ) (c9))))), (0, .ref (ad 0)), (1, .int (nI (c9)))]) hx hb dX0_divideMeans_7 rfl hl (by decide) rfl (fun ls hl => ?_)
  refine lv_iconst (v := nI 0) hx hb dX0_divideMeans_8 (by decide +kernel) ?_
  refine lv_istore (lv' := [(4, .int (nI (0))), (2, .double (FP.i2d (nI ((xMb κ) (c9))))), (0, .ref (ad 0)), (1, .int (nI (c9)))]) hx hb dX0_divideMeans_9 hl (by decide) rfl (fun ls hl => ?_)
  refine lp_X0_divideMeans hx hb hml hts hown hK hap hRf hRl κ c9 hF hc hdm (fun H locs ls hP hS hl => ?_) (xF κ + 1) 0 _ _ _ (by omega) (by omega) hP hS (lv_sub hl [0, 1, 2, 3] rfl)
  exact W.vret hx hb hr (fun t ht hW => ⟨⟨_, rfl, rfl, (wn_h ht hP)⟩, hS.F ht⟩) hS.2.2 dX0_divideMeans_46
set_option maxHeartbeats 4000000 in
set_option maxRecDepth 100000 in
theorem lp_X0_makeMeans1 {p : Program} {l : Launch} {e : Env} {R : Room} {s : State} {m : MethodId} {args : Array Value} {below : List Frame} {meth : Method} {c : Code} {Q : State → Prop} {E : zE} {ad : Nat → Nat} (hx : p.tables.exec = Jvm.exec) (hb : c.code = cX0_makeMeans) (hml : c.maxLocals = 4) (hts : ∀ w ∈ wsX0_makeMeans, w.before args s = true) (hown : s.vm.findClass RX0 = some m.cls) (hK : zK E s) (hap : apart 96 ad) {H0 : Heap} (hRf : 1 ≤ R.frames) (hRl : 24 ≤ R.locals) (κ : SX) (hF : xF κ ≤ 16) (hN : xN κ ≤ 40) (hec : ∀ e, xEc κ e < 16) (i : Nat) (hi16 : i < 16)
    (exit : ∀ (H : Heap) (locs : List Loc) (ls : Array Slot), PX E ad (sxMn (sxMb κ (zline (xMb κ) (i + 1))) (zrow (zrows (xMn κ) (xF κ) (fun _ => FP.dconst0) i) i FP.dconst0 (xF κ))) H → va_S (aX 96 ad) H0 H locs → lv_has ls 4 [(1, .int (nI (i))), (0, .ref (ad 0))] → W p l e R s m args below meth c H locs 0 0 Q (F0 m 40 ls [])) :
    ∀ (n j : Nat) (H : Heap) (locs : List Loc) (ls : Array Slot), j ≤ xF κ → xF κ - j < n → PX E ad (sxMn (sxMb κ (zline (xMb κ) (i + 1))) (zrow (zrows (xMn κ) (xF κ) (fun _ => FP.dconst0) i) i FP.dconst0 j)) H → va_S (aX 96 ad) H0 H locs → lv_has ls 4 [(2, .int (nI (j))), (1, .int (nI (i))), (0, .ref (ad 0))] → W p l e R s m args below meth c H locs 0 0 Q (F0 m 17 ls []) := by
  have hA : ∀ k, k < 96 → aX 96 ad (ad k) := fun k hk => ⟨k, hk, rfl⟩
  intro n
  induction n with
  | zero => intro j H locs ls h1 h2; omega
  | succ n ih =>
    intro j H locs ls hi hn hP hS hl
    refine lv_iload_n hx hb dX0_makeMeans_17 rfl (lv_at hl 0 rfl) ?_
    refine lv_aload_n hx hb dX0_makeMeans_18 rfl (lv_at hl 2 rfl) ?_
    refine gx hx hb hts innX0_makeMeans hown hK hP 0 (by decide) (by decide +kernel) rfl (v := .int (nI ((xF κ)))) rfl dX0_makeMeans_19 ?_
    refine zb_ge (tgt := 40) hx hb (show j < 2 ^ 31 by omega) (show (xF κ) < 2 ^ 31 by omega) dX0_makeMeans_22 (by decide) (fun h => ?_) (fun h => ?_)
    · have h : (xF κ) ≤ j := h
      have hend : j = xF κ := by omega
      subst hend
      exact exit _ _ _ hP hS (lv_sub hl [1, 2] rfl)
    · have h : j < (xF κ) := h
      refine lv_aload_n hx hb dX0_makeMeans_25 rfl (lv_at hl 2 rfl) ?_
      refine gx hx hb hts innX0_makeMeans hown hK hP 8 (by decide) (by decide +kernel) rfl (v := .ref (ad 45)) rfl dX0_makeMeans_26 ?_
      refine lv_iload_n hx hb dX0_makeMeans_29 rfl (lv_at hl 1 rfl) ?_
      refine z_aald 3 hx hb hK hP 45 (by decide) cx_mnO rfl rfl (show i < 16 by omega) (by decide) (if_pos (show i < 16 by omega)) dX0_makeMeans_30 ?_
      refine lv_iload_n hx hb dX0_makeMeans_31 rfl (lv_at hl 0 rfl) ?_
      refine lv_dconst0 hx hb dX0_makeMeans_32 ?_
      refine z_dast hx hb hK hP hap hA hS (46 + i) (show 46 + i < 96 by omega) (cx_mn (show i < 16 by omega)) (show j < xF κ by omega) (show xF κ < 2 ^ 31 by omega) dX0_makeMeans_33 (fun H locs hP hS => ?_)
      have hP := px_mn (show i < 16 by omega) hP
      refine lv_iinc (v := nI (j + 1)) (lv' := [(2, .int (nI (j + 1))), (1, .int (nI (i))), (0, .ref (ad 0))]) hx hb dX0_makeMeans_34 hl (k := 0) rfl (nI_1 _) (by decide) rfl (fun ls hl => ?_)
      refine lv_goto (tgt := 17) hx hb dX0_makeMeans_37 (by decide) ?_
      exact ih (j + 1) _ _ _ (by omega) (by omega) hP hS (lv_sub hl [0, 1, 2] rfl)
set_option maxHeartbeats 4000000 in
set_option maxRecDepth 100000 in
theorem lp_X0_makeMeans2 {p : Program} {l : Launch} {e : Env} {R : Room} {s : State} {m : MethodId} {args : Array Value} {below : List Frame} {meth : Method} {c : Code} {Q : State → Prop} {E : zE} {ad : Nat → Nat} (hx : p.tables.exec = Jvm.exec) (hb : c.code = cX0_makeMeans) (hml : c.maxLocals = 4) (hts : ∀ w ∈ wsX0_makeMeans, w.before args s = true) (hown : s.vm.findClass RX0 = some m.cls) (hK : zK E s) (hap : apart 96 ad) {H0 : Heap} (hRf : 1 ≤ R.frames) (hRl : 24 ≤ R.locals) (κ : SX) (hF : xF κ ≤ 16) (hN : xN κ ≤ 40) (hec : ∀ e, xEc κ e < 16)
    (exit : ∀ (H : Heap) (locs : List Loc) (ls : Array Slot), PX E ad (sxMn (sxMb κ (zline (xMb κ) 16)) (zrows (xMn κ) (xF κ) (fun _ => FP.dconst0) 16)) H → va_S (aX 96 ad) H0 H locs → lv_has ls 4 [(0, .ref (ad 0))] → W p l e R s m args below meth c H locs 0 0 Q (F0 m 46 ls [])) :
    ∀ (n i : Nat) (H : Heap) (locs : List Loc) (ls : Array Slot), i ≤ 16 → 16 - i < n → PX E ad (sxMn (sxMb κ (zline (xMb κ) i)) (zrows (xMn κ) (xF κ) (fun _ => FP.dconst0) i)) H → va_S (aX 96 ad) H0 H locs → lv_has ls 4 [(1, .int (nI (i))), (0, .ref (ad 0))] → W p l e R s m args below meth c H locs 0 0 Q (F0 m 2 ls []) := by
  have hA : ∀ k, k < 96 → aX 96 ad (ad k) := fun k hk => ⟨k, hk, rfl⟩
  intro n
  induction n with
  | zero => intro i H locs ls h1 h2; omega
  | succ n ih =>
    intro i H locs ls hi hn hP hS hl
    refine lv_iload_n hx hb dX0_makeMeans_2 rfl (lv_at hl 0 rfl) ?_
    refine lv_bipush (v := nI 16) hx hb dX0_makeMeans_3 (by decide +kernel) ?_
    refine zb_ge (tgt := 46) hx hb (show i < 2 ^ 31 by omega) (show 16 < 2 ^ 31 by omega) dX0_makeMeans_5 (by decide) (fun h => ?_) (fun h => ?_)
    · have h : 16 ≤ i := h
      have hend : i = 16 := by omega
      subst hend
      exact exit _ _ _ hP hS (lv_sub hl [1] rfl)
    · have h : i < 16 := h
      refine lv_aload_n hx hb dX0_makeMeans_8 rfl (lv_at hl 1 rfl) ?_
      refine gx hx hb hts innX0_makeMeans hown hK hP 7 (by decide) (by decide +kernel) rfl (v := .ref (ad 44)) rfl dX0_makeMeans_9 ?_
      refine lv_iload_n hx hb dX0_makeMeans_12 rfl (lv_at hl 0 rfl) ?_
      refine lv_iconst (v := nI 0) hx hb dX0_makeMeans_13 (by decide +kernel) ?_
      refine z_iast hx hb hK hP hap hA hS 44 (by decide) cx_mb (show i < 16 by omega) (by decide) dX0_makeMeans_14 (fun H locs hP hS => ?_)
      have hP := px_mb hP
      refine lv_iconst (v := nI 0) hx hb dX0_makeMeans_15 (by decide +kernel) ?_
      refine lv_istore_n (lv' := [(2, .int (nI (0))), (1, .int (nI (i))), (0, .ref (ad 0))]) hx hb dX0_makeMeans_16 rfl hl (by decide) rfl (fun ls hl => ?_)
      refine lp_X0_makeMeans1 hx hb hml hts hown hK hap hRf hRl κ hF hN hec i h (fun H locs ls hP hS hl => ?_) (xF κ + 1) 0 _ _ _ (by omega) (by omega) hP hS (lv_sub hl [0, 1, 2] rfl)
      refine lv_iinc (v := nI (i + 1)) (lv' := [(1, .int (nI (i + 1))), (0, .ref (ad 0))]) hx hb dX0_makeMeans_40 hl (k := 0) rfl (nI_1 _) (by decide) rfl (fun ls hl => ?_)
      refine lv_goto (tgt := 2) hx hb dX0_makeMeans_43 (by decide) ?_
      exact ih (i + 1) _ _ _ (by omega) (by omega) hP hS (lv_sub hl [0, 1] rfl)
set_option maxHeartbeats 4000000 in
set_option maxRecDepth 100000 in
theorem lp_X0_makeMeans3 {p : Program} {l : Launch} {e : Env} {R : Room} {s : State} {m : MethodId} {args : Array Value} {below : List Frame} {meth : Method} {c : Code} {Q : State → Prop} {E : zE} {ad : Nat → Nat} (hx : p.tables.exec = Jvm.exec) (hb : c.code = cX0_makeMeans) (hml : c.maxLocals = 4) (hts : ∀ w ∈ wsX0_makeMeans, w.before args s = true) (hown : s.vm.findClass RX0 = some m.cls) (hK : zK E s) (hap : apart 96 ad) {H0 : Heap} (hRf : 1 ≤ R.frames) (hRl : 24 ≤ R.locals) (κ : SX) (hF : xF κ ≤ 16) (hN : xN κ ≤ 40) (hec : ∀ e, xEc κ e < 16) (i : Nat) (hi40 : i < 40) (hnn : ∀ f, f < xF κ → vf_n64 (FP.dadd (adR (adE (xF κ) (xEc κ) (xEv κ) (zrows (xMn κ) (xF κ) (fun _ => FP.dconst0) 16) i) (xEc κ i) (xEv κ i) f (xEc κ i) f) (FP.i2d (nI (xEv κ i f)))))
    (exit : ∀ (H : Heap) (locs : List Loc) (ls : Array Slot), PX E ad (sxMn (sxMb κ (cnE (xEc κ) (zline (xMb κ) 16) (i + 1))) (adR (adE (xF κ) (xEc κ) (xEv κ) (zrows (xMn κ) (xF κ) (fun _ => FP.dconst0) 16) i) (xEc κ i) (xEv κ i) (xF κ))) H → va_S (aX 96 ad) H0 H locs → lv_has ls 4 [(1, .int (nI (i))), (0, .ref (ad 0))] → W p l e R s m args below meth c H locs 0 0 Q (F0 m 109 ls [])) :
    ∀ (n j : Nat) (H : Heap) (locs : List Loc) (ls : Array Slot), j ≤ xF κ → xF κ - j < n → PX E ad (sxMn (sxMb κ (cnE (xEc κ) (zline (xMb κ) 16) (i + 1))) (adR (adE (xF κ) (xEc κ) (xEv κ) (zrows (xMn κ) (xF κ) (fun _ => FP.dconst0) 16) i) (xEc κ i) (xEv κ i) j)) H → va_S (aX 96 ad) H0 H locs → lv_has ls 4 [(3, .int (nI (j))), (2, .int (nI (xEc κ i))), (1, .int (nI (i))), (0, .ref (ad 0))] → W p l e R s m args below meth c H locs 0 0 Q (F0 m 75 ls []) := by
  have hA : ∀ k, k < 96 → aX 96 ad (ad k) := fun k hk => ⟨k, hk, rfl⟩
  intro n
  induction n with
  | zero => intro j H locs ls h1 h2; omega
  | succ n ih =>
    intro j H locs ls hi hn hP hS hl
    have hci := hec i
    refine lv_iload_n hx hb dX0_makeMeans_75 rfl (lv_at hl 0 rfl) ?_
    refine lv_aload_n hx hb dX0_makeMeans_76 rfl (lv_at hl 3 rfl) ?_
    refine gx hx hb hts innX0_makeMeans hown hK hP 0 (by decide) (by decide +kernel) rfl (v := .int (nI ((xF κ)))) rfl dX0_makeMeans_77 ?_
    refine zb_ge (tgt := 109) hx hb (show j < 2 ^ 31 by omega) (show (xF κ) < 2 ^ 31 by omega) dX0_makeMeans_80 (by decide) (fun h => ?_) (fun h => ?_)
    · have h : (xF κ) ≤ j := h
      have hend : j = xF κ := by omega
      subst hend
      exact exit _ _ _ hP hS (lv_sub hl [2, 3] rfl)
    · have h : j < (xF κ) := h
      refine lv_aload_n hx hb dX0_makeMeans_83 rfl (lv_at hl 3 rfl) ?_
      refine gx hx hb hts innX0_makeMeans hown hK hP 8 (by decide) (by decide +kernel) rfl (v := .ref (ad 45)) rfl dX0_makeMeans_84 ?_
      refine lv_iload_n hx hb dX0_makeMeans_87 rfl (lv_at hl 1 rfl) ?_
      refine z_aald 3 hx hb hK hP 45 (by decide) cx_mnO rfl rfl (show xEc κ i < 16 by omega) (by decide) (if_pos (show xEc κ i < 16 by omega)) dX0_makeMeans_88 ?_
      refine lv_iload_n hx hb dX0_makeMeans_89 rfl (lv_at hl 0 rfl) ?_
      refine lv_dup2_11 hx hb dX0_makeMeans_90 rfl rfl ?_
      refine z_dald hx hb hK hP (46 + (xEc κ i)) (show 46 + (xEc κ i) < 96 by omega) (cx_mn (show (xEc κ i) < 16 by omega)) (show j < xF κ by omega) (show xF κ < 2 ^ 31 by omega) dX0_makeMeans_91 ?_
      refine lv_aload_n hx hb dX0_makeMeans_92 rfl (lv_at hl 3 rfl) ?_
      refine gx hx hb hts innX0_makeMeans hown hK hP 2 (by decide) (by decide +kernel) rfl (v := .ref (ad 2)) rfl dX0_makeMeans_93 ?_
      refine lv_iload_n hx hb dX0_makeMeans_96 rfl (lv_at hl 2 rfl) ?_
      refine z_aald 1 hx hb hK hP 2 (by decide) cx_evO rfl rfl (show i < 40 by omega) (by decide) (if_pos (show i < 40 by omega)) dX0_makeMeans_97 ?_
      refine lv_iload_n hx hb dX0_makeMeans_98 rfl (lv_at hl 0 rfl) ?_
      refine z_iald hx hb hK hP (3 + i) (show 3 + i < 96 by omega) (cx_ev (show i < 40 by omega)) (show j < xF κ by omega) (show xF κ < 2 ^ 31 by omega) dX0_makeMeans_99 ?_
      refine lv_i2d hx hb dX0_makeMeans_100 ?_
      refine lv_dadd hx hb dX0_makeMeans_101 (hnn j h) ?_
      refine z_dast hx hb hK hP hap hA hS (46 + (xEc κ i)) (show 46 + (xEc κ i) < 96 by omega) (cx_mn (show (xEc κ i) < 16 by omega)) (show j < xF κ by omega) (show xF κ < 2 ^ 31 by omega) dX0_makeMeans_102 (fun H locs hP hS => ?_)
      have hP := px_mn (show (xEc κ i) < 16 by omega) hP
      refine lv_iinc (v := nI (j + 1)) (lv' := [(3, .int (nI (j + 1))), (2, .int (nI (xEc κ i))), (1, .int (nI (i))), (0, .ref (ad 0))]) hx hb dX0_makeMeans_103 hl (k := 0) rfl (nI_1 _) (by decide) rfl (fun ls hl => ?_)
      refine lv_goto (tgt := 75) hx hb dX0_makeMeans_106 (by decide) ?_
      exact ih (j + 1) _ _ _ (by omega) (by omega) hP hS (lv_sub hl [0, 1, 2, 3] rfl)
set_option maxHeartbeats 4000000 in
set_option maxRecDepth 100000 in
theorem lp_X0_makeMeans4 {p : Program} {l : Launch} {e : Env} {R : Room} {s : State} {m : MethodId} {args : Array Value} {below : List Frame} {meth : Method} {c : Code} {Q : State → Prop} {E : zE} {ad : Nat → Nat} (hx : p.tables.exec = Jvm.exec) (hb : c.code = cX0_makeMeans) (hml : c.maxLocals = 4) (hts : ∀ w ∈ wsX0_makeMeans, w.before args s = true) (hown : s.vm.findClass RX0 = some m.cls) (hK : zK E s) (hap : apart 96 ad) {H0 : Heap} (hRf : 1 ≤ R.frames) (hRl : 24 ≤ R.locals) (κ : SX) (hF : xF κ ≤ 16) (hN : xN κ ≤ 40) (hec : ∀ e, xEc κ e < 16) (hnn : ∀ i, i < xN κ → ∀ f, f < xF κ → vf_n64 (FP.dadd (adR (adE (xF κ) (xEc κ) (xEv κ) (zrows (xMn κ) (xF κ) (fun _ => FP.dconst0) 16) i) (xEc κ i) (xEv κ i) f (xEc κ i) f) (FP.i2d (nI (xEv κ i f)))))
    (exit : ∀ (H : Heap) (locs : List Loc) (ls : Array Slot), PX E ad (sxMn (sxMb κ (mmB κ)) (mmS κ)) H → va_S (aX 96 ad) H0 H locs → lv_has ls 4 [(0, .ref (ad 0))] → W p l e R s m args below meth c H locs 0 0 Q (F0 m 115 ls [])) :
    ∀ (n i : Nat) (H : Heap) (locs : List Loc) (ls : Array Slot), i ≤ xN κ → xN κ - i < n → PX E ad (sxMn (sxMb κ (cnE (xEc κ) (zline (xMb κ) 16) i)) (adE (xF κ) (xEc κ) (xEv κ) (zrows (xMn κ) (xF κ) (fun _ => FP.dconst0) 16) i)) H → va_S (aX 96 ad) H0 H locs → lv_has ls 4 [(1, .int (nI (i))), (0, .ref (ad 0))] → W p l e R s m args below meth c H locs 0 0 Q (F0 m 48 ls []) := by
  have hA : ∀ k, k < 96 → aX 96 ad (ad k) := fun k hk => ⟨k, hk, rfl⟩
  intro n
  induction n with
  | zero => intro i H locs ls h1 h2; omega
  | succ n ih =>
    intro i H locs ls hi hn hP hS hl
    refine lv_iload_n hx hb dX0_makeMeans_48 rfl (lv_at hl 0 rfl) ?_
    refine lv_aload_n hx hb dX0_makeMeans_49 rfl (lv_at hl 1 rfl) ?_
    refine gx hx hb hts innX0_makeMeans hown hK hP 3 (by decide) (by decide +kernel) rfl (v := .int (nI ((xN κ)))) rfl dX0_makeMeans_50 ?_
    refine zb_ge (tgt := 115) hx hb (show i < 2 ^ 31 by omega) (show (xN κ) < 2 ^ 31 by omega) dX0_makeMeans_53 (by decide) (fun h => ?_) (fun h => ?_)
    · have h : (xN κ) ≤ i := h
      have hend : i = xN κ := by omega
      subst hend
      exact exit _ _ _ hP hS (lv_sub hl [1] rfl)
    · have h : i < (xN κ) := h
      have hci := hec i
      refine lv_aload_n hx hb dX0_makeMeans_56 rfl (lv_at hl 1 rfl) ?_
      refine gx hx hb hts innX0_makeMeans hown hK hP 1 (by decide) (by decide +kernel) rfl (v := .ref (ad 1)) rfl dX0_makeMeans_57 ?_
      refine lv_iload_n hx hb dX0_makeMeans_60 rfl (lv_at hl 0 rfl) ?_
      refine z_iald hx hb hK hP 1 (by decide) cx_ec (show i < 40 by omega) (by decide) dX0_makeMeans_61 ?_
      refine lv_istore_n (lv' := [(2, .int (nI ((xEc κ) (i)))), (1, .int (nI (i))), (0, .ref (ad 0))]) hx hb dX0_makeMeans_62 rfl hl (by decide) rfl (fun ls hl => ?_)
      refine lv_aload_n hx hb dX0_makeMeans_63 rfl (lv_at hl 2 rfl) ?_
      refine gx hx hb hts innX0_makeMeans hown hK hP 7 (by decide) (by decide +kernel) rfl (v := .ref (ad 44)) rfl dX0_makeMeans_64 ?_
      refine lv_iload_n hx hb dX0_makeMeans_67 rfl (lv_at hl 0 rfl) ?_
      refine lv_dup2_11 hx hb dX0_makeMeans_68 rfl rfl ?_
      refine z_iald hx hb hK hP 44 (by decide) cx_mb (show (xEc κ) (i) < 16 by omega) (by decide) dX0_makeMeans_69 ?_
      refine lv_iconst (v := nI 1) hx hb dX0_makeMeans_70 (by decide +kernel) ?_
      refine zv_iadd (v := (nI (((cnE (xEc κ) (zline (xMb κ) 16) i) ((xEc κ) (i))) + 1))) hx hb dX0_makeMeans_71 (nI_add _ _) ?_
      refine z_iast hx hb hK hP hap hA hS 44 (by decide) cx_mb (show (xEc κ) (i) < 16 by omega) (by decide) dX0_makeMeans_72 (fun H locs hP hS => ?_)
      have hP := px_mb hP
      refine lv_iconst (v := nI 0) hx hb dX0_makeMeans_73 (by decide +kernel) ?_
      refine lv_istore_n (lv' := [(3, .int (nI (0))), (2, .int (nI ((xEc κ) (i)))), (1, .int (nI (i))), (0, .ref (ad 0))]) hx hb dX0_makeMeans_74 rfl hl (by decide) rfl (fun ls hl => ?_)
      refine lp_X0_makeMeans3 hx hb hml hts hown hK hap hRf hRl κ hF hN hec i (by omega) (hnn i h) (fun H locs ls hP hS hl => ?_) (xF κ + 1) 0 _ _ _ (by omega) (by omega) hP hS (lv_sub hl [0, 1, 2, 3] rfl)
      refine lv_iinc (v := nI (i + 1)) (lv' := [(1, .int (nI (i + 1))), (0, .ref (ad 0))]) hx hb dX0_makeMeans_109 hl (k := 0) rfl (nI_1 _) (by decide) rfl (fun ls hl => ?_)
      refine lv_goto (tgt := 48) hx hb dX0_makeMeans_112 (by decide) ?_
      exact ih (i + 1) _ _ _ (by omega) (by omega) hP hS (lv_sub hl [0, 1] rfl)
set_option maxHeartbeats 4000000 in
set_option maxRecDepth 100000 in
theorem lp_X0_makeMeans5 {p : Program} {l : Launch} {e : Env} {R : Room} {s : State} {m : MethodId} {args : Array Value} {below : List Frame} {meth : Method} {c : Code} {Q : State → Prop} {E : zE} {ad : Nat → Nat} (hx : p.tables.exec = Jvm.exec) (hb : c.code = cX0_makeMeans) (hml : c.maxLocals = 4) (hts : ∀ w ∈ wsX0_makeMeans, w.before args s = true) (hown : s.vm.findClass RX0 = some m.cls) (hK : zK E s) (hap : apart 96 ad) {H0 : Heap} (hRf : 1 ≤ R.frames) (hRl : 24 ≤ R.locals) (κ : SX) (hF : xF κ ≤ 16) (hN : xN κ ≤ 40) (hec : ∀ e, xEc κ e < 16) (hmb : ∀ c, c < 16 → mmB κ c < 2 ^ 31) (hdd : ∀ c, c < 16 → 0 < mmB κ c → ∀ f, f < xF κ → vf_n64 (FP.ddiv (dvR (dvE (xF κ) (mmB κ) (mmS κ) c) c (FP.i2d (nI (mmB κ c))) f c f) (FP.i2d (nI (mmB κ c)))))
    (exit : ∀ (H : Heap) (locs : List Loc) (ls : Array Slot), PX E ad (sxMn (sxMb κ (mmB κ)) (dvE (xF κ) (mmB κ) (mmS κ) 16)) H → va_S (aX 96 ad) H0 H locs → lv_has ls 4 [(0, .ref (ad 0))] → W p l e R s m args below meth c H locs 0 0 Q (F0 m 143 ls [])) :
    ∀ (n i : Nat) (H : Heap) (locs : List Loc) (ls : Array Slot), i ≤ 16 → 16 - i < n → PX E ad (sxMn (sxMb κ (mmB κ)) (dvE (xF κ) (mmB κ) (mmS κ) i)) H → va_S (aX 96 ad) H0 H locs → lv_has ls 4 [(1, .int (nI (i))), (0, .ref (ad 0))] → W p l e R s m args below meth c H locs 0 0 Q (F0 m 117 ls []) := by
  have hA : ∀ k, k < 96 → aX 96 ad (ad k) := fun k hk => ⟨k, hk, rfl⟩
  intro n
  induction n with
  | zero => intro i H locs ls h1 h2; omega
  | succ n ih =>
    intro i H locs ls hi hn hP hS hl
    refine lv_iload_n hx hb dX0_makeMeans_117 rfl (lv_at hl 0 rfl) ?_
    refine lv_bipush (v := nI 16) hx hb dX0_makeMeans_118 (by decide +kernel) ?_
    refine zb_ge (tgt := 143) hx hb (show i < 2 ^ 31 by omega) (show 16 < 2 ^ 31 by omega) dX0_makeMeans_120 (by decide) (fun h => ?_) (fun h => ?_)
    · have h : 16 ≤ i := h
      have hend : i = 16 := by omega
      subst hend
      exact exit _ _ _ hP hS (lv_sub hl [1] rfl)
    · have h : i < 16 := h
      have hci := hmb i h
      refine lv_aload_n hx hb dX0_makeMeans_123 rfl (lv_at hl 1 rfl) ?_
      refine gx hx hb hts innX0_makeMeans hown hK hP 7 (by decide) (by decide +kernel) rfl (v := .ref (ad 44)) rfl dX0_makeMeans_124 ?_
      refine lv_iload_n hx hb dX0_makeMeans_127 rfl (lv_at hl 0 rfl) ?_
      refine z_iald hx hb hK hP 44 (by decide) cx_mb (show i < 16 by omega) (by decide) dX0_makeMeans_128 ?_
      refine zu_le (tgt := 137) hx hb (show (mmB κ) (i) < 2 ^ 31 by omega) dX0_makeMeans_129 (by decide) (fun h1 => ?_) (fun h1 => ?_)
      · have h1 : ((mmB κ) (i)) = 0 := h1
        have e8 : dvE (xF κ) (mmB κ) (mmS κ) (i + 1) = dvE (xF κ) (mmB κ) (mmS κ) i := if_neg (by omega)
        refine lv_iinc (v := nI (i + 1)) (lv' := [(1, .int (nI (i + 1))), (0, .ref (ad 0))]) hx hb dX0_makeMeans_137 hl (k := 0) rfl (nI_1 _) (by decide) rfl (fun ls hl => ?_)
        refine lv_goto (tgt := 117) hx hb dX0_makeMeans_140 (by decide) ?_
        exact ih (i + 1) _ _ _ (by omega) (by omega) (by rw [e8]; exact hP) hS (lv_sub hl [0, 1] rfl)
      · have h1 : 0 < ((mmB κ) (i)) := h1
        refine lv_aload_n hx hb dX0_makeMeans_132 rfl (lv_at hl 1 rfl) ?_
        refine lv_iload_n hx hb dX0_makeMeans_133 rfl (lv_at hl 0 rfl) ?_
        have e8 : dvE (xF κ) (mmB κ) (mmS κ) (i + 1) = dvR (dvE (xF κ) (mmB κ) (mmS κ) i) i (FP.i2d (nI (mmB κ i))) (xF κ) := if_pos h1
        refine va_callv (va_runV (As := [.int (nI (i))]) (rest := []) ⟨hx, hb, hml, hown, hts⟩ (kX0_divideMeans l E ad hap (sxMn (sxMb κ (mmB κ)) (dvE (xF κ) (mmB κ) (mmS κ) i)) i hF h (hdd i h h1)) (cwV 1 hts gX0_makeMeans_X0_divideMeans rfl rfl rfl (by decide +kernel) ⟨Nat.le_trans (Nat.le_of_ble_eq_true rfl) hRf, Nat.le_trans (Nat.le_of_ble_eq_true rfl) hRl⟩) (zpx hK hP) rfl rfl hl.1 rfl (lv_room (Nat.le_of_ble_eq_true rfl)) dX0_makeMeans_134 ⟨Nat.zero_le _, Nat.zero_le _⟩) hS (fun q _ h => h) (fun q h => h) (fun u9 t9 H locs ht9 hvm9 hw9 hB9 hz9 hk9 hS => ?_)
        rw [ht9] at hB9
        have hP := hB9
        subst hw9
        refine lv_iinc (v := nI (i + 1)) (lv' := [(1, .int (nI (i + 1))), (0, .ref (ad 0))]) hx hb dX0_makeMeans_137 hl (k := 0) rfl (nI_1 _) (by decide) rfl (fun ls hl => ?_)
        refine lv_goto (tgt := 117) hx hb dX0_makeMeans_140 (by decide) ?_
        exact ih (i + 1) _ _ _ (by omega) (by omega) (by rw [e8]; exact hP) hS (lv_sub hl [0, 1] rfl)
theorem mmB_ct (κ : SX) {c : Nat} (h : c < 16) : mmB κ c = ctE (xEc κ) c (xN κ) := cnE_ct (zline_in h) _
theorem mmB_le (κ : SX) {c : Nat} (h : c < 16) : mmB κ c ≤ xN κ := by rw [mmB_ct κ h]; exact ctE_le _ _ _
theorem mmS_sm (κ : SX) (hN : xN κ ≤ 40) (hev : ∀ e f, xEv κ e f < 256) {c f : Nat} (hc : c < 16) (hf : f < xF κ) : mmS κ c f = FP.i2d (nI (smE (xEc κ) (xEv κ) c f (xN κ))) := adE_sm hev hf (by rw [zrows_in hc hf]; exact i2d_0.symm) _ hN
theorem mm_nn (κ : SX) (hN : xN κ ≤ 40) (hec : ∀ e, xEc κ e < 16) (hev : ∀ e f, xEv κ e f < 256) : ∀ i, i < xN κ → ∀ f, f < xF κ → vf_n64 (FP.dadd (adR (adE (xF κ) (xEc κ) (xEv κ) (zrows (xMn κ) (xF κ) (fun _ => FP.dconst0) 16) i) (xEc κ i) (xEv κ i) f (xEc κ i) f) (FP.i2d (nI (xEv κ i f)))) := by
  intro i hi f hf
  rw [adR_rest (Or.inr (Nat.le_refl f)), adE_sm (n := xF κ) hev hf (by rw [zrows_in (hec i) hf]; exact i2d_0.symm) i (by omega)]
  have b1 := smE_le (ec := xEc κ) hev (xEc κ i) f i
  have b2 := hev i f
  rw [i2d_add (by omega)]
  exact mg_n64 (mg_i2d _) (by decide)
theorem mm_dd (κ : SX) (hN : xN κ ≤ 40) (hev : ∀ e f, xEv κ e f < 256) : ∀ c, c < 16 → 0 < mmB κ c → ∀ f, f < xF κ → vf_n64 (FP.ddiv (dvR (dvE (xF κ) (mmB κ) (mmS κ) c) c (FP.i2d (nI (mmB κ c))) f c f) (FP.i2d (nI (mmB κ c)))) := by
  intro c hc h0 f hf
  have h1 := mmB_le κ hc
  rw [dvR_rest (Or.inr (Nat.le_refl f)), dvE_rest (Nat.le_refl c), mmS_sm κ hN hev hc hf]
  refine mg_n64 (mg_ddiv _ ?_) (by decide)
  exact nI_ne0 h0 (by omega)
set_option maxHeartbeats 4000000 in
set_option maxRecDepth 100000 in
theorem kX0_makeMeans (l : Launch) (E : zE) (ad : Nat → Nat) (hap : apart 96 ad) (κ : SX) (hF : xF κ ≤ 16) (hN : xN κ ≤ 40) (hec : ∀ e, xEc κ e < 16) (hev : ∀ e f, xEv κ e f < 256) : Met l yX0_makeMeans wsX0_makeMeans ({ frames := 1, cells := 0, slots := 0, locals := 24 }) (va_Pc [.ref (ad 0)] (fun U => PX E ad κ U.heap ∧ zK E U)) (va_Qv (fun κ' : SX => κ' = mmX κ) (fun κ' t => PX E ad κ' t.heap) (aX 96 ad)) 0 0 (aX 96 ad) := by
  refine Met.ofW (cc := cX0_makeMeans) (maxL := 4) (ret := none) (by decide) rfl ?_
  intro p e s m args below meth c s₁ B hml hv
  obtain ⟨rfl, hP, hK⟩ := hv
  have hx := B.exec
  have hb := B.bytes
  have hr := B.returns
  have hts := atoms_spec (ws := wsX0_makeMeans) B.pre
  have hown : s.vm.findClass RX0 = some m.cls := findClass_of_methodNamed B.named
  have hlocks := B.notSynchronized
  have hS : va_S (aX 96 ad) s.heap s.heap [] := va_S.rf
  have hA : ∀ k, k < 96 → aX 96 ad (ad k) := fun k hk => ⟨k, hk, rfl⟩
  have hRf : 1 ≤ ((headSpec wsX0_makeMeans ({ frames := 1, cells := 0, slots := 0, locals := 24 })).room).frames := Nat.le_of_ble_eq_true rfl
  have hRl : 24 ≤ ((headSpec wsX0_makeMeans ({ frames := 1, cells := 0, slots := 0, locals := 24 })).room).locals := Nat.le_of_ble_eq_true rfl
  have hl := lv_entry ([.ref (ad 0)]) (n := 4) (Nat.le_of_ble_eq_true rfl)
  rw [lg_entry_eq]
  generalize (lg_sl ([.ref (ad 0)]) ++ List.replicate (4 - (lg_sl ([.ref (ad 0)])).length) Slot.unset).toArray = ls at hl ⊢
  have hl : lv_has ls 4 [(0, .ref (ad 0))] := hl
  refine lv_iconst (v := nI 0) hx hb dX0_makeMeans_0 (by decide +kernel) ?_
  refine lv_istore_n (lv' := [(1, .int (nI (0))), (0, .ref (ad 0))]) hx hb dX0_makeMeans_1 rfl hl (by decide) rfl (fun ls hl => ?_)
  refine lp_X0_makeMeans2 hx hb hml hts hown hK hap hRf hRl κ hF hN hec (fun H locs ls hP hS hl => ?_) (16 + 1) 0 _ _ _ (by omega) (by omega) hP hS (lv_sub hl [0, 1] rfl)
  refine lv_iconst (v := nI 0) hx hb dX0_makeMeans_46 (by decide +kernel) ?_
  refine lv_istore_n (lv' := [(1, .int (nI (0))), (0, .ref (ad 0))]) hx hb dX0_makeMeans_47 rfl hl (by decide) rfl (fun ls hl => ?_)
  refine lp_X0_makeMeans4 hx hb hml hts hown hK hap hRf hRl κ hF hN hec (mm_nn κ hN hec hev) (fun H locs ls hP hS hl => ?_) (xN κ + 1) 0 _ _ _ (by omega) (by omega) hP hS (lv_sub hl [0, 1] rfl)
  refine lv_iconst (v := nI 0) hx hb dX0_makeMeans_115 (by decide +kernel) ?_
  refine lv_istore_n (lv' := [(1, .int (nI (0))), (0, .ref (ad 0))]) hx hb dX0_makeMeans_116 rfl hl (by decide) rfl (fun ls hl => ?_)
  refine lp_X0_makeMeans5 hx hb hml hts hown hK hap hRf hRl κ hF hN hec (fun c hc => by have := mmB_le κ hc; omega) (mm_dd κ hN hev) (fun H locs ls hP hS hl => ?_) (16 + 1) 0 _ _ _ (by omega) (by omega) hP hS (lv_sub hl [0, 1] rfl)
  exact W.vret hx hb hr (fun t ht hW => ⟨⟨_, rfl, rfl, (wn_h ht hP)⟩, hS.F ht⟩) hS.2.2 dX0_makeMeans_143
set_option maxHeartbeats 4000000 in
set_option maxRecDepth 100000 in
theorem lp_X0_makeFirstWeights1 {p : Program} {l : Launch} {e : Env} {R : Room} {s : State} {m : MethodId} {args : Array Value} {below : List Frame} {meth : Method} {c : Code} {Q : State → Prop} {E : zE} {ad : Nat → Nat} (hx : p.tables.exec = Jvm.exec) (hb : c.code = cX0_makeFirstWeights) (hml : c.maxLocals = 5) (hts : ∀ w ∈ wsX0_makeFirstWeights, w.before args s = true) (hown : s.vm.findClass RX0 = some m.cls) (hK : zK E s) (hap : apart 96 ad) {H0 : Heap} (hRf : 0 ≤ R.frames) (hRl : 0 ≤ R.locals) (κ : SX) (hF : xF κ ≤ 16) (hmb : ∀ c, c < 16 → xMb κ c < 2 ^ 31) (i : Nat) (hi16 : i < 16) (z9 : UInt64)
    (exit : ∀ (H : Heap) (locs : List Loc) (ls : Array Slot), PX E ad (sxWt κ (zrow (zrows (xWt κ) (xF κ) (fun c => if 0 < xMb κ c then FP.dconst1 else FP.dconst0) i) i z9 (xF κ))) H → va_S (aX 96 ad) H0 H locs → lv_has ls 5 [(1, .int (nI (i))), (0, .ref (ad 0))] → W p l e R s m args below meth c H locs 0 0 Q (F0 m 51 ls [])) :
    ∀ (n j : Nat) (H : Heap) (locs : List Loc) (ls : Array Slot), j ≤ xF κ → xF κ - j < n → PX E ad (sxWt κ (zrow (zrows (xWt κ) (xF κ) (fun c => if 0 < xMb κ c then FP.dconst1 else FP.dconst0) i) i z9 j)) H → va_S (aX 96 ad) H0 H locs → lv_has ls 5 [(4, .int (nI (j))), (2, .double (z9)), (1, .int (nI (i))), (0, .ref (ad 0))] → W p l e R s m args below meth c H locs 0 0 Q (F0 m 26 ls []) := by
  have hA : ∀ k, k < 96 → aX 96 ad (ad k) := fun k hk => ⟨k, hk, rfl⟩
  intro n
  induction n with
  | zero => intro j H locs ls h1 h2; omega
  | succ n ih =>
    intro j H locs ls hi hn hP hS hl
    refine lv_iload hx hb dX0_makeFirstWeights_26 (lv_at hl 0 rfl) ?_
    refine lv_aload_n hx hb dX0_makeFirstWeights_28 rfl (lv_at hl 3 rfl) ?_
    refine gx hx hb hts innX0_makeFirstWeights hown hK hP 0 (by decide) (by decide +kernel) rfl (v := .int (nI ((xF κ)))) rfl dX0_makeFirstWeights_29 ?_
    refine zb_ge (tgt := 51) hx hb (show j < 2 ^ 31 by omega) (show (xF κ) < 2 ^ 31 by omega) dX0_makeFirstWeights_32 (by decide) (fun h => ?_) (fun h => ?_)
    · have h : (xF κ) ≤ j := h
      have hend : j = xF κ := by omega
      subst hend
      exact exit _ _ _ hP hS (lv_sub hl [2, 3] rfl)
    · have h : j < (xF κ) := h
      refine lv_aload_n hx hb dX0_makeFirstWeights_35 rfl (lv_at hl 3 rfl) ?_
      refine gx hx hb hts innX0_makeFirstWeights hown hK hP 9 (by decide) (by decide +kernel) rfl (v := .ref (ad 62)) rfl dX0_makeFirstWeights_36 ?_
      refine lv_iload_n hx hb dX0_makeFirstWeights_39 rfl (lv_at hl 2 rfl) ?_
      refine z_aald 3 hx hb hK hP 62 (by decide) cx_wtO rfl rfl (show i < 16 by omega) (by decide) (if_pos (show i < 16 by omega)) dX0_makeFirstWeights_40 ?_
      refine lv_iload hx hb dX0_makeFirstWeights_41 (lv_at hl 0 rfl) ?_
      refine lv_dload_n hx hb dX0_makeFirstWeights_43 rfl (lv_at hl 1 rfl) ?_
      refine z_dast hx hb hK hP hap hA hS (63 + i) (show 63 + i < 96 by omega) (cx_wt (show i < 16 by omega)) (show j < xF κ by omega) (show xF κ < 2 ^ 31 by omega) dX0_makeFirstWeights_44 (fun H locs hP hS => ?_)
      have hP := px_wt (show i < 16 by omega) hP
      refine lv_iinc (v := nI (j + 1)) (lv' := [(4, .int (nI (j + 1))), (2, .double (z9)), (1, .int (nI (i))), (0, .ref (ad 0))]) hx hb dX0_makeFirstWeights_45 hl (k := 0) rfl (nI_1 _) (by decide) rfl (fun ls hl => ?_)
      refine lv_goto (tgt := 26) hx hb dX0_makeFirstWeights_48 (by decide) ?_
      exact ih (j + 1) _ _ _ (by omega) (by omega) hP hS (lv_sub hl [0, 1, 2, 3] rfl)
set_option maxHeartbeats 4000000 in
set_option maxRecDepth 100000 in
theorem lp_X0_makeFirstWeights2 {p : Program} {l : Launch} {e : Env} {R : Room} {s : State} {m : MethodId} {args : Array Value} {below : List Frame} {meth : Method} {c : Code} {Q : State → Prop} {E : zE} {ad : Nat → Nat} (hx : p.tables.exec = Jvm.exec) (hb : c.code = cX0_makeFirstWeights) (hml : c.maxLocals = 5) (hts : ∀ w ∈ wsX0_makeFirstWeights, w.before args s = true) (hown : s.vm.findClass RX0 = some m.cls) (hK : zK E s) (hap : apart 96 ad) {H0 : Heap} (hRf : 0 ≤ R.frames) (hRl : 0 ≤ R.locals) (κ : SX) (hF : xF κ ≤ 16) (hmb : ∀ c, c < 16 → xMb κ c < 2 ^ 31)
    (exit : ∀ (H : Heap) (locs : List Loc) (ls : Array Slot), PX E ad (sxWt κ (zrows (xWt κ) (xF κ) (fun c => if 0 < xMb κ c then FP.dconst1 else FP.dconst0) 16)) H → va_S (aX 96 ad) H0 H locs → lv_has ls 5 [(0, .ref (ad 0))] → W p l e R s m args below meth c H locs 0 0 Q (F0 m 57 ls [])) :
    ∀ (n i : Nat) (H : Heap) (locs : List Loc) (ls : Array Slot), i ≤ 16 → 16 - i < n → PX E ad (sxWt κ (zrows (xWt κ) (xF κ) (fun c => if 0 < xMb κ c then FP.dconst1 else FP.dconst0) i)) H → va_S (aX 96 ad) H0 H locs → lv_has ls 5 [(1, .int (nI (i))), (0, .ref (ad 0))] → W p l e R s m args below meth c H locs 0 0 Q (F0 m 2 ls []) := by
  have hA : ∀ k, k < 96 → aX 96 ad (ad k) := fun k hk => ⟨k, hk, rfl⟩
  intro n
  induction n with
  | zero => intro i H locs ls h1 h2; omega
  | succ n ih =>
    intro i H locs ls hi hn hP hS hl
    refine lv_iload_n hx hb dX0_makeFirstWeights_2 rfl (lv_at hl 0 rfl) ?_
    refine lv_bipush (v := nI 16) hx hb dX0_makeFirstWeights_3 (by decide +kernel) ?_
    refine zb_ge (tgt := 57) hx hb (show i < 2 ^ 31 by omega) (show 16 < 2 ^ 31 by omega) dX0_makeFirstWeights_5 (by decide) (fun h => ?_) (fun h => ?_)
    · have h : 16 ≤ i := h
      have hend : i = 16 := by omega
      subst hend
      exact exit _ _ _ hP hS (lv_sub hl [1] rfl)
    · have h : i < 16 := h
      have hci := hmb i h
      refine lv_aload_n hx hb dX0_makeFirstWeights_8 rfl (lv_at hl 1 rfl) ?_
      refine gx hx hb hts innX0_makeFirstWeights hown hK hP 7 (by decide) (by decide +kernel) rfl (v := .ref (ad 44)) rfl dX0_makeFirstWeights_9 ?_
      refine lv_iload_n hx hb dX0_makeFirstWeights_12 rfl (lv_at hl 0 rfl) ?_
      refine z_iald hx hb hK hP 44 (by decide) cx_mb (show i < 16 by omega) (by decide) dX0_makeFirstWeights_13 ?_
      refine zu_le (tgt := 21) hx hb (show (xMb κ) (i) < 2 ^ 31 by omega) dX0_makeFirstWeights_14 (by decide) (fun h1 => ?_) (fun h1 => ?_)
      · have h1 : ((xMb κ) (i)) = 0 := h1
        refine lv_dconst0 hx hb dX0_makeFirstWeights_21 ?_
        refine lv_dstore_n (lv' := [(2, .double (FP.dconst0)), (1, .int (nI (i))), (0, .ref (ad 0))]) hx hb dX0_makeFirstWeights_22 rfl hl (by decide) rfl (fun ls hl => ?_)
        refine lv_iconst (v := nI 0) hx hb dX0_makeFirstWeights_23 (by decide +kernel) ?_
        refine lv_istore (lv' := [(4, .int (nI (0))), (2, .double (FP.dconst0)), (1, .int (nI (i))), (0, .ref (ad 0))]) hx hb dX0_makeFirstWeights_24 hl (by decide) rfl (fun ls hl => ?_)
        have e8 : zrows (xWt κ) (xF κ) (fun c => if 0 < xMb κ c then FP.dconst1 else FP.dconst0) (i + 1) = zrow (zrows (xWt κ) (xF κ) (fun c => if 0 < xMb κ c then FP.dconst1 else FP.dconst0) i) i FP.dconst0 (xF κ) := by
          show zrow _ i (if 0 < xMb κ i then FP.dconst1 else FP.dconst0) _ = _
          rw [if_neg (by omega)]
        refine lp_X0_makeFirstWeights1 hx hb hml hts hown hK hap hRf hRl κ hF hmb i h FP.dconst0 (fun H locs ls hP hS hl => ?_) (xF κ + 1) 0 _ _ _ (by omega) (by omega) hP hS (lv_sub hl [0, 1, 2, 3] rfl)
        refine lv_iinc (v := nI (i + 1)) (lv' := [(1, .int (nI (i + 1))), (0, .ref (ad 0))]) hx hb dX0_makeFirstWeights_51 hl (k := 0) rfl (nI_1 _) (by decide) rfl (fun ls hl => ?_)
        refine lv_goto (tgt := 2) hx hb dX0_makeFirstWeights_54 (by decide) ?_
        exact ih (i + 1) _ _ _ (by omega) (by omega) (by rw [e8]; exact hP) hS (lv_sub hl [0, 1] rfl)
      · have h1 : 0 < ((xMb κ) (i)) := h1
        refine lv_dconst1 hx hb dX0_makeFirstWeights_17 ?_
        refine lv_goto (tgt := 22) hx hb dX0_makeFirstWeights_18 (by decide) ?_
        refine lv_dstore_n (lv' := [(2, .double (FP.dconst1)), (1, .int (nI (i))), (0, .ref (ad 0))]) hx hb dX0_makeFirstWeights_22 rfl hl (by decide) rfl (fun ls hl => ?_)
        refine lv_iconst (v := nI 0) hx hb dX0_makeFirstWeights_23 (by decide +kernel) ?_
        refine lv_istore (lv' := [(4, .int (nI (0))), (2, .double (FP.dconst1)), (1, .int (nI (i))), (0, .ref (ad 0))]) hx hb dX0_makeFirstWeights_24 hl (by decide) rfl (fun ls hl => ?_)
        have e8 : zrows (xWt κ) (xF κ) (fun c => if 0 < xMb κ c then FP.dconst1 else FP.dconst0) (i + 1) = zrow (zrows (xWt κ) (xF κ) (fun c => if 0 < xMb κ c then FP.dconst1 else FP.dconst0) i) i FP.dconst1 (xF κ) := by
          show zrow _ i (if 0 < xMb κ i then FP.dconst1 else FP.dconst0) _ = _
          rw [if_pos h1]
        refine lp_X0_makeFirstWeights1 hx hb hml hts hown hK hap hRf hRl κ hF hmb i h FP.dconst1 (fun H locs ls hP hS hl => ?_) (xF κ + 1) 0 _ _ _ (by omega) (by omega) hP hS (lv_sub hl [0, 1, 2, 3] rfl)
        refine lv_iinc (v := nI (i + 1)) (lv' := [(1, .int (nI (i + 1))), (0, .ref (ad 0))]) hx hb dX0_makeFirstWeights_51 hl (k := 0) rfl (nI_1 _) (by decide) rfl (fun ls hl => ?_)
        refine lv_goto (tgt := 2) hx hb dX0_makeFirstWeights_54 (by decide) ?_
        exact ih (i + 1) _ _ _ (by omega) (by omega) (by rw [e8]; exact hP) hS (lv_sub hl [0, 1] rfl)
set_option maxHeartbeats 4000000 in
set_option maxRecDepth 100000 in
theorem kX0_makeFirstWeights (l : Launch) (E : zE) (ad : Nat → Nat) (hap : apart 96 ad) (κ : SX) (hF : xF κ ≤ 16) (hmb : ∀ c, c < 16 → xMb κ c < 2 ^ 31) : Met l yX0_makeFirstWeights wsX0_makeFirstWeights ({ frames := 0, cells := 0, slots := 0, locals := 0 }) (va_Pc [.ref (ad 0)] (fun U => PX E ad κ U.heap ∧ zK E U)) (va_Qv (fun κ' : SX => κ' = fwX κ) (fun κ' t => PX E ad κ' t.heap) (aX 96 ad)) 0 0 (aX 96 ad) := by
  refine Met.ofW (cc := cX0_makeFirstWeights) (maxL := 5) (ret := none) (by decide) rfl ?_
  intro p e s m args below meth c s₁ B hml hv
  obtain ⟨rfl, hP, hK⟩ := hv
  have hx := B.exec
  have hb := B.bytes
  have hr := B.returns
  have hts := atoms_spec (ws := wsX0_makeFirstWeights) B.pre
  have hown : s.vm.findClass RX0 = some m.cls := findClass_of_methodNamed B.named
  have hlocks := B.notSynchronized
  have hS : va_S (aX 96 ad) s.heap s.heap [] := va_S.rf
  have hA : ∀ k, k < 96 → aX 96 ad (ad k) := fun k hk => ⟨k, hk, rfl⟩
  have hRf : 0 ≤ ((headSpec wsX0_makeFirstWeights ({ frames := 0, cells := 0, slots := 0, locals := 0 })).room).frames := Nat.le_of_ble_eq_true rfl
  have hRl : 0 ≤ ((headSpec wsX0_makeFirstWeights ({ frames := 0, cells := 0, slots := 0, locals := 0 })).room).locals := Nat.le_of_ble_eq_true rfl
  have hl := lv_entry ([.ref (ad 0)]) (n := 5) (Nat.le_of_ble_eq_true rfl)
  rw [lg_entry_eq]
  generalize (lg_sl ([.ref (ad 0)]) ++ List.replicate (5 - (lg_sl ([.ref (ad 0)])).length) Slot.unset).toArray = ls at hl ⊢
  have hl : lv_has ls 5 [(0, .ref (ad 0))] := hl
  refine lv_iconst (v := nI 0) hx hb dX0_makeFirstWeights_0 (by decide +kernel) ?_
  refine lv_istore_n (lv' := [(1, .int (nI (0))), (0, .ref (ad 0))]) hx hb dX0_makeFirstWeights_1 rfl hl (by decide) rfl (fun ls hl => ?_)
  refine lp_X0_makeFirstWeights2 hx hb hml hts hown hK hap hRf hRl κ hF hmb (fun H locs ls hP hS hl => ?_) (16 + 1) 0 _ _ _ (by omega) (by omega) hP hS (lv_sub hl [0, 1] rfl)
  exact W.vret hx hb hr (fun t ht hW => ⟨⟨_, rfl, rfl, (wn_h ht hP)⟩, hS.F ht⟩) hS.2.2 dX0_makeFirstWeights_57
end
section
/-! ===== the class: rounds, confusions, what is told ===== -/
set_option maxHeartbeats 4000000 in
set_option maxRecDepth 100000 in
theorem lp_X0_shiftWeights {p : Program} {l : Launch} {e : Env} {R : Room} {s : State} {m : MethodId} {args : Array Value} {below : List Frame} {meth : Method} {c : Code} {Q : State → Prop} {E : zE} {ad : Nat → Nat} (hx : p.tables.exec = Jvm.exec) (hb : c.code = cX0_shiftWeights) (hml : c.maxLocals = 9) (hts : ∀ w ∈ wsX0_shiftWeights, w.before args s = true) (hown : s.vm.findClass RX0 = some m.cls) (hK : zK E s) (hap : apart 96 ad) {H0 : Heap} (hRf : 1 ≤ R.frames) (hRl : 21 ≤ R.locals) (κ : SX) (e9 c9 n9 K : Nat) (hF : xF κ ≤ 16) (he : e9 < 40) (hc : c9 < 16) (hn9 : n9 < 16) (hK1 : 1023 ≤ K) (hK2 : K ≤ 1900) (hwB : wB (xF κ) K (xWt κ)) (hmn : ∀ c, c < 16 → ∀ f, f < xF κ → mg 1057 (xMn κ c f))
    (exit : ∀ (H : Heap) (locs : List Loc) (ls : Array Slot), PX E ad (sxWt κ (shW (xMn κ) (xEv κ e9) c9 n9 (xWt κ) (xF κ))) H → va_S (aX 96 ad) H0 H locs → lv_has ls 9 [(0, .ref (ad 0)), (1, .ref (ad (3 + e9))), (2, .int (nI (c9))), (3, .int (nI (n9)))] → W p l e R s m args below meth c H locs 0 0 Q (F0 m 121 ls [])) :
    ∀ (n j : Nat) (H : Heap) (locs : List Loc) (ls : Array Slot), j ≤ xF κ → xF κ - j < n → PX E ad (sxWt κ (shW (xMn κ) (xEv κ e9) c9 n9 (xWt κ) j)) H → va_S (aX 96 ad) H0 H locs → lv_has ls 9 [(4, .int (nI (j))), (0, .ref (ad 0)), (1, .ref (ad (3 + e9))), (2, .int (nI (c9))), (3, .int (nI (n9)))] → W p l e R s m args below meth c H locs 0 0 Q (F0 m 3 ls []) := by
  have hA : ∀ k, k < 96 → aX 96 ad (ad k) := fun k hk => ⟨k, hk, rfl⟩
  intro n
  induction n with
  | zero => intro j H locs ls h1 h2; omega
  | succ n ih =>
    intro j H locs ls hi hn hP hS hl
    refine lv_iload hx hb dX0_shiftWeights_3 (lv_at hl 0 rfl) ?_
    refine lv_aload_n hx hb dX0_shiftWeights_5 rfl (lv_at hl 1 rfl) ?_
    refine gx hx hb hts innX0_shiftWeights hown hK hP 0 (by decide) (by decide +kernel) rfl (v := .int (nI ((xF κ)))) rfl dX0_shiftWeights_6 ?_
    refine zb_ge (tgt := 121) hx hb (show j < 2 ^ 31 by omega) (show (xF κ) < 2 ^ 31 by omega) dX0_shiftWeights_9 (by decide) (fun h => ?_) (fun h => ?_)
    · have h : (xF κ) ≤ j := h
      have hend : j = xF κ := by omega
      subst hend
      exact exit _ _ _ hP hS (lv_sub hl [1, 2, 3, 4] rfl)
    · have h : j < (xF κ) := h
      have hwc : mg K (shW (xMn κ) (xEv κ e9) c9 n9 (xWt κ) j c9 j) := by rw [shW_rest (Nat.le_refl j)]; exact hwB c9 j ⟨hc, h⟩
      have hwn : mg K (shW (xMn κ) (xEv κ e9) c9 n9 (xWt κ) j n9 j) := by rw [shW_rest (Nat.le_refl j)]; exact hwB n9 j ⟨hn9, h⟩
      refine lv_aload_n hx hb dX0_shiftWeights_12 rfl (lv_at hl 2 rfl) ?_
      refine lv_iload hx hb dX0_shiftWeights_13 (lv_at hl 0 rfl) ?_
      refine z_iald hx hb hK hP (3 + e9) (show 3 + e9 < 96 by omega) (cx_ev (show e9 < 40 by omega)) (show j < xF κ by omega) (show xF κ < 2 ^ 31 by omega) dX0_shiftWeights_15 ?_
      refine lv_i2d hx hb dX0_shiftWeights_16 ?_
      refine lv_aload_n hx hb dX0_shiftWeights_17 rfl (lv_at hl 1 rfl) ?_
      refine gx hx hb hts innX0_shiftWeights hown hK hP 8 (by decide) (by decide +kernel) rfl (v := .ref (ad 45)) rfl dX0_shiftWeights_18 ?_
      refine lv_iload_n hx hb dX0_shiftWeights_21 rfl (lv_at hl 3 rfl) ?_
      refine z_aald 3 hx hb hK hP 45 (by decide) cx_mnO rfl rfl (show c9 < 16 by omega) (by decide) (if_pos (show c9 < 16 by omega)) dX0_shiftWeights_22 ?_
      refine lv_iload hx hb dX0_shiftWeights_23 (lv_at hl 0 rfl) ?_
      refine z_dald hx hb hK hP (46 + c9) (show 46 + c9 < 96 by omega) (cx_mn (show c9 < 16 by omega)) (show j < xF κ by omega) (show xF κ < 2 ^ 31 by omega) dX0_shiftWeights_25 ?_
      refine lv_dsub hx hb dX0_shiftWeights_26 (mg_n64 (mg_df _ (hmn c9 hc j h)) (by decide)) ?_
      refine va_calld (va_runS (As := [.double (FP.dsub (FP.i2d (nI ((xEv κ) (e9) (j)))) ((xMn κ) (c9) (j)))]) (rest := []) ⟨hx, hb, hml, hown, hts⟩ (kX0_size l _) (va_cwS 1 hts gX0_shiftWeights_X0_size rfl rfl rfl (by decide +kernel) ⟨Nat.le_trans (Nat.le_of_ble_eq_true rfl) hRf, Nat.le_trans (Nat.le_of_ble_eq_true rfl) hRl⟩) zps rfl rfl hl.1 rfl (lv_room (Nat.le_of_ble_eq_true rfl)) dX0_shiftWeights_27 ⟨Nat.zero_le _, Nat.zero_le _⟩) hS (fun q _ h => h.elim) (fun q h => h.elim) (fun r u9 t9 H locs ht9 hvm9 hw9 hB9 hz9 hk9 hS => ?_)
      have hP := wn_ro hP hk9
      subst hw9
      refine lv_dstore (lv' := [(5, .double (szF (FP.dsub (FP.i2d (nI (xEv κ e9 j))) (xMn κ c9 j)))), (4, .int (nI (j))), (0, .ref (ad 0)), (1, .ref (ad (3 + e9))), (2, .int (nI (c9))), (3, .int (nI (n9)))]) hx hb dX0_shiftWeights_30 hl (by decide) rfl (fun ls hl => ?_)
      refine lv_aload_n hx hb dX0_shiftWeights_32 rfl (lv_at hl 3 rfl) ?_
      refine lv_iload hx hb dX0_shiftWeights_33 (lv_at hl 1 rfl) ?_
      refine z_iald hx hb hK hP (3 + e9) (show 3 + e9 < 96 by omega) (cx_ev (show e9 < 40 by omega)) (show j < xF κ by omega) (show xF κ < 2 ^ 31 by omega) dX0_shiftWeights_35 ?_
      refine lv_i2d hx hb dX0_shiftWeights_36 ?_
      refine lv_aload_n hx hb dX0_shiftWeights_37 rfl (lv_at hl 2 rfl) ?_
      refine gx hx hb hts innX0_shiftWeights hown hK hP 8 (by decide) (by decide +kernel) rfl (v := .ref (ad 45)) rfl dX0_shiftWeights_38 ?_
      refine lv_iload_n hx hb dX0_shiftWeights_41 rfl (lv_at hl 5 rfl) ?_
      refine z_aald 3 hx hb hK hP 45 (by decide) cx_mnO rfl rfl (show n9 < 16 by omega) (by decide) (if_pos (show n9 < 16 by omega)) dX0_shiftWeights_42 ?_
      refine lv_iload hx hb dX0_shiftWeights_43 (lv_at hl 1 rfl) ?_
      refine z_dald hx hb hK hP (46 + n9) (show 46 + n9 < 96 by omega) (cx_mn (show n9 < 16 by omega)) (show j < xF κ by omega) (show xF κ < 2 ^ 31 by omega) dX0_shiftWeights_45 ?_
      refine lv_dsub hx hb dX0_shiftWeights_46 (mg_n64 (mg_df _ (hmn n9 hn9 j h)) (by decide)) ?_
      refine va_calld (va_runS (As := [.double (FP.dsub (FP.i2d (nI ((xEv κ) (e9) (j)))) ((xMn κ) (n9) (j)))]) (rest := []) ⟨hx, hb, hml, hown, hts⟩ (kX0_size l _) (va_cwS 1 hts gX0_shiftWeights_X0_size rfl rfl rfl (by decide +kernel) ⟨Nat.le_trans (Nat.le_of_ble_eq_true rfl) hRf, Nat.le_trans (Nat.le_of_ble_eq_true rfl) hRl⟩) zps rfl rfl hl.1 rfl (lv_room (Nat.le_of_ble_eq_true rfl)) dX0_shiftWeights_47 ⟨Nat.zero_le _, Nat.zero_le _⟩) hS (fun q _ h => h.elim) (fun q h => h.elim) (fun r u9 t9 H locs ht9 hvm9 hw9 hB9 hz9 hk9 hS => ?_)
      have hP := wn_ro hP hk9
      subst hw9
      refine lv_dstore (lv' := [(7, .double (szF (FP.dsub (FP.i2d (nI (xEv κ e9 j))) (xMn κ n9 j)))), (5, .double (szF (FP.dsub (FP.i2d (nI (xEv κ e9 j))) (xMn κ c9 j)))), (4, .int (nI (j))), (0, .ref (ad 0)), (1, .ref (ad (3 + e9))), (2, .int (nI (c9))), (3, .int (nI (n9)))]) hx hb dX0_shiftWeights_50 hl (by decide) rfl (fun ls hl => ?_)
      refine lv_dload hx hb dX0_shiftWeights_52 (lv_at hl 1 rfl) ?_
      refine lv_dload hx hb dX0_shiftWeights_54 (lv_at hl 0 rfl) ?_
      refine lv_dcmp hx hb dX0_shiftWeights_56 ?_
      refine lv_if_le (tgt := 85) hx hb dX0_shiftWeights_57 (by decide) (fun h1 => ?_) (fun h1 => ?_)
      · refine lv_dload hx hb dX0_shiftWeights_85 (lv_at hl 0 rfl) ?_
        refine lv_dload hx hb dX0_shiftWeights_87 (lv_at hl 1 rfl) ?_
        refine lv_dcmp hx hb dX0_shiftWeights_89 ?_
        refine lv_if_le (tgt := 115) hx hb dX0_shiftWeights_90 (by decide) (fun h2 => ?_) (fun h2 => ?_)
        · have e8 : shW (xMn κ) (xEv κ e9) c9 n9 (xWt κ) (j + 1) = shW (xMn κ) (xEv κ e9) c9 n9 (xWt κ) j := (if_neg (fun q => q h1)).trans (if_neg (fun q => q h2))
          refine lv_iinc (v := nI (j + 1)) (lv' := [(4, .int (nI (j + 1))), (7, .double (szF (FP.dsub (FP.i2d (nI (xEv κ e9 j))) (xMn κ n9 j)))), (5, .double (szF (FP.dsub (FP.i2d (nI (xEv κ e9 j))) (xMn κ c9 j)))), (0, .ref (ad 0)), (1, .ref (ad (3 + e9))), (2, .int (nI (c9))), (3, .int (nI (n9)))]) hx hb dX0_shiftWeights_115 hl (k := 2) rfl (nI_1 _) (by decide) rfl (fun ls hl => ?_)
          refine lv_goto (tgt := 3) hx hb dX0_shiftWeights_118 (by decide) ?_
          exact ih (j + 1) _ _ _ (by omega) (by omega) (by rw [e8]; exact hP) hS (lv_sub hl [0, 3, 4, 5, 6] rfl)
        · refine lv_aload_n hx hb dX0_shiftWeights_93 rfl (lv_at hl 3 rfl) ?_
          refine gx hx hb hts innX0_shiftWeights hown hK hP 9 (by decide) (by decide +kernel) rfl (v := .ref (ad 62)) rfl dX0_shiftWeights_94 ?_
          refine lv_iload_n hx hb dX0_shiftWeights_97 rfl (lv_at hl 6 rfl) ?_
          refine z_aald 3 hx hb hK hP 62 (by decide) cx_wtO rfl rfl (show n9 < 16 by omega) (by decide) (if_pos (show n9 < 16 by omega)) dX0_shiftWeights_98 ?_
          refine lv_iload hx hb dX0_shiftWeights_99 (lv_at hl 2 rfl) ?_
          refine lv_aload_n hx hb dX0_shiftWeights_101 rfl (lv_at hl 3 rfl) ?_
          refine gx hx hb hts innX0_shiftWeights hown hK hP 9 (by decide) (by decide +kernel) rfl (v := .ref (ad 62)) rfl dX0_shiftWeights_102 ?_
          refine lv_iload_n hx hb dX0_shiftWeights_105 rfl (lv_at hl 6 rfl) ?_
          refine z_aald 3 hx hb hK hP 62 (by decide) cx_wtO rfl rfl (show n9 < 16 by omega) (by decide) (if_pos (show n9 < 16 by omega)) dX0_shiftWeights_106 ?_
          refine lv_iload hx hb dX0_shiftWeights_107 (lv_at hl 2 rfl) ?_
          refine z_dald hx hb hK hP (63 + n9) (show 63 + n9 < 96 by omega) (cx_wt (show n9 < 16 by omega)) (show j < xF κ by omega) (show xF κ < 2 ^ 31 by omega) dX0_shiftWeights_109 ?_
          refine lv_ldc2d hx hb hown (hts (.constantDouble RX0 130 k1125) (by decide +kernel)) dX0_shiftWeights_110 ?_
          refine lv_dmul hx hb dX0_shiftWeights_113 (mg_n64 (mg_dmul (K := K + 1) hwn mg_1125 (by omega) (by decide) (by omega) (by decide) (by omega) (by omega)) (by omega)) ?_
          have e8 : shW (xMn κ) (xEv κ e9) c9 n9 (xWt κ) (j + 1) = up2 (shW (xMn κ) (xEv κ e9) c9 n9 (xWt κ) j) n9 j (FP.dmul (shW (xMn κ) (xEv κ e9) c9 n9 (xWt κ) j n9 j) k1125) := (if_neg (fun q => q h1)).trans (if_pos h2)
          refine z_dast hx hb hK hP hap hA hS (63 + n9) (show 63 + n9 < 96 by omega) (cx_wt (show n9 < 16 by omega)) (show j < xF κ by omega) (show xF κ < 2 ^ 31 by omega) dX0_shiftWeights_114 (fun H locs hP hS => ?_)
          have hP := px_wt (show n9 < 16 by omega) hP
          refine lv_iinc (v := nI (j + 1)) (lv' := [(4, .int (nI (j + 1))), (7, .double (szF (FP.dsub (FP.i2d (nI (xEv κ e9 j))) (xMn κ n9 j)))), (5, .double (szF (FP.dsub (FP.i2d (nI (xEv κ e9 j))) (xMn κ c9 j)))), (0, .ref (ad 0)), (1, .ref (ad (3 + e9))), (2, .int (nI (c9))), (3, .int (nI (n9)))]) hx hb dX0_shiftWeights_115 hl (k := 2) rfl (nI_1 _) (by decide) rfl (fun ls hl => ?_)
          refine lv_goto (tgt := 3) hx hb dX0_shiftWeights_118 (by decide) ?_
          exact ih (j + 1) _ _ _ (by omega) (by omega) (by rw [e8]; exact hP) hS (lv_sub hl [0, 3, 4, 5, 6] rfl)
      · refine lv_aload_n hx hb dX0_shiftWeights_60 rfl (lv_at hl 3 rfl) ?_
        refine gx hx hb hts innX0_shiftWeights hown hK hP 9 (by decide) (by decide +kernel) rfl (v := .ref (ad 62)) rfl dX0_shiftWeights_61 ?_
        refine lv_iload_n hx hb dX0_shiftWeights_64 rfl (lv_at hl 5 rfl) ?_
        refine z_aald 3 hx hb hK hP 62 (by decide) cx_wtO rfl rfl (show c9 < 16 by omega) (by decide) (if_pos (show c9 < 16 by omega)) dX0_shiftWeights_65 ?_
        refine lv_iload hx hb dX0_shiftWeights_66 (lv_at hl 2 rfl) ?_
        refine lv_aload_n hx hb dX0_shiftWeights_68 rfl (lv_at hl 3 rfl) ?_
        refine gx hx hb hts innX0_shiftWeights hown hK hP 9 (by decide) (by decide +kernel) rfl (v := .ref (ad 62)) rfl dX0_shiftWeights_69 ?_
        refine lv_iload_n hx hb dX0_shiftWeights_72 rfl (lv_at hl 5 rfl) ?_
        refine z_aald 3 hx hb hK hP 62 (by decide) cx_wtO rfl rfl (show c9 < 16 by omega) (by decide) (if_pos (show c9 < 16 by omega)) dX0_shiftWeights_73 ?_
        refine lv_iload hx hb dX0_shiftWeights_74 (lv_at hl 2 rfl) ?_
        refine z_dald hx hb hK hP (63 + c9) (show 63 + c9 < 96 by omega) (cx_wt (show c9 < 16 by omega)) (show j < xF κ by omega) (show xF κ < 2 ^ 31 by omega) dX0_shiftWeights_76 ?_
        refine lv_ldc2d hx hb hown (hts (.constantDouble RX0 128 k875) (by decide +kernel)) dX0_shiftWeights_77 ?_
        refine lv_dmul hx hb dX0_shiftWeights_80 (mg_n64 (mg_dmul (K := K) hwc mg_875 (by omega) (by decide) (by omega) (by decide) (by omega) (by omega)) (by omega)) ?_
        have e8 : shW (xMn κ) (xEv κ e9) c9 n9 (xWt κ) (j + 1) = up2 (shW (xMn κ) (xEv κ e9) c9 n9 (xWt κ) j) c9 j (FP.dmul (shW (xMn κ) (xEv κ e9) c9 n9 (xWt κ) j c9 j) k875) := if_pos h1
        refine z_dast hx hb hK hP hap hA hS (63 + c9) (show 63 + c9 < 96 by omega) (cx_wt (show c9 < 16 by omega)) (show j < xF κ by omega) (show xF κ < 2 ^ 31 by omega) dX0_shiftWeights_81 (fun H locs hP hS => ?_)
        have hP := px_wt (show c9 < 16 by omega) hP
        refine lv_goto (tgt := 115) hx hb dX0_shiftWeights_82 (by decide) ?_
        refine lv_iinc (v := nI (j + 1)) (lv' := [(4, .int (nI (j + 1))), (7, .double (szF (FP.dsub (FP.i2d (nI (xEv κ e9 j))) (xMn κ n9 j)))), (5, .double (szF (FP.dsub (FP.i2d (nI (xEv κ e9 j))) (xMn κ c9 j)))), (0, .ref (ad 0)), (1, .ref (ad (3 + e9))), (2, .int (nI (c9))), (3, .int (nI (n9)))]) hx hb dX0_shiftWeights_115 hl (k := 2) rfl (nI_1 _) (by decide) rfl (fun ls hl => ?_)
        refine lv_goto (tgt := 3) hx hb dX0_shiftWeights_118 (by decide) ?_
        exact ih (j + 1) _ _ _ (by omega) (by omega) (by rw [e8]; exact hP) hS (lv_sub hl [0, 3, 4, 5, 6] rfl)
set_option maxHeartbeats 4000000 in
set_option maxRecDepth 100000 in
theorem kX0_shiftWeights (l : Launch) (E : zE) (ad : Nat → Nat) (hap : apart 96 ad) (κ : SX) (e9 c9 n9 K : Nat) (hF : xF κ ≤ 16) (he : e9 < 40) (hc : c9 < 16) (hn9 : n9 < 16) (hK1 : 1023 ≤ K) (hK2 : K ≤ 1900) (hwB : wB (xF κ) K (xWt κ)) (hmn : ∀ c, c < 16 → ∀ f, f < xF κ → mg 1057 (xMn κ c f)) : Met l yX0_shiftWeights wsX0_shiftWeights ({ frames := 1, cells := 0, slots := 0, locals := 21 }) (va_Pc [.ref (ad 0), .ref (ad (3 + e9)), .int (nI (c9)), .int (nI (n9))] (fun U => PX E ad κ U.heap ∧ zK E U)) (va_Qv (fun κ' : SX => κ' = sxWt κ (shW (xMn κ) (xEv κ e9) c9 n9 (xWt κ) (xF κ))) (fun κ' t => PX E ad κ' t.heap) (aX 96 ad)) 0 0 (aX 96 ad) := by
  refine Met.ofW (cc := cX0_shiftWeights) (maxL := 9) (ret := none) (by decide) rfl ?_
  intro p e s m args below meth c s₁ B hml hv
  obtain ⟨rfl, hP, hK⟩ := hv
  have hx := B.exec
  have hb := B.bytes
  have hr := B.returns
  have hts := atoms_spec (ws := wsX0_shiftWeights) B.pre
  have hown : s.vm.findClass RX0 = some m.cls := findClass_of_methodNamed B.named
  have hlocks := B.notSynchronized
  have hS : va_S (aX 96 ad) s.heap s.heap [] := va_S.rf
  have hA : ∀ k, k < 96 → aX 96 ad (ad k) := fun k hk => ⟨k, hk, rfl⟩
  have hRf : 1 ≤ ((headSpec wsX0_shiftWeights ({ frames := 1, cells := 0, slots := 0, locals := 21 })).room).frames := Nat.le_of_ble_eq_true rfl
  have hRl : 21 ≤ ((headSpec wsX0_shiftWeights ({ frames := 1, cells := 0, slots := 0, locals := 21 })).room).locals := Nat.le_of_ble_eq_true rfl
  have hl := lv_entry ([.ref (ad 0), .ref (ad (3 + e9)), .int (nI (c9)), .int (nI (n9))]) (n := 9) (Nat.le_of_ble_eq_true rfl)
  rw [lg_entry_eq]
  generalize (lg_sl ([.ref (ad 0), .ref (ad (3 + e9)), .int (nI (c9)), .int (nI (n9))]) ++ List.replicate (9 - (lg_sl ([.ref (ad 0), .ref (ad (3 + e9)), .int (nI (c9)), .int (nI (n9))])).length) Slot.unset).toArray = ls at hl ⊢
  have hl : lv_has ls 9 [(0, .ref (ad 0)), (1, .ref (ad (3 + e9))), (2, .int (nI (c9))), (3, .int (nI (n9)))] := hl
  refine lv_iconst (v := nI 0) hx hb dX0_shiftWeights_0 (by decide +kernel) ?_
  refine lv_istore (lv' := [(4, .int (nI (0))), (0, .ref (ad 0)), (1, .ref (ad (3 + e9))), (2, .int (nI (c9))), (3, .int (nI (n9)))]) hx hb dX0_shiftWeights_1 hl (by decide) rfl (fun ls hl => ?_)
  refine lp_X0_shiftWeights hx hb hml hts hown hK hap hRf hRl κ e9 c9 n9 K hF he hc hn9 hK1 hK2 hwB hmn (fun H locs ls hP hS hl => ?_) (xF κ + 1) 0 _ _ _ (by omega) (by omega) hP hS (lv_sub hl [0, 1, 2, 3, 4] rfl)
  exact W.vret hx hb hr (fun t ht hW => ⟨⟨_, rfl, rfl, (wn_h ht hP)⟩, hS.F ht⟩) hS.2.2 dX0_shiftWeights_121
set_option maxHeartbeats 4000000 in
set_option maxRecDepth 100000 in
theorem lp_X0_goRound {p : Program} {l : Launch} {e : Env} {R : Room} {s : State} {m : MethodId} {args : Array Value} {below : List Frame} {meth : Method} {c : Code} {Q : State → Prop} {E : zE} {ad : Nat → Nat} (hx : p.tables.exec = Jvm.exec) (hb : c.code = cX0_goRound) (hml : c.maxLocals = 4) (hts : ∀ w ∈ wsX0_goRound, w.before args s = true) (hown : s.vm.findClass RX0 = some m.cls) (hK : zK E s) (hap : apart 96 ad) {H0 : Heap} (hRf : 3 ≤ R.frames) (hRl : 74 ≤ R.locals) (κ : SX) (K : Nat) (hF : xF κ ≤ 16) (hN : xN κ ≤ 40) (hec : ∀ e, xEc κ e < 16) (hmb : ∀ c, c < 16 → xMb κ c < 2 ^ 31) (hK1 : 1023 ≤ K) (hK2 : K ≤ 1860) (hwB : wB (xF κ) K (xWt κ)) (hmn : ∀ c, c < 16 → ∀ f, f < xF κ → mg 1057 (xMn κ c f))
    (exit : ∀ (H : Heap) (locs : List Loc) (ls : Array Slot), PX E ad (sxWt κ (rdX κ (xWt κ) (xN κ))) H → va_S (aX 96 ad) H0 H locs → lv_has ls 4 [(0, .ref (ad 0))] → W p l e R s m args below meth c H locs 0 0 Q (F0 m 59 ls [])) :
    ∀ (n i : Nat) (H : Heap) (locs : List Loc) (ls : Array Slot), i ≤ xN κ → xN κ - i < n → PX E ad (sxWt κ (rdX κ (xWt κ) i)) H → va_S (aX 96 ad) H0 H locs → lv_has ls 4 [(1, .int (nI (i))), (0, .ref (ad 0))] → W p l e R s m args below meth c H locs 0 0 Q (F0 m 2 ls []) := by
  have hA : ∀ k, k < 96 → aX 96 ad (ad k) := fun k hk => ⟨k, hk, rfl⟩
  intro n
  induction n with
  | zero => intro i H locs ls h1 h2; omega
  | succ n ih =>
    intro i H locs ls hi hn hP hS hl
    refine lv_iload_n hx hb dX0_goRound_2 rfl (lv_at hl 0 rfl) ?_
    refine lv_aload_n hx hb dX0_goRound_3 rfl (lv_at hl 1 rfl) ?_
    refine gx hx hb hts innX0_goRound hown hK hP 3 (by decide) (by decide +kernel) rfl (v := .int (nI ((xN κ)))) rfl dX0_goRound_4 ?_
    refine zb_ge (tgt := 59) hx hb (show i < 2 ^ 31 by omega) (show (xN κ) < 2 ^ 31 by omega) dX0_goRound_7 (by decide) (fun h => ?_) (fun h => ?_)
    · have h : (xN κ) ≤ i := h
      have hend : i = xN κ := by omega
      subst hend
      exact exit _ _ _ hP hS (lv_sub hl [1] rfl)
    · have h : i < (xN κ) := h
      have hci := hec i
      have hwi := rdX_mg (κ := κ) hec hK1 hwB i (by omega)
      refine lv_aload_n hx hb dX0_goRound_10 rfl (lv_at hl 1 rfl) ?_
      refine gx hx hb hts innX0_goRound hown hK hP 1 (by decide) (by decide +kernel) rfl (v := .ref (ad 1)) rfl dX0_goRound_11 ?_
      refine lv_iload_n hx hb dX0_goRound_14 rfl (lv_at hl 0 rfl) ?_
      refine z_iald hx hb hK hP 1 (by decide) cx_ec (show i < 40 by omega) (by decide) dX0_goRound_15 ?_
      refine lv_istore_n (lv' := [(2, .int (nI ((xEc κ) (i)))), (1, .int (nI (i))), (0, .ref (ad 0))]) hx hb dX0_goRound_16 rfl hl (by decide) rfl (fun ls hl => ?_)
      refine lv_aload_n hx hb dX0_goRound_17 rfl (lv_at hl 2 rfl) ?_
      refine lv_aload_n hx hb dX0_goRound_18 rfl (lv_at hl 2 rfl) ?_
      refine gx hx hb hts innX0_goRound hown hK hP 2 (by decide) (by decide +kernel) rfl (v := .ref (ad 2)) rfl dX0_goRound_19 ?_
      refine lv_iload_n hx hb dX0_goRound_22 rfl (lv_at hl 1 rfl) ?_
      refine z_aald 1 hx hb hK hP 2 (by decide) cx_evO rfl rfl (show i < 40 by omega) (by decide) (if_pos (show i < 40 by omega)) dX0_goRound_23 ?_
      refine lv_iconst (v := -1) hx hb dX0_goRound_24 (by decide +kernel) ?_
      refine va_calli (va_runV (As := [.ref (ad (3 + i)), .int (-1)]) (rest := []) ⟨hx, hb, hml, hown, hts⟩ (kX0_nearestClass l E ad hap (sxWt κ (rdX κ (xWt κ) i)) (3 + i) (K + i) (xEv κ i) (-1) hF hmb (by omega) (cx_ev (κ := sxWt κ (rdX κ (xWt κ) i)) (show i < 40 by omega)) (by omega) (by omega) (fun c hc f hf => ⟨hwi c f ⟨hc, hf⟩, hmn c hc f hf⟩)) (cwV 2 hts gX0_goRound_X0_nearestClass rfl rfl rfl (by decide +kernel) ⟨Nat.le_trans (Nat.le_of_ble_eq_true rfl) hRf, Nat.le_trans (Nat.le_of_ble_eq_true rfl) hRl⟩) (zpx hK hP) rfl rfl hl.1 rfl (lv_room (Nat.le_of_ble_eq_true rfl)) dX0_goRound_25 ⟨Nat.zero_le _, Nat.zero_le _⟩) hS (fun q _ h => h.elim) (fun q h => h.elim) (fun r u9 t9 H locs ht9 hvm9 hw9 hB9 hz9 hk9 hS => ?_)
      have hP := wn_ro hP hk9
      rcases nearX_cases (sxWt κ (rdX κ (xWt κ) i)) (xEv κ i) (-1) with e9 | ⟨j, hj, -, -, e9⟩
      · rw [e9] at hw9
        subst hw9
        have e8 : rdX κ (xWt κ) (i + 1) = rdX κ (xWt κ) i := if_pos (Or.inl e9)
        refine lv_istore_n (lv' := [(3, .int (-1)), (2, .int (nI ((xEc κ) (i)))), (1, .int (nI (i))), (0, .ref (ad 0))]) hx hb dX0_goRound_28 rfl hl (by decide) rfl (fun ls hl => ?_)
        refine lv_iload_n hx hb dX0_goRound_29 rfl (lv_at hl 0 rfl) ?_
        refine va_calli (va_runS (As := [.int (-1)]) (rest := []) ⟨hx, hb, hml, hown, hts⟩ (kX0_isClass l (-1)) (va_cwS 1 hts gX0_goRound_X0_isClass rfl rfl rfl (by decide +kernel) ⟨Nat.le_trans (Nat.le_of_ble_eq_true rfl) hRf, Nat.le_trans (Nat.le_of_ble_eq_true rfl) hRl⟩) zps rfl rfl hl.1 rfl (lv_room (Nat.le_of_ble_eq_true rfl)) dX0_goRound_30 ⟨Nat.zero_le _, Nat.zero_le _⟩) hS (fun q _ h => h.elim) (fun q h => h.elim) (fun r u9 t9 H locs ht9 hvm9 hw9 hB9 hz9 hk9 hS => ?_)
        have hP := wn_ro hP hk9
        obtain ⟨hno, rfl⟩ := hw9.resolve_left (fun ⟨j, hj, q, _⟩ => m1_ne (show j < 2 ^ 31 by omega) q.symm)
        refine zu_eq (tgt := 53) hx hb (show 0 < 2 ^ 31 by omega) dX0_goRound_33 (by decide) (fun h1 => ?_) (fun h1 => ?_)
        · have h1 : 0 = 0 := h1
          refine lv_iinc (v := nI (i + 1)) (lv' := [(1, .int (nI (i + 1))), (3, .int (-1)), (2, .int (nI ((xEc κ) (i)))), (0, .ref (ad 0))]) hx hb dX0_goRound_53 hl (k := 2) rfl (nI_1 _) (by decide) rfl (fun ls hl => ?_)
          refine lv_goto (tgt := 2) hx hb dX0_goRound_56 (by decide) ?_
          exact ih (i + 1) _ _ _ (by omega) (by omega) (by rw [e8]; exact hP) hS (lv_sub hl [0, 3] rfl)
        · have h1 : 0 < 0 := h1
          exact absurd h1 (by decide)
      · rw [e9] at hw9
        subst hw9
        refine lv_istore_n (lv' := [(3, .int (nI (j))), (2, .int (nI ((xEc κ) (i)))), (1, .int (nI (i))), (0, .ref (ad 0))]) hx hb dX0_goRound_28 rfl hl (by decide) rfl (fun ls hl => ?_)
        refine lv_iload_n hx hb dX0_goRound_29 rfl (lv_at hl 0 rfl) ?_
        refine va_calli (va_runS (As := [.int (nI (j))]) (rest := []) ⟨hx, hb, hml, hown, hts⟩ (kX0_isClass l (nI j)) (va_cwS 1 hts gX0_goRound_X0_isClass rfl rfl rfl (by decide +kernel) ⟨Nat.le_trans (Nat.le_of_ble_eq_true rfl) hRf, Nat.le_trans (Nat.le_of_ble_eq_true rfl) hRl⟩) zps rfl rfl hl.1 rfl (lv_room (Nat.le_of_ble_eq_true rfl)) dX0_goRound_30 ⟨Nat.zero_le _, Nat.zero_le _⟩) hS (fun q _ h => h.elim) (fun q h => h.elim) (fun r u9 t9 H locs ht9 hvm9 hw9 hB9 hz9 hk9 hS => ?_)
        have hP := wn_ro hP hk9
        obtain ⟨j9, -, -, rfl⟩ := hw9.resolve_right (fun q => q.1 j hj rfl)
        refine zu_eq (tgt := 53) hx hb (show 1 < 2 ^ 31 by omega) dX0_goRound_33 (by decide) (fun h1 => ?_) (fun h1 => ?_)
        · have h1 : 1 = 0 := h1
          exact absurd h1 (by decide)
        · have h1 : 0 < 1 := h1
          refine lv_iload_n hx hb dX0_goRound_36 rfl (lv_at hl 0 rfl) ?_
          refine lv_iload_n hx hb dX0_goRound_37 rfl (lv_at hl 1 rfl) ?_
          refine zb_eq (tgt := 53) hx hb (show j < 2 ^ 31 by omega) (show (xEc κ) (i) < 2 ^ 31 by omega) dX0_goRound_38 (by decide) (fun h2 => ?_) (fun h2 => ?_)
          · have h2 : j = ((xEc κ) (i)) := h2
            have e8 : rdX κ (xWt κ) (i + 1) = rdX κ (xWt κ) i := if_pos (Or.inr (by rw [e9, h2]))
            refine lv_iinc (v := nI (i + 1)) (lv' := [(1, .int (nI (i + 1))), (3, .int (nI (j))), (2, .int (nI ((xEc κ) (i)))), (0, .ref (ad 0))]) hx hb dX0_goRound_53 hl (k := 2) rfl (nI_1 _) (by decide) rfl (fun ls hl => ?_)
            refine lv_goto (tgt := 2) hx hb dX0_goRound_56 (by decide) ?_
            exact ih (i + 1) _ _ _ (by omega) (by omega) (by rw [e8]; exact hP) hS (lv_sub hl [0, 3] rfl)
          · have h2 : j ≠ ((xEc κ) (i)) := h2
            have e8 : rdX κ (xWt κ) (i + 1) = shW (xMn κ) (xEv κ i) (xEc κ i) j (rdX κ (xWt κ) i) (xF κ) := by
              rw [rdX, if_neg (fun q => by rw [e9] at q; exact q.elim (fun z => m1_ne (by omega) z) (fun z => h2 ((nI_eq (by omega) (by omega)).mp z))), e9, nI_clamp (by omega)]
            refine lv_aload_n hx hb dX0_goRound_41 rfl (lv_at hl 3 rfl) ?_
            refine lv_aload_n hx hb dX0_goRound_42 rfl (lv_at hl 3 rfl) ?_
            refine gx hx hb hts innX0_goRound hown hK hP 2 (by decide) (by decide +kernel) rfl (v := .ref (ad 2)) rfl dX0_goRound_43 ?_
            refine lv_iload_n hx hb dX0_goRound_46 rfl (lv_at hl 2 rfl) ?_
            refine z_aald 1 hx hb hK hP 2 (by decide) cx_evO rfl rfl (show i < 40 by omega) (by decide) (if_pos (show i < 40 by omega)) dX0_goRound_47 ?_
            refine lv_iload_n hx hb dX0_goRound_48 rfl (lv_at hl 1 rfl) ?_
            refine lv_iload_n hx hb dX0_goRound_49 rfl (lv_at hl 0 rfl) ?_
            refine va_callv (va_runV (As := [.ref (ad (3 + i)), .int (nI ((xEc κ) (i))), .int (nI (j))]) (rest := []) ⟨hx, hb, hml, hown, hts⟩ (kX0_shiftWeights l E ad hap (sxWt κ (rdX κ (xWt κ) i)) i (xEc κ i) j (K + i) hF (by omega) hci hj (by omega) (by omega) hwi hmn) (cwV 3 hts gX0_goRound_X0_shiftWeights rfl rfl rfl (by decide +kernel) ⟨Nat.le_trans (Nat.le_of_ble_eq_true rfl) hRf, Nat.le_trans (Nat.le_of_ble_eq_true rfl) hRl⟩) (zpx hK hP) rfl rfl hl.1 rfl (lv_room (Nat.le_of_ble_eq_true rfl)) dX0_goRound_50 ⟨Nat.zero_le _, Nat.zero_le _⟩) hS (fun q _ h => h) (fun q h => h) (fun u9 t9 H locs ht9 hvm9 hw9 hB9 hz9 hk9 hS => ?_)
            rw [ht9] at hB9
            have hP := hB9
            subst hw9
            refine lv_iinc (v := nI (i + 1)) (lv' := [(1, .int (nI (i + 1))), (3, .int (nI (j))), (2, .int (nI ((xEc κ) (i)))), (0, .ref (ad 0))]) hx hb dX0_goRound_53 hl (k := 2) rfl (nI_1 _) (by decide) rfl (fun ls hl => ?_)
            refine lv_goto (tgt := 2) hx hb dX0_goRound_56 (by decide) ?_
            exact ih (i + 1) _ _ _ (by omega) (by omega) (by rw [e8]; exact hP) hS (lv_sub hl [0, 3] rfl)
set_option maxHeartbeats 4000000 in
set_option maxRecDepth 100000 in
theorem kX0_goRound (l : Launch) (E : zE) (ad : Nat → Nat) (hap : apart 96 ad) (κ : SX) (K : Nat) (hF : xF κ ≤ 16) (hN : xN κ ≤ 40) (hec : ∀ e, xEc κ e < 16) (hmb : ∀ c, c < 16 → xMb κ c < 2 ^ 31) (hK1 : 1023 ≤ K) (hK2 : K ≤ 1860) (hwB : wB (xF κ) K (xWt κ)) (hmn : ∀ c, c < 16 → ∀ f, f < xF κ → mg 1057 (xMn κ c f)) : Met l yX0_goRound wsX0_goRound ({ frames := 3, cells := 0, slots := 0, locals := 74 }) (va_Pc [.ref (ad 0)] (fun U => PX E ad κ U.heap ∧ zK E U)) (va_Qv (fun κ' : SX => κ' = sxWt κ (rdX κ (xWt κ) (xN κ))) (fun κ' t => PX E ad κ' t.heap) (aX 96 ad)) 0 0 (aX 96 ad) := by
  refine Met.ofW (cc := cX0_goRound) (maxL := 4) (ret := none) (by decide) rfl ?_
  intro p e s m args below meth c s₁ B hml hv
  obtain ⟨rfl, hP, hK⟩ := hv
  have hx := B.exec
  have hb := B.bytes
  have hr := B.returns
  have hts := atoms_spec (ws := wsX0_goRound) B.pre
  have hown : s.vm.findClass RX0 = some m.cls := findClass_of_methodNamed B.named
  have hlocks := B.notSynchronized
  have hS : va_S (aX 96 ad) s.heap s.heap [] := va_S.rf
  have hA : ∀ k, k < 96 → aX 96 ad (ad k) := fun k hk => ⟨k, hk, rfl⟩
  have hRf : 3 ≤ ((headSpec wsX0_goRound ({ frames := 3, cells := 0, slots := 0, locals := 74 })).room).frames := Nat.le_of_ble_eq_true rfl
  have hRl : 74 ≤ ((headSpec wsX0_goRound ({ frames := 3, cells := 0, slots := 0, locals := 74 })).room).locals := Nat.le_of_ble_eq_true rfl
  have hl := lv_entry ([.ref (ad 0)]) (n := 4) (Nat.le_of_ble_eq_true rfl)
  rw [lg_entry_eq]
  generalize (lg_sl ([.ref (ad 0)]) ++ List.replicate (4 - (lg_sl ([.ref (ad 0)])).length) Slot.unset).toArray = ls at hl ⊢
  have hl : lv_has ls 4 [(0, .ref (ad 0))] := hl
  refine lv_iconst (v := nI 0) hx hb dX0_goRound_0 (by decide +kernel) ?_
  refine lv_istore_n (lv' := [(1, .int (nI (0))), (0, .ref (ad 0))]) hx hb dX0_goRound_1 rfl hl (by decide) rfl (fun ls hl => ?_)
  refine lp_X0_goRound hx hb hml hts hown hK hap hRf hRl κ K hF hN hec hmb hK1 hK2 hwB hmn (fun H locs ls hP hS hl => ?_) (xN κ + 1) 0 _ _ _ (by omega) (by omega) hP hS (lv_sub hl [0, 1] rfl)
  exact W.vret hx hb hr (fun t ht hW => ⟨⟨_, rfl, rfl, (wn_h ht hP)⟩, hS.F ht⟩) hS.2.2 dX0_goRound_59
set_option maxHeartbeats 4000000 in
set_option maxRecDepth 100000 in
theorem lp_X0_countConfusions1 {p : Program} {l : Launch} {e : Env} {R : Room} {s : State} {m : MethodId} {args : Array Value} {below : List Frame} {meth : Method} {c : Code} {Q : State → Prop} {E : zE} {ad : Nat → Nat} (hx : p.tables.exec = Jvm.exec) (hb : c.code = cX0_countConfusions) (hml : c.maxLocals = 3) (hts : ∀ w ∈ wsX0_countConfusions, w.before args s = true) (hown : s.vm.findClass RX0 = some m.cls) (hK : zK E s) (hap : apart 96 ad) {H0 : Heap} (hRf : 3 ≤ R.frames) (hRl : 74 ≤ R.locals) (κ : SX) (K : Nat) (hF : xF κ ≤ 16) (hN : xN κ ≤ 40) (hec : ∀ e, xEc κ e < 16) (hmb : ∀ c, c < 16 → xMb κ c < 2 ^ 31) (hK1 : 1023 ≤ K) (hK2 : K ≤ 1900) (hwB : wB (xF κ) K (xWt κ)) (hmn : ∀ c, c < 16 → ∀ f, f < xF κ → mg 1057 (xMn κ c f)) (i : Nat) (hi16 : i < 16)
    (exit : ∀ (H : Heap) (locs : List Loc) (ls : Array Slot), PX E ad (sxCf κ (zrow (zrows (xCf κ) 16 (fun _ => 0) i) i 0 16)) H → va_S (aX 96 ad) H0 H locs → lv_has ls 3 [(1, .int (nI (i))), (0, .ref (ad 0))] → W p l e R s m args below meth c H locs 0 0 Q (F0 m 31 ls [])) :
    ∀ (n j : Nat) (H : Heap) (locs : List Loc) (ls : Array Slot), j ≤ 16 → 16 - j < n → PX E ad (sxCf κ (zrow (zrows (xCf κ) 16 (fun _ => 0) i) i 0 j)) H → va_S (aX 96 ad) H0 H locs → lv_has ls 3 [(2, .int (nI (j))), (1, .int (nI (i))), (0, .ref (ad 0))] → W p l e R s m args below meth c H locs 0 0 Q (F0 m 10 ls []) := by
  have hA : ∀ k, k < 96 → aX 96 ad (ad k) := fun k hk => ⟨k, hk, rfl⟩
  intro n
  induction n with
  | zero => intro j H locs ls h1 h2; omega
  | succ n ih =>
    intro j H locs ls hi hn hP hS hl
    refine lv_iload_n hx hb dX0_countConfusions_10 rfl (lv_at hl 0 rfl) ?_
    refine lv_bipush (v := nI 16) hx hb dX0_countConfusions_11 (by decide +kernel) ?_
    refine zb_ge (tgt := 31) hx hb (show j < 2 ^ 31 by omega) (show 16 < 2 ^ 31 by omega) dX0_countConfusions_13 (by decide) (fun h => ?_) (fun h => ?_)
    · have h : 16 ≤ j := h
      have hend : j = 16 := by omega
      subst hend
      exact exit _ _ _ hP hS (lv_sub hl [1, 2] rfl)
    · have h : j < 16 := h
      refine lv_aload_n hx hb dX0_countConfusions_16 rfl (lv_at hl 2 rfl) ?_
      refine gx hx hb hts innX0_countConfusions hown hK hP 10 (by decide) (by decide +kernel) rfl (v := .ref (ad 79)) rfl dX0_countConfusions_17 ?_
      refine lv_iload_n hx hb dX0_countConfusions_20 rfl (lv_at hl 1 rfl) ?_
      refine z_aald 1 hx hb hK hP 79 (by decide) cx_cfO rfl rfl (show i < 16 by omega) (by decide) (if_pos (show i < 16 by omega)) dX0_countConfusions_21 ?_
      refine lv_iload_n hx hb dX0_countConfusions_22 rfl (lv_at hl 0 rfl) ?_
      refine lv_iconst (v := nI 0) hx hb dX0_countConfusions_23 (by decide +kernel) ?_
      refine z_iast hx hb hK hP hap hA hS (80 + i) (show 80 + i < 96 by omega) (cx_cf (show i < 16 by omega)) (show j < 16 by omega) (by decide) dX0_countConfusions_24 (fun H locs hP hS => ?_)
      have hP := px_cf (show i < 16 by omega) hP
      refine lv_iinc (v := nI (j + 1)) (lv' := [(2, .int (nI (j + 1))), (1, .int (nI (i))), (0, .ref (ad 0))]) hx hb dX0_countConfusions_25 hl (k := 0) rfl (nI_1 _) (by decide) rfl (fun ls hl => ?_)
      refine lv_goto (tgt := 10) hx hb dX0_countConfusions_28 (by decide) ?_
      exact ih (j + 1) _ _ _ (by omega) (by omega) hP hS (lv_sub hl [0, 1, 2] rfl)
set_option maxHeartbeats 4000000 in
set_option maxRecDepth 100000 in
theorem lp_X0_countConfusions2 {p : Program} {l : Launch} {e : Env} {R : Room} {s : State} {m : MethodId} {args : Array Value} {below : List Frame} {meth : Method} {c : Code} {Q : State → Prop} {E : zE} {ad : Nat → Nat} (hx : p.tables.exec = Jvm.exec) (hb : c.code = cX0_countConfusions) (hml : c.maxLocals = 3) (hts : ∀ w ∈ wsX0_countConfusions, w.before args s = true) (hown : s.vm.findClass RX0 = some m.cls) (hK : zK E s) (hap : apart 96 ad) {H0 : Heap} (hRf : 3 ≤ R.frames) (hRl : 74 ≤ R.locals) (κ : SX) (K : Nat) (hF : xF κ ≤ 16) (hN : xN κ ≤ 40) (hec : ∀ e, xEc κ e < 16) (hmb : ∀ c, c < 16 → xMb κ c < 2 ^ 31) (hK1 : 1023 ≤ K) (hK2 : K ≤ 1900) (hwB : wB (xF κ) K (xWt κ)) (hmn : ∀ c, c < 16 → ∀ f, f < xF κ → mg 1057 (xMn κ c f))
    (exit : ∀ (H : Heap) (locs : List Loc) (ls : Array Slot), PX E ad (sxCf κ (zrows (xCf κ) 16 (fun _ => 0) 16)) H → va_S (aX 96 ad) H0 H locs → lv_has ls 3 [(0, .ref (ad 0))] → W p l e R s m args below meth c H locs 0 0 Q (F0 m 37 ls [])) :
    ∀ (n i : Nat) (H : Heap) (locs : List Loc) (ls : Array Slot), i ≤ 16 → 16 - i < n → PX E ad (sxCf κ (zrows (xCf κ) 16 (fun _ => 0) i)) H → va_S (aX 96 ad) H0 H locs → lv_has ls 3 [(1, .int (nI (i))), (0, .ref (ad 0))] → W p l e R s m args below meth c H locs 0 0 Q (F0 m 2 ls []) := by
  have hA : ∀ k, k < 96 → aX 96 ad (ad k) := fun k hk => ⟨k, hk, rfl⟩
  intro n
  induction n with
  | zero => intro i H locs ls h1 h2; omega
  | succ n ih =>
    intro i H locs ls hi hn hP hS hl
    refine lv_iload_n hx hb dX0_countConfusions_2 rfl (lv_at hl 0 rfl) ?_
    refine lv_bipush (v := nI 16) hx hb dX0_countConfusions_3 (by decide +kernel) ?_
    refine zb_ge (tgt := 37) hx hb (show i < 2 ^ 31 by omega) (show 16 < 2 ^ 31 by omega) dX0_countConfusions_5 (by decide) (fun h => ?_) (fun h => ?_)
    · have h : 16 ≤ i := h
      have hend : i = 16 := by omega
      subst hend
      exact exit _ _ _ hP hS (lv_sub hl [1] rfl)
    · have h : i < 16 := h
      refine lv_iconst (v := nI 0) hx hb dX0_countConfusions_8 (by decide +kernel) ?_
      refine lv_istore_n (lv' := [(2, .int (nI (0))), (1, .int (nI (i))), (0, .ref (ad 0))]) hx hb dX0_countConfusions_9 rfl hl (by decide) rfl (fun ls hl => ?_)
      refine lp_X0_countConfusions1 hx hb hml hts hown hK hap hRf hRl κ K hF hN hec hmb hK1 hK2 hwB hmn i h (fun H locs ls hP hS hl => ?_) (16 + 1) 0 _ _ _ (by omega) (by omega) hP hS (lv_sub hl [0, 1, 2] rfl)
      refine lv_iinc (v := nI (i + 1)) (lv' := [(1, .int (nI (i + 1))), (0, .ref (ad 0))]) hx hb dX0_countConfusions_31 hl (k := 0) rfl (nI_1 _) (by decide) rfl (fun ls hl => ?_)
      refine lv_goto (tgt := 2) hx hb dX0_countConfusions_34 (by decide) ?_
      exact ih (i + 1) _ _ _ (by omega) (by omega) hP hS (lv_sub hl [0, 1] rfl)
set_option maxHeartbeats 4000000 in
set_option maxRecDepth 100000 in
theorem lp_X0_countConfusions3 {p : Program} {l : Launch} {e : Env} {R : Room} {s : State} {m : MethodId} {args : Array Value} {below : List Frame} {meth : Method} {c : Code} {Q : State → Prop} {E : zE} {ad : Nat → Nat} (hx : p.tables.exec = Jvm.exec) (hb : c.code = cX0_countConfusions) (hml : c.maxLocals = 3) (hts : ∀ w ∈ wsX0_countConfusions, w.before args s = true) (hown : s.vm.findClass RX0 = some m.cls) (hK : zK E s) (hap : apart 96 ad) {H0 : Heap} (hRf : 3 ≤ R.frames) (hRl : 74 ≤ R.locals) (κ : SX) (K : Nat) (hF : xF κ ≤ 16) (hN : xN κ ≤ 40) (hec : ∀ e, xEc κ e < 16) (hmb : ∀ c, c < 16 → xMb κ c < 2 ^ 31) (hK1 : 1023 ≤ K) (hK2 : K ≤ 1900) (hwB : wB (xF κ) K (xWt κ)) (hmn : ∀ c, c < 16 → ∀ f, f < xF κ → mg 1057 (xMn κ c f))
    (exit : ∀ (H : Heap) (locs : List Loc) (ls : Array Slot), PX E ad (sxCf κ (cfX κ (zrows (xCf κ) 16 (fun _ => 0) 16) (xN κ))) H → va_S (aX 96 ad) H0 H locs → lv_has ls 3 [(0, .ref (ad 0))] → W p l e R s m args below meth c H locs 0 0 Q (F0 m 89 ls [])) :
    ∀ (n i : Nat) (H : Heap) (locs : List Loc) (ls : Array Slot), i ≤ xN κ → xN κ - i < n → PX E ad (sxCf κ (cfX κ (zrows (xCf κ) 16 (fun _ => 0) 16) i)) H → va_S (aX 96 ad) H0 H locs → lv_has ls 3 [(1, .int (nI (i))), (0, .ref (ad 0))] → W p l e R s m args below meth c H locs 0 0 Q (F0 m 39 ls []) := by
  have hA : ∀ k, k < 96 → aX 96 ad (ad k) := fun k hk => ⟨k, hk, rfl⟩
  intro n
  induction n with
  | zero => intro i H locs ls h1 h2; omega
  | succ n ih =>
    intro i H locs ls hi hn hP hS hl
    refine lv_iload_n hx hb dX0_countConfusions_39 rfl (lv_at hl 0 rfl) ?_
    refine lv_aload_n hx hb dX0_countConfusions_40 rfl (lv_at hl 1 rfl) ?_
    refine gx hx hb hts innX0_countConfusions hown hK hP 3 (by decide) (by decide +kernel) rfl (v := .int (nI ((xN κ)))) rfl dX0_countConfusions_41 ?_
    refine zb_ge (tgt := 89) hx hb (show i < 2 ^ 31 by omega) (show (xN κ) < 2 ^ 31 by omega) dX0_countConfusions_44 (by decide) (fun h => ?_) (fun h => ?_)
    · have h : (xN κ) ≤ i := h
      have hend : i = xN κ := by omega
      subst hend
      exact exit _ _ _ hP hS (lv_sub hl [1] rfl)
    · have h : i < (xN κ) := h
      have hci := hec i
      refine lv_aload_n hx hb dX0_countConfusions_47 rfl (lv_at hl 1 rfl) ?_
      refine lv_aload_n hx hb dX0_countConfusions_48 rfl (lv_at hl 1 rfl) ?_
      refine gx hx hb hts innX0_countConfusions hown hK hP 2 (by decide) (by decide +kernel) rfl (v := .ref (ad 2)) rfl dX0_countConfusions_49 ?_
      refine lv_iload_n hx hb dX0_countConfusions_52 rfl (lv_at hl 0 rfl) ?_
      refine z_aald 1 hx hb hK hP 2 (by decide) cx_evO rfl rfl (show i < 40 by omega) (by decide) (if_pos (show i < 40 by omega)) dX0_countConfusions_53 ?_
      refine lv_iconst (v := -1) hx hb dX0_countConfusions_54 (by decide +kernel) ?_
      refine va_calli (va_runV (As := [.ref (ad (3 + i)), .int (-1)]) (rest := []) ⟨hx, hb, hml, hown, hts⟩ (kX0_nearestClass l E ad hap (sxCf κ (cfX κ (zrows (xCf κ) 16 (fun _ => 0) 16) i)) (3 + i) K (xEv κ i) (-1) hF hmb (by omega) (cx_ev (κ := sxCf κ (cfX κ (zrows (xCf κ) 16 (fun _ => 0) 16) i)) (show i < 40 by omega)) hK1 hK2 (fun c hc f hf => ⟨hwB c f ⟨hc, hf⟩, hmn c hc f hf⟩)) (cwV 2 hts gX0_countConfusions_X0_nearestClass rfl rfl rfl (by decide +kernel) ⟨Nat.le_trans (Nat.le_of_ble_eq_true rfl) hRf, Nat.le_trans (Nat.le_of_ble_eq_true rfl) hRl⟩) (zpx hK hP) rfl rfl hl.1 rfl (lv_room (Nat.le_of_ble_eq_true rfl)) dX0_countConfusions_55 ⟨Nat.zero_le _, Nat.zero_le _⟩) hS (fun q _ h => h.elim) (fun q h => h.elim) (fun r u9 t9 H locs ht9 hvm9 hw9 hB9 hz9 hk9 hS => ?_)
      have hP := wn_ro hP hk9
      have hw9 : r = nearX κ (xEv κ i) (-1) := hw9
      rcases nearX_cases κ (xEv κ i) (-1) with e9 | ⟨j, hj, -, -, e9⟩
      · rw [e9] at hw9
        subst hw9
        have e8 : cfX κ (zrows (xCf κ) 16 (fun _ => 0) 16) (i + 1) = cfX κ (zrows (xCf κ) 16 (fun _ => 0) 16) i := if_pos e9
        refine lv_istore_n (lv' := [(2, .int (-1)), (1, .int (nI (i))), (0, .ref (ad 0))]) hx hb dX0_countConfusions_58 rfl hl (by decide) rfl (fun ls hl => ?_)
        refine lv_iload_n hx hb dX0_countConfusions_59 rfl (lv_at hl 0 rfl) ?_
        refine va_calli (va_runS (As := [.int (-1)]) (rest := []) ⟨hx, hb, hml, hown, hts⟩ (kX0_isClass l (-1)) (va_cwS 1 hts gX0_countConfusions_X0_isClass rfl rfl rfl (by decide +kernel) ⟨Nat.le_trans (Nat.le_of_ble_eq_true rfl) hRf, Nat.le_trans (Nat.le_of_ble_eq_true rfl) hRl⟩) zps rfl rfl hl.1 rfl (lv_room (Nat.le_of_ble_eq_true rfl)) dX0_countConfusions_60 ⟨Nat.zero_le _, Nat.zero_le _⟩) hS (fun q _ h => h.elim) (fun q h => h.elim) (fun r u9 t9 H locs ht9 hvm9 hw9 hB9 hz9 hk9 hS => ?_)
        have hP := wn_ro hP hk9
        obtain ⟨hno, rfl⟩ := hw9.resolve_left (fun ⟨j, hj, q, _⟩ => m1_ne (show j < 2 ^ 31 by omega) q.symm)
        refine zu_eq (tgt := 83) hx hb (show 0 < 2 ^ 31 by omega) dX0_countConfusions_63 (by decide) (fun h1 => ?_) (fun h1 => ?_)
        · have h1 : 0 = 0 := h1
          refine lv_iinc (v := nI (i + 1)) (lv' := [(1, .int (nI (i + 1))), (2, .int (-1)), (0, .ref (ad 0))]) hx hb dX0_countConfusions_83 hl (k := 1) rfl (nI_1 _) (by decide) rfl (fun ls hl => ?_)
          refine lv_goto (tgt := 39) hx hb dX0_countConfusions_86 (by decide) ?_
          exact ih (i + 1) _ _ _ (by omega) (by omega) (by rw [e8]; exact hP) hS (lv_sub hl [0, 2] rfl)
        · have h1 : 0 < 0 := h1
          exact absurd h1 (by decide)
      · rw [e9] at hw9
        subst hw9
        have e8 : cfX κ (zrows (xCf κ) 16 (fun _ => 0) 16) (i + 1) = up2 (cfX κ (zrows (xCf κ) 16 (fun _ => 0) 16) i) (xEc κ i) j (cfX κ (zrows (xCf κ) 16 (fun _ => 0) 16) i (xEc κ i) j + 1) := by
          rw [cfX, if_neg (fun q => by rw [e9] at q; exact m1_ne (by omega) q), e9, nI_clamp (by omega)]
        refine lv_istore_n (lv' := [(2, .int (nI (j))), (1, .int (nI (i))), (0, .ref (ad 0))]) hx hb dX0_countConfusions_58 rfl hl (by decide) rfl (fun ls hl => ?_)
        refine lv_iload_n hx hb dX0_countConfusions_59 rfl (lv_at hl 0 rfl) ?_
        refine va_calli (va_runS (As := [.int (nI (j))]) (rest := []) ⟨hx, hb, hml, hown, hts⟩ (kX0_isClass l (nI j)) (va_cwS 1 hts gX0_countConfusions_X0_isClass rfl rfl rfl (by decide +kernel) ⟨Nat.le_trans (Nat.le_of_ble_eq_true rfl) hRf, Nat.le_trans (Nat.le_of_ble_eq_true rfl) hRl⟩) zps rfl rfl hl.1 rfl (lv_room (Nat.le_of_ble_eq_true rfl)) dX0_countConfusions_60 ⟨Nat.zero_le _, Nat.zero_le _⟩) hS (fun q _ h => h.elim) (fun q h => h.elim) (fun r u9 t9 H locs ht9 hvm9 hw9 hB9 hz9 hk9 hS => ?_)
        have hP := wn_ro hP hk9
        obtain ⟨j9, -, -, rfl⟩ := hw9.resolve_right (fun q => q.1 j hj rfl)
        refine zu_eq (tgt := 83) hx hb (show 1 < 2 ^ 31 by omega) dX0_countConfusions_63 (by decide) (fun h1 => ?_) (fun h1 => ?_)
        · have h1 : 1 = 0 := h1
          exact absurd h1 (by decide)
        · have h1 : 0 < 1 := h1
          refine lv_aload_n hx hb dX0_countConfusions_66 rfl (lv_at hl 2 rfl) ?_
          refine gx hx hb hts innX0_countConfusions hown hK hP 10 (by decide) (by decide +kernel) rfl (v := .ref (ad 79)) rfl dX0_countConfusions_67 ?_
          refine lv_aload_n hx hb dX0_countConfusions_70 rfl (lv_at hl 2 rfl) ?_
          refine gx hx hb hts innX0_countConfusions hown hK hP 1 (by decide) (by decide +kernel) rfl (v := .ref (ad 1)) rfl dX0_countConfusions_71 ?_
          refine lv_iload_n hx hb dX0_countConfusions_74 rfl (lv_at hl 1 rfl) ?_
          refine z_iald hx hb hK hP 1 (by decide) cx_ec (show i < 40 by omega) (by decide) dX0_countConfusions_75 ?_
          refine z_aald 1 hx hb hK hP 79 (by decide) cx_cfO rfl rfl (show (xEc κ) (i) < 16 by omega) (by decide) (if_pos (show (xEc κ) (i) < 16 by omega)) dX0_countConfusions_76 ?_
          refine lv_iload_n hx hb dX0_countConfusions_77 rfl (lv_at hl 0 rfl) ?_
          refine lv_dup2_11 hx hb dX0_countConfusions_78 rfl rfl ?_
          refine z_iald hx hb hK hP (80 + ((xEc κ) (i))) (show 80 + ((xEc κ) (i)) < 96 by omega) (cx_cf (show ((xEc κ) (i)) < 16 by omega)) (show j < 16 by omega) (by decide) dX0_countConfusions_79 ?_
          refine lv_iconst (v := nI 1) hx hb dX0_countConfusions_80 (by decide +kernel) ?_
          refine zv_iadd (v := (nI (((cfX κ (zrows (xCf κ) 16 (fun _ => 0) 16) i) (((xEc κ) (i))) (j)) + 1))) hx hb dX0_countConfusions_81 (nI_add _ _) ?_
          refine z_iast hx hb hK hP hap hA hS (80 + ((xEc κ) (i))) (show 80 + ((xEc κ) (i)) < 96 by omega) (cx_cf (show ((xEc κ) (i)) < 16 by omega)) (show j < 16 by omega) (by decide) dX0_countConfusions_82 (fun H locs hP hS => ?_)
          have hP := px_cf (show ((xEc κ) (i)) < 16 by omega) hP
          refine lv_iinc (v := nI (i + 1)) (lv' := [(1, .int (nI (i + 1))), (2, .int (nI (j))), (0, .ref (ad 0))]) hx hb dX0_countConfusions_83 hl (k := 1) rfl (nI_1 _) (by decide) rfl (fun ls hl => ?_)
          refine lv_goto (tgt := 39) hx hb dX0_countConfusions_86 (by decide) ?_
          exact ih (i + 1) _ _ _ (by omega) (by omega) (by rw [e8]; exact hP) hS (lv_sub hl [0, 2] rfl)
set_option maxHeartbeats 4000000 in
set_option maxRecDepth 100000 in
theorem kX0_countConfusions (l : Launch) (E : zE) (ad : Nat → Nat) (hap : apart 96 ad) (κ : SX) (K : Nat) (hF : xF κ ≤ 16) (hN : xN κ ≤ 40) (hec : ∀ e, xEc κ e < 16) (hmb : ∀ c, c < 16 → xMb κ c < 2 ^ 31) (hK1 : 1023 ≤ K) (hK2 : K ≤ 1900) (hwB : wB (xF κ) K (xWt κ)) (hmn : ∀ c, c < 16 → ∀ f, f < xF κ → mg 1057 (xMn κ c f)) : Met l yX0_countConfusions wsX0_countConfusions ({ frames := 3, cells := 0, slots := 0, locals := 74 }) (va_Pc [.ref (ad 0)] (fun U => PX E ad κ U.heap ∧ zK E U)) (va_Qv (fun κ' : SX => κ' = sxCf κ (cfX κ (zrows (xCf κ) 16 (fun _ => 0) 16) (xN κ))) (fun κ' t => PX E ad κ' t.heap) (aX 96 ad)) 0 0 (aX 96 ad) := by
  refine Met.ofW (cc := cX0_countConfusions) (maxL := 3) (ret := none) (by decide) rfl ?_
  intro p e s m args below meth c s₁ B hml hv
  obtain ⟨rfl, hP, hK⟩ := hv
  have hx := B.exec
  have hb := B.bytes
  have hr := B.returns
  have hts := atoms_spec (ws := wsX0_countConfusions) B.pre
  have hown : s.vm.findClass RX0 = some m.cls := findClass_of_methodNamed B.named
  have hlocks := B.notSynchronized
  have hS : va_S (aX 96 ad) s.heap s.heap [] := va_S.rf
  have hA : ∀ k, k < 96 → aX 96 ad (ad k) := fun k hk => ⟨k, hk, rfl⟩
  have hRf : 3 ≤ ((headSpec wsX0_countConfusions ({ frames := 3, cells := 0, slots := 0, locals := 74 })).room).frames := Nat.le_of_ble_eq_true rfl
  have hRl : 74 ≤ ((headSpec wsX0_countConfusions ({ frames := 3, cells := 0, slots := 0, locals := 74 })).room).locals := Nat.le_of_ble_eq_true rfl
  have hl := lv_entry ([.ref (ad 0)]) (n := 3) (Nat.le_of_ble_eq_true rfl)
  rw [lg_entry_eq]
  generalize (lg_sl ([.ref (ad 0)]) ++ List.replicate (3 - (lg_sl ([.ref (ad 0)])).length) Slot.unset).toArray = ls at hl ⊢
  have hl : lv_has ls 3 [(0, .ref (ad 0))] := hl
  refine lv_iconst (v := nI 0) hx hb dX0_countConfusions_0 (by decide +kernel) ?_
  refine lv_istore_n (lv' := [(1, .int (nI (0))), (0, .ref (ad 0))]) hx hb dX0_countConfusions_1 rfl hl (by decide) rfl (fun ls hl => ?_)
  refine lp_X0_countConfusions2 hx hb hml hts hown hK hap hRf hRl κ K hF hN hec hmb hK1 hK2 hwB hmn (fun H locs ls hP hS hl => ?_) (16 + 1) 0 _ _ _ (by omega) (by omega) hP hS (lv_sub hl [0, 1] rfl)
  refine lv_iconst (v := nI 0) hx hb dX0_countConfusions_37 (by decide +kernel) ?_
  refine lv_istore_n (lv' := [(1, .int (nI (0))), (0, .ref (ad 0))]) hx hb dX0_countConfusions_38 rfl hl (by decide) rfl (fun ls hl => ?_)
  refine lp_X0_countConfusions3 hx hb hml hts hown hK hap hRf hRl κ K hF hN hec hmb hK1 hK2 hwB hmn (fun H locs ls hP hS hl => ?_) (xN κ + 1) 0 _ _ _ (by omega) (by omega) hP hS (lv_sub hl [0, 1] rfl)
  exact W.vret hx hb hr (fun t ht hW => ⟨⟨_, rfl, rfl, (wn_h ht hP)⟩, hS.F ht⟩) hS.2.2 dX0_countConfusions_89
def cnP (κ : SX) (x y r : Int32) : Prop := (∃ i j : Nat, i < 16 ∧ j < 16 ∧ x = nI i ∧ y = nI j ∧ r = nI (xCf κ i j)) ∨ (((∀ j : Nat, j < 16 → x ≠ nI j) ∨ ∀ j : Nat, j < 16 → y ≠ nI j) ∧ r = -12)
set_option maxHeartbeats 4000000 in
set_option maxRecDepth 100000 in
theorem kX0_confused (l : Launch) (E : zE) (ad : Nat → Nat) (hap : apart 96 ad) (κ : SX) (x y : Int32) : Met l yX0_confused wsX0_confused ({ frames := 1, cells := 0, slots := 0, locals := 20 }) (va_Pc [.ref (ad 0), .int (x), .int (y)] (fun U => PX E ad κ U.heap ∧ zK E U)) (va_Qi (fun (r : Int32) (_ : Unit) => cnP κ x y r) (fun _ _ => True) (fun _ => False)) 0 0 (fun _ => False) := by
  refine Met.ofW (cc := cX0_confused) (maxL := 3) (ret := some .int) (by decide) rfl ?_
  intro p e s m args below meth c s₁ B hml hv
  obtain ⟨rfl, hP, hK⟩ := hv
  have hx := B.exec
  have hb := B.bytes
  have hr := B.returns
  have hts := atoms_spec (ws := wsX0_confused) B.pre
  have hown : s.vm.findClass RX0 = some m.cls := findClass_of_methodNamed B.named
  have hlocks := B.notSynchronized
  have hS : va_S (fun _ => False) s.heap s.heap [] := va_S.rf
  have hRf : 1 ≤ ((headSpec wsX0_confused ({ frames := 1, cells := 0, slots := 0, locals := 20 })).room).frames := Nat.le_of_ble_eq_true rfl
  have hRl : 20 ≤ ((headSpec wsX0_confused ({ frames := 1, cells := 0, slots := 0, locals := 20 })).room).locals := Nat.le_of_ble_eq_true rfl
  have hl := lv_entry ([.ref (ad 0), .int (x), .int (y)]) (n := 3) (Nat.le_of_ble_eq_true rfl)
  rw [lg_entry_eq]
  generalize (lg_sl ([.ref (ad 0), .int (x), .int (y)]) ++ List.replicate (3 - (lg_sl ([.ref (ad 0), .int (x), .int (y)])).length) Slot.unset).toArray = ls at hl ⊢
  have hl : lv_has ls 3 [(0, .ref (ad 0)), (1, .int (x)), (2, .int (y))] := hl
  refine lv_iload_n hx hb dX0_confused_0 rfl (lv_at hl 1 rfl) ?_
  refine va_calli (va_runS (As := [.int (x)]) (rest := []) ⟨hx, hb, hml, hown, hts⟩ (kX0_isClass l x) (va_cwS 1 hts gX0_confused_X0_isClass rfl rfl rfl (by decide +kernel) ⟨Nat.le_trans (Nat.le_of_ble_eq_true rfl) hRf, Nat.le_trans (Nat.le_of_ble_eq_true rfl) hRl⟩) zps rfl rfl hl.1 rfl (lv_room (Nat.le_of_ble_eq_true rfl)) dX0_confused_1 ⟨Nat.zero_le _, Nat.zero_le _⟩) hS (fun q _ h => h.elim) (fun q h => h.elim) (fun r u9 t9 H locs ht9 hvm9 hw9 hB9 hz9 hk9 hS => ?_)
  have hP := wn_ro hP hk9
  rcases hw9 with ⟨i, hi, rfl, rfl⟩ | ⟨hno, rfl⟩
  · refine zu_eq (tgt := 14) hx hb (show 1 < 2 ^ 31 by omega) dX0_confused_4 (by decide) (fun h => ?_) (fun h => ?_)
    · have h : 1 = 0 := h
      exact absurd h (by decide)
    · have h : 0 < 1 := h
      refine lv_iload_n hx hb dX0_confused_7 rfl (lv_at hl 2 rfl) ?_
      refine va_calli (va_runS (As := [.int (y)]) (rest := []) ⟨hx, hb, hml, hown, hts⟩ (kX0_isClass l y) (va_cwS 1 hts gX0_confused_X0_isClass rfl rfl rfl (by decide +kernel) ⟨Nat.le_trans (Nat.le_of_ble_eq_true rfl) hRf, Nat.le_trans (Nat.le_of_ble_eq_true rfl) hRl⟩) zps rfl rfl hl.1 rfl (lv_room (Nat.le_of_ble_eq_true rfl)) dX0_confused_8 ⟨Nat.zero_le _, Nat.zero_le _⟩) hS (fun q _ h => h.elim) (fun q h => h.elim) (fun r u9 t9 H locs ht9 hvm9 hw9 hB9 hz9 hk9 hS => ?_)
      have hP := wn_ro hP hk9
      rcases hw9 with ⟨j, hj, rfl, rfl⟩ | ⟨hno, rfl⟩
      · refine zu_ne (tgt := 17) hx hb (show 1 < 2 ^ 31 by omega) dX0_confused_11 (by decide) (fun h => ?_) (fun h => ?_)
        · have h : 0 < 1 := h
          refine lv_aload_n hx hb dX0_confused_17 rfl (lv_at hl 0 rfl) ?_
          refine gx hx hb hts innX0_confused hown hK hP 10 (by decide) (by decide +kernel) rfl (v := .ref (ad 79)) rfl dX0_confused_18 ?_
          refine lv_iload_n hx hb dX0_confused_21 rfl (lv_at hl 1 rfl) ?_
          refine z_aald 1 hx hb hK hP 79 (by decide) cx_cfO rfl rfl (show i < 16 by omega) (by decide) (if_pos (show i < 16 by omega)) dX0_confused_22 ?_
          refine lv_iload_n hx hb dX0_confused_23 rfl (lv_at hl 2 rfl) ?_
          refine z_iald hx hb hK hP (80 + i) (show 80 + i < 96 by omega) (cx_cf (show i < 16 by omega)) (show j < 16 by omega) (by decide) dX0_confused_24 ?_
          exact W.iret hx hb hr (fun t ht hW => ⟨⟨_, (), rfl, Or.inl ⟨i, j, hi, hj, rfl, rfl, rfl⟩, trivial⟩, hS.F ht⟩) hS.2.2 dX0_confused_25
        · have h : 1 = 0 := h
          exact absurd h (by decide)
      · refine zu_ne (tgt := 17) hx hb (show 0 < 2 ^ 31 by omega) dX0_confused_11 (by decide) (fun h => ?_) (fun h => ?_)
        · have h : 0 < 0 := h
          exact absurd h (by decide)
        · have h : 0 = 0 := h
          refine lv_bipush (v := -12) hx hb dX0_confused_14 (by decide +kernel) ?_
          exact W.iret hx hb hr (fun t ht hW => ⟨⟨_, (), rfl, Or.inr ⟨Or.inr hno, rfl⟩, trivial⟩, hS.F ht⟩) hS.2.2 dX0_confused_16
  · refine zu_eq (tgt := 14) hx hb (show 0 < 2 ^ 31 by omega) dX0_confused_4 (by decide) (fun h => ?_) (fun h => ?_)
    · have h : 0 = 0 := h
      refine lv_bipush (v := -12) hx hb dX0_confused_14 (by decide +kernel) ?_
      exact W.iret hx hb hr (fun t ht hW => ⟨⟨_, (), rfl, Or.inr ⟨Or.inl hno, rfl⟩, trivial⟩, hS.F ht⟩) hS.2.2 dX0_confused_16
    · have h : 0 < 0 := h
      exact absurd h (by decide)
/-- the nearest class of the sign, and the nearest of all others -/
def n1X (κ : SX) : Int32 := nearX κ (xSg κ) (-1)
def n2X (κ : SX) : Int32 := nearX κ (xSg κ) (n1X κ)
/-- what tell answers of the rank x -/
def tlP (κ : SX) (x r : Int32) : Prop := ((∀ j : Nat, j < 2 → x ≠ nI j) ∧ r = -12) ∨ (∃ j : Nat, j < 2 ∧ x = nI j ∧ ((xMd κ = 0 ∧ r = -13) ∨ (0 < xMd κ ∧ (((∀ f, f < xF κ → xSg κ f = 0) ∧ r = -3) ∨ ((∃ f, f < xF κ ∧ 0 < xSg κ f) ∧ ∃ z : Int32, tooX κ (n1X κ) (n2X κ) z ∧ ((¬ z = 0 ∧ r = -2) ∨ (z = 0 ∧ r = if j = 0 then n1X κ else n2X κ)))))))
set_option maxHeartbeats 4000000 in
set_option maxRecDepth 100000 in
theorem kX0_tell (l : Launch) (E : zE) (ad : Nat → Nat) (hap : apart 96 ad) (κ : SX) (x : Int32) (K : Nat) (hF : xF κ ≤ 16) (hmb : ∀ c, c < 16 → xMb κ c < 2 ^ 31) (hmd : xMd κ ≤ 1) (hsg : ∀ f, f < xF κ → xSg κ f < 2 ^ 31) (hK1 : 1023 ≤ K) (hK2 : K ≤ 1900) (hw : ∀ c, c < 16 → ∀ f, f < xF κ → mg K (xWt κ c f) ∧ mg 1057 (xMn κ c f)) : Met l yX0_tell wsX0_tell ({ frames := 3, cells := 0, slots := 0, locals := 74 }) (va_Pc [.ref (ad 0), .int (x)] (fun U => PX E ad κ U.heap ∧ zK E U)) (va_Qi (fun (r : Int32) (_ : Unit) => tlP κ x r) (fun _ _ => True) (fun _ => False)) 0 0 (fun _ => False) := by
  refine Met.ofW (cc := cX0_tell) (maxL := 4) (ret := some .int) (by decide) rfl ?_
  intro p e s m args below meth c s₁ B hml hv
  obtain ⟨rfl, hP, hK⟩ := hv
  have hx := B.exec
  have hb := B.bytes
  have hr := B.returns
  have hts := atoms_spec (ws := wsX0_tell) B.pre
  have hown : s.vm.findClass RX0 = some m.cls := findClass_of_methodNamed B.named
  have hlocks := B.notSynchronized
  have hS : va_S (fun _ => False) s.heap s.heap [] := va_S.rf
  have hRf : 3 ≤ ((headSpec wsX0_tell ({ frames := 3, cells := 0, slots := 0, locals := 74 })).room).frames := Nat.le_of_ble_eq_true rfl
  have hRl : 74 ≤ ((headSpec wsX0_tell ({ frames := 3, cells := 0, slots := 0, locals := 74 })).room).locals := Nat.le_of_ble_eq_true rfl
  have hl := lv_entry ([.ref (ad 0), .int (x)]) (n := 4) (Nat.le_of_ble_eq_true rfl)
  rw [lg_entry_eq]
  generalize (lg_sl ([.ref (ad 0), .int (x)]) ++ List.replicate (4 - (lg_sl ([.ref (ad 0), .int (x)])).length) Slot.unset).toArray = ls at hl ⊢
  have hl : lv_has ls 4 [(0, .ref (ad 0)), (1, .int (x))] := hl
  refine lv_iload_n hx hb dX0_tell_0 rfl (lv_at hl 1 rfl) ?_
  refine va_calli (va_runS (As := [.int (x)]) (rest := []) ⟨hx, hb, hml, hown, hts⟩ (kX0_isRank l x) (va_cwS 1 hts gX0_tell_X0_isRank rfl rfl rfl (by decide +kernel) ⟨Nat.le_trans (Nat.le_of_ble_eq_true rfl) hRf, Nat.le_trans (Nat.le_of_ble_eq_true rfl) hRl⟩) zps rfl rfl hl.1 rfl (lv_room (Nat.le_of_ble_eq_true rfl)) dX0_tell_1 ⟨Nat.zero_le _, Nat.zero_le _⟩) hS (fun q _ h => h.elim) (fun q h => h.elim) (fun r u9 t9 H locs ht9 hvm9 hw9 hB9 hz9 hk9 hS => ?_)
  have hP := wn_ro hP hk9
  rcases hw9 with ⟨j, hj, rfl, rfl⟩ | ⟨hno, rfl⟩
  · refine zu_ne (tgt := 10) hx hb (show 1 < 2 ^ 31 by omega) dX0_tell_4 (by decide) (fun h => ?_) (fun h => ?_)
    · have h : 0 < 1 := h
      refine lv_aload_n hx hb dX0_tell_10 rfl (lv_at hl 0 rfl) ?_
      refine gx hx hb hts innX0_tell hown hK hP 6 (by decide) (by decide +kernel) rfl (v := .int (nI ((xMd κ)))) rfl dX0_tell_11 ?_
      refine zu_ne (tgt := 20) hx hb (show (xMd κ) < 2 ^ 31 by omega) dX0_tell_14 (by decide) (fun h2 => ?_) (fun h2 => ?_)
      · have h2 : 0 < (xMd κ) := h2
        refine lv_aload_n hx hb dX0_tell_20 rfl (lv_at hl 0 rfl) ?_
        refine va_calli (va_runV (As := []) (rest := []) ⟨hx, hb, hml, hown, hts⟩ (kX0_isSignBlank l E ad hap κ hF hsg) (cwV 0 hts gX0_tell_X0_isSignBlank rfl rfl rfl (by decide +kernel) ⟨Nat.le_trans (Nat.le_of_ble_eq_true rfl) hRf, Nat.le_trans (Nat.le_of_ble_eq_true rfl) hRl⟩) (zpx hK hP) rfl rfl hl.1 rfl (lv_room (Nat.le_of_ble_eq_true rfl)) dX0_tell_21 ⟨Nat.zero_le _, Nat.zero_le _⟩) hS (fun q _ h => h.elim) (fun q h => h.elim) (fun r u9 t9 H locs ht9 hvm9 hw9 hB9 hz9 hk9 hS => ?_)
        have hP := wn_ro hP hk9
        rcases hw9 with ⟨rfl, hz⟩ | ⟨rfl, hz⟩
        · refine zu_eq (tgt := 30) hx hb (show 1 < 2 ^ 31 by omega) dX0_tell_24 (by decide) (fun h3 => ?_) (fun h3 => ?_)
          · have h3 : 1 = 0 := h3
            exact absurd h3 (by decide)
          · have h3 : 0 < 1 := h3
            refine lv_bipush (v := -3) hx hb dX0_tell_27 (by decide +kernel) ?_
            exact W.iret hx hb hr (fun t ht hW => ⟨⟨_, (), rfl, Or.inr ⟨j, hj, rfl, Or.inr ⟨h2, Or.inl ⟨hz, rfl⟩⟩⟩, trivial⟩, hS.F ht⟩) hS.2.2 dX0_tell_29
        · refine zu_eq (tgt := 30) hx hb (show 0 < 2 ^ 31 by omega) dX0_tell_24 (by decide) (fun h3 => ?_) (fun h3 => ?_)
          · have h3 : 0 = 0 := h3
            refine lv_aload_n hx hb dX0_tell_30 rfl (lv_at hl 0 rfl) ?_
            refine lv_aload_n hx hb dX0_tell_31 rfl (lv_at hl 0 rfl) ?_
            refine gx hx hb hts innX0_tell hown hK hP 4 (by decide) (by decide +kernel) rfl (v := .ref (ad 43)) rfl dX0_tell_32 ?_
            refine lv_iconst (v := -1) hx hb dX0_tell_35 (by decide +kernel) ?_
            refine va_calli (va_runV (As := [.ref (ad 43), .int (-1)]) (rest := []) ⟨hx, hb, hml, hown, hts⟩ (kX0_nearestClass l E ad hap κ 43 K (xSg κ) (-1) hF hmb (by decide) cx_sg hK1 hK2 hw) (cwV 2 hts gX0_tell_X0_nearestClass rfl rfl rfl (by decide +kernel) ⟨Nat.le_trans (Nat.le_of_ble_eq_true rfl) hRf, Nat.le_trans (Nat.le_of_ble_eq_true rfl) hRl⟩) (zpx hK hP) rfl rfl hl.1 rfl (lv_room (Nat.le_of_ble_eq_true rfl)) dX0_tell_36 ⟨Nat.zero_le _, Nat.zero_le _⟩) hS (fun q _ h => h.elim) (fun q h => h.elim) (fun r u9 t9 H locs ht9 hvm9 hw9 hB9 hz9 hk9 hS => ?_)
            have hP := wn_ro hP hk9
            subst hw9
            refine lv_istore_n (lv' := [(2, .int (n1X κ)), (0, .ref (ad 0)), (1, .int (nI (j)))]) hx hb dX0_tell_39 rfl hl (by decide) rfl (fun ls hl => ?_)
            refine lv_aload_n hx hb dX0_tell_40 rfl (lv_at hl 1 rfl) ?_
            refine lv_aload_n hx hb dX0_tell_41 rfl (lv_at hl 1 rfl) ?_
            refine gx hx hb hts innX0_tell hown hK hP 4 (by decide) (by decide +kernel) rfl (v := .ref (ad 43)) rfl dX0_tell_42 ?_
            refine lv_iload_n hx hb dX0_tell_45 rfl (lv_at hl 0 rfl) ?_
            refine va_calli (va_runV (As := [.ref (ad 43), .int (n1X κ)]) (rest := []) ⟨hx, hb, hml, hown, hts⟩ (kX0_nearestClass l E ad hap κ 43 K (xSg κ) (n1X κ) hF hmb (by decide) cx_sg hK1 hK2 hw) (cwV 2 hts gX0_tell_X0_nearestClass rfl rfl rfl (by decide +kernel) ⟨Nat.le_trans (Nat.le_of_ble_eq_true rfl) hRf, Nat.le_trans (Nat.le_of_ble_eq_true rfl) hRl⟩) (zpx hK hP) rfl rfl hl.1 rfl (lv_room (Nat.le_of_ble_eq_true rfl)) dX0_tell_46 ⟨Nat.zero_le _, Nat.zero_le _⟩) hS (fun q _ h => h.elim) (fun q h => h.elim) (fun r u9 t9 H locs ht9 hvm9 hw9 hB9 hz9 hk9 hS => ?_)
            have hP := wn_ro hP hk9
            subst hw9
            refine lv_istore_n (lv' := [(3, .int (n2X κ)), (2, .int (n1X κ)), (0, .ref (ad 0)), (1, .int (nI (j)))]) hx hb dX0_tell_49 rfl hl (by decide) rfl (fun ls hl => ?_)
            refine lv_aload_n hx hb dX0_tell_50 rfl (lv_at hl 2 rfl) ?_
            refine lv_iload_n hx hb dX0_tell_51 rfl (lv_at hl 1 rfl) ?_
            refine lv_iload_n hx hb dX0_tell_52 rfl (lv_at hl 0 rfl) ?_
            refine va_calli (va_runV (As := [.int (n1X κ), .int (n2X κ)]) (rest := []) ⟨hx, hb, hml, hown, hts⟩ (kX0_isTooClose l E ad hap κ (n1X κ) (n2X κ) K hF hK1 hK2 hw) (cwV 2 hts gX0_tell_X0_isTooClose rfl rfl rfl (by decide +kernel) ⟨Nat.le_trans (Nat.le_of_ble_eq_true rfl) hRf, Nat.le_trans (Nat.le_of_ble_eq_true rfl) hRl⟩) (zpx hK hP) rfl rfl hl.1 rfl (lv_room (Nat.le_of_ble_eq_true rfl)) dX0_tell_53 ⟨Nat.zero_le _, Nat.zero_le _⟩) hS (fun q _ h => h.elim) (fun q h => h.elim) (fun z u9 t9 H locs ht9 hvm9 hw9 hB9 hz9 hk9 hS => ?_)
            have hP := wn_ro hP hk9
            refine lv_if_eq (tgt := 62) hx hb dX0_tell_56 (by decide) (fun h4 => ?_) (fun h4 => ?_)
            · refine lv_iload_n hx hb dX0_tell_62 rfl (lv_at hl 3 rfl) ?_
              refine zu_ne (tgt := 70) hx hb (show j < 2 ^ 31 by omega) dX0_tell_63 (by decide) (fun h5 => ?_) (fun h5 => ?_)
              · have h5 : 0 < j := h5
                refine lv_iload_n hx hb dX0_tell_70 rfl (lv_at hl 0 rfl) ?_
                exact W.iret hx hb hr (fun t ht hW => ⟨⟨_, (), rfl, Or.inr ⟨j, hj, rfl, Or.inr ⟨h2, Or.inr ⟨hz, z, hw9, Or.inr ⟨h4, (if_neg (Nat.ne_of_gt h5)).symm⟩⟩⟩⟩, trivial⟩, hS.F ht⟩) hS.2.2 dX0_tell_71
              · have h5 : j = 0 := h5
                refine lv_iload_n hx hb dX0_tell_66 rfl (lv_at hl 1 rfl) ?_
                refine lv_goto (tgt := 71) hx hb dX0_tell_67 (by decide) ?_
                exact W.iret hx hb hr (fun t ht hW => ⟨⟨_, (), rfl, Or.inr ⟨j, hj, rfl, Or.inr ⟨h2, Or.inr ⟨hz, z, hw9, Or.inr ⟨h4, (if_pos h5).symm⟩⟩⟩⟩, trivial⟩, hS.F ht⟩) hS.2.2 dX0_tell_71
            · refine lv_bipush (v := -2) hx hb dX0_tell_59 (by decide +kernel) ?_
              exact W.iret hx hb hr (fun t ht hW => ⟨⟨_, (), rfl, Or.inr ⟨j, hj, rfl, Or.inr ⟨h2, Or.inr ⟨hz, z, hw9, Or.inl ⟨h4, rfl⟩⟩⟩⟩, trivial⟩, hS.F ht⟩) hS.2.2 dX0_tell_61
          · have h3 : 0 < 0 := h3
            exact absurd h3 (by decide)
      · have h2 : (xMd κ) = 0 := h2
        refine lv_bipush (v := -13) hx hb dX0_tell_17 (by decide +kernel) ?_
        exact W.iret hx hb hr (fun t ht hW => ⟨⟨_, (), rfl, Or.inr ⟨j, hj, rfl, Or.inl ⟨h2, rfl⟩⟩, trivial⟩, hS.F ht⟩) hS.2.2 dX0_tell_19
    · have h : 1 = 0 := h
      exact absurd h (by decide)
  · refine zu_ne (tgt := 10) hx hb (show 0 < 2 ^ 31 by omega) dX0_tell_4 (by decide) (fun h => ?_) (fun h => ?_)
    · have h : 0 < 0 := h
      exact absurd h (by decide)
    · have h : 0 = 0 := h
      refine lv_bipush (v := -12) hx hb dX0_tell_7 (by decide +kernel) ?_
      exact W.iret hx hb hr (fun t ht hW => ⟨⟨_, (), rfl, Or.inl ⟨hno, rfl⟩, trivial⟩, hS.F ht⟩) hS.2.2 dX0_tell_9
/-- the distance told of a class -/
def d1000 (x : UInt64) : Int64 := FP.d2l (FP.dmul x k1000)
def rkX (κ : SX) (j : Nat) : Int32 := if j = 1 then n2X κ else n1X κ
def dsP (κ : SX) (x : Int32) (r : Int64) : Prop := ((∀ j : Nat, j < 2 → x ≠ nI j) ∧ r = -12) ∨ (∃ j : Nat, j < 2 ∧ x = nI j ∧ ((xMd κ = 0 ∧ r = -13) ∨ (0 < xMd κ ∧ ((rkX κ j = -1 ∧ r = -1) ∨ (∃ c : Nat, c < 16 ∧ rkX κ j = nI c ∧ r = d1000 (ddX κ (xSg κ) c))))))
set_option maxHeartbeats 4000000 in
set_option maxRecDepth 100000 in
theorem kX0_distance (l : Launch) (E : zE) (ad : Nat → Nat) (hap : apart 96 ad) (κ : SX) (x : Int32) (K : Nat) (hF : xF κ ≤ 16) (hmb : ∀ c, c < 16 → xMb κ c < 2 ^ 31) (hmd : xMd κ ≤ 1) (hsg : ∀ f, f < xF κ → xSg κ f < 2 ^ 31) (hK1 : 1023 ≤ K) (hK2 : K ≤ 1900) (hw : ∀ c, c < 16 → ∀ f, f < xF κ → mg K (xWt κ c f) ∧ mg 1057 (xMn κ c f)) : Met l yX0_distance wsX0_distance ({ frames := 3, cells := 0, slots := 0, locals := 74 }) (va_Pc [.ref (ad 0), .int (x)] (fun U => PX E ad κ U.heap ∧ zK E U)) (va_Ql (fun (r : Int64) (_ : Unit) => dsP κ x r) (fun _ _ => True) (fun _ => False)) 0 0 (fun _ => False) := by
  refine Met.ofW (cc := cX0_distance) (maxL := 3) (ret := some .long) (by decide) rfl ?_
  intro p e s m args below meth c s₁ B hml hv
  obtain ⟨rfl, hP, hK⟩ := hv
  have hx := B.exec
  have hb := B.bytes
  have hr := B.returns
  have hts := atoms_spec (ws := wsX0_distance) B.pre
  have hown : s.vm.findClass RX0 = some m.cls := findClass_of_methodNamed B.named
  have hlocks := B.notSynchronized
  have hS : va_S (fun _ => False) s.heap s.heap [] := va_S.rf
  have hRf : 3 ≤ ((headSpec wsX0_distance ({ frames := 3, cells := 0, slots := 0, locals := 74 })).room).frames := Nat.le_of_ble_eq_true rfl
  have hRl : 74 ≤ ((headSpec wsX0_distance ({ frames := 3, cells := 0, slots := 0, locals := 74 })).room).locals := Nat.le_of_ble_eq_true rfl
  have hl := lv_entry ([.ref (ad 0), .int (x)]) (n := 3) (Nat.le_of_ble_eq_true rfl)
  rw [lg_entry_eq]
  generalize (lg_sl ([.ref (ad 0), .int (x)]) ++ List.replicate (3 - (lg_sl ([.ref (ad 0), .int (x)])).length) Slot.unset).toArray = ls at hl ⊢
  have hl : lv_has ls 3 [(0, .ref (ad 0)), (1, .int (x))] := hl
  refine lv_iload_n hx hb dX0_distance_0 rfl (lv_at hl 1 rfl) ?_
  refine va_calli (va_runS (As := [.int (x)]) (rest := []) ⟨hx, hb, hml, hown, hts⟩ (kX0_isRank l x) (va_cwS 1 hts gX0_distance_X0_isRank rfl rfl rfl (by decide +kernel) ⟨Nat.le_trans (Nat.le_of_ble_eq_true rfl) hRf, Nat.le_trans (Nat.le_of_ble_eq_true rfl) hRl⟩) zps rfl rfl hl.1 rfl (lv_room (Nat.le_of_ble_eq_true rfl)) dX0_distance_1 ⟨Nat.zero_le _, Nat.zero_le _⟩) hS (fun q _ h => h.elim) (fun q h => h.elim) (fun r u9 t9 H locs ht9 hvm9 hw9 hB9 hz9 hk9 hS => ?_)
  have hP := wn_ro hP hk9
  rcases hw9 with ⟨j, hj, rfl, rfl⟩ | ⟨hno, rfl⟩
  · refine zu_ne (tgt := 11) hx hb (show 1 < 2 ^ 31 by omega) dX0_distance_4 (by decide) (fun h => ?_) (fun h => ?_)
    · have h : 0 < 1 := h
      refine lv_aload_n hx hb dX0_distance_11 rfl (lv_at hl 0 rfl) ?_
      refine gx hx hb hts innX0_distance hown hK hP 6 (by decide) (by decide +kernel) rfl (v := .int (nI ((xMd κ)))) rfl dX0_distance_12 ?_
      refine zu_ne (tgt := 22) hx hb (show (xMd κ) < 2 ^ 31 by omega) dX0_distance_15 (by decide) (fun h2 => ?_) (fun h2 => ?_)
      · have h2 : 0 < (xMd κ) := h2
        refine lv_aload_n hx hb dX0_distance_22 rfl (lv_at hl 0 rfl) ?_
        refine lv_aload_n hx hb dX0_distance_23 rfl (lv_at hl 0 rfl) ?_
        refine gx hx hb hts innX0_distance hown hK hP 4 (by decide) (by decide +kernel) rfl (v := .ref (ad 43)) rfl dX0_distance_24 ?_
        refine lv_iconst (v := -1) hx hb dX0_distance_27 (by decide +kernel) ?_
        refine va_calli (va_runV (As := [.ref (ad 43), .int (-1)]) (rest := []) ⟨hx, hb, hml, hown, hts⟩ (kX0_nearestClass l E ad hap κ 43 K (xSg κ) (-1) hF hmb (by decide) cx_sg hK1 hK2 hw) (cwV 2 hts gX0_distance_X0_nearestClass rfl rfl rfl (by decide +kernel) ⟨Nat.le_trans (Nat.le_of_ble_eq_true rfl) hRf, Nat.le_trans (Nat.le_of_ble_eq_true rfl) hRl⟩) (zpx hK hP) rfl rfl hl.1 rfl (lv_room (Nat.le_of_ble_eq_true rfl)) dX0_distance_28 ⟨Nat.zero_le _, Nat.zero_le _⟩) hS (fun q _ h => h.elim) (fun q h => h.elim) (fun r u9 t9 H locs ht9 hvm9 hw9 hB9 hz9 hk9 hS => ?_)
        have hP := wn_ro hP hk9
        subst hw9
        refine lv_istore_n (lv' := [(2, .int (n1X κ)), (0, .ref (ad 0)), (1, .int (nI (j)))]) hx hb dX0_distance_31 rfl hl (by decide) rfl (fun ls hl => ?_)
        refine lv_iload_n hx hb dX0_distance_32 rfl (lv_at hl 2 rfl) ?_
        refine lv_iconst (v := nI 1) hx hb dX0_distance_33 (by decide +kernel) ?_
        refine zb_ne (tgt := 47) hx hb (show j < 2 ^ 31 by omega) (show 1 < 2 ^ 31 by omega) dX0_distance_34 (by decide) (fun h3 => ?_) (fun h3 => ?_)
        · have h3 : j ≠ 1 := h3
          refine lv_iload_n hx hb dX0_distance_47 rfl (lv_at hl 0 rfl) ?_
          refine va_calli (va_runS (As := [.int (n1X κ)]) (rest := []) ⟨hx, hb, hml, hown, hts⟩ (kX0_isClass l (n1X κ)) (va_cwS 1 hts gX0_distance_X0_isClass rfl rfl rfl (by decide +kernel) ⟨Nat.le_trans (Nat.le_of_ble_eq_true rfl) hRf, Nat.le_trans (Nat.le_of_ble_eq_true rfl) hRl⟩) zps rfl rfl hl.1 rfl (lv_room (Nat.le_of_ble_eq_true rfl)) dX0_distance_48 ⟨Nat.zero_le _, Nat.zero_le _⟩) hS (fun q _ h => h.elim) (fun q h => h.elim) (fun r u9 t9 H locs ht9 hvm9 hw9 hB9 hz9 hk9 hS => ?_)
          have hP := wn_ro hP hk9
          rcases nearX_cases κ (xSg κ) (-1) with e9 | ⟨c9, hc, -, -, e9⟩
          · obtain ⟨hno, rfl⟩ := hw9.resolve_left (fun ⟨j, hj, q, _⟩ => m1_ne (show j < 2 ^ 31 by omega) (q.symm.trans e9))
            refine zu_ne (tgt := 58) hx hb (show 0 < 2 ^ 31 by omega) dX0_distance_51 (by decide) (fun h4 => ?_) (fun h4 => ?_)
            · have h4 : 0 < 0 := h4
              exact absurd h4 (by decide)
            · have h4 : 0 = 0 := h4
              refine lv_ldc2 hx hb hown (hts (.constantLong RX0 102 (-1)) (by decide +kernel)) dX0_distance_54 ?_
              exact W.lret hx hb hr (fun t ht hW => ⟨⟨_, (), rfl, Or.inr ⟨j, hj, rfl, Or.inr ⟨h2, Or.inl ⟨(show rkX κ j = n1X κ from if_neg h3).trans e9, rfl⟩⟩⟩, trivial⟩, hS.F ht⟩) hS.2.2 dX0_distance_57
          · obtain ⟨j9, -, -, rfl⟩ := hw9.resolve_right (fun q => q.1 c9 hc e9)
            have hl : lv_has ls 3 [(2, .int (nI (c9))), (0, .ref (ad 0)), (1, .int (nI (j)))] := by rw [show n1X κ = nI c9 from e9] at hl; exact hl
            refine zu_ne (tgt := 58) hx hb (show 1 < 2 ^ 31 by omega) dX0_distance_51 (by decide) (fun h4 => ?_) (fun h4 => ?_)
            · have h4 : 0 < 1 := h4
              refine lv_aload_n hx hb dX0_distance_58 rfl (lv_at hl 1 rfl) ?_
              refine lv_iload_n hx hb dX0_distance_59 rfl (lv_at hl 0 rfl) ?_
              refine lv_aload_n hx hb dX0_distance_60 rfl (lv_at hl 1 rfl) ?_
              refine gx hx hb hts innX0_distance hown hK hP 4 (by decide) (by decide +kernel) rfl (v := .ref (ad 43)) rfl dX0_distance_61 ?_
              refine va_calld (va_runV (As := [.int (nI (c9)), .ref (ad 43)]) (rest := []) ⟨hx, hb, hml, hown, hts⟩ (kX0_distanceTo l E ad hap κ c9 43 K (xSg κ) hF hc (by decide) cx_sg hK1 hK2 (hw c9 hc)) (cwV 2 hts gX0_distance_X0_distanceTo rfl rfl rfl (by decide +kernel) ⟨Nat.le_trans (Nat.le_of_ble_eq_true rfl) hRf, Nat.le_trans (Nat.le_of_ble_eq_true rfl) hRl⟩) (zpx hK hP) rfl rfl hl.1 rfl (lv_room (Nat.le_of_ble_eq_true rfl)) dX0_distance_64 ⟨Nat.zero_le _, Nat.zero_le _⟩) hS (fun q _ h => h.elim) (fun q h => h.elim) (fun r u9 t9 H locs ht9 hvm9 hw9 hB9 hz9 hk9 hS => ?_)
              have hP := wn_ro hP hk9
              subst hw9
              refine lv_ldc2d hx hb hown (hts (.constantDouble RX0 108 k1000) (by decide +kernel)) dX0_distance_67 ?_
              refine lv_dmul hx hb dX0_distance_70 (mg_n64 (mg_dmul (K := K + 61) (mg_ds hK1 hK2 (n := xF κ) hF (hw c9 hc)) mg_1000 (by omega) (by decide) (by omega) (by decide) (by omega) (by omega)) (by omega)) ?_
              refine lv_d2l hx hb dX0_distance_71 ?_
              exact W.lret hx hb hr (fun t ht hW => ⟨⟨_, (), rfl, Or.inr ⟨j, hj, rfl, Or.inr ⟨h2, Or.inr ⟨c9, hc, (show rkX κ j = n1X κ from if_neg h3).trans e9, rfl⟩⟩⟩, trivial⟩, hS.F ht⟩) hS.2.2 dX0_distance_72
            · have h4 : 1 = 0 := h4
              exact absurd h4 (by decide)
        · have h3 : j = 1 := h3
          refine lv_aload_n hx hb dX0_distance_37 rfl (lv_at hl 1 rfl) ?_
          refine lv_aload_n hx hb dX0_distance_38 rfl (lv_at hl 1 rfl) ?_
          refine gx hx hb hts innX0_distance hown hK hP 4 (by decide) (by decide +kernel) rfl (v := .ref (ad 43)) rfl dX0_distance_39 ?_
          refine lv_iload_n hx hb dX0_distance_42 rfl (lv_at hl 0 rfl) ?_
          refine va_calli (va_runV (As := [.ref (ad 43), .int (n1X κ)]) (rest := []) ⟨hx, hb, hml, hown, hts⟩ (kX0_nearestClass l E ad hap κ 43 K (xSg κ) (n1X κ) hF hmb (by decide) cx_sg hK1 hK2 hw) (cwV 2 hts gX0_distance_X0_nearestClass rfl rfl rfl (by decide +kernel) ⟨Nat.le_trans (Nat.le_of_ble_eq_true rfl) hRf, Nat.le_trans (Nat.le_of_ble_eq_true rfl) hRl⟩) (zpx hK hP) rfl rfl hl.1 rfl (lv_room (Nat.le_of_ble_eq_true rfl)) dX0_distance_43 ⟨Nat.zero_le _, Nat.zero_le _⟩) hS (fun q _ h => h.elim) (fun q h => h.elim) (fun r u9 t9 H locs ht9 hvm9 hw9 hB9 hz9 hk9 hS => ?_)
          have hP := wn_ro hP hk9
          subst hw9
          refine lv_istore_n (lv' := [(2, .int (n2X κ)), (0, .ref (ad 0)), (1, .int (nI (j)))]) hx hb dX0_distance_46 rfl hl (by decide) rfl (fun ls hl => ?_)
          refine lv_iload_n hx hb dX0_distance_47 rfl (lv_at hl 0 rfl) ?_
          refine va_calli (va_runS (As := [.int (n2X κ)]) (rest := []) ⟨hx, hb, hml, hown, hts⟩ (kX0_isClass l (n2X κ)) (va_cwS 1 hts gX0_distance_X0_isClass rfl rfl rfl (by decide +kernel) ⟨Nat.le_trans (Nat.le_of_ble_eq_true rfl) hRf, Nat.le_trans (Nat.le_of_ble_eq_true rfl) hRl⟩) zps rfl rfl hl.1 rfl (lv_room (Nat.le_of_ble_eq_true rfl)) dX0_distance_48 ⟨Nat.zero_le _, Nat.zero_le _⟩) hS (fun q _ h => h.elim) (fun q h => h.elim) (fun r u9 t9 H locs ht9 hvm9 hw9 hB9 hz9 hk9 hS => ?_)
          have hP := wn_ro hP hk9
          rcases nearX_cases κ (xSg κ) (n1X κ) with e9 | ⟨c9, hc, -, -, e9⟩
          · obtain ⟨hno, rfl⟩ := hw9.resolve_left (fun ⟨j, hj, q, _⟩ => m1_ne (show j < 2 ^ 31 by omega) (q.symm.trans e9))
            refine zu_ne (tgt := 58) hx hb (show 0 < 2 ^ 31 by omega) dX0_distance_51 (by decide) (fun h4 => ?_) (fun h4 => ?_)
            · have h4 : 0 < 0 := h4
              exact absurd h4 (by decide)
            · have h4 : 0 = 0 := h4
              refine lv_ldc2 hx hb hown (hts (.constantLong RX0 102 (-1)) (by decide +kernel)) dX0_distance_54 ?_
              exact W.lret hx hb hr (fun t ht hW => ⟨⟨_, (), rfl, Or.inr ⟨j, hj, rfl, Or.inr ⟨h2, Or.inl ⟨(show rkX κ j = n2X κ from if_pos h3).trans e9, rfl⟩⟩⟩, trivial⟩, hS.F ht⟩) hS.2.2 dX0_distance_57
          · obtain ⟨j9, -, -, rfl⟩ := hw9.resolve_right (fun q => q.1 c9 hc e9)
            have hl : lv_has ls 3 [(2, .int (nI (c9))), (0, .ref (ad 0)), (1, .int (nI (j)))] := by rw [show n2X κ = nI c9 from e9] at hl; exact hl
            refine zu_ne (tgt := 58) hx hb (show 1 < 2 ^ 31 by omega) dX0_distance_51 (by decide) (fun h4 => ?_) (fun h4 => ?_)
            · have h4 : 0 < 1 := h4
              refine lv_aload_n hx hb dX0_distance_58 rfl (lv_at hl 1 rfl) ?_
              refine lv_iload_n hx hb dX0_distance_59 rfl (lv_at hl 0 rfl) ?_
              refine lv_aload_n hx hb dX0_distance_60 rfl (lv_at hl 1 rfl) ?_
              refine gx hx hb hts innX0_distance hown hK hP 4 (by decide) (by decide +kernel) rfl (v := .ref (ad 43)) rfl dX0_distance_61 ?_
              refine va_calld (va_runV (As := [.int (nI (c9)), .ref (ad 43)]) (rest := []) ⟨hx, hb, hml, hown, hts⟩ (kX0_distanceTo l E ad hap κ c9 43 K (xSg κ) hF hc (by decide) cx_sg hK1 hK2 (hw c9 hc)) (cwV 2 hts gX0_distance_X0_distanceTo rfl rfl rfl (by decide +kernel) ⟨Nat.le_trans (Nat.le_of_ble_eq_true rfl) hRf, Nat.le_trans (Nat.le_of_ble_eq_true rfl) hRl⟩) (zpx hK hP) rfl rfl hl.1 rfl (lv_room (Nat.le_of_ble_eq_true rfl)) dX0_distance_64 ⟨Nat.zero_le _, Nat.zero_le _⟩) hS (fun q _ h => h.elim) (fun q h => h.elim) (fun r u9 t9 H locs ht9 hvm9 hw9 hB9 hz9 hk9 hS => ?_)
              have hP := wn_ro hP hk9
              subst hw9
              refine lv_ldc2d hx hb hown (hts (.constantDouble RX0 108 k1000) (by decide +kernel)) dX0_distance_67 ?_
              refine lv_dmul hx hb dX0_distance_70 (mg_n64 (mg_dmul (K := K + 61) (mg_ds hK1 hK2 (n := xF κ) hF (hw c9 hc)) mg_1000 (by omega) (by decide) (by omega) (by decide) (by omega) (by omega)) (by omega)) ?_
              refine lv_d2l hx hb dX0_distance_71 ?_
              exact W.lret hx hb hr (fun t ht hW => ⟨⟨_, (), rfl, Or.inr ⟨j, hj, rfl, Or.inr ⟨h2, Or.inr ⟨c9, hc, (show rkX κ j = n2X κ from if_pos h3).trans e9, rfl⟩⟩⟩, trivial⟩, hS.F ht⟩) hS.2.2 dX0_distance_72
            · have h4 : 1 = 0 := h4
              exact absurd h4 (by decide)
      · have h2 : (xMd κ) = 0 := h2
        refine lv_ldc2 hx hb hown (hts (.constantLong RX0 100 (-13)) (by decide +kernel)) dX0_distance_18 ?_
        exact W.lret hx hb hr (fun t ht hW => ⟨⟨_, (), rfl, Or.inr ⟨j, hj, rfl, Or.inl ⟨h2, rfl⟩⟩, trivial⟩, hS.F ht⟩) hS.2.2 dX0_distance_21
    · have h : 1 = 0 := h
      exact absurd h (by decide)
  · refine zu_ne (tgt := 11) hx hb (show 0 < 2 ^ 31 by omega) dX0_distance_4 (by decide) (fun h => ?_) (fun h => ?_)
    · have h : 0 < 0 := h
      exact absurd h (by decide)
    · have h : 0 = 0 := h
      refine lv_ldc2 hx hb hown (hts (.constantLong RX0 98 (-12)) (by decide +kernel)) dX0_distance_7 ?_
      exact W.lret hx hb hr (fun t ht hW => ⟨⟨_, (), rfl, Or.inl ⟨hno, rfl⟩, trivial⟩, hS.F ht⟩) hS.2.2 dX0_distance_10
end
section
/-! ===== the class: methods that throw ===== -/
def nmI : List String := ["java/lang/IndexOutOfBoundsException", "java/lang/RuntimeException", "java/lang/Exception"]
def nmA : List String := ["java/lang/RuntimeException", "java/lang/Exception"]
def atI : List Cond := vx_atS RX0 53 RJx00060 nmI
def atA : List Cond := vx_atS RX0 64 "java/lang/ArithmeticException" nmA
def isCD : Cond → Bool
  | .castable _ _ => true
  | .declares _ => true
  | _ => false
def atB : List Cond := (atI ++ atA).filter (fun w => !goodWord w)
set_option maxRecDepth 20000 in
theorem atB_cd : atB.all isCD = true := by decide +kernel
theorem isCD_ot {w : Cond} (h : isCD w = true) : w.onTables = true := by cases w <;> first | rfl | (simp [isCD] at h)
theorem isCD_warm {w : Cond} {s U : State} (h : isCD w = true) (hW : s.WarmedH U.vm) (hZ : va_Nw w s) : va_Nw w U := by
  cases w with
  | castable C T => exact va_Nw.warmC hW hZ
  | declares x => exact va_Nw.warmD hW hZ
  | _ => exact absurd h (by simp [isCD])
/-- what a throw asks of the machine -/
def zTh (A : Nat → Prop) (U : State) : Prop := (∀ w ∈ atB, va_Nw w U) ∧ vx_Zq Bundle.tN "UNASSIGNED_STACK" Bundle.steD A U U.heap ∧ vx_Zq Bundle.tN "SUPPRESSED_SENTINEL" Bundle.listD A U U.heap ∧ (∃ a : Nat, vk_R RX0 51 "no such example or feature" a U) ∧ (∃ a : Nat, vk_R RX0 62 "no examples" a U) ∧ (∃ a : Nat, vk_R RX0 81 "no such feature" a U) ∧ (∃ a : Nat, vk_R RX0 110 "no such class or feature" a U)
theorem zTh.go {A B : Nat → Prop} {s U : State} {H : Heap} {locs : List Loc} (h : zTh B s) (hW : s.WarmedH U.vm) (hU : U.heap = H) (hS : va_S B s.heap H locs) (hAB : ∀ q, A q → B q) : zTh A U := by
  obtain ⟨h1, h2, h3, ⟨a4, h4⟩, ⟨a5, h5⟩, ⟨a6, h6⟩, ⟨a7, h7⟩⟩ := h
  refine ⟨fun w hw => isCD_warm (List.all_eq_true.mp atB_cd w hw) hW (h1 w hw), ?_, ?_, ⟨a4, vk_R.warm hW h4⟩, ⟨a5, vk_R.warm hW h5⟩, ⟨a6, vk_R.warm hW h6⟩, ⟨a7, vk_R.warm hW h7⟩⟩
  · rw [hU]; exact ((h2.moved hW.alike).kept hS.2.1).narrow hAB
  · rw [hU]; exact ((h3.moved hW.alike).kept hS.2.1).narrow hAB
theorem zTh.same {A : Nat → Prop} {U V : State} (h : zTh A U) (h1 : V.vm = U.vm) (h2 : V.heap = U.heap) : zTh A V := by
  obtain ⟨g1, g2, g3, ⟨a4, g4⟩, ⟨a5, g5⟩, ⟨a6, g6⟩, ⟨a7, g7⟩⟩ := h
  have hal : U.vm.Alike V.vm := h1.symm ▸ Vm.Alike.refl _
  refine ⟨fun w hw => va_Nw.same (isCD_ot (List.all_eq_true.mp atB_cd w hw)) h1.symm (g1 w hw), ?_, ?_, ⟨a4, vk_R.same h1 g4⟩, ⟨a5, vk_R.same h1 g5⟩, ⟨a6, vk_R.same h1 g6⟩, ⟨a7, vk_R.same h1 g7⟩⟩
  · rw [h2]; exact g2.moved hal
  · rw [h2]; exact g3.moved hal
theorem zblindT {av : List Value} {D : va_G} {cl : List vw_C} {ws : va_W} {E : zE} {A : Nat → Prop} : FrameBlind (va_Pc av (fun U => va_P D cl ws U.heap ∧ zK E U ∧ zTh A U)) := fun _ U _ _ h => ⟨h.1, h.2.1, va_K.moved (Vm.Alike.refl U.vm) h.2.2.1, h.2.2.2.same rfl rfl⟩
theorem zpxT {s : State} {H : Heap} {E : zE} {ad : Nat → Nat} {κ : SX} {As : List Value} {B : Nat → Prop} {locs : List Loc} (hK : zK E s) (hP : PX E ad κ H) (hT : zTh B s) (hS : va_S B s.heap H locs) (hAB : ∀ q, aX 96 ad q → B q) : PreV s H RX0 (ad 0) (va_Pc (.ref (ad 0) :: As) (fun U => PX E ad κ U.heap ∧ zK E U ∧ zTh (aX 96 ad) U)) As := ⟨zblindT, va_recv hK hP (ci := 1) (q0 := 0) rfl (wn_at (show 0 < 96 by decide)), fun U hU hW => ⟨rfl, by rw [hU]; exact hP, va_K.moved hW.alike hK, hT.go hW hU hS hAB⟩⟩
theorem zFx {A : Nat → Prop} {s t : State} {H : Heap} {locs : List Loc} (hS : va_S A s.heap H locs) (hsz : H.size ≤ t.heap.size) (hq : ∀ q : Nat, q < H.size → t.heap[q]? = H[q]?) : va_F A s t := ⟨Nat.le_trans hS.1 hsz, fun q h1 h2 => (hq q (Nat.lt_of_lt_of_le h1 hS.1)).trans (hS.2.1 q h1 h2)⟩
theorem zPx {D : va_G} {cl : List vw_C} {ws : va_W} {H : Heap} {t : State} (hP : va_P D cl ws H) (hq : ∀ q : Nat, q < H.size → t.heap[q]? = H[q]?) : va_P D cl ws t.heap := hP.kept fun k q hk => hq q.1 ((hP k q hk).lt)
theorem goodIn_mono {a b c : List Cond} (h : ∀ w ∈ a, w ∈ b) (hg : GoodIn a c) : GoodIn b c := fun w hw => ⟨h w (hg w hw).1, (hg w hw).2⟩
set_option maxRecDepth 20000 in
theorem atI_ot : (Cond.classLink RX0 49 RJx00060 :: Cond.initialized RJx00060 :: atI).all vx_ot = true := by decide +kernel
set_option maxRecDepth 20000 in
theorem atA_ot : (Cond.classLink RX0 60 "java/lang/ArithmeticException" :: Cond.initialized "java/lang/ArithmeticException" :: atA).all vx_ot = true := by decide +kernel
theorem atI_bad : ∀ w ∈ atI.filter (fun w => !goodWord w), w ∈ atB := fun w h => by unfold atB; rw [List.filter_append]; exact List.mem_append_left _ h
theorem atA_bad : ∀ w ∈ atA.filter (fun w => !goodWord w), w ∈ atB := fun w h => by unfold atB; rw [List.filter_append]; exact List.mem_append_right _ h
theorem atB_use {A : Nat → Prop} {s : State} {args : Array Value} (h : zTh A s) : ∀ w ∈ atB, w.before args s = true := fun w hw => va_Nw.use (isCD_ot (List.all_eq_true.mp atB_cd w hw)) (h.1 w hw)
theorem fitI : Bundle.fit RJx00060 = true := by decide +kernel
theorem fitA : Bundle.fit "java/lang/ArithmeticException" = true := by decide +kernel
theorem fitNI : ∀ n ∈ nmI, Bundle.fit n = true := by decide +kernel
theorem fitNA : ∀ n ∈ nmA, Bundle.fit n = true := by decide +kernel
def atIg : List Cond := atI.filter goodWord
def wtX0_feature : List Cond := wsX0_feature ++ atIg
theorem wt_inX0_feature : ∀ w ∈ wsX0_feature, w ∈ wtX0_feature := fun w h => List.mem_append_left _ h
theorem intX0_feature : ∀ w ∈ wsX00, w ∈ wtX0_feature := fun w h => wt_inX0_feature w (innX0_feature w h)
theorem atg_X0_feature : ∀ w ∈ atI.filter goodWord, w ∈ wtX0_feature := fun w h => List.mem_append_right _ h
def wtX0_sign : List Cond := wsX0_sign ++ atIg
theorem wt_inX0_sign : ∀ w ∈ wsX0_sign, w ∈ wtX0_sign := fun w h => List.mem_append_left _ h
theorem intX0_sign : ∀ w ∈ wsX00, w ∈ wtX0_sign := fun w h => wt_inX0_sign w (innX0_sign w h)
theorem atg_X0_sign : ∀ w ∈ atI.filter goodWord, w ∈ wtX0_sign := fun w h => List.mem_append_right _ h
def wtX0_weight : List Cond := wsX0_weight ++ atIg
theorem wt_inX0_weight : ∀ w ∈ wsX0_weight, w ∈ wtX0_weight := fun w h => List.mem_append_left _ h
theorem intX0_weight : ∀ w ∈ wsX00, w ∈ wtX0_weight := fun w h => wt_inX0_weight w (innX0_weight w h)
theorem atg_X0_weight : ∀ w ∈ atI.filter goodWord, w ∈ wtX0_weight := fun w h => List.mem_append_right _ h
theorem gtX0_feature_X0_isFeature : GoodIn wtX0_feature (wsV RX0 46 RX0 yX0_isFeature wsX0_isFeature) := goodIn_mono wt_inX0_feature gX0_feature_X0_isFeature
theorem gtX0_feature_X0_lowestByte : GoodIn wtX0_feature (va_wsS RX0 56 yX0_lowestByte wsX0_lowestByte) := goodIn_mono wt_inX0_feature gX0_feature_X0_lowestByte
theorem gtX0_sign_X0_isFeature : GoodIn wtX0_sign (wsV RX0 46 RX0 yX0_isFeature wsX0_isFeature) := goodIn_mono wt_inX0_sign gX0_sign_X0_isFeature
theorem gtX0_sign_X0_lowestByte : GoodIn wtX0_sign (va_wsS RX0 56 yX0_lowestByte wsX0_lowestByte) := goodIn_mono wt_inX0_sign gX0_sign_X0_lowestByte
theorem gtX0_weight_X0_isClass : GoodIn wtX0_weight (va_wsS RX0 39 yX0_isClass wsX0_isClass) := goodIn_mono wt_inX0_weight gX0_weight_X0_isClass
theorem gtX0_weight_X0_isFeature : GoodIn wtX0_weight (wsV RX0 46 RX0 yX0_isFeature wsX0_isFeature) := goodIn_mono wt_inX0_weight gX0_weight_X0_isFeature
set_option maxRecDepth 20000 in
theorem atg_X0_make : ∀ w ∈ atA.filter goodWord, w ∈ wsX0_make := fun w h => List.mem_cons_of_mem _ (List.mem_append_right _ h)
end
section
def ftP (κ : SX) (x y z : Int32) (κ' : SX) : Prop := ∃ i j : Nat, i < xN κ ∧ j < xF κ ∧ x = nI i ∧ y = nI j ∧ κ' = sxEv κ (up2 (xEv κ) i j (lbN z))
def ftX (κ : SX) (x y : Int32) : Prop := ¬ ∃ i j : Nat, i < xN κ ∧ j < xF κ ∧ x = nI i ∧ y = nI j
set_option maxHeartbeats 4000000 in
set_option maxRecDepth 100000 in
theorem kX0_feature (l : Launch) (hst9 : l.stackTraces = false) (E : zE) (ad : Nat → Nat) (hap : apart 96 ad) (κ : SX) (x y z : Int32) (hF : xF κ ≤ 16) (hN : xN κ ≤ 40) : vx_Met l yX0_feature wtX0_feature ({ frames := 7, cells := 1, slots := 6, locals := 95 }) (va_Pc [.ref (ad 0), .int (x), .int (y), .int (z)] (fun U => PX E ad κ U.heap ∧ zK E U ∧ zTh (aX 96 ad) U)) (va_Qv (fun κ' : SX => ftP κ x y z κ') (fun κ' t => PX E ad κ' t.heap) (aX 96 ad)) (vx_X (fun _ : Unit => ftX κ x y) (fun E9 _ t => E9 = RJx00060 ∧ PX E ad κ t.heap) (aX 96 ad)) 1 6 (aX 96 ad) := by
  refine vx_ofW (cc := cX0_feature) (maxL := 4) (ret := none) (by decide) rfl ?_
  intro p e s m args below meth c s₁ B hml hno9 hv
  obtain ⟨rfl, hP, hK, hT9⟩ := hv
  have hx := B.exec
  have hb := B.bytes
  have hr := B.returns
  have hts := atoms_spec (ws := wtX0_feature) B.pre
  have hown : s.vm.findClass RX0 = some m.cls := findClass_of_methodNamed B.named
  have hlocks := B.notSynchronized
  have hS : va_S (aX 96 ad) s.heap s.heap [] := va_S.rf
  have hA : ∀ k, k < 96 → aX 96 ad (ad k) := fun k hk => ⟨k, hk, rfl⟩
  have hRf : 7 ≤ ((headSpec wtX0_feature ({ frames := 7, cells := 1, slots := 6, locals := 95 })).room).frames := Nat.le_of_ble_eq_true rfl
  have hRl : 95 ≤ ((headSpec wtX0_feature ({ frames := 7, cells := 1, slots := 6, locals := 95 })).room).locals := Nat.le_of_ble_eq_true rfl
  have hl := lv_entry ([.ref (ad 0), .int (x), .int (y), .int (z)]) (n := 4) (Nat.le_of_ble_eq_true rfl)
  rw [lg_entry_eq]
  generalize (lg_sl ([.ref (ad 0), .int (x), .int (y), .int (z)]) ++ List.replicate (4 - (lg_sl ([.ref (ad 0), .int (x), .int (y), .int (z)])).length) Slot.unset).toArray = ls at hl ⊢
  have hl : lv_has ls 4 [(0, .ref (ad 0)), (1, .int (x)), (2, .int (y)), (3, .int (z))] := hl
  refine lv_iload_n hx hb dX0_feature_0 rfl (lv_at hl 1 rfl) ?_
  refine lv_if_lt (tgt := 20) hx hb dX0_feature_1 (by decide) (fun h => ?_) (fun h => ?_)
  · obtain ⟨sa9, hsa9⟩ := hT9.2.2.2.1
    refine vx_throwS (own := RX0) (cls := RJx00060) (text := "no such example or feature") (names := nmI) (ik := 49) (is := 51) (ic := 53) (sa := sa9) (A := aX 96 ad) hx hb hst9 hown fitI fitNI (hts (.classLink RX0 49 RJx00060) (by decide +kernel)) (hts (.initialized RJx00060) (by decide +kernel)) hsa9 (vx_hat (fun w hw => hts w (atg_X0_feature w hw)) atI_bad (atB_use hT9)) (List.all_eq_true.mp atI_ot) hT9.2.1 hT9.2.2.1 hS (hl.1.trans hml.symm) dX0_feature_20 dX0_feature_23 dX0_feature_24 dX0_feature_26 dX0_feature_29 (fun x9 h9 => (hno9 x9 h9).elim) (Nat.lt_of_lt_of_le (show List.length nmI + 3 < 7 by decide +kernel) hRf) (Nat.le_trans (Nat.le_of_ble_eq_true rfl) hRl) (Nat.le_of_ble_eq_true rfl) (Nat.le_of_ble_eq_true rfl) hlocks (fun t9 hvm9 hsz9 hq9 => ⟨(), fun ⟨i, j, h1, _, h3, _⟩ => nI_pos (show i < 2 ^ 31 by omega) (h3 ▸ h), ⟨rfl, zPx hP hq9⟩, zFx hS hsz9 hq9⟩) hS.2.2 (Nat.le_of_ble_eq_true rfl) (Nat.le_of_ble_eq_true rfl)
  · refine lv_iload_n hx hb dX0_feature_4 rfl (lv_at hl 1 rfl) ?_
    refine lv_aload_n hx hb dX0_feature_5 rfl (lv_at hl 0 rfl) ?_
    refine gx hx hb hts intX0_feature hown hK hP 3 (by decide) (by decide +kernel) rfl (v := .int (nI ((xN κ)))) rfl dX0_feature_6 ?_
    refine lv_icmp_ge (tgt := 20) hx hb dX0_feature_9 (by decide) (fun h2 => ?_) (fun h2 => ?_)
    · obtain ⟨sa9, hsa9⟩ := hT9.2.2.2.1
      refine vx_throwS (own := RX0) (cls := RJx00060) (text := "no such example or feature") (names := nmI) (ik := 49) (is := 51) (ic := 53) (sa := sa9) (A := aX 96 ad) hx hb hst9 hown fitI fitNI (hts (.classLink RX0 49 RJx00060) (by decide +kernel)) (hts (.initialized RJx00060) (by decide +kernel)) hsa9 (vx_hat (fun w hw => hts w (atg_X0_feature w hw)) atI_bad (atB_use hT9)) (List.all_eq_true.mp atI_ot) hT9.2.1 hT9.2.2.1 hS (hl.1.trans hml.symm) dX0_feature_20 dX0_feature_23 dX0_feature_24 dX0_feature_26 dX0_feature_29 (fun x9 h9 => (hno9 x9 h9).elim) (Nat.lt_of_lt_of_le (show List.length nmI + 3 < 7 by decide +kernel) hRf) (Nat.le_trans (Nat.le_of_ble_eq_true rfl) hRl) (Nat.le_of_ble_eq_true rfl) (Nat.le_of_ble_eq_true rfl) hlocks (fun t9 hvm9 hsz9 hq9 => ⟨(), fun ⟨i, j, h1, _, h3, _⟩ => nI_ge h1 (by omega) (h3 ▸ h2), ⟨rfl, zPx hP hq9⟩, zFx hS hsz9 hq9⟩) hS.2.2 (Nat.le_of_ble_eq_true rfl) (Nat.le_of_ble_eq_true rfl)
    · obtain ⟨i, hi, rfl⟩ := (pk_ix x (n := xN κ) (by omega)).resolve_left h |>.resolve_left h2
      refine lv_aload_n hx hb dX0_feature_12 rfl (lv_at hl 0 rfl) ?_
      refine lv_iload_n hx hb dX0_feature_13 rfl (lv_at hl 2 rfl) ?_
      refine va_calli (va_runV (As := [.int (y)]) (rest := []) ⟨hx, hb, hml, hown, hts⟩ (kX0_isFeature l E ad hap κ y hF) (cwV 1 hts gtX0_feature_X0_isFeature rfl rfl rfl (by decide +kernel) ⟨Nat.le_trans (Nat.le_of_ble_eq_true rfl) hRf, Nat.le_trans (Nat.le_of_ble_eq_true rfl) hRl⟩) (zpx hK hP) rfl rfl hl.1 rfl (lv_room (Nat.le_of_ble_eq_true rfl)) dX0_feature_14 ⟨Nat.zero_le _, Nat.zero_le _⟩) hS (fun q _ h => h.elim) (fun q h => h.elim) (fun r u9 t9 H locs ht9 hvm9 hw9 hB9 hz9 hk9 hS => ?_)
      have hP := wn_ro hP hk9
      rcases hw9 with ⟨j, hj, rfl, rfl⟩ | ⟨hno, rfl⟩
      · refine zu_ne (tgt := 30) hx hb (show 1 < 2 ^ 31 by omega) dX0_feature_17 (by decide) (fun h3 => ?_) (fun h3 => ?_)
        · have h3 : 0 < 1 := h3
          refine lv_aload_n hx hb dX0_feature_30 rfl (lv_at hl 0 rfl) ?_
          refine gx hx hb hts intX0_feature hown hK hP 2 (by decide) (by decide +kernel) rfl (v := .ref (ad 2)) rfl dX0_feature_31 ?_
          refine lv_iload_n hx hb dX0_feature_34 rfl (lv_at hl 1 rfl) ?_
          refine z_aald 1 hx hb hK hP 2 (by decide) cx_evO rfl rfl (show i < 40 by omega) (by decide) (if_pos (show i < 40 by omega)) dX0_feature_35 ?_
          refine lv_iload_n hx hb dX0_feature_36 rfl (lv_at hl 2 rfl) ?_
          refine lv_iload_n hx hb dX0_feature_37 rfl (lv_at hl 3 rfl) ?_
          refine va_calli (va_runS (As := [.int (z)]) (rest := [.int (nI (j)), .ref (ad (3 + i))]) ⟨hx, hb, hml, hown, hts⟩ (kX0_lowestByte l z) (va_cwS 1 hts gtX0_feature_X0_lowestByte rfl rfl rfl (by decide +kernel) ⟨Nat.le_trans (Nat.le_of_ble_eq_true rfl) hRf, Nat.le_trans (Nat.le_of_ble_eq_true rfl) hRl⟩) zps rfl rfl hl.1 rfl (lv_room (Nat.le_of_ble_eq_true rfl)) dX0_feature_38 ⟨Nat.zero_le _, Nat.zero_le _⟩) hS (fun q _ h => h.elim) (fun q h => h.elim) (fun r u9 t9 H locs ht9 hvm9 hw9 hB9 hz9 hk9 hS => ?_)
          have hP := wn_ro hP hk9
          subst hw9
          refine z_iast hx hb hK hP hap hA hS (3 + i) (show 3 + i < 96 by omega) (cx_ev (show i < 40 by omega)) (show j < xF κ by omega) (show xF κ < 2 ^ 31 by omega) dX0_feature_41 (fun H locs hP hS => ?_)
          have hP := px_ev (show i < 40 by omega) hP
          refine W.widen (k := 1) (n := 6) (by omega) (by omega) (vx_ret ?_)
          exact W.vret hx hb hr (fun t ht hW => ⟨⟨_, rfl, ⟨i, j, hi, hj, rfl, rfl, rfl⟩, (wn_h ht hP)⟩, hS.F ht⟩) hS.2.2 dX0_feature_42
        · have h3 : 1 = 0 := h3
          exact absurd h3 (by decide)
      · refine zu_ne (tgt := 30) hx hb (show 0 < 2 ^ 31 by omega) dX0_feature_17 (by decide) (fun h3 => ?_) (fun h3 => ?_)
        · have h3 : 0 < 0 := h3
          exact absurd h3 (by decide)
        · have h3 : 0 = 0 := h3
          obtain ⟨sa9, hsa9⟩ := hT9.2.2.2.1
          refine vx_throwS (own := RX0) (cls := RJx00060) (text := "no such example or feature") (names := nmI) (ik := 49) (is := 51) (ic := 53) (sa := sa9) (A := aX 96 ad) hx hb hst9 hown fitI fitNI (hts (.classLink RX0 49 RJx00060) (by decide +kernel)) (hts (.initialized RJx00060) (by decide +kernel)) hsa9 (vx_hat (fun w hw => hts w (atg_X0_feature w hw)) atI_bad (atB_use hT9)) (List.all_eq_true.mp atI_ot) hT9.2.1 hT9.2.2.1 hS (hl.1.trans hml.symm) dX0_feature_20 dX0_feature_23 dX0_feature_24 dX0_feature_26 dX0_feature_29 (fun x9 h9 => (hno9 x9 h9).elim) (Nat.lt_of_lt_of_le (show List.length nmI + 3 < 7 by decide +kernel) hRf) (Nat.le_trans (Nat.le_of_ble_eq_true rfl) hRl) (Nat.le_of_ble_eq_true rfl) (Nat.le_of_ble_eq_true rfl) hlocks (fun t9 hvm9 hsz9 hq9 => ⟨(), fun ⟨_, j, _, h6, _, h7⟩ => hno j h6 h7, ⟨rfl, zPx hP hq9⟩, zFx hS hsz9 hq9⟩) hS.2.2 (Nat.le_of_ble_eq_true rfl) (Nat.le_of_ble_eq_true rfl)
def sgP (κ : SX) (x z : Int32) (κ' : SX) : Prop := ∃ j : Nat, j < xF κ ∧ x = nI j ∧ κ' = sxSg κ (va_up (xSg κ) j (lbN z))
def sgX (κ : SX) (x : Int32) : Prop := ¬ ∃ j : Nat, j < xF κ ∧ x = nI j
set_option maxHeartbeats 4000000 in
set_option maxRecDepth 100000 in
theorem kX0_sign (l : Launch) (hst9 : l.stackTraces = false) (E : zE) (ad : Nat → Nat) (hap : apart 96 ad) (κ : SX) (x z : Int32) (hF : xF κ ≤ 16) : vx_Met l yX0_sign wtX0_sign ({ frames := 7, cells := 1, slots := 6, locals := 95 }) (va_Pc [.ref (ad 0), .int (x), .int (z)] (fun U => PX E ad κ U.heap ∧ zK E U ∧ zTh (aX 96 ad) U)) (va_Qv (fun κ' : SX => sgP κ x z κ') (fun κ' t => PX E ad κ' t.heap) (aX 96 ad)) (vx_X (fun _ : Unit => sgX κ x) (fun E9 _ t => E9 = RJx00060 ∧ PX E ad κ t.heap) (aX 96 ad)) 1 6 (aX 96 ad) := by
  refine vx_ofW (cc := cX0_sign) (maxL := 3) (ret := none) (by decide) rfl ?_
  intro p e s m args below meth c s₁ B hml hno9 hv
  obtain ⟨rfl, hP, hK, hT9⟩ := hv
  have hx := B.exec
  have hb := B.bytes
  have hr := B.returns
  have hts := atoms_spec (ws := wtX0_sign) B.pre
  have hown : s.vm.findClass RX0 = some m.cls := findClass_of_methodNamed B.named
  have hlocks := B.notSynchronized
  have hS : va_S (aX 96 ad) s.heap s.heap [] := va_S.rf
  have hA : ∀ k, k < 96 → aX 96 ad (ad k) := fun k hk => ⟨k, hk, rfl⟩
  have hRf : 7 ≤ ((headSpec wtX0_sign ({ frames := 7, cells := 1, slots := 6, locals := 95 })).room).frames := Nat.le_of_ble_eq_true rfl
  have hRl : 95 ≤ ((headSpec wtX0_sign ({ frames := 7, cells := 1, slots := 6, locals := 95 })).room).locals := Nat.le_of_ble_eq_true rfl
  have hl := lv_entry ([.ref (ad 0), .int (x), .int (z)]) (n := 3) (Nat.le_of_ble_eq_true rfl)
  rw [lg_entry_eq]
  generalize (lg_sl ([.ref (ad 0), .int (x), .int (z)]) ++ List.replicate (3 - (lg_sl ([.ref (ad 0), .int (x), .int (z)])).length) Slot.unset).toArray = ls at hl ⊢
  have hl : lv_has ls 3 [(0, .ref (ad 0)), (1, .int (x)), (2, .int (z))] := hl
  refine lv_aload_n hx hb dX0_sign_0 rfl (lv_at hl 0 rfl) ?_
  refine lv_iload_n hx hb dX0_sign_1 rfl (lv_at hl 1 rfl) ?_
  refine va_calli (va_runV (As := [.int (x)]) (rest := []) ⟨hx, hb, hml, hown, hts⟩ (kX0_isFeature l E ad hap κ x hF) (cwV 1 hts gtX0_sign_X0_isFeature rfl rfl rfl (by decide +kernel) ⟨Nat.le_trans (Nat.le_of_ble_eq_true rfl) hRf, Nat.le_trans (Nat.le_of_ble_eq_true rfl) hRl⟩) (zpx hK hP) rfl rfl hl.1 rfl (lv_room (Nat.le_of_ble_eq_true rfl)) dX0_sign_2 ⟨Nat.zero_le _, Nat.zero_le _⟩) hS (fun q _ h => h.elim) (fun q h => h.elim) (fun r u9 t9 H locs ht9 hvm9 hw9 hB9 hz9 hk9 hS => ?_)
  have hP := wn_ro hP hk9
  rcases hw9 with ⟨j, hj, rfl, rfl⟩ | ⟨hno, rfl⟩
  · refine zu_ne (tgt := 18) hx hb (show 1 < 2 ^ 31 by omega) dX0_sign_5 (by decide) (fun h3 => ?_) (fun h3 => ?_)
    · have h3 : 0 < 1 := h3
      refine lv_aload_n hx hb dX0_sign_18 rfl (lv_at hl 0 rfl) ?_
      refine gx hx hb hts intX0_sign hown hK hP 4 (by decide) (by decide +kernel) rfl (v := .ref (ad 43)) rfl dX0_sign_19 ?_
      refine lv_iload_n hx hb dX0_sign_22 rfl (lv_at hl 1 rfl) ?_
      refine lv_iload_n hx hb dX0_sign_23 rfl (lv_at hl 2 rfl) ?_
      refine va_calli (va_runS (As := [.int (z)]) (rest := [.int (nI (j)), .ref (ad 43)]) ⟨hx, hb, hml, hown, hts⟩ (kX0_lowestByte l z) (va_cwS 1 hts gtX0_sign_X0_lowestByte rfl rfl rfl (by decide +kernel) ⟨Nat.le_trans (Nat.le_of_ble_eq_true rfl) hRf, Nat.le_trans (Nat.le_of_ble_eq_true rfl) hRl⟩) zps rfl rfl hl.1 rfl (lv_room (Nat.le_of_ble_eq_true rfl)) dX0_sign_24 ⟨Nat.zero_le _, Nat.zero_le _⟩) hS (fun q _ h => h.elim) (fun q h => h.elim) (fun r u9 t9 H locs ht9 hvm9 hw9 hB9 hz9 hk9 hS => ?_)
      have hP := wn_ro hP hk9
      subst hw9
      refine z_iast hx hb hK hP hap hA hS 43 (by decide) cx_sg (show j < xF κ by omega) (show xF κ < 2 ^ 31 by omega) dX0_sign_27 (fun H locs hP hS => ?_)
      have hP := px_sg hP
      refine W.widen (k := 1) (n := 6) (by omega) (by omega) (vx_ret ?_)
      exact W.vret hx hb hr (fun t ht hW => ⟨⟨_, rfl, ⟨j, hj, rfl, rfl⟩, (wn_h ht hP)⟩, hS.F ht⟩) hS.2.2 dX0_sign_28
    · have h3 : 1 = 0 := h3
      exact absurd h3 (by decide)
  · refine zu_ne (tgt := 18) hx hb (show 0 < 2 ^ 31 by omega) dX0_sign_5 (by decide) (fun h3 => ?_) (fun h3 => ?_)
    · have h3 : 0 < 0 := h3
      exact absurd h3 (by decide)
    · have h3 : 0 = 0 := h3
      obtain ⟨sa9, hsa9⟩ := hT9.2.2.2.2.2.1
      refine vx_throwS (own := RX0) (cls := RJx00060) (text := "no such feature") (names := nmI) (ik := 49) (is := 81) (ic := 53) (sa := sa9) (A := aX 96 ad) hx hb hst9 hown fitI fitNI (hts (.classLink RX0 49 RJx00060) (by decide +kernel)) (hts (.initialized RJx00060) (by decide +kernel)) hsa9 (vx_hat (fun w hw => hts w (atg_X0_sign w hw)) atI_bad (atB_use hT9)) (List.all_eq_true.mp atI_ot) hT9.2.1 hT9.2.2.1 hS (hl.1.trans hml.symm) dX0_sign_8 dX0_sign_11 dX0_sign_12 dX0_sign_14 dX0_sign_17 (fun x9 h9 => (hno9 x9 h9).elim) (Nat.lt_of_lt_of_le (show List.length nmI + 3 < 7 by decide +kernel) hRf) (Nat.le_trans (Nat.le_of_ble_eq_true rfl) hRl) (Nat.le_of_ble_eq_true rfl) (Nat.le_of_ble_eq_true rfl) hlocks (fun t9 hvm9 hsz9 hq9 => ⟨(), fun ⟨j, h6, h7⟩ => hno j h6 h7, ⟨rfl, zPx hP hq9⟩, zFx hS hsz9 hq9⟩) hS.2.2 (Nat.le_of_ble_eq_true rfl) (Nat.le_of_ble_eq_true rfl)
def wtP (κ : SX) (x y : Int32) (r : UInt64) : Prop := ∃ i j : Nat, i < 16 ∧ j < xF κ ∧ x = nI i ∧ y = nI j ∧ r = xWt κ i j
def wtX (κ : SX) (x y : Int32) : Prop := ¬ ∃ i j : Nat, i < 16 ∧ j < xF κ ∧ x = nI i ∧ y = nI j
set_option maxHeartbeats 4000000 in
set_option maxRecDepth 100000 in
theorem kX0_weight (l : Launch) (hst9 : l.stackTraces = false) (E : zE) (ad : Nat → Nat) (hap : apart 96 ad) (κ : SX) (x y : Int32) (hF : xF κ ≤ 16) : vx_Met l yX0_weight wtX0_weight ({ frames := 7, cells := 1, slots := 6, locals := 95 }) (va_Pc [.ref (ad 0), .int (x), .int (y)] (fun U => PX E ad κ U.heap ∧ zK E U ∧ zTh (aX 96 ad) U)) (va_Qd (fun (r : UInt64) (_ : Unit) => wtP κ x y r) (fun _ t => PX E ad κ t.heap) (aX 96 ad)) (vx_X (fun _ : Unit => wtX κ x y) (fun E9 _ t => E9 = RJx00060 ∧ PX E ad κ t.heap) (aX 96 ad)) 1 6 (aX 96 ad) := by
  refine vx_ofW (cc := cX0_weight) (maxL := 3) (ret := some .double) (by decide) rfl ?_
  intro p e s m args below meth c s₁ B hml hno9 hv
  obtain ⟨rfl, hP, hK, hT9⟩ := hv
  have hx := B.exec
  have hb := B.bytes
  have hr := B.returns
  have hts := atoms_spec (ws := wtX0_weight) B.pre
  have hown : s.vm.findClass RX0 = some m.cls := findClass_of_methodNamed B.named
  have hlocks := B.notSynchronized
  have hS : va_S (aX 96 ad) s.heap s.heap [] := va_S.rf
  have hA : ∀ k, k < 96 → aX 96 ad (ad k) := fun k hk => ⟨k, hk, rfl⟩
  have hRf : 7 ≤ ((headSpec wtX0_weight ({ frames := 7, cells := 1, slots := 6, locals := 95 })).room).frames := Nat.le_of_ble_eq_true rfl
  have hRl : 95 ≤ ((headSpec wtX0_weight ({ frames := 7, cells := 1, slots := 6, locals := 95 })).room).locals := Nat.le_of_ble_eq_true rfl
  have hl := lv_entry ([.ref (ad 0), .int (x), .int (y)]) (n := 3) (Nat.le_of_ble_eq_true rfl)
  rw [lg_entry_eq]
  generalize (lg_sl ([.ref (ad 0), .int (x), .int (y)]) ++ List.replicate (3 - (lg_sl ([.ref (ad 0), .int (x), .int (y)])).length) Slot.unset).toArray = ls at hl ⊢
  have hl : lv_has ls 3 [(0, .ref (ad 0)), (1, .int (x)), (2, .int (y))] := hl
  refine lv_iload_n hx hb dX0_weight_0 rfl (lv_at hl 1 rfl) ?_
  refine va_calli (va_runS (As := [.int (x)]) (rest := []) ⟨hx, hb, hml, hown, hts⟩ (kX0_isClass l x) (va_cwS 1 hts gtX0_weight_X0_isClass rfl rfl rfl (by decide +kernel) ⟨Nat.le_trans (Nat.le_of_ble_eq_true rfl) hRf, Nat.le_trans (Nat.le_of_ble_eq_true rfl) hRl⟩) zps rfl rfl hl.1 rfl (lv_room (Nat.le_of_ble_eq_true rfl)) dX0_weight_1 ⟨Nat.zero_le _, Nat.zero_le _⟩) hS (fun q _ h => h.elim) (fun q h => h.elim) (fun r u9 t9 H locs ht9 hvm9 hw9 hB9 hz9 hk9 hS => ?_)
  have hP := wn_ro hP hk9
  rcases hw9 with ⟨i, hi, rfl, rfl⟩ | ⟨hno, rfl⟩
  · refine zu_eq (tgt := 15) hx hb (show 1 < 2 ^ 31 by omega) dX0_weight_4 (by decide) (fun h2 => ?_) (fun h2 => ?_)
    · have h2 : 1 = 0 := h2
      exact absurd h2 (by decide)
    · have h2 : 0 < 1 := h2
      refine lv_aload_n hx hb dX0_weight_7 rfl (lv_at hl 0 rfl) ?_
      refine lv_iload_n hx hb dX0_weight_8 rfl (lv_at hl 2 rfl) ?_
      refine va_calli (va_runV (As := [.int (y)]) (rest := []) ⟨hx, hb, hml, hown, hts⟩ (kX0_isFeature l E ad hap κ y hF) (cwV 1 hts gtX0_weight_X0_isFeature rfl rfl rfl (by decide +kernel) ⟨Nat.le_trans (Nat.le_of_ble_eq_true rfl) hRf, Nat.le_trans (Nat.le_of_ble_eq_true rfl) hRl⟩) (zpx hK hP) rfl rfl hl.1 rfl (lv_room (Nat.le_of_ble_eq_true rfl)) dX0_weight_9 ⟨Nat.zero_le _, Nat.zero_le _⟩) hS (fun q _ h => h.elim) (fun q h => h.elim) (fun r u9 t9 H locs ht9 hvm9 hw9 hB9 hz9 hk9 hS => ?_)
      have hP := wn_ro hP hk9
      rcases hw9 with ⟨j, hj, rfl, rfl⟩ | ⟨hno, rfl⟩
      · refine zu_ne (tgt := 25) hx hb (show 1 < 2 ^ 31 by omega) dX0_weight_12 (by decide) (fun h3 => ?_) (fun h3 => ?_)
        · have h3 : 0 < 1 := h3
          refine lv_aload_n hx hb dX0_weight_25 rfl (lv_at hl 0 rfl) ?_
          refine gx hx hb hts intX0_weight hown hK hP 9 (by decide) (by decide +kernel) rfl (v := .ref (ad 62)) rfl dX0_weight_26 ?_
          refine lv_iload_n hx hb dX0_weight_29 rfl (lv_at hl 1 rfl) ?_
          refine z_aald 3 hx hb hK hP 62 (by decide) cx_wtO rfl rfl (show i < 16 by omega) (by decide) (if_pos (show i < 16 by omega)) dX0_weight_30 ?_
          refine lv_iload_n hx hb dX0_weight_31 rfl (lv_at hl 2 rfl) ?_
          refine z_dald hx hb hK hP (63 + i) (show 63 + i < 96 by omega) (cx_wt (show i < 16 by omega)) (show j < xF κ by omega) (show xF κ < 2 ^ 31 by omega) dX0_weight_32 ?_
          refine W.widen (k := 1) (n := 6) (by omega) (by omega) (vx_ret ?_)
          exact W.dret hx hb hr (fun t ht hW => ⟨⟨_, (), rfl, ⟨i, j, hi, hj, rfl, rfl, rfl⟩, (wn_h ht hP)⟩, hS.F ht⟩) hS.2.2 dX0_weight_33
        · have h3 : 1 = 0 := h3
          exact absurd h3 (by decide)
      · refine zu_ne (tgt := 25) hx hb (show 0 < 2 ^ 31 by omega) dX0_weight_12 (by decide) (fun h3 => ?_) (fun h3 => ?_)
        · have h3 : 0 < 0 := h3
          exact absurd h3 (by decide)
        · have h3 : 0 = 0 := h3
          obtain ⟨sa9, hsa9⟩ := hT9.2.2.2.2.2.2
          refine vx_throwS (own := RX0) (cls := RJx00060) (text := "no such class or feature") (names := nmI) (ik := 49) (is := 110) (ic := 53) (sa := sa9) (A := aX 96 ad) hx hb hst9 hown fitI fitNI (hts (.classLink RX0 49 RJx00060) (by decide +kernel)) (hts (.initialized RJx00060) (by decide +kernel)) hsa9 (vx_hat (fun w hw => hts w (atg_X0_weight w hw)) atI_bad (atB_use hT9)) (List.all_eq_true.mp atI_ot) hT9.2.1 hT9.2.2.1 hS (hl.1.trans hml.symm) dX0_weight_15 dX0_weight_18 dX0_weight_19 dX0_weight_21 dX0_weight_24 (fun x9 h9 => (hno9 x9 h9).elim) (Nat.lt_of_lt_of_le (show List.length nmI + 3 < 7 by decide +kernel) hRf) (Nat.le_trans (Nat.le_of_ble_eq_true rfl) hRl) (Nat.le_of_ble_eq_true rfl) (Nat.le_of_ble_eq_true rfl) hlocks (fun t9 hvm9 hsz9 hq9 => ⟨(), fun ⟨_, j, _, h6, _, h7⟩ => hno j h6 h7, ⟨rfl, zPx hP hq9⟩, zFx hS hsz9 hq9⟩) hS.2.2 (Nat.le_of_ble_eq_true rfl) (Nat.le_of_ble_eq_true rfl)
  · refine zu_eq (tgt := 15) hx hb (show 0 < 2 ^ 31 by omega) dX0_weight_4 (by decide) (fun h2 => ?_) (fun h2 => ?_)
    · have h2 : 0 = 0 := h2
      obtain ⟨sa9, hsa9⟩ := hT9.2.2.2.2.2.2
      refine vx_throwS (own := RX0) (cls := RJx00060) (text := "no such class or feature") (names := nmI) (ik := 49) (is := 110) (ic := 53) (sa := sa9) (A := aX 96 ad) hx hb hst9 hown fitI fitNI (hts (.classLink RX0 49 RJx00060) (by decide +kernel)) (hts (.initialized RJx00060) (by decide +kernel)) hsa9 (vx_hat (fun w hw => hts w (atg_X0_weight w hw)) atI_bad (atB_use hT9)) (List.all_eq_true.mp atI_ot) hT9.2.1 hT9.2.2.1 hS (hl.1.trans hml.symm) dX0_weight_15 dX0_weight_18 dX0_weight_19 dX0_weight_21 dX0_weight_24 (fun x9 h9 => (hno9 x9 h9).elim) (Nat.lt_of_lt_of_le (show List.length nmI + 3 < 7 by decide +kernel) hRf) (Nat.le_trans (Nat.le_of_ble_eq_true rfl) hRl) (Nat.le_of_ble_eq_true rfl) (Nat.le_of_ble_eq_true rfl) hlocks (fun t9 hvm9 hsz9 hq9 => ⟨(), fun ⟨i, _, h6, _, h7, _⟩ => hno i h6 h7, ⟨rfl, zPx hP hq9⟩, zFx hS hsz9 hq9⟩) hS.2.2 (Nat.le_of_ble_eq_true rfl) (Nat.le_of_ble_eq_true rfl)
    · have h2 : 0 < 0 := h2
      exact absurd h2 (by decide)
end
section
theorem rdX_wt (κ : SX) (a w : Nat → Nat → UInt64) : ∀ k, rdX (sxWt κ a) w k = rdX κ w k
  | 0 => rfl
  | k + 1 => by
    rw [rdX, rdX, rdX_wt κ a w k]
    rfl
theorem mm_mg (κ : SX) (hN : xN κ ≤ 40) (hev : ∀ e f, xEv κ e f < 256) : ∀ c, c < 16 → ∀ f, f < xF κ → mg 1057 (xMn (mmX κ) c f) := by
  intro c hc f hf
  show mg 1057 (dvE (xF κ) (mmB κ) (mmS κ) 16 c f)
  have h1 := mmB_le κ hc
  rw [dvE_in hc hf, mmS_sm κ hN hev hc hf]
  split
  · rename_i h0
    exact mg_ddiv _ (nI_ne0 h0 (by omega))
  · exact mg_mono (mg_i2d _) (by decide)
theorem fw_mg (κ : SX) : wB (xF κ) 1023 (xWt (fwX κ)) := by
  intro c f h
  show mg 1023 (zrows (xWt κ) (xF κ) (fun c => if 0 < xMb κ c then FP.dconst1 else FP.dconst0) 16 c f)
  rw [zrows_in h.1 h.2]
  split
  · exact mg_1
  · exact mg_mono mg_0 (by decide)
/-- the making with j rounds -/
def mkr (κ : SX) (j : Nat) : SX := sxWt κ (rdsX κ j)
def mkc (κ : SX) : SX := sxMd (sxCf κ (cfX κ (zrows (xCf κ) 16 (fun _ => 0) 16) (xN κ))) 1
def mkX (κ : SX) (j : Nat) : SX := mkc (mkr (fwX (mmX κ)) j)
def mkP (κ : SX) (x r : Int32) (κ' : SX) : Prop := (∃ j : Nat, j < 21 ∧ x = nI j ∧ 0 < xN κ ∧ r = nI 1 ∧ κ' = mkX κ j) ∨ ((∀ j : Nat, j < 21 → x ≠ nI j) ∧ r = -12 ∧ κ' = κ)
set_option maxHeartbeats 4000000 in
set_option maxRecDepth 100000 in
theorem lp_X0_make {p : Program} {l : Launch} {e : Env} {R : Room} {s : State} {m : MethodId} {args : Array Value} {below : List Frame} {meth : Method} {c : Code} {Q : State → Prop} {E : zE} {ad : Nat → Nat} (hx : p.tables.exec = Jvm.exec) (hb : c.code = cX0_make) (hml : c.maxLocals = 3) (hts : ∀ w ∈ wsX0_make, w.before args s = true) (hown : s.vm.findClass RX0 = some m.cls) (hK : zK E s) (hap : apart 96 ad) {H0 : Heap} (hRf : 4 ≤ R.frames) (hRl : 97 ≤ R.locals) (κ : SX) (j9 : Nat) (hj9 : j9 < 21) (hF : xF κ ≤ 16) (hN : xN κ ≤ 40) (hec : ∀ e, xEc κ e < 16) (hmb : ∀ c, c < 16 → xMb κ c < 2 ^ 31) (hwB : wB (xF κ) 1023 (xWt κ)) (hmn : ∀ c, c < 16 → ∀ f, f < xF κ → mg 1057 (xMn κ c f))
    (exit : ∀ (H : Heap) (locs : List Loc) (ls : Array Slot), PX E ad (sxWt κ (rdsX κ j9)) H → va_S (aX 96 ad) H0 H locs → lv_has ls 3 [(0, .ref (ad 0)), (1, .int (nI (j9)))] → W p l e R s m args below meth c H locs 0 0 Q (F0 m 55 ls [])) :
    ∀ (n i : Nat) (H : Heap) (locs : List Loc) (ls : Array Slot), i ≤ j9 → j9 - i < n → PX E ad (sxWt κ (rdsX κ i)) H → va_S (aX 96 ad) H0 H locs → lv_has ls 3 [(2, .int (nI (i))), (0, .ref (ad 0)), (1, .int (nI (j9)))] → W p l e R s m args below meth c H locs 0 0 Q (F0 m 40 ls []) := by
  have hA : ∀ k, k < 96 → aX 96 ad (ad k) := fun k hk => ⟨k, hk, rfl⟩
  intro n
  induction n with
  | zero => intro i H locs ls h1 h2; omega
  | succ n ih =>
    intro i H locs ls hi hn hP hS hl
    refine lv_iload_n hx hb dX0_make_40 rfl (lv_at hl 0 rfl) ?_
    refine lv_iload_n hx hb dX0_make_41 rfl (lv_at hl 2 rfl) ?_
    refine zb_ge (tgt := 55) hx hb (show i < 2 ^ 31 by omega) (show j9 < 2 ^ 31 by omega) dX0_make_42 (by decide) (fun h => ?_) (fun h => ?_)
    · have h : j9 ≤ i := h
      have hend : i = j9 := by omega
      subst hend
      exact exit _ _ _ hP hS (lv_sub hl [1, 2] rfl)
    · have h : i < j9 := h
      refine lv_aload_n hx hb dX0_make_45 rfl (lv_at hl 1 rfl) ?_
      refine va_callv (va_runV (As := []) (rest := []) ⟨hx, hb, hml, hown, hts⟩ (kX0_goRound l E ad hap (sxWt κ (rdsX κ i)) (1023 + 40 * i) hF hN hec hmb (by omega) (by omega) (rdsX_mg (κ := κ) (K := 1023) hec (by omega) hN hwB i (by omega)) hmn) (cwV 0 hts gX0_make_X0_goRound rfl rfl rfl (by decide +kernel) ⟨Nat.le_trans (Nat.le_of_ble_eq_true rfl) hRf, Nat.le_trans (Nat.le_of_ble_eq_true rfl) hRl⟩) (zpx hK hP) rfl rfl hl.1 rfl (lv_room (Nat.le_of_ble_eq_true rfl)) dX0_make_46 ⟨Nat.zero_le _, Nat.zero_le _⟩) hS (fun q _ h => h) (fun q h => h) (fun u9 t9 H locs ht9 hvm9 hw9 hB9 hz9 hk9 hS => ?_)
      rw [ht9] at hB9
      have hP := hB9
      subst hw9
      have e8 : rdsX κ (i + 1) = rdX (sxWt κ (rdsX κ i)) (rdsX κ i) (xN κ) := (rdX_wt κ _ _ _).symm
      refine lv_iinc (v := nI (i + 1)) (lv' := [(2, .int (nI (i + 1))), (0, .ref (ad 0)), (1, .int (nI (j9)))]) hx hb dX0_make_49 hl (k := 0) rfl (nI_1 _) (by decide) rfl (fun ls hl => ?_)
      refine lv_goto (tgt := 40) hx hb dX0_make_52 (by decide) ?_
      exact ih (i + 1) _ _ _ (by omega) (by omega) (by rw [e8]; exact hP) hS (lv_sub hl [0, 1, 2] rfl)
def mkT (κ : SX) (x : Int32) : Prop := ∃ j : Nat, j < 21 ∧ x = nI j ∧ xN κ = 0
set_option maxHeartbeats 4000000 in
set_option maxRecDepth 100000 in
theorem kX0_make (l : Launch) (hst9 : l.stackTraces = false) (E : zE) (ad : Nat → Nat) (hap : apart 96 ad) (κ : SX) (x : Int32) (hF : xF κ ≤ 16) (hN : xN κ ≤ 40) (hec : ∀ e, xEc κ e < 16) (hev : ∀ e f, xEv κ e f < 256) : vx_Met l yX0_make wsX0_make ({ frames := 6, cells := 1, slots := 6, locals := 97 }) (va_Pc [.ref (ad 0), .int (x)] (fun U => PX E ad κ U.heap ∧ zK E U ∧ zTh (aX 96 ad) U)) (va_Qi (fun (r : Int32) (κ' : SX) => mkP κ x r κ') (fun κ' t => PX E ad κ' t.heap) (aX 96 ad)) (vx_X (fun _ : Unit => mkT κ x) (fun E9 _ t => E9 = "java/lang/ArithmeticException" ∧ PX E ad κ t.heap) (aX 96 ad)) 1 6 (aX 96 ad) := by
  refine vx_ofW (cc := cX0_make) (maxL := 3) (ret := some .int) (by decide) rfl ?_
  intro p e s m args below meth c s₁ B hml hno9 hv
  obtain ⟨rfl, hP, hK, hT9⟩ := hv
  have hx := B.exec
  have hb := B.bytes
  have hr := B.returns
  have hts := atoms_spec (ws := wsX0_make) B.pre
  have hown : s.vm.findClass RX0 = some m.cls := findClass_of_methodNamed B.named
  have hlocks := B.notSynchronized
  have hS : va_S (aX 96 ad) s.heap s.heap [] := va_S.rf
  have hA : ∀ k, k < 96 → aX 96 ad (ad k) := fun k hk => ⟨k, hk, rfl⟩
  have hRf : 6 ≤ ((headSpec wsX0_make ({ frames := 6, cells := 1, slots := 6, locals := 97 })).room).frames := Nat.le_of_ble_eq_true rfl
  have hRl : 97 ≤ ((headSpec wsX0_make ({ frames := 6, cells := 1, slots := 6, locals := 97 })).room).locals := Nat.le_of_ble_eq_true rfl
  have hl := lv_entry ([.ref (ad 0), .int (x)]) (n := 3) (Nat.le_of_ble_eq_true rfl)
  rw [lg_entry_eq]
  generalize (lg_sl ([.ref (ad 0), .int (x)]) ++ List.replicate (3 - (lg_sl ([.ref (ad 0), .int (x)])).length) Slot.unset).toArray = ls at hl ⊢
  have hl : lv_has ls 3 [(0, .ref (ad 0)), (1, .int (x))] := hl
  refine lv_iload_n hx hb dX0_make_0 rfl (lv_at hl 1 rfl) ?_
  refine lv_if_lt (tgt := 10) hx hb dX0_make_1 (by decide) (fun h => ?_) (fun h => ?_)
  · refine lv_bipush (v := -12) hx hb dX0_make_10 (by decide +kernel) ?_
    refine W.widen (k := 1) (n := 6) (by omega) (by omega) (vx_ret ?_)
    exact W.iret hx hb hr (fun t ht hW => ⟨⟨_, κ, rfl, Or.inr ⟨fun j hj e => nI_pos (show j < 2 ^ 31 by omega) (e ▸ h), rfl, rfl⟩, (wn_h ht hP)⟩, hS.F ht⟩) hS.2.2 dX0_make_12
  · refine lv_iload_n hx hb dX0_make_4 rfl (lv_at hl 1 rfl) ?_
    refine lv_bipush (v := nI 20) hx hb dX0_make_5 (by decide +kernel) ?_
    refine lv_icmp_le (tgt := 13) hx hb dX0_make_7 (by decide) (fun h2 => ?_) (fun h2 => ?_)
    · obtain ⟨j, hj, rfl⟩ : ∃ j : Nat, j < 21 ∧ x = nI j := by
        rcases pk_ix x (n := 21) (by decide) with q | q | ⟨j, hj, e⟩
        · exact absurd q h
        · have q1 := Int32.le_trans q h2; exact absurd q1 (by decide)
        · exact ⟨j, hj, e⟩
      refine lv_aload_n hx hb dX0_make_13 rfl (lv_at hl 0 rfl) ?_
      refine gx hx hb hts innX0_make hown hK hP 3 (by decide) (by decide +kernel) rfl (v := .int (nI ((xN κ)))) rfl dX0_make_14 ?_
      refine zu_ne (tgt := 30) hx hb (show (xN κ) < 2 ^ 31 by omega) dX0_make_17 (by decide) (fun h3 => ?_) (fun h3 => ?_)
      · have h3 : 0 < (xN κ) := h3
        refine lv_aload_n hx hb dX0_make_30 rfl (lv_at hl 0 rfl) ?_
        refine va_callv (va_runV (As := []) (rest := []) ⟨hx, hb, hml, hown, hts⟩ (kX0_makeMeans l E ad hap κ hF hN hec hev) (cwV 0 hts gX0_make_X0_makeMeans rfl rfl rfl (by decide +kernel) ⟨Nat.le_trans (Nat.le_of_ble_eq_true rfl) hRf, Nat.le_trans (Nat.le_of_ble_eq_true rfl) hRl⟩) (zpx hK hP) rfl rfl hl.1 rfl (lv_room (Nat.le_of_ble_eq_true rfl)) dX0_make_31 ⟨Nat.zero_le _, Nat.zero_le _⟩) hS (fun q _ h => h) (fun q h => h) (fun u9 t9 H locs ht9 hvm9 hw9 hB9 hz9 hk9 hS => ?_)
        rw [ht9] at hB9
        have hP := hB9
        subst hw9
        obtain ⟨κ0, hk0⟩ : ∃ z, z = mmX κ := ⟨_, rfl⟩
        rw [← hk0] at hP
        have hF0 : xF κ0 ≤ 16 := by rw [hk0]; exact hF
        have hmb0 : ∀ c, c < 16 → xMb κ0 c < 2 ^ 31 := by rw [hk0]; exact fun c hc => by have := mmB_le κ hc; show mmB κ c < 2 ^ 31; omega
        refine lv_aload_n hx hb dX0_make_34 rfl (lv_at hl 0 rfl) ?_
        refine va_callv (va_runV (As := []) (rest := []) ⟨hx, hb, hml, hown, hts⟩ (kX0_makeFirstWeights l E ad hap κ0 hF0 hmb0) (cwV 0 hts gX0_make_X0_makeFirstWeights rfl rfl rfl (by decide +kernel) ⟨Nat.le_trans (Nat.le_of_ble_eq_true rfl) hRf, Nat.le_trans (Nat.le_of_ble_eq_true rfl) hRl⟩) (zpx hK hP) rfl rfl hl.1 rfl (lv_room (Nat.le_of_ble_eq_true rfl)) dX0_make_35 ⟨Nat.zero_le _, Nat.zero_le _⟩) hS (fun q _ h => h) (fun q h => h) (fun u9 t9 H locs ht9 hvm9 hw9 hB9 hz9 hk9 hS => ?_)
        rw [ht9] at hB9
        have hP := hB9
        subst hw9
        obtain ⟨κ1, hk1⟩ : ∃ z, z = fwX κ0 := ⟨_, rfl⟩
        rw [← hk1] at hP
        have hF1 : xF κ1 ≤ 16 := by rw [hk1]; exact hF0
        have hN1 : xN κ1 ≤ 40 := by rw [hk1, hk0]; exact hN
        have hec1 : ∀ e, xEc κ1 e < 16 := by rw [hk1, hk0]; exact hec
        have hmb1 : ∀ c, c < 16 → xMb κ1 c < 2 ^ 31 := by rw [hk1]; exact hmb0
        have hwB1 : wB (xF κ1) 1023 (xWt κ1) := by rw [hk1]; exact fw_mg κ0
        have hmn1 : ∀ c, c < 16 → ∀ f, f < xF κ1 → mg 1057 (xMn κ1 c f) := by rw [hk1, hk0]; exact mm_mg κ hN hev
        refine lv_iconst (v := nI 0) hx hb dX0_make_38 (by decide +kernel) ?_
        refine lv_istore_n (lv' := [(2, .int (nI (0))), (0, .ref (ad 0)), (1, .int (nI (j)))]) hx hb dX0_make_39 rfl hl (by decide) rfl (fun ls hl => ?_)
        refine lp_X0_make hx hb hml hts hown hK hap (Nat.le_trans (Nat.le_of_ble_eq_true rfl) hRf) (Nat.le_trans (Nat.le_of_ble_eq_true rfl) hRl) κ1 j hj hF1 hN1 hec1 hmb1 hwB1 hmn1 (fun H locs ls hP hS hl => ?_) (j + 1) 0 _ _ _ (by omega) (by omega) hP hS (lv_sub hl [0, 1, 2] rfl)
        obtain ⟨κ2, hk2⟩ : ∃ z, z = mkr κ1 j := ⟨_, rfl⟩
        have hP : PX E ad κ2 H := by rw [hk2]; exact hP
        have hF2 : xF κ2 ≤ 16 := by rw [hk2]; exact hF1
        have hN2 : xN κ2 ≤ 40 := by rw [hk2]; exact hN1
        have hec2 : ∀ e, xEc κ2 e < 16 := by rw [hk2]; exact hec1
        have hmb2 : ∀ c, c < 16 → xMb κ2 c < 2 ^ 31 := by rw [hk2]; exact hmb1
        have hwB2 : wB (xF κ2) (1023 + 40 * j) (xWt κ2) := by rw [hk2]; exact rdsX_mg (κ := κ1) (K := 1023) hec1 (by omega) hN1 hwB1 j (by omega)
        have hmn2 : ∀ c, c < 16 → ∀ f, f < xF κ2 → mg 1057 (xMn κ2 c f) := by rw [hk2]; exact hmn1
        refine lv_aload_n hx hb dX0_make_55 rfl (lv_at hl 0 rfl) ?_
        refine va_callv (va_runV (As := []) (rest := []) ⟨hx, hb, hml, hown, hts⟩ (kX0_countConfusions l E ad hap κ2 (1023 + 40 * j) hF2 hN2 hec2 hmb2 (by omega) (by omega) hwB2 hmn2) (cwV 0 hts gX0_make_X0_countConfusions rfl rfl rfl (by decide +kernel) ⟨Nat.le_trans (Nat.le_of_ble_eq_true rfl) hRf, Nat.le_trans (Nat.le_of_ble_eq_true rfl) hRl⟩) (zpx hK hP) rfl rfl hl.1 rfl (lv_room (Nat.le_of_ble_eq_true rfl)) dX0_make_56 ⟨Nat.zero_le _, Nat.zero_le _⟩) hS (fun q _ h => h) (fun q h => h) (fun u9 t9 H locs ht9 hvm9 hw9 hB9 hz9 hk9 hS => ?_)
        rw [ht9] at hB9
        have hP := hB9
        subst hw9
        obtain ⟨κ3, hk3⟩ : ∃ z, z = sxCf κ2 (cfX κ2 (zrows (xCf κ2) 16 (fun _ => 0) 16) (xN κ2)) := ⟨_, rfl⟩
        rw [← hk3] at hP
        refine lv_aload_n hx hb dX0_make_59 rfl (lv_at hl 0 rfl) ?_
        refine lv_iconst (v := nI 1) hx hb dX0_make_60 (by decide +kernel) ?_
        refine gxput hx hb hts innX0_make hown hK hP hap hA hS 6 (by decide) (by decide +kernel) rfl rfl (v := .int (nI (1))) rfl rfl (by show 6 < (List.length _); exact Nat.le_of_ble_eq_true rfl) dX0_make_61 (fun H locs hP hS => ?_)
        have hP := px_md hP
        refine lv_iconst (v := nI 1) hx hb dX0_make_64 (by decide +kernel) ?_
        have e9 : mkX κ j = sxMd κ3 1 := by rw [hk3, hk2, hk1, hk0]; rfl
        have hP : PX E ad (mkX κ j) H := by rw [e9]; exact hP
        refine W.widen (k := 1) (n := 6) (by omega) (by omega) (vx_ret ?_)
        exact W.iret hx hb hr (fun t ht hW => ⟨⟨_, (mkX κ j), rfl, Or.inl ⟨j, hj, rfl, h3, rfl, rfl⟩, (wn_h ht hP)⟩, hS.F ht⟩) hS.2.2 dX0_make_65
      · have h3 : (xN κ) = 0 := h3
        obtain ⟨sa9, hsa9⟩ := hT9.2.2.2.2.1
        refine vx_throwS (own := RX0) (cls := "java/lang/ArithmeticException") (text := "no examples") (names := nmA) (ik := 60) (is := 62) (ic := 64) (sa := sa9) (A := aX 96 ad) hx hb hst9 hown fitA fitNA (hts (.classLink RX0 60 "java/lang/ArithmeticException") (by decide +kernel)) (hts (.initialized "java/lang/ArithmeticException") (by decide +kernel)) hsa9 (vx_hat (fun w hw => hts w (atg_X0_make w hw)) atA_bad (atB_use hT9)) (List.all_eq_true.mp atA_ot) hT9.2.1 hT9.2.2.1 hS (hl.1.trans hml.symm) dX0_make_20 dX0_make_23 dX0_make_24 dX0_make_26 dX0_make_29 (fun x9 h9 => (hno9 x9 h9).elim) (Nat.lt_of_lt_of_le (show List.length nmA + 3 < 6 by decide +kernel) hRf) (Nat.le_trans (Nat.le_of_ble_eq_true rfl) hRl) (Nat.le_of_ble_eq_true rfl) (Nat.le_of_ble_eq_true rfl) hlocks (fun t9 hvm9 hsz9 hq9 => ⟨(), ⟨j, hj, rfl, h3⟩, ⟨rfl, zPx hP hq9⟩, zFx hS hsz9 hq9⟩) hS.2.2 (Nat.le_of_ble_eq_true rfl) (Nat.le_of_ble_eq_true rfl)
    · refine lv_bipush (v := -12) hx hb dX0_make_10 (by decide +kernel) ?_
      refine W.widen (k := 1) (n := 6) (by omega) (by omega) (vx_ret ?_)
      exact W.iret hx hb hr (fun t ht hW => ⟨⟨_, κ, rfl, Or.inr ⟨fun j hj e => h2 (by rw [e]; exact nI_le (by omega) (by decide)), rfl, rfl⟩, (wn_h ht hP)⟩, hS.F ht⟩) hS.2.2 dX0_make_12
end
section
/-! ===== what the reference's writing methods do, as folds over its rows ===== -/
/-- from place b on, the first k places get v -/
def fl {α : Type} (g : Nat → α) (b : Nat) (v : Nat → α) : Nat → Nat → α
  | 0 => g
  | k + 1 => va_up (fl g b v k) (b + k) (v k)
def fl0 {α : Type} (g : Nat → α) (v : Nat → α) : Nat → Nat → α
  | 0 => g
  | k + 1 => va_up (fl0 g v k) k (v k)
/-- rows of sixteen -/
def flc {α : Type} (g : Nat → α) (v : Nat → Nat → α) : Nat → Nat → α
  | 0 => g
  | c + 1 => fl (flc g v c) (16 * c) (v c) 16
theorem fl_out {α : Type} {g : Nat → α} {b : Nat} {v : Nat → α} : ∀ {k a : Nat}, (a < b ∨ b + k ≤ a) → fl g b v k a = g a
  | 0, _, _ => rfl
  | k + 1, a, h => by
    rw [fl, va_up_ne _ _ (by omega)]
    exact fl_out (by omega)
theorem fl_in {α : Type} {g : Nat → α} {b : Nat} {v : Nat → α} : ∀ {k j : Nat}, j < k → fl g b v k (b + j) = v j
  | k + 1, j, h => by
    rw [fl]
    by_cases e : j = k
    · subst e; rw [va_up_self]
    · rw [va_up_ne _ _ (by omega)]; exact fl_in (by omega)
theorem fl0_out {α : Type} {g : Nat → α} {v : Nat → α} : ∀ {k a : Nat}, k ≤ a → fl0 g v k a = g a
  | 0, _, _ => rfl
  | k + 1, a, h => by
    rw [fl0, va_up_ne _ _ (by omega)]
    exact fl0_out (by omega)
theorem fl0_in {α : Type} {g : Nat → α} {v : Nat → α} : ∀ {k j : Nat}, j < k → fl0 g v k j = v j
  | k + 1, j, h => by
    rw [fl0]
    by_cases e : j = k
    · subst e; rw [va_up_self]
    · rw [va_up_ne _ _ (by omega)]; exact fl0_in (by omega)
theorem flc_in {α : Type} {g : Nat → α} {v : Nat → Nat → α} : ∀ {k c f : Nat}, c < k → f < 16 → flc g v k (16 * c + f) = v c f
  | k + 1, c, f, h, hf => by
    rw [flc]
    by_cases e : c = k
    · subst e; exact fl_in hf
    · rw [fl_out (by omega)]; exact flc_in (by omega) hf
/-- the values of example e -/
def vwM (τ : SM) : Nat → Nat → Nat := fun e f => mVl τ (16 * e + f)
/-- how many examples of class c, their sum at f -/
def ctM (τ : SM) (c : Nat) : Nat := ctE (mCl τ) c (mN τ)
def smM (τ : SM) (c f : Nat) : Nat := smE (mCl τ) (vwM τ) c f (mN τ)
def mnV (τ : SM) (c f : Nat) : UInt64 := if 0 < ctM τ c then FP.ddiv (FP.i2d (nI (smM τ c f))) (FP.i2d (nI (ctM τ c))) else FP.dconst0
def wtV (τ : SM) (c : Nat) (_ : Nat) : UInt64 := if 0 < ctM τ c then FP.dconst1 else FP.dconst0
def hsV (τ : SM) (c : Nat) : Nat := if 0 < ctM τ c then 1 else 0
/-- the means, the weights, the classes that there are -/
def mmM (τ : SM) : SM := smWt (smMn (smHs τ (fl0 (mHs τ) (hsV τ) 16)) (flc (mMn τ) (mnV τ) 16)) (flc (mWt τ) (wtV τ) 16)
/-- one example's round -/
def shM (mn : Nat → UInt64) (v : Nat → Nat) (c n : Nat) (w : Nat → UInt64) : Nat → Nat → UInt64
  | 0 => w
  | f + 1 =>
    if ¬ Op.cmpValue (FP.dcmp (szF (FP.dsub (FP.i2d (nI (v f))) (mn (16 * c + f)))) (szF (FP.dsub (FP.i2d (nI (v f))) (mn (16 * n + f))))) CmpOp.l ≤ 0 then va_up (shM mn v c n w f) (16 * c + f) (FP.dmul (shM mn v c n w f (16 * c + f)) k875)
    else if ¬ Op.cmpValue (FP.dcmp (szF (FP.dsub (FP.i2d (nI (v f))) (mn (16 * n + f)))) (szF (FP.dsub (FP.i2d (nI (v f))) (mn (16 * c + f))))) CmpOp.l ≤ 0 then va_up (shM mn v c n w f) (16 * n + f) (FP.dmul (shM mn v c n w f (16 * n + f)) k1125)
    else shM mn v c n w f
theorem shM_rest {mn : Nat → UInt64} {v : Nat → Nat} {c n : Nat} {w : Nat → UInt64} : ∀ {f a j : Nat}, f ≤ j → j < 16 → shM mn v c n w f (16 * a + j) = w (16 * a + j)
  | 0, _, _, _, _ => rfl
  | f + 1, a, j, h, hj => by
    have ih : shM mn v c n w f (16 * a + j) = w (16 * a + j) := shM_rest (by omega) hj
    rw [shM]
    split
    · rw [va_up_ne _ _ (by omega), ih]
    · split
      · rw [va_up_ne _ _ (by omega), ih]
      · exact ih
/-- a round over the first k examples: the weights -/
def rdM (τ : SM) (w : Nat → UInt64) : Nat → Nat → UInt64
  | 0 => w
  | k + 1 =>
    if nearM (smWt τ (rdM τ w k)) (mVl τ) (16 * k) (-1) = nI (mCl τ k) then rdM τ w k
    else shM (mMn τ) (fun f => mVl τ (16 * k + f)) (mCl τ k) (nearM (smWt τ (rdM τ w k)) (mVl τ) (16 * k) (-1)).toNatClampNeg (rdM τ w k) (mF τ)
def rdsM (τ : SM) : Nat → Nat → UInt64
  | 0 => mWt τ
  | r + 1 => rdM τ (rdsM τ r) (mN τ)
theorem rdM_wt (τ : SM) (a w : Nat → UInt64) : ∀ k, rdM (smWt τ a) w k = rdM τ w k
  | 0 => rfl
  | k + 1 => by
    rw [rdM, rdM, rdM_wt τ a w k]
    rfl
/-- told once more -/
def cfM (τ : SM) (g : Nat → Nat) : Nat → Nat → Nat
  | 0 => g
  | k + 1 => va_up (cfM τ g k) (16 * mCl τ k + (nearM τ (mVl τ) (16 * k) (-1)).toNatClampNeg) (cfM τ g k (16 * mCl τ k + (nearM τ (mVl τ) (16 * k) (-1)).toNatClampNeg) + 1)
/-- a class that is there is found -/
theorem nrF_some {has : Nat → Bool} {dd : Nat → UInt64} {but : Int32} {c : Nat} (hc : has c = true) (hb : ¬ nI c = but) : ∀ {n : Nat}, c < n → ∃ j, j < n ∧ has j = true ∧ nI j ≠ but ∧ (nrF has dd but n).1 = nI j
  | n + 1, h => by
    rw [nrF]
    split
    · rename_i q
      exact ⟨n, Nat.lt_succ_self n, q.1, q.2.1, rfl⟩
    · rename_i q
      by_cases e : c = n
      · subst e
        rcases nrF_fst (has := has) (dd := dd) (but := but) c with h1 | ⟨j, h1, h2, h3, h4⟩
        · exact absurd ⟨hc, hb, Or.inl h1⟩ q
        · exact ⟨j, by omega, h2, h3, h4⟩
      · obtain ⟨j, h1, h2, h3, h4⟩ := nrF_some (dd := dd) hc hb (show c < n by omega)
        exact ⟨j, by omega, h2, h3, h4⟩
theorem nearM_some (τ : SM) (v : Nat → Nat) (fr c : Nat) (hc : c < 16) (h : 0 < mHs τ c) : ∃ j : Nat, j < 16 ∧ nearM τ v fr (-1) = nI j := by
  obtain ⟨j, h1, -, -, h4⟩ := nrF_some (has := hasM τ) (dd := ddM τ v fr) (but := -1) (c := c) (decide_eq_true (Nat.ne_of_gt h)) (m1_ne (by omega)) hc
  exact ⟨j, h1, h4⟩
/-- an example more -/
def addM (τ : SM) (c : Nat) : SM := smN (smVl (smCl (smC τ 0) (va_up (mCl τ) (mN τ) c)) (fl (mVl τ) (16 * mN τ) (fun _ => 0) 16)) (mN τ + 1)
def exQ (τ : SM) (x r : Int32) (τ' : SM) : Prop := (∃ c : Nat, c < 16 ∧ x = nI c ∧ ((mN τ = 40 ∧ r = -14 ∧ τ' = smC τ 0) ∨ (mN τ ≠ 40 ∧ r = nI (mN τ) ∧ τ' = addM τ c))) ∨ ((∀ j : Nat, j < 16 → x ≠ nI j) ∧ r = -12 ∧ τ' = smC τ 0)
end
section
/-! ===== the reference: writes ===== -/
set_option maxHeartbeats 4000000 in
set_option maxRecDepth 100000 in
theorem kX1_clear (l : Launch) (E : zE) (ad : Nat → Nat) (hap : apart 8 ad) (τ : SM) : Met l yX1_clear wsX1_clear ({ frames := 0, cells := 0, slots := 0, locals := 0 }) (va_Pc [.ref (ad 0)] (fun U => PM E ad τ U.heap ∧ zK E U)) (va_Qi (fun (r : Int32) (τ' : SM) => r = nI (mN τ) ∧ τ' = smN (smC τ 0) 0) (fun τ' t => PM E ad τ' t.heap) (aX 8 ad)) 0 0 (aX 8 ad) := by
  refine Met.ofW (cc := cX1_clear) (maxL := 2) (ret := some .int) (by decide) rfl ?_
  intro p e s m args below meth c s₁ B hml hv
  obtain ⟨rfl, hP, hK⟩ := hv
  have hx := B.exec
  have hb := B.bytes
  have hr := B.returns
  have hts := atoms_spec (ws := wsX1_clear) B.pre
  have hown : s.vm.findClass RX1 = some m.cls := findClass_of_methodNamed B.named
  have hlocks := B.notSynchronized
  have hS : va_S (aX 8 ad) s.heap s.heap [] := va_S.rf
  have hA : ∀ k, k < 8 → aX 8 ad (ad k) := fun k hk => ⟨k, hk, rfl⟩
  have hRf : 0 ≤ ((headSpec wsX1_clear ({ frames := 0, cells := 0, slots := 0, locals := 0 })).room).frames := Nat.le_of_ble_eq_true rfl
  have hRl : 0 ≤ ((headSpec wsX1_clear ({ frames := 0, cells := 0, slots := 0, locals := 0 })).room).locals := Nat.le_of_ble_eq_true rfl
  have hl := lv_entry ([.ref (ad 0)]) (n := 2) (Nat.le_of_ble_eq_true rfl)
  rw [lg_entry_eq]
  generalize (lg_sl ([.ref (ad 0)]) ++ List.replicate (2 - (lg_sl ([.ref (ad 0)])).length) Slot.unset).toArray = ls at hl ⊢
  have hl : lv_has ls 2 [(0, .ref (ad 0))] := hl
  refine lv_aload_n hx hb dX1_clear_0 rfl (lv_at hl 0 rfl) ?_
  refine lv_iconst (v := nI 0) hx hb dX1_clear_1 (by decide +kernel) ?_
  refine gmput hx hb hts innX1_clear hown hK hP hap hA hS 0 (by decide) (by decide +kernel) rfl rfl (v := .int (nI (0))) rfl rfl (by show 0 < (List.length _); exact Nat.le_of_ble_eq_true rfl) dX1_clear_2 (fun H locs hP hS => ?_)
  have hP := pm_c hP
  refine lv_aload_n hx hb dX1_clear_5 rfl (lv_at hl 0 rfl) ?_
  refine gm hx hb hts innX1_clear hown hK hP 2 (by decide) (by decide +kernel) rfl (v := .int (nI ((mN τ)))) rfl dX1_clear_6 ?_
  refine lv_istore_n (lv' := [(1, .int (nI ((mN τ)))), (0, .ref (ad 0))]) hx hb dX1_clear_9 rfl hl (by decide) rfl (fun ls hl => ?_)
  refine lv_aload_n hx hb dX1_clear_10 rfl (lv_at hl 1 rfl) ?_
  refine lv_iconst (v := nI 0) hx hb dX1_clear_11 (by decide +kernel) ?_
  refine gmput hx hb hts innX1_clear hown hK hP hap hA hS 2 (by decide) (by decide +kernel) rfl rfl (v := .int (nI (0))) rfl rfl (by show 2 < (List.length _); exact Nat.le_of_ble_eq_true rfl) dX1_clear_12 (fun H locs hP hS => ?_)
  have hP := pm_n hP
  refine lv_iload_n hx hb dX1_clear_15 rfl (lv_at hl 0 rfl) ?_
  exact W.iret hx hb hr (fun t ht hW => ⟨⟨_, _, rfl, ⟨rfl, rfl⟩, (wn_h ht hP)⟩, hS.F ht⟩) hS.2.2 dX1_clear_16
def mgQ (τ : SM) (x r : Int32) (τ' : SM) : Prop := (∃ j : Nat, j < 100001 ∧ x = nI j ∧ r = nI (mMg τ) ∧ τ' = smMg (smC τ 0) j) ∨ ((∀ j : Nat, j < 100001 → x ≠ nI j) ∧ r = -12 ∧ τ' = smC τ 0)
set_option maxHeartbeats 4000000 in
set_option maxRecDepth 100000 in
theorem kX1_margin (l : Launch) (E : zE) (ad : Nat → Nat) (hap : apart 8 ad) (τ : SM) (x : Int32) : Met l yX1_margin wsX1_margin ({ frames := 0, cells := 0, slots := 0, locals := 0 }) (va_Pc [.ref (ad 0), .int (x)] (fun U => PM E ad τ U.heap ∧ zK E U)) (va_Qi (fun (r : Int32) (τ' : SM) => mgQ τ x r τ') (fun τ' t => PM E ad τ' t.heap) (aX 8 ad)) 0 0 (aX 8 ad) := by
  refine Met.ofW (cc := cX1_margin) (maxL := 3) (ret := some .int) (by decide) rfl ?_
  intro p e s m args below meth c s₁ B hml hv
  obtain ⟨rfl, hP, hK⟩ := hv
  have hx := B.exec
  have hb := B.bytes
  have hr := B.returns
  have hts := atoms_spec (ws := wsX1_margin) B.pre
  have hown : s.vm.findClass RX1 = some m.cls := findClass_of_methodNamed B.named
  have hlocks := B.notSynchronized
  have hS : va_S (aX 8 ad) s.heap s.heap [] := va_S.rf
  have hA : ∀ k, k < 8 → aX 8 ad (ad k) := fun k hk => ⟨k, hk, rfl⟩
  have hRf : 0 ≤ ((headSpec wsX1_margin ({ frames := 0, cells := 0, slots := 0, locals := 0 })).room).frames := Nat.le_of_ble_eq_true rfl
  have hRl : 0 ≤ ((headSpec wsX1_margin ({ frames := 0, cells := 0, slots := 0, locals := 0 })).room).locals := Nat.le_of_ble_eq_true rfl
  have hl := lv_entry ([.ref (ad 0), .int (x)]) (n := 3) (Nat.le_of_ble_eq_true rfl)
  rw [lg_entry_eq]
  generalize (lg_sl ([.ref (ad 0), .int (x)]) ++ List.replicate (3 - (lg_sl ([.ref (ad 0), .int (x)])).length) Slot.unset).toArray = ls at hl ⊢
  have hl : lv_has ls 3 [(0, .ref (ad 0)), (1, .int (x))] := hl
  refine lv_aload_n hx hb dX1_margin_0 rfl (lv_at hl 0 rfl) ?_
  refine lv_iconst (v := nI 0) hx hb dX1_margin_1 (by decide +kernel) ?_
  refine gmput hx hb hts innX1_margin hown hK hP hap hA hS 0 (by decide) (by decide +kernel) rfl rfl (v := .int (nI (0))) rfl rfl (by show 0 < (List.length _); exact Nat.le_of_ble_eq_true rfl) dX1_margin_2 (fun H locs hP hS => ?_)
  have hP := pm_c hP
  refine lv_iload_n hx hb dX1_margin_5 rfl (lv_at hl 1 rfl) ?_
  refine lv_if_lt (tgt := 15) hx hb dX1_margin_6 (by decide) (fun h => ?_) (fun h => ?_)
  · refine lv_bipush (v := -12) hx hb dX1_margin_15 (by decide +kernel) ?_
    exact W.iret hx hb hr (fun t ht hW => ⟨⟨_, _, rfl, Or.inr ⟨fun j hj e => nI_pos (show j < 2 ^ 31 by omega) (e ▸ h), rfl, rfl⟩, (wn_h ht hP)⟩, hS.F ht⟩) hS.2.2 dX1_margin_17
  · refine lv_iload_n hx hb dX1_margin_9 rfl (lv_at hl 1 rfl) ?_
    refine lv_ldc (v := nI 100000) hx hb hown (hts (.constant RX1 87 (nI 100000)) (by decide +kernel)) dX1_margin_10 ?_
    refine lv_icmp_le (tgt := 18) hx hb dX1_margin_12 (by decide) (fun h2 => ?_) (fun h2 => ?_)
    · obtain ⟨j, hj, rfl⟩ : ∃ j : Nat, j < 100001 ∧ x = nI j := by
        rcases pk_ix x (n := 100001) (by decide) with q | q | ⟨j, hj, e⟩
        · exact absurd q h
        · have q1 := Int32.le_trans q h2; exact absurd q1 (by decide)
        · exact ⟨j, hj, e⟩
      refine lv_aload_n hx hb dX1_margin_18 rfl (lv_at hl 0 rfl) ?_
      refine gm hx hb hts innX1_margin hown hK hP 11 (by decide) (by decide +kernel) rfl (v := .int (nI ((mMg τ)))) rfl dX1_margin_19 ?_
      refine lv_istore_n (lv' := [(2, .int (nI ((mMg τ)))), (0, .ref (ad 0)), (1, .int (nI (j)))]) hx hb dX1_margin_22 rfl hl (by decide) rfl (fun ls hl => ?_)
      refine lv_aload_n hx hb dX1_margin_23 rfl (lv_at hl 1 rfl) ?_
      refine lv_iload_n hx hb dX1_margin_24 rfl (lv_at hl 2 rfl) ?_
      refine gmput hx hb hts innX1_margin hown hK hP hap hA hS 11 (by decide) (by decide +kernel) rfl rfl (v := .int (nI (j))) rfl rfl (by show 11 < (List.length _); exact Nat.le_of_ble_eq_true rfl) dX1_margin_25 (fun H locs hP hS => ?_)
      have hP := pm_mg hP
      refine lv_iload_n hx hb dX1_margin_28 rfl (lv_at hl 0 rfl) ?_
      exact W.iret hx hb hr (fun t ht hW => ⟨⟨_, _, rfl, Or.inl ⟨j, hj, rfl, rfl, rfl⟩, (wn_h ht hP)⟩, hS.F ht⟩) hS.2.2 dX1_margin_29
    · refine lv_bipush (v := -12) hx hb dX1_margin_15 (by decide +kernel) ?_
      exact W.iret hx hb hr (fun t ht hW => ⟨⟨_, _, rfl, Or.inr ⟨fun j hj e => h2 (by rw [e]; exact nI_le (by omega) (by decide)), rfl, rfl⟩, (wn_h ht hP)⟩, hS.F ht⟩) hS.2.2 dX1_margin_17
set_option maxHeartbeats 4000000 in
set_option maxRecDepth 100000 in
theorem lp_X1_example {p : Program} {l : Launch} {e : Env} {R : Room} {s : State} {m : MethodId} {args : Array Value} {below : List Frame} {meth : Method} {c : Code} {Q : State → Prop} {E : zE} {ad : Nat → Nat} (hx : p.tables.exec = Jvm.exec) (hb : c.code = cX1_example) (hml : c.maxLocals = 3) (hts : ∀ w ∈ wsX1_example, w.before args s = true) (hown : s.vm.findClass RX1 = some m.cls) (hK : zK E s) (hap : apart 8 ad) {H0 : Heap} (hRf : 0 ≤ R.frames) (hRl : 0 ≤ R.locals) (τ : SM) (hN : mN τ ≤ 40) (c9 : Nat) (hN1 : mN τ < 40)
    (exit : ∀ (H : Heap) (locs : List Loc) (ls : Array Slot), PM E ad (smVl (smCl (smC τ (0)) (va_up (mCl τ) (mN τ) c9)) (fl (mVl τ) (16 * mN τ) (fun _ => 0) 16)) H → va_S (aX 8 ad) H0 H locs → lv_has ls 3 [(0, .ref (ad 0))] → W p l e R s m args below meth c H locs 0 0 Q (F0 m 69 ls [])) :
    ∀ (n j : Nat) (H : Heap) (locs : List Loc) (ls : Array Slot), j ≤ 16 → 16 - j < n → PM E ad (smVl (smCl (smC τ (0)) (va_up (mCl τ) (mN τ) c9)) (fl (mVl τ) (16 * mN τ) (fun _ => 0) j)) H → va_S (aX 8 ad) H0 H locs → lv_has ls 3 [(2, .int (nI (j))), (0, .ref (ad 0))] → W p l e R s m args below meth c H locs 0 0 Q (F0 m 42 ls []) := by
  have hA : ∀ k, k < 8 → aX 8 ad (ad k) := fun k hk => ⟨k, hk, rfl⟩
  intro n
  induction n with
  | zero => intro j H locs ls h1 h2; omega
  | succ n ih =>
    intro j H locs ls hi hn hP hS hl
    refine lv_iload_n hx hb dX1_example_42 rfl (lv_at hl 0 rfl) ?_
    refine lv_bipush (v := nI 16) hx hb dX1_example_43 (by decide +kernel) ?_
    refine zb_ge (tgt := 69) hx hb (show j < 2 ^ 31 by omega) (show 16 < 2 ^ 31 by omega) dX1_example_45 (by decide) (fun h => ?_) (fun h => ?_)
    · have h : 16 ≤ j := h
      have hend : j = 16 := by omega
      subst hend
      exact exit _ _ _ hP hS (lv_sub hl [1] rfl)
    · have h : j < 16 := h
      refine lv_aload_n hx hb dX1_example_48 rfl (lv_at hl 1 rfl) ?_
      refine gm hx hb hts innX1_example hown hK hP 4 (by decide) (by decide +kernel) rfl (v := .ref (ad 2)) rfl dX1_example_49 ?_
      refine lv_bipush (v := nI 16) hx hb dX1_example_52 (by decide +kernel) ?_
      refine lv_aload_n hx hb dX1_example_54 rfl (lv_at hl 1 rfl) ?_
      refine gm hx hb hts innX1_example hown hK hP 2 (by decide) (by decide +kernel) rfl (v := .int (nI ((mN τ)))) rfl dX1_example_55 ?_
      refine zv_imul (v := (nI (16 * (mN τ)))) hx hb dX1_example_58 (pk_mul _ _) ?_
      refine lv_iload_n hx hb dX1_example_59 rfl (lv_at hl 0 rfl) ?_
      refine zv_iadd (v := (nI ((16 * (mN τ)) + j))) hx hb dX1_example_60 (nI_add _ _) ?_
      refine lv_iconst (v := nI 0) hx hb dX1_example_61 (by decide +kernel) ?_
      refine z_iast hx hb hK hP hap hA hS 2 (by decide) cm_vl (show (16 * (mN τ)) + j < 640 by omega) (by decide) dX1_example_62 (fun H locs hP hS => ?_)
      have hP := pm_vl hP
      refine lv_iinc (v := nI (j + 1)) (lv' := [(2, .int (nI (j + 1))), (0, .ref (ad 0))]) hx hb dX1_example_63 hl (k := 0) rfl (nI_1 _) (by decide) rfl (fun ls hl => ?_)
      refine lv_goto (tgt := 42) hx hb dX1_example_66 (by decide) ?_
      exact ih (j + 1) _ _ _ (by omega) (by omega) hP hS (lv_sub hl [0, 1] rfl)
set_option maxHeartbeats 4000000 in
set_option maxRecDepth 100000 in
theorem kX1_example (l : Launch) (E : zE) (ad : Nat → Nat) (hap : apart 8 ad) (τ : SM) (x : Int32) (hN : mN τ ≤ 40) : Met l yX1_example wsX1_example ({ frames := 0, cells := 0, slots := 0, locals := 0 }) (va_Pc [.ref (ad 0), .int (x)] (fun U => PM E ad τ U.heap ∧ zK E U)) (va_Qi (fun (r : Int32) (τ' : SM) => exQ τ x r τ') (fun τ' t => PM E ad τ' t.heap) (aX 8 ad)) 0 0 (aX 8 ad) := by
  refine Met.ofW (cc := cX1_example) (maxL := 3) (ret := some .int) (by decide) rfl ?_
  intro p e s m args below meth c s₁ B hml hv
  obtain ⟨rfl, hP, hK⟩ := hv
  have hx := B.exec
  have hb := B.bytes
  have hr := B.returns
  have hts := atoms_spec (ws := wsX1_example) B.pre
  have hown : s.vm.findClass RX1 = some m.cls := findClass_of_methodNamed B.named
  have hlocks := B.notSynchronized
  have hS : va_S (aX 8 ad) s.heap s.heap [] := va_S.rf
  have hA : ∀ k, k < 8 → aX 8 ad (ad k) := fun k hk => ⟨k, hk, rfl⟩
  have hRf : 0 ≤ ((headSpec wsX1_example ({ frames := 0, cells := 0, slots := 0, locals := 0 })).room).frames := Nat.le_of_ble_eq_true rfl
  have hRl : 0 ≤ ((headSpec wsX1_example ({ frames := 0, cells := 0, slots := 0, locals := 0 })).room).locals := Nat.le_of_ble_eq_true rfl
  have hl := lv_entry ([.ref (ad 0), .int (x)]) (n := 3) (Nat.le_of_ble_eq_true rfl)
  rw [lg_entry_eq]
  generalize (lg_sl ([.ref (ad 0), .int (x)]) ++ List.replicate (3 - (lg_sl ([.ref (ad 0), .int (x)])).length) Slot.unset).toArray = ls at hl ⊢
  have hl : lv_has ls 3 [(0, .ref (ad 0)), (1, .int (x))] := hl
  refine lv_aload_n hx hb dX1_example_0 rfl (lv_at hl 0 rfl) ?_
  refine lv_iconst (v := nI 0) hx hb dX1_example_1 (by decide +kernel) ?_
  refine gmput hx hb hts innX1_example hown hK hP hap hA hS 0 (by decide) (by decide +kernel) rfl rfl (v := .int (nI (0))) rfl rfl (by show 0 < (List.length _); exact Nat.le_of_ble_eq_true rfl) dX1_example_2 (fun H locs hP hS => ?_)
  have hP := pm_c hP
  refine lv_iload_n hx hb dX1_example_5 rfl (lv_at hl 1 rfl) ?_
  refine lv_if_lt (tgt := 15) hx hb dX1_example_6 (by decide) (fun h => ?_) (fun h => ?_)
  · refine lv_bipush (v := -12) hx hb dX1_example_15 (by decide +kernel) ?_
    exact W.iret hx hb hr (fun t ht hW => ⟨⟨_, _, rfl, Or.inr ⟨fun j hj e => nI_pos (show j < 2 ^ 31 by omega) (e ▸ h), rfl, rfl⟩, (wn_h ht hP)⟩, hS.F ht⟩) hS.2.2 dX1_example_17
  · refine lv_iload_n hx hb dX1_example_9 rfl (lv_at hl 1 rfl) ?_
    refine lv_bipush (v := nI 15) hx hb dX1_example_10 (by decide +kernel) ?_
    refine lv_icmp_le (tgt := 18) hx hb dX1_example_12 (by decide) (fun h2 => ?_) (fun h2 => ?_)
    · obtain ⟨c9, hc, rfl⟩ : ∃ j : Nat, j < 16 ∧ x = nI j := by
        rcases pk_ix x (n := 16) (by decide) with q | q | ⟨j, hj, e⟩
        · exact absurd q h
        · have q1 := Int32.le_trans q h2; exact absurd q1 (by decide)
        · exact ⟨j, hj, e⟩
      refine lv_aload_n hx hb dX1_example_18 rfl (lv_at hl 0 rfl) ?_
      refine gm hx hb hts innX1_example hown hK hP 2 (by decide) (by decide +kernel) rfl (v := .int (nI ((mN τ)))) rfl dX1_example_19 ?_
      refine lv_bipush (v := nI 40) hx hb dX1_example_22 (by decide +kernel) ?_
      refine zb_ne (tgt := 30) hx hb (show (mN τ) < 2 ^ 31 by omega) (show 40 < 2 ^ 31 by omega) dX1_example_24 (by decide) (fun h3 => ?_) (fun h3 => ?_)
      · have h3 : (mN τ) ≠ 40 := h3
        have h5 : mN τ < 40 := by omega
        refine lv_aload_n hx hb dX1_example_30 rfl (lv_at hl 0 rfl) ?_
        refine gm hx hb hts innX1_example hown hK hP 3 (by decide) (by decide +kernel) rfl (v := .ref (ad 1)) rfl dX1_example_31 ?_
        refine lv_aload_n hx hb dX1_example_34 rfl (lv_at hl 0 rfl) ?_
        refine gm hx hb hts innX1_example hown hK hP 2 (by decide) (by decide +kernel) rfl (v := .int (nI ((mN τ)))) rfl dX1_example_35 ?_
        refine lv_iload_n hx hb dX1_example_38 rfl (lv_at hl 1 rfl) ?_
        refine z_iast hx hb hK hP hap hA hS 1 (by decide) cm_cl (show (mN τ) < 40 by omega) (by decide) dX1_example_39 (fun H locs hP hS => ?_)
        have hP := pm_cl hP
        refine lv_iconst (v := nI 0) hx hb dX1_example_40 (by decide +kernel) ?_
        refine lv_istore_n (lv' := [(2, .int (nI (0))), (0, .ref (ad 0)), (1, .int (nI (c9)))]) hx hb dX1_example_41 rfl hl (by decide) rfl (fun ls hl => ?_)
        refine lp_X1_example hx hb hml hts hown hK hap hRf hRl τ hN c9 h5 (fun H locs ls hP hS hl => ?_) (16 + 1) 0 _ _ _ (by omega) (by omega) hP hS (lv_sub hl [0, 1] rfl)
        refine lv_aload_n hx hb dX1_example_69 rfl (lv_at hl 0 rfl) ?_
        refine lv_dup hx hb dX1_example_70 rfl ?_
        refine gm hx hb hts innX1_example hown hK hP 2 (by decide) (by decide +kernel) rfl (v := .int (nI ((mN τ)))) rfl dX1_example_71 ?_
        refine lv_iconst (v := nI 1) hx hb dX1_example_74 (by decide +kernel) ?_
        refine zv_iadd (v := (nI ((mN τ) + 1))) hx hb dX1_example_75 (nI_add _ _) ?_
        refine gmput hx hb hts innX1_example hown hK hP hap hA hS 2 (by decide) (by decide +kernel) rfl rfl (v := .int (nI ((mN τ) + 1))) rfl rfl (by show 2 < (List.length _); exact Nat.le_of_ble_eq_true rfl) dX1_example_76 (fun H locs hP hS => ?_)
        have hP := pm_n hP
        refine lv_aload_n hx hb dX1_example_79 rfl (lv_at hl 0 rfl) ?_
        refine gm hx hb hts innX1_example hown hK hP 2 (by decide) (by decide +kernel) rfl (v := .int (nI (((mN τ) + 1)))) rfl dX1_example_80 ?_
        refine lv_iconst (v := nI 1) hx hb dX1_example_83 (by decide +kernel) ?_
        refine zv_isub (v := nI ((mN τ))) hx hb dX1_example_84 (nI_pred _) ?_
        exact W.iret hx hb hr (fun t ht hW => ⟨⟨_, (addM τ c9), rfl, Or.inl ⟨c9, hc, rfl, Or.inr ⟨h3, rfl, rfl⟩⟩, (wn_h ht hP)⟩, hS.F ht⟩) hS.2.2 dX1_example_85
      · have h3 : (mN τ) = 40 := h3
        refine lv_bipush (v := -14) hx hb dX1_example_27 (by decide +kernel) ?_
        exact W.iret hx hb hr (fun t ht hW => ⟨⟨_, _, rfl, Or.inl ⟨c9, hc, rfl, Or.inl ⟨h3, rfl, rfl⟩⟩, (wn_h ht hP)⟩, hS.F ht⟩) hS.2.2 dX1_example_29
    · refine lv_bipush (v := -12) hx hb dX1_example_15 (by decide +kernel) ?_
      exact W.iret hx hb hr (fun t ht hW => ⟨⟨_, _, rfl, Or.inr ⟨fun j hj e => h2 (by rw [e]; exact nI_le (by omega) (by decide)), rfl, rfl⟩, (wn_h ht hP)⟩, hS.F ht⟩) hS.2.2 dX1_example_17
def ftO (τ : SM) (x y : Int32) : Prop := ∃ i j : Nat, i < mN τ ∧ j < mF τ ∧ x = nI i ∧ y = nI j
def ftQ (τ : SM) (x y z : Int32) (τ' : SM) : Prop := (∃ i j : Nat, i < mN τ ∧ j < mF τ ∧ x = nI i ∧ y = nI j ∧ τ' = smVl (smC τ 0) (va_up (mVl τ) (16 * i + j) (lbN z))) ∨ ((¬ ftO τ x y) ∧ τ' = smC τ 1)
set_option maxHeartbeats 4000000 in
set_option maxRecDepth 100000 in
theorem kX1_feature (l : Launch) (E : zE) (ad : Nat → Nat) (hap : apart 8 ad) (τ : SM) (x y z : Int32) (hF : mF τ ≤ 16) (hN : mN τ ≤ 40) : Met l yX1_feature wsX1_feature ({ frames := 1, cells := 0, slots := 0, locals := 21 }) (va_Pc [.ref (ad 0), .int (x), .int (y), .int (z)] (fun U => PM E ad τ U.heap ∧ zK E U)) (va_Qv (fun τ' : SM => ftQ τ x y z τ') (fun τ' t => PM E ad τ' t.heap) (aX 8 ad)) 0 0 (aX 8 ad) := by
  refine Met.ofW (cc := cX1_feature) (maxL := 4) (ret := none) (by decide) rfl ?_
  intro p e s m args below meth c s₁ B hml hv
  obtain ⟨rfl, hP, hK⟩ := hv
  have hx := B.exec
  have hb := B.bytes
  have hr := B.returns
  have hts := atoms_spec (ws := wsX1_feature) B.pre
  have hown : s.vm.findClass RX1 = some m.cls := findClass_of_methodNamed B.named
  have hlocks := B.notSynchronized
  have hS : va_S (aX 8 ad) s.heap s.heap [] := va_S.rf
  have hA : ∀ k, k < 8 → aX 8 ad (ad k) := fun k hk => ⟨k, hk, rfl⟩
  have hRf : 1 ≤ ((headSpec wsX1_feature ({ frames := 1, cells := 0, slots := 0, locals := 21 })).room).frames := Nat.le_of_ble_eq_true rfl
  have hRl : 21 ≤ ((headSpec wsX1_feature ({ frames := 1, cells := 0, slots := 0, locals := 21 })).room).locals := Nat.le_of_ble_eq_true rfl
  have hl := lv_entry ([.ref (ad 0), .int (x), .int (y), .int (z)]) (n := 4) (Nat.le_of_ble_eq_true rfl)
  rw [lg_entry_eq]
  generalize (lg_sl ([.ref (ad 0), .int (x), .int (y), .int (z)]) ++ List.replicate (4 - (lg_sl ([.ref (ad 0), .int (x), .int (y), .int (z)])).length) Slot.unset).toArray = ls at hl ⊢
  have hl : lv_has ls 4 [(0, .ref (ad 0)), (1, .int (x)), (2, .int (y)), (3, .int (z))] := hl
  refine lv_aload_n hx hb dX1_feature_0 rfl (lv_at hl 0 rfl) ?_
  refine lv_iload_n hx hb dX1_feature_1 rfl (lv_at hl 1 rfl) ?_
  refine lv_if_lt (tgt := 21) hx hb dX1_feature_2 (by decide) (fun h => ?_) (fun h => ?_)
  · refine lv_iconst (v := nI 1) hx hb dX1_feature_21 (by decide +kernel) ?_
    refine lv_goto (tgt := 26) hx hb dX1_feature_22 (by decide) ?_
    refine gmput hx hb hts innX1_feature hown hK hP hap hA hS 0 (by decide) (by decide +kernel) rfl rfl (v := .int (nI (1))) rfl rfl (by show 0 < (List.length _); exact Nat.le_of_ble_eq_true rfl) dX1_feature_26 (fun H locs hP hS => ?_)
    have hP := pm_c hP
    refine lv_aload_n hx hb dX1_feature_29 rfl (lv_at hl 0 rfl) ?_
    refine gm hx hb hts innX1_feature hown hK hP 0 (by decide) (by decide +kernel) rfl (v := .int (nI ((1)))) rfl dX1_feature_30 ?_
    refine zu_ne (tgt := 52) hx hb (show (1) < 2 ^ 31 by omega) dX1_feature_33 (by decide) (fun h4 => ?_) (fun h4 => ?_)
    · have h4 : 0 < (1) := h4
      exact W.vret hx hb hr (fun t ht hW => ⟨⟨_, rfl, Or.inr ⟨fun ⟨i, j, h1, _, h3, _⟩ => nI_pos (show i < 2 ^ 31 by omega) (h3 ▸ h), rfl⟩, (wn_h ht hP)⟩, hS.F ht⟩) hS.2.2 dX1_feature_52
    · have h4 : (1) = 0 := h4
      exact absurd h4 (by decide)
  · refine lv_iload_n hx hb dX1_feature_5 rfl (lv_at hl 1 rfl) ?_
    refine lv_aload_n hx hb dX1_feature_6 rfl (lv_at hl 0 rfl) ?_
    refine gm hx hb hts innX1_feature hown hK hP 2 (by decide) (by decide +kernel) rfl (v := .int (nI ((mN τ)))) rfl dX1_feature_7 ?_
    refine lv_icmp_ge (tgt := 21) hx hb dX1_feature_10 (by decide) (fun h2 => ?_) (fun h2 => ?_)
    · refine lv_iconst (v := nI 1) hx hb dX1_feature_21 (by decide +kernel) ?_
      refine lv_goto (tgt := 26) hx hb dX1_feature_22 (by decide) ?_
      refine gmput hx hb hts innX1_feature hown hK hP hap hA hS 0 (by decide) (by decide +kernel) rfl rfl (v := .int (nI (1))) rfl rfl (by show 0 < (List.length _); exact Nat.le_of_ble_eq_true rfl) dX1_feature_26 (fun H locs hP hS => ?_)
      have hP := pm_c hP
      refine lv_aload_n hx hb dX1_feature_29 rfl (lv_at hl 0 rfl) ?_
      refine gm hx hb hts innX1_feature hown hK hP 0 (by decide) (by decide +kernel) rfl (v := .int (nI ((1)))) rfl dX1_feature_30 ?_
      refine zu_ne (tgt := 52) hx hb (show (1) < 2 ^ 31 by omega) dX1_feature_33 (by decide) (fun h4 => ?_) (fun h4 => ?_)
      · have h4 : 0 < (1) := h4
        exact W.vret hx hb hr (fun t ht hW => ⟨⟨_, rfl, Or.inr ⟨fun ⟨i, j, h1, _, h3, _⟩ => nI_ge h1 (by omega) (h3 ▸ h2), rfl⟩, (wn_h ht hP)⟩, hS.F ht⟩) hS.2.2 dX1_feature_52
      · have h4 : (1) = 0 := h4
        exact absurd h4 (by decide)
    · obtain ⟨i, hi, rfl⟩ := (pk_ix x (n := mN τ) (by omega)).resolve_left h |>.resolve_left h2
      refine lv_aload_n hx hb dX1_feature_13 rfl (lv_at hl 0 rfl) ?_
      refine lv_iload_n hx hb dX1_feature_14 rfl (lv_at hl 2 rfl) ?_
      refine va_calli (va_runV (As := [.int (y)]) (rest := [.ref (ad 0)]) ⟨hx, hb, hml, hown, hts⟩ (kX1_isFeature l E ad hap τ y hF) (cwV 1 hts gX1_feature_X1_isFeature rfl rfl rfl (by decide +kernel) ⟨Nat.le_trans (Nat.le_of_ble_eq_true rfl) hRf, Nat.le_trans (Nat.le_of_ble_eq_true rfl) hRl⟩) (zpm hK hP) rfl rfl hl.1 rfl (lv_room (Nat.le_of_ble_eq_true rfl)) dX1_feature_15 ⟨Nat.zero_le _, Nat.zero_le _⟩) hS (fun q _ h => h.elim) (fun q h => h.elim) (fun r u9 t9 H locs ht9 hvm9 hw9 hB9 hz9 hk9 hS => ?_)
      have hP := wn_ro hP hk9
      rcases hw9 with ⟨j, hj, rfl, rfl⟩ | ⟨hno, rfl⟩
      · refine zu_ne (tgt := 25) hx hb (show 1 < 2 ^ 31 by omega) dX1_feature_18 (by decide) (fun h3 => ?_) (fun h3 => ?_)
        · have h3 : 0 < 1 := h3
          refine lv_iconst (v := nI 0) hx hb dX1_feature_25 (by decide +kernel) ?_
          refine gmput hx hb hts innX1_feature hown hK hP hap hA hS 0 (by decide) (by decide +kernel) rfl rfl (v := .int (nI (0))) rfl rfl (by show 0 < (List.length _); exact Nat.le_of_ble_eq_true rfl) dX1_feature_26 (fun H locs hP hS => ?_)
          have hP := pm_c hP
          refine lv_aload_n hx hb dX1_feature_29 rfl (lv_at hl 0 rfl) ?_
          refine gm hx hb hts innX1_feature hown hK hP 0 (by decide) (by decide +kernel) rfl (v := .int (nI ((0)))) rfl dX1_feature_30 ?_
          refine zu_ne (tgt := 52) hx hb (show (0) < 2 ^ 31 by omega) dX1_feature_33 (by decide) (fun h4 => ?_) (fun h4 => ?_)
          · have h4 : 0 < (0) := h4
            exact absurd h4 (by decide)
          · have h4 : (0) = 0 := h4
            refine lv_aload_n hx hb dX1_feature_36 rfl (lv_at hl 0 rfl) ?_
            refine gm hx hb hts innX1_feature hown hK hP 4 (by decide) (by decide +kernel) rfl (v := .ref (ad 2)) rfl dX1_feature_37 ?_
            refine lv_bipush (v := nI 16) hx hb dX1_feature_40 (by decide +kernel) ?_
            refine lv_iload_n hx hb dX1_feature_42 rfl (lv_at hl 1 rfl) ?_
            refine zv_imul (v := (nI (16 * i))) hx hb dX1_feature_43 (pk_mul _ _) ?_
            refine lv_iload_n hx hb dX1_feature_44 rfl (lv_at hl 2 rfl) ?_
            refine zv_iadd (v := (nI ((16 * i) + j))) hx hb dX1_feature_45 (nI_add _ _) ?_
            refine lv_iload_n hx hb dX1_feature_46 rfl (lv_at hl 3 rfl) ?_
            refine lv_sipush (v := nI 255) hx hb dX1_feature_47 (by decide +kernel) ?_
            refine zv_iand (v := nI (lbN (z))) hx hb dX1_feature_50 (lbN_eq _) ?_
            refine z_iast hx hb hK hP hap hA hS 2 (by decide) cm_vl (show (16 * i) + j < 640 by omega) (by decide) dX1_feature_51 (fun H locs hP hS => ?_)
            have hP := pm_vl hP
            exact W.vret hx hb hr (fun t ht hW => ⟨⟨_, rfl, Or.inl ⟨i, j, hi, hj, rfl, rfl, rfl⟩, (wn_h ht hP)⟩, hS.F ht⟩) hS.2.2 dX1_feature_52
        · have h3 : 1 = 0 := h3
          exact absurd h3 (by decide)
      · refine zu_ne (tgt := 25) hx hb (show 0 < 2 ^ 31 by omega) dX1_feature_18 (by decide) (fun h3 => ?_) (fun h3 => ?_)
        · have h3 : 0 < 0 := h3
          exact absurd h3 (by decide)
        · have h3 : 0 = 0 := h3
          refine lv_iconst (v := nI 1) hx hb dX1_feature_21 (by decide +kernel) ?_
          refine lv_goto (tgt := 26) hx hb dX1_feature_22 (by decide) ?_
          refine gmput hx hb hts innX1_feature hown hK hP hap hA hS 0 (by decide) (by decide +kernel) rfl rfl (v := .int (nI (1))) rfl rfl (by show 0 < (List.length _); exact Nat.le_of_ble_eq_true rfl) dX1_feature_26 (fun H locs hP hS => ?_)
          have hP := pm_c hP
          refine lv_aload_n hx hb dX1_feature_29 rfl (lv_at hl 0 rfl) ?_
          refine gm hx hb hts innX1_feature hown hK hP 0 (by decide) (by decide +kernel) rfl (v := .int (nI ((1)))) rfl dX1_feature_30 ?_
          refine zu_ne (tgt := 52) hx hb (show (1) < 2 ^ 31 by omega) dX1_feature_33 (by decide) (fun h4 => ?_) (fun h4 => ?_)
          · have h4 : 0 < (1) := h4
            exact W.vret hx hb hr (fun t ht hW => ⟨⟨_, rfl, Or.inr ⟨fun ⟨_, j, _, h6, _, h7⟩ => hno j h6 h7, rfl⟩, (wn_h ht hP)⟩, hS.F ht⟩) hS.2.2 dX1_feature_52
          · have h4 : (1) = 0 := h4
            exact absurd h4 (by decide)
def sgQ (τ : SM) (x z : Int32) (τ' : SM) : Prop := (∃ j : Nat, j < mF τ ∧ x = nI j ∧ τ' = smSg (smC τ 0) (va_up (mSg τ) j (lbN z))) ∨ ((¬ ∃ j : Nat, j < mF τ ∧ x = nI j) ∧ τ' = smC τ 1)
set_option maxHeartbeats 4000000 in
set_option maxRecDepth 100000 in
theorem kX1_sign (l : Launch) (E : zE) (ad : Nat → Nat) (hap : apart 8 ad) (τ : SM) (x z : Int32) (hF : mF τ ≤ 16) : Met l yX1_sign wsX1_sign ({ frames := 1, cells := 0, slots := 0, locals := 21 }) (va_Pc [.ref (ad 0), .int (x), .int (z)] (fun U => PM E ad τ U.heap ∧ zK E U)) (va_Qv (fun τ' : SM => sgQ τ x z τ') (fun τ' t => PM E ad τ' t.heap) (aX 8 ad)) 0 0 (aX 8 ad) := by
  refine Met.ofW (cc := cX1_sign) (maxL := 3) (ret := none) (by decide) rfl ?_
  intro p e s m args below meth c s₁ B hml hv
  obtain ⟨rfl, hP, hK⟩ := hv
  have hx := B.exec
  have hb := B.bytes
  have hr := B.returns
  have hts := atoms_spec (ws := wsX1_sign) B.pre
  have hown : s.vm.findClass RX1 = some m.cls := findClass_of_methodNamed B.named
  have hlocks := B.notSynchronized
  have hS : va_S (aX 8 ad) s.heap s.heap [] := va_S.rf
  have hA : ∀ k, k < 8 → aX 8 ad (ad k) := fun k hk => ⟨k, hk, rfl⟩
  have hRf : 1 ≤ ((headSpec wsX1_sign ({ frames := 1, cells := 0, slots := 0, locals := 21 })).room).frames := Nat.le_of_ble_eq_true rfl
  have hRl : 21 ≤ ((headSpec wsX1_sign ({ frames := 1, cells := 0, slots := 0, locals := 21 })).room).locals := Nat.le_of_ble_eq_true rfl
  have hl := lv_entry ([.ref (ad 0), .int (x), .int (z)]) (n := 3) (Nat.le_of_ble_eq_true rfl)
  rw [lg_entry_eq]
  generalize (lg_sl ([.ref (ad 0), .int (x), .int (z)]) ++ List.replicate (3 - (lg_sl ([.ref (ad 0), .int (x), .int (z)])).length) Slot.unset).toArray = ls at hl ⊢
  have hl : lv_has ls 3 [(0, .ref (ad 0)), (1, .int (x)), (2, .int (z))] := hl
  refine lv_aload_n hx hb dX1_sign_0 rfl (lv_at hl 0 rfl) ?_
  refine lv_aload_n hx hb dX1_sign_1 rfl (lv_at hl 0 rfl) ?_
  refine lv_iload_n hx hb dX1_sign_2 rfl (lv_at hl 1 rfl) ?_
  refine va_calli (va_runV (As := [.int (x)]) (rest := [.ref (ad 0)]) ⟨hx, hb, hml, hown, hts⟩ (kX1_isFeature l E ad hap τ x hF) (cwV 1 hts gX1_sign_X1_isFeature rfl rfl rfl (by decide +kernel) ⟨Nat.le_trans (Nat.le_of_ble_eq_true rfl) hRf, Nat.le_trans (Nat.le_of_ble_eq_true rfl) hRl⟩) (zpm hK hP) rfl rfl hl.1 rfl (lv_room (Nat.le_of_ble_eq_true rfl)) dX1_sign_3 ⟨Nat.zero_le _, Nat.zero_le _⟩) hS (fun q _ h => h.elim) (fun q h => h.elim) (fun r u9 t9 H locs ht9 hvm9 hw9 hB9 hz9 hk9 hS => ?_)
  have hP := wn_ro hP hk9
  rcases hw9 with ⟨j, hj, rfl, rfl⟩ | ⟨hno, rfl⟩
  · refine zu_eq (tgt := 13) hx hb (show 1 < 2 ^ 31 by omega) dX1_sign_6 (by decide) (fun h3 => ?_) (fun h3 => ?_)
    · have h3 : 1 = 0 := h3
      exact absurd h3 (by decide)
    · have h3 : 0 < 1 := h3
      refine lv_iconst (v := nI 0) hx hb dX1_sign_9 (by decide +kernel) ?_
      refine lv_goto (tgt := 14) hx hb dX1_sign_10 (by decide) ?_
      refine gmput hx hb hts innX1_sign hown hK hP hap hA hS 0 (by decide) (by decide +kernel) rfl rfl (v := .int (nI (0))) rfl rfl (by show 0 < (List.length _); exact Nat.le_of_ble_eq_true rfl) dX1_sign_14 (fun H locs hP hS => ?_)
      have hP := pm_c hP
      refine lv_aload_n hx hb dX1_sign_17 rfl (lv_at hl 0 rfl) ?_
      refine gm hx hb hts innX1_sign hown hK hP 0 (by decide) (by decide +kernel) rfl (v := .int (nI ((0)))) rfl dX1_sign_18 ?_
      refine zu_ne (tgt := 35) hx hb (show (0) < 2 ^ 31 by omega) dX1_sign_21 (by decide) (fun h4 => ?_) (fun h4 => ?_)
      · have h4 : 0 < (0) := h4
        exact absurd h4 (by decide)
      · have h4 : (0) = 0 := h4
        refine lv_aload_n hx hb dX1_sign_24 rfl (lv_at hl 0 rfl) ?_
        refine gm hx hb hts innX1_sign hown hK hP 5 (by decide) (by decide +kernel) rfl (v := .ref (ad 3)) rfl dX1_sign_25 ?_
        refine lv_iload_n hx hb dX1_sign_28 rfl (lv_at hl 1 rfl) ?_
        refine lv_iload_n hx hb dX1_sign_29 rfl (lv_at hl 2 rfl) ?_
        refine lv_sipush (v := nI 255) hx hb dX1_sign_30 (by decide +kernel) ?_
        refine zv_iand (v := nI (lbN (z))) hx hb dX1_sign_33 (lbN_eq _) ?_
        refine z_iast hx hb hK hP hap hA hS 3 (by decide) cm_sg (show j < 16 by omega) (by decide) dX1_sign_34 (fun H locs hP hS => ?_)
        have hP := pm_sg hP
        exact W.vret hx hb hr (fun t ht hW => ⟨⟨_, rfl, Or.inl ⟨j, hj, rfl, rfl⟩, (wn_h ht hP)⟩, hS.F ht⟩) hS.2.2 dX1_sign_35
  · refine zu_eq (tgt := 13) hx hb (show 0 < 2 ^ 31 by omega) dX1_sign_6 (by decide) (fun h3 => ?_) (fun h3 => ?_)
    · have h3 : 0 = 0 := h3
      refine lv_iconst (v := nI 1) hx hb dX1_sign_13 (by decide +kernel) ?_
      refine gmput hx hb hts innX1_sign hown hK hP hap hA hS 0 (by decide) (by decide +kernel) rfl rfl (v := .int (nI (1))) rfl rfl (by show 0 < (List.length _); exact Nat.le_of_ble_eq_true rfl) dX1_sign_14 (fun H locs hP hS => ?_)
      have hP := pm_c hP
      refine lv_aload_n hx hb dX1_sign_17 rfl (lv_at hl 0 rfl) ?_
      refine gm hx hb hts innX1_sign hown hK hP 0 (by decide) (by decide +kernel) rfl (v := .int (nI ((1)))) rfl dX1_sign_18 ?_
      refine zu_ne (tgt := 35) hx hb (show (1) < 2 ^ 31 by omega) dX1_sign_21 (by decide) (fun h4 => ?_) (fun h4 => ?_)
      · have h4 : 0 < (1) := h4
        exact W.vret hx hb hr (fun t ht hW => ⟨⟨_, rfl, Or.inr ⟨fun ⟨j, h6, h7⟩ => hno j h6 h7, rfl⟩, (wn_h ht hP)⟩, hS.F ht⟩) hS.2.2 dX1_sign_35
      · have h4 : (1) = 0 := h4
        exact absurd h4 (by decide)
    · have h3 : 0 < 0 := h3
      exact absurd h3 (by decide)
def cnQ (τ : SM) (x y r : Int32) : Prop := (∃ i j : Nat, i < 16 ∧ j < 16 ∧ x = nI i ∧ y = nI j ∧ r = nI (mCf τ (16 * i + j))) ∨ (((∀ j : Nat, j < 16 → x ≠ nI j) ∨ ∀ j : Nat, j < 16 → y ≠ nI j) ∧ r = -12)
set_option maxHeartbeats 4000000 in
set_option maxRecDepth 100000 in
theorem kX1_confused (l : Launch) (E : zE) (ad : Nat → Nat) (hap : apart 8 ad) (τ : SM) (x y : Int32) : Met l yX1_confused wsX1_confused ({ frames := 0, cells := 0, slots := 0, locals := 0 }) (va_Pc [.ref (ad 0), .int (x), .int (y)] (fun U => PM E ad τ U.heap ∧ zK E U)) (va_Qi (fun (r : Int32) (τ' : SM) => cnQ τ x y r ∧ τ' = smC τ 0) (fun τ' t => PM E ad τ' t.heap) (aX 8 ad)) 0 0 (aX 8 ad) := by
  refine Met.ofW (cc := cX1_confused) (maxL := 3) (ret := some .int) (by decide) rfl ?_
  intro p e s m args below meth c s₁ B hml hv
  obtain ⟨rfl, hP, hK⟩ := hv
  have hx := B.exec
  have hb := B.bytes
  have hr := B.returns
  have hts := atoms_spec (ws := wsX1_confused) B.pre
  have hown : s.vm.findClass RX1 = some m.cls := findClass_of_methodNamed B.named
  have hlocks := B.notSynchronized
  have hS : va_S (aX 8 ad) s.heap s.heap [] := va_S.rf
  have hA : ∀ k, k < 8 → aX 8 ad (ad k) := fun k hk => ⟨k, hk, rfl⟩
  have hRf : 0 ≤ ((headSpec wsX1_confused ({ frames := 0, cells := 0, slots := 0, locals := 0 })).room).frames := Nat.le_of_ble_eq_true rfl
  have hRl : 0 ≤ ((headSpec wsX1_confused ({ frames := 0, cells := 0, slots := 0, locals := 0 })).room).locals := Nat.le_of_ble_eq_true rfl
  have hl := lv_entry ([.ref (ad 0), .int (x), .int (y)]) (n := 3) (Nat.le_of_ble_eq_true rfl)
  rw [lg_entry_eq]
  generalize (lg_sl ([.ref (ad 0), .int (x), .int (y)]) ++ List.replicate (3 - (lg_sl ([.ref (ad 0), .int (x), .int (y)])).length) Slot.unset).toArray = ls at hl ⊢
  have hl : lv_has ls 3 [(0, .ref (ad 0)), (1, .int (x)), (2, .int (y))] := hl
  refine lv_aload_n hx hb dX1_confused_0 rfl (lv_at hl 0 rfl) ?_
  refine lv_iconst (v := nI 0) hx hb dX1_confused_1 (by decide +kernel) ?_
  refine gmput hx hb hts innX1_confused hown hK hP hap hA hS 0 (by decide) (by decide +kernel) rfl rfl (v := .int (nI (0))) rfl rfl (by show 0 < (List.length _); exact Nat.le_of_ble_eq_true rfl) dX1_confused_2 (fun H locs hP hS => ?_)
  have hP := pm_c hP
  refine lv_iload_n hx hb dX1_confused_5 rfl (lv_at hl 1 rfl) ?_
  refine lv_if_lt (tgt := 25) hx hb dX1_confused_6 (by decide) (fun h1 => ?_) (fun h1 => ?_)
  · refine lv_bipush (v := -12) hx hb dX1_confused_25 (by decide +kernel) ?_
    refine lv_goto (tgt := 41) hx hb dX1_confused_27 (by decide) ?_
    exact W.iret hx hb hr (fun t ht hW => ⟨⟨_, _, rfl, ⟨Or.inr ⟨Or.inl fun j9 hj9 e => nI_pos (show j9 < 2 ^ 31 by omega) (e ▸ h1), rfl⟩, rfl⟩, (wn_h ht hP)⟩, hS.F ht⟩) hS.2.2 dX1_confused_41
  · refine lv_iload_n hx hb dX1_confused_9 rfl (lv_at hl 1 rfl) ?_
    refine lv_bipush (v := nI 15) hx hb dX1_confused_10 (by decide +kernel) ?_
    refine lv_icmp_gt (tgt := 25) hx hb dX1_confused_12 (by decide) (fun h2 => ?_) (fun h2 => ?_)
    · refine lv_bipush (v := -12) hx hb dX1_confused_25 (by decide +kernel) ?_
      refine lv_goto (tgt := 41) hx hb dX1_confused_27 (by decide) ?_
      exact W.iret hx hb hr (fun t ht hW => ⟨⟨_, _, rfl, ⟨Or.inr ⟨Or.inl fun j9 hj9 e => absurd (e ▸ h2) (Int32.not_lt.mpr (nI_le (a := j9) (b := 15) (by omega) (by decide))), rfl⟩, rfl⟩, (wn_h ht hP)⟩, hS.F ht⟩) hS.2.2 dX1_confused_41
    · obtain ⟨i, hi9, rfl⟩ : ∃ j : Nat, j < 16 ∧ x = nI j := by
        rcases pk_ix x (n := 16) (by decide) with q | q | ⟨j, hj, e⟩
        · exact absurd q h1
        · exact absurd (Int32.lt_of_lt_of_le (show nI 15 < nI 16 by decide) q) h2
        · exact ⟨j, hj, e⟩
      refine lv_iload_n hx hb dX1_confused_15 rfl (lv_at hl 2 rfl) ?_
      refine lv_if_lt (tgt := 25) hx hb dX1_confused_16 (by decide) (fun h3 => ?_) (fun h3 => ?_)
      · refine lv_bipush (v := -12) hx hb dX1_confused_25 (by decide +kernel) ?_
        refine lv_goto (tgt := 41) hx hb dX1_confused_27 (by decide) ?_
        exact W.iret hx hb hr (fun t ht hW => ⟨⟨_, _, rfl, ⟨Or.inr ⟨Or.inr fun j9 hj9 e => nI_pos (show j9 < 2 ^ 31 by omega) (e ▸ h3), rfl⟩, rfl⟩, (wn_h ht hP)⟩, hS.F ht⟩) hS.2.2 dX1_confused_41
      · refine lv_iload_n hx hb dX1_confused_19 rfl (lv_at hl 2 rfl) ?_
        refine lv_bipush (v := nI 15) hx hb dX1_confused_20 (by decide +kernel) ?_
        refine lv_icmp_le (tgt := 30) hx hb dX1_confused_22 (by decide) (fun h4 => ?_) (fun h4 => ?_)
        · obtain ⟨j, hj9, rfl⟩ : ∃ j : Nat, j < 16 ∧ y = nI j := by
            rcases pk_ix y (n := 16) (by decide) with q | q | ⟨j, hj, e⟩
            · exact absurd q h3
            · have q1 := Int32.le_trans q h4; exact absurd q1 (by decide)
            · exact ⟨j, hj, e⟩
          refine lv_aload_n hx hb dX1_confused_30 rfl (lv_at hl 0 rfl) ?_
          refine gm hx hb hts innX1_confused hown hK hP 10 (by decide) (by decide +kernel) rfl (v := .ref (ad 7)) rfl dX1_confused_31 ?_
          refine lv_bipush (v := nI 16) hx hb dX1_confused_34 (by decide +kernel) ?_
          refine lv_iload_n hx hb dX1_confused_36 rfl (lv_at hl 1 rfl) ?_
          refine zv_imul (v := (nI (16 * i))) hx hb dX1_confused_37 (pk_mul _ _) ?_
          refine lv_iload_n hx hb dX1_confused_38 rfl (lv_at hl 2 rfl) ?_
          refine zv_iadd (v := (nI ((16 * i) + j))) hx hb dX1_confused_39 (nI_add _ _) ?_
          refine z_iald hx hb hK hP 7 (by decide) cm_cf (show (16 * i) + j < 256 by omega) (by decide) dX1_confused_40 ?_
          exact W.iret hx hb hr (fun t ht hW => ⟨⟨_, _, rfl, ⟨Or.inl ⟨i, j, hi9, hj9, rfl, rfl, rfl⟩, rfl⟩, (wn_h ht hP)⟩, hS.F ht⟩) hS.2.2 dX1_confused_41
        · refine lv_bipush (v := -12) hx hb dX1_confused_25 (by decide +kernel) ?_
          refine lv_goto (tgt := 41) hx hb dX1_confused_27 (by decide) ?_
          exact W.iret hx hb hr (fun t ht hW => ⟨⟨_, _, rfl, ⟨Or.inr ⟨Or.inr fun j9 hj9 e => h4 (by rw [e]; exact nI_le (by omega) (by decide)), rfl⟩, rfl⟩, (wn_h ht hP)⟩, hS.F ht⟩) hS.2.2 dX1_confused_41
theorem ctM_le (τ : SM) (c : Nat) : ctM τ c ≤ mN τ := ctE_le _ _ _
theorem smM_lt (τ : SM) (hN : mN τ ≤ 40) (hvl : ∀ k, mVl τ k < 256) (c f k : Nat) (hk : k ≤ 40) : smE (mCl τ) (vwM τ) c f k < 2 ^ 31 := by
  have := smE_le (ec := mCl τ) (ev := vwM τ) (fun e f => hvl _) c f k
  omega
set_option maxHeartbeats 4000000 in
set_option maxRecDepth 100000 in
theorem lp_X1_means1 {p : Program} {l : Launch} {e : Env} {R : Room} {s : State} {m : MethodId} {args : Array Value} {below : List Frame} {meth : Method} {c : Code} {Q : State → Prop} {E : zE} {ad : Nat → Nat} (hx : p.tables.exec = Jvm.exec) (hb : c.code = cX1_means) (hml : c.maxLocals = 6) (hts : ∀ w ∈ wsX1_means, w.before args s = true) (hown : s.vm.findClass RX1 = some m.cls) (hK : zK E s) (hap : apart 8 ad) {H0 : Heap} (hRf : 0 ≤ R.frames) (hRl : 0 ≤ R.locals) (τ : SM) (hN : mN τ ≤ 40) (hcl : ∀ e, mCl τ e < 16) (hvl : ∀ k, mVl τ k < 256) (c9 : Nat) (hc9 : c9 < 16)
    (exit : ∀ (H : Heap) (locs : List Loc) (ls : Array Slot), PM E ad (smWt (smMn (smHs τ (fl0 (mHs τ) (hsV τ) c9)) (flc (mMn τ) (mnV τ) c9)) (flc (mWt τ) (wtV τ) c9)) H → va_S (aX 8 ad) H0 H locs → lv_has ls 6 [(2, .int (nI (ctM τ c9))), (1, .int (nI (c9))), (0, .ref (ad 0))] → W p l e R s m args below meth c H locs 0 0 Q (F0 m 44 ls [])) :
    ∀ (n i : Nat) (H : Heap) (locs : List Loc) (ls : Array Slot), i ≤ mN τ → mN τ - i < n → PM E ad (smWt (smMn (smHs τ (fl0 (mHs τ) (hsV τ) c9)) (flc (mMn τ) (mnV τ) c9)) (flc (mWt τ) (wtV τ) c9)) H → va_S (aX 8 ad) H0 H locs → lv_has ls 6 [(3, .int (nI (i))), (2, .int (nI (ctE (mCl τ) c9 i))), (1, .int (nI (c9))), (0, .ref (ad 0))] → W p l e R s m args below meth c H locs 0 0 Q (F0 m 12 ls []) := by
  have hA : ∀ k, k < 8 → aX 8 ad (ad k) := fun k hk => ⟨k, hk, rfl⟩
  intro n
  induction n with
  | zero => intro i H locs ls h1 h2; omega
  | succ n ih =>
    intro i H locs ls hi hn hP hS hl
    refine lv_iload_n hx hb dX1_means_12 rfl (lv_at hl 0 rfl) ?_
    refine lv_aload_n hx hb dX1_means_13 rfl (lv_at hl 3 rfl) ?_
    refine gm hx hb hts innX1_means hown hK hP 2 (by decide) (by decide +kernel) rfl (v := .int (nI ((mN τ)))) rfl dX1_means_14 ?_
    refine zb_ge (tgt := 44) hx hb (show i < 2 ^ 31 by omega) (show (mN τ) < 2 ^ 31 by omega) dX1_means_17 (by decide) (fun h => ?_) (fun h => ?_)
    · have h : (mN τ) ≤ i := h
      have hend : i = mN τ := by omega
      subst hend
      exact exit _ _ _ hP hS (lv_sub hl [1, 2, 3] rfl)
    · have h : i < (mN τ) := h
      have hci := hcl i
      refine lv_iload_n hx hb dX1_means_20 rfl (lv_at hl 1 rfl) ?_
      refine lv_aload_n hx hb dX1_means_21 rfl (lv_at hl 3 rfl) ?_
      refine gm hx hb hts innX1_means hown hK hP 3 (by decide) (by decide +kernel) rfl (v := .ref (ad 1)) rfl dX1_means_22 ?_
      refine lv_iload_n hx hb dX1_means_25 rfl (lv_at hl 0 rfl) ?_
      refine z_iald hx hb hK hP 1 (by decide) cm_cl (show i < 40 by omega) (by decide) dX1_means_26 ?_
      refine lv_iload_n hx hb dX1_means_27 rfl (lv_at hl 2 rfl) ?_
      refine zb_ne (tgt := 35) hx hb (show (mCl τ) (i) < 2 ^ 31 by omega) (show c9 < 2 ^ 31 by omega) dX1_means_28 (by decide) (fun h1 => ?_) (fun h1 => ?_)
      · have h1 : ((mCl τ) (i)) ≠ c9 := h1
        have e8 : ctE (mCl τ) c9 (i + 1) = (ctE (mCl τ) c9 i) + 0 := by rw [ctE, if_neg h1]
        refine lv_iconst (v := nI 0) hx hb dX1_means_35 (by decide +kernel) ?_
        refine zv_iadd (v := (nI ((ctE (mCl τ) c9 i) + 0))) hx hb dX1_means_36 (nI_add _ _) ?_
        refine lv_istore_n (lv' := [(2, .int (nI ((ctE (mCl τ) c9 i) + 0))), (3, .int (nI (i))), (1, .int (nI (c9))), (0, .ref (ad 0))]) hx hb dX1_means_37 rfl hl (by decide) rfl (fun ls hl => ?_)
        refine lv_iinc (v := nI (i + 1)) (lv' := [(3, .int (nI (i + 1))), (2, .int (nI ((ctE (mCl τ) c9 i) + 0))), (1, .int (nI (c9))), (0, .ref (ad 0))]) hx hb dX1_means_38 hl (k := 1) rfl (nI_1 _) (by decide) rfl (fun ls hl => ?_)
        refine lv_goto (tgt := 12) hx hb dX1_means_41 (by decide) ?_
        exact ih (i + 1) _ _ _ (by omega) (by omega) hP hS (by rw [e8]; exact lv_sub hl [0, 1, 2, 3] rfl)
      · have h1 : ((mCl τ) (i)) = c9 := h1
        have e8 : ctE (mCl τ) c9 (i + 1) = (ctE (mCl τ) c9 i) + 1 := by rw [ctE, if_pos h1]
        refine lv_iconst (v := nI 1) hx hb dX1_means_31 (by decide +kernel) ?_
        refine lv_goto (tgt := 36) hx hb dX1_means_32 (by decide) ?_
        refine zv_iadd (v := (nI ((ctE (mCl τ) c9 i) + 1))) hx hb dX1_means_36 (nI_add _ _) ?_
        refine lv_istore_n (lv' := [(2, .int (nI ((ctE (mCl τ) c9 i) + 1))), (3, .int (nI (i))), (1, .int (nI (c9))), (0, .ref (ad 0))]) hx hb dX1_means_37 rfl hl (by decide) rfl (fun ls hl => ?_)
        refine lv_iinc (v := nI (i + 1)) (lv' := [(3, .int (nI (i + 1))), (2, .int (nI ((ctE (mCl τ) c9 i) + 1))), (1, .int (nI (c9))), (0, .ref (ad 0))]) hx hb dX1_means_38 hl (k := 1) rfl (nI_1 _) (by decide) rfl (fun ls hl => ?_)
        refine lv_goto (tgt := 12) hx hb dX1_means_41 (by decide) ?_
        exact ih (i + 1) _ _ _ (by omega) (by omega) hP hS (by rw [e8]; exact lv_sub hl [0, 1, 2, 3] rfl)
set_option maxHeartbeats 4000000 in
set_option maxRecDepth 100000 in
theorem lp_X1_means2 {p : Program} {l : Launch} {e : Env} {R : Room} {s : State} {m : MethodId} {args : Array Value} {below : List Frame} {meth : Method} {c : Code} {Q : State → Prop} {E : zE} {ad : Nat → Nat} (hx : p.tables.exec = Jvm.exec) (hb : c.code = cX1_means) (hml : c.maxLocals = 6) (hts : ∀ w ∈ wsX1_means, w.before args s = true) (hown : s.vm.findClass RX1 = some m.cls) (hK : zK E s) (hap : apart 8 ad) {H0 : Heap} (hRf : 0 ≤ R.frames) (hRl : 0 ≤ R.locals) (τ : SM) (hN : mN τ ≤ 40) (hcl : ∀ e, mCl τ e < 16) (hvl : ∀ k, mVl τ k < 256) (c9 f9 : Nat) (hc9 : c9 < 16) (hf9 : f9 < 16)
    (exit : ∀ (H : Heap) (locs : List Loc) (ls : Array Slot), PM E ad (smWt (smMn (smHs τ (fl0 (mHs τ) (hsV τ) (c9 + 1))) (fl (flc (mMn τ) (mnV τ) c9) (16 * c9) (mnV τ c9) f9)) (fl (flc (mWt τ) (wtV τ) c9) (16 * c9) (wtV τ c9) f9)) H → va_S (aX 8 ad) H0 H locs → lv_has ls 6 [(4, .int (nI (smM τ c9 f9))), (3, .int (nI (f9))), (2, .int (nI (ctM τ c9))), (1, .int (nI (c9))), (0, .ref (ad 0))] → W p l e R s m args below meth c H locs 0 0 Q (F0 m 120 ls [])) :
    ∀ (n i : Nat) (H : Heap) (locs : List Loc) (ls : Array Slot), i ≤ mN τ → mN τ - i < n → PM E ad (smWt (smMn (smHs τ (fl0 (mHs τ) (hsV τ) (c9 + 1))) (fl (flc (mMn τ) (mnV τ) c9) (16 * c9) (mnV τ c9) f9)) (fl (flc (mWt τ) (wtV τ) c9) (16 * c9) (wtV τ c9) f9)) H → va_S (aX 8 ad) H0 H locs → lv_has ls 6 [(5, .int (nI (i))), (4, .int (nI (smE (mCl τ) (vwM τ) c9 f9 i))), (3, .int (nI (f9))), (2, .int (nI (ctM τ c9))), (1, .int (nI (c9))), (0, .ref (ad 0))] → W p l e R s m args below meth c H locs 0 0 Q (F0 m 73 ls []) := by
  have hA : ∀ k, k < 8 → aX 8 ad (ad k) := fun k hk => ⟨k, hk, rfl⟩
  intro n
  induction n with
  | zero => intro i H locs ls h1 h2; omega
  | succ n ih =>
    intro i H locs ls hi hn hP hS hl
    refine lv_iload hx hb dX1_means_73 (lv_at hl 0 rfl) ?_
    refine lv_aload_n hx hb dX1_means_75 rfl (lv_at hl 5 rfl) ?_
    refine gm hx hb hts innX1_means hown hK hP 2 (by decide) (by decide +kernel) rfl (v := .int (nI ((mN τ)))) rfl dX1_means_76 ?_
    refine zb_ge (tgt := 120) hx hb (show i < 2 ^ 31 by omega) (show (mN τ) < 2 ^ 31 by omega) dX1_means_79 (by decide) (fun h => ?_) (fun h => ?_)
    · have h : (mN τ) ≤ i := h
      have hend : i = mN τ := by omega
      subst hend
      exact exit _ _ _ hP hS (lv_sub hl [1, 2, 3, 4, 5] rfl)
    · have h : i < (mN τ) := h
      have hci := hcl i
      refine lv_iload hx hb dX1_means_82 (lv_at hl 1 rfl) ?_
      refine lv_aload_n hx hb dX1_means_84 rfl (lv_at hl 5 rfl) ?_
      refine gm hx hb hts innX1_means hown hK hP 3 (by decide) (by decide +kernel) rfl (v := .ref (ad 1)) rfl dX1_means_85 ?_
      refine lv_iload hx hb dX1_means_88 (lv_at hl 0 rfl) ?_
      refine z_iald hx hb hK hP 1 (by decide) cm_cl (show i < 40 by omega) (by decide) dX1_means_90 ?_
      refine lv_iload_n hx hb dX1_means_91 rfl (lv_at hl 4 rfl) ?_
      refine zb_ne (tgt := 110) hx hb (show (mCl τ) (i) < 2 ^ 31 by omega) (show c9 < 2 ^ 31 by omega) dX1_means_92 (by decide) (fun h1 => ?_) (fun h1 => ?_)
      · have h1 : ((mCl τ) (i)) ≠ c9 := h1
        have e8 : smE (mCl τ) (vwM τ) c9 f9 (i + 1) = (smE (mCl τ) (vwM τ) c9 f9 i) + 0 := by rw [smE, if_neg h1]
        refine lv_iconst (v := nI 0) hx hb dX1_means_110 (by decide +kernel) ?_
        refine zv_iadd (v := (nI ((smE (mCl τ) (vwM τ) c9 f9 i) + 0))) hx hb dX1_means_111 (nI_add _ _) ?_
        refine lv_istore (lv' := [(4, .int (nI ((smE (mCl τ) (vwM τ) c9 f9 i) + 0))), (5, .int (nI (i))), (3, .int (nI (f9))), (2, .int (nI (ctM τ c9))), (1, .int (nI (c9))), (0, .ref (ad 0))]) hx hb dX1_means_112 hl (by decide) rfl (fun ls hl => ?_)
        refine lv_iinc (v := nI (i + 1)) (lv' := [(5, .int (nI (i + 1))), (4, .int (nI ((smE (mCl τ) (vwM τ) c9 f9 i) + 0))), (3, .int (nI (f9))), (2, .int (nI (ctM τ c9))), (1, .int (nI (c9))), (0, .ref (ad 0))]) hx hb dX1_means_114 hl (k := 1) rfl (nI_1 _) (by decide) rfl (fun ls hl => ?_)
        refine lv_goto (tgt := 73) hx hb dX1_means_117 (by decide) ?_
        exact ih (i + 1) _ _ _ (by omega) (by omega) hP hS (by rw [e8]; exact lv_sub hl [0, 1, 2, 3, 4, 5] rfl)
      · have h1 : ((mCl τ) (i)) = c9 := h1
        have e8 : smE (mCl τ) (vwM τ) c9 f9 (i + 1) = (smE (mCl τ) (vwM τ) c9 f9 i) + (mVl τ ((16 * i) + f9)) := by rw [smE, if_pos h1]; rfl
        refine lv_aload_n hx hb dX1_means_95 rfl (lv_at hl 5 rfl) ?_
        refine gm hx hb hts innX1_means hown hK hP 4 (by decide) (by decide +kernel) rfl (v := .ref (ad 2)) rfl dX1_means_96 ?_
        refine lv_bipush (v := nI 16) hx hb dX1_means_99 (by decide +kernel) ?_
        refine lv_iload hx hb dX1_means_101 (lv_at hl 0 rfl) ?_
        refine zv_imul (v := (nI (16 * i))) hx hb dX1_means_103 (pk_mul _ _) ?_
        refine lv_iload_n hx hb dX1_means_104 rfl (lv_at hl 2 rfl) ?_
        refine zv_iadd (v := (nI ((16 * i) + f9))) hx hb dX1_means_105 (nI_add _ _) ?_
        refine z_iald hx hb hK hP 2 (by decide) cm_vl (show (16 * i) + f9 < 640 by omega) (by decide) dX1_means_106 ?_
        refine lv_goto (tgt := 111) hx hb dX1_means_107 (by decide) ?_
        refine zv_iadd (v := (nI ((smE (mCl τ) (vwM τ) c9 f9 i) + ((mVl τ) ((16 * i) + f9))))) hx hb dX1_means_111 (nI_add _ _) ?_
        refine lv_istore (lv' := [(4, .int (nI ((smE (mCl τ) (vwM τ) c9 f9 i) + ((mVl τ) ((16 * i) + f9))))), (5, .int (nI (i))), (3, .int (nI (f9))), (2, .int (nI (ctM τ c9))), (1, .int (nI (c9))), (0, .ref (ad 0))]) hx hb dX1_means_112 hl (by decide) rfl (fun ls hl => ?_)
        refine lv_iinc (v := nI (i + 1)) (lv' := [(5, .int (nI (i + 1))), (4, .int (nI ((smE (mCl τ) (vwM τ) c9 f9 i) + ((mVl τ) ((16 * i) + f9))))), (3, .int (nI (f9))), (2, .int (nI (ctM τ c9))), (1, .int (nI (c9))), (0, .ref (ad 0))]) hx hb dX1_means_114 hl (k := 1) rfl (nI_1 _) (by decide) rfl (fun ls hl => ?_)
        refine lv_goto (tgt := 73) hx hb dX1_means_117 (by decide) ?_
        exact ih (i + 1) _ _ _ (by omega) (by omega) hP hS (by rw [e8]; exact lv_sub hl [0, 1, 2, 3, 4, 5] rfl)
set_option maxHeartbeats 4000000 in
set_option maxRecDepth 100000 in
theorem lp_X1_means3 {p : Program} {l : Launch} {e : Env} {R : Room} {s : State} {m : MethodId} {args : Array Value} {below : List Frame} {meth : Method} {c : Code} {Q : State → Prop} {E : zE} {ad : Nat → Nat} (hx : p.tables.exec = Jvm.exec) (hb : c.code = cX1_means) (hml : c.maxLocals = 6) (hts : ∀ w ∈ wsX1_means, w.before args s = true) (hown : s.vm.findClass RX1 = some m.cls) (hK : zK E s) (hap : apart 8 ad) {H0 : Heap} (hRf : 0 ≤ R.frames) (hRl : 0 ≤ R.locals) (τ : SM) (hN : mN τ ≤ 40) (hcl : ∀ e, mCl τ e < 16) (hvl : ∀ k, mVl τ k < 256) (c9 : Nat) (hc9 : c9 < 16)
    (exit : ∀ (H : Heap) (locs : List Loc) (ls : Array Slot), PM E ad (smWt (smMn (smHs τ (fl0 (mHs τ) (hsV τ) (c9 + 1))) (fl (flc (mMn τ) (mnV τ) c9) (16 * c9) (mnV τ c9) 16)) (fl (flc (mWt τ) (wtV τ) c9) (16 * c9) (wtV τ c9) 16)) H → va_S (aX 8 ad) H0 H locs → lv_has ls 6 [(1, .int (nI (c9))), (0, .ref (ad 0))] → W p l e R s m args below meth c H locs 0 0 Q (F0 m 171 ls [])) :
    ∀ (n j : Nat) (H : Heap) (locs : List Loc) (ls : Array Slot), j ≤ 16 → 16 - j < n → PM E ad (smWt (smMn (smHs τ (fl0 (mHs τ) (hsV τ) (c9 + 1))) (fl (flc (mMn τ) (mnV τ) c9) (16 * c9) (mnV τ c9) j)) (fl (flc (mWt τ) (wtV τ) c9) (16 * c9) (wtV τ c9) j)) H → va_S (aX 8 ad) H0 H locs → lv_has ls 6 [(3, .int (nI (j))), (2, .int (nI (ctM τ c9))), (1, .int (nI (c9))), (0, .ref (ad 0))] → W p l e R s m args below meth c H locs 0 0 Q (F0 m 61 ls []) := by
  have hA : ∀ k, k < 8 → aX 8 ad (ad k) := fun k hk => ⟨k, hk, rfl⟩
  intro n
  induction n with
  | zero => intro j H locs ls h1 h2; omega
  | succ n ih =>
    intro j H locs ls hi hn hP hS hl
    have hct := ctM_le τ c9
    refine lv_iload_n hx hb dX1_means_61 rfl (lv_at hl 0 rfl) ?_
    refine lv_bipush (v := nI 16) hx hb dX1_means_62 (by decide +kernel) ?_
    refine zb_ge (tgt := 171) hx hb (show j < 2 ^ 31 by omega) (show 16 < 2 ^ 31 by omega) dX1_means_64 (by decide) (fun h => ?_) (fun h => ?_)
    · have h : 16 ≤ j := h
      have hend : j = 16 := by omega
      subst hend
      exact exit _ _ _ hP hS (lv_sub hl [2, 3] rfl)
    · have h : j < 16 := h
      refine lv_iconst (v := nI 0) hx hb dX1_means_67 (by decide +kernel) ?_
      refine lv_istore (lv' := [(4, .int (nI (0))), (3, .int (nI (j))), (2, .int (nI (ctM τ c9))), (1, .int (nI (c9))), (0, .ref (ad 0))]) hx hb dX1_means_68 hl (by decide) rfl (fun ls hl => ?_)
      refine lv_iconst (v := nI 0) hx hb dX1_means_70 (by decide +kernel) ?_
      refine lv_istore (lv' := [(5, .int (nI (0))), (4, .int (nI (0))), (3, .int (nI (j))), (2, .int (nI (ctM τ c9))), (1, .int (nI (c9))), (0, .ref (ad 0))]) hx hb dX1_means_71 hl (by decide) rfl (fun ls hl => ?_)
      refine lp_X1_means2 hx hb hml hts hown hK hap hRf hRl τ hN hcl hvl c9 j hc9 h (fun H locs ls hP hS hl => ?_) (mN τ + 1) 0 _ _ _ (by omega) (by omega) hP hS (lv_sub hl [0, 1, 2, 3, 4, 5] rfl)
      refine lv_aload_n hx hb dX1_means_120 rfl (lv_at hl 4 rfl) ?_
      refine gm hx hb hts innX1_means hown hK hP 8 (by decide) (by decide +kernel) rfl (v := .ref (ad 5)) rfl dX1_means_121 ?_
      refine lv_bipush (v := nI 16) hx hb dX1_means_124 (by decide +kernel) ?_
      refine lv_iload_n hx hb dX1_means_126 rfl (lv_at hl 3 rfl) ?_
      refine zv_imul (v := (nI (16 * c9))) hx hb dX1_means_127 (pk_mul _ _) ?_
      refine lv_iload_n hx hb dX1_means_128 rfl (lv_at hl 1 rfl) ?_
      refine zv_iadd (v := (nI ((16 * c9) + j))) hx hb dX1_means_129 (nI_add _ _) ?_
      refine lv_iload_n hx hb dX1_means_130 rfl (lv_at hl 2 rfl) ?_
      refine zu_le (tgt := 143) hx hb (show ctM τ c9 < 2 ^ 31 by omega) dX1_means_131 (by decide) (fun h1 => ?_) (fun h1 => ?_)
      · have h1 : (ctM τ c9) = 0 := h1
        have e7 : mnV τ c9 j = FP.dconst0 := if_neg (by omega)
        have e6 : wtV τ c9 j = FP.dconst0 := if_neg (by omega)
        refine lv_dconst0 hx hb dX1_means_143 ?_
        refine z_dast hx hb hK hP hap hA hS 5 (by decide) cm_mn (show (16 * c9) + j < 256 by omega) (by decide) dX1_means_144 (fun H locs hP hS => ?_)
        have hP := pm_mn hP
        refine lv_aload_n hx hb dX1_means_145 rfl (lv_at hl 4 rfl) ?_
        refine gm hx hb hts innX1_means hown hK hP 9 (by decide) (by decide +kernel) rfl (v := .ref (ad 6)) rfl dX1_means_146 ?_
        refine lv_bipush (v := nI 16) hx hb dX1_means_149 (by decide +kernel) ?_
        refine lv_iload_n hx hb dX1_means_151 rfl (lv_at hl 3 rfl) ?_
        refine zv_imul (v := (nI (16 * c9))) hx hb dX1_means_152 (pk_mul _ _) ?_
        refine lv_iload_n hx hb dX1_means_153 rfl (lv_at hl 1 rfl) ?_
        refine zv_iadd (v := (nI ((16 * c9) + j))) hx hb dX1_means_154 (nI_add _ _) ?_
        refine lv_iload_n hx hb dX1_means_155 rfl (lv_at hl 2 rfl) ?_
        refine zu_le (tgt := 163) hx hb (show ctM τ c9 < 2 ^ 31 by omega) dX1_means_156 (by decide) (fun h2 => ?_) (fun h2 => ?_)
        · have h2 : (ctM τ c9) = 0 := h2
          refine lv_dconst0 hx hb dX1_means_163 ?_
          refine z_dast hx hb hK hP hap hA hS 6 (by decide) cm_wt (show (16 * c9) + j < 256 by omega) (by decide) dX1_means_164 (fun H locs hP hS => ?_)
          have hP := pm_wt hP
          refine lv_iinc (v := nI (j + 1)) (lv' := [(3, .int (nI (j + 1))), (4, .int (nI (smM τ c9 j))), (2, .int (nI (ctM τ c9))), (1, .int (nI (c9))), (0, .ref (ad 0))]) hx hb dX1_means_165 hl (k := 1) rfl (nI_1 _) (by decide) rfl (fun ls hl => ?_)
          refine lv_goto (tgt := 61) hx hb dX1_means_168 (by decide) ?_
          have e5 : fl (flc (mMn τ) (mnV τ) c9) (16 * c9) (mnV τ c9) (j + 1) = va_up (fl (flc (mMn τ) (mnV τ) c9) (16 * c9) (mnV τ c9) j) (16 * c9 + j) FP.dconst0 := congrArg (va_up (fl (flc (mMn τ) (mnV τ) c9) (16 * c9) (mnV τ c9) j) (16 * c9 + j)) e7
          have e4 : fl (flc (mWt τ) (wtV τ) c9) (16 * c9) (wtV τ c9) (j + 1) = va_up (fl (flc (mWt τ) (wtV τ) c9) (16 * c9) (wtV τ c9) j) (16 * c9 + j) FP.dconst0 := congrArg (va_up (fl (flc (mWt τ) (wtV τ) c9) (16 * c9) (wtV τ c9) j) (16 * c9 + j)) e6
          exact ih (j + 1) _ _ _ (by omega) (by omega) (by rw [e5, e4]; exact hP) hS (lv_sub hl [0, 2, 3, 4] rfl)
        · have h2 : 0 < (ctM τ c9) := h2
          exact absurd h1 (by omega)
      · have h1 : 0 < (ctM τ c9) := h1
        have e7 : mnV τ c9 j = FP.ddiv (FP.i2d (nI (smM τ c9 j))) (FP.i2d (nI (ctM τ c9))) := if_pos h1
        have e6 : wtV τ c9 j = FP.dconst1 := if_pos h1
        refine lv_iload hx hb dX1_means_134 (lv_at hl 0 rfl) ?_
        refine lv_i2d hx hb dX1_means_136 ?_
        refine lv_iload_n hx hb dX1_means_137 rfl (lv_at hl 2 rfl) ?_
        refine lv_i2d hx hb dX1_means_138 ?_
        refine lv_ddiv hx hb dX1_means_139 (mg_n64 (mg_ddiv _ (nI_ne0 h1 (by omega))) (by decide)) ?_
        refine lv_goto (tgt := 144) hx hb dX1_means_140 (by decide) ?_
        refine z_dast hx hb hK hP hap hA hS 5 (by decide) cm_mn (show (16 * c9) + j < 256 by omega) (by decide) dX1_means_144 (fun H locs hP hS => ?_)
        have hP := pm_mn hP
        refine lv_aload_n hx hb dX1_means_145 rfl (lv_at hl 4 rfl) ?_
        refine gm hx hb hts innX1_means hown hK hP 9 (by decide) (by decide +kernel) rfl (v := .ref (ad 6)) rfl dX1_means_146 ?_
        refine lv_bipush (v := nI 16) hx hb dX1_means_149 (by decide +kernel) ?_
        refine lv_iload_n hx hb dX1_means_151 rfl (lv_at hl 3 rfl) ?_
        refine zv_imul (v := (nI (16 * c9))) hx hb dX1_means_152 (pk_mul _ _) ?_
        refine lv_iload_n hx hb dX1_means_153 rfl (lv_at hl 1 rfl) ?_
        refine zv_iadd (v := (nI ((16 * c9) + j))) hx hb dX1_means_154 (nI_add _ _) ?_
        refine lv_iload_n hx hb dX1_means_155 rfl (lv_at hl 2 rfl) ?_
        refine zu_le (tgt := 163) hx hb (show ctM τ c9 < 2 ^ 31 by omega) dX1_means_156 (by decide) (fun h2 => ?_) (fun h2 => ?_)
        · have h2 : (ctM τ c9) = 0 := h2
          exact absurd h1 (by omega)
        · have h2 : 0 < (ctM τ c9) := h2
          refine lv_dconst1 hx hb dX1_means_159 ?_
          refine lv_goto (tgt := 164) hx hb dX1_means_160 (by decide) ?_
          refine z_dast hx hb hK hP hap hA hS 6 (by decide) cm_wt (show (16 * c9) + j < 256 by omega) (by decide) dX1_means_164 (fun H locs hP hS => ?_)
          have hP := pm_wt hP
          refine lv_iinc (v := nI (j + 1)) (lv' := [(3, .int (nI (j + 1))), (4, .int (nI (smM τ c9 j))), (2, .int (nI (ctM τ c9))), (1, .int (nI (c9))), (0, .ref (ad 0))]) hx hb dX1_means_165 hl (k := 1) rfl (nI_1 _) (by decide) rfl (fun ls hl => ?_)
          refine lv_goto (tgt := 61) hx hb dX1_means_168 (by decide) ?_
          have e5 : fl (flc (mMn τ) (mnV τ) c9) (16 * c9) (mnV τ c9) (j + 1) = va_up (fl (flc (mMn τ) (mnV τ) c9) (16 * c9) (mnV τ c9) j) (16 * c9 + j) (FP.ddiv (FP.i2d (nI (smM τ c9 j))) (FP.i2d (nI (ctM τ c9)))) := congrArg (va_up (fl (flc (mMn τ) (mnV τ) c9) (16 * c9) (mnV τ c9) j) (16 * c9 + j)) e7
          have e4 : fl (flc (mWt τ) (wtV τ) c9) (16 * c9) (wtV τ c9) (j + 1) = va_up (fl (flc (mWt τ) (wtV τ) c9) (16 * c9) (wtV τ c9) j) (16 * c9 + j) FP.dconst1 := congrArg (va_up (fl (flc (mWt τ) (wtV τ) c9) (16 * c9) (wtV τ c9) j) (16 * c9 + j)) e6
          exact ih (j + 1) _ _ _ (by omega) (by omega) (by rw [e5, e4]; exact hP) hS (lv_sub hl [0, 2, 3, 4] rfl)
set_option maxHeartbeats 4000000 in
set_option maxRecDepth 100000 in
theorem lp_X1_means4 {p : Program} {l : Launch} {e : Env} {R : Room} {s : State} {m : MethodId} {args : Array Value} {below : List Frame} {meth : Method} {c : Code} {Q : State → Prop} {E : zE} {ad : Nat → Nat} (hx : p.tables.exec = Jvm.exec) (hb : c.code = cX1_means) (hml : c.maxLocals = 6) (hts : ∀ w ∈ wsX1_means, w.before args s = true) (hown : s.vm.findClass RX1 = some m.cls) (hK : zK E s) (hap : apart 8 ad) {H0 : Heap} (hRf : 0 ≤ R.frames) (hRl : 0 ≤ R.locals) (τ : SM) (hN : mN τ ≤ 40) (hcl : ∀ e, mCl τ e < 16) (hvl : ∀ k, mVl τ k < 256)
    (exit : ∀ (H : Heap) (locs : List Loc) (ls : Array Slot), PM E ad (smWt (smMn (smHs τ (fl0 (mHs τ) (hsV τ) 16)) (flc (mMn τ) (mnV τ) 16)) (flc (mWt τ) (wtV τ) 16)) H → va_S (aX 8 ad) H0 H locs → lv_has ls 6 [(0, .ref (ad 0))] → W p l e R s m args below meth c H locs 0 0 Q (F0 m 177 ls [])) :
    ∀ (n i : Nat) (H : Heap) (locs : List Loc) (ls : Array Slot), i ≤ 16 → 16 - i < n → PM E ad (smWt (smMn (smHs τ (fl0 (mHs τ) (hsV τ) i)) (flc (mMn τ) (mnV τ) i)) (flc (mWt τ) (wtV τ) i)) H → va_S (aX 8 ad) H0 H locs → lv_has ls 6 [(1, .int (nI (i))), (0, .ref (ad 0))] → W p l e R s m args below meth c H locs 0 0 Q (F0 m 2 ls []) := by
  have hA : ∀ k, k < 8 → aX 8 ad (ad k) := fun k hk => ⟨k, hk, rfl⟩
  intro n
  induction n with
  | zero => intro i H locs ls h1 h2; omega
  | succ n ih =>
    intro i H locs ls hi hn hP hS hl
    refine lv_iload_n hx hb dX1_means_2 rfl (lv_at hl 0 rfl) ?_
    refine lv_bipush (v := nI 16) hx hb dX1_means_3 (by decide +kernel) ?_
    refine zb_ge (tgt := 177) hx hb (show i < 2 ^ 31 by omega) (show 16 < 2 ^ 31 by omega) dX1_means_5 (by decide) (fun h => ?_) (fun h => ?_)
    · have h : 16 ≤ i := h
      have hend : i = 16 := by omega
      subst hend
      exact exit _ _ _ hP hS (lv_sub hl [1] rfl)
    · have h : i < 16 := h
      have hct := ctM_le τ i
      refine lv_iconst (v := nI 0) hx hb dX1_means_8 (by decide +kernel) ?_
      refine lv_istore_n (lv' := [(2, .int (nI (0))), (1, .int (nI (i))), (0, .ref (ad 0))]) hx hb dX1_means_9 rfl hl (by decide) rfl (fun ls hl => ?_)
      refine lv_iconst (v := nI 0) hx hb dX1_means_10 (by decide +kernel) ?_
      refine lv_istore_n (lv' := [(3, .int (nI (0))), (2, .int (nI (0))), (1, .int (nI (i))), (0, .ref (ad 0))]) hx hb dX1_means_11 rfl hl (by decide) rfl (fun ls hl => ?_)
      refine lp_X1_means1 hx hb hml hts hown hK hap hRf hRl τ hN hcl hvl i h (fun H locs ls hP hS hl => ?_) (mN τ + 1) 0 _ _ _ (by omega) (by omega) hP hS (lv_sub hl [0, 1, 2, 3] rfl)
      refine lv_aload_n hx hb dX1_means_44 rfl (lv_at hl 2 rfl) ?_
      refine gm hx hb hts innX1_means hown hK hP 7 (by decide) (by decide +kernel) rfl (v := .ref (ad 4)) rfl dX1_means_45 ?_
      refine lv_iload_n hx hb dX1_means_48 rfl (lv_at hl 1 rfl) ?_
      refine lv_iload_n hx hb dX1_means_49 rfl (lv_at hl 0 rfl) ?_
      refine zu_le (tgt := 57) hx hb (show ctM τ i < 2 ^ 31 by omega) dX1_means_50 (by decide) (fun h1 => ?_) (fun h1 => ?_)
      · have h1 : (ctM τ i) = 0 := h1
        have e7 : hsV τ i = 0 := if_neg (by omega)
        refine lv_iconst (v := nI 0) hx hb dX1_means_57 (by decide +kernel) ?_
        refine z_zast hx hb hK hP hap hA hS 4 (by decide) cm_hs (show i < 16 by omega) (by decide) (by decide +kernel) dX1_means_58 (fun H locs hP hS => ?_)
        have hP := pm_hs hP
        have e5 : fl0 (mHs τ) (hsV τ) (i + 1) = va_up (fl0 (mHs τ) (hsV τ) i) i 0 := congrArg (va_up (fl0 (mHs τ) (hsV τ) i) i) e7
        have hP : PM E ad (smWt (smMn (smHs τ (fl0 (mHs τ) (hsV τ) (i + 1))) (fl (flc (mMn τ) (mnV τ) i) (16 * i) (mnV τ i) 0)) (fl (flc (mWt τ) (wtV τ) i) (16 * i) (wtV τ i) 0)) H := by rw [e5]; exact hP
        refine lv_iconst (v := nI 0) hx hb dX1_means_59 (by decide +kernel) ?_
        refine lv_istore_n (lv' := [(3, .int (nI (0))), (2, .int (nI (ctM τ i))), (1, .int (nI (i))), (0, .ref (ad 0))]) hx hb dX1_means_60 rfl hl (by decide) rfl (fun ls hl => ?_)
        refine lp_X1_means3 hx hb hml hts hown hK hap hRf hRl τ hN hcl hvl i h (fun H locs ls hP hS hl => ?_) (16 + 1) 0 _ _ _ (by omega) (by omega) hP hS (lv_sub hl [0, 1, 2, 3] rfl)
        refine lv_iinc (v := nI (i + 1)) (lv' := [(1, .int (nI (i + 1))), (0, .ref (ad 0))]) hx hb dX1_means_171 hl (k := 0) rfl (nI_1 _) (by decide) rfl (fun ls hl => ?_)
        refine lv_goto (tgt := 2) hx hb dX1_means_174 (by decide) ?_
        exact ih (i + 1) _ _ _ (by omega) (by omega) hP hS (lv_sub hl [0, 1] rfl)
      · have h1 : 0 < (ctM τ i) := h1
        have e7 : hsV τ i = 1 := if_pos h1
        refine lv_iconst (v := nI 1) hx hb dX1_means_53 (by decide +kernel) ?_
        refine lv_goto (tgt := 58) hx hb dX1_means_54 (by decide) ?_
        refine z_zast hx hb hK hP hap hA hS 4 (by decide) cm_hs (show i < 16 by omega) (by decide) (by decide +kernel) dX1_means_58 (fun H locs hP hS => ?_)
        have hP := pm_hs hP
        have e5 : fl0 (mHs τ) (hsV τ) (i + 1) = va_up (fl0 (mHs τ) (hsV τ) i) i 1 := congrArg (va_up (fl0 (mHs τ) (hsV τ) i) i) e7
        have hP : PM E ad (smWt (smMn (smHs τ (fl0 (mHs τ) (hsV τ) (i + 1))) (fl (flc (mMn τ) (mnV τ) i) (16 * i) (mnV τ i) 0)) (fl (flc (mWt τ) (wtV τ) i) (16 * i) (wtV τ i) 0)) H := by rw [e5]; exact hP
        refine lv_iconst (v := nI 0) hx hb dX1_means_59 (by decide +kernel) ?_
        refine lv_istore_n (lv' := [(3, .int (nI (0))), (2, .int (nI (ctM τ i))), (1, .int (nI (i))), (0, .ref (ad 0))]) hx hb dX1_means_60 rfl hl (by decide) rfl (fun ls hl => ?_)
        refine lp_X1_means3 hx hb hml hts hown hK hap hRf hRl τ hN hcl hvl i h (fun H locs ls hP hS hl => ?_) (16 + 1) 0 _ _ _ (by omega) (by omega) hP hS (lv_sub hl [0, 1, 2, 3] rfl)
        refine lv_iinc (v := nI (i + 1)) (lv' := [(1, .int (nI (i + 1))), (0, .ref (ad 0))]) hx hb dX1_means_171 hl (k := 0) rfl (nI_1 _) (by decide) rfl (fun ls hl => ?_)
        refine lv_goto (tgt := 2) hx hb dX1_means_174 (by decide) ?_
        exact ih (i + 1) _ _ _ (by omega) (by omega) hP hS (lv_sub hl [0, 1] rfl)
set_option maxHeartbeats 4000000 in
set_option maxRecDepth 100000 in
theorem kX1_means (l : Launch) (E : zE) (ad : Nat → Nat) (hap : apart 8 ad) (τ : SM) (hN : mN τ ≤ 40) (hcl : ∀ e, mCl τ e < 16) (hvl : ∀ k, mVl τ k < 256) : Met l yX1_means wsX1_means ({ frames := 0, cells := 0, slots := 0, locals := 0 }) (va_Pc [.ref (ad 0)] (fun U => PM E ad τ U.heap ∧ zK E U)) (va_Qv (fun τ' : SM => τ' = mmM τ) (fun τ' t => PM E ad τ' t.heap) (aX 8 ad)) 0 0 (aX 8 ad) := by
  refine Met.ofW (cc := cX1_means) (maxL := 6) (ret := none) (by decide) rfl ?_
  intro p e s m args below meth c s₁ B hml hv
  obtain ⟨rfl, hP, hK⟩ := hv
  have hx := B.exec
  have hb := B.bytes
  have hr := B.returns
  have hts := atoms_spec (ws := wsX1_means) B.pre
  have hown : s.vm.findClass RX1 = some m.cls := findClass_of_methodNamed B.named
  have hlocks := B.notSynchronized
  have hS : va_S (aX 8 ad) s.heap s.heap [] := va_S.rf
  have hA : ∀ k, k < 8 → aX 8 ad (ad k) := fun k hk => ⟨k, hk, rfl⟩
  have hRf : 0 ≤ ((headSpec wsX1_means ({ frames := 0, cells := 0, slots := 0, locals := 0 })).room).frames := Nat.le_of_ble_eq_true rfl
  have hRl : 0 ≤ ((headSpec wsX1_means ({ frames := 0, cells := 0, slots := 0, locals := 0 })).room).locals := Nat.le_of_ble_eq_true rfl
  have hl := lv_entry ([.ref (ad 0)]) (n := 6) (Nat.le_of_ble_eq_true rfl)
  rw [lg_entry_eq]
  generalize (lg_sl ([.ref (ad 0)]) ++ List.replicate (6 - (lg_sl ([.ref (ad 0)])).length) Slot.unset).toArray = ls at hl ⊢
  have hl : lv_has ls 6 [(0, .ref (ad 0))] := hl
  refine lv_iconst (v := nI 0) hx hb dX1_means_0 (by decide +kernel) ?_
  refine lv_istore_n (lv' := [(1, .int (nI (0))), (0, .ref (ad 0))]) hx hb dX1_means_1 rfl hl (by decide) rfl (fun ls hl => ?_)
  refine lp_X1_means4 hx hb hml hts hown hK hap hRf hRl τ hN hcl hvl (fun H locs ls hP hS hl => ?_) (16 + 1) 0 _ _ _ (by omega) (by omega) hP hS (lv_sub hl [0, 1] rfl)
  exact W.vret hx hb hr (fun t ht hW => ⟨⟨_, rfl, rfl, (wn_h ht hP)⟩, hS.F ht⟩) hS.2.2 dX1_means_177
end
section
/-! ===== the reference: round, make ===== -/
set_option maxHeartbeats 4000000 in
set_option maxRecDepth 100000 in
theorem lp_X1_round1 {p : Program} {l : Launch} {e : Env} {R : Room} {s : State} {m : MethodId} {args : Array Value} {below : List Frame} {meth : Method} {c : Code} {Q : State → Prop} {E : zE} {ad : Nat → Nat} (hx : p.tables.exec = Jvm.exec) (hb : c.code = cX1_round) (hml : c.maxLocals = 9) (hts : ∀ w ∈ wsX1_round, w.before args s = true) (hown : s.vm.findClass RX1 = some m.cls) (hK : zK E s) (hap : apart 8 ad) {H0 : Heap} (hRf : 3 ≤ R.frames) (hRl : 76 ≤ R.locals) (τ : SM) (K : Nat) (hF : mF τ ≤ 16) (hN : mN τ ≤ 40) (hcl : ∀ e, mCl τ e < 16) (hmb : ∀ c, c < 16 → mHs τ c < 2 ^ 31) (hhs : ∀ e, e < mN τ → 0 < mHs τ (mCl τ e)) (hK1 : 1023 ≤ K) (hK2 : K ≤ 1900) (hmn : ∀ c, c < 16 → ∀ f, f < mF τ → mg 1057 (mMn τ (16 * c + f))) (e9 j9 : Nat) (w9 : Nat → UInt64) (he9 : e9 < 40) (hj9 : j9 < 16) (hne9 : j9 ≠ mCl τ e9) (hwK : ∀ c f, c < 16 → f < mF τ → mg K (w9 (16 * c + f)))
    (exit : ∀ (H : Heap) (locs : List Loc) (ls : Array Slot), PM E ad (smWt τ (shM (mMn τ) (fun f => mVl τ (16 * e9 + f)) (mCl τ e9) j9 w9 (mF τ))) H → va_S (aX 8 ad) H0 H locs → lv_has ls 9 [(1, .int (nI (e9))), (0, .ref (ad 0))] → W p l e R s m args below meth c H locs 0 0 Q (F0 m 188 ls [])) :
    ∀ (n f9 : Nat) (H : Heap) (locs : List Loc) (ls : Array Slot), f9 ≤ mF τ → mF τ - f9 < n → PM E ad (smWt τ (shM (mMn τ) (fun f => mVl τ (16 * e9 + f)) (mCl τ e9) j9 w9 f9)) H → va_S (aX 8 ad) H0 H locs → lv_has ls 9 [(4, .int (nI (f9))), (3, .int (nI (j9))), (2, .int (nI (mCl τ e9))), (1, .int (nI (e9))), (0, .ref (ad 0))] → W p l e R s m args below meth c H locs 0 0 Q (F0 m 34 ls []) := by
  have hA : ∀ k, k < 8 → aX 8 ad (ad k) := fun k hk => ⟨k, hk, rfl⟩
  intro n
  induction n with
  | zero => intro f9 H locs ls h1 h2; omega
  | succ n ih =>
    intro f9 H locs ls hi hn hP hS hl
    have hce := hcl e9
    refine lv_iload hx hb dX1_round_34 (lv_at hl 0 rfl) ?_
    refine lv_aload_n hx hb dX1_round_36 rfl (lv_at hl 4 rfl) ?_
    refine gm hx hb hts innX1_round hown hK hP 1 (by decide) (by decide +kernel) rfl (v := .int (nI ((mF τ)))) rfl dX1_round_37 ?_
    refine zb_ge (tgt := 188) hx hb (show f9 < 2 ^ 31 by omega) (show (mF τ) < 2 ^ 31 by omega) dX1_round_40 (by decide) (fun h => ?_) (fun h => ?_)
    · have h : (mF τ) ≤ f9 := h
      have hend : f9 = mF τ := by omega
      subst hend
      exact exit _ _ _ hP hS (lv_sub hl [3, 4] rfl)
    · have h : f9 < (mF τ) := h
      refine lv_iload_n hx hb dX1_round_43 rfl (lv_at hl 1 rfl) ?_
      refine lv_iload_n hx hb dX1_round_44 rfl (lv_at hl 2 rfl) ?_
      refine zb_eq (tgt := 188) hx hb (show j9 < 2 ^ 31 by omega) (show mCl τ e9 < 2 ^ 31 by omega) dX1_round_45 (by decide) (fun h3 => ?_) (fun h3 => ?_)
      · have h3 : j9 = (mCl τ e9) := h3
        exact absurd h3 hne9
      · have h3 : j9 ≠ (mCl τ e9) := h3
        have hwc : mg K (shM (mMn τ) (fun f => mVl τ (16 * e9 + f)) (mCl τ e9) j9 w9 f9 (16 * (mCl τ e9) + f9)) := by rw [shM_rest (Nat.le_refl f9) (by omega)]; exact hwK _ f9 hce h
        have hwn : mg K (shM (mMn τ) (fun f => mVl τ (16 * e9 + f)) (mCl τ e9) j9 w9 f9 (16 * j9 + f9)) := by rw [shM_rest (Nat.le_refl f9) (by omega)]; exact hwK _ f9 hj9 h
        refine lv_aload_n hx hb dX1_round_48 rfl (lv_at hl 4 rfl) ?_
        refine gm hx hb hts innX1_round hown hK hP 4 (by decide) (by decide +kernel) rfl (v := .ref (ad 2)) rfl dX1_round_49 ?_
        refine lv_bipush (v := nI 16) hx hb dX1_round_52 (by decide +kernel) ?_
        refine lv_iload_n hx hb dX1_round_54 rfl (lv_at hl 3 rfl) ?_
        refine zv_imul (v := (nI (16 * e9))) hx hb dX1_round_55 (pk_mul _ _) ?_
        refine lv_iload hx hb dX1_round_56 (lv_at hl 0 rfl) ?_
        refine zv_iadd (v := (nI ((16 * e9) + f9))) hx hb dX1_round_58 (nI_add _ _) ?_
        refine z_iald hx hb hK hP 2 (by decide) cm_vl (show (16 * e9) + f9 < 640 by omega) (by decide) dX1_round_59 ?_
        refine lv_i2d hx hb dX1_round_60 ?_
        refine lv_aload_n hx hb dX1_round_61 rfl (lv_at hl 4 rfl) ?_
        refine gm hx hb hts innX1_round hown hK hP 8 (by decide) (by decide +kernel) rfl (v := .ref (ad 5)) rfl dX1_round_62 ?_
        refine lv_bipush (v := nI 16) hx hb dX1_round_65 (by decide +kernel) ?_
        refine lv_iload_n hx hb dX1_round_67 rfl (lv_at hl 2 rfl) ?_
        refine zv_imul (v := (nI (16 * (mCl τ e9)))) hx hb dX1_round_68 (pk_mul _ _) ?_
        refine lv_iload hx hb dX1_round_69 (lv_at hl 0 rfl) ?_
        refine zv_iadd (v := (nI ((16 * (mCl τ e9)) + f9))) hx hb dX1_round_71 (nI_add _ _) ?_
        refine z_dald hx hb hK hP 5 (by decide) cm_mn (show (16 * (mCl τ e9)) + f9 < 256 by omega) (by decide) dX1_round_72 ?_
        refine lv_dsub hx hb dX1_round_73 (mg_n64 (mg_df _ (hmn _ hce f9 h)) (by decide)) ?_
        refine va_calld (va_runS (As := [.double (FP.dsub (FP.i2d (nI ((mVl τ) ((16 * e9) + f9)))) ((mMn τ) ((16 * (mCl τ e9)) + f9)))]) (rest := []) ⟨hx, hb, hml, hown, hts⟩ (kX1_size l _) (va_cwS 1 hts gX1_round_X1_size rfl rfl rfl (by decide +kernel) ⟨Nat.le_trans (Nat.le_of_ble_eq_true rfl) hRf, Nat.le_trans (Nat.le_of_ble_eq_true rfl) hRl⟩) zps rfl rfl hl.1 rfl (lv_room (Nat.le_of_ble_eq_true rfl)) dX1_round_74 ⟨Nat.zero_le _, Nat.zero_le _⟩) hS (fun q _ h => h.elim) (fun q h => h.elim) (fun r u9 t9 H locs ht9 hvm9 hw9 hB9 hz9 hk9 hS => ?_)
        have hP := wn_ro hP hk9
        subst hw9
        refine lv_dstore (lv' := [(5, .double (szF (FP.dsub (FP.i2d (nI (mVl τ (16 * e9 + f9)))) (mMn τ (16 * (mCl τ e9) + f9))))), (4, .int (nI (f9))), (3, .int (nI (j9))), (2, .int (nI (mCl τ e9))), (1, .int (nI (e9))), (0, .ref (ad 0))]) hx hb dX1_round_77 hl (by decide) rfl (fun ls hl => ?_)
        refine lv_aload_n hx hb dX1_round_79 rfl (lv_at hl 5 rfl) ?_
        refine gm hx hb hts innX1_round hown hK hP 4 (by decide) (by decide +kernel) rfl (v := .ref (ad 2)) rfl dX1_round_80 ?_
        refine lv_bipush (v := nI 16) hx hb dX1_round_83 (by decide +kernel) ?_
        refine lv_iload_n hx hb dX1_round_85 rfl (lv_at hl 4 rfl) ?_
        refine zv_imul (v := (nI (16 * e9))) hx hb dX1_round_86 (pk_mul _ _) ?_
        refine lv_iload hx hb dX1_round_87 (lv_at hl 1 rfl) ?_
        refine zv_iadd (v := (nI ((16 * e9) + f9))) hx hb dX1_round_89 (nI_add _ _) ?_
        refine z_iald hx hb hK hP 2 (by decide) cm_vl (show (16 * e9) + f9 < 640 by omega) (by decide) dX1_round_90 ?_
        refine lv_i2d hx hb dX1_round_91 ?_
        refine lv_aload_n hx hb dX1_round_92 rfl (lv_at hl 5 rfl) ?_
        refine gm hx hb hts innX1_round hown hK hP 8 (by decide) (by decide +kernel) rfl (v := .ref (ad 5)) rfl dX1_round_93 ?_
        refine lv_bipush (v := nI 16) hx hb dX1_round_96 (by decide +kernel) ?_
        refine lv_iload_n hx hb dX1_round_98 rfl (lv_at hl 2 rfl) ?_
        refine zv_imul (v := (nI (16 * j9))) hx hb dX1_round_99 (pk_mul _ _) ?_
        refine lv_iload hx hb dX1_round_100 (lv_at hl 1 rfl) ?_
        refine zv_iadd (v := (nI ((16 * j9) + f9))) hx hb dX1_round_102 (nI_add _ _) ?_
        refine z_dald hx hb hK hP 5 (by decide) cm_mn (show (16 * j9) + f9 < 256 by omega) (by decide) dX1_round_103 ?_
        refine lv_dsub hx hb dX1_round_104 (mg_n64 (mg_df _ (hmn _ hj9 f9 h)) (by decide)) ?_
        refine va_calld (va_runS (As := [.double (FP.dsub (FP.i2d (nI ((mVl τ) ((16 * e9) + f9)))) ((mMn τ) ((16 * j9) + f9)))]) (rest := []) ⟨hx, hb, hml, hown, hts⟩ (kX1_size l _) (va_cwS 1 hts gX1_round_X1_size rfl rfl rfl (by decide +kernel) ⟨Nat.le_trans (Nat.le_of_ble_eq_true rfl) hRf, Nat.le_trans (Nat.le_of_ble_eq_true rfl) hRl⟩) zps rfl rfl hl.1 rfl (lv_room (Nat.le_of_ble_eq_true rfl)) dX1_round_105 ⟨Nat.zero_le _, Nat.zero_le _⟩) hS (fun q _ h => h.elim) (fun q h => h.elim) (fun r u9 t9 H locs ht9 hvm9 hw9 hB9 hz9 hk9 hS => ?_)
        have hP := wn_ro hP hk9
        subst hw9
        refine lv_dstore (lv' := [(7, .double (szF (FP.dsub (FP.i2d (nI (mVl τ (16 * e9 + f9)))) (mMn τ (16 * j9 + f9))))), (5, .double (szF (FP.dsub (FP.i2d (nI (mVl τ (16 * e9 + f9)))) (mMn τ (16 * (mCl τ e9) + f9))))), (4, .int (nI (f9))), (3, .int (nI (j9))), (2, .int (nI (mCl τ e9))), (1, .int (nI (e9))), (0, .ref (ad 0))]) hx hb dX1_round_108 hl (by decide) rfl (fun ls hl => ?_)
        refine lv_dload hx hb dX1_round_110 (lv_at hl 1 rfl) ?_
        refine lv_dload hx hb dX1_round_112 (lv_at hl 0 rfl) ?_
        refine lv_dcmp hx hb dX1_round_114 ?_
        refine lv_if_le (tgt := 146) hx hb dX1_round_115 (by decide) (fun h1 => ?_) (fun h1 => ?_)
        · refine lv_dload hx hb dX1_round_146 (lv_at hl 0 rfl) ?_
          refine lv_dload hx hb dX1_round_148 (lv_at hl 1 rfl) ?_
          refine lv_dcmp hx hb dX1_round_150 ?_
          refine lv_if_le (tgt := 182) hx hb dX1_round_151 (by decide) (fun h2 => ?_) (fun h2 => ?_)
          · have e8 : shM (mMn τ) (fun f => mVl τ (16 * e9 + f)) (mCl τ e9) j9 w9 (f9 + 1) = shM (mMn τ) (fun f => mVl τ (16 * e9 + f)) (mCl τ e9) j9 w9 f9 := (if_neg (fun q => q h1)).trans (if_neg (fun q => q h2))
            refine lv_iinc (v := nI (f9 + 1)) (lv' := [(4, .int (nI (f9 + 1))), (7, .double (szF (FP.dsub (FP.i2d (nI (mVl τ (16 * e9 + f9)))) (mMn τ (16 * j9 + f9))))), (5, .double (szF (FP.dsub (FP.i2d (nI (mVl τ (16 * e9 + f9)))) (mMn τ (16 * (mCl τ e9) + f9))))), (3, .int (nI (j9))), (2, .int (nI (mCl τ e9))), (1, .int (nI (e9))), (0, .ref (ad 0))]) hx hb dX1_round_182 hl (k := 2) rfl (nI_1 _) (by decide) rfl (fun ls hl => ?_)
            refine lv_goto (tgt := 34) hx hb dX1_round_185 (by decide) ?_
            exact ih (f9 + 1) _ _ _ (by omega) (by omega) (by rw [e8]; exact hP) hS (lv_sub hl [0, 3, 4, 5, 6] rfl)
          · refine lv_aload_n hx hb dX1_round_154 rfl (lv_at hl 6 rfl) ?_
            refine gm hx hb hts innX1_round hown hK hP 9 (by decide) (by decide +kernel) rfl (v := .ref (ad 6)) rfl dX1_round_155 ?_
            refine lv_bipush (v := nI 16) hx hb dX1_round_158 (by decide +kernel) ?_
            refine lv_iload_n hx hb dX1_round_160 rfl (lv_at hl 3 rfl) ?_
            refine zv_imul (v := (nI (16 * j9))) hx hb dX1_round_161 (pk_mul _ _) ?_
            refine lv_iload hx hb dX1_round_162 (lv_at hl 2 rfl) ?_
            refine zv_iadd (v := (nI ((16 * j9) + f9))) hx hb dX1_round_164 (nI_add _ _) ?_
            refine lv_aload_n hx hb dX1_round_165 rfl (lv_at hl 6 rfl) ?_
            refine gm hx hb hts innX1_round hown hK hP 9 (by decide) (by decide +kernel) rfl (v := .ref (ad 6)) rfl dX1_round_166 ?_
            refine lv_bipush (v := nI 16) hx hb dX1_round_169 (by decide +kernel) ?_
            refine lv_iload_n hx hb dX1_round_171 rfl (lv_at hl 3 rfl) ?_
            refine zv_imul (v := (nI (16 * j9))) hx hb dX1_round_172 (pk_mul _ _) ?_
            refine lv_iload hx hb dX1_round_173 (lv_at hl 2 rfl) ?_
            refine zv_iadd (v := (nI ((16 * j9) + f9))) hx hb dX1_round_175 (nI_add _ _) ?_
            refine z_dald hx hb hK hP 6 (by decide) cm_wt (show (16 * j9) + f9 < 256 by omega) (by decide) dX1_round_176 ?_
            refine lv_ldc2d hx hb hown (hts (.constantDouble RX1 61 k1125) (by decide +kernel)) dX1_round_177 ?_
            refine lv_dmul hx hb dX1_round_180 (mg_n64 (mg_dmul (K := K + 1) hwn mg_1125 (by omega) (by decide) (by omega) (by decide) (by omega) (by omega)) (by omega)) ?_
            have e8 : shM (mMn τ) (fun f => mVl τ (16 * e9 + f)) (mCl τ e9) j9 w9 (f9 + 1) = va_up (shM (mMn τ) (fun f => mVl τ (16 * e9 + f)) (mCl τ e9) j9 w9 f9) (16 * j9 + f9) (FP.dmul (shM (mMn τ) (fun f => mVl τ (16 * e9 + f)) (mCl τ e9) j9 w9 f9 (16 * j9 + f9)) k1125) := (if_neg (fun q => q h1)).trans (if_pos h2)
            refine z_dast hx hb hK hP hap hA hS 6 (by decide) cm_wt (show (16 * j9) + f9 < 256 by omega) (by decide) dX1_round_181 (fun H locs hP hS => ?_)
            have hP := pm_wt hP
            refine lv_iinc (v := nI (f9 + 1)) (lv' := [(4, .int (nI (f9 + 1))), (7, .double (szF (FP.dsub (FP.i2d (nI (mVl τ (16 * e9 + f9)))) (mMn τ (16 * j9 + f9))))), (5, .double (szF (FP.dsub (FP.i2d (nI (mVl τ (16 * e9 + f9)))) (mMn τ (16 * (mCl τ e9) + f9))))), (3, .int (nI (j9))), (2, .int (nI (mCl τ e9))), (1, .int (nI (e9))), (0, .ref (ad 0))]) hx hb dX1_round_182 hl (k := 2) rfl (nI_1 _) (by decide) rfl (fun ls hl => ?_)
            refine lv_goto (tgt := 34) hx hb dX1_round_185 (by decide) ?_
            exact ih (f9 + 1) _ _ _ (by omega) (by omega) (by rw [e8]; exact hP) hS (lv_sub hl [0, 3, 4, 5, 6] rfl)
        · refine lv_aload_n hx hb dX1_round_118 rfl (lv_at hl 6 rfl) ?_
          refine gm hx hb hts innX1_round hown hK hP 9 (by decide) (by decide +kernel) rfl (v := .ref (ad 6)) rfl dX1_round_119 ?_
          refine lv_bipush (v := nI 16) hx hb dX1_round_122 (by decide +kernel) ?_
          refine lv_iload_n hx hb dX1_round_124 rfl (lv_at hl 4 rfl) ?_
          refine zv_imul (v := (nI (16 * (mCl τ e9)))) hx hb dX1_round_125 (pk_mul _ _) ?_
          refine lv_iload hx hb dX1_round_126 (lv_at hl 2 rfl) ?_
          refine zv_iadd (v := (nI ((16 * (mCl τ e9)) + f9))) hx hb dX1_round_128 (nI_add _ _) ?_
          refine lv_aload_n hx hb dX1_round_129 rfl (lv_at hl 6 rfl) ?_
          refine gm hx hb hts innX1_round hown hK hP 9 (by decide) (by decide +kernel) rfl (v := .ref (ad 6)) rfl dX1_round_130 ?_
          refine lv_bipush (v := nI 16) hx hb dX1_round_133 (by decide +kernel) ?_
          refine lv_iload_n hx hb dX1_round_135 rfl (lv_at hl 4 rfl) ?_
          refine zv_imul (v := (nI (16 * (mCl τ e9)))) hx hb dX1_round_136 (pk_mul _ _) ?_
          refine lv_iload hx hb dX1_round_137 (lv_at hl 2 rfl) ?_
          refine zv_iadd (v := (nI ((16 * (mCl τ e9)) + f9))) hx hb dX1_round_139 (nI_add _ _) ?_
          refine z_dald hx hb hK hP 6 (by decide) cm_wt (show (16 * (mCl τ e9)) + f9 < 256 by omega) (by decide) dX1_round_140 ?_
          refine lv_ldc2d hx hb hown (hts (.constantDouble RX1 59 k875) (by decide +kernel)) dX1_round_141 ?_
          refine lv_dmul hx hb dX1_round_144 (mg_n64 (mg_dmul (K := K) hwc mg_875 (by omega) (by decide) (by omega) (by decide) (by omega) (by omega)) (by omega)) ?_
          have e8 : shM (mMn τ) (fun f => mVl τ (16 * e9 + f)) (mCl τ e9) j9 w9 (f9 + 1) = va_up (shM (mMn τ) (fun f => mVl τ (16 * e9 + f)) (mCl τ e9) j9 w9 f9) (16 * (mCl τ e9) + f9) (FP.dmul (shM (mMn τ) (fun f => mVl τ (16 * e9 + f)) (mCl τ e9) j9 w9 f9 (16 * (mCl τ e9) + f9)) k875) := if_pos h1
          refine z_dast hx hb hK hP hap hA hS 6 (by decide) cm_wt (show (16 * (mCl τ e9)) + f9 < 256 by omega) (by decide) dX1_round_145 (fun H locs hP hS => ?_)
          have hP := pm_wt hP
          refine lv_dload hx hb dX1_round_146 (lv_at hl 0 rfl) ?_
          refine lv_dload hx hb dX1_round_148 (lv_at hl 1 rfl) ?_
          refine lv_dcmp hx hb dX1_round_150 ?_
          refine lv_if_le (tgt := 182) hx hb dX1_round_151 (by decide) (fun h2 => ?_) (fun h2 => ?_)
          · refine lv_iinc (v := nI (f9 + 1)) (lv' := [(4, .int (nI (f9 + 1))), (7, .double (szF (FP.dsub (FP.i2d (nI (mVl τ (16 * e9 + f9)))) (mMn τ (16 * j9 + f9))))), (5, .double (szF (FP.dsub (FP.i2d (nI (mVl τ (16 * e9 + f9)))) (mMn τ (16 * (mCl τ e9) + f9))))), (3, .int (nI (j9))), (2, .int (nI (mCl τ e9))), (1, .int (nI (e9))), (0, .ref (ad 0))]) hx hb dX1_round_182 hl (k := 2) rfl (nI_1 _) (by decide) rfl (fun ls hl => ?_)
            refine lv_goto (tgt := 34) hx hb dX1_round_185 (by decide) ?_
            exact ih (f9 + 1) _ _ _ (by omega) (by omega) (by rw [e8]; exact hP) hS (lv_sub hl [0, 3, 4, 5, 6] rfl)
          · exact absurd h2 (gtF_anti h1)
set_option maxHeartbeats 4000000 in
set_option maxRecDepth 100000 in
theorem lp_X1_round2 {p : Program} {l : Launch} {e : Env} {R : Room} {s : State} {m : MethodId} {args : Array Value} {below : List Frame} {meth : Method} {c : Code} {Q : State → Prop} {E : zE} {ad : Nat → Nat} (hx : p.tables.exec = Jvm.exec) (hb : c.code = cX1_round) (hml : c.maxLocals = 9) (hts : ∀ w ∈ wsX1_round, w.before args s = true) (hown : s.vm.findClass RX1 = some m.cls) (hK : zK E s) (hap : apart 8 ad) {H0 : Heap} (hRf : 3 ≤ R.frames) (hRl : 76 ≤ R.locals) (τ : SM) (K : Nat) (hF : mF τ ≤ 16) (hN : mN τ ≤ 40) (hcl : ∀ e, mCl τ e < 16) (hmb : ∀ c, c < 16 → mHs τ c < 2 ^ 31) (hhs : ∀ e, e < mN τ → 0 < mHs τ (mCl τ e)) (hK1 : 1023 ≤ K) (hK2 : K ≤ 1900) (hmn : ∀ c, c < 16 → ∀ f, f < mF τ → mg 1057 (mMn τ (16 * c + f))) (hbd : ∀ i, i ≤ mN τ → ∀ c f, c < 16 → f < mF τ → mg K (rdM τ (mWt τ) i (16 * c + f)))
    (exit : ∀ (H : Heap) (locs : List Loc) (ls : Array Slot), PM E ad (smWt τ (rdM τ (mWt τ) (mN τ))) H → va_S (aX 8 ad) H0 H locs → lv_has ls 9 [(0, .ref (ad 0))] → W p l e R s m args below meth c H locs 0 0 Q (F0 m 194 ls [])) :
    ∀ (n i : Nat) (H : Heap) (locs : List Loc) (ls : Array Slot), i ≤ mN τ → mN τ - i < n → PM E ad (smWt τ (rdM τ (mWt τ) i)) H → va_S (aX 8 ad) H0 H locs → lv_has ls 9 [(1, .int (nI (i))), (0, .ref (ad 0))] → W p l e R s m args below meth c H locs 0 0 Q (F0 m 2 ls []) := by
  have hA : ∀ k, k < 8 → aX 8 ad (ad k) := fun k hk => ⟨k, hk, rfl⟩
  intro n
  induction n with
  | zero => intro i H locs ls h1 h2; omega
  | succ n ih =>
    intro i H locs ls hi hn hP hS hl
    refine lv_iload_n hx hb dX1_round_2 rfl (lv_at hl 0 rfl) ?_
    refine lv_aload_n hx hb dX1_round_3 rfl (lv_at hl 1 rfl) ?_
    refine gm hx hb hts innX1_round hown hK hP 2 (by decide) (by decide +kernel) rfl (v := .int (nI ((mN τ)))) rfl dX1_round_4 ?_
    refine zb_ge (tgt := 194) hx hb (show i < 2 ^ 31 by omega) (show (mN τ) < 2 ^ 31 by omega) dX1_round_7 (by decide) (fun h => ?_) (fun h => ?_)
    · have h : (mN τ) ≤ i := h
      have hend : i = mN τ := by omega
      subst hend
      exact exit _ _ _ hP hS (lv_sub hl [1] rfl)
    · have h : i < (mN τ) := h
      have hci := hcl i
      have hwi := hbd i (by omega)
      refine lv_aload_n hx hb dX1_round_10 rfl (lv_at hl 1 rfl) ?_
      refine gm hx hb hts innX1_round hown hK hP 3 (by decide) (by decide +kernel) rfl (v := .ref (ad 1)) rfl dX1_round_11 ?_
      refine lv_iload_n hx hb dX1_round_14 rfl (lv_at hl 0 rfl) ?_
      refine z_iald hx hb hK hP 1 (by decide) cm_cl (show i < 40 by omega) (by decide) dX1_round_15 ?_
      refine lv_istore_n (lv' := [(2, .int (nI ((mCl τ) (i)))), (1, .int (nI (i))), (0, .ref (ad 0))]) hx hb dX1_round_16 rfl hl (by decide) rfl (fun ls hl => ?_)
      refine lv_aload_n hx hb dX1_round_17 rfl (lv_at hl 2 rfl) ?_
      refine lv_aload_n hx hb dX1_round_18 rfl (lv_at hl 2 rfl) ?_
      refine gm hx hb hts innX1_round hown hK hP 4 (by decide) (by decide +kernel) rfl (v := .ref (ad 2)) rfl dX1_round_19 ?_
      refine lv_bipush (v := nI 16) hx hb dX1_round_22 (by decide +kernel) ?_
      refine lv_iload_n hx hb dX1_round_24 rfl (lv_at hl 1 rfl) ?_
      refine zv_imul (v := (nI (16 * i))) hx hb dX1_round_25 (pk_mul _ _) ?_
      refine lv_iconst (v := -1) hx hb dX1_round_26 (by decide +kernel) ?_
      refine va_calli (va_runV (As := [.ref (ad 2), .int (nI (16 * i)), .int (-1)]) (rest := []) ⟨hx, hb, hml, hown, hts⟩ (kX1_nearest l E ad hap (smWt τ (rdM τ (mWt τ) i)) 2 640 (16 * i) K (mVl τ) (-1) hF hmb (by decide) (cm_vl (τ := smWt τ (rdM τ (mWt τ) i))) (by decide) (show 16 * i + mF τ ≤ 640 by omega) hK1 hK2 (fun c hc f hf => ⟨hwi c f hc hf, hmn c hc f hf⟩)) (cwV 3 hts gX1_round_X1_nearest rfl rfl rfl (by decide +kernel) ⟨Nat.le_trans (Nat.le_of_ble_eq_true rfl) hRf, Nat.le_trans (Nat.le_of_ble_eq_true rfl) hRl⟩) (zpm hK hP) rfl rfl hl.1 rfl (lv_room (Nat.le_of_ble_eq_true rfl)) dX1_round_27 ⟨Nat.zero_le _, Nat.zero_le _⟩) hS (fun q _ h => h.elim) (fun q h => h.elim) (fun r u9 t9 H locs ht9 hvm9 hw9 hB9 hz9 hk9 hS => ?_)
      have hP := wn_ro hP hk9
      obtain ⟨j, hj, e9⟩ := nearM_some (smWt τ (rdM τ (mWt τ) i)) (mVl τ) (16 * i) (mCl τ i) hci (hhs i h)
      rw [e9] at hw9
      subst hw9
      refine lv_istore_n (lv' := [(3, .int (nI (j))), (2, .int (nI ((mCl τ) (i)))), (1, .int (nI (i))), (0, .ref (ad 0))]) hx hb dX1_round_30 rfl hl (by decide) rfl (fun ls hl => ?_)
      refine lv_iconst (v := nI 0) hx hb dX1_round_31 (by decide +kernel) ?_
      refine lv_istore (lv' := [(4, .int (nI (0))), (3, .int (nI (j))), (2, .int (nI ((mCl τ) (i)))), (1, .int (nI (i))), (0, .ref (ad 0))]) hx hb dX1_round_32 hl (by decide) rfl (fun ls hl => ?_)
      by_cases hq : j = mCl τ i
      · have e8 : rdM τ (mWt τ) (i + 1) = rdM τ (mWt τ) i := if_pos (by rw [e9, hq])
        refine lv_iload hx hb dX1_round_34 (lv_at hl 0 rfl) ?_
        refine lv_aload_n hx hb dX1_round_36 rfl (lv_at hl 4 rfl) ?_
        refine gm hx hb hts innX1_round hown hK hP 1 (by decide) (by decide +kernel) rfl (v := .int (nI ((mF τ)))) rfl dX1_round_37 ?_
        refine zb_ge (tgt := 188) hx hb (show 0 < 2 ^ 31 by omega) (show (mF τ) < 2 ^ 31 by omega) dX1_round_40 (by decide) (fun h3 => ?_) (fun h3 => ?_)
        · have h3 : (mF τ) ≤ 0 := h3
          refine lv_iinc (v := nI (i + 1)) (lv' := [(1, .int (nI (i + 1))), (4, .int (nI (0))), (3, .int (nI (j))), (2, .int (nI ((mCl τ) (i)))), (0, .ref (ad 0))]) hx hb dX1_round_188 hl (k := 3) rfl (nI_1 _) (by decide) rfl (fun ls hl => ?_)
          refine lv_goto (tgt := 2) hx hb dX1_round_191 (by decide) ?_
          exact ih (i + 1) _ _ _ (by omega) (by omega) (by rw [e8]; exact hP) hS (lv_sub hl [0, 4] rfl)
        · have h3 : 0 < (mF τ) := h3
          refine lv_iload_n hx hb dX1_round_43 rfl (lv_at hl 1 rfl) ?_
          refine lv_iload_n hx hb dX1_round_44 rfl (lv_at hl 2 rfl) ?_
          refine zb_eq (tgt := 188) hx hb (show j < 2 ^ 31 by omega) (show (mCl τ) (i) < 2 ^ 31 by omega) dX1_round_45 (by decide) (fun h4 => ?_) (fun h4 => ?_)
          · have h4 : j = ((mCl τ) (i)) := h4
            refine lv_iinc (v := nI (i + 1)) (lv' := [(1, .int (nI (i + 1))), (4, .int (nI (0))), (3, .int (nI (j))), (2, .int (nI ((mCl τ) (i)))), (0, .ref (ad 0))]) hx hb dX1_round_188 hl (k := 3) rfl (nI_1 _) (by decide) rfl (fun ls hl => ?_)
            refine lv_goto (tgt := 2) hx hb dX1_round_191 (by decide) ?_
            exact ih (i + 1) _ _ _ (by omega) (by omega) (by rw [e8]; exact hP) hS (lv_sub hl [0, 4] rfl)
          · have h4 : j ≠ ((mCl τ) (i)) := h4
            exact absurd hq h4
      · have e8 : rdM τ (mWt τ) (i + 1) = shM (mMn τ) (fun f => mVl τ (16 * i + f)) (mCl τ i) j (rdM τ (mWt τ) i) (mF τ) := by
          rw [rdM, if_neg (fun q => by rw [e9] at q; exact hq ((nI_eq (by omega) (by omega)).mp q)), e9, nI_clamp (by omega)]
        refine lp_X1_round1 hx hb hml hts hown hK hap hRf hRl τ K hF hN hcl hmb hhs hK1 hK2 hmn i j (rdM τ (mWt τ) i) (by omega) hj hq hwi (fun H locs ls hP hS hl => ?_) (mF τ + 1) 0 _ _ _ (by omega) (by omega) hP hS (lv_sub hl [0, 1, 2, 3, 4] rfl)
        refine lv_iinc (v := nI (i + 1)) (lv' := [(1, .int (nI (i + 1))), (0, .ref (ad 0))]) hx hb dX1_round_188 hl (k := 0) rfl (nI_1 _) (by decide) rfl (fun ls hl => ?_)
        refine lv_goto (tgt := 2) hx hb dX1_round_191 (by decide) ?_
        exact ih (i + 1) _ _ _ (by omega) (by omega) (by rw [e8]; exact hP) hS (lv_sub hl [0, 1] rfl)
set_option maxHeartbeats 4000000 in
set_option maxRecDepth 100000 in
theorem kX1_round (l : Launch) (E : zE) (ad : Nat → Nat) (hap : apart 8 ad) (τ : SM) (K : Nat) (hF : mF τ ≤ 16) (hN : mN τ ≤ 40) (hcl : ∀ e, mCl τ e < 16) (hmb : ∀ c, c < 16 → mHs τ c < 2 ^ 31) (hhs : ∀ e, e < mN τ → 0 < mHs τ (mCl τ e)) (hK1 : 1023 ≤ K) (hK2 : K ≤ 1900) (hmn : ∀ c, c < 16 → ∀ f, f < mF τ → mg 1057 (mMn τ (16 * c + f))) (hbd : ∀ i, i ≤ mN τ → ∀ c f, c < 16 → f < mF τ → mg K (rdM τ (mWt τ) i (16 * c + f))) : Met l yX1_round wsX1_round ({ frames := 3, cells := 0, slots := 0, locals := 76 }) (va_Pc [.ref (ad 0)] (fun U => PM E ad τ U.heap ∧ zK E U)) (va_Qv (fun τ' : SM => τ' = smWt τ (rdM τ (mWt τ) (mN τ))) (fun τ' t => PM E ad τ' t.heap) (aX 8 ad)) 0 0 (aX 8 ad) := by
  refine Met.ofW (cc := cX1_round) (maxL := 9) (ret := none) (by decide) rfl ?_
  intro p e s m args below meth c s₁ B hml hv
  obtain ⟨rfl, hP, hK⟩ := hv
  have hx := B.exec
  have hb := B.bytes
  have hr := B.returns
  have hts := atoms_spec (ws := wsX1_round) B.pre
  have hown : s.vm.findClass RX1 = some m.cls := findClass_of_methodNamed B.named
  have hlocks := B.notSynchronized
  have hS : va_S (aX 8 ad) s.heap s.heap [] := va_S.rf
  have hA : ∀ k, k < 8 → aX 8 ad (ad k) := fun k hk => ⟨k, hk, rfl⟩
  have hRf : 3 ≤ ((headSpec wsX1_round ({ frames := 3, cells := 0, slots := 0, locals := 76 })).room).frames := Nat.le_of_ble_eq_true rfl
  have hRl : 76 ≤ ((headSpec wsX1_round ({ frames := 3, cells := 0, slots := 0, locals := 76 })).room).locals := Nat.le_of_ble_eq_true rfl
  have hl := lv_entry ([.ref (ad 0)]) (n := 9) (Nat.le_of_ble_eq_true rfl)
  rw [lg_entry_eq]
  generalize (lg_sl ([.ref (ad 0)]) ++ List.replicate (9 - (lg_sl ([.ref (ad 0)])).length) Slot.unset).toArray = ls at hl ⊢
  have hl : lv_has ls 9 [(0, .ref (ad 0))] := hl
  refine lv_iconst (v := nI 0) hx hb dX1_round_0 (by decide +kernel) ?_
  refine lv_istore_n (lv' := [(1, .int (nI (0))), (0, .ref (ad 0))]) hx hb dX1_round_1 rfl hl (by decide) rfl (fun ls hl => ?_)
  refine lp_X1_round2 hx hb hml hts hown hK hap hRf hRl τ K hF hN hcl hmb hhs hK1 hK2 hmn hbd (fun H locs ls hP hS hl => ?_) (mN τ + 1) 0 _ _ _ (by omega) (by omega) hP hS (lv_sub hl [0, 1] rfl)
  exact W.vret hx hb hr (fun t ht hW => ⟨⟨_, rfl, rfl, (wn_h ht hP)⟩, hS.F ht⟩) hS.2.2 dX1_round_194
set_option maxHeartbeats 4000000 in
set_option maxRecDepth 100000 in
theorem lp_X1_make1 {p : Program} {l : Launch} {e : Env} {R : Room} {s : State} {m : MethodId} {args : Array Value} {below : List Frame} {meth : Method} {c : Code} {Q : State → Prop} {E : zE} {ad : Nat → Nat} (hx : p.tables.exec = Jvm.exec) (hb : c.code = cX1_make) (hml : c.maxLocals = 3) (hts : ∀ w ∈ wsX1_make, w.before args s = true) (hown : s.vm.findClass RX1 = some m.cls) (hK : zK E s) (hap : apart 8 ad) {H0 : Heap} (hRf : 4 ≤ R.frames) (hRl : 104 ≤ R.locals) (τ : SM) (K : Nat) (hF : mF τ ≤ 16) (hN : mN τ ≤ 40) (hcl : ∀ e, mCl τ e < 16) (hmb : ∀ c, c < 16 → mHs τ c < 2 ^ 31) (hhs : ∀ e, e < mN τ → 0 < mHs τ (mCl τ e)) (hK1 : 1023 ≤ K) (hK2 : K ≤ 1900) (hmn : ∀ c, c < 16 → ∀ f, f < mF τ → mg 1057 (mMn τ (16 * c + f))) (j9 : Nat) (hj9 : j9 < 21) (hbd : ∀ r, r ≤ j9 → ∀ i, i ≤ mN τ → ∀ c f, c < 16 → f < mF τ → mg K (rdM τ (rdsM τ r) i (16 * c + f)))
    (exit : ∀ (H : Heap) (locs : List Loc) (ls : Array Slot), PM E ad (smWt τ (rdsM τ j9)) H → va_S (aX 8 ad) H0 H locs → lv_has ls 3 [(0, .ref (ad 0)), (1, .int (nI (j9)))] → W p l e R s m args below meth c H locs 0 0 Q (F0 m 53 ls [])) :
    ∀ (n i : Nat) (H : Heap) (locs : List Loc) (ls : Array Slot), i ≤ j9 → j9 - i < n → PM E ad (smWt τ (rdsM τ i)) H → va_S (aX 8 ad) H0 H locs → lv_has ls 3 [(2, .int (nI (i))), (0, .ref (ad 0)), (1, .int (nI (j9)))] → W p l e R s m args below meth c H locs 0 0 Q (F0 m 38 ls []) := by
  have hA : ∀ k, k < 8 → aX 8 ad (ad k) := fun k hk => ⟨k, hk, rfl⟩
  intro n
  induction n with
  | zero => intro i H locs ls h1 h2; omega
  | succ n ih =>
    intro i H locs ls hi hn hP hS hl
    refine lv_iload_n hx hb dX1_make_38 rfl (lv_at hl 0 rfl) ?_
    refine lv_iload_n hx hb dX1_make_39 rfl (lv_at hl 2 rfl) ?_
    refine zb_ge (tgt := 53) hx hb (show i < 2 ^ 31 by omega) (show j9 < 2 ^ 31 by omega) dX1_make_40 (by decide) (fun h => ?_) (fun h => ?_)
    · have h : j9 ≤ i := h
      have hend : i = j9 := by omega
      subst hend
      exact exit _ _ _ hP hS (lv_sub hl [1, 2] rfl)
    · have h : i < j9 := h
      refine lv_aload_n hx hb dX1_make_43 rfl (lv_at hl 1 rfl) ?_
      refine va_callv (va_runV (As := []) (rest := []) ⟨hx, hb, hml, hown, hts⟩ (kX1_round l E ad hap (smWt τ (rdsM τ i)) K hF hN hcl hmb hhs hK1 hK2 hmn (fun k hk c f hc hf => by rw [rdM_wt]; exact hbd i (by omega) k hk c f hc hf)) (cwV 0 hts gX1_make_X1_round rfl rfl rfl (by decide +kernel) ⟨Nat.le_trans (Nat.le_of_ble_eq_true rfl) hRf, Nat.le_trans (Nat.le_of_ble_eq_true rfl) hRl⟩) (zpm hK hP) rfl rfl hl.1 rfl (lv_room (Nat.le_of_ble_eq_true rfl)) dX1_make_44 ⟨Nat.zero_le _, Nat.zero_le _⟩) hS (fun q _ h => h) (fun q h => h) (fun u9 t9 H locs ht9 hvm9 hw9 hB9 hz9 hk9 hS => ?_)
      rw [ht9] at hB9
      have hP := hB9
      subst hw9
      have e8 : rdsM τ (i + 1) = rdM (smWt τ (rdsM τ i)) (rdsM τ i) (mN τ) := (rdM_wt τ _ _ _).symm
      refine lv_iinc (v := nI (i + 1)) (lv' := [(2, .int (nI (i + 1))), (0, .ref (ad 0)), (1, .int (nI (j9)))]) hx hb dX1_make_47 hl (k := 0) rfl (nI_1 _) (by decide) rfl (fun ls hl => ?_)
      refine lv_goto (tgt := 38) hx hb dX1_make_50 (by decide) ?_
      exact ih (i + 1) _ _ _ (by omega) (by omega) (by rw [e8]; exact hP) hS (lv_sub hl [0, 1, 2] rfl)
set_option maxHeartbeats 4000000 in
set_option maxRecDepth 100000 in
theorem lp_X1_make2 {p : Program} {l : Launch} {e : Env} {R : Room} {s : State} {m : MethodId} {args : Array Value} {below : List Frame} {meth : Method} {c : Code} {Q : State → Prop} {E : zE} {ad : Nat → Nat} (hx : p.tables.exec = Jvm.exec) (hb : c.code = cX1_make) (hml : c.maxLocals = 3) (hts : ∀ w ∈ wsX1_make, w.before args s = true) (hown : s.vm.findClass RX1 = some m.cls) (hK : zK E s) (hap : apart 8 ad) {H0 : Heap} (hRf : 4 ≤ R.frames) (hRl : 104 ≤ R.locals) (τ : SM) (K : Nat) (hF : mF τ ≤ 16) (hN : mN τ ≤ 40) (hcl : ∀ e, mCl τ e < 16) (hmb : ∀ c, c < 16 → mHs τ c < 2 ^ 31) (hhs : ∀ e, e < mN τ → 0 < mHs τ (mCl τ e)) (hK1 : 1023 ≤ K) (hK2 : K ≤ 1900) (hmn : ∀ c, c < 16 → ∀ f, f < mF τ → mg 1057 (mMn τ (16 * c + f))) (j9 : Nat) (hwK : ∀ c f, c < 16 → f < mF τ → mg K (mWt τ (16 * c + f)))
    (exit : ∀ (H : Heap) (locs : List Loc) (ls : Array Slot), PM E ad (smCf τ (zline (mCf τ) 256)) H → va_S (aX 8 ad) H0 H locs → lv_has ls 3 [(0, .ref (ad 0)), (1, .int (nI (j9)))] → W p l e R s m args below meth c H locs 0 0 Q (F0 m 75 ls [])) :
    ∀ (n i : Nat) (H : Heap) (locs : List Loc) (ls : Array Slot), i ≤ 256 → 256 - i < n → PM E ad (smCf τ (zline (mCf τ) i)) H → va_S (aX 8 ad) H0 H locs → lv_has ls 3 [(2, .int (nI (i))), (0, .ref (ad 0)), (1, .int (nI (j9)))] → W p l e R s m args below meth c H locs 0 0 Q (F0 m 55 ls []) := by
  have hA : ∀ k, k < 8 → aX 8 ad (ad k) := fun k hk => ⟨k, hk, rfl⟩
  intro n
  induction n with
  | zero => intro i H locs ls h1 h2; omega
  | succ n ih =>
    intro i H locs ls hi hn hP hS hl
    refine lv_iload_n hx hb dX1_make_55 rfl (lv_at hl 0 rfl) ?_
    refine lv_sipush (v := nI 256) hx hb dX1_make_56 (by decide +kernel) ?_
    refine zb_ge (tgt := 75) hx hb (show i < 2 ^ 31 by omega) (show 256 < 2 ^ 31 by omega) dX1_make_59 (by decide) (fun h => ?_) (fun h => ?_)
    · have h : 256 ≤ i := h
      have hend : i = 256 := by omega
      subst hend
      exact exit _ _ _ hP hS (lv_sub hl [1, 2] rfl)
    · have h : i < 256 := h
      refine lv_aload_n hx hb dX1_make_62 rfl (lv_at hl 1 rfl) ?_
      refine gm hx hb hts innX1_make hown hK hP 10 (by decide) (by decide +kernel) rfl (v := .ref (ad 7)) rfl dX1_make_63 ?_
      refine lv_iload_n hx hb dX1_make_66 rfl (lv_at hl 0 rfl) ?_
      refine lv_iconst (v := nI 0) hx hb dX1_make_67 (by decide +kernel) ?_
      refine z_iast hx hb hK hP hap hA hS 7 (by decide) cm_cf (show i < 256 by omega) (by decide) dX1_make_68 (fun H locs hP hS => ?_)
      have hP := pm_cf hP
      refine lv_iinc (v := nI (i + 1)) (lv' := [(2, .int (nI (i + 1))), (0, .ref (ad 0)), (1, .int (nI (j9)))]) hx hb dX1_make_69 hl (k := 0) rfl (nI_1 _) (by decide) rfl (fun ls hl => ?_)
      refine lv_goto (tgt := 55) hx hb dX1_make_72 (by decide) ?_
      exact ih (i + 1) _ _ _ (by omega) (by omega) hP hS (lv_sub hl [0, 1, 2] rfl)
set_option maxHeartbeats 4000000 in
set_option maxRecDepth 100000 in
theorem lp_X1_make3 {p : Program} {l : Launch} {e : Env} {R : Room} {s : State} {m : MethodId} {args : Array Value} {below : List Frame} {meth : Method} {c : Code} {Q : State → Prop} {E : zE} {ad : Nat → Nat} (hx : p.tables.exec = Jvm.exec) (hb : c.code = cX1_make) (hml : c.maxLocals = 3) (hts : ∀ w ∈ wsX1_make, w.before args s = true) (hown : s.vm.findClass RX1 = some m.cls) (hK : zK E s) (hap : apart 8 ad) {H0 : Heap} (hRf : 4 ≤ R.frames) (hRl : 104 ≤ R.locals) (τ : SM) (K : Nat) (hF : mF τ ≤ 16) (hN : mN τ ≤ 40) (hcl : ∀ e, mCl τ e < 16) (hmb : ∀ c, c < 16 → mHs τ c < 2 ^ 31) (hhs : ∀ e, e < mN τ → 0 < mHs τ (mCl τ e)) (hK1 : 1023 ≤ K) (hK2 : K ≤ 1900) (hmn : ∀ c, c < 16 → ∀ f, f < mF τ → mg 1057 (mMn τ (16 * c + f))) (j9 : Nat) (hwK : ∀ c f, c < 16 → f < mF τ → mg K (mWt τ (16 * c + f)))
    (exit : ∀ (H : Heap) (locs : List Loc) (ls : Array Slot), PM E ad (smCf τ (cfM τ (zline (mCf τ) 256) (mN τ))) H → va_S (aX 8 ad) H0 H locs → lv_has ls 3 [(0, .ref (ad 0)), (1, .int (nI (j9)))] → W p l e R s m args below meth c H locs 0 0 Q (F0 m 123 ls [])) :
    ∀ (n i : Nat) (H : Heap) (locs : List Loc) (ls : Array Slot), i ≤ mN τ → mN τ - i < n → PM E ad (smCf τ (cfM τ (zline (mCf τ) 256) i)) H → va_S (aX 8 ad) H0 H locs → lv_has ls 3 [(2, .int (nI (i))), (0, .ref (ad 0)), (1, .int (nI (j9)))] → W p l e R s m args below meth c H locs 0 0 Q (F0 m 77 ls []) := by
  have hA : ∀ k, k < 8 → aX 8 ad (ad k) := fun k hk => ⟨k, hk, rfl⟩
  intro n
  induction n with
  | zero => intro i H locs ls h1 h2; omega
  | succ n ih =>
    intro i H locs ls hi hn hP hS hl
    refine lv_iload_n hx hb dX1_make_77 rfl (lv_at hl 0 rfl) ?_
    refine lv_aload_n hx hb dX1_make_78 rfl (lv_at hl 1 rfl) ?_
    refine gm hx hb hts innX1_make hown hK hP 2 (by decide) (by decide +kernel) rfl (v := .int (nI ((mN τ)))) rfl dX1_make_79 ?_
    refine zb_ge (tgt := 123) hx hb (show i < 2 ^ 31 by omega) (show (mN τ) < 2 ^ 31 by omega) dX1_make_82 (by decide) (fun h => ?_) (fun h => ?_)
    · have h : (mN τ) ≤ i := h
      have hend : i = mN τ := by omega
      subst hend
      exact exit _ _ _ hP hS (lv_sub hl [1, 2] rfl)
    · have h : i < (mN τ) := h
      have hci := hcl i
      refine lv_aload_n hx hb dX1_make_85 rfl (lv_at hl 1 rfl) ?_
      refine gm hx hb hts innX1_make hown hK hP 10 (by decide) (by decide +kernel) rfl (v := .ref (ad 7)) rfl dX1_make_86 ?_
      refine lv_bipush (v := nI 16) hx hb dX1_make_89 (by decide +kernel) ?_
      refine lv_aload_n hx hb dX1_make_91 rfl (lv_at hl 1 rfl) ?_
      refine gm hx hb hts innX1_make hown hK hP 3 (by decide) (by decide +kernel) rfl (v := .ref (ad 1)) rfl dX1_make_92 ?_
      refine lv_iload_n hx hb dX1_make_95 rfl (lv_at hl 0 rfl) ?_
      refine z_iald hx hb hK hP 1 (by decide) cm_cl (show i < 40 by omega) (by decide) dX1_make_96 ?_
      refine zv_imul (v := (nI (16 * ((mCl τ) (i))))) hx hb dX1_make_97 (pk_mul _ _) ?_
      refine lv_aload_n hx hb dX1_make_98 rfl (lv_at hl 1 rfl) ?_
      refine lv_aload_n hx hb dX1_make_99 rfl (lv_at hl 1 rfl) ?_
      refine gm hx hb hts innX1_make hown hK hP 4 (by decide) (by decide +kernel) rfl (v := .ref (ad 2)) rfl dX1_make_100 ?_
      refine lv_bipush (v := nI 16) hx hb dX1_make_103 (by decide +kernel) ?_
      refine lv_iload_n hx hb dX1_make_105 rfl (lv_at hl 0 rfl) ?_
      refine zv_imul (v := (nI (16 * i))) hx hb dX1_make_106 (pk_mul _ _) ?_
      refine lv_iconst (v := -1) hx hb dX1_make_107 (by decide +kernel) ?_
      refine va_calli (va_runV (As := [.ref (ad 2), .int (nI (16 * i)), .int (-1)]) (rest := [.int (nI (16 * ((mCl τ) (i)))), .ref (ad 7)]) ⟨hx, hb, hml, hown, hts⟩ (kX1_nearest l E ad hap (smCf τ (cfM τ (zline (mCf τ) 256) i)) 2 640 (16 * i) K (mVl τ) (-1) hF hmb (by decide) (cm_vl (τ := smCf τ (cfM τ (zline (mCf τ) 256) i))) (by decide) (show 16 * i + mF τ ≤ 640 by omega) hK1 hK2 (fun c hc f hf => ⟨hwK c f hc hf, hmn c hc f hf⟩)) (cwV 3 hts gX1_make_X1_nearest rfl rfl rfl (by decide +kernel) ⟨Nat.le_trans (Nat.le_of_ble_eq_true rfl) hRf, Nat.le_trans (Nat.le_of_ble_eq_true rfl) hRl⟩) (zpm hK hP) rfl rfl hl.1 rfl (lv_room (Nat.le_of_ble_eq_true rfl)) dX1_make_108 ⟨Nat.zero_le _, Nat.zero_le _⟩) hS (fun q _ h => h.elim) (fun q h => h.elim) (fun r u9 t9 H locs ht9 hvm9 hw9 hB9 hz9 hk9 hS => ?_)
      have hP := wn_ro hP hk9
      have hw9 : r = nearM τ (mVl τ) (16 * i) (-1) := hw9
      obtain ⟨j, hj, e9⟩ := nearM_some τ (mVl τ) (16 * i) (mCl τ i) hci (hhs i h)
      rw [e9] at hw9
      subst hw9
      have e8 : cfM τ (zline (mCf τ) 256) (i + 1) = va_up (cfM τ (zline (mCf τ) 256) i) (16 * mCl τ i + j) (cfM τ (zline (mCf τ) 256) i (16 * mCl τ i + j) + 1) := by rw [cfM, e9, nI_clamp (by omega)]
      refine zv_iadd (v := (nI ((16 * ((mCl τ) (i))) + j))) hx hb dX1_make_111 (nI_add _ _) ?_
      refine lv_dup2_11 hx hb dX1_make_112 rfl rfl ?_
      refine z_iald hx hb hK hP 7 (by decide) cm_cf (show (16 * ((mCl τ) (i))) + j < 256 by omega) (by decide) dX1_make_113 ?_
      refine lv_iconst (v := nI 1) hx hb dX1_make_114 (by decide +kernel) ?_
      refine zv_iadd (v := (nI (((cfM τ (zline (mCf τ) 256) i) ((16 * ((mCl τ) (i))) + j)) + 1))) hx hb dX1_make_115 (nI_add _ _) ?_
      refine z_iast hx hb hK hP hap hA hS 7 (by decide) cm_cf (show (16 * ((mCl τ) (i))) + j < 256 by omega) (by decide) dX1_make_116 (fun H locs hP hS => ?_)
      have hP := pm_cf hP
      refine lv_iinc (v := nI (i + 1)) (lv' := [(2, .int (nI (i + 1))), (0, .ref (ad 0)), (1, .int (nI (j9)))]) hx hb dX1_make_117 hl (k := 0) rfl (nI_1 _) (by decide) rfl (fun ls hl => ?_)
      refine lv_goto (tgt := 77) hx hb dX1_make_120 (by decide) ?_
      exact ih (i + 1) _ _ _ (by omega) (by omega) (by rw [e8]; exact hP) hS (lv_sub hl [0, 1, 2] rfl)
/-- the making with j rounds -/
def mkrM (τ : SM) (j : Nat) : SM := smWt τ (rdsM τ j)
def mkcM (τ : SM) : SM := smMd (smCf τ (cfM τ (zline (mCf τ) 256) (mN τ))) 1
def mkM (τ : SM) (j : Nat) : SM := mkcM (mkrM (mmM (smC τ 0)) j)
def mkQ (τ : SM) (x r : Int32) (τ' : SM) : Prop := ((∀ j : Nat, j < 21 → x ≠ nI j) ∧ r = -12 ∧ τ' = smC τ 0) ∨ (∃ j : Nat, j < 21 ∧ x = nI j ∧ ((mN τ = 0 ∧ r = nI 0 ∧ τ' = smC τ 1) ∨ (0 < mN τ ∧ r = nI 1 ∧ τ' = mkM τ j)))
theorem hsM_in (τ : SM) {c : Nat} (h : c < 16) : mHs (mmM τ) c = hsV τ c := fl0_in h
theorem hsM_lt (τ : SM) : ∀ c, c < 16 → mHs (mmM τ) c < 2 ^ 31 := fun c h => by
  rw [hsM_in τ h]
  unfold hsV
  split <;> decide
theorem ctE_pos {ec : Nat → Nat} {e : Nat} : ∀ {k : Nat}, e < k → 0 < ctE ec (ec e) k
  | k + 1, h => by
    rw [ctE]
    by_cases q : e = k
    · subst q; rw [if_pos rfl]; omega
    · have := ctE_pos (ec := ec) (show e < k by omega); omega
theorem hsM_pos (τ : SM) (hcl : ∀ e, mCl τ e < 16) : ∀ e, e < mN τ → 0 < mHs (mmM τ) (mCl τ e) := fun e h => by
  rw [hsM_in τ (hcl e)]
  unfold hsV
  rw [if_pos (show 0 < ctM τ (mCl τ e) from ctE_pos h)]
  decide
set_option maxHeartbeats 4000000 in
set_option maxRecDepth 100000 in
theorem kX1_make (l : Launch) (E : zE) (ad : Nat → Nat) (hap : apart 8 ad) (τ : SM) (x : Int32) (K : Nat) (hF : mF τ ≤ 16) (hN : mN τ ≤ 40) (hcl : ∀ e, mCl τ e < 16) (hvl : ∀ k, mVl τ k < 256) (hK1 : 1023 ≤ K) (hK2 : K ≤ 1900) (hmn : ∀ c, c < 16 → ∀ f, f < mF τ → mg 1057 (mMn (mmM (smC τ 0)) (16 * c + f))) (hbd : ∀ r, r ≤ 20 → ∀ i, i ≤ mN τ → ∀ c f, c < 16 → f < mF τ → mg K (rdM (mmM (smC τ 0)) (rdsM (mmM (smC τ 0)) r) i (16 * c + f))) : Met l yX1_make wsX1_make ({ frames := 4, cells := 0, slots := 0, locals := 104 }) (va_Pc [.ref (ad 0), .int (x)] (fun U => PM E ad τ U.heap ∧ zK E U)) (va_Qi (fun (r : Int32) (τ' : SM) => mkQ τ x r τ') (fun τ' t => PM E ad τ' t.heap) (aX 8 ad)) 0 0 (aX 8 ad) := by
  refine Met.ofW (cc := cX1_make) (maxL := 3) (ret := some .int) (by decide) rfl ?_
  intro p e s m args below meth c s₁ B hml hv
  obtain ⟨rfl, hP, hK⟩ := hv
  have hx := B.exec
  have hb := B.bytes
  have hr := B.returns
  have hts := atoms_spec (ws := wsX1_make) B.pre
  have hown : s.vm.findClass RX1 = some m.cls := findClass_of_methodNamed B.named
  have hlocks := B.notSynchronized
  have hS : va_S (aX 8 ad) s.heap s.heap [] := va_S.rf
  have hA : ∀ k, k < 8 → aX 8 ad (ad k) := fun k hk => ⟨k, hk, rfl⟩
  have hRf : 4 ≤ ((headSpec wsX1_make ({ frames := 4, cells := 0, slots := 0, locals := 104 })).room).frames := Nat.le_of_ble_eq_true rfl
  have hRl : 104 ≤ ((headSpec wsX1_make ({ frames := 4, cells := 0, slots := 0, locals := 104 })).room).locals := Nat.le_of_ble_eq_true rfl
  have hl := lv_entry ([.ref (ad 0), .int (x)]) (n := 3) (Nat.le_of_ble_eq_true rfl)
  rw [lg_entry_eq]
  generalize (lg_sl ([.ref (ad 0), .int (x)]) ++ List.replicate (3 - (lg_sl ([.ref (ad 0), .int (x)])).length) Slot.unset).toArray = ls at hl ⊢
  have hl : lv_has ls 3 [(0, .ref (ad 0)), (1, .int (x))] := hl
  refine lv_aload_n hx hb dX1_make_0 rfl (lv_at hl 0 rfl) ?_
  refine lv_iconst (v := nI 0) hx hb dX1_make_1 (by decide +kernel) ?_
  refine gmput hx hb hts innX1_make hown hK hP hap hA hS 0 (by decide) (by decide +kernel) rfl rfl (v := .int (nI (0))) rfl rfl (by show 0 < (List.length _); exact Nat.le_of_ble_eq_true rfl) dX1_make_2 (fun H locs hP hS => ?_)
  have hP := pm_c hP
  refine lv_iload_n hx hb dX1_make_5 rfl (lv_at hl 1 rfl) ?_
  refine lv_if_lt (tgt := 15) hx hb dX1_make_6 (by decide) (fun h => ?_) (fun h => ?_)
  · refine lv_bipush (v := -12) hx hb dX1_make_15 (by decide +kernel) ?_
    exact W.iret hx hb hr (fun t ht hW => ⟨⟨_, _, rfl, Or.inl ⟨fun j hj e => nI_pos (show j < 2 ^ 31 by omega) (e ▸ h), rfl, rfl⟩, (wn_h ht hP)⟩, hS.F ht⟩) hS.2.2 dX1_make_17
  · refine lv_iload_n hx hb dX1_make_9 rfl (lv_at hl 1 rfl) ?_
    refine lv_bipush (v := nI 20) hx hb dX1_make_10 (by decide +kernel) ?_
    refine lv_icmp_le (tgt := 18) hx hb dX1_make_12 (by decide) (fun h2 => ?_) (fun h2 => ?_)
    · obtain ⟨j, hj, rfl⟩ : ∃ j : Nat, j < 21 ∧ x = nI j := by
        rcases pk_ix x (n := 21) (by decide) with q | q | ⟨j, hj, e⟩
        · exact absurd q h
        · have q1 := Int32.le_trans q h2; exact absurd q1 (by decide)
        · exact ⟨j, hj, e⟩
      refine lv_aload_n hx hb dX1_make_18 rfl (lv_at hl 0 rfl) ?_
      refine gm hx hb hts innX1_make hown hK hP 2 (by decide) (by decide +kernel) rfl (v := .int (nI ((mN τ)))) rfl dX1_make_19 ?_
      refine zu_ne (tgt := 32) hx hb (show (mN τ) < 2 ^ 31 by omega) dX1_make_22 (by decide) (fun h3 => ?_) (fun h3 => ?_)
      · have h3 : 0 < (mN τ) := h3
        obtain ⟨τ0, hk0⟩ : ∃ z, z = smC τ 0 := ⟨_, rfl⟩
        rw [← hk0] at hP hmn hbd
        have hF0 : mF τ0 ≤ 16 := by rw [hk0]; exact hF
        have hN0 : mN τ0 ≤ 40 := by rw [hk0]; exact hN
        have hcl0 : ∀ e, mCl τ0 e < 16 := by rw [hk0]; exact hcl
        have hvl0 : ∀ k, mVl τ0 k < 256 := by rw [hk0]; exact hvl
        have hNe : mN τ = mN τ0 := by rw [hk0]; rfl
        have hFe : mF τ = mF τ0 := by rw [hk0]; rfl
        rw [hFe] at hmn hbd
        rw [hNe] at hbd
        refine lv_aload_n hx hb dX1_make_32 rfl (lv_at hl 0 rfl) ?_
        refine va_callv (va_runV (As := []) (rest := []) ⟨hx, hb, hml, hown, hts⟩ (kX1_means l E ad hap τ0 hN0 hcl0 hvl0) (cwV 0 hts gX1_make_X1_means rfl rfl rfl (by decide +kernel) ⟨Nat.le_trans (Nat.le_of_ble_eq_true rfl) hRf, Nat.le_trans (Nat.le_of_ble_eq_true rfl) hRl⟩) (zpm hK hP) rfl rfl hl.1 rfl (lv_room (Nat.le_of_ble_eq_true rfl)) dX1_make_33 ⟨Nat.zero_le _, Nat.zero_le _⟩) hS (fun q _ h => h) (fun q h => h) (fun u9 t9 H locs ht9 hvm9 hw9 hB9 hz9 hk9 hS => ?_)
        rw [ht9] at hB9
        have hP := hB9
        subst hw9
        have hmb1 := hsM_lt τ0
        have hhs1 := hsM_pos τ0 hcl0
        obtain ⟨τ1, hk1⟩ : ∃ z, z = mmM τ0 := ⟨_, rfl⟩
        have hN1 : mN τ1 = mN τ0 := by rw [hk1]; rfl
        have hF1 : mF τ1 = mF τ0 := by rw [hk1]; rfl
        have hC1 : mCl τ1 = mCl τ0 := by rw [hk1]; rfl
        rw [← hk1] at hP hmn hbd hmb1 hhs1
        rw [← hF1] at hmn hbd hF0
        rw [← hN1] at hbd hhs1 hN0
        rw [← hC1] at hcl0 hhs1
        refine lv_iconst (v := nI 0) hx hb dX1_make_36 (by decide +kernel) ?_
        refine lv_istore_n (lv' := [(2, .int (nI (0))), (0, .ref (ad 0)), (1, .int (nI (j)))]) hx hb dX1_make_37 rfl hl (by decide) rfl (fun ls hl => ?_)
        refine lp_X1_make1 hx hb hml hts hown hK hap (Nat.le_trans (Nat.le_of_ble_eq_true rfl) hRf) (Nat.le_trans (Nat.le_of_ble_eq_true rfl) hRl) τ1 K hF0 hN0 hcl0 hmb1 hhs1 hK1 hK2 hmn j hj (fun r hr => hbd r (by omega)) (fun H locs ls hP hS hl => ?_) (j + 1) 0 _ _ _ (by omega) (by omega) hP hS (lv_sub hl [0, 1, 2] rfl)
        have hwK : ∀ c f, c < 16 → f < mF τ1 → mg K (rdsM τ1 j (16 * c + f)) := fun c f hc hf => hbd j (by omega) 0 (Nat.zero_le _) c f hc hf
        obtain ⟨τ2, hk2⟩ : ∃ z, z = mkrM τ1 j := ⟨_, rfl⟩
        have hP : PM E ad τ2 H := by rw [hk2]; exact hP
        have hF2 : mF τ2 ≤ 16 := by rw [hk2]; exact hF0
        have hN2 : mN τ2 ≤ 40 := by rw [hk2]; exact hN0
        have hcl2 : ∀ e, mCl τ2 e < 16 := by rw [hk2]; exact hcl0
        have hmb2 : ∀ c, c < 16 → mHs τ2 c < 2 ^ 31 := by rw [hk2]; exact hmb1
        have hhs2 : ∀ e, e < mN τ2 → 0 < mHs τ2 (mCl τ2 e) := by rw [hk2]; exact hhs1
        have hmn2 : ∀ c, c < 16 → ∀ f, f < mF τ2 → mg 1057 (mMn τ2 (16 * c + f)) := by rw [hk2]; exact hmn
        have hwK2 : ∀ c f, c < 16 → f < mF τ2 → mg K (mWt τ2 (16 * c + f)) := by rw [hk2]; exact hwK
        refine lv_iconst (v := nI 0) hx hb dX1_make_53 (by decide +kernel) ?_
        refine lv_istore_n (lv' := [(2, .int (nI (0))), (0, .ref (ad 0)), (1, .int (nI (j)))]) hx hb dX1_make_54 rfl hl (by decide) rfl (fun ls hl => ?_)
        refine lp_X1_make2 hx hb hml hts hown hK hap (Nat.le_trans (Nat.le_of_ble_eq_true rfl) hRf) (Nat.le_trans (Nat.le_of_ble_eq_true rfl) hRl) τ2 K hF2 hN2 hcl2 hmb2 hhs2 hK1 hK2 hmn2 j hwK2 (fun H locs ls hP hS hl => ?_) (256 + 1) 0 _ _ _ (by omega) (by omega) hP hS (lv_sub hl [0, 1, 2] rfl)
        refine lv_iconst (v := nI 0) hx hb dX1_make_75 (by decide +kernel) ?_
        refine lv_istore_n (lv' := [(2, .int (nI (0))), (0, .ref (ad 0)), (1, .int (nI (j)))]) hx hb dX1_make_76 rfl hl (by decide) rfl (fun ls hl => ?_)
        refine lp_X1_make3 hx hb hml hts hown hK hap (Nat.le_trans (Nat.le_of_ble_eq_true rfl) hRf) (Nat.le_trans (Nat.le_of_ble_eq_true rfl) hRl) τ2 K hF2 hN2 hcl2 hmb2 hhs2 hK1 hK2 hmn2 j hwK2 (fun H locs ls hP hS hl => ?_) (mN τ2 + 1) 0 _ _ _ (by omega) (by omega) hP hS (lv_sub hl [0, 1, 2] rfl)
        obtain ⟨τ3, hk3⟩ : ∃ z, z = smCf τ2 (cfM τ2 (zline (mCf τ2) 256) (mN τ2)) := ⟨_, rfl⟩
        rw [← hk3] at hP
        refine lv_aload_n hx hb dX1_make_123 rfl (lv_at hl 0 rfl) ?_
        refine lv_iconst (v := nI 1) hx hb dX1_make_124 (by decide +kernel) ?_
        refine gmput hx hb hts innX1_make hown hK hP hap hA hS 6 (by decide) (by decide +kernel) rfl rfl (v := .int (nI (1))) rfl rfl (by show 6 < (List.length _); exact Nat.le_of_ble_eq_true rfl) dX1_make_125 (fun H locs hP hS => ?_)
        have hP := pm_md hP
        refine lv_iconst (v := nI 1) hx hb dX1_make_128 (by decide +kernel) ?_
        have e9 : mkM τ j = smMd τ3 1 := by rw [hk3, hk2, hk1, hk0]; rfl
        have hP : PM E ad (mkM τ j) H := by rw [e9]; exact hP
        exact W.iret hx hb hr (fun t ht hW => ⟨⟨_, (mkM τ j), rfl, Or.inr ⟨j, hj, rfl, Or.inr ⟨h3, rfl, rfl⟩⟩, (wn_h ht hP)⟩, hS.F ht⟩) hS.2.2 dX1_make_129
      · have h3 : (mN τ) = 0 := h3
        refine lv_aload_n hx hb dX1_make_25 rfl (lv_at hl 0 rfl) ?_
        refine lv_iconst (v := nI 1) hx hb dX1_make_26 (by decide +kernel) ?_
        refine gmput hx hb hts innX1_make hown hK hP hap hA hS 0 (by decide) (by decide +kernel) rfl rfl (v := .int (nI (1))) rfl rfl (by show 0 < (List.length _); exact Nat.le_of_ble_eq_true rfl) dX1_make_27 (fun H locs hP hS => ?_)
        have hP := pm_c hP
        refine lv_iconst (v := nI 0) hx hb dX1_make_30 (by decide +kernel) ?_
        exact W.iret hx hb hr (fun t ht hW => ⟨⟨_, _, rfl, Or.inr ⟨j, hj, rfl, Or.inl ⟨h3, rfl, rfl⟩⟩, (wn_h ht hP)⟩, hS.F ht⟩) hS.2.2 dX1_make_31
    · refine lv_bipush (v := -12) hx hb dX1_make_15 (by decide +kernel) ?_
      exact W.iret hx hb hr (fun t ht hW => ⟨⟨_, _, rfl, Or.inl ⟨fun j hj e => h2 (by rw [e]; exact nI_le (by omega) (by decide)), rfl, rfl⟩, (wn_h ht hP)⟩, hS.F ht⟩) hS.2.2 dX1_make_17
end
section
/-! ===== the reference: weight, tell, distance ===== -/
def wtO (τ : SM) (x y : Int32) : Prop := ∃ i j : Nat, i < 16 ∧ j < mF τ ∧ x = nI i ∧ y = nI j
def wtQ (τ : SM) (x y : Int32) (r : UInt64) (τ' : SM) : Prop := (∃ i j : Nat, i < 16 ∧ j < mF τ ∧ x = nI i ∧ y = nI j ∧ τ' = smC τ 0 ∧ r = if mMd τ = 0 then FP.dconst0 else mWt τ (16 * i + j)) ∨ ((¬ wtO τ x y) ∧ τ' = smC τ 1 ∧ r = FP.dconst0)
set_option maxHeartbeats 4000000 in
set_option maxRecDepth 100000 in
theorem kX1_weight (l : Launch) (E : zE) (ad : Nat → Nat) (hap : apart 8 ad) (τ : SM) (x y : Int32) (hF : mF τ ≤ 16) (hmd : mMd τ ≤ 1) : Met l yX1_weight wsX1_weight ({ frames := 1, cells := 0, slots := 0, locals := 21 }) (va_Pc [.ref (ad 0), .int (x), .int (y)] (fun U => PM E ad τ U.heap ∧ zK E U)) (va_Qd (fun (r : UInt64) (τ' : SM) => wtQ τ x y r τ') (fun τ' t => PM E ad τ' t.heap) (aX 8 ad)) 0 0 (aX 8 ad) := by
  refine Met.ofW (cc := cX1_weight) (maxL := 3) (ret := some .double) (by decide) rfl ?_
  intro p e s m args below meth c s₁ B hml hv
  obtain ⟨rfl, hP, hK⟩ := hv
  have hx := B.exec
  have hb := B.bytes
  have hr := B.returns
  have hts := atoms_spec (ws := wsX1_weight) B.pre
  have hown : s.vm.findClass RX1 = some m.cls := findClass_of_methodNamed B.named
  have hlocks := B.notSynchronized
  have hS : va_S (aX 8 ad) s.heap s.heap [] := va_S.rf
  have hA : ∀ k, k < 8 → aX 8 ad (ad k) := fun k hk => ⟨k, hk, rfl⟩
  have hRf : 1 ≤ ((headSpec wsX1_weight ({ frames := 1, cells := 0, slots := 0, locals := 21 })).room).frames := Nat.le_of_ble_eq_true rfl
  have hRl : 21 ≤ ((headSpec wsX1_weight ({ frames := 1, cells := 0, slots := 0, locals := 21 })).room).locals := Nat.le_of_ble_eq_true rfl
  have hl := lv_entry ([.ref (ad 0), .int (x), .int (y)]) (n := 3) (Nat.le_of_ble_eq_true rfl)
  rw [lg_entry_eq]
  generalize (lg_sl ([.ref (ad 0), .int (x), .int (y)]) ++ List.replicate (3 - (lg_sl ([.ref (ad 0), .int (x), .int (y)])).length) Slot.unset).toArray = ls at hl ⊢
  have hl : lv_has ls 3 [(0, .ref (ad 0)), (1, .int (x)), (2, .int (y))] := hl
  refine lv_aload_n hx hb dX1_weight_0 rfl (lv_at hl 0 rfl) ?_
  refine lv_iload_n hx hb dX1_weight_1 rfl (lv_at hl 1 rfl) ?_
  refine lv_if_lt (tgt := 19) hx hb dX1_weight_2 (by decide) (fun h => ?_) (fun h => ?_)
  · refine lv_iconst (v := nI 1) hx hb dX1_weight_19 (by decide +kernel) ?_
    refine lv_goto (tgt := 24) hx hb dX1_weight_20 (by decide) ?_
    refine gmput hx hb hts innX1_weight hown hK hP hap hA hS 0 (by decide) (by decide +kernel) rfl rfl (v := .int (nI (1))) rfl rfl (by show 0 < (List.length _); exact Nat.le_of_ble_eq_true rfl) dX1_weight_24 (fun H locs hP hS => ?_)
    have hP := pm_c hP
    refine lv_aload_n hx hb dX1_weight_27 rfl (lv_at hl 0 rfl) ?_
    refine gm hx hb hts innX1_weight hown hK hP 0 (by decide) (by decide +kernel) rfl (v := .int (nI ((1)))) rfl dX1_weight_28 ?_
    refine zu_gt (tgt := 41) hx hb (show (1) < 2 ^ 31 by omega) dX1_weight_31 (by decide) (fun h4 => ?_) (fun h4 => ?_)
    · have h4 : 0 < (1) := h4
      refine lv_dconst0 hx hb dX1_weight_41 ?_
      refine lv_goto (tgt := 56) hx hb dX1_weight_42 (by decide) ?_
      exact W.dret hx hb hr (fun t ht hW => ⟨⟨_, _, rfl, Or.inr ⟨fun ⟨i, j, h1, _, h3, _⟩ => nI_pos (show i < 2 ^ 31 by omega) (h3 ▸ h), rfl, rfl⟩, (wn_h ht hP)⟩, hS.F ht⟩) hS.2.2 dX1_weight_56
    · have h4 : (1) = 0 := h4
      exact absurd h4 (by decide)
  · refine lv_iload_n hx hb dX1_weight_5 rfl (lv_at hl 1 rfl) ?_
    refine lv_bipush (v := nI 15) hx hb dX1_weight_6 (by decide +kernel) ?_
    refine lv_icmp_gt (tgt := 19) hx hb dX1_weight_8 (by decide) (fun h2 => ?_) (fun h2 => ?_)
    · refine lv_iconst (v := nI 1) hx hb dX1_weight_19 (by decide +kernel) ?_
      refine lv_goto (tgt := 24) hx hb dX1_weight_20 (by decide) ?_
      refine gmput hx hb hts innX1_weight hown hK hP hap hA hS 0 (by decide) (by decide +kernel) rfl rfl (v := .int (nI (1))) rfl rfl (by show 0 < (List.length _); exact Nat.le_of_ble_eq_true rfl) dX1_weight_24 (fun H locs hP hS => ?_)
      have hP := pm_c hP
      refine lv_aload_n hx hb dX1_weight_27 rfl (lv_at hl 0 rfl) ?_
      refine gm hx hb hts innX1_weight hown hK hP 0 (by decide) (by decide +kernel) rfl (v := .int (nI ((1)))) rfl dX1_weight_28 ?_
      refine zu_gt (tgt := 41) hx hb (show (1) < 2 ^ 31 by omega) dX1_weight_31 (by decide) (fun h4 => ?_) (fun h4 => ?_)
      · have h4 : 0 < (1) := h4
        refine lv_dconst0 hx hb dX1_weight_41 ?_
        refine lv_goto (tgt := 56) hx hb dX1_weight_42 (by decide) ?_
        exact W.dret hx hb hr (fun t ht hW => ⟨⟨_, _, rfl, Or.inr ⟨fun ⟨i, j, h1, _, h3, _⟩ => absurd (h3 ▸ h2) (Int32.not_lt.mpr (nI_le (a := i) (b := 15) (by omega) (by decide))), rfl, rfl⟩, (wn_h ht hP)⟩, hS.F ht⟩) hS.2.2 dX1_weight_56
      · have h4 : (1) = 0 := h4
        exact absurd h4 (by decide)
    · obtain ⟨i, hi9, rfl⟩ : ∃ j : Nat, j < 16 ∧ x = nI j := by
        rcases pk_ix x (n := 16) (by decide) with q | q | ⟨j, hj, e⟩
        · exact absurd q h
        · exact absurd (Int32.lt_of_lt_of_le (show nI 15 < nI 16 by decide) q) h2
        · exact ⟨j, hj, e⟩
      refine lv_aload_n hx hb dX1_weight_11 rfl (lv_at hl 0 rfl) ?_
      refine lv_iload_n hx hb dX1_weight_12 rfl (lv_at hl 2 rfl) ?_
      refine va_calli (va_runV (As := [.int (y)]) (rest := [.ref (ad 0)]) ⟨hx, hb, hml, hown, hts⟩ (kX1_isFeature l E ad hap τ y hF) (cwV 1 hts gX1_weight_X1_isFeature rfl rfl rfl (by decide +kernel) ⟨Nat.le_trans (Nat.le_of_ble_eq_true rfl) hRf, Nat.le_trans (Nat.le_of_ble_eq_true rfl) hRl⟩) (zpm hK hP) rfl rfl hl.1 rfl (lv_room (Nat.le_of_ble_eq_true rfl)) dX1_weight_13 ⟨Nat.zero_le _, Nat.zero_le _⟩) hS (fun q _ h => h.elim) (fun q h => h.elim) (fun r u9 t9 H locs ht9 hvm9 hw9 hB9 hz9 hk9 hS => ?_)
      have hP := wn_ro hP hk9
      rcases hw9 with ⟨j, hj, rfl, rfl⟩ | ⟨hno, rfl⟩
      · refine zu_ne (tgt := 23) hx hb (show 1 < 2 ^ 31 by omega) dX1_weight_16 (by decide) (fun h3 => ?_) (fun h3 => ?_)
        · have h3 : 0 < 1 := h3
          refine lv_iconst (v := nI 0) hx hb dX1_weight_23 (by decide +kernel) ?_
          refine gmput hx hb hts innX1_weight hown hK hP hap hA hS 0 (by decide) (by decide +kernel) rfl rfl (v := .int (nI (0))) rfl rfl (by show 0 < (List.length _); exact Nat.le_of_ble_eq_true rfl) dX1_weight_24 (fun H locs hP hS => ?_)
          have hP := pm_c hP
          refine lv_aload_n hx hb dX1_weight_27 rfl (lv_at hl 0 rfl) ?_
          refine gm hx hb hts innX1_weight hown hK hP 0 (by decide) (by decide +kernel) rfl (v := .int (nI ((0)))) rfl dX1_weight_28 ?_
          refine zu_gt (tgt := 41) hx hb (show (0) < 2 ^ 31 by omega) dX1_weight_31 (by decide) (fun h4 => ?_) (fun h4 => ?_)
          · have h4 : 0 < (0) := h4
            exact absurd h4 (by decide)
          · have h4 : (0) = 0 := h4
            refine lv_aload_n hx hb dX1_weight_34 rfl (lv_at hl 0 rfl) ?_
            refine gm hx hb hts innX1_weight hown hK hP 6 (by decide) (by decide +kernel) rfl (v := .int (nI ((mMd τ)))) rfl dX1_weight_35 ?_
            refine zu_ne (tgt := 45) hx hb (show (mMd τ) < 2 ^ 31 by omega) dX1_weight_38 (by decide) (fun h5 => ?_) (fun h5 => ?_)
            · have h5 : 0 < (mMd τ) := h5
              refine lv_aload_n hx hb dX1_weight_45 rfl (lv_at hl 0 rfl) ?_
              refine gm hx hb hts innX1_weight hown hK hP 9 (by decide) (by decide +kernel) rfl (v := .ref (ad 6)) rfl dX1_weight_46 ?_
              refine lv_bipush (v := nI 16) hx hb dX1_weight_49 (by decide +kernel) ?_
              refine lv_iload_n hx hb dX1_weight_51 rfl (lv_at hl 1 rfl) ?_
              refine zv_imul (v := (nI (16 * i))) hx hb dX1_weight_52 (pk_mul _ _) ?_
              refine lv_iload_n hx hb dX1_weight_53 rfl (lv_at hl 2 rfl) ?_
              refine zv_iadd (v := (nI ((16 * i) + j))) hx hb dX1_weight_54 (nI_add _ _) ?_
              refine z_dald hx hb hK hP 6 (by decide) cm_wt (show (16 * i) + j < 256 by omega) (by decide) dX1_weight_55 ?_
              exact W.dret hx hb hr (fun t ht hW => ⟨⟨_, _, rfl, Or.inl ⟨i, j, hi9, hj, rfl, rfl, rfl, (if_neg (show ¬ mMd τ = 0 by omega)).symm⟩, (wn_h ht hP)⟩, hS.F ht⟩) hS.2.2 dX1_weight_56
            · have h5 : (mMd τ) = 0 := h5
              refine lv_dconst0 hx hb dX1_weight_41 ?_
              refine lv_goto (tgt := 56) hx hb dX1_weight_42 (by decide) ?_
              exact W.dret hx hb hr (fun t ht hW => ⟨⟨_, _, rfl, Or.inl ⟨i, j, hi9, hj, rfl, rfl, rfl, (if_pos h5).symm⟩, (wn_h ht hP)⟩, hS.F ht⟩) hS.2.2 dX1_weight_56
        · have h3 : 1 = 0 := h3
          exact absurd h3 (by decide)
      · refine zu_ne (tgt := 23) hx hb (show 0 < 2 ^ 31 by omega) dX1_weight_16 (by decide) (fun h3 => ?_) (fun h3 => ?_)
        · have h3 : 0 < 0 := h3
          exact absurd h3 (by decide)
        · have h3 : 0 = 0 := h3
          refine lv_iconst (v := nI 1) hx hb dX1_weight_19 (by decide +kernel) ?_
          refine lv_goto (tgt := 24) hx hb dX1_weight_20 (by decide) ?_
          refine gmput hx hb hts innX1_weight hown hK hP hap hA hS 0 (by decide) (by decide +kernel) rfl rfl (v := .int (nI (1))) rfl rfl (by show 0 < (List.length _); exact Nat.le_of_ble_eq_true rfl) dX1_weight_24 (fun H locs hP hS => ?_)
          have hP := pm_c hP
          refine lv_aload_n hx hb dX1_weight_27 rfl (lv_at hl 0 rfl) ?_
          refine gm hx hb hts innX1_weight hown hK hP 0 (by decide) (by decide +kernel) rfl (v := .int (nI ((1)))) rfl dX1_weight_28 ?_
          refine zu_gt (tgt := 41) hx hb (show (1) < 2 ^ 31 by omega) dX1_weight_31 (by decide) (fun h4 => ?_) (fun h4 => ?_)
          · have h4 : 0 < (1) := h4
            refine lv_dconst0 hx hb dX1_weight_41 ?_
            refine lv_goto (tgt := 56) hx hb dX1_weight_42 (by decide) ?_
            exact W.dret hx hb hr (fun t ht hW => ⟨⟨_, _, rfl, Or.inr ⟨fun ⟨_, j, _, h6, _, h7⟩ => hno j h6 h7, rfl, rfl⟩, (wn_h ht hP)⟩, hS.F ht⟩) hS.2.2 dX1_weight_56
          · have h4 : (1) = 0 := h4
            exact absurd h4 (by decide)
def n1M (τ : SM) : Int32 := nearM τ (mSg τ) 0 (-1)
def n2M (τ : SM) : Int32 := nearM τ (mSg τ) 0 (n1M τ)
theorem nearM_cases (τ : SM) (v : Nat → Nat) (fr : Nat) (but : Int32) : nearM τ v fr but = -1 ∨ ∃ j : Nat, j < 16 ∧ hasM τ j = true ∧ nI j ≠ but ∧ nearM τ v fr but = nI j := nrF_fst 16
/-- 1 while the first f features are 0 -/
def blM (sg : Nat → Nat) : Nat → Nat
  | 0 => 1
  | f + 1 => if 0 < blM sg f ∧ sg f = 0 then 1 else 0
theorem blM_le (sg : Nat → Nat) : ∀ f, blM sg f ≤ 1
  | 0 => Nat.le_refl 1
  | f + 1 => by rw [blM]; split <;> decide
theorem blM_iff (sg : Nat → Nat) : ∀ n, 0 < blM sg n ↔ ∀ f, f < n → sg f = 0
  | 0 => ⟨fun _ f h => absurd h (Nat.not_lt_zero f), fun _ => Nat.zero_lt_one⟩
  | n + 1 => by
    have ih := blM_iff sg n
    rw [blM]
    constructor
    · intro h f hf
      by_cases q : 0 < blM sg n ∧ sg n = 0
      · rcases Nat.lt_or_ge f n with z | z
        · exact ih.mp q.1 f z
        · exact (show f = n by omega) ▸ q.2
      · rw [if_neg q] at h; exact absurd h (by decide)
    · intro h
      rw [if_pos ⟨ih.mpr (fun f hf => h f (by omega)), h n (by omega)⟩]
      decide
def tooM (τ : SM) (z : Int32) : Prop := (∃ i j : Nat, i < 16 ∧ j < 16 ∧ n1M τ = nI i ∧ n2M τ = nI j ∧ z = ldF (ddM τ (mSg τ) 0 i) (ddM τ (mSg τ) 0 j) (mMg τ)) ∨ (n2M τ = -1 ∧ z = nI 0)
def tlQ (τ : SM) (x r : Int32) : Prop := ((∀ j : Nat, j < 2 → x ≠ nI j) ∧ r = -12) ∨ (∃ j : Nat, j < 2 ∧ x = nI j ∧ ((mMd τ = 0 ∧ r = -13) ∨ (0 < mMd τ ∧ (((∀ f, f < mF τ → mSg τ f = 0) ∧ r = -3) ∨ ((¬ ∀ f, f < mF τ → mSg τ f = 0) ∧ ∃ z : Int32, tooM τ z ∧ ((¬ z = 0 ∧ r = -2) ∨ (z = 0 ∧ r = if j = 0 then n1M τ else n2M τ)))))))
set_option maxHeartbeats 4000000 in
set_option maxRecDepth 100000 in
theorem lp_X1_tell {p : Program} {l : Launch} {e : Env} {R : Room} {s : State} {m : MethodId} {args : Array Value} {below : List Frame} {meth : Method} {c : Code} {Q : State → Prop} {E : zE} {ad : Nat → Nat} (hx : p.tables.exec = Jvm.exec) (hb : c.code = cX1_tell) (hml : c.maxLocals = 5) (hts : ∀ w ∈ wsX1_tell, w.before args s = true) (hown : s.vm.findClass RX1 = some m.cls) (hK : zK E s) (hap : apart 8 ad) {H0 : Heap} (hRf : 4 ≤ R.frames) (hRl : 98 ≤ R.locals) (τ : SM) (K : Nat) (hF : mF τ ≤ 16) (hmb : ∀ c, c < 16 → mHs τ c < 2 ^ 31) (hmd : mMd τ ≤ 1) (hsg : ∀ f, f < mF τ → mSg τ f < 2 ^ 31) (hex : 0 < mMd τ → ∃ c, c < 16 ∧ 0 < mHs τ c) (hK1 : 1023 ≤ K) (hK2 : K ≤ 1900) (hw : ∀ c, c < 16 → ∀ f, f < mF τ → mg K (mWt τ (16 * c + f)) ∧ mg 1057 (mMn τ (16 * c + f))) (j9 : Nat)
    (exit : ∀ (H : Heap) (locs : List Loc) (ls : Array Slot), PM E ad (smC τ (0)) H → va_S (aX 8 ad) H0 H locs → lv_has ls 5 [(2, .int (nI (blM (mSg τ) (mF τ)))), (0, .ref (ad 0)), (1, .int (nI (j9)))] → W p l e R s m args below meth c H locs 0 0 Q (F0 m 56 ls [])) :
    ∀ (n i : Nat) (H : Heap) (locs : List Loc) (ls : Array Slot), i ≤ mF τ → mF τ - i < n → PM E ad (smC τ (0)) H → va_S (aX 8 ad) H0 H locs → lv_has ls 5 [(3, .int (nI (i))), (2, .int (nI (blM (mSg τ) i))), (0, .ref (ad 0)), (1, .int (nI (j9)))] → W p l e R s m args below meth c H locs 0 0 Q (F0 m 23 ls []) := by
  have hA : ∀ k, k < 8 → aX 8 ad (ad k) := fun k hk => ⟨k, hk, rfl⟩
  intro n
  induction n with
  | zero => intro i H locs ls h1 h2; omega
  | succ n ih =>
    intro i H locs ls hi hn hP hS hl
    have hbi := blM_le (mSg τ) i
    refine lv_iload_n hx hb dX1_tell_23 rfl (lv_at hl 0 rfl) ?_
    refine lv_aload_n hx hb dX1_tell_24 rfl (lv_at hl 2 rfl) ?_
    refine gm hx hb hts innX1_tell hown hK hP 1 (by decide) (by decide +kernel) rfl (v := .int (nI ((mF τ)))) rfl dX1_tell_25 ?_
    refine zb_ge (tgt := 56) hx hb (show i < 2 ^ 31 by omega) (show (mF τ) < 2 ^ 31 by omega) dX1_tell_28 (by decide) (fun h => ?_) (fun h => ?_)
    · have h : (mF τ) ≤ i := h
      have hend : i = mF τ := by omega
      subst hend
      exact exit _ _ _ hP hS (lv_sub hl [1, 2, 3] rfl)
    · have h : i < (mF τ) := h
      have hsi := hsg i h
      refine lv_iload_n hx hb dX1_tell_31 rfl (lv_at hl 1 rfl) ?_
      refine zu_eq (tgt := 48) hx hb (show blM (mSg τ) i < 2 ^ 31 by omega) dX1_tell_32 (by decide) (fun h1 => ?_) (fun h1 => ?_)
      · have h1 : (blM (mSg τ) i) = 0 := h1
        have e8 : blM (mSg τ) (i + 1) = 0 := if_neg (fun q => by omega)
        refine lv_iconst (v := nI 0) hx hb dX1_tell_48 (by decide +kernel) ?_
        refine lv_istore_n (lv' := [(2, .int (nI (0))), (3, .int (nI (i))), (0, .ref (ad 0)), (1, .int (nI (j9)))]) hx hb dX1_tell_49 rfl hl (by decide) rfl (fun ls hl => ?_)
        refine lv_iinc (v := nI (i + 1)) (lv' := [(3, .int (nI (i + 1))), (2, .int (nI (0))), (0, .ref (ad 0)), (1, .int (nI (j9)))]) hx hb dX1_tell_50 hl (k := 1) rfl (nI_1 _) (by decide) rfl (fun ls hl => ?_)
        refine lv_goto (tgt := 23) hx hb dX1_tell_53 (by decide) ?_
        exact ih (i + 1) _ _ _ (by omega) (by omega) hP hS (by rw [e8]; exact lv_sub hl [0, 1, 2, 3] rfl)
      · have h1 : 0 < (blM (mSg τ) i) := h1
        refine lv_aload_n hx hb dX1_tell_35 rfl (lv_at hl 2 rfl) ?_
        refine gm hx hb hts innX1_tell hown hK hP 5 (by decide) (by decide +kernel) rfl (v := .ref (ad 3)) rfl dX1_tell_36 ?_
        refine lv_iload_n hx hb dX1_tell_39 rfl (lv_at hl 0 rfl) ?_
        refine z_iald hx hb hK hP 3 (by decide) cm_sg (show i < 16 by omega) (by decide) dX1_tell_40 ?_
        refine zu_ne (tgt := 48) hx hb (show (mSg τ) (i) < 2 ^ 31 by omega) dX1_tell_41 (by decide) (fun h2 => ?_) (fun h2 => ?_)
        · have h2 : 0 < ((mSg τ) (i)) := h2
          have e8 : blM (mSg τ) (i + 1) = 0 := if_neg (fun q => by omega)
          refine lv_iconst (v := nI 0) hx hb dX1_tell_48 (by decide +kernel) ?_
          refine lv_istore_n (lv' := [(2, .int (nI (0))), (3, .int (nI (i))), (0, .ref (ad 0)), (1, .int (nI (j9)))]) hx hb dX1_tell_49 rfl hl (by decide) rfl (fun ls hl => ?_)
          refine lv_iinc (v := nI (i + 1)) (lv' := [(3, .int (nI (i + 1))), (2, .int (nI (0))), (0, .ref (ad 0)), (1, .int (nI (j9)))]) hx hb dX1_tell_50 hl (k := 1) rfl (nI_1 _) (by decide) rfl (fun ls hl => ?_)
          refine lv_goto (tgt := 23) hx hb dX1_tell_53 (by decide) ?_
          exact ih (i + 1) _ _ _ (by omega) (by omega) hP hS (by rw [e8]; exact lv_sub hl [0, 1, 2, 3] rfl)
        · have h2 : ((mSg τ) (i)) = 0 := h2
          have e8 : blM (mSg τ) (i + 1) = 1 := if_pos ⟨h1, h2⟩
          refine lv_iconst (v := nI 1) hx hb dX1_tell_44 (by decide +kernel) ?_
          refine lv_goto (tgt := 49) hx hb dX1_tell_45 (by decide) ?_
          refine lv_istore_n (lv' := [(2, .int (nI (1))), (3, .int (nI (i))), (0, .ref (ad 0)), (1, .int (nI (j9)))]) hx hb dX1_tell_49 rfl hl (by decide) rfl (fun ls hl => ?_)
          refine lv_iinc (v := nI (i + 1)) (lv' := [(3, .int (nI (i + 1))), (2, .int (nI (1))), (0, .ref (ad 0)), (1, .int (nI (j9)))]) hx hb dX1_tell_50 hl (k := 1) rfl (nI_1 _) (by decide) rfl (fun ls hl => ?_)
          refine lv_goto (tgt := 23) hx hb dX1_tell_53 (by decide) ?_
          exact ih (i + 1) _ _ _ (by omega) (by omega) hP hS (by rw [e8]; exact lv_sub hl [0, 1, 2, 3] rfl)
set_option maxHeartbeats 4000000 in
set_option maxRecDepth 100000 in
theorem kX1_tell (l : Launch) (E : zE) (ad : Nat → Nat) (hap : apart 8 ad) (τ : SM) (x : Int32) (K : Nat) (hF : mF τ ≤ 16) (hmb : ∀ c, c < 16 → mHs τ c < 2 ^ 31) (hmd : mMd τ ≤ 1) (hsg : ∀ f, f < mF τ → mSg τ f < 2 ^ 31) (hex : 0 < mMd τ → ∃ c, c < 16 ∧ 0 < mHs τ c) (hK1 : 1023 ≤ K) (hK2 : K ≤ 1900) (hw : ∀ c, c < 16 → ∀ f, f < mF τ → mg K (mWt τ (16 * c + f)) ∧ mg 1057 (mMn τ (16 * c + f))) : Met l yX1_tell wsX1_tell ({ frames := 4, cells := 0, slots := 0, locals := 98 }) (va_Pc [.ref (ad 0), .int (x)] (fun U => PM E ad τ U.heap ∧ zK E U)) (va_Qi (fun (r : Int32) (τ' : SM) => tlQ τ x r ∧ τ' = smC τ 0) (fun τ' t => PM E ad τ' t.heap) (aX 8 ad)) 0 0 (aX 8 ad) := by
  refine Met.ofW (cc := cX1_tell) (maxL := 5) (ret := some .int) (by decide) rfl ?_
  intro p e s m args below meth c s₁ B hml hv
  obtain ⟨rfl, hP, hK⟩ := hv
  have hx := B.exec
  have hb := B.bytes
  have hr := B.returns
  have hts := atoms_spec (ws := wsX1_tell) B.pre
  have hown : s.vm.findClass RX1 = some m.cls := findClass_of_methodNamed B.named
  have hlocks := B.notSynchronized
  have hS : va_S (aX 8 ad) s.heap s.heap [] := va_S.rf
  have hA : ∀ k, k < 8 → aX 8 ad (ad k) := fun k hk => ⟨k, hk, rfl⟩
  have hRf : 4 ≤ ((headSpec wsX1_tell ({ frames := 4, cells := 0, slots := 0, locals := 98 })).room).frames := Nat.le_of_ble_eq_true rfl
  have hRl : 98 ≤ ((headSpec wsX1_tell ({ frames := 4, cells := 0, slots := 0, locals := 98 })).room).locals := Nat.le_of_ble_eq_true rfl
  have hl := lv_entry ([.ref (ad 0), .int (x)]) (n := 5) (Nat.le_of_ble_eq_true rfl)
  rw [lg_entry_eq]
  generalize (lg_sl ([.ref (ad 0), .int (x)]) ++ List.replicate (5 - (lg_sl ([.ref (ad 0), .int (x)])).length) Slot.unset).toArray = ls at hl ⊢
  have hl : lv_has ls 5 [(0, .ref (ad 0)), (1, .int (x))] := hl
  refine lv_aload_n hx hb dX1_tell_0 rfl (lv_at hl 0 rfl) ?_
  refine lv_iconst (v := nI 0) hx hb dX1_tell_1 (by decide +kernel) ?_
  refine gmput hx hb hts innX1_tell hown hK hP hap hA hS 0 (by decide) (by decide +kernel) rfl rfl (v := .int (nI (0))) rfl rfl (by show 0 < (List.length _); exact Nat.le_of_ble_eq_true rfl) dX1_tell_2 (fun H locs hP hS => ?_)
  have hP := pm_c hP
  refine lv_aload_n hx hb dX1_tell_5 rfl (lv_at hl 0 rfl) ?_
  refine lv_iload_n hx hb dX1_tell_6 rfl (lv_at hl 1 rfl) ?_
  refine va_calli (va_runV (As := [.int (x)]) (rest := []) ⟨hx, hb, hml, hown, hts⟩ (kX1_refusal l E ad hap (smC τ 0) x hmd) (cwV 1 hts gX1_tell_X1_refusal rfl rfl rfl (by decide +kernel) ⟨Nat.le_trans (Nat.le_of_ble_eq_true rfl) hRf, Nat.le_trans (Nat.le_of_ble_eq_true rfl) hRl⟩) (zpm hK hP) rfl rfl hl.1 rfl (lv_room (Nat.le_of_ble_eq_true rfl)) dX1_tell_7 ⟨Nat.zero_le _, Nat.zero_le _⟩) hS (fun q _ h => h.elim) (fun q h => h.elim) (fun r u9 t9 H locs ht9 hvm9 hw9 hB9 hz9 hk9 hS => ?_)
  have hP := wn_ro hP hk9
  rcases hw9 with ⟨hno, rfl⟩ | ⟨j, hj, rfl, ⟨h0, rfl⟩ | ⟨h0, rfl⟩⟩
  · refine lv_if_eq (tgt := 19) hx hb dX1_tell_10 (by decide) (fun h1 => ?_) (fun h1 => ?_)
    · exact absurd h1 (by decide)
    · refine lv_aload_n hx hb dX1_tell_13 rfl (lv_at hl 0 rfl) ?_
      refine lv_iload_n hx hb dX1_tell_14 rfl (lv_at hl 1 rfl) ?_
      refine va_calli (va_runV (As := [.int (x)]) (rest := []) ⟨hx, hb, hml, hown, hts⟩ (kX1_refusal l E ad hap (smC τ 0) x hmd) (cwV 1 hts gX1_tell_X1_refusal rfl rfl rfl (by decide +kernel) ⟨Nat.le_trans (Nat.le_of_ble_eq_true rfl) hRf, Nat.le_trans (Nat.le_of_ble_eq_true rfl) hRl⟩) (zpm hK hP) rfl rfl hl.1 rfl (lv_room (Nat.le_of_ble_eq_true rfl)) dX1_tell_15 ⟨Nat.zero_le _, Nat.zero_le _⟩) hS (fun q _ h => h.elim) (fun q h => h.elim) (fun r2 u9 t9 H locs ht9 hvm9 hw9 hB9 hz9 hk9 hS => ?_)
      have hP := wn_ro hP hk9
      obtain ⟨-, rfl⟩ := hw9.resolve_right (fun ⟨j, hj, e, _⟩ => hno j hj e)
      exact W.iret hx hb hr (fun t ht hW => ⟨⟨_, _, rfl, ⟨Or.inl ⟨hno, rfl⟩, rfl⟩, (wn_h ht hP)⟩, hS.F ht⟩) hS.2.2 dX1_tell_18
  · refine lv_if_eq (tgt := 19) hx hb dX1_tell_10 (by decide) (fun h1 => ?_) (fun h1 => ?_)
    · exact absurd h1 (by decide)
    · refine lv_aload_n hx hb dX1_tell_13 rfl (lv_at hl 0 rfl) ?_
      refine lv_iload_n hx hb dX1_tell_14 rfl (lv_at hl 1 rfl) ?_
      refine va_calli (va_runV (As := [.int (nI (j))]) (rest := []) ⟨hx, hb, hml, hown, hts⟩ (kX1_refusal l E ad hap (smC τ 0) (nI j) hmd) (cwV 1 hts gX1_tell_X1_refusal rfl rfl rfl (by decide +kernel) ⟨Nat.le_trans (Nat.le_of_ble_eq_true rfl) hRf, Nat.le_trans (Nat.le_of_ble_eq_true rfl) hRl⟩) (zpm hK hP) rfl rfl hl.1 rfl (lv_room (Nat.le_of_ble_eq_true rfl)) dX1_tell_15 ⟨Nat.zero_le _, Nat.zero_le _⟩) hS (fun q _ h => h.elim) (fun q h => h.elim) (fun r2 u9 t9 H locs ht9 hvm9 hw9 hB9 hz9 hk9 hS => ?_)
      have hP := wn_ro hP hk9
      obtain ⟨j2, -, -, hw8⟩ := hw9.resolve_left (fun q => q.1 j hj rfl)
      obtain ⟨-, rfl⟩ := hw8.resolve_right (fun q => by have := q.1; have h0 : mMd τ = 0 := h0; have this : 0 < mMd τ := this; omega)
      exact W.iret hx hb hr (fun t ht hW => ⟨⟨_, _, rfl, ⟨Or.inr ⟨j, hj, rfl, Or.inl ⟨h0, rfl⟩⟩, rfl⟩, (wn_h ht hP)⟩, hS.F ht⟩) hS.2.2 dX1_tell_18
  · have h0 : 0 < mMd τ := h0
    refine zu_eq (tgt := 19) hx hb (show 0 < 2 ^ 31 by omega) dX1_tell_10 (by decide) (fun h1 => ?_) (fun h1 => ?_)
    · have h1 : 0 = 0 := h1
      refine lv_iconst (v := nI 1) hx hb dX1_tell_19 (by decide +kernel) ?_
      refine lv_istore_n (lv' := [(2, .int (nI (1))), (0, .ref (ad 0)), (1, .int (nI (j)))]) hx hb dX1_tell_20 rfl hl (by decide) rfl (fun ls hl => ?_)
      refine lv_iconst (v := nI 0) hx hb dX1_tell_21 (by decide +kernel) ?_
      refine lv_istore_n (lv' := [(3, .int (nI (0))), (2, .int (nI (1))), (0, .ref (ad 0)), (1, .int (nI (j)))]) hx hb dX1_tell_22 rfl hl (by decide) rfl (fun ls hl => ?_)
      refine lp_X1_tell hx hb hml hts hown hK hap hRf hRl τ K hF hmb hmd hsg hex hK1 hK2 hw j (fun H locs ls hP hS hl => ?_) (mF τ + 1) 0 _ _ _ (by omega) (by omega) hP hS (lv_sub hl [0, 1, 2, 3] rfl)
      have hbF := blM_le (mSg τ) (mF τ)
      refine lv_iload_n hx hb dX1_tell_56 rfl (lv_at hl 0 rfl) ?_
      refine zu_eq (tgt := 63) hx hb (show blM (mSg τ) (mF τ) < 2 ^ 31 by omega) dX1_tell_57 (by decide) (fun h2 => ?_) (fun h2 => ?_)
      · have h2 : (blM (mSg τ) (mF τ)) = 0 := h2
        have hnb : ¬ ∀ f, f < mF τ → mSg τ f = 0 := fun q => by have := (blM_iff (mSg τ) (mF τ)).mpr q; omega
        refine lv_aload_n hx hb dX1_tell_63 rfl (lv_at hl 1 rfl) ?_
        refine lv_iconst (v := nI 0) hx hb dX1_tell_64 (by decide +kernel) ?_
        refine va_calli (va_runV (As := [.int (nI (0))]) (rest := []) ⟨hx, hb, hml, hown, hts⟩ (kX1_ranked l E ad hap (smC τ 0) (nI 0) K hF hmb hK1 hK2 hw) (cwV 1 hts gX1_tell_X1_ranked rfl rfl rfl (by decide +kernel) ⟨Nat.le_trans (Nat.le_of_ble_eq_true rfl) hRf, Nat.le_trans (Nat.le_of_ble_eq_true rfl) hRl⟩) (zpm hK hP) rfl rfl hl.1 rfl (lv_room (Nat.le_of_ble_eq_true rfl)) dX1_tell_65 ⟨Nat.zero_le _, Nat.zero_le _⟩) hS (fun q _ h => h.elim) (fun q h => h.elim) (fun r u9 t9 H locs ht9 hvm9 hw9 hB9 hz9 hk9 hS => ?_)
        have hP := wn_ro hP hk9
        have hw9 : r = n1M τ := hw9.trans (if_pos nI_0)
        subst hw9
        refine lv_istore_n (lv' := [(3, .int (n1M τ)), (2, .int (nI (blM (mSg τ) (mF τ)))), (0, .ref (ad 0)), (1, .int (nI (j)))]) hx hb dX1_tell_68 rfl hl (by decide) rfl (fun ls hl => ?_)
        refine lv_aload_n hx hb dX1_tell_69 rfl (lv_at hl 2 rfl) ?_
        refine lv_iconst (v := nI 1) hx hb dX1_tell_70 (by decide +kernel) ?_
        refine va_calli (va_runV (As := [.int (nI (1))]) (rest := []) ⟨hx, hb, hml, hown, hts⟩ (kX1_ranked l E ad hap (smC τ 0) (nI 1) K hF hmb hK1 hK2 hw) (cwV 1 hts gX1_tell_X1_ranked rfl rfl rfl (by decide +kernel) ⟨Nat.le_trans (Nat.le_of_ble_eq_true rfl) hRf, Nat.le_trans (Nat.le_of_ble_eq_true rfl) hRl⟩) (zpm hK hP) rfl rfl hl.1 rfl (lv_room (Nat.le_of_ble_eq_true rfl)) dX1_tell_71 ⟨Nat.zero_le _, Nat.zero_le _⟩) hS (fun q _ h => h.elim) (fun q h => h.elim) (fun r u9 t9 H locs ht9 hvm9 hw9 hB9 hz9 hk9 hS => ?_)
        have hP := wn_ro hP hk9
        have hw9 : r = n2M τ := hw9.trans (if_neg (by decide))
        subst hw9
        rcases nearM_cases τ (mSg τ) 0 (n1M τ) with e9 | ⟨j2, hj2, -, -, e9⟩
        · refine lv_istore (lv' := [(4, .int (n2M τ)), (3, .int (n1M τ)), (2, .int (nI (blM (mSg τ) (mF τ)))), (0, .ref (ad 0)), (1, .int (nI (j)))]) hx hb dX1_tell_74 hl (by decide) rfl (fun ls hl => ?_)
          refine lv_iload hx hb dX1_tell_76 (lv_at hl 0 rfl) ?_
          refine lv_if_lt (tgt := 115) hx hb dX1_tell_78 (by decide) (fun h3 => ?_) (fun h3 => ?_)
          · refine lv_iload_n hx hb dX1_tell_115 rfl (lv_at hl 4 rfl) ?_
            refine zu_ne (tgt := 123) hx hb (show j < 2 ^ 31 by omega) dX1_tell_116 (by decide) (fun h6 => ?_) (fun h6 => ?_)
            · have h6 : 0 < j := h6
              refine lv_iload hx hb dX1_tell_123 (lv_at hl 0 rfl) ?_
              exact W.iret hx hb hr (fun t ht hW => ⟨⟨_, _, rfl, ⟨Or.inr ⟨j, hj, rfl, Or.inr ⟨h0, Or.inr ⟨hnb, nI 0, Or.inr ⟨e9, rfl⟩, Or.inr ⟨nI_0, (if_neg (Nat.ne_of_gt h6)).symm⟩⟩⟩⟩, rfl⟩, (wn_h ht hP)⟩, hS.F ht⟩) hS.2.2 dX1_tell_125
            · have h6 : j = 0 := h6
              refine lv_iload_n hx hb dX1_tell_119 rfl (lv_at hl 1 rfl) ?_
              refine lv_goto (tgt := 125) hx hb dX1_tell_120 (by decide) ?_
              exact W.iret hx hb hr (fun t ht hW => ⟨⟨_, _, rfl, ⟨Or.inr ⟨j, hj, rfl, Or.inr ⟨h0, Or.inr ⟨hnb, nI 0, Or.inr ⟨e9, rfl⟩, Or.inr ⟨nI_0, (if_pos h6).symm⟩⟩⟩⟩, rfl⟩, (wn_h ht hP)⟩, hS.F ht⟩) hS.2.2 dX1_tell_125
          · exact absurd (show n2M τ < 0 by rw [show n2M τ = -1 from e9]; decide) h3
        · refine lv_istore (lv' := [(4, .int (n2M τ)), (3, .int (n1M τ)), (2, .int (nI (blM (mSg τ) (mF τ)))), (0, .ref (ad 0)), (1, .int (nI (j)))]) hx hb dX1_tell_74 hl (by decide) rfl (fun ls hl => ?_)
          refine lv_iload hx hb dX1_tell_76 (lv_at hl 0 rfl) ?_
          refine lv_if_lt (tgt := 115) hx hb dX1_tell_78 (by decide) (fun h3 => ?_) (fun h3 => ?_)
          · exact absurd (show nI j2 < 0 from e9 ▸ h3) (nI_pos (by omega))
          · obtain ⟨c8, hc8, hh8⟩ := hex h0
            obtain ⟨i1, hi1, e8⟩ := nearM_some τ (mSg τ) 0 c8 hc8 hh8
            have hl0 := hl
            rw [show n1M τ = nI i1 from e8, show n2M τ = nI j2 from e9] at hl
            have hl : lv_has ls 5 [(4, .int (nI (j2))), (3, .int (nI (i1))), (2, .int (nI (blM (mSg τ) (mF τ)))), (0, .ref (ad 0)), (1, .int (nI (j)))] := hl
            refine lv_aload_n hx hb dX1_tell_81 rfl (lv_at hl 3 rfl) ?_
            refine lv_aload_n hx hb dX1_tell_82 rfl (lv_at hl 3 rfl) ?_
            refine gm hx hb hts innX1_tell hown hK hP 5 (by decide) (by decide +kernel) rfl (v := .ref (ad 3)) rfl dX1_tell_83 ?_
            refine lv_iconst (v := nI 0) hx hb dX1_tell_86 (by decide +kernel) ?_
            refine lv_iload hx hb dX1_tell_87 (lv_at hl 0 rfl) ?_
            refine va_calld (va_runV (As := [.ref (ad 3), .int (nI (0)), .int (nI (j2))]) (rest := []) ⟨hx, hb, hml, hown, hts⟩ (kX1_distanceTo l E ad hap (smC τ 0) 3 16 0 j2 K (mSg τ) hF hj2 (by decide) (cm_sg (τ := smC τ 0)) (by decide) (show 0 + mF τ ≤ 16 by omega) hK1 hK2 (hw j2 hj2)) (cwV 3 hts gX1_tell_X1_distanceTo rfl rfl rfl (by decide +kernel) ⟨Nat.le_trans (Nat.le_of_ble_eq_true rfl) hRf, Nat.le_trans (Nat.le_of_ble_eq_true rfl) hRl⟩) (zpm hK hP) rfl rfl hl.1 rfl (lv_room (Nat.le_of_ble_eq_true rfl)) dX1_tell_89 ⟨Nat.zero_le _, Nat.zero_le _⟩) hS (fun q _ h => h.elim) (fun q h => h.elim) (fun r u9 t9 H locs ht9 hvm9 hw9 hB9 hz9 hk9 hS => ?_)
            have hP := wn_ro hP hk9
            subst hw9
            refine lv_aload_n hx hb dX1_tell_92 rfl (lv_at hl 3 rfl) ?_
            refine lv_aload_n hx hb dX1_tell_93 rfl (lv_at hl 3 rfl) ?_
            refine gm hx hb hts innX1_tell hown hK hP 5 (by decide) (by decide +kernel) rfl (v := .ref (ad 3)) rfl dX1_tell_94 ?_
            refine lv_iconst (v := nI 0) hx hb dX1_tell_97 (by decide +kernel) ?_
            refine lv_iload_n hx hb dX1_tell_98 rfl (lv_at hl 1 rfl) ?_
            refine va_calld (va_runV (As := [.ref (ad 3), .int (nI (0)), .int (nI (i1))]) (rest := [.double (ddM τ (mSg τ) 0 j2)]) ⟨hx, hb, hml, hown, hts⟩ (kX1_distanceTo l E ad hap (smC τ 0) 3 16 0 i1 K (mSg τ) hF hi1 (by decide) (cm_sg (τ := smC τ 0)) (by decide) (show 0 + mF τ ≤ 16 by omega) hK1 hK2 (hw i1 hi1)) (cwV 3 hts gX1_tell_X1_distanceTo rfl rfl rfl (by decide +kernel) ⟨Nat.le_trans (Nat.le_of_ble_eq_true rfl) hRf, Nat.le_trans (Nat.le_of_ble_eq_true rfl) hRl⟩) (zpm hK hP) rfl rfl hl.1 rfl (lv_room (Nat.le_of_ble_eq_true rfl)) dX1_tell_99 ⟨Nat.zero_le _, Nat.zero_le _⟩) hS (fun q _ h => h.elim) (fun q h => h.elim) (fun r u9 t9 H locs ht9 hvm9 hw9 hB9 hz9 hk9 hS => ?_)
            have hP := wn_ro hP hk9
            subst hw9
            refine lv_dsub hx hb dX1_tell_102 (mg_n64 (mg_dsub (L := K + 52) (mg_ds hK1 hK2 (n := mF τ) hF (hw j2 hj2)) (mg_ds hK1 hK2 (n := mF τ) hF (hw i1 hi1)) (by omega) (by omega) (by omega)) (by omega)) ?_
            refine lv_aload_n hx hb dX1_tell_103 rfl (lv_at hl 3 rfl) ?_
            refine gm hx hb hts innX1_tell hown hK hP 11 (by decide) (by decide +kernel) rfl (v := .int (nI ((mMg τ)))) rfl dX1_tell_104 ?_
            refine lv_i2d hx hb dX1_tell_107 ?_
            refine lv_dcmp hx hb dX1_tell_108 ?_
            refine lv_if_ge (tgt := 115) hx hb dX1_tell_109 (by decide) (fun h5 => ?_) (fun h5 => ?_)
            · have hl := hl0
              refine lv_iload_n hx hb dX1_tell_115 rfl (lv_at hl 4 rfl) ?_
              refine zu_ne (tgt := 123) hx hb (show j < 2 ^ 31 by omega) dX1_tell_116 (by decide) (fun h6 => ?_) (fun h6 => ?_)
              · have h6 : 0 < j := h6
                refine lv_iload hx hb dX1_tell_123 (lv_at hl 0 rfl) ?_
                exact W.iret hx hb hr (fun t ht hW => ⟨⟨_, _, rfl, ⟨Or.inr ⟨j, hj, rfl, Or.inr ⟨h0, Or.inr ⟨hnb, ldF (ddM τ (mSg τ) 0 i1) (ddM τ (mSg τ) 0 j2) (mMg τ), Or.inl ⟨i1, j2, hi1, hj2, e8, e9, rfl⟩, Or.inr ⟨(if_pos h5).trans nI_0, (if_neg (Nat.ne_of_gt h6)).symm⟩⟩⟩⟩, rfl⟩, (wn_h ht hP)⟩, hS.F ht⟩) hS.2.2 dX1_tell_125
              · have h6 : j = 0 := h6
                refine lv_iload_n hx hb dX1_tell_119 rfl (lv_at hl 1 rfl) ?_
                refine lv_goto (tgt := 125) hx hb dX1_tell_120 (by decide) ?_
                exact W.iret hx hb hr (fun t ht hW => ⟨⟨_, _, rfl, ⟨Or.inr ⟨j, hj, rfl, Or.inr ⟨h0, Or.inr ⟨hnb, ldF (ddM τ (mSg τ) 0 i1) (ddM τ (mSg τ) 0 j2) (mMg τ), Or.inl ⟨i1, j2, hi1, hj2, e8, e9, rfl⟩, Or.inr ⟨(if_pos h5).trans nI_0, (if_pos h6).symm⟩⟩⟩⟩, rfl⟩, (wn_h ht hP)⟩, hS.F ht⟩) hS.2.2 dX1_tell_125
            · refine lv_bipush (v := -2) hx hb dX1_tell_112 (by decide +kernel) ?_
              exact W.iret hx hb hr (fun t ht hW => ⟨⟨_, _, rfl, ⟨Or.inr ⟨j, hj, rfl, Or.inr ⟨h0, Or.inr ⟨hnb, ldF (ddM τ (mSg τ) 0 i1) (ddM τ (mSg τ) 0 j2) (mMg τ), Or.inl ⟨i1, j2, hi1, hj2, e8, e9, rfl⟩, Or.inl ⟨fun q => absurd ((show ldF (ddM τ (mSg τ) 0 i1) (ddM τ (mSg τ) 0 j2) (mMg τ) = nI 1 from if_neg h5).symm.trans q) (by decide), rfl⟩⟩⟩⟩, rfl⟩, (wn_h ht hP)⟩, hS.F ht⟩) hS.2.2 dX1_tell_114
      · have h2 : 0 < (blM (mSg τ) (mF τ)) := h2
        refine lv_bipush (v := -3) hx hb dX1_tell_60 (by decide +kernel) ?_
        exact W.iret hx hb hr (fun t ht hW => ⟨⟨_, _, rfl, ⟨Or.inr ⟨j, hj, rfl, Or.inr ⟨h0, Or.inl ⟨(blM_iff _ _).mp h2, rfl⟩⟩⟩, rfl⟩, (wn_h ht hP)⟩, hS.F ht⟩) hS.2.2 dX1_tell_62
    · have h1 : 0 < 0 := h1
      exact absurd h1 (by decide)
def rkM (τ : SM) (j : Nat) : Int32 := if j = 1 then n2M τ else n1M τ
def dsQ (τ : SM) (x : Int32) (r : Int64) : Prop := ((∀ j : Nat, j < 2 → x ≠ nI j) ∧ r = -12) ∨ (∃ j : Nat, j < 2 ∧ x = nI j ∧ ((mMd τ = 0 ∧ r = -13) ∨ (0 < mMd τ ∧ ((rkM τ j = -1 ∧ r = -1) ∨ (∃ c : Nat, c < 16 ∧ rkM τ j = nI c ∧ r = d1000 (ddM τ (mSg τ) 0 c))))))
theorem rkM_cases (τ : SM) (j : Nat) : rkM τ j = -1 ∨ ∃ c : Nat, c < 16 ∧ rkM τ j = nI c := by
  unfold rkM
  split
  · rcases nearM_cases τ (mSg τ) 0 (n1M τ) with e | ⟨c, hc, -, -, e⟩
    · exact Or.inl e
    · exact Or.inr ⟨c, hc, e⟩
  · rcases nearM_cases τ (mSg τ) 0 (-1) with e | ⟨c, hc, -, -, e⟩
    · exact Or.inl e
    · exact Or.inr ⟨c, hc, e⟩
set_option maxHeartbeats 4000000 in
set_option maxRecDepth 100000 in
theorem kX1_distance (l : Launch) (E : zE) (ad : Nat → Nat) (hap : apart 8 ad) (τ : SM) (x : Int32) (K : Nat) (hF : mF τ ≤ 16) (hmb : ∀ c, c < 16 → mHs τ c < 2 ^ 31) (hmd : mMd τ ≤ 1) (hsg : ∀ f, f < mF τ → mSg τ f < 2 ^ 31) (hex : 0 < mMd τ → ∃ c, c < 16 ∧ 0 < mHs τ c) (hK1 : 1023 ≤ K) (hK2 : K ≤ 1900) (hw : ∀ c, c < 16 → ∀ f, f < mF τ → mg K (mWt τ (16 * c + f)) ∧ mg 1057 (mMn τ (16 * c + f))) : Met l yX1_distance wsX1_distance ({ frames := 4, cells := 0, slots := 0, locals := 98 }) (va_Pc [.ref (ad 0), .int (x)] (fun U => PM E ad τ U.heap ∧ zK E U)) (va_Ql (fun (r : Int64) (τ' : SM) => dsQ τ x r ∧ τ' = smC τ 0) (fun τ' t => PM E ad τ' t.heap) (aX 8 ad)) 0 0 (aX 8 ad) := by
  refine Met.ofW (cc := cX1_distance) (maxL := 3) (ret := some .long) (by decide) rfl ?_
  intro p e s m args below meth c s₁ B hml hv
  obtain ⟨rfl, hP, hK⟩ := hv
  have hx := B.exec
  have hb := B.bytes
  have hr := B.returns
  have hts := atoms_spec (ws := wsX1_distance) B.pre
  have hown : s.vm.findClass RX1 = some m.cls := findClass_of_methodNamed B.named
  have hlocks := B.notSynchronized
  have hS : va_S (aX 8 ad) s.heap s.heap [] := va_S.rf
  have hA : ∀ k, k < 8 → aX 8 ad (ad k) := fun k hk => ⟨k, hk, rfl⟩
  have hRf : 4 ≤ ((headSpec wsX1_distance ({ frames := 4, cells := 0, slots := 0, locals := 98 })).room).frames := Nat.le_of_ble_eq_true rfl
  have hRl : 98 ≤ ((headSpec wsX1_distance ({ frames := 4, cells := 0, slots := 0, locals := 98 })).room).locals := Nat.le_of_ble_eq_true rfl
  have hl := lv_entry ([.ref (ad 0), .int (x)]) (n := 3) (Nat.le_of_ble_eq_true rfl)
  rw [lg_entry_eq]
  generalize (lg_sl ([.ref (ad 0), .int (x)]) ++ List.replicate (3 - (lg_sl ([.ref (ad 0), .int (x)])).length) Slot.unset).toArray = ls at hl ⊢
  have hl : lv_has ls 3 [(0, .ref (ad 0)), (1, .int (x))] := hl
  refine lv_aload_n hx hb dX1_distance_0 rfl (lv_at hl 0 rfl) ?_
  refine lv_iconst (v := nI 0) hx hb dX1_distance_1 (by decide +kernel) ?_
  refine gmput hx hb hts innX1_distance hown hK hP hap hA hS 0 (by decide) (by decide +kernel) rfl rfl (v := .int (nI (0))) rfl rfl (by show 0 < (List.length _); exact Nat.le_of_ble_eq_true rfl) dX1_distance_2 (fun H locs hP hS => ?_)
  have hP := pm_c hP
  refine lv_aload_n hx hb dX1_distance_5 rfl (lv_at hl 0 rfl) ?_
  refine lv_iload_n hx hb dX1_distance_6 rfl (lv_at hl 1 rfl) ?_
  refine va_calli (va_runV (As := [.int (x)]) (rest := []) ⟨hx, hb, hml, hown, hts⟩ (kX1_refusal l E ad hap (smC τ 0) x hmd) (cwV 1 hts gX1_distance_X1_refusal rfl rfl rfl (by decide +kernel) ⟨Nat.le_trans (Nat.le_of_ble_eq_true rfl) hRf, Nat.le_trans (Nat.le_of_ble_eq_true rfl) hRl⟩) (zpm hK hP) rfl rfl hl.1 rfl (lv_room (Nat.le_of_ble_eq_true rfl)) dX1_distance_7 ⟨Nat.zero_le _, Nat.zero_le _⟩) hS (fun q _ h => h.elim) (fun q h => h.elim) (fun r u9 t9 H locs ht9 hvm9 hw9 hB9 hz9 hk9 hS => ?_)
  have hP := wn_ro hP hk9
  rcases hw9 with ⟨hno, rfl⟩ | ⟨j, hj, rfl, ⟨h0, rfl⟩ | ⟨h0, rfl⟩⟩
  · refine lv_if_eq (tgt := 20) hx hb dX1_distance_10 (by decide) (fun h1 => ?_) (fun h1 => ?_)
    · exact absurd h1 (by decide)
    · refine lv_aload_n hx hb dX1_distance_13 rfl (lv_at hl 0 rfl) ?_
      refine lv_iload_n hx hb dX1_distance_14 rfl (lv_at hl 1 rfl) ?_
      refine va_calli (va_runV (As := [.int (x)]) (rest := []) ⟨hx, hb, hml, hown, hts⟩ (kX1_refusal l E ad hap (smC τ 0) x hmd) (cwV 1 hts gX1_distance_X1_refusal rfl rfl rfl (by decide +kernel) ⟨Nat.le_trans (Nat.le_of_ble_eq_true rfl) hRf, Nat.le_trans (Nat.le_of_ble_eq_true rfl) hRl⟩) (zpm hK hP) rfl rfl hl.1 rfl (lv_room (Nat.le_of_ble_eq_true rfl)) dX1_distance_15 ⟨Nat.zero_le _, Nat.zero_le _⟩) hS (fun q _ h => h.elim) (fun q h => h.elim) (fun r2 u9 t9 H locs ht9 hvm9 hw9 hB9 hz9 hk9 hS => ?_)
      have hP := wn_ro hP hk9
      obtain ⟨-, rfl⟩ := hw9.resolve_right (fun ⟨j, hj, e, _⟩ => hno j hj e)
      refine lv_i2l (v := -12) hx hb dX1_distance_18 (by decide) ?_
      exact W.lret hx hb hr (fun t ht hW => ⟨⟨_, _, rfl, ⟨Or.inl ⟨hno, rfl⟩, rfl⟩, (wn_h ht hP)⟩, hS.F ht⟩) hS.2.2 dX1_distance_19
  · refine lv_if_eq (tgt := 20) hx hb dX1_distance_10 (by decide) (fun h1 => ?_) (fun h1 => ?_)
    · exact absurd h1 (by decide)
    · refine lv_aload_n hx hb dX1_distance_13 rfl (lv_at hl 0 rfl) ?_
      refine lv_iload_n hx hb dX1_distance_14 rfl (lv_at hl 1 rfl) ?_
      refine va_calli (va_runV (As := [.int (nI (j))]) (rest := []) ⟨hx, hb, hml, hown, hts⟩ (kX1_refusal l E ad hap (smC τ 0) (nI j) hmd) (cwV 1 hts gX1_distance_X1_refusal rfl rfl rfl (by decide +kernel) ⟨Nat.le_trans (Nat.le_of_ble_eq_true rfl) hRf, Nat.le_trans (Nat.le_of_ble_eq_true rfl) hRl⟩) (zpm hK hP) rfl rfl hl.1 rfl (lv_room (Nat.le_of_ble_eq_true rfl)) dX1_distance_15 ⟨Nat.zero_le _, Nat.zero_le _⟩) hS (fun q _ h => h.elim) (fun q h => h.elim) (fun r2 u9 t9 H locs ht9 hvm9 hw9 hB9 hz9 hk9 hS => ?_)
      have hP := wn_ro hP hk9
      obtain ⟨j2, -, -, hw8⟩ := hw9.resolve_left (fun q => q.1 j hj rfl)
      obtain ⟨-, rfl⟩ := hw8.resolve_right (fun q => by have := q.1; have h0 : mMd τ = 0 := h0; have this : 0 < mMd τ := this; omega)
      refine lv_i2l (v := -13) hx hb dX1_distance_18 (by decide) ?_
      exact W.lret hx hb hr (fun t ht hW => ⟨⟨_, _, rfl, ⟨Or.inr ⟨j, hj, rfl, Or.inl ⟨h0, rfl⟩⟩, rfl⟩, (wn_h ht hP)⟩, hS.F ht⟩) hS.2.2 dX1_distance_19
  · have h0 : 0 < mMd τ := h0
    refine zu_eq (tgt := 20) hx hb (show 0 < 2 ^ 31 by omega) dX1_distance_10 (by decide) (fun h1 => ?_) (fun h1 => ?_)
    · have h1 : 0 = 0 := h1
      refine lv_aload_n hx hb dX1_distance_20 rfl (lv_at hl 0 rfl) ?_
      refine lv_iload_n hx hb dX1_distance_21 rfl (lv_at hl 1 rfl) ?_
      refine va_calli (va_runV (As := [.int (nI (j))]) (rest := []) ⟨hx, hb, hml, hown, hts⟩ (kX1_ranked l E ad hap (smC τ 0) (nI j) K hF hmb hK1 hK2 hw) (cwV 1 hts gX1_distance_X1_ranked rfl rfl rfl (by decide +kernel) ⟨Nat.le_trans (Nat.le_of_ble_eq_true rfl) hRf, Nat.le_trans (Nat.le_of_ble_eq_true rfl) hRl⟩) (zpm hK hP) rfl rfl hl.1 rfl (lv_room (Nat.le_of_ble_eq_true rfl)) dX1_distance_22 ⟨Nat.zero_le _, Nat.zero_le _⟩) hS (fun q _ h => h.elim) (fun q h => h.elim) (fun r u9 t9 H locs ht9 hvm9 hw9 hB9 hz9 hk9 hS => ?_)
      have hP := wn_ro hP hk9
      have hw9 : r = rkM τ j := by
        refine hw9.trans ?_
        rcases (show j = 0 ∨ j = 1 by omega) with rfl | rfl
        · exact (if_pos nI_0).trans (if_neg (by decide)).symm
        · exact (if_neg (by decide)).trans (if_pos rfl).symm
      subst hw9
      refine lv_istore_n (lv' := [(2, .int (rkM τ j)), (0, .ref (ad 0)), (1, .int (nI (j)))]) hx hb dX1_distance_25 rfl hl (by decide) rfl (fun ls hl => ?_)
      refine lv_iload_n hx hb dX1_distance_26 rfl (lv_at hl 0 rfl) ?_
      rcases rkM_cases τ j with e9 | ⟨c9, hc, e9⟩
      · refine lv_if_ge (tgt := 36) hx hb dX1_distance_27 (by decide) (fun h3 => ?_) (fun h3 => ?_)
        · rw [e9] at h3; exact absurd h3 (by decide)
        · refine lv_ldc2 hx hb hown (hts (.constantLong RX1 83 (-1)) (by decide +kernel)) dX1_distance_30 ?_
          refine lv_goto (tgt := 51) hx hb dX1_distance_33 (by decide) ?_
          exact W.lret hx hb hr (fun t ht hW => ⟨⟨_, _, rfl, ⟨Or.inr ⟨j, hj, rfl, Or.inr ⟨h0, Or.inl ⟨e9, rfl⟩⟩⟩, rfl⟩, (wn_h ht hP)⟩, hS.F ht⟩) hS.2.2 dX1_distance_51
      · refine lv_if_ge (tgt := 36) hx hb dX1_distance_27 (by decide) (fun h3 => ?_) (fun h3 => ?_)
        · rw [e9] at hl
          have hl : lv_has ls 3 [(2, .int (nI (c9))), (0, .ref (ad 0)), (1, .int (nI (j)))] := hl
          refine lv_aload_n hx hb dX1_distance_36 rfl (lv_at hl 1 rfl) ?_
          refine lv_aload_n hx hb dX1_distance_37 rfl (lv_at hl 1 rfl) ?_
          refine gm hx hb hts innX1_distance hown hK hP 5 (by decide) (by decide +kernel) rfl (v := .ref (ad 3)) rfl dX1_distance_38 ?_
          refine lv_iconst (v := nI 0) hx hb dX1_distance_41 (by decide +kernel) ?_
          refine lv_iload_n hx hb dX1_distance_42 rfl (lv_at hl 0 rfl) ?_
          refine va_calld (va_runV (As := [.ref (ad 3), .int (nI (0)), .int (nI (c9))]) (rest := []) ⟨hx, hb, hml, hown, hts⟩ (kX1_distanceTo l E ad hap (smC τ 0) 3 16 0 c9 K (mSg τ) hF hc (by decide) (cm_sg (τ := smC τ 0)) (by decide) (show 0 + mF τ ≤ 16 by omega) hK1 hK2 (hw c9 hc)) (cwV 3 hts gX1_distance_X1_distanceTo rfl rfl rfl (by decide +kernel) ⟨Nat.le_trans (Nat.le_of_ble_eq_true rfl) hRf, Nat.le_trans (Nat.le_of_ble_eq_true rfl) hRl⟩) (zpm hK hP) rfl rfl hl.1 rfl (lv_room (Nat.le_of_ble_eq_true rfl)) dX1_distance_43 ⟨Nat.zero_le _, Nat.zero_le _⟩) hS (fun q _ h => h.elim) (fun q h => h.elim) (fun r u9 t9 H locs ht9 hvm9 hw9 hB9 hz9 hk9 hS => ?_)
          have hP := wn_ro hP hk9
          subst hw9
          refine lv_ldc2d hx hb hown (hts (.constantDouble RX1 85 k1000) (by decide +kernel)) dX1_distance_46 ?_
          refine lv_dmul hx hb dX1_distance_49 (mg_n64 (mg_dmul (K := K + 61) (mg_ds hK1 hK2 (n := mF τ) hF (hw c9 hc)) mg_1000 (by omega) (by decide) (by omega) (by decide) (by omega) (by omega)) (by omega)) ?_
          refine lv_d2l hx hb dX1_distance_50 ?_
          exact W.lret hx hb hr (fun t ht hW => ⟨⟨_, _, rfl, ⟨Or.inr ⟨j, hj, rfl, Or.inr ⟨h0, Or.inr ⟨c9, hc, e9, rfl⟩⟩⟩, rfl⟩, (wn_h ht hP)⟩, hS.F ht⟩) hS.2.2 dX1_distance_51
        · exact absurd (e9 ▸ nI_pos' (by omega)) h3
    · have h1 : 0 < 0 := h1
      exact absurd h1 (by decide)
end
section
/-! ===== new cells into an indexed world; the constructors ===== -/
theorem wn_put {D : va_G} {cl : List vw_C} {n N : Nat} {ad : Nat → Nat} {d : Nat → va_E} {H H1 : Heap} (hP : va_P D cl (wn n ad d) H) (ho : ∀ q : Nat, q < H.size → H1[q]? = H[q]?) (hn : ∀ i, n ≤ i → i < N → va_at D cl (ad i, d i) H1) : va_P D cl (wn N ad d) H1 := by
  intro k q hk
  obtain ⟨h1, rfl⟩ := wn_of hk
  by_cases h2 : k < n
  · have h0 : va_P D cl (wn n ad d) H1 := hP.kept fun k x hx => ho x.1 ((hP k x hx).lt)
    exact h0 k _ (wn_at h2)
  · exact hn k (by omega) h1
/-- the object at place 0 holds fs, the other places d -/
def co (d : Nat → va_E) (ci : Nat) (fs : List Value) (k : Nat) : va_E := if k = 0 then .inr (ci, fs) else d k
theorem co_s {d : Nat → va_E} {ci : Nat} {fs : List Value} {k : Nat} (h : 0 < k) : co d ci fs k = d k := if_neg (by omega)
section ZNEW
variable {p : Program} {l : Launch} {e : Env} {R : Room} {s : State} {m : MethodId} {args : Array Value} {below : List Frame} {meth : Method} {c : Code} {H : Heap} {locs : List Loc} {cells slots : Nat} {Q : State → Prop}
variable {cc : ByteArray} {pc : Nat} {ls : Array Slot} {rest : List Value} {D : va_G} {cl : List vw_C} {A : Nat → Prop} {H0 : Heap} {n : Nat} {ad : Nat → Nat} {d : Nat → va_E}
theorem zn_newa (hx : p.tables.exec = Jvm.exec) (hb : c.code = cc) {atype : ArrayType} (harr : (Cond.arrayClass (newarray.typeOf atype)).before args s = true) {cA : ClassId} (hcA : s.vm.findClass ("[" ++ (newarray.typeOf atype).toString) = some cA) (hP : va_P D cl (wn n ad d) H) (hS : va_S A H0 H locs) (hsz : H.size = ad n)
    {v : Int32} {N' : Nat} {a0 : vp_A} (hd : d n = .inl (cA, a0)) (ha : vp_cell cA a0 = arrV cA N' (fun _ => defaultValue (newarray.typeOf atype))) (hn : ¬ v < 0) (hN : v.toNatClampNeg = N') (hbytes : N' * componentBytes (newarray.typeOf atype) ≤ 536870912) (hcells : cells + 1 ≤ R.cells) (hslots : slots + N' ≤ R.slots) (hdg : decode cc pc = .ok (.newarray atype, 2))
    (kk : ∀ (H1 : Heap), va_P D cl (wn (n + 1) ad d) H1 → va_S A H0 H1 locs → H1.size = H.size + 1 →
      W p l e R s m args below meth c H1 locs (cells + 1) (slots + N') Q (F0 m (pc + 2) ls (.ref (ad n) :: rest))) : W p l e R s m args below meth c H locs cells slots Q (F0 m pc ls (.int v :: rest)) := by
  refine va_newaK hx hb harr rfl hdg rfl hn hN hbytes hcells hslots hsz fun H1 cB e1 z1 o1 _ hNm => ?_
  have ec : cB = cA := Option.some.inj (hNm.symm.trans hcA)
  subst ec
  refine kk H1 (wn_put hP (fun q hq => o1 q (by omega)) fun i h1 h2 => ?_) ⟨by have := hS.1; omega, fun x h1 h2 => (o1 x (by have := hS.1; omega)).trans (hS.2.1 x h1 h2), hS.2.2⟩ (by omega)
  have hi : i = n := by omega
  subst hi
  rw [hd]
  show H1[ad i]? = some (vp_cell cB a0)
  rw [ha]
  exact e1
theorem zn_mna (hx : p.tables.exec = Jvm.exec) (hb : c.code = cc) {own : String} {index : Nat} {ty : FieldType} (hown : s.vm.findClass own = some m.cls) (hclink : (Cond.classLink own index ("[" ++ (FieldType.array ty).toString)).before args s = true) (hover : (Cond.arrayOver (.array ty)).before args s = true) (harr : (Cond.arrayClass ty).before args s = true)
    {cA cy : ClassId} (hcA : s.vm.findClass ("[" ++ (FieldType.array ty).toString) = some cA) (hcy : s.vm.findClass (FieldType.array ty).toString = some cy) (hP : va_P D cl (wn n ad d) H) (hS : va_S A H0 H locs) (hsz : H.size = ad n)
    {v k : Int32} {N' K' : Nat} {z : Nat → vp_A} (hv : ¬ v < 0) (hk : ¬ k < 0) (hN : v.toNatClampNeg = N') (hM : k.toNatClampNeg = K') (had : ∀ i, i < N' → ad (n + 1 + i) = ad n + 1 + i)
    (hd : d n = .inl (cA, N', .inr (.inr (.inr (.inr (fun i => if i < N' then some (ad (n + 1 + i)) else none)))))) (hdr : ∀ i, i < N' → d (n + 1 + i) = .inl (cy, z i)) (hz : ∀ i, i < N' → vp_cell cy (z i) = arrV cy K' (fun _ => defaultValue ty))
    (hb1 : N' * 4 ≤ 536870912) (hb2 : K' * componentBytes ty ≤ 536870912) (hb3 : K' ≤ 536870912) (hdf : fits ty (defaultValue ty) = true) (hdd : (defaultValue ty).isDefault = true) (hcells : cells + (1 + N') ≤ R.cells) (hslots : slots + (N' + N' * K') ≤ R.slots) (hdg : decode cc pc = .ok (.multianewarray index 2, 4))
    (kk : ∀ (H1 : Heap), va_P D cl (wn (n + 1 + N') ad d) H1 → va_S A H0 H1 locs → H1.size = H.size + 1 + N' →
      W p l e R s m args below meth c H1 locs (cells + 1 + N') (slots + N' + N' * K') Q (F0 m (pc + 4) ls (.ref (ad n) :: rest))) : W p l e R s m args below meth c H locs cells slots Q (F0 m pc ls (.int k :: .int v :: rest)) := by
  subst hN
  subst hM
  intro T hT Xs
  obtain ⟨vm₁, cB, comp, -, fA, fC, -, -, X', step⟩ := Xs.multianewarray2F hx hown hclink hover harr (g := F0 m pc ls (.int k :: .int v :: rest)) rfl (by rw [hb]; exact hdg) rfl hv hk hb1 hb2 hb3 hdf hdd hcells hslots
  have ec : comp = cy := Option.some.inj (fC.symm.trans hcy)
  have eA : cB = cA := Option.some.inj (fA.symm.trans hcA)
  subst ec
  subst eA
  generalize hF : Jvm.Free.Multi.fill (T.setVm vm₁) cB comp v.toNatClampNeg k.toNatClampNeg (defaultValue ty) v.toNatClampNeg = F at X' step
  have hTh : (T.setVm vm₁).heap = H := hT
  obtain ⟨f1, f2, -, -⟩ := Jvm.Free.Multi.fill_facts (T.setVm vm₁) cB comp v.toNatClampNeg k.toNatClampNeg (defaultValue ty) v.toNatClampNeg
  rw [hF, hTh] at f1 f2
  have hold : ∀ x : Nat, x < H.size → F.heap[x]? = H[x]? := fun x hx => by
    have := Jvm.Free.Multi.fill_old (T.setVm vm₁) cB comp v.toNatClampNeg k.toNatClampNeg (defaultValue ty) (a := x) (by rw [hTh]; exact hx) v.toNatClampNeg
    rw [hF, hTh] at this
    exact this
  have hrow : ∀ j : Nat, j < v.toNatClampNeg → F.heap[H.size + 1 + j]? = some (Jvm.Free.Multi.innerC comp k.toNatClampNeg (defaultValue ty)) := fun j hj => by
    have := Jvm.Free.Multi.fill_inner (T.setVm vm₁) cB comp v.toNatClampNeg k.toNatClampNeg (defaultValue ty) v.toNatClampNeg j hj
    rw [hF, hTh] at this
    exact this
  rw [vr_outer cB v.toNatClampNeg H.size v.toNatClampNeg] at f2
  have hP1 : va_P D cl (wn (n + 1 + v.toNatClampNeg) ad d) F.heap := wn_put hP hold fun i h1 h2 => by
    by_cases hi : i = n
    · subst hi
      rw [hd]
      show F.heap[ad i]? = some (vp_cell _ _)
      rw [vp_cell_q, ← hsz, f2]
      refine congrArg some (arrV_congr fun j hj => ?_)
      rw [if_pos hj, if_pos hj, had j hj, ← hsz]
    · obtain ⟨j, rfl⟩ : ∃ j, i = n + 1 + j := ⟨i - (n + 1), by omega⟩
      have hj : j < v.toNatClampNeg := by omega
      rw [hdr j hj]
      show F.heap[ad (n + 1 + j)]? = some (vp_cell _ _)
      rw [had j hj, ← hsz, hrow j hj, hz j hj, ← arrV_new]
      rfl
  obtain ⟨t, a1, b1⟩ := kk F.heap hP1 ⟨by rw [f1]; have := hS.1; omega, fun x h1 h2 => (hold x (Nat.lt_of_lt_of_le h1 hS.1)).trans (hS.2.1 x h1 h2), hS.2.2⟩ f1 F rfl X'
  refine ⟨t, step t ?_, b1⟩
  have e9 : T.heap.size = ad n := by rw [hT]; exact hsz
  rw [e9]
  exact a1
theorem zn_putF (hx : p.tables.exec = Jvm.exec) (hb : c.code = cc) {own C : String} {T : u_T} {N ci index : Nat} {Ts : List Cond} {tys : List (ClassId × FieldType)} (hts : ∀ w ∈ Ts, w.before args s = true) (hin : ∀ w ∈ u_ws C T N, w ∈ Ts) (ty0 : Nat → FieldType) (hty : ∀ k, k < N → parseFieldDescriptor (T k).2.2.1 = some (ty0 k)) (hnm : ∀ a, a < N → ∀ b, b < N → a ≠ b → (T a).2.1 ≠ (T b).2.1) (hown : s.vm.findClass own = some m.cls) (hK : va_K D cl tys s)
    {fs : List Value} (hP : va_P D cl (wn n ad (co d ci fs)) H) (hap : apart n ad) (hA : ∀ k, k < n → A (ad k)) (hS : va_S A H0 H locs) (h0 : 0 < n) (hc : cl[ci]? = some (C, T, N)) (k : Nat) (hk : k < N) (hlink : (Cond.fieldLink own index (T k).1 (T k).2.1 (T k).2.2.1).before args s = true) (hfin : (T k).2.2.2 = true) (hin2 : meth.name = "<init>") (hdecl : (T k).1 = own) {v : Value} (hn : narrow (ty0 k) v = v) (hfit : fits (ty0 k) v = true) (hl : k < fs.length) (hdg : decode cc pc = .ok (.putfield index, 3))
    (kk : ∀ (H1 : Heap) (locs1 : List Loc), va_P D cl (wn n ad (co d ci (fs.set k v))) H1 → va_S A H0 H1 locs1 → H1.size = H.size → W p l e R s m args below meth c H1 locs1 cells slots Q (F0 m (pc + 3) ls rest)) : W p l e R s m args below meth c H locs cells slots Q (F0 m pc ls (v :: .ref (ad 0) :: rest)) := by
  have hD : va_D A (wn n ad (co d ci fs)) := wn_D hap hA
  have h00 : (wn n ad (co d ci fs))[0]? = some (ad 0, .inr (ci, fs)) := wn_at h0
  have hkn := va_apart (own := own) hts hin ty0 hty hnm hK hc
  obtain ⟨r, h1, cell, q1, q2, q3, q4⟩ := hP 0 _ h00
  obtain rfl : r = (C, T, N) := Option.some.inj (h1.symm.trans hc)
  obtain ⟨hSl, hfc, kC, hkC, hkind⟩ := hK.1 ci _ hc
  obtain ⟨cf, kf, fi, f, hi, hsl⟩ := hSl k hk
  have hlay := hts _ (hin _ (u_in_lay hk))
  unfold u_lay at hlay
  rw [if_pos hfin] at hlay
  have hst := (u_facts hfc hkC (u_lays hts hin hk) hi).1
  have hcf : m.cls = cf := by
    obtain ⟨_, _, c', _, _, _, -, -, hf', -, -, -, hown2, -⟩ := Cond.laysFinal_spec hlay
    have e1 : c' = cf := by have := hi.symm.trans hf'; simp at this; exact this.1.symm
    rw [hdecl] at hown2
    rw [← e1]
    exact Option.some.inj (hown.symm.trans hown2)
  have h6 := u_fits hfc hkC hkind (Or.inr hlay) hi (hty k hk) hn hfit
  refine W.putFinK hx hb hown hlink hi hst hcf hin2 (by rw [q2]; exact h6) q1 q3 (by rw [hsl]; exact k2_hasslot (q4 k hk)) rfl rfl hdg fun H1 e1 e2 e3 => ?_
  rw [hsl] at e1 ⊢
  have hP1 : va_P D cl ((wn n ad (co d ci fs)).set 0 (ad 0, .inr (ci, fs.set k v))) H1 := hP.set hD h00 ⟨_, hc, t_OB.to (V := updV (vp_V fs) k v) ⟨_, e1, q2, q3, t_set q4 hkn hk v⟩ (fun j _ => vp_updV_set hl v j)⟩ e3
  rw [wn_set h0] at hP1
  refine kk H1 _ (wn_congr hP1 fun k9 _ => ?_) (hS.put e2 e3 (hA 0 h0)) e2
  by_cases h9 : k9 = 0
  · subst h9
    rw [va_up_self]
    rfl
  · rw [va_up_ne _ _ h9, co_s (by omega), co_s (by omega)]
end ZNEW
/-- the features that a constructor's argument gives -/
def fcN (x : Int32) : Nat := 1 + x.toBitVec.toNat % 16
theorem fcN_eq (x : Int32) : nI 1 + (x &&& nI 15) = nI (fcN x) := by
  rw [pk_and x 4 (by decide), nI_add]
  rfl
theorem fcN_le (x : Int32) : fcN x ≤ 16 := by unfold fcN; omega
theorem fcN_pos (x : Int32) : 1 ≤ fcN x := by unfold fcN; omega
/-- the class's state at its beginning -/
def nwX (F : Nat) : SX := (F, fun _ => 0, fun _ _ => 0, 0, fun _ => 0, 0, 0, fun _ => 0, fun _ _ => 0, fun _ _ => 0, fun _ _ => 0)
/-- the reference's -/
def nwM (F : Nat) : SM := (0, F, 0, fun _ => 0, fun _ => 0, fun _ => 0, 0, fun _ => 0, fun _ => 0, fun _ => 0, fun _ => 0, 0)
theorem zcI (c : ClassId) (n : Nat) : vp_cell c (n, .inl (fun _ => nI 0)) = arrV c n (fun _ => defaultValue .int) := by rw [vp_cell_i]; rfl
theorem zcZ (c : ClassId) (n : Nat) : vp_cell c (n, .inl (fun _ => nI 0)) = arrV c n (fun _ => defaultValue .boolean) := by rw [vp_cell_i]; rfl
theorem zcD (c : ClassId) (n : Nat) : vp_cell c (n, .inr (.inr (.inr (.inl (fun _ => (0 : UInt64)))))) = arrV c n (fun _ => defaultValue .double) := by rw [vp_cell_d]; rfl
theorem str_II : "[" ++ (FieldType.array .int).toString = "[[I" := by decide +kernel
theorem str_DD : "[" ++ (FieldType.array .double).toString = "[[D" := by decide +kernel
def wtX0_init : List Cond := wsX0_init ++ [.arrayOver (.array .int), .arrayOver (.array .double)]
theorem wt_inX0_init : ∀ w ∈ wsX0_init, w ∈ wtX0_init := fun w h => List.mem_append_left _ h
set_option maxRecDepth 20000 in
theorem inX0_init : ∀ w ∈ wsX00, w ∈ wsX0_init := by decide +kernel
set_option maxRecDepth 20000 in
theorem innX1_init : ∀ w ∈ wsX10, w ∈ wsX1_init := by decide +kernel
theorem innX0_init : ∀ w ∈ wsX00, w ∈ wtX0_init := fun w h => wt_inX0_init w (inX0_init w h)
set_option maxHeartbeats 4000000 in
set_option maxRecDepth 100000 in
theorem kX0_init (l : Launch) (E : zE) (ad : Nat → Nat) (hap : apart 96 ad) (x : Int32) : Met l yX0_init wtX0_init ({ frames := 2, cells := 95, slots := 1568, locals := 40 }) (va_Pc [.ref (ad 0), .int (x)] (fun U => (∀ k, k < 95 → ad (1 + k) = U.heap.size + k) ∧ va_at E.1 vwCl (ad 0, .inr (1, [.int 0, .null, .null, .int 0, .null, .int 0, .int 0, .null, .null, .null, .null])) U.heap ∧ zK E U)) (va_Qv (fun _ : Unit => True) (fun _ t => PX E ad (nwX (fcN x)) t.heap) (aX 96 ad)) 95 1568 (aX 96 ad) := by
  refine Met.ofW (cc := cX0_init) (maxL := 2) (ret := none) (by decide) rfl ?_
  intro p e s m args below meth c s₁ B hml hv
  obtain ⟨rfl, hfr, hob, hK⟩ := hv
  have hx := B.exec
  have hb := B.bytes
  have hr := B.returns
  have hts := atoms_spec (ws := wtX0_init) B.pre
  have hown : s.vm.findClass RX0 = some m.cls := findClass_of_methodNamed B.named
  have hlocks := B.notSynchronized
  have hin : meth.name = "<init>" := (name_of_methodNamed B.named B.method).1
  have hS : va_S (aX 96 ad) s.heap s.heap [] := va_S.rf
  have hl := lv_entry ([.ref (ad 0), .int (x)]) (n := 2) (Nat.le_of_ble_eq_true rfl)
  rw [lg_entry_eq]
  generalize (lg_sl ([.ref (ad 0), .int (x)]) ++ List.replicate (2 - (lg_sl ([.ref (ad 0), .int (x)])).length) Slot.unset).toArray = ls at hl ⊢
  have hl : lv_has ls 2 [(0, .ref (ad 0)), (1, .int (x))] := hl
  generalize hH9 : s.heap = H9 at hfr hob hS ⊢
  have hsz0 : H9.size = H9.size := rfl
  have hiI : s.vm.findClass "[I" = some (eI E) := (hK.2 0 _ rfl).2
  have hiII : s.vm.findClass ("[" ++ (FieldType.array .int).toString) = some (eII E) := (hK.2 1 _ rfl).2
  have hiD : s.vm.findClass "[D" = some (eD E) := (hK.2 2 _ rfl).2
  have hiDD : s.vm.findClass ("[" ++ (FieldType.array .double).toString) = some (eDD E) := (hK.2 3 _ rfl).2
  have hF := fcN_le x
  generalize hκ : nwX (fcN x) = κ
  have hκF : xF κ = fcN x := by rw [← hκ]; rfl
  have hA : ∀ n, n ≤ 96 → ∀ k, k < n → aX 96 ad (ad k) := fun n hn k hk => ⟨k, by omega, rfl⟩
  have hap9 : ∀ n, n ≤ 96 → apart n ad := fun n hn i j hi hj h => hap i j (by omega) (by omega) h
  have hP : va_P E.1 vwCl (wn 1 ad (co (cx E ad κ) 1 [.int 0, .null, .null, .int 0, .null, .int 0, .int 0, .null, .null, .null, .null])) H9 := by
    intro k q hk
    obtain ⟨h1, rfl⟩ := wn_of hk
    obtain rfl : k = 0 := by omega
    exact hob
  refine lv_aload_n hx hb dX0_init_0 rfl (lv_at hl 0 rfl) ?_
  refine W.objInit hx hb hown (hts (.methodLink RX0 1 objectInit) (by decide +kernel)) (hts (.instanceMethod objectInit) (by decide +kernel)) (hts (.code objectInit ⟨#[0xb1]⟩ 1 none) (List.mem_append_left _ (List.mem_cons_of_mem _ (List.mem_append_left _ (List.mem_of_getElem? (i := 2) rfl))))) rfl (by rw [hml]; exact hl.1) rfl dX0_init_1 (Nat.le_of_ble_eq_true rfl) (Nat.le_of_ble_eq_true rfl) ?_
  refine W.eq (g2 := F0 m 4 ls []) rfl ?_
  have hsz0 : H9.size = H9.size + 0 := rfl
  refine lv_aload_n hx hb dX0_init_4 rfl (lv_at hl 0 rfl) ?_
  refine lv_iconst (v := nI 1) hx hb dX0_init_5 (by decide +kernel) ?_
  refine lv_iload_n hx hb dX0_init_6 rfl (lv_at hl 1 rfl) ?_
  refine lv_bipush (v := nI 15) hx hb dX0_init_7 (by decide +kernel) ?_
  refine lv_iand hx hb dX0_init_9 ?_
  refine zv_iadd (v := nI (fcN x)) hx hb dX0_init_10 (fcN_eq x) ?_
  refine zn_putF (C := RX0) (T := TX0) (N := 11) (ci := 1) (v := .int (nI (fcN x))) hx hb hts innX0_init tyX0 tyX0_ok nmX0 hown hK hP (hap9 1 (by decide)) (hA 1 (by decide)) hS (by decide) rfl 0 (by decide) (hts (.fieldLink RX0 7 "SignTeller" "featureCount" "I") (by decide +kernel)) rfl hin rfl rfl rfl (Nat.le_of_ble_eq_true rfl) dX0_init_11 (fun H locs hP hS hsz9 => ?_)
  have hP : va_P E.1 vwCl (wn 1 ad (co (cx E ad κ) 1 [.int (nI (fcN x)), .null, .null, .int 0, .null, .int 0, .int 0, .null, .null, .null, .null])) H := hP
  have hsz0 : H.size = H9.size + 0 := by omega
  refine lv_aload_n hx hb dX0_init_14 rfl (lv_at hl 0 rfl) ?_
  refine lv_bipush (v := nI 40) hx hb dX0_init_15 (by decide +kernel) ?_
  refine zn_newa (atype := .int) (N' := 40) (a0 := (40, .inl (fun _ => nI 0))) hx hb (hts (.arrayClass .int) (by decide +kernel)) hiI hP hS (by rw [hsz0]; exact (hfr 0 (by decide)).symm) (by rw [co_s (by decide), cx_ec, ← hκ]; rfl) (zcI _ _) (nI_pos (by omega)) (nI_clamp (by omega)) (by show _ * 4 ≤ _; omega) (by show _ ≤ 95; omega) (by show _ ≤ 1568; omega) dX0_init_17 (fun H hP hS hsz9 => ?_)
  have hsz0 : H.size = H9.size + 1 := by omega
  refine W.eq (g2 := F0 m 19 ls (.ref (ad 1) :: [.ref (ad 0)])) rfl ?_
  refine zn_putF (C := RX0) (T := TX0) (N := 11) (ci := 1) (v := .ref (ad 1)) hx hb hts innX0_init tyX0 tyX0_ok nmX0 hown hK hP (hap9 2 (by decide)) (hA 2 (by decide)) hS (by decide) rfl 1 (by decide) (hts (.fieldLink RX0 13 "SignTeller" "exampleClass" "[I") (by decide +kernel)) rfl hin rfl rfl rfl (Nat.le_of_ble_eq_true rfl) dX0_init_19 (fun H locs hP hS hsz9 => ?_)
  have hP : va_P E.1 vwCl (wn 2 ad (co (cx E ad κ) 1 [.int (nI (fcN x)), .ref (ad 1), .null, .int 0, .null, .int 0, .int 0, .null, .null, .null, .null])) H := hP
  have hsz0 : H.size = H9.size + 1 := by omega
  refine lv_aload_n hx hb dX0_init_22 rfl (lv_at hl 0 rfl) ?_
  refine lv_bipush (v := nI 40) hx hb dX0_init_23 (by decide +kernel) ?_
  refine lv_aload_n hx hb dX0_init_25 rfl (lv_at hl 0 rfl) ?_
  refine va_get (C := RX0) (T := TX0) (N := 11) (ci := 1) hx hb hts innX0_init hown hK hP 0 (wn_at (d := co (cx E ad κ) 1 [.int (nI (fcN x)), .ref (ad 1), .null, .int 0, .null, .int 0, .int 0, .null, .null, .null, .null]) (show 0 < 2 by decide)) rfl 0 (by decide) (hts (.fieldLink RX0 7 "SignTeller" "featureCount" "I") (by decide +kernel)) (fun _ h => h) (v := .int (nI (fcN x))) rfl dX0_init_26 ?_
  refine zn_mna (ty := .int) (cA := eII E) (cy := eI E) (N' := 40) (K' := fcN x) (z := fun _ => (fcN x, .inl (fun _ => nI 0))) hx hb hown (by rw [str_II]; exact hts (.classLink RX0 17 "[[I") (by decide +kernel)) (hts (.arrayOver (.array .int)) (by decide +kernel)) (hts (.arrayClass .int) (by decide +kernel)) hiII hiI hP hS (by rw [hsz0]; exact (hfr 1 (by decide)).symm) (nI_pos (by omega)) (nI_pos (by omega)) (nI_clamp (by omega)) (nI_clamp (by omega)) (fun i hi => by rw [show 2 + 1 + i = 1 + (2 + i) by omega, hfr _ (by omega), show ad 2 = ad (1 + 1) from rfl, hfr 1 (by decide)]; omega) (by rw [co_s (by decide)]; rfl) (fun i hi => by rw [co_s (by omega), show 2 + 1 + i = 3 + i by omega, cx_ev hi, ← hκ]; rfl) (fun i hi => zcI _ _) (by decide) (by show _ * 4 ≤ _; omega) (by omega) rfl rfl (by show _ ≤ 95; omega) (by show _ ≤ 1568; omega) dX0_init_29 (fun H hP hS hsz9 => ?_)
  have hsz0 : H.size = H9.size + 42 := by omega
  have hP : va_P E.1 vwCl (wn 43 ad (co (cx E ad κ) 1 [.int (nI (fcN x)), .ref (ad 1), .null, .int 0, .null, .int 0, .int 0, .null, .null, .null, .null])) H := hP
  refine zn_putF (C := RX0) (T := TX0) (N := 11) (ci := 1) (v := .ref (ad 2)) hx hb hts innX0_init tyX0 tyX0_ok nmX0 hown hK hP (hap9 43 (by decide)) (hA 43 (by decide)) hS (by decide) rfl 2 (by decide) (hts (.fieldLink RX0 19 "SignTeller" "exampleValues" "[[I") (by decide +kernel)) rfl hin rfl rfl rfl (Nat.le_of_ble_eq_true rfl) dX0_init_33 (fun H locs hP hS hsz9 => ?_)
  have hP : va_P E.1 vwCl (wn 43 ad (co (cx E ad κ) 1 [.int (nI (fcN x)), .ref (ad 1), .ref (ad 2), .int 0, .null, .int 0, .int 0, .null, .null, .null, .null])) H := hP
  have hsz0 : H.size = H9.size + 42 := by omega
  refine lv_aload_n hx hb dX0_init_36 rfl (lv_at hl 0 rfl) ?_
  refine lv_aload_n hx hb dX0_init_37 rfl (lv_at hl 0 rfl) ?_
  refine va_get (C := RX0) (T := TX0) (N := 11) (ci := 1) hx hb hts innX0_init hown hK hP 0 (wn_at (d := co (cx E ad κ) 1 [.int (nI (fcN x)), .ref (ad 1), .ref (ad 2), .int 0, .null, .int 0, .int 0, .null, .null, .null, .null]) (show 0 < 43 by decide)) rfl 0 (by decide) (hts (.fieldLink RX0 7 "SignTeller" "featureCount" "I") (by decide +kernel)) (fun _ h => h) (v := .int (nI (fcN x))) rfl dX0_init_38 ?_
  refine zn_newa (atype := .int) (N' := fcN x) (a0 := (fcN x, .inl (fun _ => nI 0))) hx hb (hts (.arrayClass .int) (by decide +kernel)) hiI hP hS (by rw [hsz0]; exact (hfr 42 (by decide)).symm) (by rw [co_s (by decide), cx_sg, ← hκ]; rfl) (zcI _ _) (nI_pos (by omega)) (nI_clamp (by omega)) (by show _ * 4 ≤ _; omega) (by show _ ≤ 95; omega) (by show _ ≤ 1568; omega) dX0_init_41 (fun H hP hS hsz9 => ?_)
  have hsz0 : H.size = H9.size + 43 := by omega
  refine W.eq (g2 := F0 m 43 ls (.ref (ad 43) :: [.ref (ad 0)])) rfl ?_
  refine zn_putF (C := RX0) (T := TX0) (N := 11) (ci := 1) (v := .ref (ad 43)) hx hb hts innX0_init tyX0 tyX0_ok nmX0 hown hK hP (hap9 44 (by decide)) (hA 44 (by decide)) hS (by decide) rfl 4 (by decide) (hts (.fieldLink RX0 22 "SignTeller" "signValues" "[I") (by decide +kernel)) rfl hin rfl rfl rfl (Nat.le_of_ble_eq_true rfl) dX0_init_43 (fun H locs hP hS hsz9 => ?_)
  have hP : va_P E.1 vwCl (wn 44 ad (co (cx E ad κ) 1 [.int (nI (fcN x)), .ref (ad 1), .ref (ad 2), .int 0, .ref (ad 43), .int 0, .int 0, .null, .null, .null, .null])) H := hP
  have hsz0 : H.size = H9.size + 43 := by omega
  refine lv_aload_n hx hb dX0_init_46 rfl (lv_at hl 0 rfl) ?_
  refine lv_bipush (v := nI 16) hx hb dX0_init_47 (by decide +kernel) ?_
  refine zn_newa (atype := .int) (N' := 16) (a0 := (16, .inl (fun _ => nI 0))) hx hb (hts (.arrayClass .int) (by decide +kernel)) hiI hP hS (by rw [hsz0]; exact (hfr 43 (by decide)).symm) (by rw [co_s (by decide), cx_mb, ← hκ]; rfl) (zcI _ _) (nI_pos (by omega)) (nI_clamp (by omega)) (by show _ * 4 ≤ _; omega) (by show _ ≤ 95; omega) (by show _ ≤ 1568; omega) dX0_init_49 (fun H hP hS hsz9 => ?_)
  have hsz0 : H.size = H9.size + 44 := by omega
  refine W.eq (g2 := F0 m 51 ls (.ref (ad 44) :: [.ref (ad 0)])) rfl ?_
  refine zn_putF (C := RX0) (T := TX0) (N := 11) (ci := 1) (v := .ref (ad 44)) hx hb hts innX0_init tyX0 tyX0_ok nmX0 hown hK hP (hap9 45 (by decide)) (hA 45 (by decide)) hS (by decide) rfl 7 (by decide) (hts (.fieldLink RX0 25 "SignTeller" "members" "[I") (by decide +kernel)) rfl hin rfl rfl rfl (Nat.le_of_ble_eq_true rfl) dX0_init_51 (fun H locs hP hS hsz9 => ?_)
  have hP : va_P E.1 vwCl (wn 45 ad (co (cx E ad κ) 1 [.int (nI (fcN x)), .ref (ad 1), .ref (ad 2), .int 0, .ref (ad 43), .int 0, .int 0, .ref (ad 44), .null, .null, .null])) H := hP
  have hsz0 : H.size = H9.size + 44 := by omega
  refine lv_aload_n hx hb dX0_init_54 rfl (lv_at hl 0 rfl) ?_
  refine lv_bipush (v := nI 16) hx hb dX0_init_55 (by decide +kernel) ?_
  refine lv_aload_n hx hb dX0_init_57 rfl (lv_at hl 0 rfl) ?_
  refine va_get (C := RX0) (T := TX0) (N := 11) (ci := 1) hx hb hts innX0_init hown hK hP 0 (wn_at (d := co (cx E ad κ) 1 [.int (nI (fcN x)), .ref (ad 1), .ref (ad 2), .int 0, .ref (ad 43), .int 0, .int 0, .ref (ad 44), .null, .null, .null]) (show 0 < 45 by decide)) rfl 0 (by decide) (hts (.fieldLink RX0 7 "SignTeller" "featureCount" "I") (by decide +kernel)) (fun _ h => h) (v := .int (nI (fcN x))) rfl dX0_init_58 ?_
  refine zn_mna (ty := .double) (cA := eDD E) (cy := eD E) (N' := 16) (K' := fcN x) (z := fun _ => (fcN x, .inr (.inr (.inr (.inl (fun _ => (0 : UInt64))))))) hx hb hown (by rw [str_DD]; exact hts (.classLink RX0 28 "[[D") (by decide +kernel)) (hts (.arrayOver (.array .double)) (by decide +kernel)) (hts (.arrayClass .double) (by decide +kernel)) hiDD hiD hP hS (by rw [hsz0]; exact (hfr 44 (by decide)).symm) (nI_pos (by omega)) (nI_pos (by omega)) (nI_clamp (by omega)) (nI_clamp (by omega)) (fun i hi => by rw [show 45 + 1 + i = 1 + (45 + i) by omega, hfr _ (by omega), show ad 45 = ad (1 + 44) from rfl, hfr 44 (by decide)]; omega) (by rw [co_s (by decide)]; rfl) (fun i hi => by rw [co_s (by omega), show 45 + 1 + i = 46 + i by omega, cx_mn hi, ← hκ]; rfl) (fun i hi => zcD _ _) (by decide) (by show _ * 8 ≤ _; omega) (by omega) rfl rfl (by show _ ≤ 95; omega) (by show _ ≤ 1568; omega) dX0_init_61 (fun H hP hS hsz9 => ?_)
  have hsz0 : H.size = H9.size + 61 := by omega
  have hP : va_P E.1 vwCl (wn 62 ad (co (cx E ad κ) 1 [.int (nI (fcN x)), .ref (ad 1), .ref (ad 2), .int 0, .ref (ad 43), .int 0, .int 0, .ref (ad 44), .null, .null, .null])) H := hP
  refine zn_putF (C := RX0) (T := TX0) (N := 11) (ci := 1) (v := .ref (ad 45)) hx hb hts innX0_init tyX0 tyX0_ok nmX0 hown hK hP (hap9 62 (by decide)) (hA 62 (by decide)) hS (by decide) rfl 8 (by decide) (hts (.fieldLink RX0 30 "SignTeller" "means" "[[D") (by decide +kernel)) rfl hin rfl rfl rfl (Nat.le_of_ble_eq_true rfl) dX0_init_65 (fun H locs hP hS hsz9 => ?_)
  have hP : va_P E.1 vwCl (wn 62 ad (co (cx E ad κ) 1 [.int (nI (fcN x)), .ref (ad 1), .ref (ad 2), .int 0, .ref (ad 43), .int 0, .int 0, .ref (ad 44), .ref (ad 45), .null, .null])) H := hP
  have hsz0 : H.size = H9.size + 61 := by omega
  refine lv_aload_n hx hb dX0_init_68 rfl (lv_at hl 0 rfl) ?_
  refine lv_bipush (v := nI 16) hx hb dX0_init_69 (by decide +kernel) ?_
  refine lv_aload_n hx hb dX0_init_71 rfl (lv_at hl 0 rfl) ?_
  refine va_get (C := RX0) (T := TX0) (N := 11) (ci := 1) hx hb hts innX0_init hown hK hP 0 (wn_at (d := co (cx E ad κ) 1 [.int (nI (fcN x)), .ref (ad 1), .ref (ad 2), .int 0, .ref (ad 43), .int 0, .int 0, .ref (ad 44), .ref (ad 45), .null, .null]) (show 0 < 62 by decide)) rfl 0 (by decide) (hts (.fieldLink RX0 7 "SignTeller" "featureCount" "I") (by decide +kernel)) (fun _ h => h) (v := .int (nI (fcN x))) rfl dX0_init_72 ?_
  refine zn_mna (ty := .double) (cA := eDD E) (cy := eD E) (N' := 16) (K' := fcN x) (z := fun _ => (fcN x, .inr (.inr (.inr (.inl (fun _ => (0 : UInt64))))))) hx hb hown (by rw [str_DD]; exact hts (.classLink RX0 28 "[[D") (by decide +kernel)) (hts (.arrayOver (.array .double)) (by decide +kernel)) (hts (.arrayClass .double) (by decide +kernel)) hiDD hiD hP hS (by rw [hsz0]; exact (hfr 61 (by decide)).symm) (nI_pos (by omega)) (nI_pos (by omega)) (nI_clamp (by omega)) (nI_clamp (by omega)) (fun i hi => by rw [show 62 + 1 + i = 1 + (62 + i) by omega, hfr _ (by omega), show ad 62 = ad (1 + 61) from rfl, hfr 61 (by decide)]; omega) (by rw [co_s (by decide)]; rfl) (fun i hi => by rw [co_s (by omega), show 62 + 1 + i = 63 + i by omega, cx_wt hi, ← hκ]; rfl) (fun i hi => zcD _ _) (by decide) (by show _ * 8 ≤ _; omega) (by omega) rfl rfl (by show _ ≤ 95; omega) (by show _ ≤ 1568; omega) dX0_init_75 (fun H hP hS hsz9 => ?_)
  have hsz0 : H.size = H9.size + 78 := by omega
  have hP : va_P E.1 vwCl (wn 79 ad (co (cx E ad κ) 1 [.int (nI (fcN x)), .ref (ad 1), .ref (ad 2), .int 0, .ref (ad 43), .int 0, .int 0, .ref (ad 44), .ref (ad 45), .null, .null])) H := hP
  refine zn_putF (C := RX0) (T := TX0) (N := 11) (ci := 1) (v := .ref (ad 62)) hx hb hts innX0_init tyX0 tyX0_ok nmX0 hown hK hP (hap9 79 (by decide)) (hA 79 (by decide)) hS (by decide) rfl 9 (by decide) (hts (.fieldLink RX0 33 "SignTeller" "weights" "[[D") (by decide +kernel)) rfl hin rfl rfl rfl (Nat.le_of_ble_eq_true rfl) dX0_init_79 (fun H locs hP hS hsz9 => ?_)
  have hP : va_P E.1 vwCl (wn 79 ad (co (cx E ad κ) 1 [.int (nI (fcN x)), .ref (ad 1), .ref (ad 2), .int 0, .ref (ad 43), .int 0, .int 0, .ref (ad 44), .ref (ad 45), .ref (ad 62), .null])) H := hP
  have hsz0 : H.size = H9.size + 78 := by omega
  refine lv_aload_n hx hb dX0_init_82 rfl (lv_at hl 0 rfl) ?_
  refine lv_bipush (v := nI 16) hx hb dX0_init_83 (by decide +kernel) ?_
  refine lv_bipush (v := nI 16) hx hb dX0_init_85 (by decide +kernel) ?_
  refine zn_mna (ty := .int) (cA := eII E) (cy := eI E) (N' := 16) (K' := 16) (z := fun _ => (16, .inl (fun _ => nI 0))) hx hb hown (by rw [str_II]; exact hts (.classLink RX0 17 "[[I") (by decide +kernel)) (hts (.arrayOver (.array .int)) (by decide +kernel)) (hts (.arrayClass .int) (by decide +kernel)) hiII hiI hP hS (by rw [hsz0]; exact (hfr 78 (by decide)).symm) (nI_pos (by omega)) (nI_pos (by omega)) (nI_clamp (by omega)) (nI_clamp (by omega)) (fun i hi => by rw [show 79 + 1 + i = 1 + (79 + i) by omega, hfr _ (by omega), show ad 79 = ad (1 + 78) from rfl, hfr 78 (by decide)]; omega) (by rw [co_s (by decide)]; rfl) (fun i hi => by rw [co_s (by omega), show 79 + 1 + i = 80 + i by omega, cx_cf hi, ← hκ]; rfl) (fun i hi => zcI _ _) (by decide) (by show _ * 4 ≤ _; omega) (by omega) rfl rfl (by show _ ≤ 95; omega) (by show _ ≤ 1568; omega) dX0_init_87 (fun H hP hS hsz9 => ?_)
  have hsz0 : H.size = H9.size + 95 := by omega
  have hP : va_P E.1 vwCl (wn 96 ad (co (cx E ad κ) 1 [.int (nI (fcN x)), .ref (ad 1), .ref (ad 2), .int 0, .ref (ad 43), .int 0, .int 0, .ref (ad 44), .ref (ad 45), .ref (ad 62), .null])) H := hP
  refine zn_putF (C := RX0) (T := TX0) (N := 11) (ci := 1) (v := .ref (ad 79)) hx hb hts innX0_init tyX0 tyX0_ok nmX0 hown hK hP (hap9 96 (by decide)) (hA 96 (by decide)) hS (by decide) rfl 10 (by decide) (hts (.fieldLink RX0 36 "SignTeller" "confusions" "[[I") (by decide +kernel)) rfl hin rfl rfl rfl (Nat.le_of_ble_eq_true rfl) dX0_init_91 (fun H locs hP hS hsz9 => ?_)
  have hP : va_P E.1 vwCl (wn 96 ad (co (cx E ad κ) 1 [.int (nI (fcN x)), .ref (ad 1), .ref (ad 2), .int 0, .ref (ad 43), .int 0, .int 0, .ref (ad 44), .ref (ad 45), .ref (ad 62), .ref (ad 79)])) H := hP
  have hsz0 : H.size = H9.size + 95 := by omega
  have hP : PX E ad κ H := by
    refine wn_congr hP fun k hk => ?_
    by_cases h9 : k = 0
    · subst h9; rw [← hκ]; rfl
    · exact co_s (by omega)
  rw [← hH9] at hS
  refine W.widen (k := 95) (n := 1568) (by omega) (by omega) ?_
  exact W.vret hx hb hr (fun t ht hW => ⟨⟨(), rfl, trivial, (wn_h ht hP)⟩, hS.F ht⟩) hS.2.2 dX0_init_94
set_option maxHeartbeats 4000000 in
set_option maxRecDepth 100000 in
theorem kX1_init (l : Launch) (E : zE) (ad : Nat → Nat) (hap : apart 8 ad) (x : Int32) : Met l yX1_init wsX1_init ({ frames := 2, cells := 7, slots := 1480, locals := 40 }) (va_Pc [.ref (ad 0), .int (x)] (fun U => (∀ k, k < 7 → ad (1 + k) = U.heap.size + k) ∧ va_at E.1 vwCl (ad 0, .inr (2, [.int 0, .int 0, .int 0, .null, .null, .null, .int 0, .null, .null, .null, .null, .int 0])) U.heap ∧ zK E U)) (va_Qv (fun _ : Unit => True) (fun _ t => PM E ad (nwM (fcN x)) t.heap) (aX 8 ad)) 7 1480 (aX 8 ad) := by
  refine Met.ofW (cc := cX1_init) (maxL := 2) (ret := none) (by decide) rfl ?_
  intro p e s m args below meth c s₁ B hml hv
  obtain ⟨rfl, hfr, hob, hK⟩ := hv
  have hx := B.exec
  have hb := B.bytes
  have hr := B.returns
  have hts := atoms_spec (ws := wsX1_init) B.pre
  have hown : s.vm.findClass RX1 = some m.cls := findClass_of_methodNamed B.named
  have hlocks := B.notSynchronized
  have hin : meth.name = "<init>" := (name_of_methodNamed B.named B.method).1
  have hS : va_S (aX 8 ad) s.heap s.heap [] := va_S.rf
  have hl := lv_entry ([.ref (ad 0), .int (x)]) (n := 2) (Nat.le_of_ble_eq_true rfl)
  rw [lg_entry_eq]
  generalize (lg_sl ([.ref (ad 0), .int (x)]) ++ List.replicate (2 - (lg_sl ([.ref (ad 0), .int (x)])).length) Slot.unset).toArray = ls at hl ⊢
  have hl : lv_has ls 2 [(0, .ref (ad 0)), (1, .int (x))] := hl
  generalize hH9 : s.heap = H9 at hfr hob hS ⊢
  have hsz0 : H9.size = H9.size := rfl
  have hiI : s.vm.findClass "[I" = some (eI E) := (hK.2 0 _ rfl).2
  have hiD : s.vm.findClass "[D" = some (eD E) := (hK.2 2 _ rfl).2
  have hiZ : s.vm.findClass "[Z" = some (eZ E) := (hK.2 4 _ rfl).2
  have hF := fcN_le x
  generalize hκ : nwM (fcN x) = τ
  have hA : ∀ n, n ≤ 8 → ∀ k, k < n → aX 8 ad (ad k) := fun n hn k hk => ⟨k, by omega, rfl⟩
  have hap9 : ∀ n, n ≤ 8 → apart n ad := fun n hn i j hi hj h => hap i j (by omega) (by omega) h
  have hP : va_P E.1 vwCl (wn 1 ad (co (cm E ad τ) 2 [.int 0, .int 0, .int 0, .null, .null, .null, .int 0, .null, .null, .null, .null, .int 0])) H9 := by
    intro k q hk
    obtain ⟨h1, rfl⟩ := wn_of hk
    obtain rfl : k = 0 := by omega
    exact hob
  refine lv_aload_n hx hb dX1_init_0 rfl (lv_at hl 0 rfl) ?_
  refine W.objInit hx hb hown (hts (.methodLink RX1 1 objectInit) (by decide +kernel)) (hts (.instanceMethod objectInit) (by decide +kernel)) (hts (.code objectInit ⟨#[0xb1]⟩ 1 none) (List.mem_cons_of_mem _ (List.mem_append_left _ (List.mem_of_getElem? (i := 2) rfl)))) rfl (by rw [hml]; exact hl.1) rfl dX1_init_1 (Nat.le_of_ble_eq_true rfl) (Nat.le_of_ble_eq_true rfl) ?_
  refine W.eq (g2 := F0 m 4 ls []) rfl ?_
  have hsz0 : H9.size = H9.size + 0 := rfl
  refine lv_aload_n hx hb dX1_init_4 rfl (lv_at hl 0 rfl) ?_
  refine lv_bipush (v := nI 40) hx hb dX1_init_5 (by decide +kernel) ?_
  refine zn_newa (atype := .int) (N' := 40) (a0 := (40, .inl (fun _ => nI 0))) hx hb (hts (.arrayClass .int) (by decide +kernel)) hiI hP hS (by rw [hsz0]; exact (hfr 0 (by decide)).symm) (by rw [co_s (by decide), cm_cl, ← hκ]; rfl) (zcI _ _) (nI_pos (by omega)) (nI_clamp (by omega)) (by show _ * 4 ≤ _; omega) (by show _ ≤ 7; omega) (by show _ ≤ 1480; omega) dX1_init_7 (fun H hP hS hsz9 => ?_)
  have hsz0 : H.size = H9.size + 1 := by omega
  refine zn_putF (C := RX1) (T := TX1) (N := 12) (ci := 2) (v := .ref (ad 1)) hx hb hts innX1_init tyX1 tyX1_ok nmX1 hown hK hP (hap9 2 (by decide)) (hA 2 (by decide)) hS (by decide) rfl 3 (by decide) (hts (.fieldLink RX1 7 "SignTellerModel" "cls" "[I") (by decide +kernel)) rfl hin rfl rfl rfl (Nat.le_of_ble_eq_true rfl) dX1_init_9 (fun H locs hP hS hsz9 => ?_)
  have hP : va_P E.1 vwCl (wn 2 ad (co (cm E ad τ) 2 [.int 0, .int 0, .int 0, .ref (ad 1), .null, .null, .int 0, .null, .null, .null, .null, .int 0])) H := hP
  have hsz0 : H.size = H9.size + 1 := by omega
  refine lv_aload_n hx hb dX1_init_12 rfl (lv_at hl 0 rfl) ?_
  refine lv_sipush (v := nI 640) hx hb dX1_init_13 (by decide +kernel) ?_
  refine zn_newa (atype := .int) (N' := 640) (a0 := (640, .inl (fun _ => nI 0))) hx hb (hts (.arrayClass .int) (by decide +kernel)) hiI hP hS (by rw [hsz0]; exact (hfr 1 (by decide)).symm) (by rw [co_s (by decide), cm_vl, ← hκ]; rfl) (zcI _ _) (nI_pos (by omega)) (nI_clamp (by omega)) (by show _ * 4 ≤ _; omega) (by show _ ≤ 7; omega) (by show _ ≤ 1480; omega) dX1_init_16 (fun H hP hS hsz9 => ?_)
  have hsz0 : H.size = H9.size + 2 := by omega
  refine zn_putF (C := RX1) (T := TX1) (N := 12) (ci := 2) (v := .ref (ad 2)) hx hb hts innX1_init tyX1 tyX1_ok nmX1 hown hK hP (hap9 3 (by decide)) (hA 3 (by decide)) hS (by decide) rfl 4 (by decide) (hts (.fieldLink RX1 13 "SignTellerModel" "value" "[I") (by decide +kernel)) rfl hin rfl rfl rfl (Nat.le_of_ble_eq_true rfl) dX1_init_18 (fun H locs hP hS hsz9 => ?_)
  have hP : va_P E.1 vwCl (wn 3 ad (co (cm E ad τ) 2 [.int 0, .int 0, .int 0, .ref (ad 1), .ref (ad 2), .null, .int 0, .null, .null, .null, .null, .int 0])) H := hP
  have hsz0 : H.size = H9.size + 2 := by omega
  refine lv_aload_n hx hb dX1_init_21 rfl (lv_at hl 0 rfl) ?_
  refine lv_bipush (v := nI 16) hx hb dX1_init_22 (by decide +kernel) ?_
  refine zn_newa (atype := .int) (N' := 16) (a0 := (16, .inl (fun _ => nI 0))) hx hb (hts (.arrayClass .int) (by decide +kernel)) hiI hP hS (by rw [hsz0]; exact (hfr 2 (by decide)).symm) (by rw [co_s (by decide), cm_sg, ← hκ]; rfl) (zcI _ _) (nI_pos (by omega)) (nI_clamp (by omega)) (by show _ * 4 ≤ _; omega) (by show _ ≤ 7; omega) (by show _ ≤ 1480; omega) dX1_init_24 (fun H hP hS hsz9 => ?_)
  have hsz0 : H.size = H9.size + 3 := by omega
  refine zn_putF (C := RX1) (T := TX1) (N := 12) (ci := 2) (v := .ref (ad 3)) hx hb hts innX1_init tyX1 tyX1_ok nmX1 hown hK hP (hap9 4 (by decide)) (hA 4 (by decide)) hS (by decide) rfl 5 (by decide) (hts (.fieldLink RX1 16 "SignTellerModel" "sign" "[I") (by decide +kernel)) rfl hin rfl rfl rfl (Nat.le_of_ble_eq_true rfl) dX1_init_26 (fun H locs hP hS hsz9 => ?_)
  have hP : va_P E.1 vwCl (wn 4 ad (co (cm E ad τ) 2 [.int 0, .int 0, .int 0, .ref (ad 1), .ref (ad 2), .ref (ad 3), .int 0, .null, .null, .null, .null, .int 0])) H := hP
  have hsz0 : H.size = H9.size + 3 := by omega
  refine lv_aload_n hx hb dX1_init_29 rfl (lv_at hl 0 rfl) ?_
  refine lv_bipush (v := nI 16) hx hb dX1_init_30 (by decide +kernel) ?_
  refine zn_newa (atype := .boolean) (N' := 16) (a0 := (16, .inl (fun _ => nI 0))) hx hb (hts (.arrayClass .boolean) (by decide +kernel)) hiZ hP hS (by rw [hsz0]; exact (hfr 3 (by decide)).symm) (by rw [co_s (by decide), cm_hs, ← hκ]; rfl) (zcZ _ _) (nI_pos (by omega)) (nI_clamp (by omega)) (by show _ * 1 ≤ _; omega) (by show _ ≤ 7; omega) (by show _ ≤ 1480; omega) dX1_init_32 (fun H hP hS hsz9 => ?_)
  have hsz0 : H.size = H9.size + 4 := by omega
  refine zn_putF (C := RX1) (T := TX1) (N := 12) (ci := 2) (v := .ref (ad 4)) hx hb hts innX1_init tyX1 tyX1_ok nmX1 hown hK hP (hap9 5 (by decide)) (hA 5 (by decide)) hS (by decide) rfl 7 (by decide) (hts (.fieldLink RX1 19 "SignTellerModel" "has" "[Z") (by decide +kernel)) rfl hin rfl rfl rfl (Nat.le_of_ble_eq_true rfl) dX1_init_34 (fun H locs hP hS hsz9 => ?_)
  have hP : va_P E.1 vwCl (wn 5 ad (co (cm E ad τ) 2 [.int 0, .int 0, .int 0, .ref (ad 1), .ref (ad 2), .ref (ad 3), .int 0, .ref (ad 4), .null, .null, .null, .int 0])) H := hP
  have hsz0 : H.size = H9.size + 4 := by omega
  refine lv_aload_n hx hb dX1_init_37 rfl (lv_at hl 0 rfl) ?_
  refine lv_sipush (v := nI 256) hx hb dX1_init_38 (by decide +kernel) ?_
  refine zn_newa (atype := .double) (N' := 256) (a0 := (256, .inr (.inr (.inr (.inl (fun _ => (0 : UInt64))))))) hx hb (hts (.arrayClass .double) (by decide +kernel)) hiD hP hS (by rw [hsz0]; exact (hfr 4 (by decide)).symm) (by rw [co_s (by decide), cm_mn, ← hκ]; rfl) (zcD _ _) (nI_pos (by omega)) (nI_clamp (by omega)) (by show _ * 8 ≤ _; omega) (by show _ ≤ 7; omega) (by show _ ≤ 1480; omega) dX1_init_41 (fun H hP hS hsz9 => ?_)
  have hsz0 : H.size = H9.size + 5 := by omega
  refine zn_putF (C := RX1) (T := TX1) (N := 12) (ci := 2) (v := .ref (ad 5)) hx hb hts innX1_init tyX1 tyX1_ok nmX1 hown hK hP (hap9 6 (by decide)) (hA 6 (by decide)) hS (by decide) rfl 8 (by decide) (hts (.fieldLink RX1 23 "SignTellerModel" "mean" "[D") (by decide +kernel)) rfl hin rfl rfl rfl (Nat.le_of_ble_eq_true rfl) dX1_init_43 (fun H locs hP hS hsz9 => ?_)
  have hP : va_P E.1 vwCl (wn 6 ad (co (cm E ad τ) 2 [.int 0, .int 0, .int 0, .ref (ad 1), .ref (ad 2), .ref (ad 3), .int 0, .ref (ad 4), .ref (ad 5), .null, .null, .int 0])) H := hP
  have hsz0 : H.size = H9.size + 5 := by omega
  refine lv_aload_n hx hb dX1_init_46 rfl (lv_at hl 0 rfl) ?_
  refine lv_sipush (v := nI 256) hx hb dX1_init_47 (by decide +kernel) ?_
  refine zn_newa (atype := .double) (N' := 256) (a0 := (256, .inr (.inr (.inr (.inl (fun _ => (0 : UInt64))))))) hx hb (hts (.arrayClass .double) (by decide +kernel)) hiD hP hS (by rw [hsz0]; exact (hfr 5 (by decide)).symm) (by rw [co_s (by decide), cm_wt, ← hκ]; rfl) (zcD _ _) (nI_pos (by omega)) (nI_clamp (by omega)) (by show _ * 8 ≤ _; omega) (by show _ ≤ 7; omega) (by show _ ≤ 1480; omega) dX1_init_50 (fun H hP hS hsz9 => ?_)
  have hsz0 : H.size = H9.size + 6 := by omega
  refine zn_putF (C := RX1) (T := TX1) (N := 12) (ci := 2) (v := .ref (ad 6)) hx hb hts innX1_init tyX1 tyX1_ok nmX1 hown hK hP (hap9 7 (by decide)) (hA 7 (by decide)) hS (by decide) rfl 9 (by decide) (hts (.fieldLink RX1 27 "SignTellerModel" "weight" "[D") (by decide +kernel)) rfl hin rfl rfl rfl (Nat.le_of_ble_eq_true rfl) dX1_init_52 (fun H locs hP hS hsz9 => ?_)
  have hP : va_P E.1 vwCl (wn 7 ad (co (cm E ad τ) 2 [.int 0, .int 0, .int 0, .ref (ad 1), .ref (ad 2), .ref (ad 3), .int 0, .ref (ad 4), .ref (ad 5), .ref (ad 6), .null, .int 0])) H := hP
  have hsz0 : H.size = H9.size + 6 := by omega
  refine lv_aload_n hx hb dX1_init_55 rfl (lv_at hl 0 rfl) ?_
  refine lv_sipush (v := nI 256) hx hb dX1_init_56 (by decide +kernel) ?_
  refine zn_newa (atype := .int) (N' := 256) (a0 := (256, .inl (fun _ => nI 0))) hx hb (hts (.arrayClass .int) (by decide +kernel)) hiI hP hS (by rw [hsz0]; exact (hfr 6 (by decide)).symm) (by rw [co_s (by decide), cm_cf, ← hκ]; rfl) (zcI _ _) (nI_pos (by omega)) (nI_clamp (by omega)) (by show _ * 4 ≤ _; omega) (by show _ ≤ 7; omega) (by show _ ≤ 1480; omega) dX1_init_59 (fun H hP hS hsz9 => ?_)
  have hsz0 : H.size = H9.size + 7 := by omega
  refine zn_putF (C := RX1) (T := TX1) (N := 12) (ci := 2) (v := .ref (ad 7)) hx hb hts innX1_init tyX1 tyX1_ok nmX1 hown hK hP (hap9 8 (by decide)) (hA 8 (by decide)) hS (by decide) rfl 10 (by decide) (hts (.fieldLink RX1 30 "SignTellerModel" "confused" "[I") (by decide +kernel)) rfl hin rfl rfl rfl (Nat.le_of_ble_eq_true rfl) dX1_init_61 (fun H locs hP hS hsz9 => ?_)
  have hP : va_P E.1 vwCl (wn 8 ad (co (cm E ad τ) 2 [.int 0, .int 0, .int 0, .ref (ad 1), .ref (ad 2), .ref (ad 3), .int 0, .ref (ad 4), .ref (ad 5), .ref (ad 6), .ref (ad 7), .int 0])) H := hP
  have hsz0 : H.size = H9.size + 7 := by omega
  refine lv_aload_n hx hb dX1_init_64 rfl (lv_at hl 0 rfl) ?_
  refine lv_iconst (v := nI 1) hx hb dX1_init_65 (by decide +kernel) ?_
  refine lv_iload_n hx hb dX1_init_66 rfl (lv_at hl 1 rfl) ?_
  refine lv_bipush (v := nI 15) hx hb dX1_init_67 (by decide +kernel) ?_
  refine lv_iand hx hb dX1_init_69 ?_
  refine zv_iadd (v := nI (fcN x)) hx hb dX1_init_70 (fcN_eq x) ?_
  refine zn_putF (C := RX1) (T := TX1) (N := 12) (ci := 2) (v := .int (nI (fcN x))) hx hb hts innX1_init tyX1 tyX1_ok nmX1 hown hK hP (hap9 8 (by decide)) (hA 8 (by decide)) hS (by decide) rfl 1 (by decide) (hts (.fieldLink RX1 33 "SignTellerModel" "features" "I") (by decide +kernel)) rfl hin rfl rfl rfl (Nat.le_of_ble_eq_true rfl) dX1_init_71 (fun H locs hP hS hsz9 => ?_)
  have hP : va_P E.1 vwCl (wn 8 ad (co (cm E ad τ) 2 [.int 0, .int (nI (fcN x)), .int 0, .ref (ad 1), .ref (ad 2), .ref (ad 3), .int 0, .ref (ad 4), .ref (ad 5), .ref (ad 6), .ref (ad 7), .int 0])) H := hP
  have hsz0 : H.size = H9.size + 7 := by omega
  have hP : PM E ad τ H := by
    refine wn_congr hP fun k hk => ?_
    by_cases h9 : k = 0
    · subst h9; rw [← hκ]; rfl
    · exact co_s (by omega)
  rw [← hH9] at hS
  refine W.widen (k := 7) (n := 1480) (by omega) (by omega) ?_
  exact W.vret hx hb hr (fun t ht hW => ⟨⟨(), rfl, trivial, (wn_h ht hP)⟩, hS.F ht⟩) hS.2.2 dX1_init_74
end
section
/-! ===== class and reference side by side ===== -/
/-- the reference's line g' holds what the class's rows g hold, at sixteen rows of F places -/
def dm {α : Type} (F : Nat) (g : Nat → Nat → α) (g' : Nat → α) : Prop := ∀ a, a < 16 → ∀ b, b < F → g' (16 * a + b) = g a b
theorem dm_up {α : Type} {F c f : Nat} {g : Nat → Nat → α} {g' : Nat → α} {x y : α} (h : dm F g g') (hF : F ≤ 16) (hf : f < 16) (e : y = x) : dm F (up2 g c f x) (va_up g' (16 * c + f) y) := by
  intro a ha b hb
  by_cases e1 : a = c
  · subst e1
    by_cases e2 : b = f
    · subst e2; rw [va_up_self, up2_ij, e]
    · rw [va_up_ne _ _ (by omega), up2_nj _ _ _ e2, h a ha b hb]
  · rw [va_up_ne _ _ (by omega), up2_ne _ _ _ e1, h a ha b hb]
theorem nrF_congr {has has' : Nat → Bool} {dd dd' : Nat → UInt64} {but : Int32} : ∀ {n : Nat}, (∀ c, c < n → has c = has' c ∧ dd c = dd' c) → nrF has dd but n = nrF has' dd' but n
  | 0, _ => rfl
  | n + 1, h => by
    obtain ⟨h1, h2⟩ := h n (Nat.lt_succ_self n)
    rw [nrF, nrF, nrF_congr (fun c hc => h c (Nat.lt_succ_of_lt hc)), h1, h2]
/-- the same classes, means and weights -/
def Same (κ : SX) (τ : SM) : Prop := mF τ = xF κ ∧ (∀ c, c < 16 → (mHs τ c ≠ 0 ↔ xMb κ c ≠ 0)) ∧ dm (xF κ) (xMn κ) (mMn τ) ∧ dm (xF κ) (xWt κ) (mWt τ)
theorem Same.dd {κ : SX} {τ : SM} (h : Same κ τ) {v v' : Nat → Nat} {fr : Nat} (hv : ∀ f, f < xF κ → v' (fr + f) = v f) {c : Nat} (hc : c < 16) : ddX κ v c = ddM τ v' fr c := by
  obtain ⟨h1, -, h3, h4⟩ := h
  unfold ddX ddM
  rw [h1]
  exact dsF_congr fun f hf => ⟨(h4 c hc f hf).symm, (h3 c hc f hf).symm, (hv f hf).symm⟩
theorem Same.near {κ : SX} {τ : SM} (h : Same κ τ) {v v' : Nat → Nat} {fr : Nat} (hv : ∀ f, f < xF κ → v' (fr + f) = v f) (but : Int32) : nearX κ v but = nearM τ v' fr but := by
  unfold nearX nearM
  rw [nrF_congr (has' := hasM τ) (dd' := ddM τ v' fr) fun c hc => ⟨by
    unfold hasX hasM
    rw [decide_eq_decide]
    exact (h.2.1 c hc).symm, h.dd hv hc⟩]
theorem sh_dm {F c n : Nat} {mn : Nat → Nat → UInt64} {mn' : Nat → UInt64} {v v' : Nat → Nat} {w : Nat → Nat → UInt64} {w' : Nat → UInt64} (hF : F ≤ 16) (hc : c < 16) (hn : n < 16) (hm : dm F mn mn') (hv : ∀ f, f < F → v' f = v f) (hw : dm F w w') : ∀ f, f ≤ F → dm F (shW mn v c n w f) (shM mn' v' c n w' f)
  | 0, _ => hw
  | f + 1, hf => by
    have ih := sh_dm hF hc hn hm hv hw f (by omega)
    rw [shW, shM, hv f (by omega), hm c hc f (by omega), hm n hn f (by omega)]
    split
    · exact dm_up ih hF (by omega) (by rw [ih c hc f (by omega)])
    · split
      · exact dm_up ih hF (by omega) (by rw [ih n hn f (by omega)])
      · exact ih
/-- the same examples -/
def SameE (κ : SX) (τ : SM) : Prop := mN τ = xN κ ∧ (∀ e, e < xN κ → mCl τ e = xEc κ e) ∧ ∀ e, e < xN κ → ∀ f, f < xF κ → mVl τ (16 * e + f) = xEv κ e f
theorem Same.some {κ : SX} {τ : SM} (h : Same κ τ) {v v' : Nat → Nat} {fr : Nat} (hv : ∀ f, f < xF κ → v' (fr + f) = v f) {c : Nat} (hc : c < 16) (hb : xMb κ c ≠ 0) : ∃ j : Nat, j < 16 ∧ nearX κ v (-1) = nI j ∧ nearM τ v' fr (-1) = nI j := by
  obtain ⟨j, h1, h2⟩ := nearM_some τ v' fr c hc (Nat.pos_of_ne_zero ((h.2.1 c hc).mpr hb))
  exact ⟨j, h1, (h.near hv (-1)).trans h2, h2⟩
theorem rd_dm {κ : SX} {τ : SM} {w : Nat → Nat → UInt64} {w' : Nat → UInt64} (h : Same κ τ) (hE : SameE κ τ) (hF : xF κ ≤ 16) (hec : ∀ e, xEc κ e < 16) (hmb : ∀ e, e < xN κ → xMb κ (xEc κ e) ≠ 0) (hw : dm (xF κ) w w') : ∀ k, k ≤ xN κ → dm (xF κ) (rdX κ w k) (rdM τ w' k)
  | 0, _ => hw
  | k + 1, hk => by
    have ih := rd_dm h hE hF hec hmb hw k (by omega)
    have hS : Same (sxWt κ (rdX κ w k)) (smWt τ (rdM τ w' k)) := ⟨h.1, h.2.1, h.2.2.1, ih⟩
    have hv : ∀ f, f < xF κ → mVl τ (16 * k + f) = xEv κ k f := hE.2.2 k (by omega)
    obtain ⟨j, hj, e1, e2⟩ := hS.some (v := xEv κ k) (v' := mVl τ) (fr := 16 * k) hv (hec k) (hmb k (by omega))
    have hcl := hE.2.1 k (by omega)
    rw [rdX, rdM, e1, e2, hcl, h.1]
    by_cases q : nI j = nI (xEc κ k)
    · rw [if_pos (Or.inr q), if_pos q]
      exact ih
    · rw [if_neg (fun z => z.elim (m1_ne (by omega)) q), if_neg q]
      exact sh_dm hF (hec k) (by rw [nI_clamp (by omega)]; exact hj) h.2.2.1 hv ih _ (Nat.le_refl _)
theorem rds_dm {κ : SX} {τ : SM} (h : Same κ τ) (hE : SameE κ τ) (hF : xF κ ≤ 16) (hec : ∀ e, xEc κ e < 16) (hmb : ∀ e, e < xN κ → xMb κ (xEc κ e) ≠ 0) : ∀ r, dm (xF κ) (rdsX κ r) (rdsM τ r)
  | 0 => h.2.2.2
  | r + 1 => by
    rw [rdsX, rdsM, hE.1]
    exact rd_dm h hE hF hec hmb (rds_dm h hE hF hec hmb r) _ (Nat.le_refl _)
theorem cf_dm {κ : SX} {τ : SM} {g : Nat → Nat → Nat} {g' : Nat → Nat} (h : Same κ τ) (hE : SameE κ τ) (hec : ∀ e, xEc κ e < 16) (hmb : ∀ e, e < xN κ → xMb κ (xEc κ e) ≠ 0) (hg : dm 16 g g') : ∀ k, k ≤ xN κ → dm 16 (cfX κ g k) (cfM τ g' k)
  | 0, _ => hg
  | k + 1, hk => by
    have ih := cf_dm h hE hec hmb hg k (by omega)
    have hv : ∀ f, f < xF κ → mVl τ (16 * k + f) = xEv κ k f := hE.2.2 k (by omega)
    obtain ⟨j, hj, e1, e2⟩ := h.some (v := xEv κ k) (v' := mVl τ) (fr := 16 * k) hv (hec k) (hmb k (by omega))
    rw [cfX, cfM, e1, e2, hE.2.1 k (by omega), nI_clamp (by omega), if_neg (m1_ne (by omega))]
    exact dm_up ih (Nat.le_refl _) hj (by rw [ih _ (hec k) j hj])
theorem ct_congr {ec cl : Nat → Nat} {c : Nat} : ∀ {n : Nat}, (∀ e, e < n → cl e = ec e) → ctE cl c n = ctE ec c n
  | 0, _ => rfl
  | n + 1, h => by rw [ctE, ctE, ct_congr (fun e he => h e (Nat.lt_succ_of_lt he)), h n (Nat.lt_succ_self n)]
theorem sm_congr {ec cl : Nat → Nat} {ev vl : Nat → Nat → Nat} {c f : Nat} : ∀ {n : Nat}, (∀ e, e < n → cl e = ec e ∧ vl e f = ev e f) → smE cl vl c f n = smE ec ev c f n
  | 0, _ => rfl
  | n + 1, h => by rw [smE, smE, sm_congr (fun e he => h e (Nat.lt_succ_of_lt he)), (h n (Nat.lt_succ_self n)).1, (h n (Nat.lt_succ_self n)).2]
theorem sm_0 {ec : Nat → Nat} {ev : Nat → Nat → Nat} {c f : Nat} : ∀ {n : Nat}, ctE ec c n = 0 → smE ec ev c f n = 0
  | 0, _ => rfl
  | n + 1, h => by
    rw [ctE] at h
    rw [smE, sm_0 (by omega)]
    by_cases q : ec n = c
    · rw [if_pos q] at h; omega
    · rw [if_neg q]
/-- after the means and the first weights -/
theorem mm_same {κ : SX} {τ : SM} (hFF : mF τ = xF κ) (hE : SameE κ τ) (hF : xF κ ≤ 16) (hN : xN κ ≤ 40) (hev : ∀ e f, xEv κ e f < 256) : Same (fwX (mmX κ)) (mmM (smC τ 0)) := by
  have hct : ∀ c, ctM (smC τ 0) c = ctE (xEc κ) c (xN κ) := fun c => by
    show ctE (mCl τ) c (mN τ) = _
    rw [hE.1]
    exact ct_congr hE.2.1
  have hsm : ∀ c f, f < xF κ → smM (smC τ 0) c f = smE (xEc κ) (xEv κ) c f (xN κ) := fun c f hf => by
    show smE (mCl τ) (vwM τ) c f (mN τ) = _
    rw [hE.1]
    exact sm_congr fun e he => ⟨hE.2.1 e he, hE.2.2 e he f hf⟩
  refine ⟨hFF, fun c hc => ?_, fun a ha b hb => ?_, fun a ha b hb => ?_⟩
  · show mHs (mmM (smC τ 0)) c ≠ 0 ↔ mmB κ c ≠ 0
    rw [hsM_in _ hc, mmB_ct κ hc]
    unfold hsV
    rw [hct]
    by_cases q : 0 < ctE (xEc κ) c (xN κ)
    · rw [if_pos q]; omega
    · rw [if_neg q]; omega
  · show flc (mMn τ) (mnV (smC τ 0)) 16 (16 * a + b) = dvE (xF κ) (mmB κ) (mmS κ) 16 a b
    have hb : b < xF κ := hb
    rw [flc_in ha (by omega), dvE_in ha hb, mmB_ct κ ha, mmS_sm κ hN hev ha hb]
    unfold mnV
    rw [hct, hsm a b hb]
    by_cases q : 0 < ctE (xEc κ) a (xN κ)
    · rw [if_pos q, if_pos q]
    · rw [if_neg q, if_neg q, sm_0 (by omega), i2d_0]
  · show flc (mWt τ) (wtV (smC τ 0)) 16 (16 * a + b) = zrows (xWt κ) (xF κ) (fun c => if 0 < mmB κ c then FP.dconst1 else FP.dconst0) 16 a b
    have hb : b < xF κ := hb
    rw [flc_in ha (by omega), zrows_in ha hb, mmB_ct κ ha]
    unfold wtV
    rw [hct]
/-- what ties the two -/
def Rel (κ : SX) (τ : SM) : Prop := Same κ τ ∧ SameE κ τ ∧ (mMd τ = xMd κ ∧ mMg τ = xLd κ) ∧ (∀ f, f < xF κ → mSg τ f = xSg κ f) ∧ dm 16 (xCf κ) (mCf τ)
/-- what holds of the class's state -/
def wfX (κ : SX) : Prop := (1 ≤ xF κ ∧ xF κ ≤ 16 ∧ xN κ ≤ 40 ∧ xMd κ ≤ 1 ∧ xLd κ ≤ 100000) ∧ (∀ e, xEc κ e < 16) ∧ (∀ e f, xEv κ e f < 256) ∧ (∀ f, xSg κ f < 256) ∧ (∀ c, c < 16 → xMb κ c ≤ 40) ∧ (xMd κ = 0 → ∀ c, c < 16 → ∀ f, f < xF κ → xWt κ c f = FP.dconst0) ∧ (0 < xMd κ → ∃ c, c < 16 ∧ xMb κ c ≠ 0) ∧ (∀ c, c < 16 → ∀ f, f < xF κ → mg 1900 (xWt κ c f) ∧ mg 1057 (xMn κ c f))
/-- what holds of the reference's -/
def wfM (τ : SM) : Prop := (∀ e, mCl τ e < 16) ∧ (∀ k, mVl τ k < 256) ∧ ∀ c, c < 16 → mHs τ c ≤ 1
/-- all of it -/
def Tie (κ : SX) (τ : SM) : Prop := Rel κ τ ∧ wfX κ ∧ wfM τ
theorem va_up_P {α : Type} {P : α → Prop} {g : Nat → α} {k : Nat} {v : α} (h : ∀ j, P (g j)) (hv : P v) (j : Nat) : P (va_up g k v j) := by
  by_cases e : j = k
  · subst e; rw [va_up_self]; exact hv
  · rw [va_up_ne _ _ e]; exact h j
/-- what the contracts of the class ask -/
theorem wfX.w {κ : SX} (h : wfX κ) : ∀ c, c < 16 → ∀ f, f < xF κ → mg 1900 (xWt κ c f) ∧ mg 1057 (xMn κ c f) := h.2.2.2.2.2.2.2
theorem Tie.c {κ : SX} {τ : SM} (h : Tie κ τ) (z : Nat) : Tie κ (smC τ z) := h
theorem Tie.w {κ : SX} {τ : SM} (h : Tie κ τ) : ∀ c, c < 16 → ∀ f, f < mF τ → mg 1900 (mWt τ (16 * c + f)) ∧ mg 1057 (mMn τ (16 * c + f)) := fun c hc f hf => by
  obtain ⟨⟨⟨h1, -, h3, h4⟩, -⟩, h2, -⟩ := h
  rw [h1] at hf
  rw [h3 c hc f hf, h4 c hc f hf]
  exact h2.w c hc f hf
theorem Tie.start {F : Nat} (h1 : 1 ≤ F) (h2 : F ≤ 16) : Tie (nwX F) (nwM F) := by
  refine ⟨⟨⟨rfl, fun _ _ => Iff.rfl, fun _ _ _ _ => rfl, fun _ _ _ _ => rfl⟩, ⟨rfl, fun _ _ => rfl, fun _ _ _ _ => rfl⟩, ⟨rfl, rfl⟩, fun _ _ => rfl, fun _ _ _ _ => rfl⟩, ⟨⟨h1, h2, Nat.zero_le _, Nat.zero_le _, Nat.zero_le _⟩, fun _ => Nat.zero_lt_succ _, fun _ _ => Nat.zero_lt_succ _, fun _ => Nat.zero_lt_succ _, fun _ _ => Nat.zero_le _, fun _ _ _ _ _ => ?_, fun h => absurd h (Nat.lt_irrefl 0), fun _ _ _ _ => ⟨?_, ?_⟩⟩, fun _ => Nat.zero_lt_succ _, fun _ => Nat.zero_lt_succ _, fun _ _ => Nat.zero_le _⟩
  · show (0 : UInt64) = FP.dconst0
    decide +kernel
  · show mg 1900 (0 : UInt64)
    exact Nat.zero_le _
  · show mg 1057 (0 : UInt64)
    exact Nat.zero_le _
end
section
/-! ===== each call keeps the tie, and answers the same ===== -/
theorem va_up_lt {g : Nat → Nat} {n k v : Nat} (h : ∀ j, g j < n) (hv : v < n) (j : Nat) : va_up g k v j < n := va_up_P (P := fun z => z < n) h hv j
theorem ni16 {i j : Nat} (hi : i < 2 ^ 31) (hj : j < 2 ^ 31) (h : nI i = nI j) : i = j := (nI_eq hi hj).mp h
theorem tie_clear {κ : SX} {τ : SM} (h : Tie κ τ) : nI (xN κ) = nI (mN τ) ∧ Tie (sxN κ 0) (smN (smC τ 0) 0) := by
  obtain ⟨⟨h1, h2, h3, h4, h5⟩, ⟨⟨a1, a2, a3, a4, a5⟩, b⟩, c⟩ := h
  exact ⟨by rw [h2.1], ⟨h1, ⟨rfl, fun e he => absurd he (Nat.not_lt_zero e), fun e he => absurd he (Nat.not_lt_zero e)⟩, h3, h4, h5⟩, ⟨⟨a1, a2, Nat.zero_le _, a4, a5⟩, b⟩, c⟩
theorem tie_margin {κ κ' : SX} {τ τ' : SM} {x r r' : Int32} (h : Tie κ τ) (hx : mgP κ x r κ') (hm : mgQ τ x r' τ') : r = r' ∧ Tie κ' τ' := by
  obtain ⟨⟨h1, h2, h3, h4, h5⟩, ⟨⟨a1, a2, a3, a4, a5⟩, b⟩, c⟩ := h
  rcases hx with ⟨j, hj, e1, rfl, rfl⟩ | ⟨n1, rfl, rfl⟩
  · rcases hm with ⟨i, hi, e2, rfl, rfl⟩ | ⟨n2, -, -⟩
    · obtain rfl : j = i := ni16 (by omega) (by omega) (e1.symm.trans e2)
      exact ⟨by rw [h3.2], ⟨h1, h2, ⟨h3.1, rfl⟩, h4, h5⟩, ⟨⟨a1, a2, a3, a4, by show j ≤ 100000; omega⟩, b⟩, c⟩
    · exact absurd e1 (n2 j hj)
  · rcases hm with ⟨i, hi, e2, -, -⟩ | ⟨n2, rfl, rfl⟩
    · exact absurd e2 (n1 i hi)
    · exact ⟨rfl, ⟨h1, h2, h3, h4, h5⟩, ⟨⟨a1, a2, a3, a4, a5⟩, b⟩, c⟩
theorem tie_add {κ : SX} {τ : SM} {c : Nat} (h : Tie κ τ) (hc : c < 16) (hN : xN κ < 40) : Tie (addX κ c) (addM τ c) := by
  obtain ⟨⟨h1, ⟨e1, e2, e3⟩, h3, h4, h5⟩, ⟨⟨a1, a2, a3, a4, a5⟩, b1, b2, b3⟩, c1, c2, c3⟩ := h
  refine ⟨⟨h1, ⟨congrArg (· + 1) e1, fun e he => ?_, fun e he f hf => ?_⟩, h3, h4, h5⟩, ⟨⟨a1, a2, hN, a4, a5⟩, fun e => ?_, fun e f => ?_, b3⟩, fun e => ?_, fun k => ?_, c3⟩
  · have he : e < xN κ + 1 := he
    show va_up (mCl τ) (mN τ) c e = va_up (xEc κ) (xN κ) c e
    rw [e1]
    by_cases q : e = xN κ
    · subst q; rw [va_up_self, va_up_self]
    · rw [va_up_ne _ _ q, va_up_ne _ _ q]; exact e2 e (by omega)
  · have he : e < xN κ + 1 := he
    have hf : f < xF κ := hf
    show fl (mVl τ) (16 * mN τ) (fun _ => 0) 16 (16 * e + f) = zrow (xEv κ) (xN κ) 0 (xF κ) e f
    rw [e1]
    by_cases q : e = xN κ
    · subst q; rw [fl_in (by omega), zrow_in hf]
    · rw [fl_out (by omega), zrow_out (Or.inl q)]; exact e3 e (by omega) f hf
  · exact va_up_lt b1 hc e
  · show zrow (xEv κ) (xN κ) 0 (xF κ) e f < 256
    by_cases q : e = xN κ ∧ f < xF κ
    · rw [q.1, zrow_in q.2]; decide
    · rw [zrow_out (by omega)]; exact b2 e f
  · exact va_up_lt c1 hc e
  · show fl (mVl τ) (16 * mN τ) (fun _ => 0) 16 k < 256
    by_cases q : k < 16 * mN τ ∨ 16 * mN τ + 16 ≤ k
    · rw [fl_out q]; exact c2 k
    · rw [show k = 16 * mN τ + (k - 16 * mN τ) by omega, fl_in (by omega)]; decide
theorem tie_example {κ κ' : SX} {τ τ' : SM} {x r r' : Int32} (h : Tie κ τ) (hx : exP κ x r κ') (hm : exQ τ x r' τ') : r = r' ∧ Tie κ' τ' := by
  have hN := h.1.2.1.1
  have h40 := h.2.1.1.2.2.1
  rcases hx with ⟨c, hc, e1, q⟩ | ⟨n1, rfl, rfl⟩
  · rcases hm with ⟨c', hc', e2, q'⟩ | ⟨n2, -, -⟩
    · obtain rfl : c = c' := ni16 (by omega) (by omega) (e1.symm.trans e2)
      rcases q with ⟨g1, rfl, rfl⟩ | ⟨g1, rfl, rfl⟩ <;> rcases q' with ⟨g2, rfl, rfl⟩ | ⟨g2, rfl, rfl⟩
      · exact ⟨rfl, h⟩
      · omega
      · omega
      · exact ⟨by rw [hN], tie_add h hc g1⟩
    · exact absurd e1 (n2 c hc)
  · rcases hm with ⟨c', hc', e2, -⟩ | ⟨n2, rfl, rfl⟩
    · exact absurd e2 (n1 c' hc')
    · exact ⟨rfl, h⟩
theorem tie_featureV {κ κ' : SX} {τ τ' : SM} {x y z : Int32} (h : Tie κ τ) (hx : ftP κ x y z κ') (hm : ftQ τ x y z τ') : mC τ' = 0 ∧ Tie κ' τ' := by
  obtain ⟨i, j, hi, hj, rfl, rfl, rfl⟩ := hx
  obtain ⟨⟨h1, ⟨e1, e2, e3⟩, h3, h4, h5⟩, ⟨⟨a1, a2, a3, a4, a5⟩, b1, b2, b3⟩, c1, c2, c3⟩ := h
  rcases hm with ⟨i', j', hi', hj', q1, q2, rfl⟩ | ⟨no, -⟩
  · rw [e1] at hi'
    rw [h1.1] at hj'
    obtain rfl : i = i' := ni16 (by omega) (by omega) q1
    obtain rfl : j = j' := ni16 (by omega) (by omega) q2
    refine ⟨rfl, ⟨h1, ⟨e1, e2, fun e he f hf => ?_⟩, h3, h4, h5⟩, ⟨⟨a1, a2, a3, a4, a5⟩, b1, fun e f => ?_, b3⟩, c1, fun k => va_up_lt c2 (lbN_lt z) k, c3⟩
    · have he : e < xN κ := he
      have hf : f < xF κ := hf
      show va_up (mVl τ) (16 * i + j) (lbN z) (16 * e + f) = up2 (xEv κ) i j (lbN z) e f
      by_cases q : e = i ∧ f = j
      · obtain ⟨rfl, rfl⟩ := q
        rw [va_up_self, up2_ij]
      · rw [va_up_ne _ _ (by omega), e3 e he f hf]
        by_cases q2 : f = j
        · rw [up2_ne _ _ _ (fun g => q ⟨g, q2⟩)]
        · rw [up2_nj _ _ _ q2]
    · exact up2_P (P := fun n => n < 256) (q := fun _ _ => True) (fun a b _ => b2 a b) (lbN_lt z) e f trivial
  · exact absurd ⟨i, j, by rw [e1]; exact hi, by rw [h1.1]; exact hj, rfl, rfl⟩ no
theorem tie_featureX {κ : SX} {τ τ' : SM} {x y z : Int32} (h : Tie κ τ) (hx : ftX κ x y) (hm : ftQ τ x y z τ') : mC τ' = 1 ∧ Tie κ τ' := by
  rcases hm with ⟨i, j, hi, hj, q1, q2, -⟩ | ⟨-, rfl⟩
  · exact absurd ⟨i, j, by rw [← h.1.2.1.1]; exact hi, by rw [← h.1.1.1]; exact hj, q1, q2⟩ hx
  · exact ⟨rfl, h⟩
theorem tie_signV {κ κ' : SX} {τ τ' : SM} {x z : Int32} (h : Tie κ τ) (hx : sgP κ x z κ') (hm : sgQ τ x z τ') : mC τ' = 0 ∧ Tie κ' τ' := by
  obtain ⟨j, hj, rfl, rfl⟩ := hx
  obtain ⟨⟨h1, h2, h3, h4, h5⟩, ⟨⟨a1, a2, a3, a4, a5⟩, b1, b2, b3, b4⟩, c⟩ := h
  rcases hm with ⟨j', hj', q1, rfl⟩ | ⟨no, -⟩
  · rw [h1.1] at hj'
    obtain rfl : j = j' := ni16 (by omega) (by omega) q1
    refine ⟨rfl, ⟨h1, h2, h3, fun f hf => ?_, h5⟩, ⟨⟨a1, a2, a3, a4, a5⟩, b1, b2, fun f => va_up_lt b3 (lbN_lt z) f, b4⟩, c⟩
    show va_up (mSg τ) j (lbN z) f = va_up (xSg κ) j (lbN z) f
    by_cases q : f = j
    · subst q; rw [va_up_self, va_up_self]
    · rw [va_up_ne _ _ q, va_up_ne _ _ q]; exact h4 f hf
  · exact absurd ⟨j, by rw [h1.1]; exact hj, rfl⟩ no
theorem tie_signX {κ : SX} {τ τ' : SM} {x z : Int32} (h : Tie κ τ) (hx : sgX κ x) (hm : sgQ τ x z τ') : mC τ' = 1 ∧ Tie κ τ' := by
  rcases hm with ⟨j, hj, q1, -⟩ | ⟨-, rfl⟩
  · exact absurd ⟨j, by rw [← h.1.1.1]; exact hj, q1⟩ hx
  · exact ⟨rfl, h⟩
theorem tie_weightV {κ : SX} {τ τ' : SM} {x y : Int32} {r r' : UInt64} (h : Tie κ τ) (hx : wtP κ x y r) (hm : wtQ τ x y r' τ') : mC τ' = 0 ∧ r = r' ∧ Tie κ τ' := by
  obtain ⟨i, j, hi, hj, rfl, rfl, rfl⟩ := hx
  rcases hm with ⟨i', j', hi', hj', q1, q2, rfl, rfl⟩ | ⟨no, -⟩
  · have hF := h.2.1.1.2.1
    rw [h.1.1.1] at hj'
    obtain rfl : i = i' := ni16 (by omega) (by omega) q1
    obtain rfl : j = j' := ni16 (by omega) (by omega) q2
    refine ⟨rfl, ?_, h⟩
    rw [h.1.2.2.1.1]
    by_cases q : xMd κ = 0
    · rw [if_pos q]; exact h.2.1.2.2.2.2.2.1 q i hi j hj
    · rw [if_neg q]; exact (h.1.1.2.2.2 i hi j hj).symm
  · exact absurd ⟨i, j, hi, by rw [h.1.1.1]; exact hj, rfl, rfl⟩ no
theorem tie_weightX {κ : SX} {τ τ' : SM} {x y : Int32} {r' : UInt64} (h : Tie κ τ) (hx : wtX κ x y) (hm : wtQ τ x y r' τ') : mC τ' = 1 ∧ Tie κ τ' := by
  rcases hm with ⟨i, j, hi, hj, q1, q2, -, -⟩ | ⟨-, rfl, -⟩
  · exact absurd ⟨i, j, hi, by rw [← h.1.1.1]; exact hj, q1, q2⟩ hx
  · exact ⟨rfl, h⟩
theorem tie_confused {κ : SX} {τ : SM} {x y r r' : Int32} (h : Tie κ τ) (hx : cnP κ x y r) (hm : cnQ τ x y r') : r = r' := by
  rcases hx with ⟨i, j, hi, hj, e1, e2, rfl⟩ | ⟨n1, rfl⟩
  · rcases hm with ⟨i', j', hi', hj', q1, q2, rfl⟩ | ⟨n2, -⟩
    · obtain rfl : i = i' := ni16 (by omega) (by omega) (e1.symm.trans q1)
      obtain rfl : j = j' := ni16 (by omega) (by omega) (e2.symm.trans q2)
      rw [h.1.2.2.2.2 i hi j hj]
    · exact n2.elim (fun q => absurd e1 (q i hi)) (fun q => absurd e2 (q j hj))
  · rcases hm with ⟨i', j', hi', hj', q1, q2, -⟩ | ⟨-, rfl⟩
    · exact n1.elim (fun q => absurd q1 (q i' hi')) (fun q => absurd q2 (q j' hj'))
    · rfl
theorem tie_n1 {κ : SX} {τ : SM} (h : Tie κ τ) : n1X κ = n1M τ := h.1.1.near (fun f hf => by rw [Nat.zero_add]; exact h.1.2.2.2.1 f hf) _
theorem tie_n2 {κ : SX} {τ : SM} (h : Tie κ τ) : n2X κ = n2M τ := by
  unfold n2X n2M
  rw [tie_n1 h]
  exact h.1.1.near (fun f hf => by rw [Nat.zero_add]; exact h.1.2.2.2.1 f hf) _
theorem tie_dd {κ : SX} {τ : SM} (h : Tie κ τ) {c : Nat} (hc : c < 16) : ddX κ (xSg κ) c = ddM τ (mSg τ) 0 c := h.1.1.dd (fun f hf => by rw [Nat.zero_add]; exact h.1.2.2.2.1 f hf) hc
theorem tie_too {κ : SX} {τ : SM} {z z' : Int32} (h : Tie κ τ) (hx : tooX κ (n1X κ) (n2X κ) z) (hm : tooM τ z') : z = z' := by
  rw [tie_n1 h, tie_n2 h] at hx
  rcases hx with ⟨i, j, hi, hj, e1, e2, rfl⟩ | ⟨n1, rfl⟩
  · rcases hm with ⟨i', j', hi', hj', q1, q2, rfl⟩ | ⟨q, -⟩
    · obtain rfl : i = i' := ni16 (by omega) (by omega) (e1.symm.trans q1)
      obtain rfl : j = j' := ni16 (by omega) (by omega) (e2.symm.trans q2)
      rw [tie_dd h hi, tie_dd h hj, h.1.2.2.1.2]
    · exact absurd (e2.symm.trans q) (m1_ne (by omega))
  · rcases hm with ⟨i', j', hi', hj', q1, q2, -⟩ | ⟨-, rfl⟩
    · exact n1.elim (fun q => absurd q1 (q i' hi')) (fun q => absurd q2 (q j' hj'))
    · rfl
theorem tie_tell {κ : SX} {τ : SM} {x r r' : Int32} (h : Tie κ τ) (hx : tlP κ x r) (hm : tlQ τ x r') : r = r' := by
  have hmd := h.1.2.2.1.1
  have hsg := h.1.2.2.2.1
  have hF := h.1.1.1
  rcases hx with ⟨n1, rfl⟩ | ⟨j, hj, e1, q⟩
  · rcases hm with ⟨-, rfl⟩ | ⟨j', hj', e2, -⟩
    · rfl
    · exact absurd e2 (n1 j' hj')
  · rcases hm with ⟨n2, -⟩ | ⟨j', hj', e2, q'⟩
    · exact absurd e1 (n2 j hj)
    · obtain rfl : j = j' := ni16 (by omega) (by omega) (e1.symm.trans e2)
      rcases q with ⟨g1, rfl⟩ | ⟨g1, q⟩ <;> rcases q' with ⟨g2, rfl⟩ | ⟨g2, q'⟩
      · rfl
      · omega
      · omega
      · rcases q with ⟨b1, rfl⟩ | ⟨⟨f, hf, hf0⟩, z, hz, q⟩ <;> rcases q' with ⟨b2, rfl⟩ | ⟨b2, z', hz', q'⟩
        · rfl
        · exact absurd (fun f hf => by rw [hF] at hf; rw [hsg f hf]; exact b1 f hf) b2
        · have := b2 f (by rw [hF]; exact hf)
          rw [hsg f hf] at this
          omega
        · obtain rfl := tie_too h hz hz'
          rcases q with ⟨c1, rfl⟩ | ⟨c1, rfl⟩ <;> rcases q' with ⟨c2, rfl⟩ | ⟨c2, rfl⟩
          · rfl
          · exact absurd c2 c1
          · exact absurd c1 c2
          · rw [tie_n1 h, tie_n2 h]
theorem tie_distance {κ : SX} {τ : SM} {x : Int32} {r r' : Int64} (h : Tie κ τ) (hx : dsP κ x r) (hm : dsQ τ x r') : r = r' := by
  have hmd := h.1.2.2.1.1
  rcases hx with ⟨n1, rfl⟩ | ⟨j, hj, e1, q⟩
  · rcases hm with ⟨-, rfl⟩ | ⟨j', hj', e2, -⟩
    · rfl
    · exact absurd e2 (n1 j' hj')
  · rcases hm with ⟨n2, -⟩ | ⟨j', hj', e2, q'⟩
    · exact absurd e1 (n2 j hj)
    · obtain rfl : j = j' := ni16 (by omega) (by omega) (e1.symm.trans e2)
      have hrk : rkX κ j = rkM τ j := by unfold rkX rkM; rw [tie_n1 h, tie_n2 h]
      rcases q with ⟨g1, rfl⟩ | ⟨g1, q⟩ <;> rcases q' with ⟨g2, rfl⟩ | ⟨g2, q'⟩
      · rfl
      · omega
      · omega
      · rw [hrk] at q
        rcases q with ⟨b1, rfl⟩ | ⟨c, hc, b1, rfl⟩ <;> rcases q' with ⟨b2, rfl⟩ | ⟨c', hc', b2, rfl⟩
        · rfl
        · exact absurd (b2.symm.trans b1) (m1_ne (by omega))
        · exact absurd (b1.symm.trans b2) (m1_ne (by omega))
        · obtain rfl : c = c' := ni16 (by omega) (by omega) (b1.symm.trans b2)
          rw [tie_dd h hc]
/-- the making -/
theorem tie_mm {κ : SX} {τ : SM} (h : Tie κ τ) : Same (fwX (mmX κ)) (mmM (smC τ 0)) := mm_same h.1.1.1 h.1.2.1 h.2.1.1.2.1 h.2.1.1.2.2.1 h.2.1.2.2.1
theorem tie_mmE {κ : SX} {τ : SM} (h : Tie κ τ) : SameE (fwX (mmX κ)) (mmM (smC τ 0)) := h.1.2.1
theorem mk_F (κ : SX) : xF (fwX (mmX κ)) = xF κ := rfl
theorem mk_N (κ : SX) : xN (fwX (mmX κ)) = xN κ := rfl
theorem mk_Ec (κ : SX) : xEc (fwX (mmX κ)) = xEc κ := rfl
theorem mk_Mb (κ : SX) : xMb (fwX (mmX κ)) = mmB κ := rfl
theorem mk_Mn (κ : SX) : xMn (fwX (mmX κ)) = xMn (mmX κ) := rfl
theorem tie_mb {κ : SX} (hec : ∀ e, xEc κ e < 16) : ∀ e, e < xN (fwX (mmX κ)) → xMb (fwX (mmX κ)) (xEc (fwX (mmX κ)) e) ≠ 0 := fun e he => by
  rw [mk_N] at he
  rw [mk_Mb, mk_Ec, mmB_ct κ (hec e)]
  have := ctE_pos (ec := xEc κ) he
  omega
theorem tie_hmn {κ : SX} {τ : SM} (h : Tie κ τ) : ∀ c, c < 16 → ∀ f, f < mF τ → mg 1057 (mMn (mmM (smC τ 0)) (16 * c + f)) := fun c hc f hf => by
  rw [h.1.1.1] at hf
  rw [(tie_mm h).2.2.1 c hc f (by rw [mk_F]; exact hf), mk_Mn]
  exact mm_mg κ h.2.1.1.2.2.1 h.2.1.2.2.1 c hc f hf
theorem rds_wB {κ : SX} (hec : ∀ e, xEc κ e < 16) (hN : xN κ ≤ 40) (hw : wB (xF κ) 1023 (xWt κ)) (r : Nat) (hr : r ≤ 20) : wB (xF κ) 1823 (rdsX κ r) := fun c f q =>
  mg_mono (rdsX_mg (K := 1023) (κ := κ) hec (Nat.le_refl _) hN hw r (by omega) c f q) (by omega)
theorem rd_bd {κ : SX} {τ : SM} (hS : Same κ τ) (hE : SameE κ τ) (hF : xF κ ≤ 16) (hec : ∀ e, xEc κ e < 16) (hmb : ∀ e, e < xN κ → xMb κ (xEc κ e) ≠ 0) (hN : xN κ ≤ 40) (hw : wB (xF κ) 1023 (xWt κ)) (r : Nat) (hr : r ≤ 20) (i : Nat) (hi : i ≤ xN κ) (c f : Nat) (hc : c < 16) (hf : f < xF κ) : mg 1900 (rdM τ (rdsM τ r) i (16 * c + f)) := by
  have d := rd_dm hS hE hF hec hmb (rds_dm hS hE hF hec hmb r) i hi c hc f hf
  rw [d]
  exact mg_mono (rdX_mg (κ := κ) (K := 1823) hec (by omega) (rds_wB hec hN hw r hr) i (by omega) c f ⟨hc, hf⟩) (by omega)
theorem tie_hbd {κ : SX} {τ : SM} (h : Tie κ τ) : ∀ r, r ≤ 20 → ∀ i, i ≤ mN τ → ∀ c f, c < 16 → f < mF τ → mg 1900 (rdM (mmM (smC τ 0)) (rdsM (mmM (smC τ 0)) r) i (16 * c + f)) := fun r hr i hi c f hc hf => by
  rw [h.1.1.1] at hf
  rw [h.1.2.1.1] at hi
  exact rd_bd (tie_mm h) (tie_mmE h) (by rw [mk_F]; exact h.2.1.1.2.1) (by rw [mk_Ec]; exact h.2.1.2.1) (tie_mb h.2.1.2.1) (by rw [mk_N]; exact h.2.1.1.2.2.1) (by rw [mk_F]; exact fw_mg (mmX κ)) r hr i (by rw [mk_N]; exact hi) c f hc (by rw [mk_F]; exact hf)
theorem mk_tie {κ : SX} {τ : SM} (hS : Same κ τ) (hE : SameE κ τ) (hF1 : 1 ≤ xF κ) (hF : xF κ ≤ 16) (hec : ∀ e, xEc κ e < 16) (hev : ∀ e f, xEv κ e f < 256) (hmb : ∀ e, e < xN κ → xMb κ (xEc κ e) ≠ 0) (hN : xN κ ≤ 40) (hN0 : 0 < xN κ) (hw : wB (xF κ) 1023 (xWt κ)) (hld : mMg τ = xLd κ) (hl5 : xLd κ ≤ 100000) (hsg : ∀ f, f < xF κ → mSg τ f = xSg κ f) (hs6 : ∀ f, xSg κ f < 256) (hb : ∀ c, c < 16 → xMb κ c ≤ 40) (hmn : ∀ c, c < 16 → ∀ f, f < xF κ → mg 1057 (xMn κ c f)) (hM : wfM τ) (j : Nat) (hj : j ≤ 20) : Tie (mkc (mkr κ j)) (mkcM (mkrM τ j)) := by
  have hrd := rds_dm hS hE hF hec hmb j
  have hS2 : Same (mkr κ j) (mkrM τ j) := ⟨hS.1, hS.2.1, hS.2.2.1, hrd⟩
  have hz : dm 16 (zrows (xCf κ) 16 (fun _ => 0) 16) (zline (mCf τ) 256) := fun a ha b hb9 => by rw [zline_in (by omega), zrows_in ha hb9]
  have hE2 : SameE (mkr κ j) (mkrM τ j) := hE
  have hcf := cf_dm (κ := mkr κ j) (τ := mkrM τ j) hS2 hE2 hec hmb hz (xN κ) (Nat.le_refl _)
  have hwj := rds_wB hec hN hw j hj
  have hcf2 : dm 16 (cfX (mkr κ j) (zrows (xCf κ) 16 (fun _ => 0) 16) (xN κ)) (cfM (mkrM τ j) (zline (mCf τ) 256) (mN τ)) := by
    rw [hE.1]
    exact hcf
  exact ⟨⟨⟨hS.1, hS.2.1, hS.2.2.1, hrd⟩, hE, ⟨rfl, hld⟩, hsg, hcf2⟩, ⟨⟨hF1, hF, hN, Nat.le_refl 1, hl5⟩, hec, hev, hs6, hb, fun q => absurd q Nat.one_ne_zero, fun _ => ⟨xEc κ 0, hec 0, hmb 0 hN0⟩, fun c hc f hf => ⟨mg_mono (hwj c f ⟨hc, hf⟩) (by omega), hmn c hc f hf⟩⟩, hM⟩
theorem tie_mk {κ : SX} {τ : SM} (h : Tie κ τ) (j : Nat) (hj : j < 21) (hN : 0 < xN κ) : Tie (mkX κ j) (mkM τ j) := by
  have hb := h.2.1.2.1
  refine mk_tie (κ := fwX (mmX κ)) (τ := mmM (smC τ 0)) (tie_mm h) (tie_mmE h) (by rw [mk_F]; exact h.2.1.1.1) (by rw [mk_F]; exact h.2.1.1.2.1) (by rw [mk_Ec]; exact hb) h.2.1.2.2.1 (tie_mb hb) (by rw [mk_N]; exact h.2.1.1.2.2.1) (by rw [mk_N]; exact hN) (by rw [mk_F]; exact fw_mg (mmX κ)) h.1.2.2.1.2 h.2.1.1.2.2.2.2 h.1.2.2.2.1 h.2.1.2.2.2.1 (fun c hc => ?_) (fun c hc f hf => ?_) ⟨h.2.2.1, h.2.2.2.1, fun c hc => ?_⟩ j (by omega)
  · rw [mk_Mb]
    have := mmB_le κ hc
    have := h.2.1.1.2.2.1
    omega
  · rw [mk_F] at hf
    rw [mk_Mn]
    exact mm_mg κ h.2.1.1.2.2.1 h.2.1.2.2.1 c hc f hf
  · rw [hsM_in _ hc]
    unfold hsV
    split <;> decide
theorem tie_makeV {κ κ' : SX} {τ τ' : SM} {x r r' : Int32} (h : Tie κ τ) (hx : mkP κ x r κ') (hm : mkQ τ x r' τ') : mC τ' = 0 ∧ r = r' ∧ Tie κ' τ' := by
  have hN := h.1.2.1.1
  rcases hx with ⟨j, hj, e1, h0, rfl, rfl⟩ | ⟨n1, rfl, rfl⟩
  · rcases hm with ⟨n2, -, -⟩ | ⟨j', hj', e2, ⟨q, -, -⟩ | ⟨q, rfl, rfl⟩⟩
    · exact absurd e1 (n2 j hj)
    · omega
    · obtain rfl : j = j' := ni16 (by omega) (by omega) (e1.symm.trans e2)
      exact ⟨rfl, rfl, tie_mk h j hj h0⟩
  · rcases hm with ⟨n2, rfl, rfl⟩ | ⟨j', hj', e2, -⟩
    · exact ⟨rfl, rfl, h⟩
    · exact absurd e2 (n1 j' hj')
theorem tie_makeX {κ : SX} {τ τ' : SM} {x r' : Int32} (h : Tie κ τ) (hx : mkT κ x) (hm : mkQ τ x r' τ') : mC τ' = 1 ∧ Tie κ τ' := by
  obtain ⟨j, hj, e1, h0⟩ := hx
  have hN := h.1.2.1.1
  rcases hm with ⟨n2, -, -⟩ | ⟨j', hj', e2, ⟨q, -, rfl⟩ | ⟨q, -, -⟩⟩
  · exact absurd e1 (n2 j hj)
  · exact ⟨rfl, h⟩
  · omega
/-- what the reference's contracts ask besides -/
theorem tie_ex {κ : SX} {τ : SM} (h : Tie κ τ) (q : 0 < mMd τ) : ∃ c, c < 16 ∧ 0 < mHs τ c := by
  rw [h.1.2.2.1.1] at q
  obtain ⟨c, hc, hb⟩ := h.2.1.2.2.2.2.2.2.1 q
  exact ⟨c, hc, Nat.pos_of_ne_zero ((h.1.1.2.1 c hc).mpr hb)⟩
theorem tie_mF {κ : SX} {τ : SM} (h : Tie κ τ) : mF τ ≤ 16 := by rw [h.1.1.1]; exact h.2.1.1.2.1
theorem tie_mN {κ : SX} {τ : SM} (h : Tie κ τ) : mN τ ≤ 40 := by rw [h.1.2.1.1]; exact h.2.1.1.2.2.1
theorem tie_mMd {κ : SX} {τ : SM} (h : Tie κ τ) : mMd τ ≤ 1 := by rw [h.1.2.2.1.1]; exact h.2.1.1.2.2.2.1
theorem tie_mHs {κ : SX} {τ : SM} (h : Tie κ τ) : ∀ c, c < 16 → mHs τ c < 2 ^ 31 := fun c hc => by have := h.2.2.2.2 c hc; omega
theorem tie_mSg {κ : SX} {τ : SM} (h : Tie κ τ) : ∀ f, f < mF τ → mSg τ f < 2 ^ 31 := fun f hf => by
  rw [h.1.1.1] at hf
  rw [h.1.2.2.2.1 f hf]
  have := h.2.1.2.2.2.1 f
  omega
theorem tie_xMb {κ : SX} {τ : SM} (h : Tie κ τ) : ∀ c, c < 16 → xMb κ c < 2 ^ 31 := fun c hc => by have := h.2.1.2.2.2.2.1 c hc; omega
theorem tie_xSg {κ : SX} {τ : SM} (h : Tie κ τ) : ∀ f, f < xF κ → xSg κ f < 2 ^ 31 := fun f _ => by have := h.2.1.2.2.2.1 f; omega
end
section
/-! ===== the law's own methods ===== -/
theorem at_J {D : va_G} {cl : List vw_C} {H : Heap} {a n : Nat} {c : ClassId} {f g : Nat → Int64} (h : va_at D cl (a, hJ c n f) H) (hj : ∀ j, j < n → f j = g j) : va_at D cl (a, hJ c n g) H := by
  have h1 : H[a]? = some (arrV c n (fun j => .long (f j))) := h
  rw [arrV_congr (g := fun j => .long (g j)) (fun j hn => by rw [hj j hn])] at h1
  exact h1
/-- one long, one double -/
abbrev atJ1 (E : zE) (aj : Nat) (v : Int64) (H : Heap) : Prop := va_at E.1 vwCl (aj, hJ (eJ E) 1 (fun _ => v)) H
abbrev atD1 (E : zE) (aj : Nat) (v : UInt64) (H : Heap) : Prop := va_at E.1 vwCl (aj, hD (eD E) 1 (fun _ => v)) H
theorem va_one {D : va_G} {cl : List vw_C} {a : Nat} {e : va_E} {H : Heap} (h : va_at D cl (a, e) H) : va_P D cl [(a, e)] H := fun k q hk => by
  have h0 : k < 1 := (List.getElem?_eq_some_iff.mp hk).1
  obtain rfl : k = 0 := by omega
  cases hk
  exact h
theorem atJ1.kept {E : zE} {aj : Nat} {v : Int64} {H H1 : Heap} (h : atJ1 E aj v H) (hq : H1[aj]? = H[aj]?) : atJ1 E aj v H1 := hq.trans h
theorem atD1.kept {E : zE} {aj : Nat} {v : UInt64} {H H1 : Heap} (h : atD1 E aj v H) (hq : H1[aj]? = H[aj]?) : atD1 E aj v H1 := hq.trans h
theorem atJ1.lt {E : zE} {aj : Nat} {v : Int64} {H : Heap} (h : atJ1 E aj v H) : aj < H.size := (Array.getElem?_eq_some_iff.mp (show H[aj]? = some _ from h)).1
theorem atD1.lt {E : zE} {aj : Nat} {v : UInt64} {H : Heap} (h : atD1 E aj v H) : aj < H.size := (Array.getElem?_eq_some_iff.mp (show H[aj]? = some _ from h)).1
theorem wn_other {D : va_G} {cl : List vw_C} {n aj : Nat} {ad : Nat → Nat} {d : Nat → va_E} {H H1 : Heap} (hP : va_P D cl (wn n ad d) H) (ho : ∀ q : Nat, q ≠ aj → H1[q]? = H[q]?) (hn : ¬ aX n ad aj) : va_P D cl (wn n ad d) H1 := hP.kept fun k q hk => by
  obtain ⟨h1, rfl⟩ := wn_of hk
  exact ho _ fun e => hn ⟨k, h1, e.symm⟩
section LROWS
variable {p : Program} {l : Launch} {e : Env} {R : Room} {s : State} {m : MethodId} {args : Array Value} {below : List Frame} {meth : Method} {c : Code} {H : Heap} {locs : List Loc} {cells slots : Nat} {Q : State → Prop}
variable {cc : ByteArray} {pc : Nat} {ls : Array Slot} {rest : List Value} {E : zE} {A : Nat → Prop} {H0 : Heap} {aj : Nat}
theorem z_last1 (hx : p.tables.exec = Jvm.exec) (hb : c.code = cc) (hK : zK E s) {v x : Int64} (hat : atJ1 E aj v H) (hA : A aj) (hS : va_S A H0 H locs) (hdg : decode cc pc = .ok (.lastore, 1))
    (kk : ∀ (H1 : Heap) (locs1 : List Loc), atJ1 E aj x H1 → (∀ q : Nat, q ≠ aj → H1[q]? = H[q]?) → va_S A H0 H1 locs1 → W p l e R s m args below meth c H1 locs1 cells slots Q (F0 m (pc + 1) ls rest)) : W p l e R s m args below meth c H locs cells slots Q (F0 m pc ls (.long x :: .int (nI 0) :: .ref aj :: rest)) := by
  refine W.last hx hb (show H[aj]? = some (vp_cell (eJ E) (1, .inr (.inl fun _ => v))) from hat) ((hK.2 5 _ rfl).1 1 (fun _ => .long v)) (fun q => by cases q) (by show ¬ (nI 0 < 0 ∨ (arrV _ _ _).slots.size ≤ _); rw [arrV_size]; exact vp_in_nI (n := 0) (N := 1) (by decide) (by decide)) rfl rfl hdg fun H1 e z oq => ?_
  refine kk H1 _ ?_ oq (hS.put z oq hA)
  show H1[aj]? = some (vp_cell (eJ E) (1, .inr (.inl fun _ => x)))
  rw [e, vp_cell_l, vp_cell_l, arrV_store]
  refine congrArg some (arrV_congr fun j hj => ?_)
  obtain rfl : j = 0 := by omega
  simp [updV, nI_clamp]
theorem z_dast1 (hx : p.tables.exec = Jvm.exec) (hb : c.code = cc) (hK : zK E s) {v x : UInt64} (hat : atD1 E aj v H) (hA : A aj) (hS : va_S A H0 H locs) (hdg : decode cc pc = .ok (.dastore, 1))
    (kk : ∀ (H1 : Heap) (locs1 : List Loc), atD1 E aj x H1 → (∀ q : Nat, q ≠ aj → H1[q]? = H[q]?) → va_S A H0 H1 locs1 → W p l e R s m args below meth c H1 locs1 cells slots Q (F0 m (pc + 1) ls rest)) : W p l e R s m args below meth c H locs cells slots Q (F0 m pc ls (.double x :: .int (nI 0) :: .ref aj :: rest)) := by
  refine W.dast hx hb (show H[aj]? = some (vp_cell (eD E) (1, .inr (.inr (.inr (.inl fun _ => v))))) from hat) ((hK.2 2 _ rfl).1 1 (fun _ => .double v)) (fun q => by cases q) (by show ¬ (nI 0 < 0 ∨ (arrV _ _ _).slots.size ≤ _); rw [arrV_size]; exact vp_in_nI (n := 0) (N := 1) (by decide) (by decide)) rfl rfl hdg fun H1 e z oq => ?_
  refine kk H1 _ ?_ oq (hS.put z oq hA)
  show H1[aj]? = some (vp_cell (eD E) (1, .inr (.inr (.inr (.inl fun _ => x)))))
  rw [e, vp_cell_d, vp_cell_d, arrV_store]
  refine congrArg some (arrV_congr fun j hj => ?_)
  obtain rfl : j = 0 := by omega
  simp [updV, nI_clamp]
end LROWS
/-- the two classes are caught as themselves -/
def zCs (U : State) : Prop := va_Nw (.castable RJx00060 RJx00060) U ∧ va_Nw (.castable "java/lang/ArithmeticException" "java/lang/ArithmeticException") U
theorem zCs.same {U V : State} (h : zCs U) (h1 : U.vm = V.vm) : zCs V := ⟨va_Nw.same rfl h1 h.1, va_Nw.same rfl h1 h.2⟩
theorem zCs.warm {s U : State} (h : zCs s) (hW : s.WarmedH U.vm) : zCs U := ⟨va_Nw.warmC hW h.1, va_Nw.warmC hW h.2⟩
theorem wsV_app {big ws at9 : List Cond} {o C : String} {i : Nat} {y : MethodName} (h : GoodIn big (wsV o i C y ws)) (h2 : GoodIn big at9) : GoodIn big (wsV o i C y (ws ++ at9)) := by
  unfold wsV at *
  rw [← List.append_assoc]
  exact goodIn_app h h2
theorem atIg_in {big : List Cond} (h : ∀ w ∈ atIg, w ∈ big) : GoodIn big atIg := fun w hw => ⟨h w hw, good_of_word (List.mem_filter.mp hw).2⟩
def wtL_feature : List Cond := wsL_feature ++ (.classLink RL 13 RJx00060 :: atIg)
def wtL_sign : List Cond := wsL_sign ++ (.classLink RL 13 RJx00060 :: atIg)
def wtL_weight : List Cond := wsL_weight ++ (.classLink RL 13 RJx00060 :: atIg)
theorem gtL_feature_X0_feature : GoodIn wtL_feature (wsV RL 7 RX0 yX0_feature wtX0_feature) := wsV_app (goodIn_mono (fun w h => List.mem_append_left _ h) gL_feature_X0_feature) (atIg_in fun w h => List.mem_append_right _ (List.mem_cons_of_mem _ h))
theorem gtL_sign_X0_sign : GoodIn wtL_sign (wsV RL 21 RX0 yX0_sign wtX0_sign) := wsV_app (goodIn_mono (fun w h => List.mem_append_left _ h) gL_sign_X0_sign) (atIg_in fun w h => List.mem_append_right _ (List.mem_cons_of_mem _ h))
theorem gtL_weight_X0_weight : GoodIn wtL_weight (wsV RL 25 RX0 yX0_weight wtX0_weight) := wsV_app (goodIn_mono (fun w h => List.mem_append_left _ h) gL_weight_X0_weight) (atIg_in fun w h => List.mem_append_right _ (List.mem_cons_of_mem _ h))
def ftR (κ : SX) (x y z r : Int32) (κ' : SX) : Prop := (r = nI 0 ∧ ftP κ x y z κ') ∨ (r = nI 1 ∧ ftX κ x y ∧ κ' = κ)
def sgR (κ : SX) (x z r : Int32) (κ' : SX) : Prop := (r = nI 0 ∧ sgP κ x z κ') ∨ (r = nI 1 ∧ sgX κ x ∧ κ' = κ)
def wtR (κ : SX) (x y : Int32) (v0 : UInt64) (r : Int32) (v : UInt64) : Prop := (r = nI 0 ∧ wtP κ x y v) ∨ (r = nI 1 ∧ wtX κ x y ∧ v = v0)
def mkR (κ : SX) (x : Int32) (v0 : Int64) (r : Int32) (κ' : SX) (v : Int64) : Prop := (r = nI 0 ∧ ∃ z : Int32, mkP κ x z κ' ∧ v = z.toInt64) ∨ (r = nI 1 ∧ mkT κ x ∧ κ' = κ ∧ v = v0)
/-- the script's first int, 0 where there is none -/
def cl0 (L : Nat) (xs : Nat → Int32) : Int32 := if 0 < L then xs 0 else nI 0
set_option maxHeartbeats 4000000 in
set_option maxRecDepth 100000 in
theorem kL_cell (l : Launch) (b L : Nat) (xs : Nat → Int32) (hL : L < 2 ^ 31) : Met l yL_cell wsL_cell ({ frames := 0, cells := 0, slots := 0, locals := 0 }) (va_Pc [.ref b, .int (nI 0)] (fun U => va_X b L xs U U.heap ∧ b < U.heap.size)) (va_Qi (fun (r : Int32) (_ : Unit) => r = cl0 L xs) (fun _ _ => True) (fun _ => False)) 0 0 (fun _ => False) := by
  refine Met.ofW (cc := cL_cell) (maxL := 2) (ret := some .int) (by decide) rfl ?_
  intro p e s m args below meth c s₁ B hml hv
  obtain ⟨rfl, hX, hbl⟩ := hv
  have hx := B.exec
  have hb := B.bytes
  have hr := B.returns
  have hlocks := B.notSynchronized
  have hS : va_S (fun _ => False) s.heap s.heap [] := va_S.rf
  have hl := lv_entry ([.ref b, .int (nI 0)]) (n := 2) (Nat.le_of_ble_eq_true rfl)
  rw [lg_entry_eq]
  generalize (lg_sl ([.ref b, .int (nI 0)]) ++ List.replicate (2 - (lg_sl ([.ref b, .int (nI 0)])).length) Slot.unset).toArray = ls at hl ⊢
  have hl : lv_has ls 2 [(0, .ref b), (1, .int (nI 0))] := hl
  refine lv_iload_n hx hb dL_cell_0 rfl (lv_at hl 1 rfl) ?_
  refine lv_aload_n hx hb dL_cell_1 rfl (lv_at hl 0 rfl) ?_
  refine va_slen hx hb hX hbl not_false hS dL_cell_2 ?_
  refine zb_ge (tgt := 12) (a := 0) (b := L) hx hb (by decide) hL dL_cell_3 (by decide) (fun h => ?_) (fun h => ?_)
  · refine lv_iconst (v := nI 0) hx hb dL_cell_12 (by decide +kernel) ?_
    exact W.iret hx hb hr (fun t ht hW => ⟨⟨_, (), rfl, (if_neg (show ¬ 0 < L by omega)).symm, trivial⟩, hS.F ht⟩) hS.2.2 dL_cell_13
  · refine lv_aload_n hx hb dL_cell_6 rfl (lv_at hl 0 rfl) ?_
    refine lv_iload_n hx hb dL_cell_7 rfl (lv_at hl 1 rfl) ?_
    refine va_sld hx hb hX hbl not_false hS (vp_in_nI h hL) dL_cell_8 ?_
    rw [nI_clamp (by decide)]
    refine lv_goto (tgt := 13) hx hb dL_cell_9 (by decide) ?_
    exact W.iret hx hb hr (fun t ht hW => ⟨⟨_, (), rfl, (if_pos h).symm, trivial⟩, hS.F ht⟩) hS.2.2 dL_cell_13
set_option maxHeartbeats 4000000 in
set_option maxRecDepth 100000 in
theorem kL_feature (l : Launch) (hst9 : l.stackTraces = false) (E : zE) (ad : Nat → Nat) (hap : apart 96 ad) (κ : SX) (x y z : Int32) (hF : xF κ ≤ 16) (hN : xN κ ≤ 40) : Met l yL_feature wtL_feature ({ frames := 8, cells := 1, slots := 6, locals := 118 }) (va_Pc [.ref (ad 0), .int (x), .int (y), .int (z)] (fun U => PX E ad κ U.heap ∧ zK E U ∧ zTh (aX 96 ad) U ∧ zCs U)) (va_Qi (fun (r : Int32) (κ' : SX) => ftR κ x y z r κ') (fun κ' t => PX E ad κ' t.heap) (aX 96 ad)) 1 6 (aX 96 ad) := by
  refine va_MetW (cc := cL_feature) (maxL := 5) (ret := some .int) (by decide) rfl ?_
  intro p e s m args below meth c s₁ B hml hv
  obtain ⟨rfl, hP, hK, hT9, hC9⟩ := hv
  have hx := B.exec
  have hb := B.bytes
  have hr := B.returns
  have hts := atoms_spec (ws := wtL_feature) B.pre
  have hTab := vx_table (x := yL_feature) B (hts (.codeWith yL_feature cL_feature 5 (some .int) [(0, 7, 10, 13)]) (List.mem_append_left _ List.mem_cons_self))
  have hown : s.vm.findClass RL = some m.cls := findClass_of_methodNamed B.named
  have hlocks := B.notSynchronized
  have hS : va_S (aX 96 ad) s.heap s.heap [] := va_S.rf
  have hl := lv_entry ([.ref (ad 0), .int (x), .int (y), .int (z)]) (n := 5) (Nat.le_of_ble_eq_true rfl)
  rw [lg_entry_eq]
  generalize (lg_sl ([.ref (ad 0), .int (x), .int (y), .int (z)]) ++ List.replicate (5 - (lg_sl ([.ref (ad 0), .int (x), .int (y), .int (z)])).length) Slot.unset).toArray = ls at hl ⊢
  have hl : lv_has ls 5 [(0, .ref (ad 0)), (1, .int (x)), (2, .int (y)), (3, .int (z))] := hl
  have hRf : 8 ≤ ((headSpec wtL_feature ({ frames := 8, cells := 1, slots := 6, locals := 118 })).room).frames := Nat.le_of_ble_eq_true rfl
  have hRl : 118 ≤ ((headSpec wtL_feature ({ frames := 8, cells := 1, slots := 6, locals := 118 })).room).locals := Nat.le_of_ble_eq_true rfl
  refine lv_aload_n hx hb dL_feature_0 rfl (lv_at hl 0 rfl) ?_
  refine lv_iload_n hx hb dL_feature_1 rfl (lv_at hl 1 rfl) ?_
  refine lv_iload_n hx hb dL_feature_2 rfl (lv_at hl 2 rfl) ?_
  refine lv_iload_n hx hb dL_feature_3 rfl (lv_at hl 3 rfl) ?_
  refine vx_callv (vx_runV (As := [.int (x), .int (y), .int (z)]) (rest := []) ⟨hx, hb, hml, hown, hts⟩ (kX0_feature l hst9 E ad hap κ x y z hF hN) (cwV 3 hts gtL_feature_X0_feature rfl rfl rfl (by decide +kernel) ⟨Nat.le_trans (Nat.le_of_ble_eq_true rfl) hRf, Nat.le_trans (Nat.le_of_ble_eq_true rfl) hRl⟩) (zpxT hK hP hT9 hS (fun q h => h)) rfl rfl hl.1 rfl (lv_room (Nat.le_of_ble_eq_true rfl)) dL_feature_4 ⟨Nat.le_of_ble_eq_true rfl, Nat.le_of_ble_eq_true rfl⟩) hS (fun q _ h => h) (fun q h => h) (fun q _ h => h) (fun E9 ce q9 u9 t9 H locs ht9 hvm9 hw9 hB9 hz9 hk9 hS hce hcv hcl => ?_) (fun κ9 t9 H locs ht9 hvm9 hw9 hB9 hz9 hk9 hS => ?_)
  · obtain ⟨rfl, hP⟩ := hB9
    rw [ht9] at hP
    refine vx_catch (own := RL) (name := RJx00060) (E := RJx00060) hown [] ⟨0, 7, 10, 13⟩ [] (by rw [hTab]; rfl) (fun z hz => nomatch hz) (by decide) (by decide) (hts (.classLink RL 13 RJx00060) (List.mem_append_right _ List.mem_cons_self)) (va_Nw.use rfl hC9.1) hce hcv hcl ?_
    refine lv_astore (lv' := [(4, .ref q9), (0, .ref (ad 0)), (1, .int (x)), (2, .int (y)), (3, .int (z))]) hx hb dL_feature_10 hl (by decide) rfl (fun ls hl => ?_)
    refine lv_iconst (v := nI 1) hx hb dL_feature_12 (by decide +kernel) ?_
    exact W.iret hx hb hr (fun t ht hW => ⟨⟨_, κ, rfl, Or.inr ⟨rfl, hw9, rfl⟩, (wn_h ht hP)⟩, hS.F ht⟩) hS.2.2 dL_feature_13
  · rw [ht9] at hB9
    have hP := hB9
    refine lv_goto (tgt := 14) hx hb dL_feature_7 (by decide) ?_
    refine lv_iconst (v := nI 0) hx hb dL_feature_14 (by decide +kernel) ?_
    exact W.iret hx hb hr (fun t ht hW => ⟨⟨_, κ9, rfl, Or.inl ⟨rfl, hw9⟩, (wn_h ht hP)⟩, hS.F ht⟩) hS.2.2 dL_feature_15
set_option maxHeartbeats 4000000 in
set_option maxRecDepth 100000 in
theorem kL_sign (l : Launch) (hst9 : l.stackTraces = false) (E : zE) (ad : Nat → Nat) (hap : apart 96 ad) (κ : SX) (x z : Int32) (hF : xF κ ≤ 16) : Met l yL_sign wtL_sign ({ frames := 8, cells := 1, slots := 6, locals := 118 }) (va_Pc [.ref (ad 0), .int (x), .int (z)] (fun U => PX E ad κ U.heap ∧ zK E U ∧ zTh (aX 96 ad) U ∧ zCs U)) (va_Qi (fun (r : Int32) (κ' : SX) => sgR κ x z r κ') (fun κ' t => PX E ad κ' t.heap) (aX 96 ad)) 1 6 (aX 96 ad) := by
  refine va_MetW (cc := cL_sign) (maxL := 4) (ret := some .int) (by decide) rfl ?_
  intro p e s m args below meth c s₁ B hml hv
  obtain ⟨rfl, hP, hK, hT9, hC9⟩ := hv
  have hx := B.exec
  have hb := B.bytes
  have hr := B.returns
  have hts := atoms_spec (ws := wtL_sign) B.pre
  have hTab := vx_table (x := yL_sign) B (hts (.codeWith yL_sign cL_sign 4 (some .int) [(0, 6, 9, 13)]) (List.mem_append_left _ List.mem_cons_self))
  have hown : s.vm.findClass RL = some m.cls := findClass_of_methodNamed B.named
  have hlocks := B.notSynchronized
  have hS : va_S (aX 96 ad) s.heap s.heap [] := va_S.rf
  have hl := lv_entry ([.ref (ad 0), .int (x), .int (z)]) (n := 4) (Nat.le_of_ble_eq_true rfl)
  rw [lg_entry_eq]
  generalize (lg_sl ([.ref (ad 0), .int (x), .int (z)]) ++ List.replicate (4 - (lg_sl ([.ref (ad 0), .int (x), .int (z)])).length) Slot.unset).toArray = ls at hl ⊢
  have hl : lv_has ls 4 [(0, .ref (ad 0)), (1, .int (x)), (2, .int (z))] := hl
  have hRf : 8 ≤ ((headSpec wtL_sign ({ frames := 8, cells := 1, slots := 6, locals := 118 })).room).frames := Nat.le_of_ble_eq_true rfl
  have hRl : 118 ≤ ((headSpec wtL_sign ({ frames := 8, cells := 1, slots := 6, locals := 118 })).room).locals := Nat.le_of_ble_eq_true rfl
  refine lv_aload_n hx hb dL_sign_0 rfl (lv_at hl 0 rfl) ?_
  refine lv_iload_n hx hb dL_sign_1 rfl (lv_at hl 1 rfl) ?_
  refine lv_iload_n hx hb dL_sign_2 rfl (lv_at hl 2 rfl) ?_
  refine vx_callv (vx_runV (As := [.int (x), .int (z)]) (rest := []) ⟨hx, hb, hml, hown, hts⟩ (kX0_sign l hst9 E ad hap κ x z hF) (cwV 2 hts gtL_sign_X0_sign rfl rfl rfl (by decide +kernel) ⟨Nat.le_trans (Nat.le_of_ble_eq_true rfl) hRf, Nat.le_trans (Nat.le_of_ble_eq_true rfl) hRl⟩) (zpxT hK hP hT9 hS (fun q h => h)) rfl rfl hl.1 rfl (lv_room (Nat.le_of_ble_eq_true rfl)) dL_sign_3 ⟨Nat.le_of_ble_eq_true rfl, Nat.le_of_ble_eq_true rfl⟩) hS (fun q _ h => h) (fun q h => h) (fun q _ h => h) (fun E9 ce q9 u9 t9 H locs ht9 hvm9 hw9 hB9 hz9 hk9 hS hce hcv hcl => ?_) (fun κ9 t9 H locs ht9 hvm9 hw9 hB9 hz9 hk9 hS => ?_)
  · obtain ⟨rfl, hP⟩ := hB9
    rw [ht9] at hP
    refine vx_catch (own := RL) (name := RJx00060) (E := RJx00060) hown [] ⟨0, 6, 9, 13⟩ [] (by rw [hTab]; rfl) (fun z hz => nomatch hz) (by decide) (by decide) (hts (.classLink RL 13 RJx00060) (List.mem_append_right _ List.mem_cons_self)) (va_Nw.use rfl hC9.1) hce hcv hcl ?_
    refine lv_astore_n (lv' := [(3, .ref q9), (0, .ref (ad 0)), (1, .int (x)), (2, .int (z))]) hx hb dL_sign_9 rfl hl (by decide) rfl (fun ls hl => ?_)
    refine lv_iconst (v := nI 1) hx hb dL_sign_10 (by decide +kernel) ?_
    exact W.iret hx hb hr (fun t ht hW => ⟨⟨_, κ, rfl, Or.inr ⟨rfl, hw9, rfl⟩, (wn_h ht hP)⟩, hS.F ht⟩) hS.2.2 dL_sign_11
  · rw [ht9] at hB9
    have hP := hB9
    refine lv_goto (tgt := 12) hx hb dL_sign_6 (by decide) ?_
    refine lv_iconst (v := nI 0) hx hb dL_sign_12 (by decide +kernel) ?_
    exact W.iret hx hb hr (fun t ht hW => ⟨⟨_, κ9, rfl, Or.inl ⟨rfl, hw9⟩, (wn_h ht hP)⟩, hS.F ht⟩) hS.2.2 dL_sign_13
set_option maxHeartbeats 4000000 in
set_option maxRecDepth 100000 in
theorem kL_weight (l : Launch) (hst9 : l.stackTraces = false) (E : zE) (ad : Nat → Nat) (hap : apart 96 ad) (κ : SX) (x y : Int32) (hF : xF κ ≤ 16) (aj : Nat) (hna : ¬ aX 96 ad aj) (v0 : UInt64) : Met l yL_weight wtL_weight ({ frames := 8, cells := 1, slots := 6, locals := 118 }) (va_Pc [.ref (ad 0), .int (x), .int (y), .ref aj] (fun U => PX E ad κ U.heap ∧ zK E U ∧ zTh (fun q => aX 96 ad q ∨ q = aj) U ∧ zCs U ∧ atD1 E aj v0 U.heap)) (va_Qi (fun (r : Int32) (v : UInt64) => wtR κ x y v0 r v) (fun v t => PX E ad κ t.heap ∧ atD1 E aj v t.heap) (fun q => aX 96 ad q ∨ q = aj)) 1 6 (fun q => aX 96 ad q ∨ q = aj) := by
  refine va_MetW (cc := cL_weight) (maxL := 5) (ret := some .int) (by decide) rfl ?_
  intro p e s m args below meth c s₁ B hml hv
  obtain ⟨rfl, hP, hK, hT9, hC9, hJ9⟩ := hv
  have hx := B.exec
  have hb := B.bytes
  have hr := B.returns
  have hts := atoms_spec (ws := wtL_weight) B.pre
  have hTab := vx_table (x := yL_weight) B (hts (.codeWith yL_weight cL_weight 5 (some .int) [(0, 9, 12, 13)]) (List.mem_append_left _ List.mem_cons_self))
  have hown : s.vm.findClass RL = some m.cls := findClass_of_methodNamed B.named
  have hlocks := B.notSynchronized
  have hS : va_S (fun q => aX 96 ad q ∨ q = aj) s.heap s.heap [] := va_S.rf
  have hl := lv_entry ([.ref (ad 0), .int (x), .int (y), .ref aj]) (n := 5) (Nat.le_of_ble_eq_true rfl)
  rw [lg_entry_eq]
  generalize (lg_sl ([.ref (ad 0), .int (x), .int (y), .ref aj]) ++ List.replicate (5 - (lg_sl ([.ref (ad 0), .int (x), .int (y), .ref aj])).length) Slot.unset).toArray = ls at hl ⊢
  have hl : lv_has ls 5 [(0, .ref (ad 0)), (1, .int (x)), (2, .int (y)), (3, .ref aj)] := hl
  have hRf : 8 ≤ ((headSpec wtL_weight ({ frames := 8, cells := 1, slots := 6, locals := 118 })).room).frames := Nat.le_of_ble_eq_true rfl
  have hRl : 118 ≤ ((headSpec wtL_weight ({ frames := 8, cells := 1, slots := 6, locals := 118 })).room).locals := Nat.le_of_ble_eq_true rfl
  refine lv_aload_n hx hb dL_weight_0 rfl (lv_at hl 3 rfl) ?_
  refine lv_iconst (v := nI 0) hx hb dL_weight_1 (by decide +kernel) ?_
  refine lv_aload_n hx hb dL_weight_2 rfl (lv_at hl 0 rfl) ?_
  refine lv_iload_n hx hb dL_weight_3 rfl (lv_at hl 1 rfl) ?_
  refine lv_iload_n hx hb dL_weight_4 rfl (lv_at hl 2 rfl) ?_
  have hlt := hJ9.lt
  refine vx_calld (vx_runV (As := [.int (x), .int (y)]) (rest := [.int (nI 0), .ref aj]) ⟨hx, hb, hml, hown, hts⟩ (kX0_weight l hst9 E ad hap κ x y hF) (cwV 2 hts gtL_weight_X0_weight rfl rfl rfl (by decide +kernel) ⟨Nat.le_trans (Nat.le_of_ble_eq_true rfl) hRf, Nat.le_trans (Nat.le_of_ble_eq_true rfl) hRl⟩) (zpxT hK hP hT9 hS (fun q h => Or.inl h)) rfl rfl hl.1 rfl (lv_room (Nat.le_of_ble_eq_true rfl)) dL_weight_5 ⟨Nat.le_of_ble_eq_true rfl, Nat.le_of_ble_eq_true rfl⟩) hS (fun q _ h => Or.inl h) (fun q h => Or.inl h) (fun q _ h => Or.inl h) (fun E9 ce q9 u9 t9 H locs ht9 hvm9 hw9 hB9 hz9 hk9 hS hce hcv hcl => ?_) (fun r9 u9 t9 H locs ht9 hvm9 hw9 hB9 hz9 hk9 hS => ?_)
  · obtain ⟨rfl, hP⟩ := hB9
    rw [ht9] at hP
    have hJ9 := hJ9.kept (hk9 aj hlt hna)
    refine vx_catch (own := RL) (name := RJx00060) (E := RJx00060) hown [] ⟨0, 9, 12, 13⟩ [] (by rw [hTab]; rfl) (fun z hz => nomatch hz) (by decide) (by decide) (hts (.classLink RL 13 RJx00060) (List.mem_append_right _ List.mem_cons_self)) (va_Nw.use rfl hC9.1) hce hcv hcl ?_
    refine lv_astore (lv' := [(4, .ref q9), (0, .ref (ad 0)), (1, .int (x)), (2, .int (y)), (3, .ref aj)]) hx hb dL_weight_12 hl (by decide) rfl (fun ls hl => ?_)
    refine lv_iconst (v := nI 1) hx hb dL_weight_14 (by decide +kernel) ?_
    exact W.iret hx hb hr (fun t ht hW => ⟨⟨_, v0, rfl, Or.inr ⟨rfl, hw9, rfl⟩, (wn_h ht hP), by rw [ht]; exact hJ9⟩, hS.F ht⟩) hS.2.2 dL_weight_15
  · rw [ht9] at hB9
    have hP := hB9
    have hJ9 := hJ9.kept (hk9 aj hlt hna)
    refine z_dast1 hx hb hK hJ9 (Or.inr rfl) hS dL_weight_8 (fun H locs hJ9 ho9 hS => ?_)
    have hP := wn_other hP ho9 hna
    refine lv_goto (tgt := 16) hx hb dL_weight_9 (by decide) ?_
    refine lv_iconst (v := nI 0) hx hb dL_weight_16 (by decide +kernel) ?_
    exact W.iret hx hb hr (fun t ht hW => ⟨⟨_, r9, rfl, Or.inl ⟨rfl, hw9⟩, (wn_h ht hP), by rw [ht]; exact hJ9⟩, hS.F ht⟩) hS.2.2 dL_weight_17
set_option maxHeartbeats 4000000 in
set_option maxRecDepth 100000 in
theorem kL_make (l : Launch) (hst9 : l.stackTraces = false) (E : zE) (ad : Nat → Nat) (hap : apart 96 ad) (κ : SX) (x : Int32) (hF : xF κ ≤ 16) (hN : xN κ ≤ 40) (hec : ∀ e, xEc κ e < 16) (hev : ∀ e f, xEv κ e f < 256) (aj : Nat) (hna : ¬ aX 96 ad aj) (v0 : Int64) : Met l yL_make wsL_make ({ frames := 7, cells := 1, slots := 6, locals := 119 }) (va_Pc [.ref (ad 0), .int (x), .ref aj] (fun U => PX E ad κ U.heap ∧ zK E U ∧ zTh (fun q => aX 96 ad q ∨ q = aj) U ∧ zCs U ∧ atJ1 E aj v0 U.heap)) (va_Qi (fun (r : Int32) (u : SX × Int64) => mkR κ x v0 r u.1 u.2) (fun u t => PX E ad u.1 t.heap ∧ atJ1 E aj u.2 t.heap) (fun q => aX 96 ad q ∨ q = aj)) 1 6 (fun q => aX 96 ad q ∨ q = aj) := by
  refine va_MetW (cc := cL_make) (maxL := 4) (ret := some .int) (by decide) rfl ?_
  intro p e s m args below meth c s₁ B hml hv
  obtain ⟨rfl, hP, hK, hT9, hC9, hJ9⟩ := hv
  have hx := B.exec
  have hb := B.bytes
  have hr := B.returns
  have hts := atoms_spec (ws := wsL_make) B.pre
  have hTab := vx_table (x := yL_make) B (hts (.codeWith yL_make cL_make 4 (some .int) [(0, 9, 12, 19)]) List.mem_cons_self)
  have hown : s.vm.findClass RL = some m.cls := findClass_of_methodNamed B.named
  have hlocks := B.notSynchronized
  have hS : va_S (fun q => aX 96 ad q ∨ q = aj) s.heap s.heap [] := va_S.rf
  have hl := lv_entry ([.ref (ad 0), .int (x), .ref aj]) (n := 4) (Nat.le_of_ble_eq_true rfl)
  rw [lg_entry_eq]
  generalize (lg_sl ([.ref (ad 0), .int (x), .ref aj]) ++ List.replicate (4 - (lg_sl ([.ref (ad 0), .int (x), .ref aj])).length) Slot.unset).toArray = ls at hl ⊢
  have hl : lv_has ls 4 [(0, .ref (ad 0)), (1, .int (x)), (2, .ref aj)] := hl
  have hRf : 7 ≤ ((headSpec wsL_make ({ frames := 7, cells := 1, slots := 6, locals := 119 })).room).frames := Nat.le_of_ble_eq_true rfl
  have hRl : 119 ≤ ((headSpec wsL_make ({ frames := 7, cells := 1, slots := 6, locals := 119 })).room).locals := Nat.le_of_ble_eq_true rfl
  refine lv_aload_n hx hb dL_make_0 rfl (lv_at hl 2 rfl) ?_
  refine lv_iconst (v := nI 0) hx hb dL_make_1 (by decide +kernel) ?_
  refine lv_aload_n hx hb dL_make_2 rfl (lv_at hl 0 rfl) ?_
  refine lv_iload_n hx hb dL_make_3 rfl (lv_at hl 1 rfl) ?_
  have hlt := hJ9.lt
  refine vx_calli (vx_runV (As := [.int (x)]) (rest := [.int (nI 0), .ref aj]) ⟨hx, hb, hml, hown, hts⟩ (kX0_make l hst9 E ad hap κ x hF hN hec hev) (cwV 1 hts gL_make_X0_make rfl rfl rfl (by decide +kernel) ⟨Nat.le_trans (Nat.le_of_ble_eq_true rfl) hRf, Nat.le_trans (Nat.le_of_ble_eq_true rfl) hRl⟩) (zpxT hK hP hT9 hS (fun q h => Or.inl h)) rfl rfl hl.1 rfl (lv_room (Nat.le_of_ble_eq_true rfl)) dL_make_4 ⟨Nat.le_of_ble_eq_true rfl, Nat.le_of_ble_eq_true rfl⟩) hS (fun q _ h => Or.inl h) (fun q h => Or.inl h) (fun q _ h => Or.inl h) (fun E9 ce q9 u9 t9 H locs ht9 hvm9 hw9 hB9 hz9 hk9 hS hce hcv hcl => ?_) (fun r9 κ9 t9 H locs ht9 hvm9 hw9 hB9 hz9 hk9 hS => ?_)
  · obtain ⟨rfl, hP⟩ := hB9
    rw [ht9] at hP
    have hJ9 := hJ9.kept (hk9 aj hlt hna)
    refine vx_catch (own := RL) (name := "java/lang/ArithmeticException") (E := "java/lang/ArithmeticException") hown [] ⟨0, 9, 12, 19⟩ [] (by rw [hTab]; rfl) (fun z hz => nomatch hz) (by decide) (by decide) (hts (.classLink RL 19 "java/lang/ArithmeticException") (List.mem_cons_of_mem _ (List.mem_append_left _ (List.mem_append_left _ (List.mem_append_left _ List.mem_cons_self))))) (va_Nw.use rfl hC9.2) hce hcv hcl ?_
    refine lv_astore_n (lv' := [(3, .ref q9), (0, .ref (ad 0)), (1, .int (x)), (2, .ref aj)]) hx hb dL_make_12 rfl hl (by decide) rfl (fun ls hl => ?_)
    refine lv_iconst (v := nI 1) hx hb dL_make_13 (by decide +kernel) ?_
    exact W.iret hx hb hr (fun t ht hW => ⟨⟨_, (κ, v0), rfl, Or.inr ⟨rfl, hw9, rfl, rfl⟩, (wn_h ht hP), by rw [ht]; exact hJ9⟩, hS.F ht⟩) hS.2.2 dL_make_14
  · rw [ht9] at hB9
    have hP := hB9
    have hJ9 := hJ9.kept (hk9 aj hlt hna)
    refine lv_i2l (v := r9.toInt64) hx hb dL_make_7 rfl ?_
    refine z_last1 hx hb hK hJ9 (Or.inr rfl) hS dL_make_8 (fun H locs hJ9 ho9 hS => ?_)
    have hP := wn_other hP ho9 hna
    refine lv_goto (tgt := 15) hx hb dL_make_9 (by decide) ?_
    refine lv_iconst (v := nI 0) hx hb dL_make_15 (by decide +kernel) ?_
    exact W.iret hx hb hr (fun t ht hW => ⟨⟨_, (κ9, r9.toInt64), rfl, Or.inl ⟨rfl, r9, hw9, rfl⟩, (wn_h ht hP), by rw [ht]; exact hJ9⟩, hS.F ht⟩) hS.2.2 dL_make_16
end
section
/-! ===== what holds where the law starts ===== -/
theorem arrK {args : Array Value} {s : State} {ty : FieldType} (h : (Cond.arrayClass ty).before args s = true) : ∃ cA, ArrOfT s cA ty ∧ s.vm.findClass ("[" ++ ty.toString) = some cA := by
  obtain ⟨cA, kA, comp, h1, h2, h3⟩ := Cond.arrayClass_spec h
  exact ⟨cA, fun n z => ⟨fun k h => (by cases h), kA, h2, comp, h3⟩, h1⟩
theorem arrO {args : Array Value} {s : State} {ty : FieldType} (h : (Cond.arrayOver (.array ty)).before args s = true) : ∃ cA, ArrOfT s cA (.array ty) ∧ s.vm.findClass ("[" ++ (FieldType.array ty).toString) = some cA := by
  obtain ⟨comp, cA, kA, hcomp, hkA, hkind, hn⟩ := Cond.arrayOver_specA h
  exact ⟨cA, fun n z => ⟨fun k h => (by cases h), kA, hkA, comp, hkind⟩, hn⟩
theorem lwT_II : Cond.arrayOver (.array .int) ∈ lw_tbl := by decide +kernel
theorem lwT_DD : Cond.arrayOver (.array .double) ∈ lw_tbl := by decide +kernel
theorem lw_K {args : Array Value} {s : State} (hts : ∀ w ∈ lw_tbl, w.before args s = true) : ∃ E : zE, zK E s := by
  obtain ⟨c0, iS0, hKn0⟩ := u_known (C := RJx00060) (T := TJx00060) (N := 6) (n := 6) hts inJx00060 (hts (.instantiable RJx00060 6) (by decide +kernel))
  obtain ⟨c1, iS1, hKn1⟩ := u_known (C := RX0) (T := TX0) (N := 11) (n := 11) hts inX0 (hts (.instantiable RX0 11) (by decide +kernel))
  obtain ⟨c2, iS2, hKn2⟩ := u_known (C := RX1) (T := TX1) (N := 12) (n := 12) hts inX1 (hts (.instantiable RX1 12) (by decide +kernel))
  obtain ⟨a0, p0, q0⟩ := arrK (hts (.arrayClass .int) (by decide +kernel))
  obtain ⟨a1, p1, q1⟩ := arrO (hts _ lwT_II)
  obtain ⟨a2, p2, q2⟩ := arrK (hts (.arrayClass .double) (by decide +kernel))
  obtain ⟨a3, p3, q3⟩ := arrO (hts _ lwT_DD)
  obtain ⟨a4, p4, q4⟩ := arrK (hts (.arrayClass .boolean) (by decide +kernel))
  obtain ⟨a5, p5, q5⟩ := arrK (hts (.arrayClass .long) (by decide +kernel))
  refine ⟨((fun k => if k = 0 then c0 else if k = 1 then c1 else c2, fun k => if k = 0 then iS0 else if k = 1 then iS1 else iS2), a0, a1, a2, a3, a4, a5), ?_, ?_⟩
  · intro k q hq
    match k, hq with
    | 0, hq => cases hq; exact hKn0
    | 1, hq => cases hq; exact hKn1
    | 2, hq => cases hq; exact hKn2
    | k + 3, hq => simp [vwCl] at hq
  · intro k q hq
    match k, hq with
    | 0, hq => cases hq; exact ⟨p0, q0⟩
    | 1, hq => cases hq; exact ⟨p1, q1⟩
    | 2, hq => cases hq; exact ⟨p2, q2⟩
    | 3, hq => cases hq; exact ⟨p3, q3⟩
    | 4, hq => cases hq; exact ⟨p4, q4⟩
    | 5, hq => cases hq; exact ⟨p5, q5⟩
    | k + 6, hq => simp [zT] at hq
theorem atB_tbl : ∀ w ∈ atB, w ∈ lw_tbl := by decide +kernel
theorem vkR_start {args : Array Value} {s : State} {k : Nat} {tx : String} (h1 : (Cond.stringRef RX0 k tx).before args s = true) (h2 : (Cond.exactly (.string RX0 k) "java/lang/String").before args s = true) : ∃ a : Nat, vk_R RX0 k tx a s := by
  obtain ⟨a, -, -, -, he, -⟩ := Cond.exactly_spec h2
  exact ⟨a, vk_R.of h1 he⟩
theorem lw_T {args : Array Value} {s : State} (hts : ∀ w ∈ lw_tbl, w.before args s = true) (hgv : (Jvm.Cond.and given_1 narrow_1).before args s = true) : zTh (fun q => s.heap.size ≤ q) s ∧ zCs s := by
  have hs := flat_of_before _ hgv
  have hA : ∀ a : Nat, a < s.heap.size → ¬ (fun q : Nat => s.heap.size ≤ q) a := fun a h => Nat.not_le.mpr h
  refine ⟨⟨fun w hw => va_Nw.of (isCD_ot (List.all_eq_true.mp atB_cd w hw)) (hts w (atB_tbl w hw)), ?_, ?_, ?_, ?_, ?_, ?_⟩, ?_, ?_⟩
  · exact vx_Zqof (hts (.laysStatic Bundle.tN "UNASSIGNED_STACK" Bundle.steD) (by decide +kernel)) (hts (.initialized Bundle.tN) (by decide +kernel)) (hs (.isRef (.static Bundle.tN "UNASSIGNED_STACK" Bundle.steD)) (by decide +kernel)) hA
  · exact vx_Zqof (hts (.laysStatic Bundle.tN "SUPPRESSED_SENTINEL" Bundle.listD) (by decide +kernel)) (hts (.initialized Bundle.tN) (by decide +kernel)) (hs (.isRef (.static Bundle.tN "SUPPRESSED_SENTINEL" Bundle.listD)) (by decide +kernel)) hA
  · exact vkR_start (hts (.stringRef RX0 51 "no such example or feature") (by decide +kernel)) (hs (.exactly (.string RX0 51) "java/lang/String") (by decide +kernel))
  · exact vkR_start (hts (.stringRef RX0 62 "no examples") (by decide +kernel)) (hs (.exactly (.string RX0 62) "java/lang/String") (by decide +kernel))
  · exact vkR_start (hts (.stringRef RX0 81 "no such feature") (by decide +kernel)) (hs (.exactly (.string RX0 81) "java/lang/String") (by decide +kernel))
  · exact vkR_start (hts (.stringRef RX0 110 "no such class or feature") (by decide +kernel)) (hs (.exactly (.string RX0 110) "java/lang/String") (by decide +kernel))
  · exact va_Nw.of rfl (hts (.castable RJx00060 RJx00060) (by decide +kernel))
  · exact va_Nw.of rfl (hts (.castable "java/lang/ArithmeticException" "java/lang/ArithmeticException") (by decide +kernel))
end
section
theorem zz_probe : True := trivial
end
