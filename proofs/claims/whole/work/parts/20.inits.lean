/-! ===== new cells into an indexed world; the constructors ===== -/
theorem wn_put {D : va_G} {cl : List vw_C} {n N : Nat} {ad : Nat → Nat} {d : Nat → va_E} {H H1 : Heap} (hP : va_P D cl (wn n ad d) H) (ho : ∀ q : Nat, q < H.size → H1[q]? = H[q]?) (hn : ∀ i, n ≤ i → i < N → va_at D cl (ad i, d i) H1) : va_P D cl (wn N ad d) H1 := by
  intro k q hk
  obtain ⟨h1, rfl⟩ := wn_of hk
  by_cases h2 : k < n
  · have h0 : va_P D cl (wn n ad d) H1 := hP.kept fun k x hx => ho x.1 ((hP k x hx).lt)
    exact h0 k _ (wn_at h2)
  · exact hn k (by omega) h1
/-- the object at place 0 holds fs, the other places d -/
def co (d : Nat → va_E) (ci : Nat) (fs : List Value) (k : Nat) : va_E := if k = 0 then .inr (ci, fs) else d k
theorem co_s {d : Nat → va_E} {ci : Nat} {fs : List Value} {k : Nat} (h : 0 < k) : co d ci fs k = d k := if_neg (by omega)
section ZNEW
variable {p : Program} {l : Launch} {e : Env} {R : Room} {s : State} {m : MethodId} {args : Array Value} {below : List Frame} {meth : Method} {c : Code} {H : Heap} {locs : List Loc} {cells slots : Nat} {Q : State → Prop}
variable {cc : ByteArray} {pc : Nat} {ls : Array Slot} {rest : List Value} {D : va_G} {cl : List vw_C} {A : Nat → Prop} {H0 : Heap} {n : Nat} {ad : Nat → Nat} {d : Nat → va_E}
theorem zn_newa (hx : p.tables.exec = Jvm.exec) (hb : c.code = cc) {atype : ArrayType} (harr : (Cond.arrayClass (newarray.typeOf atype)).before args s = true) {cA : ClassId} (hcA : s.vm.findClass ("[" ++ (newarray.typeOf atype).toString) = some cA) (hP : va_P D cl (wn n ad d) H) (hS : va_S A H0 H locs) (hsz : H.size = ad n)
    {v : Int32} {N' : Nat} {a0 : vp_A} (hd : d n = .inl (cA, a0)) (ha : vp_cell cA a0 = arrV cA N' (fun _ => defaultValue (newarray.typeOf atype))) (hn : ¬ v < 0) (hN : v.toNatClampNeg = N') (hbytes : N' * componentBytes (newarray.typeOf atype) ≤ 536870912) (hcells : cells + 1 ≤ R.cells) (hslots : slots + N' ≤ R.slots) (hdg : decode cc pc = .ok (.newarray atype, 2))
    (kk : ∀ (H1 : Heap), va_P D cl (wn (n + 1) ad d) H1 → va_S A H0 H1 locs → H1.size = H.size + 1 →
      W p l e R s m args below meth c H1 locs (cells + 1) (slots + N') Q (F0 m (pc + 2) ls (.ref (ad n) :: rest))) : W p l e R s m args below meth c H locs cells slots Q (F0 m pc ls (.int v :: rest)) := by
  refine va_newaK hx hb harr rfl hdg rfl hn hN hbytes hcells hslots hsz fun H1 cB e1 z1 o1 _ hNm => ?_
  have ec : cB = cA := Option.some.inj (hNm.symm.trans hcA)
  subst ec
  refine kk H1 (wn_put hP (fun q hq => o1 q (by omega)) fun i h1 h2 => ?_) ⟨by have := hS.1; omega, fun x h1 h2 => (o1 x (by have := hS.1; omega)).trans (hS.2.1 x h1 h2), hS.2.2⟩ (by omega)
  have hi : i = n := by omega
  subst hi
  rw [hd]
  show H1[ad i]? = some (vp_cell cB a0)
  rw [ha]
  exact e1
theorem zn_mna (hx : p.tables.exec = Jvm.exec) (hb : c.code = cc) {own : String} {index : Nat} {ty : FieldType} (hown : s.vm.findClass own = some m.cls) (hclink : (Cond.classLink own index ("[" ++ (FieldType.array ty).toString)).before args s = true) (hover : (Cond.arrayOver (.array ty)).before args s = true) (harr : (Cond.arrayClass ty).before args s = true)
    {cA cy : ClassId} (hcA : s.vm.findClass ("[" ++ (FieldType.array ty).toString) = some cA) (hcy : s.vm.findClass (FieldType.array ty).toString = some cy) (hP : va_P D cl (wn n ad d) H) (hS : va_S A H0 H locs) (hsz : H.size = ad n)
    {v k : Int32} {N' K' : Nat} {z : Nat → vp_A} (hv : ¬ v < 0) (hk : ¬ k < 0) (hN : v.toNatClampNeg = N') (hM : k.toNatClampNeg = K') (had : ∀ i, i < N' → ad (n + 1 + i) = ad n + 1 + i)
    (hd : d n = .inl (cA, N', .inr (.inr (.inr (.inr (fun i => if i < N' then some (ad (n + 1 + i)) else none)))))) (hdr : ∀ i, i < N' → d (n + 1 + i) = .inl (cy, z i)) (hz : ∀ i, i < N' → vp_cell cy (z i) = arrV cy K' (fun _ => defaultValue ty))
    (hb1 : N' * 4 ≤ 536870912) (hb2 : K' * componentBytes ty ≤ 536870912) (hb3 : K' ≤ 536870912) (hdf : fits ty (defaultValue ty) = true) (hdd : (defaultValue ty).isDefault = true) (hcells : cells + (1 + N') ≤ R.cells) (hslots : slots + (N' + N' * K') ≤ R.slots) (hdg : decode cc pc = .ok (.multianewarray index 2, 4))
    (kk : ∀ (H1 : Heap), va_P D cl (wn (n + 1 + N') ad d) H1 → va_S A H0 H1 locs → H1.size = H.size + 1 + N' →
      W p l e R s m args below meth c H1 locs (cells + 1 + N') (slots + N' + N' * K') Q (F0 m (pc + 4) ls (.ref (ad n) :: rest))) : W p l e R s m args below meth c H locs cells slots Q (F0 m pc ls (.int k :: .int v :: rest)) := by
  subst hN
  subst hM
  intro T hT Xs
  obtain ⟨vm₁, cB, comp, -, fA, fC, -, -, X', step⟩ := Xs.multianewarray2F hx hown hclink hover harr (g := F0 m pc ls (.int k :: .int v :: rest)) rfl (by rw [hb]; exact hdg) rfl hv hk hb1 hb2 hb3 hdf hdd hcells hslots
  have ec : comp = cy := Option.some.inj (fC.symm.trans hcy)
  have eA : cB = cA := Option.some.inj (fA.symm.trans hcA)
  subst ec
  subst eA
  generalize hF : Jvm.Free.Multi.fill (T.setVm vm₁) cB comp v.toNatClampNeg k.toNatClampNeg (defaultValue ty) v.toNatClampNeg = F at X' step
  have hTh : (T.setVm vm₁).heap = H := hT
  obtain ⟨f1, f2, -, -⟩ := Jvm.Free.Multi.fill_facts (T.setVm vm₁) cB comp v.toNatClampNeg k.toNatClampNeg (defaultValue ty) v.toNatClampNeg
  rw [hF, hTh] at f1 f2
  have hold : ∀ x : Nat, x < H.size → F.heap[x]? = H[x]? := fun x hx => by
    have := Jvm.Free.Multi.fill_old (T.setVm vm₁) cB comp v.toNatClampNeg k.toNatClampNeg (defaultValue ty) (a := x) (by rw [hTh]; exact hx) v.toNatClampNeg
    rw [hF, hTh] at this
    exact this
  have hrow : ∀ j : Nat, j < v.toNatClampNeg → F.heap[H.size + 1 + j]? = some (Jvm.Free.Multi.innerC comp k.toNatClampNeg (defaultValue ty)) := fun j hj => by
    have := Jvm.Free.Multi.fill_inner (T.setVm vm₁) cB comp v.toNatClampNeg k.toNatClampNeg (defaultValue ty) v.toNatClampNeg j hj
    rw [hF, hTh] at this
    exact this
  rw [vr_outer cB v.toNatClampNeg H.size v.toNatClampNeg] at f2
  have hP1 : va_P D cl (wn (n + 1 + v.toNatClampNeg) ad d) F.heap := wn_put hP hold fun i h1 h2 => by
    by_cases hi : i = n
    · subst hi
      rw [hd]
      show F.heap[ad i]? = some (vp_cell _ _)
      rw [vp_cell_q, ← hsz, f2]
      refine congrArg some (arrV_congr fun j hj => ?_)
      rw [if_pos hj, if_pos hj, had j hj, ← hsz]
    · obtain ⟨j, rfl⟩ : ∃ j, i = n + 1 + j := ⟨i - (n + 1), by omega⟩
      have hj : j < v.toNatClampNeg := by omega
      rw [hdr j hj]
      show F.heap[ad (n + 1 + j)]? = some (vp_cell _ _)
      rw [had j hj, ← hsz, hrow j hj, hz j hj, ← arrV_new]
      rfl
  obtain ⟨t, a1, b1⟩ := kk F.heap hP1 ⟨by rw [f1]; have := hS.1; omega, fun x h1 h2 => (hold x (Nat.lt_of_lt_of_le h1 hS.1)).trans (hS.2.1 x h1 h2), hS.2.2⟩ f1 F rfl X'
  refine ⟨t, step t ?_, b1⟩
  have e9 : T.heap.size = ad n := by rw [hT]; exact hsz
  rw [e9]
  exact a1
theorem zn_putF (hx : p.tables.exec = Jvm.exec) (hb : c.code = cc) {own C : String} {T : u_T} {N ci index : Nat} {Ts : List Cond} {tys : List (ClassId × FieldType)} (hts : ∀ w ∈ Ts, w.before args s = true) (hin : ∀ w ∈ u_ws C T N, w ∈ Ts) (ty0 : Nat → FieldType) (hty : ∀ k, k < N → parseFieldDescriptor (T k).2.2.1 = some (ty0 k)) (hnm : ∀ a, a < N → ∀ b, b < N → a ≠ b → (T a).2.1 ≠ (T b).2.1) (hown : s.vm.findClass own = some m.cls) (hK : va_K D cl tys s)
    {fs : List Value} (hP : va_P D cl (wn n ad (co d ci fs)) H) (hap : apart n ad) (hA : ∀ k, k < n → A (ad k)) (hS : va_S A H0 H locs) (h0 : 0 < n) (hc : cl[ci]? = some (C, T, N)) (k : Nat) (hk : k < N) (hlink : (Cond.fieldLink own index (T k).1 (T k).2.1 (T k).2.2.1).before args s = true) (hfin : (T k).2.2.2 = true) (hin2 : meth.name = "<init>") (hdecl : (T k).1 = own) {v : Value} (hn : narrow (ty0 k) v = v) (hfit : fits (ty0 k) v = true) (hl : k < fs.length) (hdg : decode cc pc = .ok (.putfield index, 3))
    (kk : ∀ (H1 : Heap) (locs1 : List Loc), va_P D cl (wn n ad (co d ci (fs.set k v))) H1 → va_S A H0 H1 locs1 → H1.size = H.size → W p l e R s m args below meth c H1 locs1 cells slots Q (F0 m (pc + 3) ls rest)) : W p l e R s m args below meth c H locs cells slots Q (F0 m pc ls (v :: .ref (ad 0) :: rest)) := by
  have hD : va_D A (wn n ad (co d ci fs)) := wn_D hap hA
  have h00 : (wn n ad (co d ci fs))[0]? = some (ad 0, .inr (ci, fs)) := wn_at h0
  have hkn := va_apart (own := own) hts hin ty0 hty hnm hK hc
  obtain ⟨r, h1, cell, q1, q2, q3, q4⟩ := hP 0 _ h00
  obtain rfl : r = (C, T, N) := Option.some.inj (h1.symm.trans hc)
  obtain ⟨hSl, hfc, kC, hkC, hkind⟩ := hK.1 ci _ hc
  obtain ⟨cf, kf, fi, f, hi, hsl⟩ := hSl k hk
  have hlay := hts _ (hin _ (u_in_lay hk))
  unfold u_lay at hlay
  rw [if_pos hfin] at hlay
  have hst := (u_facts hfc hkC (u_lays hts hin hk) hi).1
  have hcf : m.cls = cf := by
    obtain ⟨_, _, c', _, _, _, -, -, hf', -, -, -, hown2, -⟩ := Cond.laysFinal_spec hlay
    have e1 : c' = cf := by have := hi.symm.trans hf'; simp at this; exact this.1.symm
    rw [hdecl] at hown2
    rw [← e1]
    exact Option.some.inj (hown.symm.trans hown2)
  have h6 := u_fits hfc hkC hkind (Or.inr hlay) hi (hty k hk) hn hfit
  refine W.putFinK hx hb hown hlink hi hst hcf hin2 (by rw [q2]; exact h6) q1 q3 (by rw [hsl]; exact k2_hasslot (q4 k hk)) rfl rfl hdg fun H1 e1 e2 e3 => ?_
  rw [hsl] at e1 ⊢
  have hP1 : va_P D cl ((wn n ad (co d ci fs)).set 0 (ad 0, .inr (ci, fs.set k v))) H1 := hP.set hD h00 ⟨_, hc, t_OB.to (V := updV (vp_V fs) k v) ⟨_, e1, q2, q3, t_set q4 hkn hk v⟩ (fun j _ => vp_updV_set hl v j)⟩ e3
  rw [wn_set h0] at hP1
  refine kk H1 _ (wn_congr hP1 fun k9 _ => ?_) (hS.put e2 e3 (hA 0 h0)) e2
  by_cases h9 : k9 = 0
  · subst h9
    rw [va_up_self]
    rfl
  · rw [va_up_ne _ _ h9, co_s (by omega), co_s (by omega)]
end ZNEW
/-- the features that a constructor's argument gives -/
def fcN (x : Int32) : Nat := 1 + x.toBitVec.toNat % 16
theorem fcN_eq (x : Int32) : nI 1 + (x &&& nI 15) = nI (fcN x) := by
  rw [pk_and x 4 (by decide), nI_add]
  rfl
theorem fcN_le (x : Int32) : fcN x ≤ 16 := by unfold fcN; omega
theorem fcN_pos (x : Int32) : 1 ≤ fcN x := by unfold fcN; omega
/-- the class's state at its beginning -/
def nwX (F : Nat) : SX := (F, fun _ => 0, fun _ _ => 0, 0, fun _ => 0, 0, 0, fun _ => 0, fun _ _ => 0, fun _ _ => 0, fun _ _ => 0)
/-- the reference's -/
def nwM (F : Nat) : SM := (0, F, 0, fun _ => 0, fun _ => 0, fun _ => 0, 0, fun _ => 0, fun _ => 0, fun _ => 0, fun _ => 0, 0)
theorem zcI (c : ClassId) (n : Nat) : vp_cell c (n, .inl (fun _ => nI 0)) = arrV c n (fun _ => defaultValue .int) := by rw [vp_cell_i]; rfl
theorem zcZ (c : ClassId) (n : Nat) : vp_cell c (n, .inl (fun _ => nI 0)) = arrV c n (fun _ => defaultValue .boolean) := by rw [vp_cell_i]; rfl
theorem zcD (c : ClassId) (n : Nat) : vp_cell c (n, .inr (.inr (.inr (.inl (fun _ => (0 : UInt64)))))) = arrV c n (fun _ => defaultValue .double) := by rw [vp_cell_d]; rfl
theorem str_II : "[" ++ (FieldType.array .int).toString = "[[I" := by decide +kernel
theorem str_DD : "[" ++ (FieldType.array .double).toString = "[[D" := by decide +kernel
/-- what the table says of arrays of arrays -/
def zAO (U : State) : Prop := va_AOA .int U ∧ va_AOA .double U
set_option maxRecDepth 20000 in
theorem innX0_init : ∀ w ∈ wsX00, w ∈ wsX0_init := by decide +kernel
set_option maxRecDepth 20000 in
theorem innX1_init : ∀ w ∈ wsX10, w ∈ wsX1_init := by decide +kernel
set_option maxHeartbeats 4000000 in
set_option maxRecDepth 100000 in
theorem kX0_init (l : Launch) (E : zE) (ad : Nat → Nat) (hap : apart 96 ad) (x : Int32) : Met l yX0_init wsX0_init ({ frames := 2, cells := 95, slots := 1568, locals := 40 }) (va_Pc [.ref (ad 0), .int (x)] (fun U => (∀ k, k < 95 → ad (1 + k) = U.heap.size + k) ∧ va_at E.1 vwCl (ad 0, .inr (1, [.int 0, .null, .null, .int 0, .null, .int 0, .int 0, .null, .null, .null, .null])) U.heap ∧ zK E U ∧ zAO U)) (va_Qv (fun _ : Unit => True) (fun _ t => PX E ad (nwX (fcN x)) t.heap) (aX 96 ad)) 95 1568 (aX 96 ad) := by
  refine Met.ofW (cc := cX0_init) (maxL := 2) (ret := none) (by decide) rfl ?_
  intro p e s m args below meth c s₁ B hml hv
  obtain ⟨rfl, hfr, hob, hK, hAO⟩ := hv
  have hx := B.exec
  have hb := B.bytes
  have hr := B.returns
  have hts := atoms_spec (ws := wsX0_init) B.pre
  have hown : s.vm.findClass RX0 = some m.cls := findClass_of_methodNamed B.named
  have hlocks := B.notSynchronized
  have hin : meth.name = "<init>" := (name_of_methodNamed B.named B.method).1
  have hS : va_S (aX 96 ad) s.heap s.heap [] := va_S.rf
  have hl := lv_entry ([.ref (ad 0), .int (x)]) (n := 2) (Nat.le_of_ble_eq_true rfl)
  rw [lg_entry_eq]
  generalize (lg_sl ([.ref (ad 0), .int (x)]) ++ List.replicate (2 - (lg_sl ([.ref (ad 0), .int (x)])).length) Slot.unset).toArray = ls at hl ⊢
  have hl : lv_has ls 2 [(0, .ref (ad 0)), (1, .int (x))] := hl
  generalize hH9 : s.heap = H9 at hfr hob hS ⊢
  have hsz0 : H9.size = H9.size := rfl
  have hiI : s.vm.findClass "[I" = some (eI E) := (hK.2 0 _ rfl).2
  have hiII : s.vm.findClass ("[" ++ (FieldType.array .int).toString) = some (eII E) := (hK.2 1 _ rfl).2
  have hiD : s.vm.findClass "[D" = some (eD E) := (hK.2 2 _ rfl).2
  have hiDD : s.vm.findClass ("[" ++ (FieldType.array .double).toString) = some (eDD E) := (hK.2 3 _ rfl).2
  have hF := fcN_le x
  generalize hκ : nwX (fcN x) = κ
  have hκF : xF κ = fcN x := by rw [← hκ]; rfl
  have hA : ∀ n, n ≤ 96 → ∀ k, k < n → aX 96 ad (ad k) := fun n hn k hk => ⟨k, by omega, rfl⟩
  have hap9 : ∀ n, n ≤ 96 → apart n ad := fun n hn i j hi hj h => hap i j (by omega) (by omega) h
  have hP : va_P E.1 vwCl (wn 1 ad (co (cx E ad κ) 1 [.int 0, .null, .null, .int 0, .null, .int 0, .int 0, .null, .null, .null, .null])) H9 := by
    intro k q hk
    obtain ⟨h1, rfl⟩ := wn_of hk
    obtain rfl : k = 0 := by omega
    exact hob
  refine lv_aload_n hx hb dX0_init_0 rfl (lv_at hl 0 rfl) ?_
  refine W.objInit hx hb hown (hts (.methodLink RX0 1 objectInit) (by decide +kernel)) (hts (.instanceMethod objectInit) (by decide +kernel)) (hts (.code objectInit ⟨#[0xb1]⟩ 1 none) (List.mem_cons_of_mem _ (List.mem_append_left _ (List.mem_of_getElem? (i := 2) rfl)))) rfl (by rw [hml]; exact hl.1) rfl dX0_init_1 (Nat.le_of_ble_eq_true rfl) (Nat.le_of_ble_eq_true rfl) ?_
  refine W.eq (g2 := F0 m 4 ls []) rfl ?_
  have hsz0 : H9.size = H9.size + 0 := rfl
  refine lv_aload_n hx hb dX0_init_4 rfl (lv_at hl 0 rfl) ?_
  refine lv_iconst (v := nI 1) hx hb dX0_init_5 (by decide +kernel) ?_
  refine lv_iload_n hx hb dX0_init_6 rfl (lv_at hl 1 rfl) ?_
  refine lv_bipush (v := nI 15) hx hb dX0_init_7 (by decide +kernel) ?_
  refine lv_iand hx hb dX0_init_9 ?_
  refine zv_iadd (v := nI (fcN x)) hx hb dX0_init_10 (fcN_eq x) ?_
  refine zn_putF (C := RX0) (T := TX0) (N := 11) (ci := 1) (v := .int (nI (fcN x))) hx hb hts innX0_init tyX0 tyX0_ok nmX0 hown hK hP (hap9 1 (by decide)) (hA 1 (by decide)) hS (by decide) rfl 0 (by decide) (hts (.fieldLink RX0 7 "SignTeller" "featureCount" "I") (by decide +kernel)) rfl hin rfl rfl rfl (Nat.le_of_ble_eq_true rfl) dX0_init_11 (fun H locs hP hS hsz9 => ?_)
  have hP : va_P E.1 vwCl (wn 1 ad (co (cx E ad κ) 1 [.int (nI (fcN x)), .null, .null, .int 0, .null, .int 0, .int 0, .null, .null, .null, .null])) H := hP
  have hsz0 : H.size = H9.size + 0 := by omega
  refine lv_aload_n hx hb dX0_init_14 rfl (lv_at hl 0 rfl) ?_
  refine lv_bipush (v := nI 40) hx hb dX0_init_15 (by decide +kernel) ?_
  refine zn_newa (atype := .int) (N' := 40) (a0 := (40, .inl (fun _ => nI 0))) hx hb (hts (.arrayClass .int) (by decide +kernel)) hiI hP hS (by rw [hsz0]; exact (hfr 0 (by decide)).symm) (by rw [co_s (by decide), cx_ec, ← hκ]; rfl) (zcI _ _) (nI_pos (by omega)) (nI_clamp (by omega)) (by show _ * 4 ≤ _; omega) (by show _ ≤ 95; omega) (by show _ ≤ 1568; omega) dX0_init_17 (fun H hP hS hsz9 => ?_)
  have hsz0 : H.size = H9.size + 1 := by omega
  refine W.eq (g2 := F0 m 19 ls (.ref (ad 1) :: [.ref (ad 0)])) rfl ?_
  refine zn_putF (C := RX0) (T := TX0) (N := 11) (ci := 1) (v := .ref (ad 1)) hx hb hts innX0_init tyX0 tyX0_ok nmX0 hown hK hP (hap9 2 (by decide)) (hA 2 (by decide)) hS (by decide) rfl 1 (by decide) (hts (.fieldLink RX0 13 "SignTeller" "exampleClass" "[I") (by decide +kernel)) rfl hin rfl rfl rfl (Nat.le_of_ble_eq_true rfl) dX0_init_19 (fun H locs hP hS hsz9 => ?_)
  have hP : va_P E.1 vwCl (wn 2 ad (co (cx E ad κ) 1 [.int (nI (fcN x)), .ref (ad 1), .null, .int 0, .null, .int 0, .int 0, .null, .null, .null, .null])) H := hP
  have hsz0 : H.size = H9.size + 1 := by omega
  refine lv_aload_n hx hb dX0_init_22 rfl (lv_at hl 0 rfl) ?_
  refine lv_bipush (v := nI 40) hx hb dX0_init_23 (by decide +kernel) ?_
  refine lv_aload_n hx hb dX0_init_25 rfl (lv_at hl 0 rfl) ?_
  refine va_get (C := RX0) (T := TX0) (N := 11) (ci := 1) hx hb hts innX0_init hown hK hP 0 (wn_at (d := co (cx E ad κ) 1 [.int (nI (fcN x)), .ref (ad 1), .null, .int 0, .null, .int 0, .int 0, .null, .null, .null, .null]) (show 0 < 2 by decide)) rfl 0 (by decide) (hts (.fieldLink RX0 7 "SignTeller" "featureCount" "I") (by decide +kernel)) (fun _ h => h) (v := .int (nI (fcN x))) rfl dX0_init_26 ?_
  refine zn_mna (ty := .int) (cA := eII E) (cy := eI E) (N' := 40) (K' := fcN x) (z := fun _ => (fcN x, .inl (fun _ => nI 0))) hx hb hown (by rw [str_II]; exact hts (.classLink RX0 17 "[[I") (by decide +kernel)) (va_AOA.use hAO.1) (hts (.arrayClass .int) (by decide +kernel)) hiII hiI hP hS (by rw [hsz0]; exact (hfr 1 (by decide)).symm) (nI_pos (by omega)) (nI_pos (by omega)) (nI_clamp (by omega)) (nI_clamp (by omega)) (fun i hi => by rw [show 2 + 1 + i = 1 + (2 + i) by omega, hfr _ (by omega), show ad 2 = ad (1 + 1) from rfl, hfr 1 (by decide)]; omega) (by rw [co_s (by decide)]; rfl) (fun i hi => by rw [co_s (by omega), show 2 + 1 + i = 3 + i by omega, cx_ev hi, ← hκ]; rfl) (fun i hi => zcI _ _) (by decide) (by show _ * 4 ≤ _; omega) (by omega) rfl rfl (by show _ ≤ 95; omega) (by show _ ≤ 1568; omega) dX0_init_29 (fun H hP hS hsz9 => ?_)
  have hsz0 : H.size = H9.size + 42 := by omega
  have hP : va_P E.1 vwCl (wn 43 ad (co (cx E ad κ) 1 [.int (nI (fcN x)), .ref (ad 1), .null, .int 0, .null, .int 0, .int 0, .null, .null, .null, .null])) H := hP
  refine zn_putF (C := RX0) (T := TX0) (N := 11) (ci := 1) (v := .ref (ad 2)) hx hb hts innX0_init tyX0 tyX0_ok nmX0 hown hK hP (hap9 43 (by decide)) (hA 43 (by decide)) hS (by decide) rfl 2 (by decide) (hts (.fieldLink RX0 19 "SignTeller" "exampleValues" "[[I") (by decide +kernel)) rfl hin rfl rfl rfl (Nat.le_of_ble_eq_true rfl) dX0_init_33 (fun H locs hP hS hsz9 => ?_)
  have hP : va_P E.1 vwCl (wn 43 ad (co (cx E ad κ) 1 [.int (nI (fcN x)), .ref (ad 1), .ref (ad 2), .int 0, .null, .int 0, .int 0, .null, .null, .null, .null])) H := hP
  have hsz0 : H.size = H9.size + 42 := by omega
  refine lv_aload_n hx hb dX0_init_36 rfl (lv_at hl 0 rfl) ?_
  refine lv_aload_n hx hb dX0_init_37 rfl (lv_at hl 0 rfl) ?_
  refine va_get (C := RX0) (T := TX0) (N := 11) (ci := 1) hx hb hts innX0_init hown hK hP 0 (wn_at (d := co (cx E ad κ) 1 [.int (nI (fcN x)), .ref (ad 1), .ref (ad 2), .int 0, .null, .int 0, .int 0, .null, .null, .null, .null]) (show 0 < 43 by decide)) rfl 0 (by decide) (hts (.fieldLink RX0 7 "SignTeller" "featureCount" "I") (by decide +kernel)) (fun _ h => h) (v := .int (nI (fcN x))) rfl dX0_init_38 ?_
  refine zn_newa (atype := .int) (N' := fcN x) (a0 := (fcN x, .inl (fun _ => nI 0))) hx hb (hts (.arrayClass .int) (by decide +kernel)) hiI hP hS (by rw [hsz0]; exact (hfr 42 (by decide)).symm) (by rw [co_s (by decide), cx_sg, ← hκ]; rfl) (zcI _ _) (nI_pos (by omega)) (nI_clamp (by omega)) (by show _ * 4 ≤ _; omega) (by show _ ≤ 95; omega) (by show _ ≤ 1568; omega) dX0_init_41 (fun H hP hS hsz9 => ?_)
  have hsz0 : H.size = H9.size + 43 := by omega
  refine W.eq (g2 := F0 m 43 ls (.ref (ad 43) :: [.ref (ad 0)])) rfl ?_
  refine zn_putF (C := RX0) (T := TX0) (N := 11) (ci := 1) (v := .ref (ad 43)) hx hb hts innX0_init tyX0 tyX0_ok nmX0 hown hK hP (hap9 44 (by decide)) (hA 44 (by decide)) hS (by decide) rfl 4 (by decide) (hts (.fieldLink RX0 22 "SignTeller" "signValues" "[I") (by decide +kernel)) rfl hin rfl rfl rfl (Nat.le_of_ble_eq_true rfl) dX0_init_43 (fun H locs hP hS hsz9 => ?_)
  have hP : va_P E.1 vwCl (wn 44 ad (co (cx E ad κ) 1 [.int (nI (fcN x)), .ref (ad 1), .ref (ad 2), .int 0, .ref (ad 43), .int 0, .int 0, .null, .null, .null, .null])) H := hP
  have hsz0 : H.size = H9.size + 43 := by omega
  refine lv_aload_n hx hb dX0_init_46 rfl (lv_at hl 0 rfl) ?_
  refine lv_bipush (v := nI 16) hx hb dX0_init_47 (by decide +kernel) ?_
  refine zn_newa (atype := .int) (N' := 16) (a0 := (16, .inl (fun _ => nI 0))) hx hb (hts (.arrayClass .int) (by decide +kernel)) hiI hP hS (by rw [hsz0]; exact (hfr 43 (by decide)).symm) (by rw [co_s (by decide), cx_mb, ← hκ]; rfl) (zcI _ _) (nI_pos (by omega)) (nI_clamp (by omega)) (by show _ * 4 ≤ _; omega) (by show _ ≤ 95; omega) (by show _ ≤ 1568; omega) dX0_init_49 (fun H hP hS hsz9 => ?_)
  have hsz0 : H.size = H9.size + 44 := by omega
  refine W.eq (g2 := F0 m 51 ls (.ref (ad 44) :: [.ref (ad 0)])) rfl ?_
  refine zn_putF (C := RX0) (T := TX0) (N := 11) (ci := 1) (v := .ref (ad 44)) hx hb hts innX0_init tyX0 tyX0_ok nmX0 hown hK hP (hap9 45 (by decide)) (hA 45 (by decide)) hS (by decide) rfl 7 (by decide) (hts (.fieldLink RX0 25 "SignTeller" "members" "[I") (by decide +kernel)) rfl hin rfl rfl rfl (Nat.le_of_ble_eq_true rfl) dX0_init_51 (fun H locs hP hS hsz9 => ?_)
  have hP : va_P E.1 vwCl (wn 45 ad (co (cx E ad κ) 1 [.int (nI (fcN x)), .ref (ad 1), .ref (ad 2), .int 0, .ref (ad 43), .int 0, .int 0, .ref (ad 44), .null, .null, .null])) H := hP
  have hsz0 : H.size = H9.size + 44 := by omega
  refine lv_aload_n hx hb dX0_init_54 rfl (lv_at hl 0 rfl) ?_
  refine lv_bipush (v := nI 16) hx hb dX0_init_55 (by decide +kernel) ?_
  refine lv_aload_n hx hb dX0_init_57 rfl (lv_at hl 0 rfl) ?_
  refine va_get (C := RX0) (T := TX0) (N := 11) (ci := 1) hx hb hts innX0_init hown hK hP 0 (wn_at (d := co (cx E ad κ) 1 [.int (nI (fcN x)), .ref (ad 1), .ref (ad 2), .int 0, .ref (ad 43), .int 0, .int 0, .ref (ad 44), .null, .null, .null]) (show 0 < 45 by decide)) rfl 0 (by decide) (hts (.fieldLink RX0 7 "SignTeller" "featureCount" "I") (by decide +kernel)) (fun _ h => h) (v := .int (nI (fcN x))) rfl dX0_init_58 ?_
  refine zn_mna (ty := .double) (cA := eDD E) (cy := eD E) (N' := 16) (K' := fcN x) (z := fun _ => (fcN x, .inr (.inr (.inr (.inl (fun _ => (0 : UInt64))))))) hx hb hown (by rw [str_DD]; exact hts (.classLink RX0 28 "[[D") (by decide +kernel)) (va_AOA.use hAO.2) (hts (.arrayClass .double) (by decide +kernel)) hiDD hiD hP hS (by rw [hsz0]; exact (hfr 44 (by decide)).symm) (nI_pos (by omega)) (nI_pos (by omega)) (nI_clamp (by omega)) (nI_clamp (by omega)) (fun i hi => by rw [show 45 + 1 + i = 1 + (45 + i) by omega, hfr _ (by omega), show ad 45 = ad (1 + 44) from rfl, hfr 44 (by decide)]; omega) (by rw [co_s (by decide)]; rfl) (fun i hi => by rw [co_s (by omega), show 45 + 1 + i = 46 + i by omega, cx_mn hi, ← hκ]; rfl) (fun i hi => zcD _ _) (by decide) (by show _ * 8 ≤ _; omega) (by omega) rfl rfl (by show _ ≤ 95; omega) (by show _ ≤ 1568; omega) dX0_init_61 (fun H hP hS hsz9 => ?_)
  have hsz0 : H.size = H9.size + 61 := by omega
  have hP : va_P E.1 vwCl (wn 62 ad (co (cx E ad κ) 1 [.int (nI (fcN x)), .ref (ad 1), .ref (ad 2), .int 0, .ref (ad 43), .int 0, .int 0, .ref (ad 44), .null, .null, .null])) H := hP
  refine zn_putF (C := RX0) (T := TX0) (N := 11) (ci := 1) (v := .ref (ad 45)) hx hb hts innX0_init tyX0 tyX0_ok nmX0 hown hK hP (hap9 62 (by decide)) (hA 62 (by decide)) hS (by decide) rfl 8 (by decide) (hts (.fieldLink RX0 30 "SignTeller" "means" "[[D") (by decide +kernel)) rfl hin rfl rfl rfl (Nat.le_of_ble_eq_true rfl) dX0_init_65 (fun H locs hP hS hsz9 => ?_)
  have hP : va_P E.1 vwCl (wn 62 ad (co (cx E ad κ) 1 [.int (nI (fcN x)), .ref (ad 1), .ref (ad 2), .int 0, .ref (ad 43), .int 0, .int 0, .ref (ad 44), .ref (ad 45), .null, .null])) H := hP
  have hsz0 : H.size = H9.size + 61 := by omega
  refine lv_aload_n hx hb dX0_init_68 rfl (lv_at hl 0 rfl) ?_
  refine lv_bipush (v := nI 16) hx hb dX0_init_69 (by decide +kernel) ?_
  refine lv_aload_n hx hb dX0_init_71 rfl (lv_at hl 0 rfl) ?_
  refine va_get (C := RX0) (T := TX0) (N := 11) (ci := 1) hx hb hts innX0_init hown hK hP 0 (wn_at (d := co (cx E ad κ) 1 [.int (nI (fcN x)), .ref (ad 1), .ref (ad 2), .int 0, .ref (ad 43), .int 0, .int 0, .ref (ad 44), .ref (ad 45), .null, .null]) (show 0 < 62 by decide)) rfl 0 (by decide) (hts (.fieldLink RX0 7 "SignTeller" "featureCount" "I") (by decide +kernel)) (fun _ h => h) (v := .int (nI (fcN x))) rfl dX0_init_72 ?_
  refine zn_mna (ty := .double) (cA := eDD E) (cy := eD E) (N' := 16) (K' := fcN x) (z := fun _ => (fcN x, .inr (.inr (.inr (.inl (fun _ => (0 : UInt64))))))) hx hb hown (by rw [str_DD]; exact hts (.classLink RX0 28 "[[D") (by decide +kernel)) (va_AOA.use hAO.2) (hts (.arrayClass .double) (by decide +kernel)) hiDD hiD hP hS (by rw [hsz0]; exact (hfr 61 (by decide)).symm) (nI_pos (by omega)) (nI_pos (by omega)) (nI_clamp (by omega)) (nI_clamp (by omega)) (fun i hi => by rw [show 62 + 1 + i = 1 + (62 + i) by omega, hfr _ (by omega), show ad 62 = ad (1 + 61) from rfl, hfr 61 (by decide)]; omega) (by rw [co_s (by decide)]; rfl) (fun i hi => by rw [co_s (by omega), show 62 + 1 + i = 63 + i by omega, cx_wt hi, ← hκ]; rfl) (fun i hi => zcD _ _) (by decide) (by show _ * 8 ≤ _; omega) (by omega) rfl rfl (by show _ ≤ 95; omega) (by show _ ≤ 1568; omega) dX0_init_75 (fun H hP hS hsz9 => ?_)
  have hsz0 : H.size = H9.size + 78 := by omega
  have hP : va_P E.1 vwCl (wn 79 ad (co (cx E ad κ) 1 [.int (nI (fcN x)), .ref (ad 1), .ref (ad 2), .int 0, .ref (ad 43), .int 0, .int 0, .ref (ad 44), .ref (ad 45), .null, .null])) H := hP
  refine zn_putF (C := RX0) (T := TX0) (N := 11) (ci := 1) (v := .ref (ad 62)) hx hb hts innX0_init tyX0 tyX0_ok nmX0 hown hK hP (hap9 79 (by decide)) (hA 79 (by decide)) hS (by decide) rfl 9 (by decide) (hts (.fieldLink RX0 33 "SignTeller" "weights" "[[D") (by decide +kernel)) rfl hin rfl rfl rfl (Nat.le_of_ble_eq_true rfl) dX0_init_79 (fun H locs hP hS hsz9 => ?_)
  have hP : va_P E.1 vwCl (wn 79 ad (co (cx E ad κ) 1 [.int (nI (fcN x)), .ref (ad 1), .ref (ad 2), .int 0, .ref (ad 43), .int 0, .int 0, .ref (ad 44), .ref (ad 45), .ref (ad 62), .null])) H := hP
  have hsz0 : H.size = H9.size + 78 := by omega
  refine lv_aload_n hx hb dX0_init_82 rfl (lv_at hl 0 rfl) ?_
  refine lv_bipush (v := nI 16) hx hb dX0_init_83 (by decide +kernel) ?_
  refine lv_bipush (v := nI 16) hx hb dX0_init_85 (by decide +kernel) ?_
  refine zn_mna (ty := .int) (cA := eII E) (cy := eI E) (N' := 16) (K' := 16) (z := fun _ => (16, .inl (fun _ => nI 0))) hx hb hown (by rw [str_II]; exact hts (.classLink RX0 17 "[[I") (by decide +kernel)) (va_AOA.use hAO.1) (hts (.arrayClass .int) (by decide +kernel)) hiII hiI hP hS (by rw [hsz0]; exact (hfr 78 (by decide)).symm) (nI_pos (by omega)) (nI_pos (by omega)) (nI_clamp (by omega)) (nI_clamp (by omega)) (fun i hi => by rw [show 79 + 1 + i = 1 + (79 + i) by omega, hfr _ (by omega), show ad 79 = ad (1 + 78) from rfl, hfr 78 (by decide)]; omega) (by rw [co_s (by decide)]; rfl) (fun i hi => by rw [co_s (by omega), show 79 + 1 + i = 80 + i by omega, cx_cf hi, ← hκ]; rfl) (fun i hi => zcI _ _) (by decide) (by show _ * 4 ≤ _; omega) (by omega) rfl rfl (by show _ ≤ 95; omega) (by show _ ≤ 1568; omega) dX0_init_87 (fun H hP hS hsz9 => ?_)
  have hsz0 : H.size = H9.size + 95 := by omega
  have hP : va_P E.1 vwCl (wn 96 ad (co (cx E ad κ) 1 [.int (nI (fcN x)), .ref (ad 1), .ref (ad 2), .int 0, .ref (ad 43), .int 0, .int 0, .ref (ad 44), .ref (ad 45), .ref (ad 62), .null])) H := hP
  refine zn_putF (C := RX0) (T := TX0) (N := 11) (ci := 1) (v := .ref (ad 79)) hx hb hts innX0_init tyX0 tyX0_ok nmX0 hown hK hP (hap9 96 (by decide)) (hA 96 (by decide)) hS (by decide) rfl 10 (by decide) (hts (.fieldLink RX0 36 "SignTeller" "confusions" "[[I") (by decide +kernel)) rfl hin rfl rfl rfl (Nat.le_of_ble_eq_true rfl) dX0_init_91 (fun H locs hP hS hsz9 => ?_)
  have hP : va_P E.1 vwCl (wn 96 ad (co (cx E ad κ) 1 [.int (nI (fcN x)), .ref (ad 1), .ref (ad 2), .int 0, .ref (ad 43), .int 0, .int 0, .ref (ad 44), .ref (ad 45), .ref (ad 62), .ref (ad 79)])) H := hP
  have hsz0 : H.size = H9.size + 95 := by omega
  have hP : PX E ad κ H := by
    refine wn_congr hP fun k hk => ?_
    by_cases h9 : k = 0
    · subst h9; rw [← hκ]; rfl
    · exact co_s (by omega)
  rw [← hH9] at hS
  refine W.widen (k := 95) (n := 1568) (by omega) (by omega) ?_
  exact W.vret hx hb hr (fun t ht hW => ⟨⟨(), rfl, trivial, (wn_h ht hP)⟩, hS.F ht⟩) hS.2.2 dX0_init_94
set_option maxHeartbeats 4000000 in
set_option maxRecDepth 100000 in
theorem kX1_init (l : Launch) (E : zE) (ad : Nat → Nat) (hap : apart 8 ad) (x : Int32) : Met l yX1_init wsX1_init ({ frames := 2, cells := 7, slots := 1480, locals := 40 }) (va_Pc [.ref (ad 0), .int (x)] (fun U => (∀ k, k < 7 → ad (1 + k) = U.heap.size + k) ∧ va_at E.1 vwCl (ad 0, .inr (2, [.int 0, .int 0, .int 0, .null, .null, .null, .int 0, .null, .null, .null, .null, .int 0])) U.heap ∧ zK E U)) (va_Qv (fun _ : Unit => True) (fun _ t => PM E ad (nwM (fcN x)) t.heap) (aX 8 ad)) 7 1480 (aX 8 ad) := by
  refine Met.ofW (cc := cX1_init) (maxL := 2) (ret := none) (by decide) rfl ?_
  intro p e s m args below meth c s₁ B hml hv
  obtain ⟨rfl, hfr, hob, hK⟩ := hv
  have hx := B.exec
  have hb := B.bytes
  have hr := B.returns
  have hts := atoms_spec (ws := wsX1_init) B.pre
  have hown : s.vm.findClass RX1 = some m.cls := findClass_of_methodNamed B.named
  have hlocks := B.notSynchronized
  have hin : meth.name = "<init>" := (name_of_methodNamed B.named B.method).1
  have hS : va_S (aX 8 ad) s.heap s.heap [] := va_S.rf
  have hl := lv_entry ([.ref (ad 0), .int (x)]) (n := 2) (Nat.le_of_ble_eq_true rfl)
  rw [lg_entry_eq]
  generalize (lg_sl ([.ref (ad 0), .int (x)]) ++ List.replicate (2 - (lg_sl ([.ref (ad 0), .int (x)])).length) Slot.unset).toArray = ls at hl ⊢
  have hl : lv_has ls 2 [(0, .ref (ad 0)), (1, .int (x))] := hl
  generalize hH9 : s.heap = H9 at hfr hob hS ⊢
  have hsz0 : H9.size = H9.size := rfl
  have hiI : s.vm.findClass "[I" = some (eI E) := (hK.2 0 _ rfl).2
  have hiD : s.vm.findClass "[D" = some (eD E) := (hK.2 2 _ rfl).2
  have hiZ : s.vm.findClass "[Z" = some (eZ E) := (hK.2 4 _ rfl).2
  have hF := fcN_le x
  generalize hκ : nwM (fcN x) = τ
  have hA : ∀ n, n ≤ 8 → ∀ k, k < n → aX 8 ad (ad k) := fun n hn k hk => ⟨k, by omega, rfl⟩
  have hap9 : ∀ n, n ≤ 8 → apart n ad := fun n hn i j hi hj h => hap i j (by omega) (by omega) h
  have hP : va_P E.1 vwCl (wn 1 ad (co (cm E ad τ) 2 [.int 0, .int 0, .int 0, .null, .null, .null, .int 0, .null, .null, .null, .null, .int 0])) H9 := by
    intro k q hk
    obtain ⟨h1, rfl⟩ := wn_of hk
    obtain rfl : k = 0 := by omega
    exact hob
  refine lv_aload_n hx hb dX1_init_0 rfl (lv_at hl 0 rfl) ?_
  refine W.objInit hx hb hown (hts (.methodLink RX1 1 objectInit) (by decide +kernel)) (hts (.instanceMethod objectInit) (by decide +kernel)) (hts (.code objectInit ⟨#[0xb1]⟩ 1 none) (List.mem_cons_of_mem _ (List.mem_append_left _ (List.mem_of_getElem? (i := 2) rfl)))) rfl (by rw [hml]; exact hl.1) rfl dX1_init_1 (Nat.le_of_ble_eq_true rfl) (Nat.le_of_ble_eq_true rfl) ?_
  refine W.eq (g2 := F0 m 4 ls []) rfl ?_
  have hsz0 : H9.size = H9.size + 0 := rfl
  refine lv_aload_n hx hb dX1_init_4 rfl (lv_at hl 0 rfl) ?_
  refine lv_bipush (v := nI 40) hx hb dX1_init_5 (by decide +kernel) ?_
  refine zn_newa (atype := .int) (N' := 40) (a0 := (40, .inl (fun _ => nI 0))) hx hb (hts (.arrayClass .int) (by decide +kernel)) hiI hP hS (by rw [hsz0]; exact (hfr 0 (by decide)).symm) (by rw [co_s (by decide), cm_cl, ← hκ]; rfl) (zcI _ _) (nI_pos (by omega)) (nI_clamp (by omega)) (by show _ * 4 ≤ _; omega) (by show _ ≤ 7; omega) (by show _ ≤ 1480; omega) dX1_init_7 (fun H hP hS hsz9 => ?_)
  have hsz0 : H.size = H9.size + 1 := by omega
  refine zn_putF (C := RX1) (T := TX1) (N := 12) (ci := 2) (v := .ref (ad 1)) hx hb hts innX1_init tyX1 tyX1_ok nmX1 hown hK hP (hap9 2 (by decide)) (hA 2 (by decide)) hS (by decide) rfl 3 (by decide) (hts (.fieldLink RX1 7 "SignTellerModel" "cls" "[I") (by decide +kernel)) rfl hin rfl rfl rfl (Nat.le_of_ble_eq_true rfl) dX1_init_9 (fun H locs hP hS hsz9 => ?_)
  have hP : va_P E.1 vwCl (wn 2 ad (co (cm E ad τ) 2 [.int 0, .int 0, .int 0, .ref (ad 1), .null, .null, .int 0, .null, .null, .null, .null, .int 0])) H := hP
  have hsz0 : H.size = H9.size + 1 := by omega
  refine lv_aload_n hx hb dX1_init_12 rfl (lv_at hl 0 rfl) ?_
  refine lv_sipush (v := nI 640) hx hb dX1_init_13 (by decide +kernel) ?_
  refine zn_newa (atype := .int) (N' := 640) (a0 := (640, .inl (fun _ => nI 0))) hx hb (hts (.arrayClass .int) (by decide +kernel)) hiI hP hS (by rw [hsz0]; exact (hfr 1 (by decide)).symm) (by rw [co_s (by decide), cm_vl, ← hκ]; rfl) (zcI _ _) (nI_pos (by omega)) (nI_clamp (by omega)) (by show _ * 4 ≤ _; omega) (by show _ ≤ 7; omega) (by show _ ≤ 1480; omega) dX1_init_16 (fun H hP hS hsz9 => ?_)
  have hsz0 : H.size = H9.size + 2 := by omega
  refine zn_putF (C := RX1) (T := TX1) (N := 12) (ci := 2) (v := .ref (ad 2)) hx hb hts innX1_init tyX1 tyX1_ok nmX1 hown hK hP (hap9 3 (by decide)) (hA 3 (by decide)) hS (by decide) rfl 4 (by decide) (hts (.fieldLink RX1 13 "SignTellerModel" "value" "[I") (by decide +kernel)) rfl hin rfl rfl rfl (Nat.le_of_ble_eq_true rfl) dX1_init_18 (fun H locs hP hS hsz9 => ?_)
  have hP : va_P E.1 vwCl (wn 3 ad (co (cm E ad τ) 2 [.int 0, .int 0, .int 0, .ref (ad 1), .ref (ad 2), .null, .int 0, .null, .null, .null, .null, .int 0])) H := hP
  have hsz0 : H.size = H9.size + 2 := by omega
  refine lv_aload_n hx hb dX1_init_21 rfl (lv_at hl 0 rfl) ?_
  refine lv_bipush (v := nI 16) hx hb dX1_init_22 (by decide +kernel) ?_
  refine zn_newa (atype := .int) (N' := 16) (a0 := (16, .inl (fun _ => nI 0))) hx hb (hts (.arrayClass .int) (by decide +kernel)) hiI hP hS (by rw [hsz0]; exact (hfr 2 (by decide)).symm) (by rw [co_s (by decide), cm_sg, ← hκ]; rfl) (zcI _ _) (nI_pos (by omega)) (nI_clamp (by omega)) (by show _ * 4 ≤ _; omega) (by show _ ≤ 7; omega) (by show _ ≤ 1480; omega) dX1_init_24 (fun H hP hS hsz9 => ?_)
  have hsz0 : H.size = H9.size + 3 := by omega
  refine zn_putF (C := RX1) (T := TX1) (N := 12) (ci := 2) (v := .ref (ad 3)) hx hb hts innX1_init tyX1 tyX1_ok nmX1 hown hK hP (hap9 4 (by decide)) (hA 4 (by decide)) hS (by decide) rfl 5 (by decide) (hts (.fieldLink RX1 16 "SignTellerModel" "sign" "[I") (by decide +kernel)) rfl hin rfl rfl rfl (Nat.le_of_ble_eq_true rfl) dX1_init_26 (fun H locs hP hS hsz9 => ?_)
  have hP : va_P E.1 vwCl (wn 4 ad (co (cm E ad τ) 2 [.int 0, .int 0, .int 0, .ref (ad 1), .ref (ad 2), .ref (ad 3), .int 0, .null, .null, .null, .null, .int 0])) H := hP
  have hsz0 : H.size = H9.size + 3 := by omega
  refine lv_aload_n hx hb dX1_init_29 rfl (lv_at hl 0 rfl) ?_
  refine lv_bipush (v := nI 16) hx hb dX1_init_30 (by decide +kernel) ?_
  refine zn_newa (atype := .boolean) (N' := 16) (a0 := (16, .inl (fun _ => nI 0))) hx hb (hts (.arrayClass .boolean) (by decide +kernel)) hiZ hP hS (by rw [hsz0]; exact (hfr 3 (by decide)).symm) (by rw [co_s (by decide), cm_hs, ← hκ]; rfl) (zcZ _ _) (nI_pos (by omega)) (nI_clamp (by omega)) (by show _ * 1 ≤ _; omega) (by show _ ≤ 7; omega) (by show _ ≤ 1480; omega) dX1_init_32 (fun H hP hS hsz9 => ?_)
  have hsz0 : H.size = H9.size + 4 := by omega
  refine zn_putF (C := RX1) (T := TX1) (N := 12) (ci := 2) (v := .ref (ad 4)) hx hb hts innX1_init tyX1 tyX1_ok nmX1 hown hK hP (hap9 5 (by decide)) (hA 5 (by decide)) hS (by decide) rfl 7 (by decide) (hts (.fieldLink RX1 19 "SignTellerModel" "has" "[Z") (by decide +kernel)) rfl hin rfl rfl rfl (Nat.le_of_ble_eq_true rfl) dX1_init_34 (fun H locs hP hS hsz9 => ?_)
  have hP : va_P E.1 vwCl (wn 5 ad (co (cm E ad τ) 2 [.int 0, .int 0, .int 0, .ref (ad 1), .ref (ad 2), .ref (ad 3), .int 0, .ref (ad 4), .null, .null, .null, .int 0])) H := hP
  have hsz0 : H.size = H9.size + 4 := by omega
  refine lv_aload_n hx hb dX1_init_37 rfl (lv_at hl 0 rfl) ?_
  refine lv_sipush (v := nI 256) hx hb dX1_init_38 (by decide +kernel) ?_
  refine zn_newa (atype := .double) (N' := 256) (a0 := (256, .inr (.inr (.inr (.inl (fun _ => (0 : UInt64))))))) hx hb (hts (.arrayClass .double) (by decide +kernel)) hiD hP hS (by rw [hsz0]; exact (hfr 4 (by decide)).symm) (by rw [co_s (by decide), cm_mn, ← hκ]; rfl) (zcD _ _) (nI_pos (by omega)) (nI_clamp (by omega)) (by show _ * 8 ≤ _; omega) (by show _ ≤ 7; omega) (by show _ ≤ 1480; omega) dX1_init_41 (fun H hP hS hsz9 => ?_)
  have hsz0 : H.size = H9.size + 5 := by omega
  refine zn_putF (C := RX1) (T := TX1) (N := 12) (ci := 2) (v := .ref (ad 5)) hx hb hts innX1_init tyX1 tyX1_ok nmX1 hown hK hP (hap9 6 (by decide)) (hA 6 (by decide)) hS (by decide) rfl 8 (by decide) (hts (.fieldLink RX1 23 "SignTellerModel" "mean" "[D") (by decide +kernel)) rfl hin rfl rfl rfl (Nat.le_of_ble_eq_true rfl) dX1_init_43 (fun H locs hP hS hsz9 => ?_)
  have hP : va_P E.1 vwCl (wn 6 ad (co (cm E ad τ) 2 [.int 0, .int 0, .int 0, .ref (ad 1), .ref (ad 2), .ref (ad 3), .int 0, .ref (ad 4), .ref (ad 5), .null, .null, .int 0])) H := hP
  have hsz0 : H.size = H9.size + 5 := by omega
  refine lv_aload_n hx hb dX1_init_46 rfl (lv_at hl 0 rfl) ?_
  refine lv_sipush (v := nI 256) hx hb dX1_init_47 (by decide +kernel) ?_
  refine zn_newa (atype := .double) (N' := 256) (a0 := (256, .inr (.inr (.inr (.inl (fun _ => (0 : UInt64))))))) hx hb (hts (.arrayClass .double) (by decide +kernel)) hiD hP hS (by rw [hsz0]; exact (hfr 5 (by decide)).symm) (by rw [co_s (by decide), cm_wt, ← hκ]; rfl) (zcD _ _) (nI_pos (by omega)) (nI_clamp (by omega)) (by show _ * 8 ≤ _; omega) (by show _ ≤ 7; omega) (by show _ ≤ 1480; omega) dX1_init_50 (fun H hP hS hsz9 => ?_)
  have hsz0 : H.size = H9.size + 6 := by omega
  refine zn_putF (C := RX1) (T := TX1) (N := 12) (ci := 2) (v := .ref (ad 6)) hx hb hts innX1_init tyX1 tyX1_ok nmX1 hown hK hP (hap9 7 (by decide)) (hA 7 (by decide)) hS (by decide) rfl 9 (by decide) (hts (.fieldLink RX1 27 "SignTellerModel" "weight" "[D") (by decide +kernel)) rfl hin rfl rfl rfl (Nat.le_of_ble_eq_true rfl) dX1_init_52 (fun H locs hP hS hsz9 => ?_)
  have hP : va_P E.1 vwCl (wn 7 ad (co (cm E ad τ) 2 [.int 0, .int 0, .int 0, .ref (ad 1), .ref (ad 2), .ref (ad 3), .int 0, .ref (ad 4), .ref (ad 5), .ref (ad 6), .null, .int 0])) H := hP
  have hsz0 : H.size = H9.size + 6 := by omega
  refine lv_aload_n hx hb dX1_init_55 rfl (lv_at hl 0 rfl) ?_
  refine lv_sipush (v := nI 256) hx hb dX1_init_56 (by decide +kernel) ?_
  refine zn_newa (atype := .int) (N' := 256) (a0 := (256, .inl (fun _ => nI 0))) hx hb (hts (.arrayClass .int) (by decide +kernel)) hiI hP hS (by rw [hsz0]; exact (hfr 6 (by decide)).symm) (by rw [co_s (by decide), cm_cf, ← hκ]; rfl) (zcI _ _) (nI_pos (by omega)) (nI_clamp (by omega)) (by show _ * 4 ≤ _; omega) (by show _ ≤ 7; omega) (by show _ ≤ 1480; omega) dX1_init_59 (fun H hP hS hsz9 => ?_)
  have hsz0 : H.size = H9.size + 7 := by omega
  refine zn_putF (C := RX1) (T := TX1) (N := 12) (ci := 2) (v := .ref (ad 7)) hx hb hts innX1_init tyX1 tyX1_ok nmX1 hown hK hP (hap9 8 (by decide)) (hA 8 (by decide)) hS (by decide) rfl 10 (by decide) (hts (.fieldLink RX1 30 "SignTellerModel" "confused" "[I") (by decide +kernel)) rfl hin rfl rfl rfl (Nat.le_of_ble_eq_true rfl) dX1_init_61 (fun H locs hP hS hsz9 => ?_)
  have hP : va_P E.1 vwCl (wn 8 ad (co (cm E ad τ) 2 [.int 0, .int 0, .int 0, .ref (ad 1), .ref (ad 2), .ref (ad 3), .int 0, .ref (ad 4), .ref (ad 5), .ref (ad 6), .ref (ad 7), .int 0])) H := hP
  have hsz0 : H.size = H9.size + 7 := by omega
  refine lv_aload_n hx hb dX1_init_64 rfl (lv_at hl 0 rfl) ?_
  refine lv_iconst (v := nI 1) hx hb dX1_init_65 (by decide +kernel) ?_
  refine lv_iload_n hx hb dX1_init_66 rfl (lv_at hl 1 rfl) ?_
  refine lv_bipush (v := nI 15) hx hb dX1_init_67 (by decide +kernel) ?_
  refine lv_iand hx hb dX1_init_69 ?_
  refine zv_iadd (v := nI (fcN x)) hx hb dX1_init_70 (fcN_eq x) ?_
  refine zn_putF (C := RX1) (T := TX1) (N := 12) (ci := 2) (v := .int (nI (fcN x))) hx hb hts innX1_init tyX1 tyX1_ok nmX1 hown hK hP (hap9 8 (by decide)) (hA 8 (by decide)) hS (by decide) rfl 1 (by decide) (hts (.fieldLink RX1 33 "SignTellerModel" "features" "I") (by decide +kernel)) rfl hin rfl rfl rfl (Nat.le_of_ble_eq_true rfl) dX1_init_71 (fun H locs hP hS hsz9 => ?_)
  have hP : va_P E.1 vwCl (wn 8 ad (co (cm E ad τ) 2 [.int 0, .int (nI (fcN x)), .int 0, .ref (ad 1), .ref (ad 2), .ref (ad 3), .int 0, .ref (ad 4), .ref (ad 5), .ref (ad 6), .ref (ad 7), .int 0])) H := hP
  have hsz0 : H.size = H9.size + 7 := by omega
  have hP : PM E ad τ H := by
    refine wn_congr hP fun k hk => ?_
    by_cases h9 : k = 0
    · subst h9; rw [← hκ]; rfl
    · exact co_s (by omega)
  rw [← hH9] at hS
  refine W.widen (k := 7) (n := 1480) (by omega) (by omega) ?_
  exact W.vret hx hb hr (fun t ht hW => ⟨⟨(), rfl, trivial, (wn_h ht hP)⟩, hS.F ht⟩) hS.2.2 dX1_init_74
