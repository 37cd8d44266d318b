/-! ===== new cells into an indexed world; the constructors ===== -/
theorem wn_put {D : va_G} {cl : List vw_C} {n N : Nat} {ad : Nat → Nat} {d : Nat → va_E} {H H1 : Heap} (hP : va_P D cl (wn n ad d) H) (ho : ∀ q : Nat, q < H.size → H1[q]? = H[q]?) (hn : ∀ i, n ≤ i → i < N → va_at D cl (ad i, d i) H1) : va_P D cl (wn N ad d) H1 := by
  intro k q hk
  obtain ⟨h1, rfl⟩ := wn_of hk
  by_cases h2 : k < n
  · have h0 : va_P D cl (wn n ad d) H1 := hP.kept fun k x hx => ho x.1 ((hP k x hx).lt)
    exact h0 k _ (wn_at h2)
  · exact hn k (by omega) h1
/-- the object at place 0 holds fs, the other places d -/
def co (d : Nat → va_E) (ci : Nat) (fs : List Value) (k : Nat) : va_E := if k = 0 then .inr (ci, fs) else d k
theorem co_s {d : Nat → va_E} {ci : Nat} {fs : List Value} {k : Nat} (h : 0 < k) : co d ci fs k = d k := if_neg (by omega)
section ZNEW
variable {p : Program} {l : Launch} {e : Env} {R : Room} {s : State} {m : MethodId} {args : Array Value} {below : List Frame} {meth : Method} {c : Code} {H : Heap} {locs : List Loc} {cells slots : Nat} {Q : State → Prop}
variable {cc : ByteArray} {pc : Nat} {ls : Array Slot} {rest : List Value} {D : va_G} {cl : List vw_C} {A : Nat → Prop} {H0 : Heap} {n : Nat} {ad : Nat → Nat} {d : Nat → va_E}
theorem zn_newa (hx : p.tables.exec = Jvm.exec) (hb : c.code = cc) {atype : ArrayType} (harr : (Cond.arrayClass (newarray.typeOf atype)).before args s = true) {cA : ClassId} (hcA : s.vm.findClass ("[" ++ (newarray.typeOf atype).toString) = some cA) (hP : va_P D cl (wn n ad d) H) (hS : va_S A H0 H locs) (hsz : H.size = ad n)
    {v : Int32} {N' : Nat} {a0 : vp_A} (hd : d n = .inl (cA, a0)) (ha : vp_cell cA a0 = arrV cA N' (fun _ => defaultValue (newarray.typeOf atype))) (hn : ¬ v < 0) (hN : v.toNatClampNeg = N') (hbytes : N' * componentBytes (newarray.typeOf atype) ≤ 536870912) (hcells : cells + 1 ≤ R.cells) (hslots : slots + N' ≤ R.slots) (hdg : decode cc pc = .ok (.newarray atype, 2))
    (kk : ∀ (H1 : Heap), va_P D cl (wn (n + 1) ad d) H1 → va_S A H0 H1 locs → H1.size = H.size + 1 →
      W p l e R s m args below meth c H1 locs (cells + 1) (slots + N') Q (F0 m (pc + 2) ls (.ref (ad n) :: rest))) : W p l e R s m args below meth c H locs cells slots Q (F0 m pc ls (.int v :: rest)) := by
  refine va_newaK hx hb harr rfl hdg rfl hn hN hbytes hcells hslots hsz fun H1 cB e1 z1 o1 _ hNm => ?_
  have ec : cB = cA := Option.some.inj (hNm.symm.trans hcA)
  subst ec
  refine kk H1 (wn_put hP (fun q hq => o1 q (by omega)) fun i h1 h2 => ?_) ⟨by have := hS.1; omega, fun x h1 h2 => (o1 x (by have := hS.1; omega)).trans (hS.2.1 x h1 h2), hS.2.2⟩ (by omega)
  have hi : i = n := by omega
  subst hi
  rw [hd]
  show H1[ad i]? = some (vp_cell cB a0)
  rw [ha]
  exact e1
theorem zn_mna (hx : p.tables.exec = Jvm.exec) (hb : c.code = cc) {own : String} {index : Nat} {ty : FieldType} (hown : s.vm.findClass own = some m.cls) (hclink : (Cond.classLink own index ("[" ++ (FieldType.array ty).toString)).before args s = true) (hover : (Cond.arrayOver (.array ty)).before args s = true) (harr : (Cond.arrayClass ty).before args s = true)
    {cA cy : ClassId} (hcA : s.vm.findClass ("[" ++ (FieldType.array ty).toString) = some cA) (hcy : s.vm.findClass (FieldType.array ty).toString = some cy) (hP : va_P D cl (wn n ad d) H) (hS : va_S A H0 H locs) (hsz : H.size = ad n)
    {v k : Int32} {N' K' : Nat} {z : Nat → vp_A} (hv : ¬ v < 0) (hk : ¬ k < 0) (hN : v.toNatClampNeg = N') (hM : k.toNatClampNeg = K') (had : ∀ i, i < N' → ad (n + 1 + i) = ad n + 1 + i)
    (hd : d n = .inl (cA, N', .inr (.inr (.inr (.inr (fun i => if i < N' then some (ad (n + 1 + i)) else none)))))) (hdr : ∀ i, i < N' → d (n + 1 + i) = .inl (cy, z i)) (hz : ∀ i, i < N' → vp_cell cy (z i) = arrV cy K' (fun _ => defaultValue ty))
    (hb1 : N' * 4 ≤ 536870912) (hb2 : K' * componentBytes ty ≤ 536870912) (hb3 : K' ≤ 536870912) (hdf : fits ty (defaultValue ty) = true) (hdd : (defaultValue ty).isDefault = true) (hcells : cells + (1 + N') ≤ R.cells) (hslots : slots + (N' + N' * K') ≤ R.slots) (hdg : decode cc pc = .ok (.multianewarray index 2, 4))
    (kk : ∀ (H1 : Heap), va_P D cl (wn (n + 1 + N') ad d) H1 → va_S A H0 H1 locs → H1.size = H.size + 1 + N' →
      W p l e R s m args below meth c H1 locs (cells + 1 + N') (slots + N' + N' * K') Q (F0 m (pc + 4) ls (.ref (ad n) :: rest))) : W p l e R s m args below meth c H locs cells slots Q (F0 m pc ls (.int k :: .int v :: rest)) := by
  subst hN
  subst hM
  intro T hT Xs
  obtain ⟨vm₁, cB, comp, -, fA, fC, -, -, X', step⟩ := Xs.multianewarray2F hx hown hclink hover harr (g := F0 m pc ls (.int k :: .int v :: rest)) rfl (by rw [hb]; exact hdg) rfl hv hk hb1 hb2 hb3 hdf hdd hcells hslots
  have ec : comp = cy := Option.some.inj (fC.symm.trans hcy)
  have eA : cB = cA := Option.some.inj (fA.symm.trans hcA)
  subst ec
  subst eA
  generalize hF : Jvm.Free.Multi.fill (T.setVm vm₁) cB comp v.toNatClampNeg k.toNatClampNeg (defaultValue ty) v.toNatClampNeg = F at X' step
  have hTh : (T.setVm vm₁).heap = H := hT
  obtain ⟨f1, f2, -, -⟩ := Jvm.Free.Multi.fill_facts (T.setVm vm₁) cB comp v.toNatClampNeg k.toNatClampNeg (defaultValue ty) v.toNatClampNeg
  rw [hF, hTh] at f1 f2
  have hold : ∀ x : Nat, x < H.size → F.heap[x]? = H[x]? := fun x hx => by
    have := Jvm.Free.Multi.fill_old (T.setVm vm₁) cB comp v.toNatClampNeg k.toNatClampNeg (defaultValue ty) (a := x) (by rw [hTh]; exact hx) v.toNatClampNeg
    rw [hF, hTh] at this
    exact this
  have hrow : ∀ j : Nat, j < v.toNatClampNeg → F.heap[H.size + 1 + j]? = some (Jvm.Free.Multi.innerC comp k.toNatClampNeg (defaultValue ty)) := fun j hj => by
    have := Jvm.Free.Multi.fill_inner (T.setVm vm₁) cB comp v.toNatClampNeg k.toNatClampNeg (defaultValue ty) v.toNatClampNeg j hj
    rw [hF, hTh] at this
    exact this
  rw [vr_outer cB v.toNatClampNeg H.size v.toNatClampNeg] at f2
  have hP1 : va_P D cl (wn (n + 1 + v.toNatClampNeg) ad d) F.heap := wn_put hP hold fun i h1 h2 => by
    by_cases hi : i = n
    · subst hi
      rw [hd]
      show F.heap[ad i]? = some (vp_cell _ _)
      rw [vp_cell_q, ← hsz, f2]
      refine congrArg some (arrV_congr fun j hj => ?_)
      rw [if_pos hj, if_pos hj, had j hj, ← hsz]
    · obtain ⟨j, rfl⟩ : ∃ j, i = n + 1 + j := ⟨i - (n + 1), by omega⟩
      have hj : j < v.toNatClampNeg := by omega
      rw [hdr j hj]
      show F.heap[ad (n + 1 + j)]? = some (vp_cell _ _)
      rw [had j hj, ← hsz, hrow j hj, hz j hj, ← arrV_new]
      rfl
  obtain ⟨t, a1, b1⟩ := kk F.heap hP1 ⟨by rw [f1]; have := hS.1; omega, fun x h1 h2 => (hold x (Nat.lt_of_lt_of_le h1 hS.1)).trans (hS.2.1 x h1 h2), hS.2.2⟩ f1 F rfl X'
  refine ⟨t, step t ?_, b1⟩
  have e9 : T.heap.size = ad n := by rw [hT]; exact hsz
  rw [e9]
  exact a1
theorem zn_putF (hx : p.tables.exec = Jvm.exec) (hb : c.code = cc) {own C : String} {T : u_T} {N ci index : Nat} {Ts : List Cond} {tys : List (ClassId × FieldType)} (hts : ∀ w ∈ Ts, w.before args s = true) (hin : ∀ w ∈ u_ws C T N, w ∈ Ts) (ty0 : Nat → FieldType) (hty : ∀ k, k < N → parseFieldDescriptor (T k).2.2.1 = some (ty0 k)) (hnm : ∀ a, a < N → ∀ b, b < N → a ≠ b → (T a).2.1 ≠ (T b).2.1) (hown : s.vm.findClass own = some m.cls) (hK : va_K D cl tys s)
    {fs : List Value} (hP : va_P D cl (wn n ad (co d ci fs)) H) (hap : apart n ad) (hA : ∀ k, k < n → A (ad k)) (hS : va_S A H0 H locs) (h0 : 0 < n) (hc : cl[ci]? = some (C, T, N)) (k : Nat) (hk : k < N) (hlink : (Cond.fieldLink own index (T k).1 (T k).2.1 (T k).2.2.1).before args s = true) (hfin : (T k).2.2.2 = true) (hin2 : meth.name = "<init>") (hdecl : (T k).1 = own) {v : Value} (hn : narrow (ty0 k) v = v) (hfit : fits (ty0 k) v = true) (hl : k < fs.length) (hdg : decode cc pc = .ok (.putfield index, 3))
    (kk : ∀ (H1 : Heap) (locs1 : List Loc), va_P D cl (wn n ad (co d ci (fs.set k v))) H1 → va_S A H0 H1 locs1 → H1.size = H.size → W p l e R s m args below meth c H1 locs1 cells slots Q (F0 m (pc + 3) ls rest)) : W p l e R s m args below meth c H locs cells slots Q (F0 m pc ls (v :: .ref (ad 0) :: rest)) := by
  have hD : va_D A (wn n ad (co d ci fs)) := wn_D hap hA
  have h00 : (wn n ad (co d ci fs))[0]? = some (ad 0, .inr (ci, fs)) := wn_at h0
  have hkn := va_apart (own := own) hts hin ty0 hty hnm hK hc
  obtain ⟨r, h1, cell, q1, q2, q3, q4⟩ := hP 0 _ h00
  obtain rfl : r = (C, T, N) := Option.some.inj (h1.symm.trans hc)
  obtain ⟨hSl, hfc, kC, hkC, hkind⟩ := hK.1 ci _ hc
  obtain ⟨cf, kf, fi, f, hi, hsl⟩ := hSl k hk
  have hlay := hts _ (hin _ (u_in_lay hk))
  unfold u_lay at hlay
  rw [if_pos hfin] at hlay
  have hst := (u_facts hfc hkC (u_lays hts hin hk) hi).1
  have hcf : m.cls = cf := by
    obtain ⟨_, _, c', _, _, _, -, -, hf', -, -, -, hown2, -⟩ := Cond.laysFinal_spec hlay
    have e1 : c' = cf := by have := hi.symm.trans hf'; simp at this; exact this.1.symm
    rw [hdecl] at hown2
    rw [← e1]
    exact Option.some.inj (hown.symm.trans hown2)
  have h6 := u_fits hfc hkC hkind (Or.inr hlay) hi (hty k hk) hn hfit
  refine W.putFinK hx hb hown hlink hi hst hcf hin2 (by rw [q2]; exact h6) q1 q3 (by rw [hsl]; exact k2_hasslot (q4 k hk)) rfl rfl hdg fun H1 e1 e2 e3 => ?_
  rw [hsl] at e1 ⊢
  have hP1 : va_P D cl ((wn n ad (co d ci fs)).set 0 (ad 0, .inr (ci, fs.set k v))) H1 := hP.set hD h00 ⟨_, hc, t_OB.to (V := updV (vp_V fs) k v) ⟨_, e1, q2, q3, t_set q4 hkn hk v⟩ (fun j _ => vp_updV_set hl v j)⟩ e3
  rw [wn_set h0] at hP1
  refine kk H1 _ (wn_congr hP1 fun k9 _ => ?_) (hS.put e2 e3 (hA 0 h0)) e2
  by_cases h9 : k9 = 0
  · subst h9
    rw [va_up_self]
    rfl
  · rw [va_up_ne _ _ h9, co_s (by omega), co_s (by omega)]
end ZNEW
