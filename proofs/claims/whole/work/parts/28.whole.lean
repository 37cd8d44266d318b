/-- the addresses of an object at q whose cells come from h on -/
def axN (q h : Nat) (k : Nat) : Nat := if k = 0 then q else h + (k - 1)
theorem axN_s (q h k : Nat) : axN q h (1 + k) = h + k := by
  unfold axN
  rw [if_neg (by omega), Nat.add_sub_cancel_left]
theorem axN_or (q h k : Nat) : axN q h k = q ∨ h ≤ axN q h k := by
  unfold axN
  split
  · exact Or.inl rfl
  · exact Or.inr (by omega)
theorem axN_apart {q h : Nat} (hq : q < h) (n : Nat) : apart n (axN q h) := by
  intro i j _ _ e
  unfold axN at e
  split at e <;> split at e <;> omega
theorem zAO.moved {U V : State} (hal : U.vm.Alike V.vm) (h : zAO U) : zAO V := ⟨arrayOver_alikeB hal h.1, arrayOver_alikeB hal h.2⟩
section ZST
variable {p : Program} {l : Launch} {e : Env} {R : Room} {s : State} {m : MethodId} {args : Array Value} {below : List Frame} {meth : Method} {c : Code} {H : Heap} {locs : List Loc} {cells slots : Nat} {Q : State → Prop}
variable {cc : ByteArray} {pc : Nat} {ls : Array Slot} {rest : List Value} {D : va_G} {cl : List vw_C} {A : Nat → Prop} {H0 : Heap}
theorem zn_new (hx : p.tables.exec = Jvm.exec) (hb : c.code = cc) {own C : String} {T : u_T} {N ci index : Nat} {Ts : List Cond} {tys : List (ClassId × FieldType)} (hts : ∀ w ∈ Ts, w.before args s = true) (hin : ∀ w ∈ u_ws C T N, w ∈ Ts) (ty : Nat → FieldType) (hty : ∀ k, k < N → parseFieldDescriptor (T k).2.2.1 = some (ty k)) (hown : s.vm.findClass own = some m.cls) (hcl : (Cond.classLink own index C).before args s = true) (hinst : (Cond.instantiable C N).before args s = true) (hini : (Cond.initialized C).before args s = true)
    (hK : va_K D cl tys s) (hS : va_S A H0 H locs) (hc : cl[ci]? = some (C, T, N)) {fs : List Value} (hfs : ∀ j, j < N → defaultValue (ty j) = vp_V fs j) (hcells : cells + 1 ≤ R.cells) (hslots : slots + N ≤ R.slots) (hdg : decode cc pc = .ok (.new index, 3))
    (kk : ∀ (H1 : Heap), va_at D cl (H.size, .inr (ci, fs)) H1 → (∀ q : Nat, q < H.size → H1[q]? = H[q]?) → H1.size = H.size + 1 → va_S A H0 H1 locs →
      W p l e R s m args below meth c H1 locs (cells + 1) (slots + N) Q (F0 m (pc + 3) ls (.ref H.size :: rest))) : W p l e R s m args below meth c H locs cells slots Q (F0 m pc ls rest) := by
  have hKn := hK.1 ci _ hc
  refine W.newcK hx hb hown hcl hinst hini rfl hdg hcells hslots hKn.2.1 rfl fun H1 kC hkC e1 z1 o1 => ?_
  exact kk H1 ⟨_, hc, (u_born ty hts hin hKn hkC e1 hty).to hfs⟩ o1 z1 ⟨Nat.le_trans hS.1 (by omega), fun x h1 h2 => (o1 x (Nat.lt_of_lt_of_le h1 hS.1)).trans (hS.2.1 x h1 h2), hS.2.2⟩
theorem zn_arr (hx : p.tables.exec = Jvm.exec) (hb : c.code = cc) {atype : ArrayType} (harr : (Cond.arrayClass (newarray.typeOf atype)).before args s = true) {cA : ClassId} (hcA : s.vm.findClass ("[" ++ (newarray.typeOf atype).toString) = some cA) (hS : va_S A H0 H locs)
    {v : Int32} {N' : Nat} {a0 : vp_A} (ha : vp_cell cA a0 = arrV cA N' (fun _ => defaultValue (newarray.typeOf atype))) (hn : ¬ v < 0) (hN : v.toNatClampNeg = N') (hbytes : N' * componentBytes (newarray.typeOf atype) ≤ 536870912) (hcells : cells + 1 ≤ R.cells) (hslots : slots + N' ≤ R.slots) (hdg : decode cc pc = .ok (.newarray atype, 2))
    (kk : ∀ (H1 : Heap), va_at D cl (H.size, .inl (cA, a0)) H1 → (∀ q : Nat, q < H.size → H1[q]? = H[q]?) → H1.size = H.size + 1 → va_S A H0 H1 locs →
      W p l e R s m args below meth c H1 locs (cells + 1) (slots + N') Q (F0 m (pc + 2) ls (.ref H.size :: rest))) : W p l e R s m args below meth c H locs cells slots Q (F0 m pc ls (.int v :: rest)) := by
  refine va_newaK hx hb harr rfl hdg rfl hn hN hbytes hcells hslots rfl fun H1 cB e1 z1 o1 _ hNm => ?_
  have ec : cB = cA := Option.some.inj (hNm.symm.trans hcA)
  subst ec
  refine kk H1 ?_ o1 z1 ⟨by have := hS.1; omega, fun x h1 h2 => (o1 x (by have := hS.1; omega)).trans (hS.2.1 x h1 h2), hS.2.2⟩
  show H1[H.size]? = some (vp_cell cB a0)
  rw [ha]
  exact e1
end ZST
theorem zpsC {s : State} {H : Heap} {locs : List Loc} {b L : Nat} {xs : Nat → Int32} (hX : va_X b L xs s s.heap) (hbl : b < s.heap.size) (hS : va_S (fun q => s.heap.size ≤ q) s.heap H locs) : PreS s H (va_Pc [.ref b, .int (nI 0)] (fun U => va_X b L xs U U.heap ∧ b < U.heap.size)) [.ref b, .int (nI 0)] :=
  ⟨fun _ U _ _ h => ⟨h.1, va_X.moved (u := U) (Vm.Alike.refl U.vm) h.2.1, h.2.2⟩, fun U hU hW => ⟨rfl, by rw [hU]; exact va_X.moved hW.alike (hX.kept (hS.2.1 b hbl (Nat.not_le.mpr hbl))), by rw [hU]; exact Nat.lt_of_lt_of_le hbl hS.1⟩⟩
theorem zpsI {s : State} {H : Heap} {E : zE} {q n : Nat} {o : va_E} {x : Int32} (hK : zK E s) (hA : zAO s) (hob : va_at E.1 vwCl (q, o) H) : PreS s H (va_Pc [.ref (axN q H.size 0), .int x] (fun U => (∀ k, k < n → axN q H.size (1 + k) = U.heap.size + k) ∧ va_at E.1 vwCl (axN q H.size 0, o) U.heap ∧ zK E U ∧ zAO U)) [.ref (axN q H.size 0), .int x] :=
  ⟨fun _ U _ _ h => ⟨h.1, h.2.1, h.2.2.1, va_K.moved (Vm.Alike.refl U.vm) h.2.2.2.1, zAO.moved (U := U) (Vm.Alike.refl U.vm) h.2.2.2.2⟩, fun U hU hW => ⟨rfl, fun k _ => by rw [hU]; exact axN_s q H.size k, by rw [hU]; exact hob, va_K.moved hW.alike hK, hA.moved hW.alike⟩⟩
theorem zpsM {s : State} {H : Heap} {E : zE} {q n : Nat} {o : va_E} {x : Int32} (hK : zK E s) (hob : va_at E.1 vwCl (q, o) H) : PreS s H (va_Pc [.ref (axN q H.size 0), .int x] (fun U => (∀ k, k < n → axN q H.size (1 + k) = U.heap.size + k) ∧ va_at E.1 vwCl (axN q H.size 0, o) U.heap ∧ zK E U)) [.ref (axN q H.size 0), .int x] :=
  ⟨fun _ U _ _ h => ⟨h.1, h.2.1, h.2.2.1, va_K.moved (Vm.Alike.refl U.vm) h.2.2.2⟩, fun U hU hW => ⟨rfl, fun k _ => by rw [hU]; exact axN_s q H.size k, by rw [hU]; exact hob, va_K.moved hW.alike hK⟩⟩
theorem Sep.mk9 {n0 q2 aj aD : Nat} {ax am : Nat → Nat} (h1 : apart 96 ax) (h2 : apart 8 am) (h0 : n0 ≤ q2) (hax : ∀ k, k < 96 → n0 ≤ ax k ∧ ax k < q2) (ham : ∀ k, k < 8 → q2 ≤ am k ∧ am k < aj) (hj : q2 ≤ aj) (hd : aj < aD) : Sep n0 ax am aj aD := by
  refine ⟨h1, h2, fun k hk => (hax k hk).1, fun k hk => Nat.le_trans h0 (ham k hk).1, by omega, by omega, ?_, ?_, ?_, ?_, ?_, ?_, by omega, ?_, ?_⟩
  · intro k hk ⟨i, hi, e⟩
    have a := hax i hi
    have b := ham k hk
    omega
  · intro k hk ⟨i, hi, e⟩
    have a := hax k hk
    have b := ham i hi
    omega
  · intro ⟨i, hi, e⟩
    have a := hax i hi
    omega
  · intro ⟨i, hi, e⟩
    have a := hax i hi
    omega
  · intro ⟨i, hi, e⟩
    have b := ham i hi
    omega
  · intro ⟨i, hi, e⟩
    have b := ham i hi
    omega
  · intro k hk e
    have b := ham k hk
    omega
  · intro k hk e
    have b := ham k hk
    omega
theorem glL_cell : GoodIn lw_tbl (va_wsS RL 29 yL_cell wsL_cell) := goodIn_mono wsL_law_in gL_law_L_cell
theorem glX0_init : GoodIn lw_tbl wsX0_init := goodIn_mono wsL_law_in gL_law_X0_init
theorem glX1_init : GoodIn lw_tbl wsX1_init := goodIn_mono wsL_law_in gL_law_X1_init
set_option maxHeartbeats 4000000 in
set_option maxRecDepth 100000 in
/-- from the entry to the end -/
theorem whole_start {p : Program} {e : Env} {s : State} {m : MethodId} {below : List Frame} {meth : Method} {c : Code} (l : Launch) (hflags : l.flags = flags0) {b L : Nat} {xs : Nat → Int32} (hL : L ≤ 2049) (C0 : lw_At p s m meth c b L xs) : W p l e room_1 s m #[Value.ref b] below meth c s.heap [] 0 0 (lw_Z below #[Value.ref b] s) (entryFrame m ([Value.ref b] : List Value).toArray 9) := by
  obtain ⟨hx, hb, hr, hml, hown, hts, hX, hbl, hlocks, hgv⟩ := id C0
  have hb : c.code = cL_law := hb
  have hown : s.vm.findClass RL = some m.cls := hown
  have hst9 : l.stackTraces = false := by
    unfold Launch.stackTraces
    rw [hflags]
    decide +kernel
  obtain ⟨E, hK⟩ := lw_K hts
  obtain ⟨hT9, hC9⟩ := lw_T hts hgv
  have hAO : zAO s := ⟨va_AOA.of (hts _ lwT_II), va_AOA.of (hts _ lwT_DD)⟩
  have hiD : s.vm.findClass "[D" = some (eD E) := (hK.2 2 _ rfl).2
  have hiJ : s.vm.findClass "[J" = some (eJ E) := (hK.2 5 _ rfl).2
  have exit : ∀ (H : Heap) (ls : Array Slot), W p l e room_1 s m #[Value.ref b] below meth c H [] 601024 7293000 (lw_Z below #[Value.ref b] s) (F0 m 518 ls []) := fun H ls => by
    refine lv_iconst (v := 1) hx hb dL_law_518 (by decide +kernel) ?_
    exact lw_ret (d0 := s.drawn) (Drawn.sameBut.refl s.drawn lw_cs) hx hb hr hlocks dL_law_519
  have hl := lv_entry ([.ref b]) (n := 9) (Nat.le_of_ble_eq_true rfl)
  rw [lg_entry_eq]
  generalize (lg_sl ([.ref b]) ++ List.replicate (9 - (lg_sl ([.ref b])).length) Slot.unset).toArray = ls at hl ⊢
  have hl : lv_has ls 9 [(0, .ref b)] := hl
  generalize hn0 : s.heap.size = n0
  have hS : va_S (fun q => s.heap.size ≤ q) s.heap s.heap [] := va_S.rf
  refine zn_new (own := RL) (C := RX0) (T := TX0) (N := 11) (ci := 1) (fs := [.int 0, .null, .null, .int 0, .null, .int 0, .int 0, .null, .null, .null, .null]) hx hb hts inX0 tyX0 tyX0_ok hown (hts (.classLink RL 8 RX0) (by decide +kernel)) (hts (.instantiable RX0 11) (by decide +kernel)) (hts (.initialized RX0) (by decide +kernel)) hK hS rfl (fun j hj => by rcases (show j = 0 ∨ j = 1 ∨ j = 2 ∨ j = 3 ∨ j = 4 ∨ j = 5 ∨ j = 6 ∨ j = 7 ∨ j = 8 ∨ j = 9 ∨ j = 10 by omega) with rfl | rfl | rfl | rfl | rfl | rfl | rfl | rfl | rfl | rfl | rfl <;> rfl) (by show _ ≤ 601024; omega) (by show _ ≤ 7293000; omega) dL_law_0 (fun H hob _ hz1 hS => ?_)
  rw [hn0] at hob hz1 ⊢
  refine lv_dup hx hb dL_law_3 rfl ?_
  refine lv_aload_n hx hb dL_law_4 rfl (lv_at hl 0 rfl) ?_
  refine lv_iconst (v := nI 0) hx hb dL_law_5 (by decide +kernel) ?_
  refine va_calli (va_runS (As := [.ref b, .int (nI 0)]) (rest := [.ref n0, .ref n0]) ⟨hx, hb, hml, hown, hts⟩ (kL_cell l b L xs (by omega)) (va_cwS 2 hts glL_cell rfl rfl rfl (by decide +kernel) ⟨Nat.le_of_ble_eq_true rfl, Nat.le_of_ble_eq_true rfl⟩) (zpsC hX hbl hS) rfl rfl hl.1 rfl (lv_room (Nat.le_of_ble_eq_true rfl)) dL_law_6 ⟨by show _ ≤ 601024; omega, by show _ ≤ 7293000; omega⟩) hS (fun q _ h => h.elim) (fun q h => h.elim) (fun r u9 t9 H1 locs ht9 hvm9 hw9 hB9 hz9 hk9 hS => ?_)
  subst hw9
  have hq0 : n0 < H1.size := by omega
  replace hob : va_at E.1 vwCl (n0, .inr (1, [.int 0, .null, .null, .int 0, .null, .int 0, .int 0, .null, .null, .null, .null])) H1 := by
    obtain ⟨r9, g1, cell, g2, g3⟩ := hob
    exact ⟨r9, g1, cell, (hk9 n0 (by omega) not_false).trans g2, g3⟩
  generalize hh1 : H1.size = h1 at hq0
  have hax : apart 96 (axN n0 h1) := axN_apart hq0 96
  have hfx : ∀ q, aX 96 (axN n0 h1) q → s.heap.size ≤ q := fun q ⟨k, _, e⟩ => by
    rw [hn0, e]
    rcases axN_or n0 h1 k with h | h <;> omega
  have hpi := zpsI (n := 95) (x := cl0 L xs) hK hAO hob
  rw [hh1] at hpi
  refine va_callv (va_runI (As := [.int (cl0 L xs)]) (rest := [.ref n0]) ⟨hx, hb, hml, hown, hts⟩ (kX0_init l E (axN n0 h1) hax (cl0 L xs)) (cwI 1 hts glX0_init rfl rfl rfl (hts (.initialized RX0) (by decide +kernel)) (hts (.methodLink RL 35 yX0_init) (by decide +kernel)) (hts (.instanceMethod yX0_init) (by decide +kernel)) rfl (by decide +kernel) ⟨Nat.le_of_ble_eq_true rfl, Nat.le_of_ble_eq_true rfl⟩) hpi rfl rfl hl.1 rfl (lv_room (Nat.le_of_ble_eq_true rfl)) dL_law_9 ⟨by show _ ≤ 601024; omega, by show _ ≤ 7293000; omega⟩) hS (fun q _ h => hfx q h) hfx (fun u9 t9 H2 locs ht9 hvm9 hw9 hP hz9 hk9 hS => ?_)
  rw [ht9] at hP
  refine lv_astore_n (lv' := [(1, .ref n0), (0, .ref b)]) hx hb dL_law_12 rfl hl (by decide) rfl (fun ls hl => ?_)
  generalize hq2 : H2.size = q2
  have hxlt : ∀ k, k < 96 → n0 ≤ axN n0 h1 k ∧ axN n0 h1 k < q2 := fun k hk => by
    have a := (hP k _ (wn_at hk)).lt
    have a : axN n0 h1 k < H2.size := a
    rcases axN_or n0 h1 k with h | h <;> omega
  have hn2 : n0 ≤ q2 := by have := hxlt 0 (by decide); omega
  refine zn_new (own := RL) (C := RX1) (T := TX1) (N := 12) (ci := 2) (fs := [.int 0, .int 0, .int 0, .null, .null, .null, .int 0, .null, .null, .null, .null, .int 0]) hx hb hts inX1 tyX1 tyX1_ok hown (hts (.classLink RL 38 RX1) (by decide +kernel)) (hts (.instantiable RX1 12) (by decide +kernel)) (hts (.initialized RX1) (by decide +kernel)) hK hS rfl (fun j hj => by rcases (show j = 0 ∨ j = 1 ∨ j = 2 ∨ j = 3 ∨ j = 4 ∨ j = 5 ∨ j = 6 ∨ j = 7 ∨ j = 8 ∨ j = 9 ∨ j = 10 ∨ j = 11 by omega) with rfl | rfl | rfl | rfl | rfl | rfl | rfl | rfl | rfl | rfl | rfl | rfl <;> rfl) (by show _ ≤ 601024; omega) (by show _ ≤ 7293000; omega) dL_law_13 (fun H3 hom ho3 hz3 hS => ?_)
  replace hP := hP.kept fun k x hk => ho3 x.1 ((hP k x hk).lt)
  rw [hq2] at hom hz3 ⊢
  refine lv_dup hx hb dL_law_16 rfl ?_
  refine lv_aload_n hx hb dL_law_17 rfl (lv_at hl 1 rfl) ?_
  refine lv_iconst (v := nI 0) hx hb dL_law_18 (by decide +kernel) ?_
  refine va_calli (va_runS (As := [.ref b, .int (nI 0)]) (rest := [.ref q2, .ref q2]) ⟨hx, hb, hml, hown, hts⟩ (kL_cell l b L xs (by omega)) (va_cwS 2 hts glL_cell rfl rfl rfl (by decide +kernel) ⟨Nat.le_of_ble_eq_true rfl, Nat.le_of_ble_eq_true rfl⟩) (zpsC hX hbl hS) rfl rfl hl.1 rfl (lv_room (Nat.le_of_ble_eq_true rfl)) dL_law_19 ⟨by show _ ≤ 601024; omega, by show _ ≤ 7293000; omega⟩) hS (fun q _ h => h.elim) (fun q h => h.elim) (fun r u9 t9 H4 locs ht9 hvm9 hw9 hB9 hz9 hk9 hS => ?_)
  subst hw9
  replace hP := wn_ro hP hk9
  have hq4 : q2 < H4.size := by omega
  replace hom : va_at E.1 vwCl (q2, .inr (2, [.int 0, .int 0, .int 0, .null, .null, .null, .int 0, .null, .null, .null, .null, .int 0])) H4 := by
    obtain ⟨r9, g1, cell, g2, g3⟩ := hom
    exact ⟨r9, g1, cell, (hk9 q2 (by omega) not_false).trans g2, g3⟩
  generalize hh4 : H4.size = h4 at hq4
  have ham : apart 8 (axN q2 h4) := axN_apart hq4 8
  have hfm : ∀ q, aX 8 (axN q2 h4) q → s.heap.size ≤ q := fun q ⟨k, _, e⟩ => by
    rw [hn0, e]
    rcases axN_or q2 h4 k with h | h <;> omega
  have hpm := zpsM (n := 7) (x := cl0 L xs) hK hom
  rw [hh4] at hpm
  refine va_callv (va_runI (As := [.int (cl0 L xs)]) (rest := [.ref q2]) ⟨hx, hb, hml, hown, hts⟩ (kX1_init l E (axN q2 h4) ham (cl0 L xs)) (cwI 1 hts glX1_init rfl rfl rfl (hts (.initialized RX1) (by decide +kernel)) (hts (.methodLink RL 40 yX1_init) (by decide +kernel)) (hts (.instanceMethod yX1_init) (by decide +kernel)) rfl (by decide +kernel) ⟨Nat.le_of_ble_eq_true rfl, Nat.le_of_ble_eq_true rfl⟩) hpm rfl rfl hl.1 rfl (lv_room (Nat.le_of_ble_eq_true rfl)) dL_law_22 ⟨by show _ ≤ 601024; omega, by show _ ≤ 7293000; omega⟩) hS (fun q _ h => hfm q h) hfm (fun u9 t9 H5 locs ht9 hvm9 hw9 hM hz9 hk9 hS => ?_)
  rw [ht9] at hM
  replace hP := va_keep hP hk9 (fun k hk ⟨i, _, e⟩ => by
    have a := hxlt k hk
    rcases axN_or q2 h4 i with h | h <;> omega)
  refine lv_astore_n (lv' := [(2, .ref q2), (1, .ref n0), (0, .ref b)]) hx hb dL_law_25 rfl hl (by decide) rfl (fun ls hl => ?_)
  refine lv_iconst (v := nI 1) hx hb dL_law_26 (by decide +kernel) ?_
  generalize haj : H5.size = aj
  have hmlt : ∀ k, k < 8 → q2 ≤ axN q2 h4 k ∧ axN q2 h4 k < aj := fun k hk => by
    have a : axN q2 h4 k < H5.size := (hM k _ (wn_at hk)).lt
    rcases axN_or q2 h4 k with h | h <;> omega
  have hj2 : q2 ≤ aj := by have := hmlt 0 (by decide); omega
  refine zn_arr (atype := .long) (D := E.1) (cl := vwCl) (N' := 1) (a0 := (1, .inr (.inl (fun _ => 0)))) hx hb (hts (.arrayClass .long) (by decide +kernel)) hiJ hS (by rw [vp_cell_l]; rfl) (nI_pos (by decide)) (nI_clamp (by decide)) (by decide) (by show _ ≤ 601024; omega) (by show _ ≤ 7293000; omega) dL_law_27 (fun H6 hJ ho6 hz6 hS => ?_)
  replace hP := hP.kept fun k x hk => ho6 x.1 ((hP k x hk).lt)
  replace hM := hM.kept fun k x hk => ho6 x.1 ((hM k x hk).lt)
  rw [haj] at hJ hz6 ⊢
  have hJ : atJ1 E aj 0 H6 := hJ
  refine lv_astore_n (lv' := [(3, .ref aj), (2, .ref q2), (1, .ref n0), (0, .ref b)]) hx hb dL_law_29 rfl hl (by decide) rfl (fun ls hl => ?_)
  refine lv_iconst (v := nI 1) hx hb dL_law_30 (by decide +kernel) ?_
  generalize haD : H6.size = aD
  refine zn_arr (atype := .double) (D := E.1) (cl := vwCl) (N' := 1) (a0 := (1, .inr (.inr (.inr (.inl (fun _ => 0)))))) hx hb (hts (.arrayClass .double) (by decide +kernel)) hiD hS (by rw [vp_cell_d]; rfl) (nI_pos (by decide)) (nI_clamp (by decide)) (by decide) (by show _ ≤ 601024; omega) (by show _ ≤ 7293000; omega) dL_law_31 (fun H7 hD7 ho7 hz7 hS => ?_)
  replace hP := hP.kept fun k x hk => ho7 x.1 ((hP k x hk).lt)
  replace hM := hM.kept fun k x hk => ho7 x.1 ((hM k x hk).lt)
  replace hJ := hJ.kept (ho7 aj hJ.lt)
  rw [haD] at hD7 hz7 ⊢
  have hD7 : atD1 E aD 0 H7 := hD7
  refine lv_astore (lv' := [(4, .ref aD), (3, .ref aj), (2, .ref q2), (1, .ref n0), (0, .ref b)]) hx hb dL_law_33 hl (by decide) rfl (fun ls hl => ?_)
  refine lv_iconst (v := nI 1) hx hb dL_law_35 (by decide +kernel) ?_
  refine lv_istore (lv' := [(5, .int (nI 1)), (4, .ref aD), (3, .ref aj), (2, .ref q2), (1, .ref n0), (0, .ref b)]) hx hb dL_law_36 hl (by decide) rfl (fun ls hl => ?_)
  have hs : Sep s.heap.size (axN n0 h1) (axN q2 h4) aj aD := by
    rw [hn0]
    exact Sep.mk9 hax ham hn2 hxlt hmlt hj2 (by omega)
  refine W.widen (k := 106 + 0) (n := 3073 + 6 * 0) (by omega) (by omega) ?_
  exact lw_loop hx hb hml hown hts hX hbl hL hst9 hK hT9 hC9 hs (by decide) (by decide) exit (L + 9) 0 _ _ 0 0 H7 _ ls (by omega) (by omega) ⟨hP, hM, hJ, hD7⟩ (Tie.start (fcN_pos (cl0 L xs)) (fcN_le (cl0 L xs))) hS (lv_sub hl [4, 3, 2, 1, 0, 5] rfl)
