/-! ===== indexed worlds, and the rows that read and write them ===== -/
/-- the world of n cells at the addresses ad, holding d -/
def wn (n : Nat) (ad : Nat → Nat) (d : Nat → va_E) : va_W := (List.range n).map (fun k => (ad k, d k))
theorem wn_at {n k : Nat} {ad : Nat → Nat} {d : Nat → va_E} (h : k < n) : (wn n ad d)[k]? = some (ad k, d k) := by
  unfold wn
  rw [List.getElem?_map, List.getElem?_range h]
  rfl
theorem wn_of {n k : Nat} {ad : Nat → Nat} {d : Nat → va_E} {q : Nat × va_E} (h : (wn n ad d)[k]? = some q) : k < n ∧ q = (ad k, d k) := by
  have hk : k < n := by
    have := (List.getElem?_eq_some_iff.mp h).1
    unfold wn at this
    rw [List.length_map, List.length_range] at this
    exact this
  rw [wn_at hk] at h
  exact ⟨hk, (Option.some.inj h).symm⟩
theorem wn_len {n : Nat} {ad : Nat → Nat} {d : Nat → va_E} : (wn n ad d).length = n := by
  unfold wn
  rw [List.length_map, List.length_range]
theorem wn_set {n k : Nat} {ad : Nat → Nat} {d : Nat → va_E} {e : va_E} (h : k < n) : (wn n ad d).set k (ad k, e) = wn n ad (va_up d k e) := by
  refine List.ext_getElem? fun j => ?_
  by_cases hj : j < n
  · rw [wn_at hj]
    by_cases e : j = k
    · subst e
      rw [List.getElem?_set_self (by rw [wn_len]; exact hj), va_up_self]
    · rw [List.getElem?_set_ne (Ne.symm e), wn_at hj, va_up_ne _ _ e]
  · rw [List.getElem?_eq_none (by rw [List.length_set, wn_len]; omega), List.getElem?_eq_none (by rw [wn_len]; omega)]
/-- the addresses are apart -/
def apart (n : Nat) (ad : Nat → Nat) : Prop := ∀ i j, i < n → j < n → ad i = ad j → i = j
/-- one of the addresses -/
def aX (n : Nat) (ad : Nat → Nat) : Nat → Prop := fun q => ∃ k, k < n ∧ q = ad k
theorem wn_D {n : Nat} {A : Nat → Prop} {ad : Nat → Nat} {d : Nat → va_E} (h : apart n ad) (hA : ∀ k, k < n → A (ad k)) : va_D A (wn n ad d) := by
  refine ⟨fun i j p q hi hj e => ?_, fun k q hk => ?_⟩
  · obtain ⟨h1, rfl⟩ := wn_of hi
    obtain ⟨h2, rfl⟩ := wn_of hj
    exact h i j h1 h2 e
  · obtain ⟨h1, rfl⟩ := wn_of hk
    exact hA k h1
theorem wn_DX {n : Nat} {ad : Nat → Nat} {d : Nat → va_E} (h : apart n ad) : va_D (aX n ad) (wn n ad d) := wn_D h fun k hk => ⟨k, hk, rfl⟩
theorem wn_congr {D : va_G} {cl : List vw_C} {n : Nat} {ad : Nat → Nat} {d d' : Nat → va_E} {H : Heap} (h : va_P D cl (wn n ad d) H) (he : ∀ k, k < n → d k = d' k) : va_P D cl (wn n ad d') H := by
  intro k q hk
  obtain ⟨h1, rfl⟩ := wn_of hk
  have := h k _ (wn_at h1)
  rw [he k h1] at this
  exact this
theorem wn_ro {D : va_G} {cl : List vw_C} {ws : va_W} {H H1 : Heap} (h : va_P D cl ws H) (hq : ∀ q : Nat, q < H.size → ¬ False → H1[q]? = H[q]?) : va_P D cl ws H1 :=
  h.kept fun k q hk => hq q.1 ((h k q hk).lt) not_false
/-- the classes of the arrays: int[], int[][], double[], double[][], boolean[], long[] -/
abbrev zE : Type := va_G × ClassId × ClassId × ClassId × ClassId × ClassId × ClassId
abbrev eI (E : zE) : ClassId := E.2.1
abbrev eII (E : zE) : ClassId := E.2.2.1
abbrev eD (E : zE) : ClassId := E.2.2.2.1
abbrev eDD (E : zE) : ClassId := E.2.2.2.2.1
abbrev eZ (E : zE) : ClassId := E.2.2.2.2.2.1
abbrev eJ (E : zE) : ClassId := E.2.2.2.2.2.2
abbrev zT (E : zE) : List (ClassId × FieldType) := [(eI E, .int), (eII E, .array .int), (eD E, .double), (eDD E, .array .double), (eZ E, .boolean), (eJ E, .long)]
abbrev zK (E : zE) (U : State) : Prop := va_K E.1 vwCl (zT E) U
/-- what an array holds -/
abbrev hI (c : ClassId) (n : Nat) (f : Nat → Int32) : va_E := .inl (c, n, .inl f)
abbrev hD (c : ClassId) (n : Nat) (f : Nat → UInt64) : va_E := .inl (c, n, .inr (.inr (.inr (.inl f))))
abbrev hQ (c : ClassId) (n : Nat) (f : Nat → Option Nat) : va_E := .inl (c, n, .inr (.inr (.inr (.inr f))))
abbrev hJ (c : ClassId) (n : Nat) (f : Nat → Int64) : va_E := .inl (c, n, .inr (.inl f))
/-- an array's cell asks for its places alone -/
theorem cell_congr {D : va_G} {cl : List vw_C} {H : Heap} {a : Nat} {e e' : va_E} (h : va_at D cl (a, e) H) (he : ∀ c x, e = .inl (c, x) → ∃ x', e' = .inl (c, x') ∧ vp_cell c x = vp_cell c x') (hr : ∀ o, e = .inr o → e' = .inr o) : va_at D cl (a, e') H := by
  cases e with
  | inl x =>
    obtain ⟨x', rfl, h2⟩ := he x.1 x.2 rfl
    show H[a]? = some (vp_cell x.1 x')
    rw [← h2]
    exact h
  | inr o =>
    rw [hr o rfl]
    exact h
theorem arrV_congr {c : ClassId} {n : Nat} {f g : Nat → Value} (h : ∀ j, j < n → f j = g j) : arrV c n f = arrV c n g := by
  unfold arrV
  have : (fun j : Fin n => f j.val) = fun j : Fin n => g j.val := funext fun j => h j.val j.isLt
  rw [this]
theorem at_I {D : va_G} {cl : List vw_C} {H : Heap} {a n : Nat} {c : ClassId} {f g : Nat → Int32} (h : va_at D cl (a, hI c n f) H) (hj : ∀ j, j < n → f j = g j) : va_at D cl (a, hI c n g) H := by
  have h1 : H[a]? = some (arrV c n (fun j => .int (f j))) := h
  rw [arrV_congr (g := fun j => .int (g j)) (fun j hn => by rw [hj j hn])] at h1
  exact h1
theorem at_D {D : va_G} {cl : List vw_C} {H : Heap} {a n : Nat} {c : ClassId} {f g : Nat → UInt64} (h : va_at D cl (a, hD c n f) H) (hj : ∀ j, j < n → f j = g j) : va_at D cl (a, hD c n g) H := by
  have h1 : H[a]? = some (arrV c n (fun j => .double (f j))) := h
  rw [arrV_congr (g := fun j => .double (g j)) (fun j hn => by rw [hj j hn])] at h1
  exact h1
theorem at_Q {D : va_G} {cl : List vw_C} {H : Heap} {a n : Nat} {c : ClassId} {f g : Nat → Option Nat} (h : va_at D cl (a, hQ c n f) H) (hj : ∀ j, j < n → f j = g j) : va_at D cl (a, hQ c n g) H := by
  have h1 : H[a]? = some (vp_cell c (n, .inr (.inr (.inr (.inr f))))) := h
  rw [vp_cell_q, arrV_congr (g := fun j => va_rf (g j)) (fun j hn => by rw [hj j hn]), ← vp_cell_q] at h1
  exact h1
section ZROWS
variable {p : Program} {l : Launch} {e : Env} {R : Room} {s : State} {m : MethodId} {args : Array Value} {below : List Frame} {meth : Method} {c : Code} {H : Heap} {locs : List Loc} {cells slots : Nat} {Q : State → Prop}
variable {cc : ByteArray} {pc : Nat} {ls : Array Slot} {rest : List Value}
theorem zv_iadd (hx : p.tables.exec = Jvm.exec) (hb : c.code = cc) {x y v : Int32} (hdg : decode cc pc = .ok (.iadd, 1)) (hv : x + y = v)
    (k : W p l e R s m args below meth c H locs cells slots Q (F0 m (pc + 1) ls (.int v :: rest))) : W p l e R s m args below meth c H locs cells slots Q (F0 m pc ls (.int y :: .int x :: rest)) := by
  subst hv
  exact lv_iadd hx hb hdg k
theorem zv_isub (hx : p.tables.exec = Jvm.exec) (hb : c.code = cc) {x y v : Int32} (hdg : decode cc pc = .ok (.isub, 1)) (hv : x - y = v)
    (k : W p l e R s m args below meth c H locs cells slots Q (F0 m (pc + 1) ls (.int v :: rest))) : W p l e R s m args below meth c H locs cells slots Q (F0 m pc ls (.int y :: .int x :: rest)) := by
  subst hv
  exact lv_isub hx hb hdg k
theorem zv_imul (hx : p.tables.exec = Jvm.exec) (hb : c.code = cc) {x y v : Int32} (hdg : decode cc pc = .ok (.imul, 1)) (hv : x * y = v)
    (k : W p l e R s m args below meth c H locs cells slots Q (F0 m (pc + 1) ls (.int v :: rest))) : W p l e R s m args below meth c H locs cells slots Q (F0 m pc ls (.int y :: .int x :: rest)) := by
  subst hv
  exact lv_imul hx hb hdg k
theorem zv_iand (hx : p.tables.exec = Jvm.exec) (hb : c.code = cc) {x y v : Int32} (hdg : decode cc pc = .ok (.iand, 1)) (hv : x &&& y = v)
    (k : W p l e R s m args below meth c H locs cells slots Q (F0 m (pc + 1) ls (.int v :: rest))) : W p l e R s m args below meth c H locs cells slots Q (F0 m pc ls (.int y :: .int x :: rest)) := by
  subst hv
  exact lv_iand hx hb hdg k
variable {E : zE} {n : Nat} {ad : Nat → Nat} {d : Nat → va_E} {A : Nat → Prop} {H0 : Heap}
/-- reading and writing arrays at a place that is a number -/
theorem z_iald (hx : p.tables.exec = Jvm.exec) (hb : c.code = cc) (hK : zK E s) (hP : va_P E.1 vwCl (wn n ad d) H) (kx : Nat) (hk : kx < n) {N i : Nat} {f : Nat → Int32} (hd : d kx = hI (eI E) N f) (hi : i < N) (hN : N < 2 ^ 31) (hdg : decode cc pc = .ok (.iaload, 1))
    (kk : W p l e R s m args below meth c H locs cells slots Q (F0 m (pc + 1) ls (.int (f i) :: rest))) : W p l e R s m args below meth c H locs cells slots Q (F0 m pc ls (.int (nI i) :: .ref (ad kx) :: rest)) := by
  refine va_iald hx hb hK hP kx 0 (by rw [wn_at hk, hd]) rfl (vp_in_nI hi hN) hdg ?_
  rw [nI_clamp (by omega)]
  exact kk
theorem z_zald (hx : p.tables.exec = Jvm.exec) (hb : c.code = cc) (hK : zK E s) (hP : va_P E.1 vwCl (wn n ad d) H) (kx : Nat) (hk : kx < n) {N i : Nat} {f : Nat → Int32} (hd : d kx = hI (eZ E) N f) (hi : i < N) (hN : N < 2 ^ 31) (hdg : decode cc pc = .ok (.baload, 1))
    (kk : W p l e R s m args below meth c H locs cells slots Q (F0 m (pc + 1) ls (.int (f i) :: rest))) : W p l e R s m args below meth c H locs cells slots Q (F0 m pc ls (.int (nI i) :: .ref (ad kx) :: rest)) := by
  refine va_zald hx hb hK hP kx 4 (by rw [wn_at hk, hd]) rfl (vp_in_nI hi hN) hdg ?_
  rw [nI_clamp (by omega)]
  exact kk
theorem z_dald (hx : p.tables.exec = Jvm.exec) (hb : c.code = cc) (hK : zK E s) (hP : va_P E.1 vwCl (wn n ad d) H) (kx : Nat) (hk : kx < n) {N i : Nat} {f : Nat → UInt64} (hd : d kx = hD (eD E) N f) (hi : i < N) (hN : N < 2 ^ 31) (hdg : decode cc pc = .ok (.daload, 1))
    (kk : W p l e R s m args below meth c H locs cells slots Q (F0 m (pc + 1) ls (.double (f i) :: rest))) : W p l e R s m args below meth c H locs cells slots Q (F0 m pc ls (.int (nI i) :: .ref (ad kx) :: rest)) := by
  refine va_dald hx hb hK hP kx 2 (by rw [wn_at hk, hd]) rfl (vp_in_nI hi hN) hdg ?_
  rw [nI_clamp (by omega)]
  exact kk
theorem z_aald {ty : FieldType} {cA : ClassId} (t0 : Nat) (hx : p.tables.exec = Jvm.exec) (hb : c.code = cc) (hK : zK E s) (hP : va_P E.1 vwCl (wn n ad d) H) (kx : Nat) (hk : kx < n) {N i y : Nat} {f : Nat → Option Nat} (hd : d kx = hQ cA N f) (ht : (zT E)[t0]? = some (cA, ty)) (hty : ty.isReference = true) (hi : i < N) (hN : N < 2 ^ 31) (hy : f i = some y) (hdg : decode cc pc = .ok (.aaload, 1))
    (kk : W p l e R s m args below meth c H locs cells slots Q (F0 m (pc + 1) ls (.ref y :: rest))) : W p l e R s m args below meth c H locs cells slots Q (F0 m pc ls (.int (nI i) :: .ref (ad kx) :: rest)) := by
  have h1 : H[ad kx]? = some (vp_cell cA (N, .inr (.inr (.inr (.inr f))))) := by
    have := hP kx _ (wn_at hk)
    rw [hd] at this
    exact this
  have hin : ¬ (nI i < 0 ∨ N ≤ (nI i).toNatClampNeg) := vp_in_nI hi hN
  refine W.aald (v := .ref y) (ty := ty) hx hb h1 ((hK.2 t0 _ ht).1 N (fun j => va_rf (f j))) hty (fun q => by cases q) (by show ¬ (nI i < 0 ∨ (arrV _ _ _).slots.size ≤ _); rw [arrV_size]; exact hin) (by show (arrV _ _ (fun j => va_rf (f j))).slots[_]? = _; rw [nI_clamp (by omega), arrV_read _ _ hi, hy]; rfl) rfl rfl hdg kk
theorem z_iast (hx : p.tables.exec = Jvm.exec) (hb : c.code = cc) (hK : zK E s) (hP : va_P E.1 vwCl (wn n ad d) H) (hap : apart n ad) (hA : ∀ k, k < n → A (ad k)) (hS : va_S A H0 H locs) (kx : Nat) (hk : kx < n) {N i : Nat} {f : Nat → Int32} {x : Int32} (hd : d kx = hI (eI E) N f) (hi : i < N) (hN : N < 2 ^ 31) (hdg : decode cc pc = .ok (.iastore, 1))
    (kk : ∀ (H1 : Heap) (locs1 : List Loc), va_P E.1 vwCl (wn n ad (va_up d kx (hI (eI E) N (va_up f i x)))) H1 → va_S A H0 H1 locs1 → W p l e R s m args below meth c H1 locs1 cells slots Q (F0 m (pc + 1) ls rest)) : W p l e R s m args below meth c H locs cells slots Q (F0 m pc ls (.int x :: .int (nI i) :: .ref (ad kx) :: rest)) := by
  refine va_iast hx hb hK hP (wn_D hap hA) hS kx 0 (by rw [wn_at hk, hd]) rfl (vp_in_nI hi hN) hdg fun H1 locs1 h1 _ h3 => ?_
  rw [wn_set hk, nI_clamp (by omega)] at h1
  exact kk H1 locs1 h1 h3
theorem z_zast (hx : p.tables.exec = Jvm.exec) (hb : c.code = cc) (hK : zK E s) (hP : va_P E.1 vwCl (wn n ad d) H) (hap : apart n ad) (hA : ∀ k, k < n → A (ad k)) (hS : va_S A H0 H locs) (kx : Nat) (hk : kx < n) {N i : Nat} {f : Nat → Int32} {x : Int32} (hd : d kx = hI (eZ E) N f) (hi : i < N) (hN : N < 2 ^ 31) (hxn : vp_nar .boolean x = x) (hdg : decode cc pc = .ok (.bastore, 1))
    (kk : ∀ (H1 : Heap) (locs1 : List Loc), va_P E.1 vwCl (wn n ad (va_up d kx (hI (eZ E) N (va_up f i x)))) H1 → va_S A H0 H1 locs1 → W p l e R s m args below meth c H1 locs1 cells slots Q (F0 m (pc + 1) ls rest)) : W p l e R s m args below meth c H locs cells slots Q (F0 m pc ls (.int x :: .int (nI i) :: .ref (ad kx) :: rest)) := by
  refine va_zast hx hb hK hP (wn_D hap hA) hS kx 4 (by rw [wn_at hk, hd]) rfl (vp_in_nI hi hN) hdg fun H1 locs1 h1 _ h3 => ?_
  rw [wn_set hk, nI_clamp (by omega), hxn] at h1
  exact kk H1 locs1 h1 h3
theorem z_dast (hx : p.tables.exec = Jvm.exec) (hb : c.code = cc) (hK : zK E s) (hP : va_P E.1 vwCl (wn n ad d) H) (hap : apart n ad) (hA : ∀ k, k < n → A (ad k)) (hS : va_S A H0 H locs) (kx : Nat) (hk : kx < n) {N i : Nat} {f : Nat → UInt64} {x : UInt64} (hd : d kx = hD (eD E) N f) (hi : i < N) (hN : N < 2 ^ 31) (hdg : decode cc pc = .ok (.dastore, 1))
    (kk : ∀ (H1 : Heap) (locs1 : List Loc), va_P E.1 vwCl (wn n ad (va_up d kx (hD (eD E) N (va_up f i x)))) H1 → va_S A H0 H1 locs1 → W p l e R s m args below meth c H1 locs1 cells slots Q (F0 m (pc + 1) ls rest)) : W p l e R s m args below meth c H locs cells slots Q (F0 m pc ls (.double x :: .int (nI i) :: .ref (ad kx) :: rest)) := by
  refine va_dast hx hb hK hP (wn_D hap hA) hS kx 2 (by rw [wn_at hk, hd]) rfl (vp_in_nI hi hN) hdg fun H1 locs1 h1 _ h3 => ?_
  rw [wn_set hk, nI_clamp (by omega)] at h1
  exact kk H1 locs1 h1 h3
end ZROWS
