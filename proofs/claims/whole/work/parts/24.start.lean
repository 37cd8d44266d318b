/-! ===== what holds where the law starts ===== -/
theorem arrK {args : Array Value} {s : State} {ty : FieldType} (h : (Cond.arrayClass ty).before args s = true) : ∃ cA, ArrOfT s cA ty ∧ s.vm.findClass ("[" ++ ty.toString) = some cA := by
  obtain ⟨cA, kA, comp, h1, h2, h3⟩ := Cond.arrayClass_spec h
  exact ⟨cA, fun n z => ⟨fun k h => (by cases h), kA, h2, comp, h3⟩, h1⟩
theorem arrO {args : Array Value} {s : State} {ty : FieldType} (h : (Cond.arrayOver (.array ty)).before args s = true) : ∃ cA, ArrOfT s cA (.array ty) ∧ s.vm.findClass ("[" ++ (FieldType.array ty).toString) = some cA := by
  obtain ⟨comp, cA, kA, hcomp, hkA, hkind, hn⟩ := Cond.arrayOver_specA h
  exact ⟨cA, fun n z => ⟨fun k h => (by cases h), kA, hkA, comp, hkind⟩, hn⟩
theorem lwT_II : Cond.arrayOver (.array .int) ∈ lw_tbl := by decide +kernel
theorem lwT_DD : Cond.arrayOver (.array .double) ∈ lw_tbl := by decide +kernel
theorem lw_K {args : Array Value} {s : State} (hts : ∀ w ∈ lw_tbl, w.before args s = true) : ∃ E : zE, zK E s := by
  obtain ⟨c0, iS0, hKn0⟩ := u_known (C := RJx00060) (T := TJx00060) (N := 6) (n := 6) hts inJx00060 (hts (.instantiable RJx00060 6) (by decide +kernel))
  obtain ⟨c1, iS1, hKn1⟩ := u_known (C := RX0) (T := TX0) (N := 11) (n := 11) hts inX0 (hts (.instantiable RX0 11) (by decide +kernel))
  obtain ⟨c2, iS2, hKn2⟩ := u_known (C := RX1) (T := TX1) (N := 12) (n := 12) hts inX1 (hts (.instantiable RX1 12) (by decide +kernel))
  obtain ⟨a0, p0, q0⟩ := arrK (hts (.arrayClass .int) (by decide +kernel))
  obtain ⟨a1, p1, q1⟩ := arrO (hts _ lwT_II)
  obtain ⟨a2, p2, q2⟩ := arrK (hts (.arrayClass .double) (by decide +kernel))
  obtain ⟨a3, p3, q3⟩ := arrO (hts _ lwT_DD)
  obtain ⟨a4, p4, q4⟩ := arrK (hts (.arrayClass .boolean) (by decide +kernel))
  obtain ⟨a5, p5, q5⟩ := arrK (hts (.arrayClass .long) (by decide +kernel))
  refine ⟨((fun k => if k = 0 then c0 else if k = 1 then c1 else c2, fun k => if k = 0 then iS0 else if k = 1 then iS1 else iS2), a0, a1, a2, a3, a4, a5), ?_, ?_⟩
  · intro k q hq
    match k, hq with
    | 0, hq => cases hq; exact hKn0
    | 1, hq => cases hq; exact hKn1
    | 2, hq => cases hq; exact hKn2
    | k + 3, hq => simp [vwCl] at hq
  · intro k q hq
    match k, hq with
    | 0, hq => cases hq; exact ⟨p0, q0⟩
    | 1, hq => cases hq; exact ⟨p1, q1⟩
    | 2, hq => cases hq; exact ⟨p2, q2⟩
    | 3, hq => cases hq; exact ⟨p3, q3⟩
    | 4, hq => cases hq; exact ⟨p4, q4⟩
    | 5, hq => cases hq; exact ⟨p5, q5⟩
    | k + 6, hq => simp [zT] at hq
theorem atB_tbl : ∀ w ∈ atB, w ∈ lw_tbl := by decide +kernel
theorem vkR_start {args : Array Value} {s : State} {k : Nat} {tx : String} (h1 : (Cond.stringRef RX0 k tx).before args s = true) (h2 : (Cond.exactly (.string RX0 k) "java/lang/String").before args s = true) : ∃ a : Nat, vk_R RX0 k tx a s := by
  obtain ⟨a, -, -, -, he, -⟩ := Cond.exactly_spec h2
  exact ⟨a, vk_R.of h1 he⟩
theorem lw_T {args : Array Value} {s : State} (hts : ∀ w ∈ lw_tbl, w.before args s = true) (hgv : (Jvm.Cond.and given_1 narrow_1).before args s = true) : zTh (fun q => s.heap.size ≤ q) s ∧ zCs s := by
  have hs := flat_of_before _ hgv
  have hA : ∀ a : Nat, a < s.heap.size → ¬ (fun q : Nat => s.heap.size ≤ q) a := fun a h => Nat.not_le.mpr h
  refine ⟨⟨fun w hw => va_Nw.of (isCD_ot (List.all_eq_true.mp atB_cd w hw)) (hts w (atB_tbl w hw)), ?_, ?_, ?_, ?_, ?_, ?_⟩, ?_, ?_⟩
  · exact vx_Zqof (hts (.laysStatic Bundle.tN "UNASSIGNED_STACK" Bundle.steD) (by decide +kernel)) (hts (.initialized Bundle.tN) (by decide +kernel)) (hs (.isRef (.static Bundle.tN "UNASSIGNED_STACK" Bundle.steD)) (by decide +kernel)) hA
  · exact vx_Zqof (hts (.laysStatic Bundle.tN "SUPPRESSED_SENTINEL" Bundle.listD) (by decide +kernel)) (hts (.initialized Bundle.tN) (by decide +kernel)) (hs (.isRef (.static Bundle.tN "SUPPRESSED_SENTINEL" Bundle.listD)) (by decide +kernel)) hA
  · exact vkR_start (hts (.stringRef RX0 51 "no such example or feature") (by decide +kernel)) (hs (.exactly (.string RX0 51) "java/lang/String") (by decide +kernel))
  · exact vkR_start (hts (.stringRef RX0 62 "no examples") (by decide +kernel)) (hs (.exactly (.string RX0 62) "java/lang/String") (by decide +kernel))
  · exact vkR_start (hts (.stringRef RX0 81 "no such feature") (by decide +kernel)) (hs (.exactly (.string RX0 81) "java/lang/String") (by decide +kernel))
  · exact vkR_start (hts (.stringRef RX0 110 "no such class or feature") (by decide +kernel)) (hs (.exactly (.string RX0 110) "java/lang/String") (by decide +kernel))
  · exact va_Nw.of rfl (hts (.castable RJx00060 RJx00060) (by decide +kernel))
  · exact va_Nw.of rfl (hts (.castable "java/lang/ArithmeticException" "java/lang/ArithmeticException") (by decide +kernel))
