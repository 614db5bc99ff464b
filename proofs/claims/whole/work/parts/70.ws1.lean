/-! the law's start: classes, arrays, statics -/
theorem cx_mem {i : Nat} {w : Jvm.Cond} (h : sx_wd4 i w = true) : w ∈ lw_tbl := List.mem_of_getElem? (of_decide_eq_true h)
theorem cx_big {s : State} {a : Array Value} (h : ∀ w ∈ lw_tbl, w.before a s = true) : ∀ w ∈ sx_big, w.before a s = true := fun w hw => h w (List.mem_filter.mp hw).1
theorem cx_N0 {s : State} {a : Array Value} (h : ∀ w ∈ lw_tbl, w.before a s = true) : cx_N s := by
  refine ⟨fun e he => ?_, va_AO.of (A := a) (h _ (cx_mem (i := 88) (by decide +kernel))), va_AO.of (A := a) (h _ (cx_mem (i := 190) (by decide +kernel)))⟩
  have h1 := List.all_eq_true.mp cx_okn e he
  simp only [Bool.and_eq_true, decide_eq_true_eq] at h1
  exact va_Nw.of rfl (h _ (cx_mem h1.2))
theorem cx_N1 {s : State} {a : Array Value} (h : ∀ w ∈ lw_tbl, w.before a s = true) : sx_N s := ⟨va_Nw.of rfl (h _ (cx_mem (i := 455) (by decide +kernel))), va_Nw.of rfl (h _ (cx_mem (i := 746) (by decide +kernel)))⟩
theorem cx_prim {s : State} {a : Array Value} {ty : FieldType} (h : (Cond.arrayClass ty).before a s = true) : ∃ cX : ClassId, ArrOfT s cX ty ∧ s.vm.findClass ("[" ++ ty.toString) = some cX := by
  obtain ⟨cX, k, comp, h1, h2, h3⟩ := Cond.arrayClass_spec h
  exact ⟨cX, fun n z => ⟨fun k h => (by cases h), k, h2, comp, h3⟩, h1⟩
theorem cx_objs {s : State} {a : Array Value} {C : String} (h : (Cond.arrayOver (.object C)).before a s = true) : ∃ cX : ClassId, ArrOfT s cX (.object C) ∧ va_RA s cX (.object C) := by
  obtain ⟨comp, cX, k, h1, h2, h3, h4, h5⟩ := Cond.arrayOver_spec h
  exact ⟨cX, fun n z => ⟨fun k h => (by cases h), k, h3, comp, h4⟩, k, comp, h3, h4, h1, h5⟩
theorem cx_K0 {s : State} {a : Array Value} (h : ∀ w ∈ lw_tbl, w.before a s = true) : ∃ (D : va_G) (cA : Nat → ClassId), va_K D vwCl (sx_ty cA) s := by
  have hb := cx_big h
  have hkn : ∀ kd : Nat, ∃ (cC : ClassId) (iS : Nat → Nat), kd < 10 → u_Kn s (sx_cn kd) (sx_ct kd) (sx_ft kd).length cC iS := by
    intro kd
    by_cases hk : kd < 10
    · obtain ⟨cC, iS, h1⟩ := u_known hb (sx_uws kd hk) (hb _ (cx_pok hk).1)
      exact ⟨cC, iS, fun _ => h1⟩
    · exact ⟨0, fun _ => 0, fun q => absurd q hk⟩
  obtain ⟨c0, p0, q0⟩ := cx_prim (hb _ cx_a0)
  obtain ⟨c1, p1, q1⟩ := cx_prim (hb _ cx_a1)
  obtain ⟨c2, p2, q2⟩ := cx_prim (hb _ cx_a2)
  obtain ⟨c3, p3, q3⟩ := cx_objs (h _ (cx_mem (i := 88) (w := .arrayOver (.object "StormLots$Row")) (by decide +kernel)))
  obtain ⟨c4, p4, q4⟩ := cx_objs (h _ (cx_mem (i := 190) (w := .arrayOver (.object "StormLots$Ship")) (by decide +kernel)))
  refine ⟨(fun kd => (hkn kd).choose, fun kd => (hkn kd).choose_spec.choose), fun k => match k with | 0 => c0 | 1 => c1 | 2 => c2 | 3 => c3 | _ => c4, fun kd q hq => ?_, fun k q hq => ?_⟩
  · have hk : kd < 10 := (List.getElem?_eq_some_iff.mp hq).1
    rw [sx_vwc kd hk] at hq
    cases hq
    exact (hkn kd).choose_spec.choose_spec hk
  · match k, hq with
    | 0, hq => cases hq; exact ⟨p0, q0⟩
    | 1, hq => cases hq; exact ⟨p1, q1⟩
    | 2, hq => cases hq; exact ⟨p2, q2⟩
    | 3, hq => cases hq; exact ⟨p3, q3⟩
    | 4, hq => cases hq; exact ⟨p4, q4⟩
    | k + 5, hq => exact absurd (List.getElem?_eq_some_iff.mp hq).1 (by show ¬ (k + 5 < 5); omega)
/-- the three static arrays -/
theorem cx_st {s : State} {a : Array Value} (h : ∀ w ∈ lw_tbl, w.before a s = true) (hg : (Jvm.Cond.and given_1 narrow_1).before a s = true) (t : Nat) (ht : t < 3) : ∃ q : Nat, va_Z (sx_sn t).1 (sx_sn t).2 "[I" (.ref q) (cx_A s.heap.size) s s.heap ∧ va_T .int q 6 (fun k => .int (sx_eT t k)) (cx_A s.heap.size) s s.heap := by
  have hs := flat_of_before _ hg
  have hA : ∀ a : Nat, a < s.heap.size → ¬ cx_A s.heap.size a := fun a ha q => Nat.not_lt.mpr q ha
  match t, ht with
  | 0, _ =>
    obtain ⟨q, hq, hT⟩ := va_Tof (tm := .static "StormLots$Asks" "SIZE_BODIES" "[I") (ty := .int) (N := 6) (f := fun k => .int (sx_eT 0 k)) (A := cx_A s.heap.size) (by decide) (hs _ (by decide +kernel)) (va_eqt (hs _ (by decide +kernel))) (fun j hj => va_eqt (by
      match j, hj with
      | 0, _ => exact hs _ (by decide +kernel)
      | 1, _ => exact hs _ (by decide +kernel)
      | 2, _ => exact hs _ (by decide +kernel)
      | 3, _ => exact hs _ (by decide +kernel)
      | 4, _ => exact hs _ (by decide +kernel)
      | 5, _ => exact hs _ (by decide +kernel))) hA
    exact ⟨q, va_Zof (h (.laysStatic "StormLots$Asks" "SIZE_BODIES" "[I") (by decide +kernel)) (h (.initialized "StormLots$Asks") (by decide +kernel)) hq hA, hT⟩
  | 1, _ =>
    obtain ⟨q, hq, hT⟩ := va_Tof (tm := .static "StormLots$Asks" "MARK_BODIES" "[I") (ty := .int) (N := 6) (f := fun k => .int (sx_eT 1 k)) (A := cx_A s.heap.size) (by decide) (hs _ (by decide +kernel)) (va_eqt (hs _ (by decide +kernel))) (fun j hj => va_eqt (by
      match j, hj with
      | 0, _ => exact hs _ (by decide +kernel)
      | 1, _ => exact hs _ (by decide +kernel)
      | 2, _ => exact hs _ (by decide +kernel)
      | 3, _ => exact hs _ (by decide +kernel)
      | 4, _ => exact hs _ (by decide +kernel)
      | 5, _ => exact hs _ (by decide +kernel))) hA
    exact ⟨q, va_Zof (h (.laysStatic "StormLots$Asks" "MARK_BODIES" "[I") (by decide +kernel)) (h (.initialized "StormLots$Asks") (by decide +kernel)) hq hA, hT⟩
  | 2, _ =>
    obtain ⟨q, hq, hT⟩ := va_Tof (tm := .static "StormLots" "KIND_ABOVE" "[I") (ty := .int) (N := 6) (f := fun k => .int (sx_eT 2 k)) (A := cx_A s.heap.size) (by decide) (hs _ (by decide +kernel)) (va_eqt (hs _ (by decide +kernel))) (fun j hj => va_eqt (by
      match j, hj with
      | 0, _ => exact hs _ (by decide +kernel)
      | 1, _ => exact hs _ (by decide +kernel)
      | 2, _ => exact hs _ (by decide +kernel)
      | 3, _ => exact hs _ (by decide +kernel)
      | 4, _ => exact hs _ (by decide +kernel)
      | 5, _ => exact hs _ (by decide +kernel))) hA
    exact ⟨q, va_Zof (h (.laysStatic "StormLots" "KIND_ABOVE" "[I") (by decide +kernel)) (h (.initialized "StormLots") (by decide +kernel)) hq hA, hT⟩
