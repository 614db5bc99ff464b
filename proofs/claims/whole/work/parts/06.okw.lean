/-! a whole method: what our machine says of it is a contract of the real one -/
def sx_okr (rt : Option FieldType) (e : Nat × Instr × Nat) : Bool := match e.2.1 with
  | .return_ => decide (rt = none)
  | .ireturn => decide (rt = some .int)
  | .areturn => decide (rt = some .boolean)
  | .lreturn => decide (rt = some .long)
  | _ => true
def sx_okc (i : Nat) : Bool := match sx_mt[i]?, sx_mx[i]? with
  | some (cd, _), some (_, by1, _, own, bo, _) => cd.all (sx_ck own bo false by1)
  | _, _ => true
def sx_okw (i : Nat) : Bool := match sx_mt[i]?, sx_mx[i]? with
  | some (cd, mx, np, kd), some (y, by1, rt, own, bo, p0, p1, p2, p3) => cd.all (sx_okr rt) && (sx_wd4 p0 (.code y by1 mx rt) && (plainName y.cls && (decide (y.cls = sx_cn own) && (decide (y.cls ≠ "java/lang/invoke/MethodHandle" ∧ y.cls ≠ "java/lang/invoke/VarHandle") && (decide ((parseMethodDescriptor y.desc).map (fun d => d.parameters.length) = some np) && (sx_wd4 p3 (.initialized y.cls) && (decide (mx ≤ 15) && (decide (bo = true ↔ rt = some .boolean) && (decide (kd = 99 ∨ (kd = own ∧ kd < 10)) && (if kd = 99 then sx_wd4 p1 (.static y) else sx_wd4 p1 (.instanceMethod y) && sx_wd4 p2 (.selects y.cls y y)))))))))))
  | none, _ => true
  | _, _ => false
theorem sx_okw_0 : (List.range' 0 14).all sx_okw = true := by decide +kernel
theorem sx_okw_1 : (List.range' 14 14).all sx_okw = true := by decide +kernel
theorem sx_okw_2 : (List.range' 28 14).all sx_okw = true := by decide +kernel
theorem sx_okw_3 : (List.range' 42 14).all sx_okw = true := by decide +kernel
theorem sx_okw_4 : (List.range' 56 14).all sx_okw = true := by decide +kernel
theorem sx_okw_5 : (List.range' 70 14).all sx_okw = true := by decide +kernel
theorem sx_okw_6 : (List.range' 84 14).all sx_okw = true := by decide +kernel
theorem sx_okw_7 : (List.range' 98 14).all sx_okw = true := by decide +kernel
theorem sx_okw_8 : (List.range' 112 14).all sx_okw = true := by decide +kernel
theorem sx_okw_9 : (List.range' 126 14).all sx_okw = true := by decide +kernel
theorem sx_okw_10 : (List.range' 140 14).all sx_okw = true := by decide +kernel
theorem sx_okw_11 : (List.range' 154 14).all sx_okw = true := by decide +kernel
theorem sx_okw_12 : (List.range' 168 14).all sx_okw = true := by decide +kernel
theorem sx_okw_13 : (List.range' 182 12).all sx_okw = true := by decide +kernel
theorem sx_okw_lt {i : Nat} (h : i < 194) : sx_okw i = true := by
  rcases Nat.lt_or_ge i 14 with q0 | q0
  · exact List.all_eq_true.mp sx_okw_0 i (List.mem_range'_1.mpr ⟨by omega, by omega⟩)
  rcases Nat.lt_or_ge i 28 with q1 | q1
  · exact List.all_eq_true.mp sx_okw_1 i (List.mem_range'_1.mpr ⟨by omega, by omega⟩)
  rcases Nat.lt_or_ge i 42 with q2 | q2
  · exact List.all_eq_true.mp sx_okw_2 i (List.mem_range'_1.mpr ⟨by omega, by omega⟩)
  rcases Nat.lt_or_ge i 56 with q3 | q3
  · exact List.all_eq_true.mp sx_okw_3 i (List.mem_range'_1.mpr ⟨by omega, by omega⟩)
  rcases Nat.lt_or_ge i 70 with q4 | q4
  · exact List.all_eq_true.mp sx_okw_4 i (List.mem_range'_1.mpr ⟨by omega, by omega⟩)
  rcases Nat.lt_or_ge i 84 with q5 | q5
  · exact List.all_eq_true.mp sx_okw_5 i (List.mem_range'_1.mpr ⟨by omega, by omega⟩)
  rcases Nat.lt_or_ge i 98 with q6 | q6
  · exact List.all_eq_true.mp sx_okw_6 i (List.mem_range'_1.mpr ⟨by omega, by omega⟩)
  rcases Nat.lt_or_ge i 112 with q7 | q7
  · exact List.all_eq_true.mp sx_okw_7 i (List.mem_range'_1.mpr ⟨by omega, by omega⟩)
  rcases Nat.lt_or_ge i 126 with q8 | q8
  · exact List.all_eq_true.mp sx_okw_8 i (List.mem_range'_1.mpr ⟨by omega, by omega⟩)
  rcases Nat.lt_or_ge i 140 with q9 | q9
  · exact List.all_eq_true.mp sx_okw_9 i (List.mem_range'_1.mpr ⟨by omega, by omega⟩)
  rcases Nat.lt_or_ge i 154 with q10 | q10
  · exact List.all_eq_true.mp sx_okw_10 i (List.mem_range'_1.mpr ⟨by omega, by omega⟩)
  rcases Nat.lt_or_ge i 168 with q11 | q11
  · exact List.all_eq_true.mp sx_okw_11 i (List.mem_range'_1.mpr ⟨by omega, by omega⟩)
  rcases Nat.lt_or_ge i 182 with q12 | q12
  · exact List.all_eq_true.mp sx_okw_12 i (List.mem_range'_1.mpr ⟨by omega, by omega⟩)
  exact List.all_eq_true.mp sx_okw_13 i (List.mem_range'_1.mpr ⟨by omega, by omega⟩)
theorem sx_mt_len : sx_mt.length = 194 := by decide +kernel
theorem sx_okw_spec {mid : Nat} {cd : sx_C} {mx np kd : Nat} (h : sx_mt[mid]? = some (cd, mx, np, kd)) : ∃ (y : MethodName) (by1 : ByteArray) (rt : Option FieldType) (own : Nat) (bo : Bool), sx_yo mid = y ∧ cd.all (sx_okr rt) = true ∧ Cond.code y by1 mx rt ∈ sx_big ∧ plainName y.cls = true ∧ y.cls = sx_cn own ∧ (y.cls ≠ "java/lang/invoke/MethodHandle" ∧ y.cls ≠ "java/lang/invoke/VarHandle") ∧ (parseMethodDescriptor y.desc).map (fun d => d.parameters.length) = some np ∧ Cond.initialized y.cls ∈ sx_big ∧ mx ≤ 15 ∧ (bo = true ↔ rt = some .boolean) ∧ (kd = 99 → Cond.static y ∈ sx_big) ∧ (kd ≠ 99 → kd = own ∧ kd < 10 ∧ Cond.instanceMethod y ∈ sx_big ∧ Cond.selects y.cls y y ∈ sx_big) ∧ (sx_okc mid = true → cd.all (sx_ck own bo false by1) = true) := by
  have hm : mid < 194 := by rw [← sx_mt_len]; exact (List.getElem?_eq_some_iff.mp h).1
  have h1 := sx_okw_lt hm
  unfold sx_okw at h1
  rw [h] at h1
  cases hx : sx_mx[mid]? with
  | none => rw [hx] at h1; cases h1
  | some z =>
    obtain ⟨y, by1, rt, own, bo, p0, p1, p2, p3⟩ := z
    rw [hx] at h1
    simp only [Bool.and_eq_true] at h1
    obtain ⟨a1, a2, a3, a4, a5, a6, a7, a8, a9, a10, a11⟩ := h1
    have a10 := of_decide_eq_true a10
    refine ⟨y, by1, rt, own, bo, by unfold sx_yo; rw [hx], a1, sx_inb a2 rfl, a3, of_decide_eq_true a4, of_decide_eq_true a5, of_decide_eq_true a6, sx_inb a7 rfl, of_decide_eq_true a8, of_decide_eq_true a9, fun q => ?_, fun q => ?_, fun q => ?_⟩
    · rw [if_pos q] at a11; exact sx_inb a11 rfl
    · rw [if_neg q] at a11
      simp only [Bool.and_eq_true] at a11
      rcases a10 with z | ⟨z1, z2⟩
      · exact absurd z q
      · exact ⟨z1, z2, sx_inb a11.1 rfl, sx_inb a11.2 rfl⟩
    · unfold sx_okc at q
      rw [h, hx] at q
      exact q
