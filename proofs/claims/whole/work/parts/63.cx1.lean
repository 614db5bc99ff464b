/-! what makes cells: the constructors, over cells that lie one behind another -/
abbrev cx_F : Type := Int32 ⊕ (Int64 ⊕ Option Nat)
abbrev cx_C : Type := (Nat × List cx_F) ⊕ (Nat × Nat × List (Nat × Int32) × List (Nat × Nat))
abbrev cx_R : Type := Option (sx_L × List sx_V × List cx_C)
def cx_ad (b g : Nat) : Nat → Nat → Nat := fun kd i => match kd with
  | 0 => b + i
  | _ => g
def cx_fv (b : Nat) (v : cx_F) : Value := match v with
  | .inl x => .int x
  | .inr (.inl x) => .long x
  | .inr (.inr o) => va_rf (o.map (fun i => b + i))
def cx_fI : List (Nat × Int32) → Nat → Int32
  | [] => fun _ => 0
  | u :: us => upd (cx_fI us) u.1 u.2
def cx_fR (b : Nat) : List (Nat × Nat) → Nat → Option Nat
  | [] => fun _ => none
  | u :: us => va_up (cx_fR b us) u.1 (some (b + u.2))
def cx_vA (b t : Nat) (n : Nat) (us : List (Nat × Int32)) (rs : List (Nat × Nat)) : vp_A := match t with
  | 0 => (n, .inl (cx_fI us))
  | 1 => (n, .inr (.inl (fun _ => 0)))
  | 2 => (n, .inl (cx_fI us))
  | _ => (n, .inr (.inr (.inr (.inr (cx_fR b rs)))))
def cx_e (b : Nat) (cA : Nat → ClassId) (c : cx_C) : va_E := match c with
  | .inl o => .inr (o.1, o.2.map (cx_fv b))
  | .inr a => .inl (cA a.1, cx_vA b a.1 a.2.1 a.2.2.1 a.2.2.2)
def cx_ws (b : Nat) (cA : Nat → ClassId) (ws : List cx_C) : va_W := ws.mapIdx (fun i c => (b + i, cx_e b cA c))
def cx_A (b : Nat) : Nat → Prop := fun q => b ≤ q
theorem cx_wat {b : Nat} {cA : Nat → ClassId} {ws : List cx_C} {i : Nat} {c : cx_C} (h : ws[i]? = some c) : (cx_ws b cA ws)[i]? = some (b + i, cx_e b cA c) := by
  rw [cx_ws, List.getElem?_mapIdx, h]; rfl
theorem cx_push (b : Nat) (cA : Nat → ClassId) (ws : List cx_C) (c : cx_C) : cx_ws b cA (ws ++ [c]) = cx_ws b cA ws ++ [(b + ws.length, cx_e b cA c)] := by
  rw [cx_ws, List.mapIdx_concat]; rfl
theorem cx_wset (b : Nat) (cA : Nat → ClassId) (ws : List cx_C) (i : Nat) (c : cx_C) : cx_ws b cA (ws.set i c) = (cx_ws b cA ws).set i (b + i, cx_e b cA c) := by
  apply List.ext_getElem?
  intro j
  rw [cx_ws, List.getElem?_mapIdx, List.getElem?_set, List.getElem?_set, cx_ws, List.getElem?_mapIdx, List.length_mapIdx]
  by_cases h : i = j
  · subst h
    rw [if_pos rfl, if_pos rfl]
    by_cases hl : i < ws.length
    · rw [if_pos hl, if_pos hl]; rfl
    · rw [if_neg hl, if_neg hl]; rfl
  · rw [if_neg h, if_neg h]
theorem cx_D (b : Nat) (cA : Nat → ClassId) (ws : List cx_C) : va_D (cx_A b) (cx_ws b cA ws) := by
  have key : ∀ (i : Nat) (x : Nat × va_E), (cx_ws b cA ws)[i]? = some x → x.1 = b + i := by
    intro i x hx
    rw [cx_ws, List.getElem?_mapIdx] at hx
    cases hw : ws[i]? with
    | none => rw [hw] at hx; cases hx
    | some c => rw [hw] at hx; cases hx; rfl
  refine ⟨fun i j x y hx hy hxy => ?_, fun k x hx => ?_⟩
  · have h1 := key i x hx
    have h2 := key j y hy
    omega
  · show b ≤ x.1
    rw [key k x hx]; omega
/-- tables: links of classes (class, index, kind, place), of Object's constructor, of the constructors -/
def cx_lc : List (Nat × Nat × Nat × Nat) := [(10, 7, 8, 79), (8, 9, 4, 87), (8, 15, 6, 89), (8, 22, 5, 115), (8, 36, 0, 191), (0, 9, 5, 197), (8, 43, 2, 210), (2, 9, 5, 216), (8, 50, 7, 234), (8, 57, 3, 257), (3, 9, 5, 263), (8, 64, 1, 284), (10, 10, 9, 873)]
def cx_lo : List (Nat × Nat × Nat × Nat) := [(0, 3, 0, 196), (1, 3, 0, 289), (2, 3, 0, 215), (3, 3, 0, 262), (4, 3, 0, 303), (5, 3, 0, 120), (6, 3, 0, 94), (7, 3, 0, 239), (8, 1, 0, 84), (9, 1, 0, 878)]
def cx_lk : List (Nat × Nat × Nat × Nat) := [(10, 9, 8, 81), (10, 12, 9, 875), (8, 38, 0, 193)]
def cx_ln : List (Nat × Nat × Nat × Nat) := [(8, 17, 6, 91), (8, 24, 5, 117), (0, 17, 5, 198), (8, 45, 2, 212), (2, 11, 5, 217), (8, 52, 7, 236), (8, 59, 3, 259), (3, 11, 5, 264), (8, 66, 1, 286), (8, 71, 4, 300)]
def cx_y (kd : Nat) : MethodName := match kd with
  | 0 => yX0_init
  | 1 => yX1_init
  | 2 => yX2_init
  | 3 => yX3_init
  | 4 => yX4_init
  | 5 => yX5_init
  | 6 => yX6_init
  | 7 => yX7_init
  | 8 => yX8_init
  | _ => yX9_init
def cx_c (kd : Nat) : ByteArray := match kd with
  | 0 => cX0_init
  | 1 => cX1_init
  | 2 => cX2_init
  | 3 => cX3_init
  | 4 => cX4_init
  | 5 => cX5_init
  | 6 => cX6_init
  | 7 => cX7_init
  | 8 => cX8_init
  | _ => cX9_init
def cx_m (kd : Nat) : Nat := match kd with
  | 0 => 2
  | 8 => 2
  | _ => 1
def cx_z (kd : Nat) : Nat := match kd with
  | 0 => 40
  | 1 => 12
  | 2 => 15
  | 3 => 15
  | 4 => 17
  | 5 => 28
  | 6 => 12
  | 7 => 20
  | 8 => 162
  | _ => 160
/-- how many cells and slots a constructor makes -/
def cx_q (kd : Nat) : Nat × Nat := match kd with
  | 0 => (97, 768)
  | 1 => (1, 16)
  | 2 => (4, 31)
  | 3 => (4, 31)
  | 4 => (1, 40)
  | 5 => (3, 18)
  | 6 => (1, 80)
  | 7 => (2, 74)
  | 8 => (149, 1502)
  | _ => (15, 1504)
def cx_pp (kd : Nat) : Nat × Nat × Nat × Nat := match kd with
  | 0 => (192, 68, 194, 195)
  | 1 => (285, 72, 287, 288)
  | 2 => (211, 69, 213, 214)
  | 3 => (258, 71, 260, 261)
  | 4 => (299, 73, 301, 302)
  | 5 => (116, 67, 118, 119)
  | 6 => (90, 66, 92, 93)
  | 7 => (235, 70, 237, 238)
  | 8 => (80, 65, 82, 83)
  | _ => (874, 74, 876, 877)
theorem cx_okc : cx_lc.all (fun e => decide (e.2.2.1 < 10) && sx_wd4 e.2.2.2 (.classLink (sx_cn e.1) e.2.1 (sx_cn e.2.2.1))) = true := by decide +kernel
theorem cx_oko : cx_lo.all (fun e => sx_wd4 e.2.2.2 (.methodLink (sx_cn e.1) e.2.1 objectInit)) = true := by decide +kernel
theorem cx_okk : cx_lk.all (fun e => decide (e.2.2.1 < 10) && sx_wd4 e.2.2.2 (.methodLink (sx_cn e.1) e.2.1 (cx_y e.2.2.1))) = true := by decide +kernel
theorem cx_okn : cx_ln.all (fun e => decide (e.2.2.1 < 10) && sx_wd4 e.2.2.2 (.methodLinkNest (sx_cn e.1) e.2.1 (cx_y e.2.2.1) RX8)) = true := by decide +kernel
theorem cx_okp : (List.range 10).all (fun kd => sx_wd4 (cx_pp kd).1 (.instantiable (sx_cn kd) (sx_ft kd).length) && sx_wd4 (cx_pp kd).2.1 (.initialized (sx_cn kd)) && sx_wd4 (cx_pp kd).2.2.1 (.instanceMethod (cx_y kd)) && sx_wd4 (cx_pp kd).2.2.2 (.code (cx_y kd) (cx_c kd) (cx_m kd) none)) = true := by decide +kernel
theorem cx_okz : (List.range 10).all (fun kd => decide (decode (cx_c kd) (cx_z kd) = .ok (.return_, 1))) = true := by decide +kernel
theorem cx_oi : Jvm.Cond.instanceMethod objectInit ∈ sx_big := sx_inb (i := 85) (by decide +kernel) rfl
theorem cx_oc : Jvm.Cond.code objectInit ⟨#[0xb1]⟩ 1 none ∈ sx_big := sx_inb (i := 86) (by decide +kernel) rfl
theorem cx_a0 : Jvm.Cond.arrayClass .int ∈ sx_big := sx_inb (i := 114) (by decide +kernel) rfl
theorem cx_a1 : Jvm.Cond.arrayClass .long ∈ sx_big := sx_inb (i := 189) (by decide +kernel) rfl
theorem cx_a2 : Jvm.Cond.arrayClass .boolean ∈ sx_big := sx_inb (i := 973) (by decide +kernel) rfl
theorem cx_pok {kd : Nat} (h : kd < 10) : Jvm.Cond.instantiable (sx_cn kd) (sx_ft kd).length ∈ sx_big ∧ Jvm.Cond.initialized (sx_cn kd) ∈ sx_big ∧ Jvm.Cond.instanceMethod (cx_y kd) ∈ sx_big ∧ Jvm.Cond.code (cx_y kd) (cx_c kd) (cx_m kd) none ∈ sx_big := by
  have h1 := List.all_eq_true.mp cx_okp kd (List.mem_range.mpr h)
  simp only [Bool.and_eq_true] at h1
  obtain ⟨⟨⟨a1, a2⟩, a3⟩, a4⟩ := h1
  exact ⟨sx_inb a1 rfl, sx_inb a2 rfl, sx_inb a3 rfl, sx_inb a4 rfl⟩
theorem cx_yc : ∀ kd : Nat, kd < 10 → (cx_y kd).cls = sx_cn kd ∧ (cx_y kd).name = "<init>" ∧ (cx_y kd).desc = "()V" ∧ plainName (cx_y kd).cls = true ∧ (cx_y kd).cls ≠ "java/lang/invoke/MethodHandle" ∧ (cx_y kd).cls ≠ "java/lang/invoke/VarHandle" := by decide +kernel
def cx_isR (t : FieldType) : Bool := match t with
  | .object _ => true
  | .array _ => true
  | _ => false
theorem cx_fin : ∀ kd : Nat, kd < 10 → ∀ k, k < (sx_ft kd).length → (sx_ft kd)[k]? = some 2 → (sx_ct kd k).2.2.2 = true ∧ cx_isR (sx_cy kd k) = true := by decide +kernel
def cx_df (t : Nat) : cx_F := match t with
  | 1 => .inr (.inl 0)
  | 2 => .inr (.inr none)
  | _ => .inl 0
theorem cx_dfo : ∀ kd : Nat, kd < 10 → ∀ k, k < (sx_ft kd).length → (sx_ft kd)[k]? = some 0 ∧ sx_cy kd k = .int ∨ (sx_ft kd)[k]? = some 3 ∧ sx_cy kd k = .boolean ∨ (sx_ft kd)[k]? = some 1 ∧ sx_cy kd k = .long ∨ (sx_ft kd)[k]? = some 2 ∧ cx_isR (sx_cy kd k) = true := by decide +kernel
/-- one instruction -/
def cx_aty (t : ArrayType) : Nat := match t with
  | .int => 0
  | .long => 1
  | .boolean => 2
  | _ => 9
def cx_sz (c : cx_C) : Nat := match c with
  | .inl o => o.2.length
  | .inr a => a.2.1
def cx_sl (ws : List cx_C) : Nat := (ws.map cx_sz).sum
def cx_new (kd : Nat) : cx_C := .inl (kd, (sx_ft kd).map cx_df)
def cx_ref (v : sx_V) : Option Nat := match v with
  | .inr (.inr (0, i)) => some i
  | _ => none
