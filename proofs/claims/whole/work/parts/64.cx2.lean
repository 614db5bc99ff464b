def cx_K (bn bs own : Nat) (cal : Nat → Nat → List cx_C → Option (List cx_C)) (k : Nat → sx_L → List sx_V → List cx_C → cx_R) (pc : Nat) (ins : Instr) (len : Nat) (lv : sx_L) (st : List sx_V) (ws : List cx_C) : cx_R :=
  match ins with
  | .aload_n j => if len = 1 then (match sx_get lv j.val with | some (.inr (.inr q)) => k (pc + 1) lv (.inr (.inr q) :: st) ws | _ => none) else none
  | .iload_n j => if len = 1 then (match sx_get lv j.val with | some (.inl x) => k (pc + 1) lv (.inl x :: st) ws | _ => none) else none
  | .istore_n j => if len = 1 then (match st with | .inl x :: u => if j.val < lv.length then k (pc + 1) (sx_st1 lv j.val (.inl x)) u ws else none | _ => none) else none
  | .astore_n j => if len = 1 then (match st with | .inr (.inr q) :: u => if j.val < lv.length then k (pc + 1) (sx_st1 lv j.val (.inr (.inr q))) u ws else none | _ => none) else none
  | .iconst n => if len = 1 then k (pc + 1) lv (.inl (Int32.ofInt n) :: st) ws else none
  | .bipush n => if len = 2 ∧ (Int8.ofInt n).toInt32 = Int32.ofInt n then k (pc + 2) lv (.inl (Int32.ofInt n) :: st) ws else none
  | .sipush n => if len = 3 ∧ (Int16.ofInt n).toInt32 = Int32.ofInt n then k (pc + 3) lv (.inl (Int32.ofInt n) :: st) ws else none
  | .dup => if len = 1 then (match st with | v :: u => if sx_cat v = 1 then k (pc + 1) lv (v :: v :: u) ws else none | _ => none) else none
  | .iinc j n => if len = 3 then (match sx_get lv j with | some (.inl x) => k (pc + 3) (sx_st1 lv j (.inl (x + Int32.ofInt n))) st ws | _ => none) else none
  | .goto o => if len = 3 ∧ 0 ≤ (pc : Int) + o then k ((pc : Int) + o).toNat lv st ws else none
  | .if_icmp .ge o => if len = 3 ∧ 0 ≤ (pc : Int) + o then (match st with | .inl y :: .inl x :: u => if y ≤ x then k ((pc : Int) + o).toNat lv u ws else k (pc + 3) lv u ws | _ => none) else none
  | .newarray t => if len = 2 then (match st with
    | .inl n :: u => if cx_aty t < 3 ∧ ¬ n < 0 ∧ n.toNatClampNeg ≤ 1000 ∧ ws.length + 1 ≤ bn ∧ cx_sl ws + n.toNatClampNeg ≤ bs then k (pc + 2) lv (.inr (.inr (0, ws.length)) :: u) (ws ++ [.inr (cx_aty t, n.toNatClampNeg, [], [])]) else none
    | _ => none) else none
  | .anewarray idx => if len = 3 then (match sx_fd cx_lc own idx with
    | some e => (match st with
      | .inl n :: u => if (e.2.2.1 = 4 ∨ e.2.2.1 = 5) ∧ ¬ n < 0 ∧ n.toNatClampNeg ≤ 1000 ∧ ws.length + 1 ≤ bn ∧ cx_sl ws + n.toNatClampNeg ≤ bs then k (pc + 3) lv (.inr (.inr (0, ws.length)) :: u) (ws ++ [.inr (e.2.2.1 - 1, n.toNatClampNeg, [], [])]) else none
      | _ => none)
    | none => none) else none
  | .new idx => if len = 3 then (match sx_fd cx_lc own idx with
    | some e => if ws.length + 1 ≤ bn ∧ cx_sl ws + (sx_ft e.2.2.1).length ≤ bs then k (pc + 3) lv (.inr (.inr (0, ws.length)) :: st) (ws ++ [cx_new e.2.2.1]) else none
    | none => none) else none
  | .invokespecial idx => if len = 3 then (match st with
    | .inr (.inr (0, q)) :: u => if sx_cs u ≤ 8 then (match sx_fd cx_lo own idx with
      | some _ => k (pc + 3) lv u ws
      | none => (match sx_fd cx_lk own idx with
        | some e => (match cal e.2.2.1 q ws with
          | some ws1 => if ws.length + (cx_q e.2.2.1).1 ≤ bn ∧ cx_sl ws + (cx_q e.2.2.1).2 ≤ bs ∧ ws1.length = ws.length + (cx_q e.2.2.1).1 ∧ cx_sl ws1 = cx_sl ws + (cx_q e.2.2.1).2 then k (pc + 3) lv u ws1 else none
          | none => none)
        | none => (match sx_fd cx_ln own idx with
          | some e => (match cal e.2.2.1 q ws with
            | some ws1 => if ws.length + (cx_q e.2.2.1).1 ≤ bn ∧ cx_sl ws + (cx_q e.2.2.1).2 ≤ bs ∧ ws1.length = ws.length + (cx_q e.2.2.1).1 ∧ cx_sl ws1 = cx_sl ws + (cx_q e.2.2.1).2 then k (pc + 3) lv u ws1 else none
            | none => none)
          | none => none))) else none
    | _ => none) else none
  | .putfield idx => if len = 3 then (match sx_fd sx_lf own idx with
    | some e => (match st with
      | .inr (.inr (0, i)) :: .inr (.inr (0, q)) :: u => (match ws[q]? with
        | some (.inl o) => if o.1 = e.2.2.1 / 256 ∧ own = e.2.2.1 / 256 ∧ e.2.2.1 / 4 % 64 < o.2.length ∧ e.2.2.1 % 4 = 2 then k (pc + 3) lv u (ws.set q (.inl (o.1, o.2.set (e.2.2.1 / 4 % 64) (.inr (.inr (some i)))))) else none
        | _ => none)
      | .inl x :: .inr (.inr (0, q)) :: u => (match ws[q]? with
        | some (.inl o) => if o.1 = e.2.2.1 / 256 ∧ e.2.2.1 / 4 % 64 < o.2.length ∧ e.2.2.1 % 4 = 0 then k (pc + 3) lv u (ws.set q (.inl (o.1, o.2.set (e.2.2.1 / 4 % 64) (.inl x)))) else none
        | _ => none)
      | _ => none)
    | none => none) else none
  | .getfield idx => if len = 3 then (match sx_fd sx_lf own idx with
    | some e => (match st with
      | .inr (.inr (0, q)) :: u => (match ws[q]? with
        | some (.inl o) => if o.1 = e.2.2.1 / 256 then (match o.2[e.2.2.1 / 4 % 64]? with
          | some (.inr (.inr (some i))) => k (pc + 3) lv (.inr (.inr (0, i)) :: u) ws
          | _ => none) else none
        | _ => none)
      | _ => none)
    | none => none) else none
  | .iastore => if len = 1 then (match st with
    | .inl v :: .inl x :: .inr (.inr (0, q)) :: u => (match ws[q]? with
      | some (.inr a) => if a.1 = 0 ∧ sx_in x a.2.1 = true then k (pc + 1) lv u (ws.set q (.inr (a.1, a.2.1, (x.toNatClampNeg, v) :: a.2.2.1, a.2.2.2))) else none
      | _ => none)
    | _ => none) else none
  | .aastore => if len = 1 then (match st with
    | .inr (.inr (0, i)) :: .inl x :: .inr (.inr (0, q)) :: u => (match ws[q]? with
      | some (.inr a) => (match ws[i]? with
        | some (.inl o) => if (a.1 = 3 ∨ a.1 = 4) ∧ o.1 = a.1 + 1 ∧ sx_in x a.2.1 = true then k (pc + 1) lv u (ws.set q (.inr (a.1, a.2.1, a.2.2.1, (x.toNatClampNeg, i) :: a.2.2.2))) else none
        | _ => none)
      | _ => none)
    | _ => none) else none
  | _ => none
def cx_en (kd q : Nat) : sx_L := some (.inr (.inr (0, q))) :: List.replicate (cx_m kd - 1) none
/-- so many steps (n) and calls within calls (d), up to the place z -/
def cx_go : Nat → Nat → Nat → Nat → Nat → ByteArray → Nat → Nat → sx_L → List sx_V → List cx_C → cx_R
  | 0, _, _, _, _, _, _, _, _, _, _ => none
  | n + 1, d, bn, bs, own, cc, z, pc, lv, st, ws =>
    if pc = z then some (lv, st, ws) else
    match decode cc pc with
    | .error _ => none
    | .ok r => cx_K bn bs own (fun kd q ws => match d with
        | 0 => none
        | d1 + 1 => (match cx_go n d1 (ws.length + (cx_q kd).1) (cx_sl ws + (cx_q kd).2) kd (cx_c kd) (cx_z kd) 0 (cx_en kd q) [] ws with
          | some (_, [], ws1) => some ws1
          | _ => none)) (fun pc lv st ws => cx_go n d bn bs own cc z pc lv st ws) pc r.1 r.2 lv st ws
def cx_N (U : State) : Prop := (∀ e ∈ cx_ln, va_Nw (.methodLinkNest (sx_cn e.1) e.2.1 (cx_y e.2.2.1) RX8) U) ∧ va_AO RX4 U ∧ va_AO RX5 U
def cx_G (p : Program) (R : Room) (s : State) (m : MethodId) (args : Array Value) (meth : Method) (c : Code) (D : va_G) (b : Nat) (cA : Nat → ClassId) (own : Nat) (cc : ByteArray) (nL d bn bs n0 s0 : Nat) : Prop :=
  p.tables.exec = Jvm.exec ∧ c.code = cc ∧ c.maxLocals = nL ∧ s.vm.findClass (sx_cn own) = some m.cls ∧ (∀ w ∈ sx_big, w.before args s = true) ∧ va_K D vwCl (sx_ty cA) s ∧ cx_N s ∧ b ≤ s.heap.size ∧ (own < 10 → meth.name = "<init>") ∧ (d + 1 ≤ R.frames ∧ 40 * d + 100 ≤ R.locals) ∧ (bn ≤ R.cells + n0 ∧ bs ≤ R.slots + s0)
def cx_W (p : Program) (l : Launch) (e : Env) (R : Room) (s : State) (m : MethodId) (args : Array Value) (below : List Frame) (meth : Method) (c : Code) (Q : State → Prop) (D : va_G) (b g : Nat) (cA : Nat → ClassId) (nL n0 s0 : Nat) (pc : Nat) (lv : sx_L) (st : List sx_V) (ws : List cx_C) : Prop :=
  ∀ (H : Heap) (locs : List Loc) (ls : Array Slot) (cells slots : Nat), H.size = b + ws.length → va_P D vwCl (cx_ws b cA ws) H → va_S (cx_A b) s.heap H locs → lv_has ls nL (sx_as (cx_ad b g) lv) → cells + n0 = ws.length → slots + s0 = cx_sl ws → W p l e R s m args below meth c H locs cells slots Q (F0 m pc ls (st.map (sx_rv (cx_ad b g))))
theorem cx_sl_push (ws : List cx_C) (c : cx_C) : cx_sl (ws ++ [c]) = cx_sl ws + cx_sz c := by
  rw [cx_sl, cx_sl, List.map_append, List.sum_append]; rfl
theorem cx_sl_set {ws : List cx_C} {i : Nat} {c0 c : cx_C} (h : ws[i]? = some c0) (hz : cx_sz c = cx_sz c0) : cx_sl (ws.set i c) = cx_sl ws := by
  have : (ws.set i c).map cx_sz = ws.map cx_sz := by
    rw [List.map_set, hz]
    apply List.ext_getElem?
    intro j
    rw [List.getElem?_set]
    by_cases hj : i = j
    · subst hj
      have hl := (List.getElem?_eq_some_iff.mp h).1
      rw [if_pos rfl, List.length_map, if_pos hl, List.getElem?_map, h]; rfl
    · rw [if_neg hj]
  rw [cx_sl, this, cx_sl]
theorem cx_up_fs (b : Nat) (fs : List cx_F) (k : Nat) (v : cx_F) : (fs.set k v).map (cx_fv b) = (fs.map (cx_fv b)).set k (cx_fv b v) := List.map_set
section CXR
variable {p : Program} {l : Launch} {e : Env} {R : Room} {s : State} {m : MethodId} {args : Array Value} {below : List Frame} {meth : Method} {c : Code} {H : Heap} {locs : List Loc} {cells slots : Nat} {Q : State → Prop}
variable {cc : ByteArray} {pc : Nat} {ls : Array Slot} {rest : List Value} {D : va_G} {cl : List vw_C} {A : Nat → Prop} {a : Nat} {tys : List (ClassId × FieldType)} {ws : va_W} {H0 : Heap}
/-- a heap of the same length -/
def cx_Z (z : Nat) (H : Heap) : Prop := H.size = z
/-- what a write into a cell leaves: the pool with the cell anew, and the heap's length -/
theorem cx_wrote {q0 : Nat} {e0 e1 : va_E} {H1 : Heap} {k : Nat} (hP : va_P D cl ws H) (hD : va_D A ws) (hS : va_S A H0 H locs) (he : ws[q0]? = some (a, e0)) (ha : va_at D cl (a, e1) H1) (z : H1.size = H.size) (oq : ∀ q : Nat, q ≠ a → H1[q]? = H[q]?) : va_P D cl (ws.set q0 (a, e1)) H1 ∧ va_S A H0 H1 (locs ++ [⟨a, k⟩]) := ⟨hP.set hD he ha oq, hS.put z oq (hD.2 q0 _ he)⟩
end CXR
