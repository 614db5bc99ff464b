/-! the machine of our own over the real one: words, worlds, locals -/
def sx_big : List Jvm.Cond := lw_tbl.filter goodWord
theorem sx_inb {w : Jvm.Cond} {i : Nat} (h : sx_wd4 i w = true) (g : goodWord w = true) : w ∈ sx_big := List.mem_filter.mpr ⟨List.mem_of_getElem? (of_decide_eq_true h), g⟩
def sx_w (y : MethodName) (by1 : ByteArray) (mx : Nat) (rt : Option FieldType) : List Jvm.Cond := .code y by1 mx rt :: sx_big
def sx_K2 (sc : Nat × (Nat → Int32)) (cal : Nat → Bool → List sx_V → sx_I → sx_J → (Option sx_V → List sx_V → sx_I → sx_J → sx_R) → sx_R) (k : Nat → sx_L → List sx_V → sx_I → sx_J → sx_R) (pc : Nat) (r : Instr) (nx : Nat) (lv : sx_L) (st : List sx_V) (I : sx_I) (J : sx_J) : sx_R :=
  match r with
  | .caload => (match st with
    | .inl x :: .inr (.inr (kd, _)) :: s => if kd = 19 then (if sx_in x sc.1 then k nx lv (.inl (sc.2 x.toNatClampNeg) :: s) I J else none) else none
    | _ => none)
  | .fneg => (match st with
    | .inr (.inr (kd, _)) :: s => if kd = 19 then k nx lv (.inl (Int32.ofNat sc.1) :: s) I J else none
    | _ => none)
  | .fadd => (match st with
    | .inl y :: .inl x :: s => if sx_cs s ≤ 8 then k nx lv (.inl (if y < x then y else x) :: s) I J else none
    | _ => none)
  | .dadd => (match st with
    | .inr (.inl y) :: .inr (.inl x) :: s => if sx_cs s ≤ 8 then k nx lv (.inr (.inl (if y < x then x else y)) :: s) I J else none
    | _ => none)
  | r => sx_K cal k pc r nx lv st I J
/-- so many steps (n), so many calls within calls (d) -/
def sx_go (sc : Nat × (Nat → Int32)) : Nat → Nat → sx_C → Nat → sx_L → List sx_V → sx_I → sx_J → sx_R
  | 0, _, _, _, _, _, _, _ => none
  | n + 1, d, cd, pc, lv, st, I, J =>
    match cd.find? (fun e => e.1 == pc) with
    | none => none
    | some e => sx_K2 sc (fun mid vt st I J c => match d with
        | 0 => none
        | d1 + 1 => sx_cl sx_mt (fun cd1 lv1 I J => sx_go sc n d1 cd1 0 lv1 [] I J) mid vt st I J c) (fun pc lv st I J => sx_go sc n d cd pc lv st I J) pc e.2.1 e.2.2 lv st I J
def sx_rv (ad : Nat → Nat → Nat) (v : sx_V) : Value := match v with
  | .inl x => .int x
  | .inr (.inl x) => .long x
  | .inr (.inr q) => .ref (ad q.1 q.2)
theorem sx_rv_cat (ad : Nat → Nat → Nat) (v : sx_V) : (sx_rv ad v).category = sx_cat v := by
  rcases v with x | x | q <;> rfl
def sx_fv (ad : Nat → Nat → Nat) (f : Nat → Int32) (g : Nat → Int64) (kd i k t : Nat) : Value := match t with
  | 1 => .long (g k)
  | 2 => va_rf ((sx_eR kd i k).map (fun q => ad q.1 q.2))
  | _ => .int (f k)
def sx_fs (ad : Nat → Nat → Nat) (f : Nat → Int32) (g : Nat → Int64) (kd i : Nat) : List Value := (sx_ft kd).mapIdx (fun k t => sx_fv ad f g kd i k t)
def sx_c2 (ad : Nat → Nat → Nat) (cA : Nat → ClassId) (kd i : Nat) (f : Nat → Int32) (g : Nat → Int64) : va_E :=
  if kd < 10 then .inr (kd, sx_fs ad f g kd i)
  else if sx_isI kd = true then .inl (cA 0, sx_eN kd i, .inl f)
  else if sx_isJ kd = true then .inl (cA 1, sx_eN kd i, .inr (.inl g))
  else if kd = 18 then .inl (cA 2, sx_eN kd i, .inl f)
  else .inl (cA (kd - 10), sx_eN kd i, .inr (.inr (.inr (.inr (fun k => (sx_eR kd i k).map (fun q => ad q.1 q.2))))))
def sx_ks : List Nat := [0, 1, 2, 3, 4, 5, 6, 7, 8, 9, 10, 11, 13, 14, 16, 17, 18, 20, 21, 22]
def sx_ids : List (Nat × Nat) := sx_ks.flatMap (fun kd => (List.range (sx_eC kd)).map (fun i => (kd, i)))
def sx_ws (ad : Nat → Nat → Nat) (cA : Nat → ClassId) (I : sx_I) (J : sx_J) : va_W := sx_ids.map (fun q => (ad q.1 q.2, sx_c2 ad cA q.1 q.2 (I q.1 q.2) (J q.1 q.2)))
def sx_ty (cA : Nat → ClassId) : List (ClassId × FieldType) := [(cA 0, .int), (cA 1, .long), (cA 2, .boolean), (cA 3, .object "StormLots$Row"), (cA 4, .object "StormLots$Ship")]
theorem sx_nd : sx_ids.Nodup := by decide +kernel
theorem sx_idm {kd i : Nat} (hk : kd ∈ sx_ks) (hi : i < sx_eC kd) : (kd, i) ∈ sx_ids := List.mem_flatMap.mpr ⟨kd, hk, List.mem_map.mpr ⟨i, List.mem_range.mpr hi, rfl⟩⟩
theorem sx_at {kd i : Nat} (h : (kd, i) ∈ sx_ids) : ∃ k : Nat, sx_ids[k]? = some (kd, i) := List.getElem?_of_mem h
theorem sx_wat {kd i k : Nat} (ad : Nat → Nat → Nat) (cA : Nat → ClassId) (I : sx_I) (J : sx_J) (h : sx_ids[k]? = some (kd, i)) : (sx_ws ad cA I J)[k]? = some (ad kd i, sx_c2 ad cA kd i (I kd i) (J kd i)) := by
  rw [sx_ws, List.getElem?_map, h]; rfl
theorem sx_set {kd i k : Nat} {ad : Nat → Nat → Nat} {cA : Nat → ClassId} {I I1 : sx_I} {J J1 : sx_J} {e : va_E} (h : sx_ids[k]? = some (kd, i)) (he : sx_c2 ad cA kd i (I1 kd i) (J1 kd i) = e) (ho : ∀ x y : Nat, ¬ (x = kd ∧ y = i) → I1 x y = I x y ∧ J1 x y = J x y) : (sx_ws ad cA I J).set k (ad kd i, e) = sx_ws ad cA I1 J1 := by
  have hlt : k < sx_ids.length := (List.getElem?_eq_some_iff.mp h).1
  apply List.ext_getElem?
  intro j
  rw [List.getElem?_set]
  by_cases hj : k = j
  · subst hj
    rw [if_pos rfl, sx_wat ad cA I1 J1 h, he, if_pos (by rw [sx_ws, List.length_map]; exact hlt)]
  · rw [if_neg hj, sx_ws, sx_ws, List.getElem?_map, List.getElem?_map]
    cases hq : sx_ids[j]? with
    | none => rfl
    | some q =>
      obtain ⟨x, y⟩ := q
      have hn : ¬ (x = kd ∧ y = i) := by
        rintro ⟨rfl, rfl⟩
        exact hj ((List.getElem?_inj hlt sx_nd).mp (h.trans hq.symm))
      obtain ⟨h1, h2⟩ := ho x y hn
      simp only [Option.map_some, h1, h2]
theorem sx_uI_at (I : sx_I) (a b k : Nat) (v : Int32) : sx_uI I a b k v a b = upd (I a b) k v := by
  funext z; simp only [sx_uI, upd, true_and]
theorem sx_uI_ne (I : sx_I) {a b : Nat} (k : Nat) (v : Int32) {x y : Nat} (h : ¬ (x = a ∧ y = b)) : sx_uI I a b k v x y = I x y := by
  funext z; simp only [sx_uI]; rw [if_neg (fun q => h ⟨q.1, q.2.1⟩)]
theorem sx_uJ_at (J : sx_J) (a b k : Nat) (v : Int64) : sx_uJ J a b k v a b = vp_updL (J a b) k v := by
  funext z; simp only [sx_uJ, vp_updL, true_and]
theorem sx_uJ_ne (J : sx_J) {a b : Nat} (k : Nat) (v : Int64) {x y : Nat} (h : ¬ (x = a ∧ y = b)) : sx_uJ J a b k v x y = J x y := by
  funext z; simp only [sx_uJ]; rw [if_neg (fun q => h ⟨q.1, q.2.1⟩)]
theorem sx_fs_setI (ad : Nat → Nat → Nat) (f : Nat → Int32) (g : Nat → Int64) (kd i k : Nat) (v : Int32) {t : Nat} (ht : (sx_ft kd)[k]? = some t) (h : t = 0 ∨ t = 3) : sx_fs ad (upd f k v) g kd i = (sx_fs ad f g kd i).set k (.int v) := by
  apply List.ext_getElem?
  intro j
  rw [List.getElem?_set, sx_fs, sx_fs, List.getElem?_mapIdx, List.getElem?_mapIdx, List.length_mapIdx]
  by_cases hj : k = j
  · subst hj
    rw [if_pos rfl, if_pos (List.getElem?_eq_some_iff.mp ht).1, ht]
    rcases h with rfl | rfl <;> simp [sx_fv, upd]
  · rw [if_neg hj]
    cases (sx_ft kd)[j]? with
    | none => rfl
    | some t1 =>
      simp only [Option.map_some, Option.some.injEq]
      unfold sx_fv
      split <;> first | rfl | (simp only [upd]; rw [if_neg (fun q => hj q.symm)])
theorem sx_fs_setJ (ad : Nat → Nat → Nat) (f : Nat → Int32) (g : Nat → Int64) (kd i k : Nat) (v : Int64) (ht : (sx_ft kd)[k]? = some 1) : sx_fs ad f (vp_updL g k v) kd i = (sx_fs ad f g kd i).set k (.long v) := by
  apply List.ext_getElem?
  intro j
  rw [List.getElem?_set, sx_fs, sx_fs, List.getElem?_mapIdx, List.getElem?_mapIdx, List.length_mapIdx]
  by_cases hj : k = j
  · subst hj
    rw [if_pos rfl, if_pos (List.getElem?_eq_some_iff.mp ht).1, ht]
    simp [sx_fv, vp_updL]
  · rw [if_neg hj]
    cases (sx_ft kd)[j]? with
    | none => rfl
    | some t1 =>
      simp only [Option.map_some, Option.some.injEq]
      unfold sx_fv
      split <;> first | rfl | (simp only [vp_updL]; rw [if_neg (fun q => hj q.symm)])
/-- the locals -/
def sx_as (ad : Nat → Nat → Nat) (lv : sx_L) : List (Nat × Value) := (List.range lv.length).filterMap (fun i => (sx_get lv i).map (fun v => (i, sx_rv ad v)))
theorem sx_get_lt {lv : sx_L} {i : Nat} {v : sx_V} (h : sx_get lv i = some v) : i < lv.length := by
  unfold sx_get at h
  split at h
  · next hq => exact (List.getElem?_eq_some_iff.mp hq).1
  · cases h
theorem sx_as_mem {ad : Nat → Nat → Nat} {lv : sx_L} {i : Nat} {w : Value} : (i, w) ∈ sx_as ad lv ↔ ∃ v, sx_get lv i = some v ∧ w = sx_rv ad v := by
  constructor
  · intro h
    obtain ⟨j, -, hj⟩ := List.mem_filterMap.mp h
    cases hv : sx_get lv j with
    | none => rw [hv] at hj; cases hj
    | some v =>
      rw [hv] at hj
      simp only [Option.map_some, Option.some.injEq, Prod.mk.injEq] at hj
      obtain ⟨rfl, rfl⟩ := hj
      exact ⟨v, hv, rfl⟩
  · rintro ⟨v, hv, rfl⟩
    exact List.mem_filterMap.mpr ⟨i, List.mem_range.mpr (sx_get_lt hv), by rw [hv]; rfl⟩
theorem sx_lat {ad : Nat → Nat → Nat} {lv : sx_L} {ls : Array Slot} {nL i : Nat} {v : sx_V} (h : lv_has ls nL (sx_as ad lv)) (hv : sx_get lv i = some v) : ls[i]? = some (.val (sx_rv ad v)) := h.2.2 (i, sx_rv ad v) (sx_as_mem.mpr ⟨v, hv, rfl⟩)
theorem sx_lsub {ls : Array Slot} {nL : Nat} {l l1 : List (Nat × Value)} (h : lv_has ls nL l) (hs : ∀ q ∈ l1, q ∈ l) : lv_has ls nL l1 := ⟨h.1, h.2.1, fun q hq => h.2.2 q (hs q hq)⟩
theorem sx_kil_len (lv : sx_L) (i : Nat) : (sx_kil lv i).length = lv.length := by
  unfold sx_kil
  split
  · rfl
  · split <;> simp
theorem sx_st1_len (lv : sx_L) (i : Nat) (v : sx_V) : (sx_st1 lv i v).length = lv.length := by rw [sx_st1, List.length_set, sx_kil_len]
theorem sx_st2_len (lv : sx_L) (i : Nat) (v : sx_V) : (sx_st2 lv i v).length = lv.length := by rw [sx_st2, List.length_set, sx_st1_len]
theorem sx_get_set {lv : sx_L} {i j : Nat} {o : Option sx_V} {w : sx_V} (h : sx_get (lv.set i o) j = some w) : (j = i ∧ o = some w) ∨ (j ≠ i ∧ sx_get lv j = some w) := by
  unfold sx_get at h
  rw [List.getElem?_set] at h
  by_cases hj : i = j
  · subst hj
    left
    rw [if_pos rfl] at h
    by_cases hl : i < lv.length
    · rw [if_pos hl] at h
      cases o with
      | none => cases h
      | some v => exact ⟨rfl, h⟩
    · rw [if_neg hl] at h; cases h
  · right
    rw [if_neg hj] at h
    exact ⟨fun q => hj q.symm, h⟩
theorem sx_get_kil {lv : sx_L} {i j : Nat} {w : sx_V} (h : sx_get (sx_kil lv i) j = some w) : sx_get lv j = some w ∧ ¬ (j + 1 = i ∧ sx_cat w = 2) := by
  unfold sx_kil at h
  split at h
  · exact ⟨h, fun q => by omega⟩
  · next j1 =>
    split at h
    · next hq =>
      rcases sx_get_set h with ⟨rfl, h1⟩ | ⟨h1, h2⟩
      · cases h1
      · exact ⟨h2, fun q => h1 (by omega)⟩
    · next hq =>
      refine ⟨h, fun q => ?_⟩
      obtain ⟨q1, q2⟩ := q
      have e : j = j1 := by omega
      subst e
      unfold sx_get at h
      split at h
      · next v hv =>
        cases h
        rcases w with x | x | x
        · cases q2
        · exact hq x hv
        · cases q2
      · cases h
theorem sx_get_st1 {lv : sx_L} {i j : Nat} {v w : sx_V} (h : sx_get (sx_st1 lv i v) j = some w) : (j = i ∧ w = v) ∨ (j ≠ i ∧ sx_get lv j = some w ∧ ¬ (j + 1 = i ∧ sx_cat w = 2)) := by
  rcases sx_get_set h with ⟨h1, h2⟩ | ⟨h1, h2⟩
  · exact Or.inl ⟨h1, (Option.some.inj h2).symm⟩
  · exact Or.inr ⟨h1, sx_get_kil h2⟩
theorem sx_get_st2 {lv : sx_L} {i j : Nat} {v w : sx_V} (h : sx_get (sx_st2 lv i v) j = some w) : (j = i ∧ w = v) ∨ (j ≠ i ∧ j ≠ i + 1 ∧ sx_get lv j = some w ∧ ¬ (j + 1 = i ∧ sx_cat w = 2)) := by
  rcases sx_get_set h with ⟨h1, h2⟩ | ⟨h1, h2⟩
  · cases h2
  · rcases sx_get_st1 h2 with h3 | ⟨h3, h4, h5⟩
    · exact Or.inl h3
    · exact Or.inr ⟨h3, h1, h4, h5⟩
theorem sx_has1 {ad : Nat → Nat → Nat} {lv : sx_L} {ls : Array Slot} {nL i : Nat} {v : sx_V} (h : lv_has ls nL ((i, sx_rv ad v) :: (sx_as ad lv).filter (fun q => !(q.1 == i) && !(q.1 + 1 == i && q.2.category == 2)))) : lv_has ls nL (sx_as ad (sx_st1 lv i v)) := by
  refine sx_lsub h ?_
  rintro ⟨j, w⟩ hq
  obtain ⟨x, hx, rfl⟩ := sx_as_mem.mp hq
  rcases sx_get_st1 hx with ⟨rfl, rfl⟩ | ⟨h1, h2, h3⟩
  · exact List.mem_cons_self
  · refine List.mem_cons_of_mem _ (List.mem_filter.mpr ⟨sx_as_mem.mpr ⟨x, h2, rfl⟩, ?_⟩)
    simp only [sx_rv_cat]
    by_cases h4 : j + 1 = i
    · have h5 : sx_cat x ≠ 2 := fun q => h3 ⟨h4, q⟩
      simp [h1, h5]
    · simp [h1, h4]
theorem sx_has2 {ad : Nat → Nat → Nat} {lv : sx_L} {ls : Array Slot} {nL i : Nat} {v : sx_V} (h : lv_has ls nL ((i, sx_rv ad v) :: (sx_as ad lv).filter (fun q => !(q.1 == i) && (!(q.1 == i + 1) && !(q.1 + 1 == i && q.2.category == 2))))) : lv_has ls nL (sx_as ad (sx_st2 lv i v)) := by
  refine sx_lsub h ?_
  rintro ⟨j, w⟩ hq
  obtain ⟨x, hx, rfl⟩ := sx_as_mem.mp hq
  rcases sx_get_st2 hx with ⟨rfl, rfl⟩ | ⟨h1, h1b, h2, h3⟩
  · exact List.mem_cons_self
  · refine List.mem_cons_of_mem _ (List.mem_filter.mpr ⟨sx_as_mem.mpr ⟨x, h2, rfl⟩, ?_⟩)
    simp only [sx_rv_cat]
    by_cases h4 : j + 1 = i
    · have h5 : sx_cat x ≠ 2 := fun q => h3 ⟨h4, q⟩
      simp [h1, h1b, h5]
    · simp [h1, h1b, h4]
/-- references that are there -/
def sx_vl (v : sx_V) : Prop := match v with
  | .inr (.inr q) => q.2 < sx_eC q.1
  | _ => True
def sx_vL (lv : sx_L) : Prop := ∀ (i : Nat) (v : sx_V), sx_get lv i = some v → sx_vl v
def sx_vS (st : List sx_V) : Prop := ∀ v ∈ st, sx_vl v
theorem sx_vS.tl {v : sx_V} {st : List sx_V} (h : sx_vS (v :: st)) : sx_vS st := fun w hw => h w (List.mem_cons_of_mem _ hw)
theorem sx_vS.hd {v : sx_V} {st : List sx_V} (h : sx_vS (v :: st)) : sx_vl v := h v List.mem_cons_self
theorem sx_vS.co {v : sx_V} {st : List sx_V} (h : sx_vS st) (hv : sx_vl v) : sx_vS (v :: st) := fun w hw => (List.mem_cons.mp hw).elim (fun q => q ▸ hv) (h w)
theorem sx_vL.st1 {lv : sx_L} (h : sx_vL lv) {i : Nat} {v : sx_V} (hv : sx_vl v) : sx_vL (sx_st1 lv i v) := fun j w hw => by
  rcases sx_get_st1 hw with ⟨-, rfl⟩ | ⟨-, h2, -⟩
  · exact hv
  · exact h j w h2
theorem sx_vL.st2 {lv : sx_L} (h : sx_vL lv) {i : Nat} {v : sx_V} (hv : sx_vl v) : sx_vL (sx_st2 lv i v) := fun j w hw => by
  rcases sx_get_st2 hw with ⟨-, rfl⟩ | ⟨-, -, h2, -⟩
  · exact hv
  · exact h j w h2
theorem sx_eR_vl {kd i k : Nat} {q : Nat × Nat} (hi : i < sx_eC kd) (h : sx_eR kd i k = some q) : q.2 < sx_eC q.1 := by
  unfold sx_eR at h
  split at h
  all_goals (try split at h)
  all_goals (try split at h)
  all_goals (try (cases h; done))
  all_goals (injection h with h; subst h)
  all_goals (first | (simp only [sx_eC] at hi ⊢; omega) | (simp only [sx_eC]; decide))
/-- tables -/
theorem sx_fd_spec {α : Type} {l : List (Nat × Nat × α × Nat)} {own idx : Nat} {e : Nat × Nat × α × Nat} (h : sx_fd l own idx = some e) : e ∈ l ∧ e.1 = own ∧ e.2.1 = idx := by
  refine ⟨List.mem_of_find?_eq_some h, ?_⟩
  have := List.find?_some h
  simp only [Bool.and_eq_true, beq_iff_eq] at this
  exact this
theorem sx_vwc : ∀ kd : Nat, kd < 10 → vwCl[kd]? = some (sx_cn kd, sx_ct kd, (sx_ft kd).length) := by
  intro kd h
  match kd, h with
  | 0, _ => rfl
  | 1, _ => rfl
  | 2, _ => rfl
  | 3, _ => rfl
  | 4, _ => rfl
  | 5, _ => rfl
  | 6, _ => rfl
  | 7, _ => rfl
  | 8, _ => rfl
  | 9, _ => rfl
theorem sx_tyo : ∀ kd : Nat, kd < 10 → ∀ k, k < (sx_ft kd).length → parseFieldDescriptor (sx_ct kd k).2.2.1 = some (sx_cy kd k) := by
  intro kd h
  match kd, h with
  | 0, _ => exact tyX0_ok
  | 1, _ => exact tyX1_ok
  | 2, _ => exact tyX2_ok
  | 3, _ => exact tyX3_ok
  | 4, _ => exact tyX4_ok
  | 5, _ => exact tyX5_ok
  | 6, _ => exact tyX6_ok
  | 7, _ => exact tyX7_ok
  | 8, _ => exact tyX8_ok
  | 9, _ => exact tyX9_ok
theorem sx_nmo : ∀ kd : Nat, kd < 10 → ∀ a, a < (sx_ft kd).length → ∀ b, b < (sx_ft kd).length → a ≠ b → (sx_ct kd a).2.1 ≠ (sx_ct kd b).2.1 := by
  intro kd h
  match kd, h with
  | 0, _ => exact nmX0
  | 1, _ => exact nmX1
  | 2, _ => exact nmX2
  | 3, _ => exact nmX3
  | 4, _ => exact nmX4
  | 5, _ => exact nmX5
  | 6, _ => exact nmX6
  | 7, _ => exact nmX7
  | 8, _ => exact nmX8
  | 9, _ => exact nmX9
theorem sx_fto : ∀ kd : Nat, kd < 10 → ∀ k, k < (sx_ft kd).length → (sx_ct kd k).2.2.2 = false ∧ sx_cy kd k = .int ∧ (sx_ft kd)[k]? = some 0 ∨ (sx_ct kd k).2.2.2 = false ∧ sx_cy kd k = .boolean ∧ (sx_ft kd)[k]? = some 3 ∨ (sx_ct kd k).2.2.2 = false ∧ sx_cy kd k = .long ∧ (sx_ft kd)[k]? = some 1 ∨ (sx_ft kd)[k]? = some 2 := by decide +kernel
def sx_uwp (kd : Nat) : List Nat := match kd with
  | 0 => [203, 205, 207]
  | 1 => [294, 296]
  | 2 => [225, 227, 229, 231]
  | 3 => [273, 275, 277, 279, 281]
  | 4 => [311, 313, 315]
  | 5 => [162, 164, 166, 168, 170, 172, 174, 176, 178, 180, 182, 184, 186]
  | 6 => [103, 105, 107, 109, 111]
  | 7 => [246, 248, 250, 252, 254]
  | 8 => [329, 331, 333, 335, 337, 339, 341, 343, 345, 347, 349]
  | 9 => [910, 912, 914, 916, 918, 920, 922, 924, 926, 928, 930, 932, 934, 936, 938, 940, 942, 944, 946, 948, 950, 952, 954, 956, 958, 960, 962, 964, 966, 968, 970]
  | _ => []
theorem sx_uwl : ∀ kd : Nat, kd < 10 → u_ws (sx_cn kd) (sx_ct kd) (sx_ft kd).length = (sx_uwp kd).filterMap (fun i => lw_tbl[i]?) := by decide +kernel
theorem sx_uws : ∀ kd : Nat, kd < 10 → ∀ w ∈ u_ws (sx_cn kd) (sx_ct kd) (sx_ft kd).length, w ∈ sx_big := by
  intro kd h w hw
  refine List.mem_filter.mpr ⟨?_, ?_⟩
  · revert w
    have := sx_uwl kd h
    intro w hw
    rw [this] at hw
    obtain ⟨i, -, hi⟩ := List.mem_filterMap.mp hw
    exact List.mem_of_getElem? hi
  · obtain ⟨k, -, rfl⟩ := List.mem_map.mp hw
    unfold u_lay
    split <;> rfl
