/-! a whole method: what our machine says of it is a contract of the real one -/
def sx_A0 (ad : Nat → Nat → Nat) (sz : Nat) : Nat → Prop := fun q => (∃ z ∈ sx_ids, q = ad z.1 z.2) ∨ sz ≤ q
def sx_P (D : va_G) (ad : Nat → Nat → Nat) (cA : Nat → ClassId) (I : sx_I) (J : sx_J) (sz : Nat) (U : State) : Prop := U.heap.size = sz ∧ va_P D vwCl (sx_ws ad cA I J) U.heap ∧ va_K D vwCl (sx_ty cA) U ∧ va_D (fun _ => True) (sx_ws ad cA I J) ∧ sx_S ad (sx_A0 ad sz) U U.heap ∧ sx_N U
def sx_B (D : va_G) (ad : Nat → Nat → Nat) (cA : Nat → ClassId) (I : sx_I) (J : sx_J) (_ : Unit) (t : State) : Prop := va_P D vwCl (sx_ws ad cA I J) t.heap
def sx_Q (D : va_G) (ad : Nat → Nat → Nat) (cA : Nat → ClassId) (v : Option sx_V) (I : sx_I) (J : sx_J) (sz : Nat) : Array Value → State → Outcome → State → Prop := match v with
  | none => va_Qv (fun _ : Unit => True) (sx_B D ad cA I J) (sx_A0 ad sz)
  | some (.inl x) => va_Qi (fun r (_ : Unit) => r = x) (sx_B D ad cA I J) (sx_A0 ad sz)
  | some (.inr (.inl x)) => va_Ql (fun r (_ : Unit) => r = x) (sx_B D ad cA I J) (sx_A0 ad sz)
  | some (.inr (.inr _)) => fun _ _ _ _ => False
def sx_rm (d : Nat) : Room := { frames := d + 1, cells := 0, slots := 0, locals := 40 * d + 400 }
def sx_nr (v : Option sx_V) : Bool := match v with
  | some (.inr (.inr _)) => false
  | _ => true
theorem sx_nr_vl {v : Option sx_V} (h : sx_nr v = true) {u : List sx_V} (hu : sx_vS u) : sx_vS (v.toList ++ u) := by
  intro w hw
  rcases List.mem_append.mp hw with hw | hw
  · rcases v with _ | x | x | x
    · cases hw
    · rcases List.mem_singleton.mp hw with rfl; trivial
    · rcases List.mem_singleton.mp hw with rfl; trivial
    · cases h
  · exact hu w hw
theorem sx_Dany {ad : Nat → Nat → Nat} {cA : Nat → ClassId} {A B : Nat → Prop} {I I1 : sx_I} {J J1 : sx_J} (h : va_D A (sx_ws ad cA I J)) (hB : ∀ z ∈ sx_ids, B (ad z.1 z.2)) : va_D B (sx_ws ad cA I1 J1) := by
  have key : ∀ (i : Nat) (x : Nat × va_E), (sx_ws ad cA I1 J1)[i]? = some x → ∃ z, sx_ids[i]? = some z ∧ x.1 = ad z.1 z.2 ∧ (sx_ws ad cA I J)[i]? = some (ad z.1 z.2, sx_c2 ad cA z.1 z.2 (I z.1 z.2) (J z.1 z.2)) := by
    intro i x hx
    rw [sx_ws, List.getElem?_map] at hx
    cases hz : sx_ids[i]? with
    | none => rw [hz] at hx; cases hx
    | some z =>
      rw [hz] at hx
      cases hx
      exact ⟨z, rfl, rfl, sx_wat (kd := z.1) (i := z.2) ad cA I J hz⟩
  refine ⟨fun i j x y hx hy hxy => ?_, fun k x hx => ?_⟩
  · obtain ⟨z, -, h1, h2⟩ := key i x hx
    obtain ⟨w, -, h3, h4⟩ := key j y hy
    exact h.1 i j _ _ h2 h4 (by show ad z.1 z.2 = ad w.1 w.2; rw [← h1, ← h3]; exact hxy)
  · obtain ⟨z, h0, h1, -⟩ := key k x hx
    rw [h1]
    exact hB z (List.mem_of_getElem? h0)
theorem sx_Din {ad : Nat → Nat → Nat} {cA : Nat → ClassId} {A : Nat → Prop} {I : sx_I} {J : sx_J} (h : va_D A (sx_ws ad cA I J)) {z : Nat × Nat} (hz : z ∈ sx_ids) : A (ad z.1 z.2) := by
  obtain ⟨k, hk⟩ := sx_at (kd := z.1) (i := z.2) hz
  exact h.2 k _ (sx_wat ad cA I J hk)
theorem sx_gd {ws : List Jvm.Cond} (h : ∀ w ∈ ws, w ∈ sx_big) : GoodIn sx_big ws := fun w hw => ⟨h w hw, good_of_word (List.mem_filter.mp (h w hw)).2⟩
theorem sx_S.to {ad : Nat → Nat → Nat} {A B : Nat → Prop} {s U : State} {H : Heap} {locs : List Loc} (h : sx_S ad A s s.heap) (hS : va_S A s.heap H locs) (hW : s.WarmedH U.vm) (hU : U.heap = H) (hAB : ∀ q, B q → A q) : sx_S ad B U U.heap := by
  intro t ht
  obtain ⟨h1, h2⟩ := h t ht
  rw [hU]
  exact ⟨((h1.kept (fun a ha hq => hS.2.1 a ha hq)).moved hW.alike).narrow hAB, ((h2.kept (fun a ha hq => hS.2.1 a ha hq)).moved hW.alike).narrow hAB⟩
theorem sx_fl_len (as : List sx_V) : (as.flatMap (fun v => if sx_cat v = 2 then [some v, (none : Option sx_V)] else [some v])).length = sx_wd as := by
  induction as with
  | nil => rfl
  | cons a t ih =>
    rw [List.flatMap_cons, List.length_append, ih, sx_wd, sx_wd, List.map_cons, List.sum_cons]
    congr 1
    rcases a with x | x | x <;> rfl
theorem sx_sl_len (ad : Nat → Nat → Nat) (as : List sx_V) : (lg_sl (as.map (sx_rv ad))).length = sx_wd as := by
  induction as with
  | nil => rfl
  | cons a t ih =>
    rw [List.map_cons, lg_sl, List.flatMap_cons, List.length_append]
    have ih' : (List.flatMap (fun v : Value => if v.category = 2 then [Slot.val v, .second] else [.val v]) (t.map (sx_rv ad))).length = sx_wd t := ih
    rw [ih', sx_wd, sx_wd, List.map_cons, List.sum_cons]
    congr 1
    rcases a with x | x | x <;> rfl
theorem sx_en_len {as : List sx_V} {n : Nat} (h : sx_wd as ≤ n) : (sx_en as n).length = n := by
  unfold sx_en
  simp only [List.length_append, List.length_replicate, sx_fl_len]
  omega
theorem sx_en_get (ad : Nat → Nat → Nat) (as : List sx_V) : ∀ (off m i : Nat) (v : sx_V), sx_get (as.flatMap (fun v => if sx_cat v = 2 then [some v, (none : Option sx_V)] else [some v]) ++ List.replicate m none) i = some v → v ∈ as ∧ (off + i, sx_rv ad v) ∈ lv_args off (as.map (sx_rv ad)) := by
  induction as with
  | nil =>
    intro off m i v h
    simp only [List.flatMap_nil, List.nil_append, sx_get, List.getElem?_replicate] at h
    split at h
    · next v1 hv => split at hv <;> cases hv
    · cases h
  | cons a t ih =>
    intro off m i v h
    rw [List.flatMap_cons, List.append_assoc] at h
    rw [List.map_cons, lv_args, sx_rv_cat]
    by_cases hc : sx_cat a = 2
    · rw [if_pos hc] at h ⊢
      match i, h with
      | 0, h => cases h; exact ⟨List.mem_cons_self, List.mem_cons_self⟩
      | 1, h => cases h
      | j + 2, h =>
        obtain ⟨h1, h2⟩ := ih (off + 2) m j v h
        exact ⟨List.mem_cons_of_mem _ h1, List.mem_cons_of_mem _ (by rw [show off + (j + 2) = off + 2 + j by omega]; exact h2)⟩
    · rw [if_neg hc] at h ⊢
      match i, h with
      | 0, h => cases h; exact ⟨List.mem_cons_self, List.mem_cons_self⟩
      | j + 1, h =>
        obtain ⟨h1, h2⟩ := ih (off + 1) m j v h
        exact ⟨List.mem_cons_of_mem _ h1, List.mem_cons_of_mem _ (by rw [show off + (j + 1) = off + 1 + j by omega]; exact h2)⟩
theorem sx_okr_spec {rt : Option FieldType} {cd : sx_C} (h : cd.all (sx_okr rt) = true) {pc nx : Nat} {r : Instr} (hm : (pc, r, nx) ∈ cd) : (r = .return_ → rt = none) ∧ (r = .ireturn → rt = some .int) ∧ (r = .areturn → rt = some .boolean) ∧ (r = .lreturn → rt = some .long) := by
  have h1 := List.all_eq_true.mp h _ hm
  refine ⟨?_, ?_, ?_, ?_⟩ <;> (rintro rfl; exact of_decide_eq_true h1)
/-- what is shown by counting the steps -/
def sx_RUN (l : Launch) (sc : Nat × (Nat → Int32)) (n : Nat) : Prop := ∀ (d own : Nat) (cd : sx_C) (cc : ByteArray) (bo lw : Bool) (p : Program) (e : Env) (R : Room) (s : State) (m : MethodId) (args : Array Value) (below : List Frame) (meth : Method) (c : Code) (cells slots : Nat) (Q : State → Prop) (D : va_G) (ad : Nat → Nat → Nat) (cA : Nat → ClassId) (A : Nat → Prop) (nL : Nat) (res : Option sx_V × sx_I × sx_J),
  sx_G p R s m args c D ad cA A own cc nL d lw sc cells slots → cd.all (sx_ck own bo lw cc) = true →
  (∀ (pc nx : Nat) (r : Instr) (lv : sx_L) (v : Option sx_V) (I : sx_I) (J : sx_J), (pc, r, nx) ∈ cd → res = (v, I, J) → sx_rt cc bo pc r v → sx_W p l e R s m args below meth c cells slots Q D ad cA A nL pc lv v.toList I J) →
  ∀ (pc : Nat) (lv : sx_L) (st : List sx_V) (I : sx_I) (J : sx_J), lv.length = nL → sx_vL lv → sx_vS st → sx_go sc n d cd pc lv st I J = some res → sx_W p l e R s m args below meth c cells slots Q D ad cA A nL pc lv st I J
set_option maxHeartbeats 4000000 in
set_option maxRecDepth 100000 in
theorem sx_met {l : Launch} {sc : Nat × (Nat → Int32)} {n : Nat} (IH : sx_RUN l sc n) {cd : sx_C} {mx d own : Nat} {y : MethodName} {by1 : ByteArray} {rt : Option FieldType} {bo : Bool} (hr0 : cd.all (sx_okr rt) = true) (hpl : plainName y.cls = true) (hcn : y.cls = sx_cn own) (hbo : bo = true ↔ rt = some .boolean) (hck : cd.all (sx_ck own bo false by1) = true)
    {as : List sx_V} (has : sx_vS as) (hwd : sx_wd as ≤ mx) {I I1 : sx_I} {J J1 : sx_J} {v : Option sx_V} (h : sx_go sc n d cd 0 (sx_en as mx) [] I J = some (v, I1, J1)) (D : va_G) (ad : Nat → Nat → Nat) (cA : Nat → ClassId) (sz : Nat) :
    Met l y (sx_w y by1 mx rt) (sx_rm d) (va_Pc (as.map (sx_rv ad)) (sx_P D ad cA I J sz)) (sx_Q D ad cA v I1 J1 sz) 0 0 (sx_A0 ad sz) := by
  refine Met.ofW (cc := by1) (maxL := mx) (ret := rt) hpl rfl ?_
  intro p e s m args below meth c s₁ B hml hv
  obtain ⟨rfl, hsz, hP, hK, hD0, hSt, hN⟩ := hv
  subst hsz
  have hx := B.exec
  have hb := B.bytes
  have hr := B.returns
  have hts := atoms_spec (ws := sx_w y by1 mx rt) B.pre
  have hown : s.vm.findClass (sx_cn own) = some m.cls := by rw [← hcn]; exact findClass_of_methodNamed B.named
  have hlocks := B.notSynchronized
  rw [lg_entry_eq]
  have hl := lv_entry (as.map (sx_rv ad)) (n := mx) (by rw [sx_sl_len]; exact hwd)
  generalize ((lg_sl (as.map (sx_rv ad)) ++ List.replicate (mx - (lg_sl (as.map (sx_rv ad))).length) Slot.unset).toArray) = ls at hl ⊢
  have G : sx_G p (headSpec (sx_w y by1 mx rt) (sx_rm d)).room s m (as.map (sx_rv ad)).toArray c D ad cA (sx_A0 ad s.heap.size) own by1 mx d false sc 0 0 :=
    ⟨hx, hb, hml, hown, fun w hw => hts w (List.mem_cons_of_mem _ hw), hK, fun I2 J2 => sx_Dany hD0 (fun z hz => Or.inl ⟨z, hz, rfl⟩), fun q hq => Or.inr hq, hSt, hN, ⟨Nat.le_refl _, Nat.le_refl _⟩, ⟨Nat.le_refl _, Nat.le_refl _⟩, fun q => by cases q⟩
  refine IH d own cd by1 bo false p e _ s m _ below meth c 0 0 _ D ad cA (sx_A0 ad s.heap.size) mx (v, I1, J1) G hck ?_ 0 (sx_en as mx) [] I J (sx_en_len hwd) ?_ (fun w hw => by cases hw) h s.heap [] ls hP va_S.rf ?_
  · intro pc nx r lv v2 I2 J2 hm he hrt H locs ls hP1 hS1 hls
    obtain ⟨rfl, rfl, rfl⟩ : v = v2 ∧ I1 = I2 ∧ J1 = J2 := by
      injection he with h1 h2; injection h2 with h2 h3; exact ⟨h1, h2, h3⟩
    obtain ⟨k1, k2, k3, k4⟩ := sx_okr_spec hr0 hm
    rcases v with _ | x | x | x
    · obtain ⟨hd, hrr⟩ := hrt
      exact W.vret hx hb (hr.trans (k1 hrr)) (fun t ht hW => ⟨⟨(), rfl, trivial, by unfold sx_B; rw [ht]; exact hP1⟩, hS1.F ht⟩) hS1.2.2 hd
    · obtain ⟨hd, hb01, hrr⟩ := hrt
      cases bo with
      | true =>
        exact W.zret hx hb (hr.trans (k3 hrr)) (by rcases hb01 rfl with rfl | rfl <;> rfl) (fun t ht hW => ⟨⟨x, (), rfl, rfl, by unfold sx_B; rw [ht]; exact hP1⟩, hS1.F ht⟩) hS1.2.2 hd
      | false =>
        exact W.iret hx hb (hr.trans (k2 hrr)) (fun t ht hW => ⟨⟨x, (), rfl, rfl, by unfold sx_B; rw [ht]; exact hP1⟩, hS1.F ht⟩) hS1.2.2 hd
    · obtain ⟨hd, hrr⟩ := hrt
      exact W.lret hx hb (hr.trans (k4 hrr)) (fun t ht hW => ⟨⟨x, (), rfl, rfl, by unfold sx_B; rw [ht]; exact hP1⟩, hS1.F ht⟩) hS1.2.2 hd
    · exact hrt.elim
  · intro i w hw
    exact has w (sx_en_get ad as 0 _ i w hw).1
  · refine sx_lsub hl ?_
    rintro ⟨i, w⟩ hq
    obtain ⟨z, hz, rfl⟩ := sx_as_mem.mp hq
    have := (sx_en_get ad as 0 _ i z hz).2
    rwa [Nat.zero_add] at this
theorem sx_blind {av : List Value} {D : va_G} {ad : Nat → Nat → Nat} {cA : Nat → ClassId} {I : sx_I} {J : sx_J} {sz : Nat} : FrameBlind (va_Pc av (sx_P D ad cA I J sz)) := by
  intro a U g mk h
  obtain ⟨h0, h1, hP, hK, hD, hSt, hN⟩ := h
  exact ⟨h0, h1, hP, va_K.moved (u := U) (U := U.calling g mk a) (Vm.Alike.refl U.vm) hK, hD, fun t ht => ⟨va_Z.moved (u := U) (U := U.calling g mk a) (Vm.Alike.refl U.vm) (hSt t ht).1, va_T.moved (u := U) (U := U.calling g mk a) (Vm.Alike.refl U.vm) (hSt t ht).2⟩, ⟨va_Nw.same (u := U) (U := U.calling g mk a) rfl rfl hN.1, va_Nw.same (u := U) (U := U.calling g mk a) rfl rfl hN.2⟩⟩
section SXC
variable {p : Program} {l : Launch} {e : Env} {R : Room} {s : State} {m : MethodId} {args : Array Value} {below : List Frame} {meth : Method} {c : Code} {cells slots : Nat} {Q : State → Prop} {D : va_G} {ad : Nat → Nat → Nat} {cA : Nat → ClassId} {A : Nat → Prop} {nL : Nat}
/-- behind a call -/
theorem sx_back {H : Heap} {locs : List Loc} {ls : Array Slot} {pc : Nat} {lv : sx_L} {st0 : List Value} {u : List sx_V} {v : Option sx_V} {I1 : sx_I} {J1 : sx_J} {a : Array Value} (hD : ∀ I J, va_D A (sx_ws ad cA I J)) (hA : ∀ q, s.heap.size ≤ q → A q) (hS : va_S A s.heap H locs) (hls : lv_has ls nL (sx_as ad lv))
    (hrun : va_Run p l e R s m args below meth c H locs cells slots 0 0 (F0 m pc ls st0) (u.map (sx_rv ad)) (sx_Q D ad cA v I1 J1 H.size a) (sx_A0 ad H.size))
    (hk : sx_nr v = true → sx_W p l e R s m args below meth c cells slots Q D ad cA A nL (pc + 3) lv (v.toList ++ u) I1 J1) : W p l e R s m args below meth c H locs cells slots Q (F0 m pc ls st0) := by
  have hf : ∀ q, sx_A0 ad H.size q → A q := by
    intro q hq
    rcases hq with ⟨z, hz, rfl⟩ | hq
    · exact sx_Din (hD (fun _ _ _ => 0) (fun _ _ _ => 0)) hz
    · exact hA q (Nat.le_trans hS.1 hq)
  rcases v with _ | x | x | x
  · exact va_callv (a := a) hrun hS (fun q _ hq => hf q hq) hf (fun _ t H1 locs1 ht _ _ hB _ _ hS1 => hk rfl H1 locs1 ls (by unfold sx_B at hB; rw [← ht]; exact hB) hS1 hls)
  · refine va_calli (a := a) hrun hS (fun q _ hq => hf q hq) hf (fun r _ t H1 locs1 ht _ hr hB _ _ hS1 => ?_)
    subst hr
    exact hk rfl H1 locs1 ls (by unfold sx_B at hB; rw [← ht]; exact hB) hS1 hls
  · refine va_calll (a := a) hrun hS (fun q _ hq => hf q hq) hf (fun r _ t H1 locs1 ht _ hr hB _ _ hS1 => ?_)
    subst hr
    exact hk rfl H1 locs1 ls (by unfold sx_B at hB; rw [← ht]; exact hB) hS1 hls
  · intro T hT X
    obtain ⟨_, _, _, _, _, _, _, _, _, _, hq, _⟩ := hrun T hT X
    exact hq.elim
theorem sx_pre {H : Heap} {locs : List Loc} {I : sx_I} {J : sx_J} {as : List sx_V} (hD : ∀ I J, va_D A (sx_ws ad cA I J)) (hA : ∀ q, s.heap.size ≤ q → A q) (hK : va_K D vwCl (sx_ty cA) s) (hSt : sx_S ad A s s.heap) (hN : sx_N s) (hS : va_S A s.heap H locs) (hP : va_P D vwCl (sx_ws ad cA I J) H) : ∀ U : State, U.heap = H → s.WarmedH U.vm → va_Pc (as.map (sx_rv ad)) (sx_P D ad cA I J H.size) (as.map (sx_rv ad)).toArray U := by
  intro U hU hW
  have hf : ∀ q, sx_A0 ad H.size q → A q := by
    intro q hq
    rcases hq with ⟨z, hz, rfl⟩ | hq
    · exact sx_Din (hD (fun _ _ _ => 0) (fun _ _ _ => 0)) hz
    · exact hA q (Nat.le_trans hS.1 hq)
  exact ⟨rfl, by rw [hU], by rw [hU]; exact hP, va_K.moved hW.alike hK, (hD I J).weaken (fun _ _ _ _ => trivial), hSt.to hS hW hU hf, ⟨va_Nw.warmM hW hN.1, va_Nw.warmM hW hN.2⟩⟩
theorem sx_catsum (ad : Nat → Nat → Nat) {u : List sx_V} (h : sx_cs u ≤ 8) : ((u.map (sx_rv ad)).map fun v => v.category).sum ≤ 8 := by
  rw [List.map_map]
  have : List.map ((fun v => Value.category v) ∘ sx_rv ad) u = u.map sx_cat := List.map_congr_left (fun v _ => sx_rv_cat ad v)
  rw [this]; exact h
end SXC
set_option maxHeartbeats 4000000 in
set_option maxRecDepth 100000 in
theorem sx_run (hC : ∀ i : Nat, sx_okc i = true) (l : Launch) (sc : Nat × (Nat → Int32)) : ∀ n : Nat, sx_RUN l sc n := by
  intro n
  induction n with
  | zero => intro d own cd cc bo lw p e R s m args below meth c cells slots Q D ad cA A nL res G hck hret pc lv st I J hl hlv hst h; cases h
  | succ n IH =>
    intro d own cd cc bo lw p e R s m args below meth c cells slots Q D ad cA A nL res G hck hret pc lv st I J hl hlv hst h
    unfold sx_go at h
    split at h
    · cases h
    · next en hfind =>
      obtain ⟨pc0, r, nx⟩ := en
      have hmem := List.mem_of_find?_eq_some hfind
      have hpc : pc0 = pc := by
        have := List.find?_some hfind
        exact beq_iff_eq.mp this
      subst hpc
      have hck1 := List.all_eq_true.mp hck _ hmem
      refine sx_step (bo := bo) (d := d) G hck1 hl hlv hst (fun pc lv st I J h1 h2 h3 h4 => IH d own cd cc bo lw p e R s m args below meth c cells slots Q D ad cA A nL res G hck hret pc lv st I J h1 h2 h3 h4) (fun v I2 J2 he hrt => hret pc0 nx r lv v I2 J2 hmem he hrt) ?_ ?_ h
      · intro idx q f hq hd hcal hcont
        obtain ⟨hx, hb, hml, hown, hts, hK, hD, hA, hSt, hN, hRm, hcl, hsc⟩ := G
        cases d with
        | zero => cases hcal
        | succ d1 =>
          have hcal : sx_cl sx_mt (fun cd1 lv1 I J => sx_go sc n d1 cd1 0 lv1 [] I J) q.2.2.1 true st I J f = some res := hcal
          unfold sx_cl at hcal
          split at hcal
          · cases hcal
          · next cd1 mx np kd hmt =>
            rw [if_pos rfl] at hcal
            split at hcal
            · next kr i u hdrop =>
              split at hcal
              · next hcond =>
                obtain ⟨rfl, hnp, hcs8, hwd⟩ := hcond
                split at hcal
                · next v I1 J1 hgo =>
                  obtain ⟨y, by1, rt, own1, bo1, hy, w1, w2, w3, w4, w5, w6, w7, w8, w9, w10, w11, w12⟩ := sx_okw_spec hmt
                  have hstk : st = st.take np ++ (.inr (.inr (kr, i)) :: u) := by rw [← hdrop]; exact (List.take_append_drop np st).symm
                  have hvr : sx_vl (.inr (.inr (kr, i))) := hst _ (by rw [hstk]; exact List.mem_append_right _ List.mem_cons_self)
                  have hkr : kr ≠ 99 := by
                    rintro rfl
                    have h0 : i < sx_eC 99 := hvr
                    exact absurd h0 (Nat.not_lt_zero i)
                  obtain ⟨rfl, w13, w14, w15⟩ := w11 hkr
                  have has : sx_vS (.inr (.inr (kr, i)) :: (st.take np).reverse) := by
                    intro w hw
                    rcases List.mem_cons.mp hw with rfl | hw
                    · exact hvr
                    · exact hst w (List.mem_of_mem_take (List.mem_reverse.mp hw))
                  have hwd2 : sx_wd (.inr (.inr (kr, i)) :: (st.take np).reverse) ≤ mx := by
                    have e1 : sx_wd (.inr (.inr (kr, i)) :: (st.take np).reverse) = 1 + sx_wd (st.take np) := by
                      rw [sx_wd, sx_wd, List.map_cons, List.sum_cons, List.map_reverse, List.sum_reverse]; rfl
                    omega
                  intro H locs ls hP hS hls
                  have hM := sx_met IH w1 w3 w4 w9 (w12 (hC _)) has hwd2 hgo D ad cA H.size
                  obtain ⟨h1, h2, h3⟩ := sx_fd_spec hq
                  have hlink := sx_inb (List.all_eq_true.mp sx_ok_m q h1) rfl
                  rw [h2, h3, hy] at hlink
                  obtain ⟨q0, hq0⟩ := sx_at (sx_idm (sx_lt_ks w13) hvr)
                  have he := (sx_wat ad cA I J hq0).trans (congrArg (fun z => some (ad kr i, z)) (sx_c2O w13))
                  have hrec := va_recv hK hP (sx_vwc kr w13) he
                  refine sx_back (a := (Value.ref (ad kr i) :: (st.take np).reverse.map (sx_rv ad)).toArray) hD hA hS hls (va_runV (C := y.cls) (As := (st.take np).reverse.map (sx_rv ad)) (rest := u.map (sx_rv ad)) (b := ad kr i) ⟨hx, hb, hml, hown, hts⟩ hM (cwV np hts (sx_gd ?_) rfl rfl rfl ⟨rfl, w5.1, w5.2, w6⟩ ⟨?_, ?_⟩) ⟨sx_blind, by rw [w4]; exact hrec, sx_pre (as := .inr (.inr (kr, i)) :: (st.take np).reverse) hD hA hK hSt hN hS hP⟩ rfl ?_ hls.1 ?_ (lv_room (sx_catsum ad hcs8)) hd ⟨hcl.1, hcl.2⟩) (fun hnr => hcont v u I1 J1 (sx_nr_vl hnr (fun w hw => hst w (by rw [hstk]; exact List.mem_append_right _ (List.mem_cons_of_mem _ hw)))) hcal)
                  · intro w hw
                    unfold wsV at hw
                    rcases List.mem_append.mp hw with hw | hw
                    · simp only [List.mem_cons, List.not_mem_nil, or_false] at hw
                      rcases hw with rfl | rfl | rfl | rfl
                      · exact hlink
                      · exact w14
                      · exact w15
                      · exact w7
                    · rcases List.mem_cons.mp hw with rfl | hw
                      · exact w2
                      · exact hw
                  · have := hRm.1; show d1 + 1 + 1 ≤ _; omega
                  · have := hRm.2; show 8 + (mx + 11) + (40 * d1 + 400) ≤ _; omega
                  · rw [List.length_map, List.length_reverse]; exact hnp
                  · show st.map (sx_rv ad) = ((st.take np).reverse.map (sx_rv ad)).reverse ++ Value.ref (ad kr i) :: u.map (sx_rv ad)
                    rw [← List.map_reverse, List.reverse_reverse]
                    conv => lhs; rw [hstk]
                    rw [List.map_append]
                    rfl
                · cases hcal
              · cases hcal
            · cases hcal
      · intro idx q f hq hd hcal hcont
        obtain ⟨hx, hb, hml, hown, hts, hK, hD, hA, hSt, hN, hRm, hcl, hsc⟩ := G
        cases d with
        | zero => cases hcal
        | succ d1 =>
          have hcal : sx_cl sx_mt (fun cd1 lv1 I J => sx_go sc n d1 cd1 0 lv1 [] I J) q.2.2.1 false st I J f = some res := hcal
          unfold sx_cl at hcal
          split at hcal
          · cases hcal
          · next cd1 mx np kd hmt =>
            rw [if_neg (by decide)] at hcal
            split at hcal
            · next hcond =>
              obtain ⟨rfl, hnp, hcs8, hwd⟩ := hcond
              split at hcal
              · next v I1 J1 hgo =>
                obtain ⟨y, by1, rt, own1, bo1, hy, w1, w2, w3, w4, w5, w6, w7, w8, w9, w10, w11, w12⟩ := sx_okw_spec hmt
                have w13 := w10 rfl
                have has : sx_vS (st.take np).reverse := fun w hw => hst w (List.mem_of_mem_take (List.mem_reverse.mp hw))
                have hwd2 : sx_wd (st.take np).reverse ≤ mx := by
                  have e1 : sx_wd (st.take np).reverse = sx_wd (st.take np) := by
                    rw [sx_wd, sx_wd, List.map_reverse, List.sum_reverse]
                  omega
                intro H locs ls hP hS hls
                have hM := sx_met IH w1 w3 w4 w9 (w12 (hC _)) has hwd2 hgo D ad cA H.size
                have hroom : (sx_rm d1).frames + 1 ≤ R.frames ∧ 8 + (mx + 11) + (sx_rm d1).locals ≤ R.locals := by
                  refine ⟨?_, ?_⟩
                  · have := hRm.1; show d1 + 1 + 1 ≤ _; omega
                  · have := hRm.2; show 8 + (mx + 11) + (40 * d1 + 400) ≤ _; omega
                have hlen1 : ((st.take np).reverse.map (sx_rv ad)).length = np := by rw [List.length_map, List.length_reverse]; exact hnp
                have hstk1 : st.map (sx_rv ad) = ((st.take np).reverse.map (sx_rv ad)).reverse ++ (st.drop np).map (sx_rv ad) := by
                  rw [← List.map_reverse, List.reverse_reverse, ← List.map_append, List.take_append_drop]
                have hval : sx_nr v = true → sx_vS (v.toList ++ st.drop np) := fun hnr => sx_nr_vl hnr (fun w hw => hst w (List.mem_of_mem_drop hw))
                rcases hq with hq | hq
                · obtain ⟨h1, h2, h3⟩ := sx_fd_spec hq
                  have hlink := sx_inb (List.all_eq_true.mp sx_ok_m q h1) rfl
                  rw [h2, h3, hy] at hlink
                  refine sx_back (a := ((st.take np).reverse.map (sx_rv ad)).toArray) hD hA hS hls (va_runS (As := (st.take np).reverse.map (sx_rv ad)) (rest := (st.drop np).map (sx_rv ad)) ⟨hx, hb, hml, hown, hts⟩ hM (va_cwS np hts (sx_gd ?_) rfl rfl rfl ⟨w5.1, w5.2, w6⟩ hroom) ⟨sx_blind, sx_pre (as := (st.take np).reverse) hD hA hK hSt hN hS hP⟩ rfl hlen1 hls.1 hstk1 (lv_room (sx_catsum ad hcs8)) hd ⟨hcl.1, hcl.2⟩) (fun hnr => hcont v _ I1 J1 (hval hnr) hcal)
                  intro w hw
                  unfold va_wsS at hw
                  rcases List.mem_append.mp hw with hw | hw
                  · simp only [List.mem_cons, List.not_mem_nil, or_false] at hw
                    rcases hw with rfl | rfl | rfl
                    · exact hlink
                    · exact w13
                    · exact w7
                  · rcases List.mem_cons.mp hw with rfl | hw
                    · exact w2
                    · exact hw
                · obtain ⟨h1, h2, h3⟩ := sx_fd_spec hq
                  have h4 := List.all_eq_true.mp sx_ok_n q h1
                  simp only [Bool.and_eq_true, Bool.or_eq_true, decide_eq_true_eq, beq_iff_eq] at h4
                  obtain ⟨h5, h6⟩ := h4
                  have hyy : y = yX8_isOutside := by rw [← hy]; exact h5
                  have hnw : va_Nw (.methodLinkNest (sx_cn own) idx y RX8) s := by
                    rw [hyy, ← h2, ← h3]
                    rcases h6 with ⟨e1, e2⟩ | ⟨e1, e2⟩
                    · rw [e1, e2]; exact hN.1
                    · rw [e1, e2]; exact hN.2
                  refine sx_back (a := ((st.take np).reverse.map (sx_rv ad)).toArray) hD hA hS hls (va_runSN (host := RX8) (As := (st.take np).reverse.map (sx_rv ad)) (rest := (st.drop np).map (sx_rv ad)) ⟨hx, hb, hml, hown, hts⟩ hM ⟨va_cnB np hts (sx_gd ?_) rfl rfl rfl hnw (hts _ w7) ⟨w5.1, w5.2, w6⟩ hroom, hts _ w13, trivial⟩ ⟨sx_blind, sx_pre (as := (st.take np).reverse) hD hA hK hSt hN hS hP⟩ rfl hlen1 hls.1 hstk1 (lv_room (sx_catsum ad hcs8)) hd ⟨hcl.1, hcl.2⟩) (fun hnr => hcont v _ I1 J1 (hval hnr) hcal)
                  intro w hw
                  rcases List.mem_cons.mp hw with rfl | hw
                  · exact w2
                  · exact hw
              · cases hcal
            · cases hcal
