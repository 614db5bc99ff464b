/-! one instruction -/
def sx_S (ad : Nat → Nat → Nat) (A : Nat → Prop) (U : State) (H : Heap) : Prop := ∀ t : Nat, t < 3 → va_Z (sx_sn t).1 (sx_sn t).2 "[I" (.ref (ad 15 t)) A U H ∧ va_T .int (ad 15 t) 6 (fun k => .int (sx_eT t k)) A U H
def sx_N (U : State) : Prop := va_Nw (.methodLinkNest RX6 77 yX8_isOutside RX8) U ∧ va_Nw (.methodLinkNest RX7 18 yX8_isOutside RX8) U
def sx_G (p : Program) (R : Room) (s : State) (m : MethodId) (args : Array Value) (c : Code) (D : va_G) (ad : Nat → Nat → Nat) (cA : Nat → ClassId) (A : Nat → Prop) (own : Nat) (cc : ByteArray) (nL d : Nat) (lw : Bool) (sc : Nat × (Nat → Int32)) (cells slots : Nat) : Prop :=
  p.tables.exec = Jvm.exec ∧ c.code = cc ∧ c.maxLocals = nL ∧ s.vm.findClass (sx_cn own) = some m.cls ∧ (∀ w ∈ sx_big, w.before args s = true) ∧ va_K D vwCl (sx_ty cA) s ∧ (∀ I J, va_D A (sx_ws ad cA I J)) ∧ (∀ q, s.heap.size ≤ q → A q) ∧ sx_S ad A s s.heap ∧ sx_N s ∧ (d + 1 ≤ R.frames ∧ 40 * d + 400 ≤ R.locals) ∧ (cells ≤ R.cells ∧ slots ≤ R.slots) ∧ (lw = true → va_X (ad 19 0) sc.1 sc.2 s s.heap ∧ ad 19 0 < s.heap.size ∧ ¬ A (ad 19 0))
def sx_W (p : Program) (l : Launch) (e : Env) (R : Room) (s : State) (m : MethodId) (args : Array Value) (below : List Frame) (meth : Method) (c : Code) (cells slots : Nat) (Q : State → Prop) (D : va_G) (ad : Nat → Nat → Nat) (cA : Nat → ClassId) (A : Nat → Prop) (nL : Nat) (pc : Nat) (lv : sx_L) (st : List sx_V) (I : sx_I) (J : sx_J) : Prop :=
  ∀ (H : Heap) (locs : List Loc) (ls : Array Slot), va_P D vwCl (sx_ws ad cA I J) H → va_S A s.heap H locs → lv_has ls nL (sx_as ad lv) → W p l e R s m args below meth c H locs cells slots Q (F0 m pc ls (st.map (sx_rv ad)))
/-- a return stands there that gives this -/
def sx_rt (cc : ByteArray) (bo : Bool) (pc : Nat) (r : Instr) (v : Option sx_V) : Prop := match v with
  | none => decode cc pc = .ok (.return_, 1) ∧ r = .return_
  | some (.inl x) => decode cc pc = .ok (.ireturn, 1) ∧ (bo = true → x = 0 ∨ x = 1) ∧ r = (if bo then .areturn else .ireturn)
  | some (.inr (.inl _)) => decode cc pc = .ok (.lreturn, 1) ∧ r = .lreturn
  | _ => False
theorem sx_ck_spec {own pc nx : Nat} {bo lw : Bool} {cc : ByteArray} {r : Instr} (h : sx_ck own bo lw cc (pc, r, nx) = true) : ∃ (ins : Instr) (len L : Nat), decode cc pc = .ok (ins, len) ∧ sx_rs own bo lw pc ins = some (r, L) ∧ (L = 0 ∨ (len = L ∧ nx = pc + L)) := by
  unfold sx_ck at h
  split at h
  · next ins len hd =>
    split at h
    · next r1 L hr =>
      simp only [Bool.and_eq_true, decide_eq_true_eq, Bool.or_eq_true, beq_iff_eq] at h
      obtain ⟨rfl, h2⟩ := h
      exact ⟨ins, len, L, hd, hr, h2⟩
    · cases h
  · cases h
theorem sx_in_vp {x : Int32} {n : Nat} (h : sx_in x n = true) : vp_in x n := by
  unfold sx_in at h
  simp only [Bool.and_eq_true, decide_eq_true_eq] at h
  rintro (q | q)
  · exact absurd q (Int32.not_lt.mpr h.1)
  · omega
theorem sx_isI_ks {kd : Nat} (h : sx_isI kd = true) : kd ∈ sx_ks := by
  unfold sx_isI at h
  split at h <;> first | (cases h; done) | decide
theorem sx_isJ_ks {kd : Nat} (h : sx_isJ kd = true) : kd ∈ sx_ks := by
  unfold sx_isJ at h
  split at h <;> first | (cases h; done) | decide
theorem sx_lt_ks {kd : Nat} (h : kd < 10) : kd ∈ sx_ks := by
  match kd, h with
  | 0, _ => decide
  | 1, _ => decide
  | 2, _ => decide
  | 3, _ => decide
  | 4, _ => decide
  | 5, _ => decide
  | 6, _ => decide
  | 7, _ => decide
  | 8, _ => decide
  | 9, _ => decide
theorem sx_c2O {ad : Nat → Nat → Nat} {cA : Nat → ClassId} {kd i : Nat} {f : Nat → Int32} {g : Nat → Int64} (h : kd < 10) : sx_c2 ad cA kd i f g = .inr (kd, sx_fs ad f g kd i) := by rw [sx_c2, if_pos h]
theorem sx_c2I {ad : Nat → Nat → Nat} {cA : Nat → ClassId} {kd i : Nat} {f : Nat → Int32} {g : Nat → Int64} (h : sx_isI kd = true) : sx_c2 ad cA kd i f g = .inl (cA 0, sx_eN kd i, .inl f) := by
  unfold sx_isI at h
  split at h <;> first | (cases h; done) | rfl
theorem sx_c2J {ad : Nat → Nat → Nat} {cA : Nat → ClassId} {kd i : Nat} {f : Nat → Int32} {g : Nat → Int64} (h : sx_isJ kd = true) : sx_c2 ad cA kd i f g = .inl (cA 1, sx_eN kd i, .inr (.inl g)) := by
  unfold sx_isJ at h
  split at h <;> first | (cases h; done) | rfl
theorem sx_fs_at (ad : Nat → Nat → Nat) (f : Nat → Int32) (g : Nat → Int64) {kd i k t : Nat} (h : (sx_ft kd)[k]? = some t) : (sx_fs ad f g kd i)[k]? = some (sx_fv ad f g kd i k t) := by
  rw [sx_fs, List.getElem?_mapIdx, h]; rfl
theorem sx_okf_spec {e : Nat × Nat × Nat × Nat} (h : e ∈ sx_lf) : e.2.2.1 / 256 < 10 ∧ e.2.2.1 / 4 % 64 < (sx_ft (e.2.2.1 / 256)).length ∧ (sx_ft (e.2.2.1 / 256))[e.2.2.1 / 4 % 64]? = some (e.2.2.1 % 4) ∧ (sx_ct (e.2.2.1 / 256) (e.2.2.1 / 4 % 64)).1 = sx_cn (e.2.2.1 / 256) ∧ Cond.fieldLink (sx_cn e.1) e.2.1 (sx_cn (e.2.2.1 / 256)) (sx_ct (e.2.2.1 / 256) (e.2.2.1 / 4 % 64)).2.1 (sx_ct (e.2.2.1 / 256) (e.2.2.1 / 4 % 64)).2.2.1 ∈ sx_big := by
  have h1 := List.all_eq_true.mp sx_ok_f e h
  unfold sx_okf at h1
  simp only [Bool.and_eq_true, decide_eq_true_eq] at h1
  obtain ⟨⟨⟨⟨a1, a2⟩, a3⟩, a4⟩, a5⟩ := h1
  exact ⟨a1, a2, a3, a4, sx_inb a5 rfl⟩
section SXS
variable {p : Program} {l : Launch} {e : Env} {R : Room} {s : State} {m : MethodId} {args : Array Value} {below : List Frame} {meth : Method} {c : Code} {cells slots : Nat} {Q : State → Prop} {D : va_G} {ad : Nat → Nat → Nat} {cA : Nat → ClassId} {A : Nat → Prop} {nL : Nat}
set_option maxHeartbeats 8000000 in
set_option maxRecDepth 100000 in
theorem sx_step {own d : Nat} {cc : ByteArray} {bo lw : Bool} {sc : Nat × (Nat → Int32)} (G : sx_G p R s m args c D ad cA A own cc nL d lw sc cells slots)
    {cal : Nat → Bool → List sx_V → sx_I → sx_J → (Option sx_V → List sx_V → sx_I → sx_J → sx_R) → sx_R} {k : Nat → sx_L → List sx_V → sx_I → sx_J → sx_R} {res : Option sx_V × sx_I × sx_J} {pc nx : Nat} {r : Instr} {lv : sx_L} {st : List sx_V} {I : sx_I} {J : sx_J}
    (hck : sx_ck own bo lw cc (pc, r, nx) = true) (hl : lv.length = nL) (hlv : sx_vL lv) (hst : sx_vS st)
    (hk : ∀ (pc : Nat) (lv : sx_L) (st : List sx_V) (I : sx_I) (J : sx_J), lv.length = nL → sx_vL lv → sx_vS st → k pc lv st I J = some res → sx_W p l e R s m args below meth c cells slots Q D ad cA A nL pc lv st I J)
    (hret : ∀ (v : Option sx_V) (I : sx_I) (J : sx_J), res = (v, I, J) → sx_rt cc bo pc r v → sx_W p l e R s m args below meth c cells slots Q D ad cA A nL pc lv v.toList I J)
    (hcv : ∀ (idx : Nat) (q : Nat × Nat × Nat × Nat) (f : Option sx_V → List sx_V → sx_I → sx_J → sx_R), sx_fd sx_lm own idx = some q → decode cc pc = .ok (.invokevirtual idx, 3) → cal q.2.2.1 true st I J f = some res → (∀ (v : Option sx_V) (u : List sx_V) (I1 : sx_I) (J1 : sx_J), sx_vS (v.toList ++ u) → f v u I1 J1 = some res → sx_W p l e R s m args below meth c cells slots Q D ad cA A nL (pc + 3) lv (v.toList ++ u) I1 J1) → sx_W p l e R s m args below meth c cells slots Q D ad cA A nL pc lv st I J)
    (hcs : ∀ (idx : Nat) (q : Nat × Nat × Nat × Nat) (f : Option sx_V → List sx_V → sx_I → sx_J → sx_R), (sx_fd sx_lm own idx = some q ∨ sx_fd sx_ln own idx = some q) → decode cc pc = .ok (.invokestatic idx, 3) → cal q.2.2.1 false st I J f = some res → (∀ (v : Option sx_V) (u : List sx_V) (I1 : sx_I) (J1 : sx_J), sx_vS (v.toList ++ u) → f v u I1 J1 = some res → sx_W p l e R s m args below meth c cells slots Q D ad cA A nL (pc + 3) lv (v.toList ++ u) I1 J1) → sx_W p l e R s m args below meth c cells slots Q D ad cA A nL pc lv st I J)
    (h : sx_K2 sc cal k pc r nx lv st I J = some res) : sx_W p l e R s m args below meth c cells slots Q D ad cA A nL pc lv st I J := by
  obtain ⟨ins, len, L, hd, hr, hL⟩ := sx_ck_spec hck
  obtain ⟨hx, hb, hml, hown, hts, hK, hD, hA, hSt, hN, hRm, hcl, hsc⟩ := G
  have hlen : ∀ {a b : Nat}, (a + 1 = 0 ∨ (len = a + 1 ∧ nx = b)) → len = a + 1 ∧ nx = b := fun q => q.elim (fun z => by omega) id
  cases ins
  case iload_n j =>
    injection hr with hr; injection hr with hr1 hr2; subst hr1; subst hr2
    obtain ⟨rfl, rfl⟩ := hlen hL
    have h : (match (generalizing := false) sx_get lv j.val with | some (.inl x) => k (pc + 1) lv (.inl x :: st) I J | _ => none) = some res := h
    split at h
    · next x hv =>
      intro H locs ls hP hS hls
      exact lv_iload_n hx hb hd rfl (sx_lat hls hv) (hk _ _ _ _ _ hl hlv (hst.co (v := .inl x) trivial) h H locs ls hP hS hls)
    · cases h
  case iload j =>
    injection hr with hr; injection hr with hr1 hr2; subst hr1; subst hr2
    obtain ⟨rfl, rfl⟩ := hlen hL
    have h : (match (generalizing := false) sx_get lv j with | some (.inl x) => k (pc + 2) lv (.inl x :: st) I J | _ => none) = some res := h
    split at h
    · next x hv =>
      intro H locs ls hP hS hls
      exact lv_iload hx hb hd (sx_lat hls hv) (hk _ _ _ _ _ hl hlv (hst.co (v := .inl x) trivial) h H locs ls hP hS hls)
    · cases h
  case lload_n j =>
    injection hr with hr; injection hr with hr1 hr2; subst hr1; subst hr2
    obtain ⟨rfl, rfl⟩ := hlen hL
    have h : (match (generalizing := false) sx_get lv j.val with | some (.inr (.inl x)) => k (pc + 1) lv (.inr (.inl x) :: st) I J | _ => none) = some res := h
    split at h
    · next x hv =>
      intro H locs ls hP hS hls
      exact lv_lload_n hx hb hd rfl (sx_lat hls hv) (hk _ _ _ _ _ hl hlv (hst.co (v := .inr (.inl x)) trivial) h H locs ls hP hS hls)
    · cases h
  case lload j =>
    injection hr with hr; injection hr with hr1 hr2; subst hr1; subst hr2
    obtain ⟨rfl, rfl⟩ := hlen hL
    have h : (match (generalizing := false) sx_get lv j with | some (.inr (.inl x)) => k (pc + 2) lv (.inr (.inl x) :: st) I J | _ => none) = some res := h
    split at h
    · next x hv =>
      intro H locs ls hP hS hls
      exact lv_lload hx hb hd (sx_lat hls hv) (hk _ _ _ _ _ hl hlv (hst.co (v := .inr (.inl x)) trivial) h H locs ls hP hS hls)
    · cases h
  case aload_n j =>
    injection hr with hr; injection hr with hr1 hr2; subst hr1; subst hr2
    obtain ⟨rfl, rfl⟩ := hlen hL
    have h : (match (generalizing := false) sx_get lv j.val with | some (.inr (.inr x)) => k (pc + 1) lv (.inr (.inr x) :: st) I J | _ => none) = some res := h
    split at h
    · next x hv =>
      intro H locs ls hP hS hls
      exact lv_aload_n hx hb hd rfl (sx_lat hls hv) (hk _ _ _ _ _ hl hlv (hst.co (hlv _ _ hv)) h H locs ls hP hS hls)
    · cases h
  case aload j =>
    injection hr with hr; injection hr with hr1 hr2; subst hr1; subst hr2
    obtain ⟨rfl, rfl⟩ := hlen hL
    have h : (match (generalizing := false) sx_get lv j with | some (.inr (.inr x)) => k (pc + 2) lv (.inr (.inr x) :: st) I J | _ => none) = some res := h
    split at h
    · next x hv =>
      intro H locs ls hP hS hls
      exact lv_aload hx hb hd (sx_lat hls hv) (hk _ _ _ _ _ hl hlv (hst.co (hlv _ _ hv)) h H locs ls hP hS hls)
    · cases h
  case istore_n j =>
    injection hr with hr; injection hr with hr1 hr2; subst hr1; subst hr2
    obtain ⟨rfl, rfl⟩ := hlen hL
    have h : (match (generalizing := false) st with | .inl x :: u => if j.val < lv.length then k (pc + 1) (sx_st1 lv j.val (.inl x)) u I J else none | _ => none) = some res := h
    split at h
    · next x u hq9 =>
      skip
      split at h
      · next hi =>
        intro H locs ls hP hS hls
        exact lv_istore_n hx hb hd rfl hls (by rw [← hl]; exact hi) rfl (fun ls1 hl1 => hk _ _ _ _ _ ((sx_st1_len _ _ _).trans hl) (hlv.st1 (v := .inl x) trivial) hst.tl h H locs ls1 hP hS (sx_has1 (v := .inl x) hl1))
      · cases h
    · cases h
  case istore j =>
    injection hr with hr; injection hr with hr1 hr2; subst hr1; subst hr2
    obtain ⟨rfl, rfl⟩ := hlen hL
    have h : (match (generalizing := false) st with | .inl x :: u => if j < lv.length then k (pc + 2) (sx_st1 lv j (.inl x)) u I J else none | _ => none) = some res := h
    split at h
    · next x u hq9 =>
      skip
      split at h
      · next hi =>
        intro H locs ls hP hS hls
        exact lv_istore hx hb hd hls (by rw [← hl]; exact hi) rfl (fun ls1 hl1 => hk _ _ _ _ _ ((sx_st1_len _ _ _).trans hl) (hlv.st1 (v := .inl x) trivial) hst.tl h H locs ls1 hP hS (sx_has1 (v := .inl x) hl1))
      · cases h
    · cases h
  case lstore_n j =>
    injection hr with hr; injection hr with hr1 hr2; subst hr1; subst hr2
    obtain ⟨rfl, rfl⟩ := hlen hL
    have h : (match (generalizing := false) st with | .inr (.inl x) :: u => if j.val + 1 < lv.length then k (pc + 1) (sx_st2 lv j.val (.inr (.inl x))) u I J else none | _ => none) = some res := h
    split at h
    · next x u hq9 =>
      skip
      split at h
      · next hi =>
        intro H locs ls hP hS hls
        exact lv_lstore_n hx hb hd rfl hls (by rw [← hl]; exact hi) rfl (fun ls1 hl1 => hk _ _ _ _ _ ((sx_st2_len _ _ _).trans hl) (hlv.st2 (v := .inr (.inl x)) trivial) hst.tl h H locs ls1 hP hS (sx_has2 (v := .inr (.inl x)) hl1))
      · cases h
    · cases h
  case lstore j =>
    injection hr with hr; injection hr with hr1 hr2; subst hr1; subst hr2
    obtain ⟨rfl, rfl⟩ := hlen hL
    have h : (match (generalizing := false) st with | .inr (.inl x) :: u => if j + 1 < lv.length then k (pc + 2) (sx_st2 lv j (.inr (.inl x))) u I J else none | _ => none) = some res := h
    split at h
    · next x u hq9 =>
      skip
      split at h
      · next hi =>
        intro H locs ls hP hS hls
        exact lv_lstore hx hb hd hls (by rw [← hl]; exact hi) rfl (fun ls1 hl1 => hk _ _ _ _ _ ((sx_st2_len _ _ _).trans hl) (hlv.st2 (v := .inr (.inl x)) trivial) hst.tl h H locs ls1 hP hS (sx_has2 (v := .inr (.inl x)) hl1))
      · cases h
    · cases h
  case astore_n j =>
    injection hr with hr; injection hr with hr1 hr2; subst hr1; subst hr2
    obtain ⟨rfl, rfl⟩ := hlen hL
    have h : (match (generalizing := false) st with | .inr (.inr x) :: u => if j.val < lv.length then k (pc + 1) (sx_st1 lv j.val (.inr (.inr x))) u I J else none | _ => none) = some res := h
    split at h
    · next x u hq9 =>
      skip
      split at h
      · next hi =>
        intro H locs ls hP hS hls
        exact lv_astore_n hx hb hd rfl hls (by rw [← hl]; exact hi) rfl (fun ls1 hl1 => hk _ _ _ _ _ ((sx_st1_len _ _ _).trans hl) (hlv.st1 hst.hd) hst.tl h H locs ls1 hP hS (sx_has1 (v := .inr (.inr x)) hl1))
      · cases h
    · cases h
  case astore j =>
    injection hr with hr; injection hr with hr1 hr2; subst hr1; subst hr2
    obtain ⟨rfl, rfl⟩ := hlen hL
    have h : (match (generalizing := false) st with | .inr (.inr x) :: u => if j < lv.length then k (pc + 2) (sx_st1 lv j (.inr (.inr x))) u I J else none | _ => none) = some res := h
    split at h
    · next x u hq9 =>
      skip
      split at h
      · next hi =>
        intro H locs ls hP hS hls
        exact lv_astore hx hb hd hls (by rw [← hl]; exact hi) rfl (fun ls1 hl1 => hk _ _ _ _ _ ((sx_st1_len _ _ _).trans hl) (hlv.st1 hst.hd) hst.tl h H locs ls1 hP hS (sx_has1 (v := .inr (.inr x)) hl1))
      · cases h
    · cases h
  case iinc j n =>
    injection hr with hr; injection hr with hr1 hr2; subst hr1; subst hr2
    obtain ⟨rfl, rfl⟩ := hlen hL
    have h : (match (generalizing := false) sx_get lv j with | some (.inl x) => k (pc + 3) (sx_st1 lv j (.inl (x + Int32.ofInt n))) st I J | _ => none) = some res := h
    split at h
    · next x hv =>
      intro H locs ls hP hS hls
      obtain ⟨q, hq⟩ := List.getElem?_of_mem (sx_as_mem (ad := ad).mpr ⟨_, hv, rfl⟩)
      exact lv_iinc hx hb hd hls hq rfl (by rw [← hl]; exact sx_get_lt hv) rfl (fun ls1 hl1 => hk _ _ _ _ _ ((sx_st1_len _ _ _).trans hl) (hlv.st1 (v := .inl (x + Int32.ofInt n)) trivial) hst h H locs ls1 hP hS (sx_has1 (v := .inl (x + Int32.ofInt n)) hl1))
    · cases h
  case iconst n =>
    injection hr with hr; injection hr with hr1 hr2; subst hr1; subst hr2
    obtain ⟨rfl, rfl⟩ := hlen hL
    intro H locs ls hP hS hls
    exact lv_iconst hx hb hd rfl (hk _ _ _ _ _ hl hlv (hst.co (v := .inl (Int32.ofInt n)) trivial) h H locs ls hP hS hls)
  case bipush n =>
    simp only [sx_rs] at hr
    split at hr
    · next hn =>
      injection hr with hr; injection hr with hr1 hr2; subst hr1; subst hr2
      obtain ⟨rfl, rfl⟩ := hlen hL
      intro H locs ls hP hS hls
      exact lv_bipush hx hb hd hn (hk _ _ _ _ _ hl hlv (hst.co (v := .inl (Int32.ofInt n)) trivial) h H locs ls hP hS hls)
    · cases hr
  case sipush n =>
    simp only [sx_rs] at hr
    split at hr
    · next hn =>
      injection hr with hr; injection hr with hr1 hr2; subst hr1; subst hr2
      obtain ⟨rfl, rfl⟩ := hlen hL
      intro H locs ls hP hS hls
      exact lv_sipush hx hb hd hn (hk _ _ _ _ _ hl hlv (hst.co (v := .inl (Int32.ofInt n)) trivial) h H locs ls hP hS hls)
    · cases hr
  case lconst n =>
    injection hr with hr; injection hr with hr1 hr2; subst hr1; subst hr2
    obtain ⟨rfl, rfl⟩ := hlen hL
    intro H locs ls hP hS hls
    refine lv_lconst hx hb hd ?_ (hk _ _ _ _ _ hl hlv (hst.co (v := .inr (.inl (Int64.ofInt (n.val : Int)))) trivial) h H locs ls hP hS hls)
    exact (Int64.ofInt_eq_ofNat).symm
  case ldc j =>
    simp only [sx_rs] at hr
    split at hr
    · next q hq =>
      injection hr with hr; injection hr with hr1 hr2; subst hr1; subst hr2
      obtain ⟨rfl, rfl⟩ := hlen hL
      obtain ⟨h1, h2, h3⟩ := sx_fd_spec hq
      have h4 := List.all_eq_true.mp sx_ok_i q h1
      rw [h2, h3] at h4
      intro H locs ls hP hS hls
      exact lv_ldc hx hb hown (hts _ (sx_inb h4 rfl)) hd (hk _ _ _ _ _ hl hlv (hst.co (v := .inl (Int32.ofInt q.2.2.1)) trivial) h H locs ls hP hS hls)
    · cases hr
  case ldc_w j =>
    simp only [sx_rs] at hr
    split at hr
    · next q hq =>
      injection hr with hr; injection hr with hr1 hr2; subst hr1; subst hr2
      obtain ⟨rfl, rfl⟩ := hlen hL
      obtain ⟨h1, h2, h3⟩ := sx_fd_spec hq
      have h4 := List.all_eq_true.mp sx_ok_i q h1
      rw [h2, h3] at h4
      intro H locs ls hP hS hls
      exact lv_ldcw hx hb hown (hts _ (sx_inb h4 rfl)) hd (hk _ _ _ _ _ hl hlv (hst.co (v := .inl (Int32.ofInt q.2.2.1)) trivial) h H locs ls hP hS hls)
    · cases hr
  case ldc2_w j =>
    simp only [sx_rs] at hr
    split at hr
    · next q hq =>
      injection hr with hr; injection hr with hr1 hr2; subst hr1; subst hr2
      obtain ⟨rfl, rfl⟩ := hlen hL
      obtain ⟨h1, h2, h3⟩ := sx_fd_spec hq
      have h4 := List.all_eq_true.mp sx_ok_j q h1
      rw [h2, h3] at h4
      intro H locs ls hP hS hls
      exact lv_ldc2 hx hb hown (hts _ (sx_inb h4 rfl)) hd (hk _ _ _ _ _ hl hlv (hst.co (v := .inr (.inl (Int64.ofInt q.2.2.1))) trivial) h H locs ls hP hS hls)
    · cases hr
  case iadd =>
    injection hr with hr; injection hr with hr1 hr2; subst hr1; subst hr2
    obtain ⟨rfl, rfl⟩ := hlen hL
    have h : sx_b st (fun x y => x + y) (fun u => k (pc + 1) lv u I J) = some res := h
    unfold sx_b at h
    split at h
    · next y x u hq9 =>
      skip
      intro H locs ls hP hS hls
      exact lv_iadd hx hb hd (hk _ _ _ _ _ hl hlv (hst.tl.tl.co (v := .inl _) trivial) h H locs ls hP hS hls)
    · cases h
  case isub =>
    injection hr with hr; injection hr with hr1 hr2; subst hr1; subst hr2
    obtain ⟨rfl, rfl⟩ := hlen hL
    have h : sx_b st (fun x y => x - y) (fun u => k (pc + 1) lv u I J) = some res := h
    unfold sx_b at h
    split at h
    · next y x u hq9 =>
      skip
      intro H locs ls hP hS hls
      exact lv_isub hx hb hd (hk _ _ _ _ _ hl hlv (hst.tl.tl.co (v := .inl _) trivial) h H locs ls hP hS hls)
    · cases h
  case imul =>
    injection hr with hr; injection hr with hr1 hr2; subst hr1; subst hr2
    obtain ⟨rfl, rfl⟩ := hlen hL
    have h : sx_b st (fun x y => x * y) (fun u => k (pc + 1) lv u I J) = some res := h
    unfold sx_b at h
    split at h
    · next y x u hq9 =>
      skip
      intro H locs ls hP hS hls
      exact lv_imul hx hb hd (hk _ _ _ _ _ hl hlv (hst.tl.tl.co (v := .inl _) trivial) h H locs ls hP hS hls)
    · cases h
  case iand =>
    injection hr with hr; injection hr with hr1 hr2; subst hr1; subst hr2
    obtain ⟨rfl, rfl⟩ := hlen hL
    have h : sx_b st (fun x y => x &&& y) (fun u => k (pc + 1) lv u I J) = some res := h
    unfold sx_b at h
    split at h
    · next y x u hq9 =>
      skip
      intro H locs ls hP hS hls
      exact lv_iand hx hb hd (hk _ _ _ _ _ hl hlv (hst.tl.tl.co (v := .inl _) trivial) h H locs ls hP hS hls)
    · cases h
  case ior =>
    injection hr with hr; injection hr with hr1 hr2; subst hr1; subst hr2
    obtain ⟨rfl, rfl⟩ := hlen hL
    have h : sx_b st (fun x y => x ||| y) (fun u => k (pc + 1) lv u I J) = some res := h
    unfold sx_b at h
    split at h
    · next y x u hq9 =>
      skip
      intro H locs ls hP hS hls
      exact lv_ior hx hb hd (hk _ _ _ _ _ hl hlv (hst.tl.tl.co (v := .inl _) trivial) h H locs ls hP hS hls)
    · cases h
  case ixor =>
    injection hr with hr; injection hr with hr1 hr2; subst hr1; subst hr2
    obtain ⟨rfl, rfl⟩ := hlen hL
    have h : sx_b st (fun x y => x ^^^ y) (fun u => k (pc + 1) lv u I J) = some res := h
    unfold sx_b at h
    split at h
    · next y x u hq9 =>
      skip
      intro H locs ls hP hS hls
      exact lv_ixor hx hb hd (hk _ _ _ _ _ hl hlv (hst.tl.tl.co (v := .inl _) trivial) h H locs ls hP hS hls)
    · cases h
  case ishl =>
    injection hr with hr; injection hr with hr1 hr2; subst hr1; subst hr2
    obtain ⟨rfl, rfl⟩ := hlen hL
    have h : sx_b st (fun x y => x <<< (y &&& 31)) (fun u => k (pc + 1) lv u I J) = some res := h
    unfold sx_b at h
    split at h
    · next y x u hq9 =>
      skip
      intro H locs ls hP hS hls
      exact lv_ishl hx hb hd (hk _ _ _ _ _ hl hlv (hst.tl.tl.co (v := .inl _) trivial) h H locs ls hP hS hls)
    · cases h
  case ishr =>
    injection hr with hr; injection hr with hr1 hr2; subst hr1; subst hr2
    obtain ⟨rfl, rfl⟩ := hlen hL
    have h : sx_b st (fun x y => x >>> (y &&& 31)) (fun u => k (pc + 1) lv u I J) = some res := h
    unfold sx_b at h
    split at h
    · next y x u hq9 =>
      skip
      intro H locs ls hP hS hls
      exact lv_ishr hx hb hd (hk _ _ _ _ _ hl hlv (hst.tl.tl.co (v := .inl _) trivial) h H locs ls hP hS hls)
    · cases h
  case iushr =>
    injection hr with hr; injection hr with hr1 hr2; subst hr1; subst hr2
    obtain ⟨rfl, rfl⟩ := hlen hL
    have h : sx_b st (fun x y => (x.toUInt32 >>> (y.toUInt32 &&& Int32.toUInt32 31)).toInt32) (fun u => k (pc + 1) lv u I J) = some res := h
    unfold sx_b at h
    split at h
    · next y x u hq9 =>
      skip
      intro H locs ls hP hS hls
      exact lv_iushr hx hb hd rfl (hk _ _ _ _ _ hl hlv (hst.tl.tl.co (v := .inl _) trivial) h H locs ls hP hS hls)
    · cases h
  case ladd =>
    injection hr with hr; injection hr with hr1 hr2; subst hr1; subst hr2
    obtain ⟨rfl, rfl⟩ := hlen hL
    have h : sx_bJ st (fun x y => x + y) (fun u => k (pc + 1) lv u I J) = some res := h
    unfold sx_bJ at h
    split at h
    · next y x u hq9 =>
      skip
      intro H locs ls hP hS hls
      exact lv_ladd hx hb hd (hk _ _ _ _ _ hl hlv (hst.tl.tl.co (v := .inr (.inl _)) trivial) h H locs ls hP hS hls)
    · cases h
  case lsub =>
    injection hr with hr; injection hr with hr1 hr2; subst hr1; subst hr2
    obtain ⟨rfl, rfl⟩ := hlen hL
    have h : sx_bJ st (fun x y => x - y) (fun u => k (pc + 1) lv u I J) = some res := h
    unfold sx_bJ at h
    split at h
    · next y x u hq9 =>
      skip
      intro H locs ls hP hS hls
      exact lv_lsub hx hb hd (hk _ _ _ _ _ hl hlv (hst.tl.tl.co (v := .inr (.inl _)) trivial) h H locs ls hP hS hls)
    · cases h
  case lmul =>
    injection hr with hr; injection hr with hr1 hr2; subst hr1; subst hr2
    obtain ⟨rfl, rfl⟩ := hlen hL
    have h : sx_bJ st (fun x y => x * y) (fun u => k (pc + 1) lv u I J) = some res := h
    unfold sx_bJ at h
    split at h
    · next y x u hq9 =>
      skip
      intro H locs ls hP hS hls
      exact lv_lmul hx hb hd (hk _ _ _ _ _ hl hlv (hst.tl.tl.co (v := .inr (.inl _)) trivial) h H locs ls hP hS hls)
    · cases h
  case idiv =>
    injection hr with hr; injection hr with hr1 hr2; subst hr1; subst hr2
    obtain ⟨rfl, rfl⟩ := hlen hL
    have h : (match (generalizing := false) st with | .inl y :: .inl x :: u => if y = 0 then none else k (pc + 1) lv (.inl (x / y) :: u) I J | _ => none) = some res := h
    split at h
    · next y x u hq9 =>
      skip
      split at h
      · cases h
      · next hy =>
        intro H locs ls hP hS hls
        exact lv_idiv hx hb hd hy (hk _ _ _ _ _ hl hlv (hst.tl.tl.co (v := .inl _) trivial) h H locs ls hP hS hls)
    · cases h
  case ldiv =>
    injection hr with hr; injection hr with hr1 hr2; subst hr1; subst hr2
    obtain ⟨rfl, rfl⟩ := hlen hL
    have h : (match (generalizing := false) st with | .inr (.inl y) :: .inr (.inl x) :: u => if y = 0 then none else k (pc + 1) lv (.inr (.inl (x / y)) :: u) I J | _ => none) = some res := h
    split at h
    · next y x u hq9 =>
      skip
      split at h
      · cases h
      · next hy =>
        intro H locs ls hP hS hls
        exact lv_ldiv hx hb hd hy (hk _ _ _ _ _ hl hlv (hst.tl.tl.co (v := .inr (.inl _)) trivial) h H locs ls hP hS hls)
    · cases h
  case lrem =>
    injection hr with hr; injection hr with hr1 hr2; subst hr1; subst hr2
    obtain ⟨rfl, rfl⟩ := hlen hL
    have h : (match (generalizing := false) st with | .inr (.inl y) :: .inr (.inl x) :: u => if y = 0 then none else k (pc + 1) lv (.inr (.inl (x - x / y * y)) :: u) I J | _ => none) = some res := h
    split at h
    · next y x u hq9 =>
      skip
      split at h
      · cases h
      · next hy =>
        intro H locs ls hP hS hls
        exact lv_lrem hx hb hd hy (hk _ _ _ _ _ hl hlv (hst.tl.tl.co (v := .inr (.inl _)) trivial) h H locs ls hP hS hls)
    · cases h
  case lcmp =>
    injection hr with hr; injection hr with hr1 hr2; subst hr1; subst hr2
    obtain ⟨rfl, rfl⟩ := hlen hL
    have h : (match (generalizing := false) st with | .inr (.inl y) :: .inr (.inl x) :: u => k (pc + 1) lv (.inl (lg_cmp x y) :: u) I J | _ => none) = some res := h
    split at h
    · next y x u hq9 =>
      skip
      intro H locs ls hP hS hls
      exact W.lcmp hx hb hd (hk _ _ _ _ _ hl hlv (hst.tl.tl.co (v := .inl _) trivial) h H locs ls hP hS hls)
    · cases h
  case ineg =>
    injection hr with hr; injection hr with hr1 hr2; subst hr1; subst hr2
    obtain ⟨rfl, rfl⟩ := hlen hL
    have h : sx_u st (fun x => -x) (fun u => k (pc + 1) lv u I J) = some res := h
    unfold sx_u at h
    split at h
    · next x u hq9 =>
      skip
      intro H locs ls hP hS hls
      exact lv_ineg hx hb hd (hk _ _ _ _ _ hl hlv (hst.tl.co (v := .inl _) trivial) h H locs ls hP hS hls)
    · cases h
  case i2b =>
    injection hr with hr; injection hr with hr1 hr2; subst hr1; subst hr2
    obtain ⟨rfl, rfl⟩ := hlen hL
    have h : sx_u st (fun x => x.toInt8.toInt32) (fun u => k (pc + 1) lv u I J) = some res := h
    unfold sx_u at h
    split at h
    · next x u hq9 =>
      skip
      intro H locs ls hP hS hls
      exact lv_i2b hx hb hd rfl (hk _ _ _ _ _ hl hlv (hst.tl.co (v := .inl _) trivial) h H locs ls hP hS hls)
    · cases h
  case i2s =>
    injection hr with hr; injection hr with hr1 hr2; subst hr1; subst hr2
    obtain ⟨rfl, rfl⟩ := hlen hL
    have h : sx_u st (fun x => x.toInt16.toInt32) (fun u => k (pc + 1) lv u I J) = some res := h
    unfold sx_u at h
    split at h
    · next x u hq9 =>
      skip
      intro H locs ls hP hS hls
      exact lv_i2s hx hb hd rfl (hk _ _ _ _ _ hl hlv (hst.tl.co (v := .inl _) trivial) h H locs ls hP hS hls)
    · cases h
  case i2l =>
    injection hr with hr; injection hr with hr1 hr2; subst hr1; subst hr2
    obtain ⟨rfl, rfl⟩ := hlen hL
    have h : (match (generalizing := false) st with | .inl x :: u => k (pc + 1) lv (.inr (.inl x.toInt64) :: u) I J | _ => none) = some res := h
    split at h
    · next x u hq9 =>
      skip
      intro H locs ls hP hS hls
      exact lv_i2l hx hb hd rfl (hk _ _ _ _ _ hl hlv (hst.tl.co (v := .inr (.inl _)) trivial) h H locs ls hP hS hls)
    · cases h
  case l2i =>
    injection hr with hr; injection hr with hr1 hr2; subst hr1; subst hr2
    obtain ⟨rfl, rfl⟩ := hlen hL
    have h : (match (generalizing := false) st with | .inr (.inl x) :: u => k (pc + 1) lv (.inl x.toInt32 :: u) I J | _ => none) = some res := h
    split at h
    · next x u hq9 =>
      skip
      intro H locs ls hP hS hls
      exact lv_l2i hx hb hd rfl (hk _ _ _ _ _ hl hlv (hst.tl.co (v := .inl _) trivial) h H locs ls hP hS hls)
    · cases h
  case dup =>
    injection hr with hr; injection hr with hr1 hr2; subst hr1; subst hr2
    obtain ⟨rfl, rfl⟩ := hlen hL
    have h : (match (generalizing := false) st with | v :: u => if sx_cat v = 1 then k (pc + 1) lv (v :: v :: u) I J else none | _ => none) = some res := h
    split at h
    · next v u hq9 =>
      skip
      split at h
      · next hc =>
        intro H locs ls hP hS hls
        exact lv_dup hx hb hd ((sx_rv_cat ad v).trans hc) (hk _ _ _ _ _ hl hlv (hst.co hst.hd) h H locs ls hP hS hls)
      · cases h
    · cases h
  case dup2 =>
    injection hr with hr; injection hr with hr1 hr2; subst hr1; subst hr2
    obtain ⟨rfl, rfl⟩ := hlen hL
    have h : (match (generalizing := false) st with
      | .inr (.inl x) :: u => k (pc + 1) lv (.inr (.inl x) :: .inr (.inl x) :: u) I J
      | v :: w :: u => if sx_cat v = 1 then (if sx_cat w = 1 then k (pc + 1) lv (v :: w :: v :: w :: u) I J else none) else none
      | _ => none) = some res := h
    split at h
    · next x u hq9 =>
      skip
      intro H locs ls hP hS hls
      exact lv_dup2_2 hx hb hd rfl (hk _ _ _ _ _ hl hlv (hst.co hst.hd) h H locs ls hP hS hls)
    · rename_i v w u h8 h9
      skip
      split at h
      · next hv =>
        split at h
        · next hw =>
          intro H locs ls hP hS hls
          exact lv_dup2_11 hx hb hd ((sx_rv_cat ad v).trans hv) ((sx_rv_cat ad w).trans hw) (hk _ _ _ _ _ hl hlv ((hst.co hst.tl.hd).co hst.hd) h H locs ls hP hS hls)
        · cases h
      · cases h
    · cases h
  case goto o =>
    simp only [sx_rs] at hr
    split at hr
    · next ho =>
      injection hr with hr; injection hr with hr1 hr2; subst hr1; subst hr2
      obtain ⟨rfl, rfl⟩ := hlen hL
      intro H locs ls hP hS hls
      exact lv_goto hx hb hd (Int.toNat_of_nonneg ho).symm (hk _ _ _ _ _ hl hlv hst h H locs ls hP hS hls)
    · cases hr
  case ifCond cd o =>
    simp only [sx_rs] at hr
    split at hr
    · next ho =>
      injection hr with hr; injection hr with hr1 hr2; subst hr1; subst hr2
      obtain ⟨rfl, rfl⟩ := hlen hL
      cases cd
      case eq =>
        have h : (match (generalizing := false) st with | .inl x :: u => (if x = 0 then k ((pc : Int) + o).toNat lv u I J else k (pc + 3) lv u I J) | _ => none) = some res := h
        split at h
        · next x u hq9 =>
          skip
          intro H locs ls hP hS hls
          split at h
          · next hc => exact lv_if_eq hx hb hd (Int.toNat_of_nonneg ho).symm (fun q => hk _ _ _ _ _ hl hlv hst.tl h H locs ls hP hS hls) (fun q => absurd hc q)
          · next hc => exact lv_if_eq hx hb hd (Int.toNat_of_nonneg ho).symm (fun q => absurd q hc) (fun q => hk _ _ _ _ _ hl hlv hst.tl h H locs ls hP hS hls)
        · cases h
      case ne =>
        have h : (match (generalizing := false) st with | .inl x :: u => (if x = 0 then k (pc + 3) lv u I J else k ((pc : Int) + o).toNat lv u I J) | _ => none) = some res := h
        split at h
        · next x u hq9 =>
          skip
          intro H locs ls hP hS hls
          split at h
          · next hc => exact lv_if_ne hx hb hd (Int.toNat_of_nonneg ho).symm (fun q => absurd hc q) (fun q => hk _ _ _ _ _ hl hlv hst.tl h H locs ls hP hS hls)
          · next hc => exact lv_if_ne hx hb hd (Int.toNat_of_nonneg ho).symm (fun q => hk _ _ _ _ _ hl hlv hst.tl h H locs ls hP hS hls) (fun q => absurd q hc)
        · cases h
      case lt =>
        have h : (match (generalizing := false) st with | .inl x :: u => (if x < 0 then k ((pc : Int) + o).toNat lv u I J else k (pc + 3) lv u I J) | _ => none) = some res := h
        split at h
        · next x u hq9 =>
          skip
          intro H locs ls hP hS hls
          split at h
          · next hc => exact lv_if_lt hx hb hd (Int.toNat_of_nonneg ho).symm (fun q => hk _ _ _ _ _ hl hlv hst.tl h H locs ls hP hS hls) (fun q => absurd hc q)
          · next hc => exact lv_if_lt hx hb hd (Int.toNat_of_nonneg ho).symm (fun q => absurd q hc) (fun q => hk _ _ _ _ _ hl hlv hst.tl h H locs ls hP hS hls)
        · cases h
      case ge =>
        have h : (match (generalizing := false) st with | .inl x :: u => (if 0 ≤ x then k ((pc : Int) + o).toNat lv u I J else k (pc + 3) lv u I J) | _ => none) = some res := h
        split at h
        · next x u hq9 =>
          skip
          intro H locs ls hP hS hls
          split at h
          · next hc => exact lv_if_ge hx hb hd (Int.toNat_of_nonneg ho).symm (fun q => hk _ _ _ _ _ hl hlv hst.tl h H locs ls hP hS hls) (fun q => absurd hc q)
          · next hc => exact lv_if_ge hx hb hd (Int.toNat_of_nonneg ho).symm (fun q => absurd q hc) (fun q => hk _ _ _ _ _ hl hlv hst.tl h H locs ls hP hS hls)
        · cases h
      case gt =>
        have h : (match (generalizing := false) st with | .inl x :: u => (if 0 < x then k ((pc : Int) + o).toNat lv u I J else k (pc + 3) lv u I J) | _ => none) = some res := h
        split at h
        · next x u hq9 =>
          skip
          intro H locs ls hP hS hls
          split at h
          · next hc => exact lv_if_gt hx hb hd (Int.toNat_of_nonneg ho).symm (fun q => hk _ _ _ _ _ hl hlv hst.tl h H locs ls hP hS hls) (fun q => absurd hc q)
          · next hc => exact lv_if_gt hx hb hd (Int.toNat_of_nonneg ho).symm (fun q => absurd q hc) (fun q => hk _ _ _ _ _ hl hlv hst.tl h H locs ls hP hS hls)
        · cases h
      case le =>
        have h : (match (generalizing := false) st with | .inl x :: u => (if x ≤ 0 then k ((pc : Int) + o).toNat lv u I J else k (pc + 3) lv u I J) | _ => none) = some res := h
        split at h
        · next x u hq9 =>
          skip
          intro H locs ls hP hS hls
          split at h
          · next hc => exact lv_if_le hx hb hd (Int.toNat_of_nonneg ho).symm (fun q => hk _ _ _ _ _ hl hlv hst.tl h H locs ls hP hS hls) (fun q => absurd hc q)
          · next hc => exact lv_if_le hx hb hd (Int.toNat_of_nonneg ho).symm (fun q => absurd q hc) (fun q => hk _ _ _ _ _ hl hlv hst.tl h H locs ls hP hS hls)
        · cases h
    · cases hr
  case if_icmp cd o =>
    simp only [sx_rs] at hr
    split at hr
    · next ho =>
      injection hr with hr; injection hr with hr1 hr2; subst hr1; subst hr2
      obtain ⟨rfl, rfl⟩ := hlen hL
      cases cd
      case eq =>
        have h : (match (generalizing := false) st with | .inl y :: .inl x :: u => (if x = y then k ((pc : Int) + o).toNat lv u I J else k (pc + 3) lv u I J) | _ => none) = some res := h
        split at h
        · next y x u hq9 =>
          skip
          intro H locs ls hP hS hls
          split at h
          · next hc => exact lv_icmp_eq hx hb hd (Int.toNat_of_nonneg ho).symm (fun q => hk _ _ _ _ _ hl hlv hst.tl.tl h H locs ls hP hS hls) (fun q => absurd hc q)
          · next hc => exact lv_icmp_eq hx hb hd (Int.toNat_of_nonneg ho).symm (fun q => absurd q hc) (fun q => hk _ _ _ _ _ hl hlv hst.tl.tl h H locs ls hP hS hls)
        · cases h
      case ne =>
        have h : (match (generalizing := false) st with | .inl y :: .inl x :: u => (if x = y then k (pc + 3) lv u I J else k ((pc : Int) + o).toNat lv u I J) | _ => none) = some res := h
        split at h
        · next y x u hq9 =>
          skip
          intro H locs ls hP hS hls
          split at h
          · next hc => exact lv_icmp_ne hx hb hd (Int.toNat_of_nonneg ho).symm (fun q => absurd hc q) (fun q => hk _ _ _ _ _ hl hlv hst.tl.tl h H locs ls hP hS hls)
          · next hc => exact lv_icmp_ne hx hb hd (Int.toNat_of_nonneg ho).symm (fun q => hk _ _ _ _ _ hl hlv hst.tl.tl h H locs ls hP hS hls) (fun q => absurd q hc)
        · cases h
      case lt =>
        have h : (match (generalizing := false) st with | .inl y :: .inl x :: u => (if x < y then k ((pc : Int) + o).toNat lv u I J else k (pc + 3) lv u I J) | _ => none) = some res := h
        split at h
        · next y x u hq9 =>
          skip
          intro H locs ls hP hS hls
          split at h
          · next hc => exact lv_icmp_lt hx hb hd (Int.toNat_of_nonneg ho).symm (fun q => hk _ _ _ _ _ hl hlv hst.tl.tl h H locs ls hP hS hls) (fun q => absurd hc q)
          · next hc => exact lv_icmp_lt hx hb hd (Int.toNat_of_nonneg ho).symm (fun q => absurd q hc) (fun q => hk _ _ _ _ _ hl hlv hst.tl.tl h H locs ls hP hS hls)
        · cases h
      case ge =>
        have h : (match (generalizing := false) st with | .inl y :: .inl x :: u => (if y ≤ x then k ((pc : Int) + o).toNat lv u I J else k (pc + 3) lv u I J) | _ => none) = some res := h
        split at h
        · next y x u hq9 =>
          skip
          intro H locs ls hP hS hls
          split at h
          · next hc => exact lv_icmp_ge hx hb hd (Int.toNat_of_nonneg ho).symm (fun q => hk _ _ _ _ _ hl hlv hst.tl.tl h H locs ls hP hS hls) (fun q => absurd hc q)
          · next hc => exact lv_icmp_ge hx hb hd (Int.toNat_of_nonneg ho).symm (fun q => absurd q hc) (fun q => hk _ _ _ _ _ hl hlv hst.tl.tl h H locs ls hP hS hls)
        · cases h
      case gt =>
        have h : (match (generalizing := false) st with | .inl y :: .inl x :: u => (if y < x then k ((pc : Int) + o).toNat lv u I J else k (pc + 3) lv u I J) | _ => none) = some res := h
        split at h
        · next y x u hq9 =>
          skip
          intro H locs ls hP hS hls
          split at h
          · next hc => exact lv_icmp_gt hx hb hd (Int.toNat_of_nonneg ho).symm (fun q => hk _ _ _ _ _ hl hlv hst.tl.tl h H locs ls hP hS hls) (fun q => absurd hc q)
          · next hc => exact lv_icmp_gt hx hb hd (Int.toNat_of_nonneg ho).symm (fun q => absurd q hc) (fun q => hk _ _ _ _ _ hl hlv hst.tl.tl h H locs ls hP hS hls)
        · cases h
      case le =>
        have h : (match (generalizing := false) st with | .inl y :: .inl x :: u => (if x ≤ y then k ((pc : Int) + o).toNat lv u I J else k (pc + 3) lv u I J) | _ => none) = some res := h
        split at h
        · next y x u hq9 =>
          skip
          intro H locs ls hP hS hls
          split at h
          · next hc => exact lv_icmp_le hx hb hd (Int.toNat_of_nonneg ho).symm (fun q => hk _ _ _ _ _ hl hlv hst.tl.tl h H locs ls hP hS hls) (fun q => absurd hc q)
          · next hc => exact lv_icmp_le hx hb hd (Int.toNat_of_nonneg ho).symm (fun q => absurd q hc) (fun q => hk _ _ _ _ _ hl hlv hst.tl.tl h H locs ls hP hS hls)
        · cases h
    · cases hr
  case tableswitch df lo hi offs =>
    injection hr with hr; injection hr with hr1 hr2; subst hr1; subst hr2
    have h : (match (generalizing := false) st with
      | .inl x :: u => if x.toInt < lo ∨ hi < x.toInt then (if 0 ≤ (pc : Int) + df then k ((pc : Int) + df).toNat lv u I J else none)
        else (match offs[(x.toInt - lo).toNat]? with
          | some o => if 0 ≤ (pc : Int) + o then k ((pc : Int) + o).toNat lv u I J else none
          | none => none)
      | _ => none) = some res := h
    split at h
    · next x u hq9 =>
      skip
      intro H locs ls hP hS hls
      split at h
      · next hc =>
        split at h
        · next ho => exact lv_tableOut hx hb hd hc (Int.toNat_of_nonneg ho).symm (hk _ _ _ _ _ hl hlv hst.tl h H locs ls hP hS hls)
        · cases h
      · next hc =>
        split at h
        · next o hq =>
          split at h
          · next ho => exact lv_tableIn hx hb hd (fun q => hc (Or.inl q)) (fun q => hc (Or.inr q)) hq (Int.toNat_of_nonneg ho).symm (hk _ _ _ _ _ hl hlv hst.tl h H locs ls hP hS hls)
          · cases h
        · cases h
    · cases h
  case lookupswitch df ps =>
    simp only [sx_rs] at hr
    split at hr
    · next hps =>
      injection hr with hr; injection hr with hr1 hr2; subst hr1; subst hr2
      have h : (match (generalizing := false) st with
        | .inl x :: u => if 0 ≤ (pc : Int) + Op.lookupswitch.offset ps.toList df x.toInt then k ((pc : Int) + Op.lookupswitch.offset ps.toList df x.toInt).toNat lv u I J else none
        | _ => none) = some res := h
      split at h
      · next x u hq9 =>
        skip
        intro H locs ls hP hS hls
        split at h
        · next ho => exact lv_lookup hx hb hd hps rfl (Int.toNat_of_nonneg ho).symm (hk _ _ _ _ _ hl hlv hst.tl h H locs ls hP hS hls)
        · cases h
      · cases h
    · cases hr
  case getfield j =>
    simp only [sx_rs] at hr
    split at hr
    · next q hq =>
      injection hr with hr; injection hr with hr1 hr2; subst hr1; subst hr2
      obtain ⟨rfl, rfl⟩ := hlen hL
      obtain ⟨h1, h2, h3⟩ := sx_fd_spec hq
      obtain ⟨f1, f2, f3, f4, f5⟩ := sx_okf_spec h1
      rw [h2, h3] at f5
      have h : (match (generalizing := false) st with
        | .inr (.inr (kd, i)) :: u => if kd = q.2.2.1 / 256 then (match q.2.2.1 % 4 with
            | 1 => k (pc + 3) lv (.inr (.inl (J kd i (q.2.2.1 / 4 % 64))) :: u) I J
            | 2 => (match sx_eR kd i (q.2.2.1 / 4 % 64) with | some z => k (pc + 3) lv (.inr (.inr z) :: u) I J | none => none)
            | _ => k (pc + 3) lv (.inl (I kd i (q.2.2.1 / 4 % 64)) :: u) I J) else none
        | _ => none) = some res := h
      split at h
      · next kd i u hq9 =>
        skip
        split at h
        · next hkd =>
          subst hkd
          intro H locs ls hP hS hls
          obtain ⟨q0, hq0⟩ := sx_at (sx_idm (sx_lt_ks f1) hst.hd)
          have he := (sx_wat ad cA I J hq0).trans (congrArg (fun z => some (ad (q.2.2.1 / 256) i, z)) (sx_c2O f1))
          have hfv := sx_fs_at ad (I (q.2.2.1 / 256) i) (J (q.2.2.1 / 256) i) (i := i) f3
          refine va_get hx hb hts (sx_uws _ f1) hown hK hP q0 he (sx_vwc _ f1) _ f2 (hts _ f5) (fun z hz => by rw [f4] at hz; exact hz) hfv hd ?_
          generalize hfe : sx_fv ad (I (q.2.2.1 / 256) i) (J (q.2.2.1 / 256) i) (q.2.2.1 / 256) i (q.2.2.1 / 4 % 64) (q.2.2.1 % 4) = w
          unfold sx_fv at hfe
          split at h
          · next h4 => rw [h4] at hfe; subst hfe; exact hk _ _ _ _ _ hl hlv (hst.tl.co (v := .inr (.inl _)) trivial) h H locs ls hP hS hls
          · next h4 =>
            rw [h4] at hfe
            split at h
            · next z hz => simp only [hz] at hfe; subst hfe; exact hk _ _ _ _ _ hl hlv (hst.tl.co (v := .inr (.inr z)) (sx_eR_vl hst.hd hz)) h H locs ls hP hS hls
            · cases h
          · next g1 g2 =>
            split at hfe
            · next h4 => exact absurd h4 g1
            · next h4 => exact absurd h4 g2
            · subst hfe; exact hk _ _ _ _ _ hl hlv (hst.tl.co (v := .inl _) trivial) h H locs ls hP hS hls
        · cases h
      · cases h
    · cases hr
  case putfield j =>
    simp only [sx_rs] at hr
    split at hr
    · next q hq =>
      injection hr with hr; injection hr with hr1 hr2; subst hr1; subst hr2
      obtain ⟨rfl, rfl⟩ := hlen hL
      obtain ⟨h1, h2, h3⟩ := sx_fd_spec hq
      obtain ⟨f1, f2, f3, f4, f5⟩ := sx_okf_spec h1
      rw [h2, h3] at f5
      have h : (match (generalizing := false) st with
        | .inl x :: .inr (.inr (kd, i)) :: u => if kd = q.2.2.1 / 256 then (match q.2.2.1 % 4 with
            | 0 => k (pc + 3) lv u (sx_uI I kd i (q.2.2.1 / 4 % 64) x) J
            | 3 => if x = 0 ∨ x = 1 then k (pc + 3) lv u (sx_uI I kd i (q.2.2.1 / 4 % 64) x) J else none
            | _ => none) else none
        | .inr (.inl x) :: .inr (.inr (kd, i)) :: u => if kd = q.2.2.1 / 256 then (match q.2.2.1 % 4 with
            | 1 => k (pc + 3) lv u I (sx_uJ J kd i (q.2.2.1 / 4 % 64) x)
            | _ => none) else none
        | _ => none) = some res := h
      split at h
      · next x kd i u hq9 =>
        skip
        split at h
        · next hkd =>
          subst hkd
          intro H locs ls hP hS hls
          obtain ⟨q0, hq0⟩ := sx_at (sx_idm (sx_lt_ks f1) hst.tl.hd)
          have he := (sx_wat ad cA I J hq0).trans (congrArg (fun z => some (ad (q.2.2.1 / 256) i, z)) (sx_c2O f1))
          split at h
          · next g4 =>
            obtain ⟨g5, g6⟩ : (sx_ct (q.2.2.1 / 256) (q.2.2.1 / 4 % 64)).2.2.2 = false ∧ sx_cy (q.2.2.1 / 256) (q.2.2.1 / 4 % 64) = .int := by
              rcases sx_fto _ f1 _ f2 with ⟨a1, a2, a3⟩ | ⟨a1, a2, a3⟩ | ⟨a1, a2, a3⟩ | a3 <;> rw [f3, g4] at a3 <;> first | exact ⟨a1, a2⟩ | exact absurd a3 (by decide)
            refine va_put (ty := .int) hx hb hts (sx_uws _ f1) (sx_cy _) (sx_tyo _ f1) (sx_nmo _ f1) hown hK hP (hD I J) hS q0 he (sx_vwc _ f1) _ f2 (hts _ f5) (fun z hz => by rw [f4] at hz; exact hz) g5 (by rw [sx_tyo _ f1 _ f2, g6]) rfl rfl (by rw [sx_fs, List.length_mapIdx]; exact f2) hd (fun H1 locs1 hP1 hD1 hS1 => ?_)
            rw [sx_set (I1 := sx_uI I (q.2.2.1 / 256) i (q.2.2.1 / 4 % 64) x) (J1 := J) hq0 (by rw [sx_c2O f1, sx_uI_at, sx_fs_setI ad (I (q.2.2.1 / 256) i) (J (q.2.2.1 / 256) i) (q.2.2.1 / 256) i (q.2.2.1 / 4 % 64) x (f3.trans (congrArg some g4)) (Or.inl rfl)]; rfl) (fun a b hne => ⟨sx_uI_ne I _ _ hne, rfl⟩)] at hP1
            exact hk _ _ _ _ _ hl hlv hst.tl.tl h H1 locs1 ls hP1 hS1 hls
          · next g4 =>
            split at h
            · next hx01 =>
              obtain ⟨g5, g6⟩ : (sx_ct (q.2.2.1 / 256) (q.2.2.1 / 4 % 64)).2.2.2 = false ∧ sx_cy (q.2.2.1 / 256) (q.2.2.1 / 4 % 64) = .boolean := by
                rcases sx_fto _ f1 _ f2 with ⟨a1, a2, a3⟩ | ⟨a1, a2, a3⟩ | ⟨a1, a2, a3⟩ | a3 <;> rw [f3, g4] at a3 <;> first | exact ⟨a1, a2⟩ | exact absurd a3 (by decide)
              refine va_put (ty := .boolean) hx hb hts (sx_uws _ f1) (sx_cy _) (sx_tyo _ f1) (sx_nmo _ f1) hown hK hP (hD I J) hS q0 he (sx_vwc _ f1) _ f2 (hts _ f5) (fun z hz => by rw [f4] at hz; exact hz) g5 (by rw [sx_tyo _ f1 _ f2, g6]) (by rcases hx01 with rfl | rfl <;> rfl) (by rcases hx01 with rfl | rfl <;> rfl) (by rw [sx_fs, List.length_mapIdx]; exact f2) hd (fun H1 locs1 hP1 hD1 hS1 => ?_)
              rw [sx_set (I1 := sx_uI I (q.2.2.1 / 256) i (q.2.2.1 / 4 % 64) x) (J1 := J) hq0 (by rw [sx_c2O f1, sx_uI_at, sx_fs_setI ad (I (q.2.2.1 / 256) i) (J (q.2.2.1 / 256) i) (q.2.2.1 / 256) i (q.2.2.1 / 4 % 64) x (f3.trans (congrArg some g4)) (Or.inr rfl)]; rfl) (fun a b hne => ⟨sx_uI_ne I _ _ hne, rfl⟩)] at hP1
              exact hk _ _ _ _ _ hl hlv hst.tl.tl h H1 locs1 ls hP1 hS1 hls
            · cases h
          · cases h
        · cases h
      · next x kd i u hq9 =>
        skip
        split at h
        · next hkd =>
          subst hkd
          intro H locs ls hP hS hls
          obtain ⟨q0, hq0⟩ := sx_at (sx_idm (sx_lt_ks f1) hst.tl.hd)
          have he := (sx_wat ad cA I J hq0).trans (congrArg (fun z => some (ad (q.2.2.1 / 256) i, z)) (sx_c2O f1))
          split at h
          · next g4 =>
            obtain ⟨g5, g6⟩ : (sx_ct (q.2.2.1 / 256) (q.2.2.1 / 4 % 64)).2.2.2 = false ∧ sx_cy (q.2.2.1 / 256) (q.2.2.1 / 4 % 64) = .long := by
              rcases sx_fto _ f1 _ f2 with ⟨a1, a2, a3⟩ | ⟨a1, a2, a3⟩ | ⟨a1, a2, a3⟩ | a3 <;> rw [f3, g4] at a3 <;> first | exact ⟨a1, a2⟩ | exact absurd a3 (by decide)
            refine va_put (ty := .long) hx hb hts (sx_uws _ f1) (sx_cy _) (sx_tyo _ f1) (sx_nmo _ f1) hown hK hP (hD I J) hS q0 he (sx_vwc _ f1) _ f2 (hts _ f5) (fun z hz => by rw [f4] at hz; exact hz) g5 (by rw [sx_tyo _ f1 _ f2, g6]) rfl rfl (by rw [sx_fs, List.length_mapIdx]; exact f2) hd (fun H1 locs1 hP1 hD1 hS1 => ?_)
            rw [sx_set (I1 := I) (J1 := sx_uJ J (q.2.2.1 / 256) i (q.2.2.1 / 4 % 64) x) hq0 (by rw [sx_c2O f1, sx_uJ_at, sx_fs_setJ ad (I (q.2.2.1 / 256) i) (J (q.2.2.1 / 256) i) (q.2.2.1 / 256) i (q.2.2.1 / 4 % 64) x (f3.trans (congrArg some g4))]; rfl) (fun a b hne => ⟨rfl, sx_uJ_ne J _ _ hne⟩)] at hP1
            exact hk _ _ _ _ _ hl hlv hst.tl.tl h H1 locs1 ls hP1 hS1 hls
          · cases h
        · cases h
      · cases h
    · cases hr
  case getstatic j =>
    simp only [sx_rs] at hr
    split at hr
    · next q hq =>
      injection hr with hr; injection hr with hr1 hr2; subst hr1; subst hr2
      obtain ⟨rfl, rfl⟩ := hlen hL
      obtain ⟨h1, h2, h3⟩ := sx_fd_spec hq
      have h4 := List.all_eq_true.mp sx_ok_s q h1
      simp only [Bool.and_eq_true, decide_eq_true_eq] at h4
      have h5 := sx_inb h4.2 rfl
      rw [h2, h3] at h5
      have h : (if q.2.2.1 < 3 then k (pc + 3) lv (.inr (.inr (15, q.2.2.1)) :: st) I J else none) = some res := h
      rw [if_pos h4.1] at h
      intro H locs ls hP hS hls
      exact va_gets hx hb (hSt _ h4.1).1 hS hown (hts _ h5) (fun _ z => z) hd (hk _ _ _ _ _ hl hlv (hst.co (v := .inr (.inr (15, q.2.2.1))) h4.1) h H locs ls hP hS hls)
    · cases hr
  case iaload =>
    cases lw with
    | true =>
      injection hr with hr; injection hr with hr1 hr2; subst hr1; subst hr2
      obtain ⟨rfl, rfl⟩ := hlen hL
      obtain ⟨x1, x2, x3⟩ := hsc rfl
      have h : (match (generalizing := false) st with
        | .inl x :: .inr (.inr (kd, i)) :: u => if kd = 19 then (if sx_in x sc.1 then k (pc + 1) lv (.inl (sc.2 x.toNatClampNeg) :: u) I J else none) else none
        | _ => none) = some res := h
      split at h
      · next x kd i u hq9 =>
        skip
        split at h
        · next hkd =>
          subst hkd
          split at h
          · next hin =>
            have hi : i = 0 := by have h0 : i < 1 := hst.tl.hd; omega
            subst hi
            intro H locs ls hP hS hls
            exact va_sld hx hb x1 x2 x3 hS (sx_in_vp hin) hd (hk _ _ _ _ _ hl hlv (hst.tl.tl.co (v := .inl _) trivial) h H locs ls hP hS hls)
          · cases h
        · cases h
      · cases h
    | false =>
      injection hr with hr; injection hr with hr1 hr2; subst hr1; subst hr2
      obtain ⟨rfl, rfl⟩ := hlen hL
      have h : (match (generalizing := false) st with
        | .inl x :: .inr (.inr (kd, i)) :: u => if kd = 15 then (if sx_in x 6 then k (pc + 1) lv (.inl (sx_eT i x.toNatClampNeg) :: u) I J else none)
          else if sx_isI kd then (if sx_in x (sx_eN kd i) then k (pc + 1) lv (.inl (I kd i x.toNatClampNeg) :: u) I J else none) else none
        | _ => none) = some res := h
      split at h
      · next x kd i u hq9 =>
        skip
        intro H locs ls hP hS hls
        split at h
        · next hkd =>
          subst hkd
          split at h
          · next hin => exact va_ti hx hb (hSt _ hst.tl.hd).2 hS (sx_in_vp hin) rfl hd (hk _ _ _ _ _ hl hlv (hst.tl.tl.co (v := .inl _) trivial) h H locs ls hP hS hls)
          · cases h
        · split at h
          · next hI =>
            split at h
            · next hin =>
              obtain ⟨q0, hq0⟩ := sx_at (sx_idm (sx_isI_ks hI) hst.tl.hd)
              exact va_iald hx hb hK hP q0 0 ((sx_wat ad cA I J hq0).trans (congrArg (fun z => some (ad kd i, z)) (sx_c2I hI))) rfl (sx_in_vp hin) hd (hk _ _ _ _ _ hl hlv (hst.tl.tl.co (v := .inl _) trivial) h H locs ls hP hS hls)
            · cases h
          · cases h
      · cases h
  case laload =>
    injection hr with hr; injection hr with hr1 hr2; subst hr1; subst hr2
    obtain ⟨rfl, rfl⟩ := hlen hL
    have h : (match (generalizing := false) st with
      | .inl x :: .inr (.inr (kd, i)) :: u => if sx_isJ kd then (if sx_in x (sx_eN kd i) then k (pc + 1) lv (.inr (.inl (J kd i x.toNatClampNeg)) :: u) I J else none) else none
      | _ => none) = some res := h
    split at h
    · next x kd i u hq9 =>
      skip
      intro H locs ls hP hS hls
      split at h
      · next hI =>
        split at h
        · next hin =>
          obtain ⟨q0, hq0⟩ := sx_at (sx_idm (sx_isJ_ks hI) hst.tl.hd)
          exact va_lald hx hb hK hP q0 1 ((sx_wat ad cA I J hq0).trans (congrArg (fun z => some (ad kd i, z)) (sx_c2J hI))) rfl (sx_in_vp hin) hd (hk _ _ _ _ _ hl hlv (hst.tl.tl.co (v := .inr (.inl _)) trivial) h H locs ls hP hS hls)
        · cases h
      · cases h
    · cases h
  case baload =>
    injection hr with hr; injection hr with hr1 hr2; subst hr1; subst hr2
    obtain ⟨rfl, rfl⟩ := hlen hL
    have h : (match (generalizing := false) st with
      | .inl x :: .inr (.inr (kd, i)) :: u => if kd = 18 then (if sx_in x (sx_eN kd i) then k (pc + 1) lv (.inl (I kd i x.toNatClampNeg) :: u) I J else none) else none
      | _ => none) = some res := h
    split at h
    · next x kd i u hq9 =>
      skip
      intro H locs ls hP hS hls
      split at h
      · next hkd =>
        subst hkd
        split at h
        · next hin =>
          obtain ⟨q0, hq0⟩ := sx_at (sx_idm (kd := 18) (by decide) hst.tl.hd)
          exact va_zald hx hb hK hP q0 2 (sx_wat ad cA I J hq0) rfl (sx_in_vp hin) hd (hk _ _ _ _ _ hl hlv (hst.tl.tl.co (v := .inl _) trivial) h H locs ls hP hS hls)
        · cases h
      · cases h
    · cases h
  case aaload =>
    injection hr with hr; injection hr with hr1 hr2; subst hr1; subst hr2
    obtain ⟨rfl, rfl⟩ := hlen hL
    have h : (match (generalizing := false) st with
      | .inl x :: .inr (.inr (kd, i)) :: u => if kd = 13 ∨ kd = 14 then (if sx_in x (sx_eN kd i) then (match sx_eR kd i x.toNatClampNeg with | some z => k (pc + 1) lv (.inr (.inr z) :: u) I J | none => none) else none) else none
      | _ => none) = some res := h
    split at h
    · next x kd i u hq9 =>
      skip
      intro H locs ls hP hS hls
      split at h
      · next hkd =>
        split at h
        · next hin =>
          split at h
          · next z hz =>
            have hfe : va_rf ((sx_eR kd i x.toNatClampNeg).map (fun q => ad q.1 q.2)) = .ref (ad z.1 z.2) := by rw [hz]; rfl
            have hgo := hk _ _ _ _ _ hl hlv (hst.tl.tl.co (v := .inr (.inr z)) (sx_eR_vl hst.tl.hd hz)) h H locs ls hP hS hls
            rcases hkd with rfl | rfl
            · obtain ⟨q0, hq0⟩ := sx_at (sx_idm (kd := 13) (by decide) hst.tl.hd)
              refine va_aldq hx hb hK hP q0 3 (sx_wat ad cA I J hq0) rfl (sx_in_vp hin) hd ?_
              rw [hfe]
              exact hgo
            · obtain ⟨q0, hq0⟩ := sx_at (sx_idm (kd := 14) (by decide) hst.tl.hd)
              refine va_aldq hx hb hK hP q0 4 (sx_wat ad cA I J hq0) rfl (sx_in_vp hin) hd ?_
              rw [hfe]
              exact hgo
          · cases h
        · cases h
      · cases h
    · cases h
  case arraylength =>
    cases lw with
    | true =>
      injection hr with hr; injection hr with hr1 hr2; subst hr1; subst hr2
      obtain ⟨rfl, rfl⟩ := hlen hL
      obtain ⟨x1, x2, x3⟩ := hsc rfl
      have h : (match (generalizing := false) st with
        | .inr (.inr (kd, i)) :: u => if kd = 19 then k (pc + 1) lv (.inl (Int32.ofNat sc.1) :: u) I J else none
        | _ => none) = some res := h
      split at h
      · next kd i u hq9 =>
        skip
        split at h
        · next hkd =>
          subst hkd
          have hi : i = 0 := by have h0 : i < 1 := hst.hd; omega
          subst hi
          intro H locs ls hP hS hls
          exact va_slen hx hb x1 x2 x3 hS hd (hk _ _ _ _ _ hl hlv (hst.tl.co (v := .inl _) trivial) h H locs ls hP hS hls)
        · cases h
      · cases h
    | false =>
      injection hr with hr; injection hr with hr1 hr2; subst hr1; subst hr2
      obtain ⟨rfl, rfl⟩ := hlen hL
      have h : (match (generalizing := false) st with
        | .inr (.inr (kd, i)) :: u => if kd = 15 then k (pc + 1) lv (.inl 6 :: u) I J else if sx_isI kd then k (pc + 1) lv (.inl (Int32.ofNat (sx_eN kd i)) :: u) I J else none
        | _ => none) = some res := h
      split at h
      · next kd i u hq9 =>
        skip
        intro H locs ls hP hS hls
        split at h
        · next hkd =>
          subst hkd
          exact va_tlen hx hb (hSt _ hst.hd).2 hS rfl hd (hk _ _ _ _ _ hl hlv (hst.tl.co (v := .inl 6) trivial) h H locs ls hP hS hls)
        · split at h
          · next hI =>
            obtain ⟨q0, hq0⟩ := sx_at (sx_idm (sx_isI_ks hI) hst.hd)
            exact va_alen hx hb hK hP q0 0 ((sx_wat ad cA I J hq0).trans (congrArg (fun z => some (ad kd i, z)) (sx_c2I hI))) rfl rfl hd (hk _ _ _ _ _ hl hlv (hst.tl.co (v := .inl _) trivial) h H locs ls hP hS hls)
          · cases h
      · cases h
  case iastore =>
    injection hr with hr; injection hr with hr1 hr2; subst hr1; subst hr2
    obtain ⟨rfl, rfl⟩ := hlen hL
    have h : (match (generalizing := false) st with
      | .inl v :: .inl x :: .inr (.inr (kd, i)) :: u => if sx_isI kd then (if sx_in x (sx_eN kd i) then k (pc + 1) lv u (sx_uI I kd i x.toNatClampNeg v) J else none) else none
      | _ => none) = some res := h
    split at h
    · next v x kd i u hq9 =>
      skip
      intro H locs ls hP hS hls
      split at h
      · next hI =>
        split at h
        · next hin =>
          obtain ⟨q0, hq0⟩ := sx_at (sx_idm (sx_isI_ks hI) hst.tl.tl.hd)
          refine va_iast hx hb hK hP (hD I J) hS q0 0 ((sx_wat ad cA I J hq0).trans (congrArg (fun z => some (ad kd i, z)) (sx_c2I hI))) rfl (sx_in_vp hin) hd (fun H1 locs1 hP1 hD1 hS1 => ?_)
          rw [sx_set (I1 := sx_uI I kd i x.toNatClampNeg v) (J1 := J) hq0 (by rw [sx_c2I hI, sx_uI_at]) (fun a b hne => ⟨sx_uI_ne I _ _ hne, rfl⟩)] at hP1
          exact hk _ _ _ _ _ hl hlv hst.tl.tl.tl h H1 locs1 ls hP1 hS1 hls
        · cases h
      · cases h
    · cases h
  case lastore =>
    injection hr with hr; injection hr with hr1 hr2; subst hr1; subst hr2
    obtain ⟨rfl, rfl⟩ := hlen hL
    have h : (match (generalizing := false) st with
      | .inr (.inl v) :: .inl x :: .inr (.inr (kd, i)) :: u => if sx_isJ kd then (if sx_in x (sx_eN kd i) then k (pc + 1) lv u I (sx_uJ J kd i x.toNatClampNeg v) else none) else none
      | _ => none) = some res := h
    split at h
    · next v x kd i u hq9 =>
      skip
      intro H locs ls hP hS hls
      split at h
      · next hI =>
        split at h
        · next hin =>
          obtain ⟨q0, hq0⟩ := sx_at (sx_idm (sx_isJ_ks hI) hst.tl.tl.hd)
          refine va_last hx hb hK hP (hD I J) hS q0 1 ((sx_wat ad cA I J hq0).trans (congrArg (fun z => some (ad kd i, z)) (sx_c2J hI))) rfl (sx_in_vp hin) hd (fun H1 locs1 hP1 hD1 hS1 => ?_)
          rw [sx_set (I1 := I) (J1 := sx_uJ J kd i x.toNatClampNeg v) hq0 (by rw [sx_c2J hI, sx_uJ_at]) (fun a b hne => ⟨rfl, sx_uJ_ne J _ _ hne⟩)] at hP1
          exact hk _ _ _ _ _ hl hlv hst.tl.tl.tl h H1 locs1 ls hP1 hS1 hls
        · cases h
      · cases h
    · cases h
  case bastore =>
    injection hr with hr; injection hr with hr1 hr2; subst hr1; subst hr2
    obtain ⟨rfl, rfl⟩ := hlen hL
    have h : (match (generalizing := false) st with
      | .inl v :: .inl x :: .inr (.inr (kd, i)) :: u => if kd = 18 then (if v = 0 ∨ v = 1 then (if sx_in x (sx_eN kd i) then k (pc + 1) lv u (sx_uI I kd i x.toNatClampNeg v) J else none) else none) else none
      | _ => none) = some res := h
    split at h
    · next v x kd i u hq9 =>
      skip
      intro H locs ls hP hS hls
      split at h
      · next hkd =>
        subst hkd
        split at h
        · next hv =>
          split at h
          · next hin =>
            obtain ⟨q0, hq0⟩ := sx_at (sx_idm (kd := 18) (by decide) hst.tl.tl.hd)
            refine va_zast hx hb hK hP (hD I J) hS q0 2 (sx_wat ad cA I J hq0) rfl (sx_in_vp hin) hd (fun H1 locs1 hP1 hD1 hS1 => ?_)
            rw [show vp_nar .boolean v = v by rcases hv with rfl | rfl <;> rfl] at hP1
            rw [sx_set (I1 := sx_uI I 18 i x.toNatClampNeg v) (J1 := J) hq0 (by rw [sx_uI_at]; rfl) (fun a b hne => ⟨sx_uI_ne I _ _ hne, rfl⟩)] at hP1
            exact hk _ _ _ _ _ hl hlv hst.tl.tl.tl h H1 locs1 ls hP1 hS1 hls
          · cases h
        · cases h
      · cases h
    · cases h
  case ireturn =>
    cases bo with
    | true =>
      injection hr with hr; injection hr with hr1 hr2; subst hr1; subst hr2
      obtain ⟨rfl, rfl⟩ := hlen hL
      have h : (match (generalizing := false) st with | [.inl x] => if x = 0 ∨ x = 1 then some (some (.inl x), I, J) else none | _ => none) = some res := h
      split at h
      · next x hq9 =>
        skip
        split at h
        · next hx01 => exact hret (some (.inl x)) I J (Option.some.inj h).symm ⟨hd, fun _ => hx01, rfl⟩
        · cases h
      · cases h
    | false =>
      injection hr with hr; injection hr with hr1 hr2; subst hr1; subst hr2
      obtain ⟨rfl, rfl⟩ := hlen hL
      have h : (match (generalizing := false) st with | [.inl x] => some (some (.inl x), I, J) | _ => none) = some res := h
      split at h
      · next x hq9 => skip; exact hret (some (.inl x)) I J (Option.some.inj h).symm ⟨hd, (fun q => by cases q), rfl⟩
      · cases h
  case lreturn =>
    injection hr with hr; injection hr with hr1 hr2; subst hr1; subst hr2
    obtain ⟨rfl, rfl⟩ := hlen hL
    have h : (match (generalizing := false) st with | [.inr (.inl x)] => some (some (.inr (.inl x)), I, J) | _ => none) = some res := h
    split at h
    · next x hq9 => skip; exact hret (some (.inr (.inl x))) I J (Option.some.inj h).symm ⟨hd, rfl⟩
    · cases h
  case return_ =>
    injection hr with hr; injection hr with hr1 hr2; subst hr1; subst hr2
    obtain ⟨rfl, rfl⟩ := hlen hL
    have h : (match (generalizing := false) st with | [] => some (none, I, J) | _ => none) = some res := h
    split at h
    · next hq9 => skip; exact hret none I J (Option.some.inj h).symm ⟨hd, rfl⟩
    · cases h
  case invokevirtual j =>
    simp only [sx_rs] at hr
    split at hr
    · next q hq =>
      injection hr with hr; injection hr with hr1 hr2; subst hr1; subst hr2
      obtain ⟨rfl, rfl⟩ := hlen hL
      obtain ⟨h1, h2, h3⟩ := sx_fd_spec hq
      exact hcv j q (fun v u I J => k (pc + 3) lv (v.toList ++ u) I J) hq hd h (fun v u I1 J1 hv hf => hk _ _ _ _ _ hl hlv hv hf)
    · cases hr
  case invokestatic j =>
    simp only [sx_rs] at hr
    split at hr
    · next q hq =>
      injection hr with hr; injection hr with hr1 hr2; subst hr1; subst hr2
      obtain ⟨rfl, rfl⟩ := hlen hL
      exact hcs j q (fun v u I J => k (pc + 3) lv (v.toList ++ u) I J) (Or.inl hq) hd h (fun v u I1 J1 hv hf => hk _ _ _ _ _ hl hlv hv hf)
    · split at hr
      · next q hq =>
        injection hr with hr; injection hr with hr1 hr2; subst hr1; subst hr2
        obtain ⟨rfl, rfl⟩ := hlen hL
        exact hcs j q (fun v u I J => k (pc + 3) lv (v.toList ++ u) I J) (Or.inr hq) hd h (fun v u I1 J1 hv hf => hk _ _ _ _ _ hl hlv hv hf)
      · split at hr
        · next q hq =>
          obtain ⟨h1, h2, h3⟩ := sx_fd_spec hq
          have h4 := List.all_eq_true.mp sx_ok_9 q h1
          by_cases hz : q.2.2.1 = 0
          · rw [if_pos hz] at hr h4
            injection hr with hr; injection hr with hr1 hr2; subst hr1; subst hr2
            obtain ⟨rfl, rfl⟩ := hlen hL
            have hlk := sx_inb h4 rfl
            rw [h2, h3] at hlk
            have h : (match (generalizing := false) st with | .inl y :: .inl x :: u => if sx_cs u ≤ 8 then k (pc + 3) lv (.inl (if y < x then y else x) :: u) I J else none | _ => none) = some res := h
            split at h
            · next y x u hq9 =>
              split at h
              · next c6 =>
                intro H locs ls hP hS hls
                have hcs8 : ((u.map (sx_rv ad)).map fun v => v.category).sum ≤ 8 := by
                  rw [List.map_map]
                  have : List.map ((fun v => Value.category v) ∘ sx_rv ad) u = u.map sx_cat := List.map_congr_left (fun v _ => sx_rv_cat ad v)
                  rw [this]; exact c6
                exact va_mmin hx hb (hml.trans hls.1.symm) hown (hts _ hlk) (hts _ (sx_inb (i := 548) (by decide +kernel) rfl)) (hts _ (sx_inb (i := 78) (by decide +kernel) rfl)) (hts _ (sx_inb (i := 549) (by decide +kernel) rfl)) (by omega) (by omega) hcl.1 hcl.2 hd (hk _ _ _ _ _ hl hlv (hst.tl.tl.co (v := .inl _) trivial) h H locs ls hP hS hls)
              · cases h
            · cases h
          · rw [if_neg hz] at hr h4
            injection hr with hr; injection hr with hr1 hr2; subst hr1; subst hr2
            obtain ⟨rfl, rfl⟩ := hlen hL
            have hlk := sx_inb h4 rfl
            rw [h2, h3] at hlk
            have h : (match (generalizing := false) st with | .inr (.inl y) :: .inr (.inl x) :: u => if sx_cs u ≤ 8 then k (pc + 3) lv (.inr (.inl (if y < x then x else y)) :: u) I J else none | _ => none) = some res := h
            split at h
            · next y x u hq9 =>
              split at h
              · next c6 =>
                intro H locs ls hP hS hls
                have hcs8 : ((u.map (sx_rv ad)).map fun v => v.category).sum ≤ 8 := by
                  rw [List.map_map]
                  have : List.map ((fun v => Value.category v) ∘ sx_rv ad) u = u.map sx_cat := List.map_congr_left (fun v _ => sx_rv_cat ad v)
                  rw [this]; exact c6
                exact va_mmax_long hx hb (hml.trans hls.1.symm) hown (hts _ hlk) (hts _ (sx_inb (i := 700) (by decide +kernel) rfl)) (hts _ (sx_inb (i := 78) (by decide +kernel) rfl)) (hts _ (sx_inb (i := 701) (by decide +kernel) rfl)) (by omega) (by omega) hcl.1 hcl.2 hd (hk _ _ _ _ _ hl hlv (hst.tl.tl.co (v := .inr (.inl _)) trivial) h H locs ls hP hS hls)
              · cases h
            · cases h
        · split at hr
          · next hac =>
            obtain ⟨rfl, rfl⟩ := hac
            injection hr with hr; injection hr with hr1 hr2; subst hr1; subst hr2
            obtain ⟨rfl, rfl⟩ := hlen hL
            have h : (match (generalizing := false) st with
              | .inl n :: .inl dp :: .inr (.inr (kb, b)) :: .inl sp :: .inr (.inr (ka, a)) :: u => if ka = 22 ∧ kb = 22 then (if 0 ≤ sp ∧ 0 ≤ dp ∧ 0 ≤ n ∧ sp.toNatClampNeg + n.toNatClampNeg ≤ 40 ∧ dp.toNatClampNeg + n.toNatClampNeg ≤ 40 ∧ sx_cs u ≤ 8 then k (pc + 3) lv u (sx_cp I a b sp.toNatClampNeg dp.toNatClampNeg n.toNatClampNeg) J else none) else none
              | _ => none) = some res := h
            split at h
            · next n dp kb b sp ka a u hq9 =>
              skip
              split at h
              · next hkk =>
                obtain ⟨rfl, rfl⟩ := hkk
                split at h
                · next hb6 =>
                  obtain ⟨c1, c2, c3, c4, c5, c6⟩ := hb6
                  intro H locs ls hP hS hls
                  obtain ⟨qa, hqa⟩ := sx_at (sx_idm (kd := 22) (by decide) hst.tl.tl.tl.tl.hd)
                  obtain ⟨qb, hqb⟩ := sx_at (sx_idm (kd := 22) (by decide) hst.tl.tl.hd)
                  have hcs8 : (u.map fun v => (sx_rv ad v).category).sum ≤ 8 := by
                    have : (u.map fun v => (sx_rv ad v).category) = u.map sx_cat := List.map_congr_left (fun v _ => sx_rv_cat ad v)
                    rw [this]; exact c6
                  refine va_copyi (ty := .int) hx hb (hml.trans hls.1.symm) hown (hts _ (sx_inb (i := 400) (by decide +kernel) rfl)) (hts _ (sx_inb (i := 402) (by decide +kernel) rfl)) (hts _ (sx_inb (i := 401) (by decide +kernel) rfl)) (hts _ (sx_inb (i := 76) (by decide +kernel) rfl)) hK hP (hD I J) hS qa qb 0 0 (sx_wat ad cA I J hqa) (sx_wat ad cA I J hqb) rfl rfl rfl (Int32.not_lt.mpr c1) (Int32.not_lt.mpr c2) (Int32.not_lt.mpr c3) c4 c5 (fun _ _ => rfl) (by omega) ?_ hd (fun H1 locs1 hP1 hD1 hS1 => ?_)
                  · have e9 : nativeFrameWords "java/lang/System" "arraycopy" 5 = 7 := by decide +kernel
                    rw [e9, List.map_map]
                    have : (List.map ((fun v => Value.category v) ∘ sx_rv ad) u).sum ≤ 8 := hcs8
                    omega
                  · rw [sx_set (I1 := sx_cp I a b sp.toNatClampNeg dp.toNatClampNeg n.toNatClampNeg) (J1 := J) hqb (by
                      have : sx_cp I a b sp.toNatClampNeg dp.toNatClampNeg n.toNatClampNeg 22 b = va_cpy (I 22 a) (I 22 b) sp.toNatClampNeg dp.toNatClampNeg n.toNatClampNeg := by funext z; simp [sx_cp]
                      rw [this]; rfl) (fun x y hne => ⟨by funext z; simp only [sx_cp]; rw [if_neg hne], rfl⟩)] at hP1
                    exact hk _ _ _ _ _ hl hlv hst.tl.tl.tl.tl.tl h H1 locs1 ls hP1 hS1 hls
                · cases h
              · cases h
            · cases h
          · cases hr
  all_goals (exact absurd hr (by simp [sx_rs]))
end SXS
