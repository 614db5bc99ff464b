def cx_P (D : va_G) (b : Nat) (cA : Nat → ClassId) (ws : List cx_C) (U : State) : Prop := U.heap.size = b + ws.length ∧ va_P D vwCl (cx_ws b cA ws) U.heap ∧ va_K D vwCl (sx_ty cA) U ∧ cx_N U
def cx_B (D : va_G) (b : Nat) (cA : Nat → ClassId) (ws : List cx_C) (_ : Unit) (t : State) : Prop := t.heap.size = b + ws.length ∧ va_P D vwCl (cx_ws b cA ws) t.heap
def cx_rm (d kd : Nat) : Room := { frames := d + 1, cells := (cx_q kd).1, slots := (cx_q kd).2, locals := 40 * d + 100 }
theorem cx_m_pos (kd : Nat) : 1 ≤ cx_m kd ∧ cx_m kd ≤ 2 := by unfold cx_m; split <;> decide
theorem cx_en_len (kd i : Nat) : (cx_en kd i).length = cx_m kd := by
  have := (cx_m_pos kd).1
  rw [cx_en, List.length_cons, List.length_replicate]; omega
theorem cx_en_get {kd i j : Nat} {v : sx_V} (h : sx_get (cx_en kd i) j = some v) : j = 0 ∧ v = .inr (.inr (0, i)) := by
  cases j with
  | zero => cases h; exact ⟨rfl, rfl⟩
  | succ j =>
    unfold sx_get cx_en at h
    rw [List.getElem?_cons_succ, List.getElem?_replicate] at h
    split at h
    · next v1 hv => split at hv <;> cases hv
    · cases h
theorem cx_N.warm {s U : State} (hW : s.WarmedH U.vm) (h : cx_N s) : cx_N U := ⟨fun e he => va_Nw.warmM hW (h.1 e he), h.2.1.moved hW.alike, h.2.2.moved hW.alike⟩
theorem cx_blind {av : List Value} {D : va_G} {b : Nat} {cA : Nat → ClassId} {ws : List cx_C} : FrameBlind (va_Pc av (cx_P D b cA ws)) := by
  intro a U g mk h
  obtain ⟨h0, h1, hP, hK, hN⟩ := h
  exact ⟨h0, h1, hP, va_K.moved (u := U) (U := U.calling g mk a) (Vm.Alike.refl U.vm) hK, fun e he => va_Nw.same (u := U) (U := U.calling g mk a) rfl rfl (hN.1 e he), va_AO.moved (u := U) (U := U.calling g mk a) (Vm.Alike.refl U.vm) hN.2.1, va_AO.moved (u := U) (U := U.calling g mk a) (Vm.Alike.refl U.vm) hN.2.2⟩
def cx_RUN (l : Launch) (n : Nat) : Prop := ∀ (d own bn bs : Nat) (cc : ByteArray) (z : Nat) (p : Program) (e : Env) (R : Room) (s : State) (m : MethodId) (args : Array Value) (below : List Frame) (meth : Method) (c : Code) (Q : State → Prop) (D : va_G) (b g : Nat) (cA : Nat → ClassId) (nL n0 s0 : Nat) (res : sx_L × List sx_V × List cx_C),
  cx_G p R s m args meth c D b cA own cc nL d bn bs n0 s0 →
  (∀ (lv : sx_L) (st : List sx_V) (ws : List cx_C), lv.length = nL → res = (lv, st, ws) → cx_W p l e R s m args below meth c Q D b g cA nL n0 s0 z lv st ws) →
  ∀ (pc : Nat) (lv : sx_L) (st : List sx_V) (ws : List cx_C), lv.length = nL → cx_go n d bn bs own cc z pc lv st ws = some res → cx_W p l e R s m args below meth c Q D b g cA nL n0 s0 pc lv st ws
set_option maxHeartbeats 4000000 in
theorem cx_met {l : Launch} {n : Nat} (IH : cx_RUN l n) {kd d i : Nat} (h5 : kd < 10) {ws ws1 : List cx_C} {lv1 : sx_L} (h : cx_go n d (ws.length + (cx_q kd).1) (cx_sl ws + (cx_q kd).2) kd (cx_c kd) (cx_z kd) 0 (cx_en kd i) [] ws = some (lv1, [], ws1)) (hw1 : ws1.length = ws.length + (cx_q kd).1) (hw2 : cx_sl ws1 = cx_sl ws + (cx_q kd).2) (D : va_G) (b : Nat) (cA : Nat → ClassId) :
    Met l (cx_y kd) (sx_w (cx_y kd) (cx_c kd) (cx_m kd) none) (cx_rm d kd) (va_Pc [.ref (b + i)] (cx_P D b cA ws)) (va_Qv (fun _ : Unit => True) (cx_B D b cA ws1) (cx_A b)) (cx_q kd).1 (cx_q kd).2 (cx_A b) := by
  obtain ⟨y1, y2, y3, y4, y5, y6⟩ := cx_yc kd h5
  refine Met.ofW (cc := cx_c kd) (maxL := cx_m kd) (ret := none) y4 rfl ?_
  intro p e s m args below meth c s₁ B hml hv
  obtain ⟨rfl, hsz, hP, hK, hN⟩ := hv
  have hx := B.exec
  have hb := B.bytes
  have hr := B.returns
  have hts := atoms_spec (ws := sx_w (cx_y kd) (cx_c kd) (cx_m kd) none) B.pre
  have hown : s.vm.findClass (sx_cn kd) = some m.cls := by rw [← y1]; exact findClass_of_methodNamed B.named
  have hlocks := B.notSynchronized
  have hin : meth.name = "<init>" := ((name_of_methodNamed B.named B.method).1).trans y2
  have hret : decode (cx_c kd) (cx_z kd) = .ok (.return_, 1) := of_decide_eq_true (List.all_eq_true.mp cx_okz kd (List.mem_range.mpr h5))
  rw [lg_entry_eq]
  have hl := lv_entry ([.ref (b + i)]) (n := cx_m kd) (cx_m_pos kd).1
  generalize ((lg_sl [.ref (b + i)] ++ List.replicate (cx_m kd - (lg_sl [.ref (b + i)]).length) Slot.unset).toArray) = ls at hl ⊢
  have G : cx_G p (headSpec (sx_w (cx_y kd) (cx_c kd) (cx_m kd) none) (cx_rm d kd)).room s m [Value.ref (b + i)].toArray meth c D b cA kd (cx_c kd) (cx_m kd) d (ws.length + (cx_q kd).1) (cx_sl ws + (cx_q kd).2) ws.length (cx_sl ws) :=
    ⟨hx, hb, hml, hown, fun w hw => hts w (List.mem_cons_of_mem _ hw), hK, hN, by omega, fun _ => hin, ⟨Nat.le_refl _, Nat.le_refl _⟩, ⟨Nat.le_of_eq (Nat.add_comm _ _), Nat.le_of_eq (Nat.add_comm _ _)⟩⟩
  refine IH d kd _ _ (cx_c kd) (cx_z kd) p e _ s m _ below meth c _ D b 0 cA (cx_m kd) ws.length (cx_sl ws) (lv1, [], ws1) G ?_ 0 (cx_en kd i) [] ws (cx_en_len kd i) h s.heap [] ls 0 0 hsz hP va_S.rf ?_ (by omega) (by omega)
  · intro lv st ws2 hl2 he H locs ls cells slots hZ hP1 hS1 hls1 hc1 hc2
    cases he
    obtain rfl : cells = (cx_q kd).1 := by omega
    obtain rfl : slots = (cx_q kd).2 := by omega
    exact W.vret hx hb hr (fun t ht hW => ⟨⟨(), rfl, trivial, by unfold cx_B; rw [ht]; exact ⟨hZ, hP1⟩⟩, hS1.F ht⟩) hS1.2.2 hret
  · refine sx_lsub hl ?_
    rintro ⟨j, w⟩ hq
    obtain ⟨v, hv, rfl⟩ := sx_as_mem.mp hq
    obtain ⟨rfl, rfl⟩ := cx_en_get hv
    exact List.mem_cons_self
set_option maxHeartbeats 4000000 in
theorem cx_run (l : Launch) : ∀ n : Nat, cx_RUN l n := by
  intro n
  induction n with
  | zero => intro d own bn bs cc z p e R s m args below meth c Q D b g cA nL n0 s0 res G hend pc lv st ws hl h; cases h
  | succ n IH =>
    intro d own bn bs cc z p e R s m args below meth c Q D b g cA nL n0 s0 res G hend pc lv st ws hl h
    unfold cx_go at h
    split at h
    · next hz =>
      subst hz
      exact hend lv st ws hl (Option.some.inj h).symm
    · split at h
      · cases h
      · next r hr =>
        obtain ⟨ins, len⟩ := r
        refine cx_step G hr hl (fun pc lv st ws hl h => IH d own bn bs cc z p e R s m args below meth c Q D b g cA nL n0 s0 res G hend pc lv st ws hl h) ?_ h
        intro idx q i u ws1 hq hd hst hcs hcl1 hcond hcont
        cases d with
        | zero => cases hcl1
        | succ d1 =>
          dsimp only at hcl1
          split at hcl1
          · next lv1 ws2 hgo =>
            cases hcl1
            obtain ⟨hx, hb, hml, hown, hts, hK, hN, hbs, hin, hRm, hcl⟩ := G
            obtain ⟨c1, c2, c3, c4⟩ := hcond
            have h5 : q.2.2.1 < 10 := by
              rcases hq with hq | hq
              · have h4 := List.all_eq_true.mp cx_okk q (sx_fd_spec hq).1
                simp only [Bool.and_eq_true, decide_eq_true_eq] at h4
                exact h4.1
              · have h4 := List.all_eq_true.mp cx_okn q (sx_fd_spec hq).1
                simp only [Bool.and_eq_true, decide_eq_true_eq] at h4
                exact h4.1
            obtain ⟨y1, y2, y3, y4, y5, y6⟩ := cx_yc _ h5
            obtain ⟨w1, w2, w3, w4⟩ := cx_pok h5
            have hM := cx_met IH h5 hgo c3 c4 D b cA
            have hini : (Cond.initialized (cx_y q.2.2.1).cls).before args s = true := by rw [y1]; exact hts _ w2
            have hdesc : (parseMethodDescriptor (cx_y q.2.2.1).desc).map (fun d => d.parameters.length) = some 0 := by rw [y3]; decide +kernel
            have hroom : (cx_rm d1 q.2.2.1).frames + 1 ≤ R.frames ∧ 8 + (cx_m q.2.2.1 + 11) + (cx_rm d1 q.2.2.1).locals ≤ R.locals := by
              have := (cx_m_pos q.2.2.1).2
              refine ⟨?_, ?_⟩
              · show d1 + 1 + 1 ≤ _; omega
              · show 8 + (cx_m q.2.2.1 + 11) + (40 * d1 + 100) ≤ _; omega
            have hgood : GoodIn sx_big (sx_w (cx_y q.2.2.1) (cx_c q.2.2.1) (cx_m q.2.2.1) none) := sx_gd (fun w hw => by
              rcases List.mem_cons.mp hw with rfl | hw
              · exact w4
              · exact hw)
            subst hst
            intro H locs ls cells slots hZ hP hS hls hc1 hc2
            have hpre : PreS s H (va_Pc [.ref (b + i)] (cx_P D b cA ws)) (.ref (b + i) :: []) := ⟨cx_blind, fun U hU hW => ⟨rfl, by rw [hU]; exact hZ, by rw [hU]; exact hP, va_K.moved hW.alike hK, hN.warm hW⟩⟩
            have hrun : va_Run p l e R s m args below meth c H locs cells slots (cx_q q.2.2.1).1 (cx_q q.2.2.1).2 (F0 m pc ls ((Sum.inr (Sum.inr (0, i)) :: u).map (sx_rv (cx_ad b g)))) (u.map (sx_rv (cx_ad b g))) (va_Qv (fun _ : Unit => True) (cx_B D b cA ws1) (cx_A b) (Value.ref (b + i) :: []).toArray) (cx_A b) := by
              rcases hq with hq | hq
              · obtain ⟨h1, h2, h3⟩ := sx_fd_spec hq
                have h4 := List.all_eq_true.mp cx_okk q h1
                simp only [Bool.and_eq_true, decide_eq_true_eq] at h4
                have hlk := hts _ (sx_inb h4.2 rfl)
                rw [h2, h3] at hlk
                exact va_runI (b := b + i) (As := []) (rest := u.map (sx_rv (cx_ad b g))) ⟨hx, hb, hml, hown, hts⟩ hM (cwI 0 hts hgood rfl rfl rfl hini hlk (hts _ w3) y2 ⟨y5, y6, hdesc⟩ hroom) hpre rfl rfl hls.1 rfl (lv_room (sx_catsum (cx_ad b g) hcs)) hd ⟨by omega, by omega⟩
              · obtain ⟨h1, h2, h3⟩ := sx_fd_spec hq
                have hnw := hN.1 q h1
                rw [h2, h3] at hnw
                exact va_runIN (b := b + i) (host := RX8) (As := []) (rest := u.map (sx_rv (cx_ad b g))) ⟨hx, hb, hml, hown, hts⟩ hM ⟨va_cnB 0 hts hgood rfl rfl rfl hnw hini ⟨y5, y6, hdesc⟩ hroom, y2, hts _ w3⟩ hpre rfl rfl hls.1 rfl (lv_room (sx_catsum (cx_ad b g) hcs)) hd ⟨by omega, by omega⟩
            refine va_callv (a := (Value.ref (b + i) :: []).toArray) hrun hS (fun q _ hq => hq) (fun q hq => hq) (fun _ t H1 locs1 ht _ _ hB _ _ hS1 => ?_)
            unfold cx_B at hB
            rw [ht] at hB
            exact hcont H1 locs1 ls _ _ hB.1 hB.2 hS1 hls (by omega) (by omega)
          · cases hcl1
