section CXS
variable {p : Program} {l : Launch} {e : Env} {R : Room} {s : State} {m : MethodId} {args : Array Value} {below : List Frame} {meth : Method} {c : Code} {Q : State → Prop} {D : va_G} {b g : Nat} {cA : Nat → ClassId} {nL n0 s0 : Nat}
theorem cx_atyp {t : ArrayType} (h : cx_aty t < 3) : (sx_ty cA)[cx_aty t]? = some (cA (cx_aty t), newarray.typeOf t) ∧ (∀ n : Nat, vp_cell (cA (cx_aty t)) (cx_vA b (cx_aty t) n [] []) = arrV (cA (cx_aty t)) n (fun _ => defaultValue (newarray.typeOf t))) ∧ componentBytes (newarray.typeOf t) ≤ 8 ∧ Jvm.Cond.arrayClass (newarray.typeOf t) ∈ sx_big := by
  cases t <;> first | (exact absurd h (by decide)) | skip
  · exact ⟨rfl, fun n => by rfl, by decide, cx_a2⟩
  · exact ⟨rfl, fun n => by rfl, by decide, cx_a0⟩
  · exact ⟨rfl, fun n => by rfl, by decide, cx_a1⟩
theorem cx_isF {t : ArrayType} {cX : ClassId} (h : va_RA s cX (newarray.typeOf t)) : s.vm.findClass ("[" ++ (newarray.typeOf t).toString) = some cX := by
  cases t <;> exact h
set_option maxHeartbeats 4000000 in
set_option maxRecDepth 100000 in
theorem cx_step {own d bn bs : Nat} {cc : ByteArray} (G : cx_G p R s m args meth c D b cA own cc nL d bn bs n0 s0)
    {cal : Nat → Nat → List cx_C → Option (List cx_C)} {k : Nat → sx_L → List sx_V → List cx_C → cx_R} {res : sx_L × List sx_V × List cx_C} {pc len : Nat} {ins : Instr} {lv : sx_L} {st : List sx_V} {ws : List cx_C}
    (hd : decode cc pc = .ok (ins, len)) (hl : lv.length = nL)
    (hk : ∀ (pc : Nat) (lv : sx_L) (st : List sx_V) (ws : List cx_C), lv.length = nL → k pc lv st ws = some res → cx_W p l e R s m args below meth c Q D b g cA nL n0 s0 pc lv st ws)
    (hcal : ∀ (idx : Nat) (q : Nat × Nat × Nat × Nat) (i : Nat) (u : List sx_V) (ws1 : List cx_C), (sx_fd cx_lk own idx = some q ∨ sx_fd cx_ln own idx = some q) → decode cc pc = .ok (.invokespecial idx, 3) → st = .inr (.inr (0, i)) :: u → sx_cs u ≤ 8 → cal q.2.2.1 i ws = some ws1 → ws.length + (cx_q q.2.2.1).1 ≤ bn ∧ cx_sl ws + (cx_q q.2.2.1).2 ≤ bs ∧ ws1.length = ws.length + (cx_q q.2.2.1).1 ∧ cx_sl ws1 = cx_sl ws + (cx_q q.2.2.1).2 → cx_W p l e R s m args below meth c Q D b g cA nL n0 s0 (pc + 3) lv u ws1 → cx_W p l e R s m args below meth c Q D b g cA nL n0 s0 pc lv st ws)
    (h : cx_K bn bs own cal k pc ins len lv st ws = some res) : cx_W p l e R s m args below meth c Q D b g cA nL n0 s0 pc lv st ws := by
  obtain ⟨hx, hb, hml, hown, hts, hK, hN, hbs, hin, hRm, hcl⟩ := G
  have hA : ∀ q, s.heap.size ≤ q → cx_A b q := fun q hq => Nat.le_trans hbs hq
  cases ins
  case aload_n j =>
    unfold cx_K at h; dsimp only at h
    split at h
    · next hlen =>
      subst hlen
      split at h
      · next q hv =>
        intro H locs ls cells slots hZ hP hS hls hc1 hc2
        exact lv_aload_n hx hb hd rfl (sx_lat hls hv) (hk _ _ _ _ hl h H locs ls cells slots hZ hP hS hls hc1 hc2)
      · cases h
    · cases h
  case iload_n j =>
    unfold cx_K at h; dsimp only at h
    split at h
    · next hlen =>
      subst hlen
      split at h
      · next q hv =>
        intro H locs ls cells slots hZ hP hS hls hc1 hc2
        exact lv_iload_n hx hb hd rfl (sx_lat hls hv) (hk _ _ _ _ hl h H locs ls cells slots hZ hP hS hls hc1 hc2)
      · cases h
    · cases h
  case istore_n j =>
    unfold cx_K at h; dsimp only at h
    split at h
    · next hlen =>
      subst hlen
      split at h
      · next x u =>
        split at h
        · next hi =>
          intro H locs ls cells slots hZ hP hS hls hc1 hc2
          exact lv_istore_n hx hb hd rfl hls (by rw [← hl]; exact hi) rfl (fun ls1 hl1 => hk _ _ _ _ ((sx_st1_len _ _ _).trans hl) h H locs ls1 cells slots hZ hP hS (sx_has1 (v := .inl x) hl1) hc1 hc2)
        · cases h
      · cases h
    · cases h
  case astore_n j =>
    unfold cx_K at h; dsimp only at h
    split at h
    · next hlen =>
      subst hlen
      split at h
      · next x u =>
        split at h
        · next hi =>
          intro H locs ls cells slots hZ hP hS hls hc1 hc2
          exact lv_astore_n hx hb hd rfl hls (by rw [← hl]; exact hi) rfl (fun ls1 hl1 => hk _ _ _ _ ((sx_st1_len _ _ _).trans hl) h H locs ls1 cells slots hZ hP hS (sx_has1 (v := .inr (.inr x)) hl1) hc1 hc2)
        · cases h
      · cases h
    · cases h
  case iconst n =>
    unfold cx_K at h; dsimp only at h
    split at h
    · next hlen =>
      subst hlen
      intro H locs ls cells slots hZ hP hS hls hc1 hc2
      exact lv_iconst hx hb hd rfl (hk _ _ _ _ hl h H locs ls cells slots hZ hP hS hls hc1 hc2)
    · cases h
  case bipush n =>
    unfold cx_K at h; dsimp only at h
    split at h
    · next hlen =>
      obtain ⟨rfl, hn⟩ := hlen
      intro H locs ls cells slots hZ hP hS hls hc1 hc2
      exact lv_bipush hx hb hd hn (hk _ _ _ _ hl h H locs ls cells slots hZ hP hS hls hc1 hc2)
    · cases h
  case sipush n =>
    unfold cx_K at h; dsimp only at h
    split at h
    · next hlen =>
      obtain ⟨rfl, hn⟩ := hlen
      intro H locs ls cells slots hZ hP hS hls hc1 hc2
      exact lv_sipush hx hb hd hn (hk _ _ _ _ hl h H locs ls cells slots hZ hP hS hls hc1 hc2)
    · cases h
  case dup =>
    unfold cx_K at h; dsimp only at h
    split at h
    · next hlen =>
      subst hlen
      split at h
      · next v u =>
        split at h
        · next hc =>
          intro H locs ls cells slots hZ hP hS hls hc1 hc2
          exact lv_dup hx hb hd ((sx_rv_cat _ v).trans hc) (hk _ _ _ _ hl h H locs ls cells slots hZ hP hS hls hc1 hc2)
        · cases h
      · cases h
    · cases h
  case iinc j n =>
    unfold cx_K at h; dsimp only at h
    split at h
    · next hlen =>
      subst hlen
      split at h
      · next x hv =>
        intro H locs ls cells slots hZ hP hS hls hc1 hc2
        obtain ⟨q, hq⟩ := List.getElem?_of_mem (sx_as_mem (ad := cx_ad b g).mpr ⟨_, hv, rfl⟩)
        exact lv_iinc hx hb hd hls hq rfl (by rw [← hl]; exact sx_get_lt hv) rfl (fun ls1 hl1 => hk _ _ _ _ ((sx_st1_len _ _ _).trans hl) h H locs ls1 cells slots hZ hP hS (sx_has1 (v := .inl (x + Int32.ofInt n)) hl1) hc1 hc2)
      · cases h
    · cases h
  case goto o =>
    unfold cx_K at h; dsimp only at h
    split at h
    · next hlen =>
      obtain ⟨rfl, ho⟩ := hlen
      intro H locs ls cells slots hZ hP hS hls hc1 hc2
      exact lv_goto hx hb hd (Int.toNat_of_nonneg ho).symm (hk _ _ _ _ hl h H locs ls cells slots hZ hP hS hls hc1 hc2)
    · cases h
  case if_icmp cd o =>
    cases cd
    case ge =>
      unfold cx_K at h; dsimp only at h
      split at h
      · next hlen =>
        obtain ⟨rfl, ho⟩ := hlen
        split at h
        · next y x u =>
          intro H locs ls cells slots hZ hP hS hls hc1 hc2
          split at h
          · next hc => exact lv_icmp_ge hx hb hd (Int.toNat_of_nonneg ho).symm (fun q => hk _ _ _ _ hl h H locs ls cells slots hZ hP hS hls hc1 hc2) (fun q => absurd hc q)
          · next hc => exact lv_icmp_ge hx hb hd (Int.toNat_of_nonneg ho).symm (fun q => absurd q hc) (fun q => hk _ _ _ _ hl h H locs ls cells slots hZ hP hS hls hc1 hc2)
        · cases h
      · cases h
    all_goals (have h : (none : cx_R) = some res := h; cases h)
  case newarray t =>
    unfold cx_K at h; dsimp only at h
    split at h
    · next hlen =>
      subst hlen
      split at h
      · next n u =>
        split at h
        · next hc =>
          obtain ⟨t1, t2, t3, t4, t5⟩ := hc
          obtain ⟨a1, a2, a3, a4⟩ := cx_atyp (b := b) (cA := cA) t1
          intro H locs ls cells slots hZ hP hS hls hc1 hc2
          refine va_newaK hx hb (hts _ a4) rfl hd rfl t2 rfl (Nat.le_trans (Nat.mul_le_mul t3 a3) (by decide)) (by omega) (by omega) hZ fun H1 cX e1 z1 o1 hAr hNm => ?_
          have hcX : cX = cA (cx_aty t) := Option.some.inj (hNm.symm.trans (cx_isF (hK.2 _ _ a1).2))
          subst hcX
          refine hk _ _ _ _ hl h H1 locs ls (cells + 1) (slots + n.toNatClampNeg) (by rw [List.length_append, z1]; simp only [List.length_cons, List.length_nil]; omega) ?_ ⟨Nat.le_trans hS.1 (by omega), fun x h1 h2 => (o1 x (by have := hS.1; omega)).trans (hS.2.1 x h1 h2), hS.2.2⟩ hls (by rw [List.length_append]; simp only [List.length_cons, List.length_nil]; omega) (by rw [cx_sl_push]; simp only [cx_sz]; omega)
          rw [cx_push]
          refine (hP.kept (fun k x hx => o1 x.1 (by have := (hP k x hx).lt; omega))).app (fun k x hx => ?_)
          have hz : k < 1 := (List.getElem?_eq_some_iff.mp hx).1
          rw [show k = 0 by omega] at hx
          cases hx
          show H1[b + ws.length]? = some (vp_cell _ _)
          exact e1.trans (congrArg some (a2 _).symm)
        · cases h
      · cases h
    · cases h
  case anewarray idx =>
    unfold cx_K at h; dsimp only at h
    split at h
    · next hlen =>
      subst hlen
      split at h
      · next q hq =>
        obtain ⟨h1, h2, h3⟩ := sx_fd_spec hq
        have h4 := List.all_eq_true.mp cx_okc q h1
        simp only [Bool.and_eq_true, decide_eq_true_eq] at h4
        obtain ⟨h5, h6⟩ := h4
        rw [h2, h3] at h6
        have hlk := hts _ (sx_inb h6 rfl)
        split at h
        · next n u =>
          split at h
          · next hc =>
            obtain ⟨t1, t2, t3, t4, t5⟩ := hc
            intro H locs ls cells slots hZ hP hS hls hc1 hc2
            obtain ⟨hov, hty⟩ : va_AO (sx_cn q.2.2.1) s ∧ (sx_ty cA)[q.2.2.1 - 1]? = some (cA (q.2.2.1 - 1), .object (sx_cn q.2.2.1)) := by
              rcases t1 with t1 | t1 <;> rw [t1]
              · exact ⟨hN.2.1, rfl⟩
              · exact ⟨hN.2.2, rfl⟩
            have hvA : cx_vA b (q.2.2.1 - 1) n.toNatClampNeg [] [] = (n.toNatClampNeg, .inr (.inr (.inr (.inr (fun _ => none))))) := by
              rcases t1 with t1 | t1 <;> rw [t1] <;> rfl
            refine W.anew hx hb hown hlk (va_AO.use hov) rfl hd rfl t2 (Nat.le_trans (Nat.mul_le_mul t3 (Nat.le_refl 4)) (by decide)) (by omega) (by omega) fun cX kA comp f1 f2 f3 f4 => ?_
            have hcX : cX = cA (q.2.2.1 - 1) := by
              obtain ⟨_, _, -, -, -, g4⟩ := (hK.2 _ _ hty).2
              exact Option.some.inj (f1.symm.trans g4)
            subst hcX
            generalize hH1 : H.push ({ cls := cA (q.2.2.1 - 1), slots := Array.replicate n.toNatClampNeg .null, vm := .none } : Cell) = H1
            have z1 : H1.size = H.size + 1 := by rw [← hH1, Array.size_push]
            have e1 : H1[H.size]? = some (arrV (cA (q.2.2.1 - 1)) n.toNatClampNeg (fun _ => .null)) := by rw [← hH1, Array.getElem?_push_size, ← arrV_new]
            have o1 : ∀ q : Nat, q < H.size → H1[q]? = H[q]? := fun q hq => by rw [← hH1, Array.getElem?_push, if_neg (Nat.ne_of_lt hq)]
            rw [hZ]
            refine hk _ _ _ _ hl h H1 locs ls (cells + 1) (slots + n.toNatClampNeg) (by rw [List.length_append, z1]; simp only [List.length_cons, List.length_nil]; omega) ?_ ⟨Nat.le_trans hS.1 (by omega), fun x h1 h2 => (o1 x (by have := hS.1; omega)).trans (hS.2.1 x h1 h2), hS.2.2⟩ hls (by rw [List.length_append]; simp only [List.length_cons, List.length_nil]; omega) (by rw [cx_sl_push]; simp only [cx_sz]; omega)
            rw [cx_push]
            refine (hP.kept (fun k x hx => o1 x.1 ((hP k x hx).lt))).app (fun k x hx => ?_)
            have hz : k < 1 := (List.getElem?_eq_some_iff.mp hx).1
            rw [show k = 0 by omega] at hx
            cases hx
            show H1[b + ws.length]? = some (vp_cell _ (cx_vA b (q.2.2.1 - 1) n.toNatClampNeg [] []))
            rw [hvA, vp_cell_q, ← hZ]
            exact e1
          · cases h
        · cases h
      · cases h
    · cases h
  case new idx =>
    unfold cx_K at h; dsimp only at h
    split at h
    · next hlen =>
      subst hlen
      split at h
      · next q hq =>
        obtain ⟨h1, h2, h3⟩ := sx_fd_spec hq
        have h4 := List.all_eq_true.mp cx_okc q h1
        simp only [Bool.and_eq_true, decide_eq_true_eq] at h4
        obtain ⟨h5, h6⟩ := h4
        rw [h2, h3] at h6
        obtain ⟨w1, w2, -, -⟩ := cx_pok h5
        split at h
        · next hc =>
          obtain ⟨t4, t5⟩ := hc
          intro H locs ls cells slots hZ hP hS hls hc1 hc2
          have hKn := hK.1 _ _ (sx_vwc _ h5)
          refine W.newcK hx hb hown (hts _ (sx_inb h6 rfl)) (hts _ w1) (hts _ w2) rfl hd (by omega) (by omega) hKn.2.1 hZ fun H1 kC hkC e1 z1 o1 => ?_
          refine hk _ _ _ _ hl h H1 locs ls (cells + 1) (slots + (sx_ft q.2.2.1).length) (by rw [List.length_append, z1]; simp only [List.length_cons, List.length_nil]; omega) ?_ ⟨Nat.le_trans hS.1 (by omega), fun x h1 h2 => (o1 x (by have := hS.1; omega)).trans (hS.2.1 x h1 h2), hS.2.2⟩ hls (by rw [List.length_append]; simp only [List.length_cons, List.length_nil]; omega) (by rw [cx_sl_push]; simp only [cx_sz, cx_new, List.length_map]; omega)
          rw [cx_push]
          refine (hP.kept (fun k x hx => o1 x.1 (by have := (hP k x hx).lt; omega))).app (fun k x hx => ?_)
          have hz : k < 1 := (List.getElem?_eq_some_iff.mp hx).1
          rw [show k = 0 by omega] at hx
          cases hx
          exact ⟨_, sx_vwc _ h5, (u_born (sx_cy _) hts (sx_uws _ h5) hKn hkC e1 (sx_tyo _ h5)).to (cx_born b h5)⟩
        · cases h
      · cases h
    · cases h
  case invokespecial idx =>
    unfold cx_K at h; dsimp only at h
    split at h
    · next hlen =>
      subst hlen
      split at h
      · next i u =>
        split at h
        · next hcs =>
          split at h
          · next q hq =>
            obtain ⟨h1, h2, h3⟩ := sx_fd_spec hq
            have h6 := List.all_eq_true.mp cx_oko q h1
            rw [h2, h3] at h6
            intro H locs ls cells slots hZ hP hS hls hc1 hc2
            refine W.objInit hx hb hown (hts _ (sx_inb h6 rfl)) (hts _ cx_oi) (hts _ cx_oc) rfl (by rw [hml]; exact hls.1) rfl hd (by omega) ?_ (hk _ _ _ _ hl h H locs ls cells slots hZ hP hS hls hc1 hc2)
            have := sx_catsum (cx_ad b g) hcs
            show 2 * 0 + _ + 12 ≤ _
            omega
          · split at h
            · next q hq =>
              split at h
              · next ws1 hw =>
                split at h
                · next hc => exact hcal idx q i u ws1 (Or.inl hq) hd rfl hcs hw hc (hk _ _ _ _ hl h)
                · cases h
              · cases h
            · split at h
              · next q hq =>
                split at h
                · next ws1 hw =>
                  split at h
                  · next hc => exact hcal idx q i u ws1 (Or.inr hq) hd rfl hcs hw hc (hk _ _ _ _ hl h)
                  · cases h
                · cases h
              · cases h
        · cases h
      · cases h
    · cases h
  case putfield idx =>
    unfold cx_K at h; dsimp only at h
    split at h
    · next hlen =>
      subst hlen
      split at h
      · next q hq =>
        obtain ⟨h1, h2, h3⟩ := sx_fd_spec hq
        obtain ⟨f1, f2, f3, f4, f5⟩ := sx_okf_spec h1
        rw [h2, h3] at f5
        split at h
        · next i q0 u =>
          split at h
          · next o ho =>
            split at h
            · next hc =>
              obtain ⟨t1, t2, t3, t4⟩ := hc
              obtain ⟨kd, fs⟩ := o
              dsimp only at t1 t3 h
              subst t1
              rw [t4] at f3
              obtain ⟨g1, g2⟩ := cx_fin _ f1 _ f2 f3
              obtain ⟨g3, g4⟩ := cx_fitR g2 (b + i)
              intro H locs ls cells slots hZ hP hS hls hc1 hc2
              subst t2
              refine cx_putF hx hb hts f1 f2 f4 (hts _ f5) hown hK hP (cx_D b cA ws) hS q0 (cx_wat ho) g1 (hin f1) g3 g4 (by rw [List.length_map]; exact t3) hd (fun H1 locs1 z1 hP1 hS1 => ?_)
              refine hk _ _ _ _ hl h H1 locs1 ls cells slots (by rw [List.length_set, z1]; exact hZ) ?_ hS1 hls (by rw [List.length_set]; exact hc1) (by rw [cx_sl_set ho (by simp only [cx_sz, List.length_set])]; exact hc2)
              rw [cx_wset]
              show va_P D vwCl ((cx_ws b cA ws).set q0 (b + q0, .inr (_, (fs.set _ _).map (cx_fv b)))) H1
              rw [cx_up_fs]
              exact hP1
            · cases h
          · cases h
        · next x q0 u =>
          split at h
          · next o ho =>
            split at h
            · next hc =>
              obtain ⟨t1, t3, t4⟩ := hc
              obtain ⟨kd, fs⟩ := o
              dsimp only at t1 t3 h
              subst t1
              rw [t4] at f3
              obtain ⟨g1, g2⟩ : (sx_ct (q.2.2.1 / 256) (q.2.2.1 / 4 % 64)).2.2.2 = false ∧ sx_cy (q.2.2.1 / 256) (q.2.2.1 / 4 % 64) = .int := by
                rcases sx_fto _ f1 _ f2 with z | z | z | z
                · exact ⟨z.1, z.2.1⟩
                · rw [f3] at z; cases z.2.2
                · rw [f3] at z; cases z.2.2
                · rw [f3] at z; cases z
              intro H locs ls cells slots hZ hP hS hls hc1 hc2
              refine cx_putI hx hb hts f1 f2 f4 (hts _ f5) hown hK hP (cx_D b cA ws) hS q0 (cx_wat ho) g1 (by rw [g2]; rfl) (by rw [g2]; rfl) (by rw [List.length_map]; exact t3) hd (fun H1 locs1 z1 hP1 hS1 => ?_)
              refine hk _ _ _ _ hl h H1 locs1 ls cells slots (by rw [List.length_set, z1]; exact hZ) ?_ hS1 hls (by rw [List.length_set]; exact hc1) (by rw [cx_sl_set ho (by simp only [cx_sz, List.length_set])]; exact hc2)
              rw [cx_wset]
              show va_P D vwCl ((cx_ws b cA ws).set q0 (b + q0, .inr (_, (fs.set _ _).map (cx_fv b)))) H1
              rw [cx_up_fs]
              exact hP1
            · cases h
          · cases h
        · cases h
      · cases h
    · cases h
  case getfield idx =>
    unfold cx_K at h; dsimp only at h
    split at h
    · next hlen =>
      subst hlen
      split at h
      · next q hq =>
        obtain ⟨h1, h2, h3⟩ := sx_fd_spec hq
        obtain ⟨f1, f2, f3, f4, f5⟩ := sx_okf_spec h1
        rw [h2, h3] at f5
        split at h
        · next q0 u =>
          split at h
          · next o ho =>
            split at h
            · next hc =>
              obtain ⟨kd, fs⟩ := o
              dsimp only at hc h
              subst hc
              split at h
              · next i hi =>
                intro H locs ls cells slots hZ hP hS hls hc1 hc2
                exact va_get hx hb hts (sx_uws _ f1) hown hK hP q0 (cx_wat ho) (sx_vwc _ f1) _ f2 (hts _ f5) (fun z hz => by rw [f4] at hz; exact hz) (v := .ref (b + i)) (by rw [List.getElem?_map, hi]; rfl) hd (hk _ _ _ _ hl h H locs ls cells slots hZ hP hS hls hc1 hc2)
              · cases h
            · cases h
          · cases h
        · cases h
      · cases h
    · cases h
  case iastore =>
    unfold cx_K at h; dsimp only at h
    split at h
    · next hlen =>
      subst hlen
      split at h
      · next v x q0 u =>
        split at h
        · next o ho =>
          split at h
          · next hc =>
            obtain ⟨t, n, us, rs⟩ := o
            obtain ⟨t1, t2⟩ := hc
            dsimp only at t1 t2 h
            subst t1
            intro H locs ls cells slots hZ hP hS hls hc1 hc2
            refine cx_iast hx hb hK hP (cx_D b cA ws) hS q0 0 (cx_wat ho) rfl (sx_in_vp t2) hd (fun H1 locs1 z1 hP1 hS1 => ?_)
            refine hk _ _ _ _ hl h H1 locs1 ls cells slots (by rw [List.length_set, z1]; exact hZ) ?_ hS1 hls (by rw [List.length_set]; exact hc1) (by rw [cx_sl_set ho (by rfl)]; exact hc2)
            rw [cx_wset]
            exact hP1
          · cases h
        · cases h
      · cases h
    · cases h
  case aastore =>
    unfold cx_K at h; dsimp only at h
    split at h
    · next hlen =>
      subst hlen
      split at h
      · next i x q0 u =>
        split at h
        · next o ho =>
          split at h
          · next o2 ho2 =>
            split at h
            · next hc =>
              obtain ⟨t, n, us, rs⟩ := o
              obtain ⟨kd, fs⟩ := o2
              obtain ⟨t1, t2, t3⟩ := hc
              dsimp only at t1 t2 t3 h
              subst t2
              intro H locs ls cells slots hZ hP hS hls hc1 hc2
              rcases t1 with rfl | rfl
              · refine cx_aast hx hb hK hP (cx_D b cA ws) hS q0 3 i 4 (cx_wat ho) rfl (cx_wat ho2) (r := (sx_cn 4, sx_ct 4, (sx_ft 4).length)) rfl (sx_in_vp t3) hd (fun H1 locs1 z1 hP1 hS1 => ?_)
                refine hk _ _ _ _ hl h H1 locs1 ls cells slots (by rw [List.length_set, z1]; exact hZ) ?_ hS1 hls (by rw [List.length_set]; exact hc1) (by rw [cx_sl_set ho (by rfl)]; exact hc2)
                rw [cx_wset]
                exact hP1
              · refine cx_aast hx hb hK hP (cx_D b cA ws) hS q0 4 i 5 (cx_wat ho) rfl (cx_wat ho2) (r := (sx_cn 5, sx_ct 5, (sx_ft 5).length)) rfl (sx_in_vp t3) hd (fun H1 locs1 z1 hP1 hS1 => ?_)
                refine hk _ _ _ _ hl h H1 locs1 ls cells slots (by rw [List.length_set, z1]; exact hZ) ?_ hS1 hls (by rw [List.length_set]; exact hc1) (by rw [cx_sl_set ho (by rfl)]; exact hc2)
                rw [cx_wset]
                exact hP1
            · cases h
          · cases h
        · cases h
      · cases h
    · cases h
  all_goals (have h : (none : cx_R) = some res := h; cases h)
end CXS
