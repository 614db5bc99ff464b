def cx_add (b g t0 t1 t2 : Nat) : Nat → Nat → Nat := fun kd i => if kd = 15 then (match i with | 0 => t0 | 1 => t1 | _ => t2) else if kd = 19 then g else b + cx_pos kd i
theorem cx_add_ne (b g t0 t1 t2 : Nat) (kd i : Nat) (h1 : kd ≠ 15) (h2 : kd ≠ 19) : cx_add b g t0 t1 t2 kd i = b + cx_pos kd i := by
  unfold cx_add
  rw [if_neg h1, if_neg h2]
set_option maxHeartbeats 4000000 in
set_option maxRecDepth 100000 in
/-- from the law's entry, for every script of at most 384 ints, the law comes to its end with true -/
theorem whole_start {p : Program} {e : Env} {s : State} {m : MethodId} {below : List Frame} {meth : Method} {c : Code} (l : Launch) (hflags : l.flags = flags0) {b L : Nat} {xs : Nat → Int32} (hL : L ≤ 384) (C0 : lw_At p s m meth c b L xs) : W p l e room_1 s m #[Value.ref b] below meth c s.heap [] 0 0 (lw_Z below #[Value.ref b] s) (entryFrame m ([Value.ref b] : List Value).toArray 4) := by
  obtain ⟨hx, hb, hr, hml, hown, htb, hX, hbl, hlocks, hgv⟩ := C0
  have hts := cx_big htb
  obtain ⟨D, cA, hK⟩ := cx_K0 htb
  obtain ⟨t0, z0, y0⟩ := cx_st htb hgv 0 (by decide)
  obtain ⟨t1, z1, y1⟩ := cx_st htb hgv 1 (by decide)
  obtain ⟨t2, z2, y2⟩ := cx_st htb hgv 2 (by decide)
  have had := cx_add_ne s.heap.size b t0 t1 t2
  have had15 : ∀ i, cx_add s.heap.size b t0 t1 t2 15 i = (match i with | 0 => t0 | 1 => t1 | _ => t2) := fun i => rfl
  have had19 : cx_add s.heap.size b t0 t1 t2 19 0 = b := rfl
  obtain ⟨lv1, ws, hout, hlv1, hws1, hws2, hall⟩ : ∃ (lv1 : sx_L) (ws : List cx_C), cx_out = some (lv1, [], ws) ∧ lv1 = cx_lv1 ∧ ws.length ≤ 600 ∧ cx_sl ws ≤ 10000 ∧ cx_all ws = true := by
    have h := cx_chk
    unfold cx_good at h
    split at h
    · next lv ws hq =>
      simp only [Bool.and_eq_true, decide_eq_true_eq] at h
      exact ⟨lv, ws, hq, h.1.1.1, h.1.1.2, h.1.2, h.2⟩
    · cases h
  subst hlv1
  have hl := lv_entry ([.ref b]) (n := 4) (Nat.le_of_ble_eq_true rfl)
  rw [lg_entry_eq]
  generalize (lg_sl ([.ref b]) ++ List.replicate (4 - (lg_sl ([.ref b])).length) Slot.unset).toArray = ls at hl ⊢
  have hl : lv_has ls 4 [(0, .ref b)] := hl
  have hl0 : lv_has ls 4 (sx_as (cx_ad s.heap.size b) cx_lv0) := hl
  have hown2 : s.vm.findClass (sx_cn 10) = some m.cls := hown
  have G0 : cx_G p room_1 s m #[Value.ref b] meth c D s.heap.size cA 10 cL_law 4 4 600000 7302250 0 0 := ⟨hx, hb, hml, hown2, hts, hK, cx_N0 htb, Nat.le_refl _, fun q => absurd q (by decide), ⟨by decide, by decide⟩, ⟨by decide, by decide⟩⟩
  refine cx_run l 700 4 10 600000 7302250 cL_law 16 p e room_1 s m #[Value.ref b] below meth c _ D s.heap.size b cA 4 0 0 (cx_lv1, [], ws) G0 ?_ 0 cx_lv0 [] [] rfl hout s.heap [] ls 0 0 rfl (fun k q hq => by cases hq) va_S.rf hl0 rfl rfl
  intro lv st ws2 hlen heq H locs ls2 cells slots hZ hP hS hls hc1 hc2
  obtain ⟨rfl, rfl, rfl⟩ : cx_lv1 = lv ∧ [] = st ∧ ws = ws2 := by
    injection heq with h1 h2; injection h2 with h2 h3; exact ⟨h1, h2, h3⟩
  refine W.widen (k := 600000) (n := 7302250) (by omega) (by omega) ?_
  obtain ⟨I1, J1, n0, hgo⟩ := e_law (sc := (L, xs)) (d := 0) (I := cx_I0) (J := cx_J0) hL cx_rel
  have hgo := hgo n0 (Nat.le_refl _)
  have hP2 := cx_pool (ad := cx_add s.heap.size b t0 t1 t2) had hall hP
  have hSt : sx_S (cx_add s.heap.size b t0 t1 t2) (cx_A s.heap.size) s s.heap := by
    intro t ht
    match t, ht with
    | 0, _ => exact ⟨z0, y0⟩
    | 1, _ => exact ⟨z1, y1⟩
    | 2, _ => exact ⟨z2, y2⟩
  have G : sx_G p room_1 s m #[Value.ref b] c D (cx_add s.heap.size b t0 t1 t2) cA (cx_A s.heap.size) 10 cL_law 4 (0 + 21) true (L, xs) 600000 7302250 := ⟨hx, hb, hml, hown2, hts, hK, cx_pD had, fun q hq => hq, hSt, cx_N1 htb, ⟨by decide, by decide⟩, ⟨by decide, by decide⟩, fun _ => ⟨hX, hbl, Nat.not_le.mpr hbl⟩⟩
  refine sx_sound l (L, xs) n0 (0 + 21) 10 cd_L_law cL_law true true p e room_1 s m #[Value.ref b] below meth c 600000 7302250 _ D (cx_add s.heap.size b t0 t1 t2) cA (cx_A s.heap.size) 4 (some (.inl 1), I1, J1) G sx_c_law ?_ 16 _ [] cx_I0 cx_J0 rfl ?_ (fun v hv => by cases hv) hgo H locs ls2 hP2 hS hls
  · intro pc nx r lv v I J hm he hrt H locs ls hP hS hls
    obtain ⟨rfl, rfl, rfl⟩ : some (.inl 1) = v ∧ I1 = I ∧ J1 = J := by
      injection he with h1 h2; injection h2 with h2 h3; exact ⟨h1, h2, h3⟩
    obtain ⟨hd, -, -⟩ := hrt
    exact va_forget hS.2.2 (lw_ret hx hb hr hlocks hd)
  · intro i v hv
    have hi : i < 4 := sx_get_lt hv
    match i, hi with
    | 0, _ => cases hv; show 0 < sx_eC 19; decide
    | 1, _ => cases hv; show 0 < sx_eC 8; decide
    | 2, _ => cases hv; show 0 < sx_eC 9; decide
    | 3, _ => cases hv
