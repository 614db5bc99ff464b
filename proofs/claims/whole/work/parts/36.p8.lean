/-! pair: throwOver -/
def rq_thr (s L : Nat → Nat) (y p : Nat) : Nat → Nat := fun k => if y = 1 then L k * (if k = p then 20 else s 3) else if k = p then 0 else L k
section RQX
variable {sc : Nat × (Nat → Int32)} {d : Nat} {I I1 I2 : sx_I} {J J1 J2 : sx_J} {s L s1 L1 : Nat → Nat} {a q p v y r h l A D : Nat} {st : Int32} {f : Nat → (Nat → Nat) × (Nat → Nat)} {res : Option sx_V × sx_I × sx_J}
theorem c_leave (hR : rq_R I J r s h l A D st L) (hA : A < 64) (hD : D < 64) (hp : p < 6) : rq_R (i_X5_leave I J r (nI p)) J r s h l (rq_of A p) (rq_of D p) st L := by
  have e : i_X5_leave I J r (nI p) = sx_uI (sx_uI I 5 r 7 (nI (rq_of A p))) 5 r 8 (nI (rq_of D p)) := by
    have e8 : (sx_uI I 5 r 7 (nI (rq_of A p))) 5 r 8 = nI D := (if_neg (fun w => absurd w.2.2 (by decide))).trans hR.2.2.2.2.2.2.2.2.1
    rw [i_X5_leave, hR.2.2.2.2.2.2.2.1, rq_and A hA p hp, e8, rq_and D hD p hp]
  rw [e]; exact hR.u7.u8
theorem lo_still {x1 : Int32} {P : Nat} (hP : P ≤ 6) (hp : I 5 r 0 = nI P) (hk : sx_E sc (d + 1) cd_X5_learnStill 2 [some (.inr (.inr (5, r))), some (.inl x1), some (.inl (nI P))] [] I (fun x y z => if x = 11 ∧ y = r ∧ z < P then J 11 r z * (if nI z = x1 then 20 else (I 5 r 3).toInt64) else J x y z) res) : ∀ (m k : Nat), k + m = P → sx_E sc (d + 1) cd_X5_learnStill 2 [some (.inr (.inr (5, r))), some (.inl x1), some (.inl (nI k))] [] I (fun x y z => if x = 11 ∧ y = r ∧ z < k then J 11 r z * (if nI z = x1 then 20 else (I 5 r 3).toInt64) else J x y z) res := by
  intro m
  induction m with
  | zero =>
    intro k h
    obtain rfl : k = P := by omega
    exact hk
  | succ m ih =>
    intro k h
    have e := sx_flJ (J := J) (kd := 11) (r := r) (k := k) (F := fun z => J 11 r z * (if nI z = x1 then 20 else (I 5 r 3).toInt64))
    refine ee_X5_learnStill_2 ⟨fun c => absurd c (by rw [hp]; exact nI_ge (by omega) (by omega)), fun _ => ⟨sx_in_nI (by omega) (by omega), fun c => ee_X5_learnStill_33 ⟨sx_in_nI (by omega) (by omega), ee_X5_learnStill_35 ?_⟩, fun c => ee_X5_learnStill_33 ⟨sx_in_nI (by omega) (by omega), ee_X5_learnStill_35 ?_⟩⟩⟩
    · rw [nI_1, nI_clamp (by omega), if_neg (show ¬ (11 = 11 ∧ r = r ∧ k < k) by omega)]
      simp only [if_pos c] at e
      rw [e]
      exact ih (k + 1) (by omega)
    · rw [nI_1, nI_clamp (by omega), if_neg (show ¬ (11 = 11 ∧ r = r ∧ k < k) by omega)]
      simp only [if_neg c] at e
      rw [e]
      exact ih (k + 1) (by omega)
theorem e_stillC (hR : rq_R I J 0 s h l A D st L) (hn : s 0 ≤ 6) (h3 : s 3 ≤ 19) (hA : A < 64) (hD : D < 64) (hp : p < s 0) : ∃ I1 J1, sx_E sc (d + 1) cd_X5_learnStill 0 [some (.inr (.inr (5, 0))), some (.inl (nI p)), none] [] I J (none, I1, J1) ∧ rq_sm rq_nC I J I1 J1 ∧ rq_R I1 J1 0 s h l (rq_of A p) (rq_of D p) 1 (rq_thr s L 1 p) := by
  have h0 := hR.1
  let Jn : Nat → sx_J := fun n x y z => if x = 11 ∧ y = 0 ∧ z < n then J 11 0 z * (if nI z = nI p then 20 else (I 5 0 3).toInt64) else J x y z
  have hR1 : rq_R I (Jn (s 0)) 0 s h l A D st (rq_thr s L 1 p) := by
    obtain ⟨r0, r1, r2, r3, r4, r5, r6, r7, r8, r9, r10⟩ := hR
    refine ⟨r0, r1, r2, r3, r4, r5, r6, r7, r8, r9, fun z hz => ⟨(r10 z hz).1, (r10 z hz).2.1, ?_⟩⟩
    refine (if_pos ⟨rfl, rfl, hz⟩).trans ?_
    rw [(r10 z hz).2.2, r3, rq_thr, if_pos rfl]
    by_cases c : z = p
    · rw [if_pos (by rw [c]), if_pos c]; exact lN_mul _ 20
    · rw [if_neg (fun w => c ((nI_eq (by omega) (by omega)).mp w)), if_neg c, nI_l (by omega), lN_mul]
  have hR2 := (c_leave (p := p) hR1 hA hD (by omega)).u9 (st1 := 1)
  have hE := lo_still (sc := sc) (d := d) (r := 0) (I := I) (J := J) (x1 := nI p) (res := (none, sx_uI (i_X5_leave I (Jn (s 0)) 0 (nI p)) 5 0 9 1, Jn (s 0))) hn h0 (ee_X5_learnStill_2 ⟨fun _ => ⟨_, _, es_X5_leave, ee_X5_learnStill_46 (ee_X5_learnStill_51 rfl)⟩, fun c => absurd (by rw [h0]; exact nI_le (by omega) (by omega)) c⟩) (s 0) 0 (by omega)
  rw [show (fun x y z => if x = 11 ∧ y = 0 ∧ z < 0 then J 11 0 z * (if nI z = nI p then 20 else (I 5 0 3).toInt64) else J x y z) = J from by funext x y z; exact if_neg (by omega)] at hE
  refine ⟨_, _, ee_X5_learnStill_0 hE, ?_, hR2⟩
  have e1 : rq_sm rq_nC I J I (Jn (s 0)) := ⟨fun _ _ _ _ => rfl, fun x y z c => if_neg (fun q => c.2 ⟨Or.inr (Or.inr (Or.inr q.1)), q.2.1⟩)⟩
  exact e1.tr (((rq_sm.uI rq_nC5).tr (.uI rq_nC5)).tr (.uI rq_nC5))
theorem e_innoC (hR : rq_R I J r s h l A D st L) (hn : s 0 ≤ 6) (hA : A < 64) (hD : D < 64) (hp : p < s 0) : sx_E sc (d + 1) cd_X5_learnInnocent 0 [some (.inr (.inr (5, r))), some (.inl (nI p))] [] I J (none, i_X5_learnInnocent I J r (nI p), j_X5_learnInnocent I J r (nI p)) ∧ rq_R (i_X5_learnInnocent I J r (nI p)) (j_X5_learnInnocent I J r (nI p)) r s h l (rq_of A p) (rq_of D p) st (rq_thr s L 0 p) := by
  refine ⟨es_X5_learnInnocent (fun _ => rq_in6 hp hn), ?_⟩
  have hh := c_has hR hn hp
  rw [i_X5_learnInnocent, j_X5_learnInnocent, hh, if_neg n10, if_neg n10, nI_clamp (by omega)]
  refine c_leave ?_ hA hD (by omega)
  obtain ⟨r0, r1, r2, r3, r4, r5, r6, r7, r8, r9, r10⟩ := hR
  refine ⟨r0, r1, r2, r3, r4, r5, r6, r7, r8, r9, fun z hz => ⟨(r10 z hz).1, (r10 z hz).2.1, ?_⟩⟩
  rw [rq_thr, if_neg (by decide)]
  by_cases c : z = p
  · rw [if_pos c]; exact if_pos ⟨rfl, rfl, c⟩
  · rw [if_neg c]; exact (if_neg (fun w => c w.2.2)).trans (r10 z hz).2.2
theorem rq_sm.inno {x : Int32} : rq_sm rq_nC I J (i_X5_learnInnocent I J 0 x) (j_X5_learnInnocent I J 0 x) := by
  unfold i_X5_learnInnocent j_X5_learnInnocent
  split
  · exact .rf
  · exact (rq_sm.uJ ⟨Or.inr (Or.inr (Or.inr rfl)), rfl⟩).tr ((rq_sm.uI rq_nC5).tr (.uI rq_nC5))
theorem rq_thr_sum (hp : p < 6) : rq_sum (rq_thr s L 1 p) = L p * 20 + (rq_sum L - L p) * s 3 ∧ rq_sum (rq_thr s L 0 p) = rq_sum L - L p ∧ L p ≤ rq_sum L := by
  have e : p = 0 ∨ p = 1 ∨ p = 2 ∨ p = 3 ∨ p = 4 ∨ p = 5 := by omega
  have k : ∀ a b c d e f : Nat, (a + b + c + d + e + f - a) = b + c + d + e + f ∧ (a + b + c + d + e + f - b) = a + c + d + e + f ∧ (a + b + c + d + e + f - c) = a + b + d + e + f ∧ (a + b + c + d + e + f - d) = a + b + c + e + f ∧ (a + b + c + d + e + f - e) = a + b + c + d + f ∧ (a + b + c + d + e + f - f) = a + b + c + d + e := by omega
  have kk := k (L 0) (L 1) (L 2) (L 3) (L 4) (L 5)
  unfold rq_sum rq_thr
  rcases e with rfl | rfl | rfl | rfl | rfl | rfl <;> simp [kk, Nat.add_mul] <;> omega
theorem c_thrown (hR : rq_R I J r s h l A D st L) (hn : s 0 ≤ 6) (h3 : s 3 ≤ 19) (h0 : ∀ p, s 0 ≤ p → p < 6 → L p = 0) (hp : p < s 0) (hy : y ≤ 1) : v_X5_allIfThrown I J r (nI p) (nI y) = lN (rq_sum (rq_thr s L y p)) := by
  obtain ⟨k1, k2, k3⟩ := rq_thr_sum (s := s) (L := L) (p := p) (by omega)
  rw [v_X5_allIfThrown, c_has hR hn hp, if_neg n10, nI_clamp (by omega), (hR.2.2.2.2.2.2.2.2.2.2 p hp).2.2, c_all hR hn h0, lN_sub k3, hR.2.2.2.1, nI_l (by omega), show (20 : Int64) = lN 20 from rfl, lN_mul, lN_mul, lN_add]
  have e : y = 0 ∨ y = 1 := by omega
  rcases e with rfl | rfl
  · rw [if_neg (by decide), k2]
  · rw [if_pos (by decide), k1]
theorem rq_A_thr (hn : s 0 ≤ 6) (hp : p < s 0) : rq_A (rq_up s (10 + 4 * p) 0) = rq_of (rq_A s) p := by
  have e0 : rq_up s (10 + 4 * p) 0 0 = s 0 := rq_up_ne (by omega)
  have hA := rq_64 (rq_A_lt s) hn
  have l1 := rq_A_lt (rq_up s (10 + 4 * p) 0)
  rw [e0] at l1
  refine rq_ext (rq_64 l1 hn) (rq_of_lt _ hA p (by omega)) (fun z hz => ?_)
  rw [rq_of_b _ hA p (by omega) z hz]
  by_cases hz0 : z < s 0
  · rw [rq_A_b _ (by rw [e0]; exact hz0), rq_A_b _ hz0]
    by_cases c : z = p
    · subst c; rw [if_pos rfl, if_neg (by rw [rq_up, if_pos rfl]; decide)]
    · rw [if_neg c, rq_up_ne (show 10 + 4 * z ≠ 10 + 4 * p by omega)]
  · have k : ∀ D, D < 2 ^ s 0 → rq_b D z = 0 := fun D hD => rq_b_lt (Nat.lt_of_lt_of_le hD (Nat.pow_le_pow_right (by decide) (by omega)))
    rw [k _ l1, k _ (rq_A_lt s), if_neg (show ¬ z = p by omega)]
theorem rq_D_thr (hn : s 0 ≤ 6) (hp : p < s 0) : rq_D (rq_up s (10 + 4 * p) 0) = rq_of (rq_D s) p := by
  have e0 : rq_up s (10 + 4 * p) 0 0 = s 0 := rq_up_ne (by omega)
  have hD := rq_64 (rq_D_lt s) hn
  have hA := rq_64 (rq_A_lt s) hn
  have l1 := rq_D_lt (rq_up s (10 + 4 * p) 0)
  rw [e0] at l1
  refine rq_ext (rq_64 l1 hn) (rq_of_lt _ hD p (by omega)) (fun z hz => ?_)
  rw [rq_of_b _ hD p (by omega) z hz]
  by_cases hz0 : z < s 0
  · rw [rq_D, rq_Dr_b _ (by rw [e0]; exact hz0), rq_A_thr hn hp, rq_D, rq_Dr_b _ hz0, rq_up_ne (show 8 + 4 * z ≠ 10 + 4 * p by omega), rq_up_ne (show 11 + 4 * z ≠ 10 + 4 * p by omega), rq_of_b _ hA p (by omega) z hz]
    by_cases c : z = p
    · rw [if_pos c, if_pos c, if_neg (fun w => absurd w.1 (by decide))]
    · rw [if_neg c, if_neg c]
  · have k : ∀ D, D < 2 ^ s 0 → rq_b D z = 0 := fun D hD => rq_b_lt (Nat.lt_of_lt_of_le hD (Nat.pow_le_pow_right (by decide) (by omega)))
    rw [k _ l1, k _ (rq_D_lt s), if_neg (show ¬ z = p by omega)]
/-- the ship behind a throw, ahead of the hour -/
def rq_ts (s : Nat → Nat) (y p : Nat) : Nat → Nat := rq_up (rq_up s (10 + 4 * p) 0) 5 (1 - y)
theorem rq_ts_ne {k : Nat} (h5 : k ≠ 5) (h : k ≠ 10 + 4 * p) : rq_ts s y p k = s k := by rw [rq_ts, rq_up_ne h5, rq_up_ne h]
theorem rq_ts_5 : rq_ts s y p 5 = 1 - y := rfl
theorem rq_ts_A (hn : s 0 ≤ 6) (hp : p < s 0) : rq_A (rq_ts s y p) = rq_of (rq_A s) p := by
  rw [rq_ts, rq_A_up (fun z => by omega) (by omega), rq_A_thr hn hp]
theorem rq_ts_D (hn : s 0 ≤ 6) (hp : p < s 0) : rq_D (rq_ts s y p) = rq_of (rq_D s) p := by
  rw [← rq_D_thr hn hp, rq_ts]
  exact rq_D_cg rfl (rq_A_up (fun z => by omega) (by omega) _) (fun z _ => rq_up_ne (by omega)) (fun z _ => rq_up_ne (by omega))
theorem rq_W.thr (hW : rq_W s) (h0 : 0 < s 0) (h5 : s 5 = 1) : rq_W (rq_ts s y p) := by
  have e : ∀ k, k < 8 → k ≠ 5 → rq_ts s y p k = s k := fun k hk h5 => rq_ts_ne h5 (by omega)
  obtain ⟨w0, w1, w2, w3, w6, w7, w4, w5, w9, w10⟩ := hW
  have w := (w9 h0 (by omega)).mp h5
  unfold rq_W
  rw [e 0 (by omega) (by omega), e 1 (by omega) (by omega), e 2 (by omega) (by omega), e 3 (by omega) (by omega), e 4 (by omega) (by omega), e 6 (by omega) (by omega), e 7 (by omega) (by omega), rq_ts_5]
  refine ⟨w0, w1, w2, w3, w6, w7, w4, by omega, fun _ _ => by omega, fun z hz => ?_⟩
  have k := w10 z hz
  rw [rq_ts_ne (show 8 + 4 * z ≠ 5 by omega) (by omega), rq_ts_ne (show 9 + 4 * z ≠ 5 by omega) (by omega), rq_ts_ne (show 11 + 4 * z ≠ 5 by omega) (by omega)]
  refine ⟨k.1, k.2.1, k.2.2.1, ?_, k.2.2.2.2⟩
  rw [rq_ts, rq_up_ne (show 10 + 4 * z ≠ 5 by omega)]
  unfold rq_up; split
  · omega
  · exact k.2.2.2.1
theorem rq_V.thr (hV : rq_V s L) (h5 : s 5 = 1) (h3 : s 3 ≤ 19) (hy : y ≤ 1) (hs : 0 < rq_sum (rq_thr s L y p)) : rq_V (rq_ts s y p) (rq_thr s L y p) := by
  have e0 : rq_ts s y p 0 = s 0 := rq_ts_ne (by omega) (by omega)
  have e6 : rq_ts s y p 6 = s 6 := rq_ts_ne (by omega) (by omega)
  unfold rq_V
  rw [e0, e6, rq_ts_5]
  refine ⟨fun z h1 h2 => ?_, fun z hz => ?_, fun _ => hs, fun c z hz hs => ?_⟩
  · rw [rq_thr, hV.1 z h1 h2, Nat.zero_mul, ite_self, ite_self]
  · have e := hV.2.1 z hz
    rw [h5, if_neg (by decide), Nat.mul_one] at e
    have ey : y = 0 ∨ y = 1 := by omega
    rcases ey with rfl | rfl
    · rw [if_neg (by decide), Nat.mul_one, rq_thr, if_neg (by decide)]; split <;> omega
    · rw [if_pos (by decide), rq_thr, if_pos rfl]
      exact Nat.mul_le_mul e (by split <;> omega)
  · have ey : y = 0 := by omega
    subst ey
    rw [rq_thr, if_neg (by decide)]
    by_cases cz : z = p
    · rw [if_pos cz]
    · rw [if_neg cz]
      rw [rq_ts_ne (by omega) (by omega)] at hs
      exact hV.2.2.2 (by omega) z hz hs
theorem lo_thr28 {x1 x2 : Int32} (hx1 : x1 = nI p) (hx2 : x2 = nI y) (hp : p < 6) (hy : y ≤ 1) (h3 : s 3 ≤ 19) (hQ : rq_Qi I s) (hL : rq_Lj J 0 L) (hk : sx_E sc (d + 1) cd_X9_throwOver 28 [some (.inr (.inr (9, 0))), some (.inl x1), some (.inl x2), some (.inl (nI 6))] [] I (fun x w z => if x = 17 ∧ w = 3 ∧ z < 6 then lN (rq_thr s L y p z) else J x w z) res) : ∀ (m k : Nat), k + m = 6 → sx_E sc (d + 1) cd_X9_throwOver 28 [some (.inr (.inr (9, 0))), some (.inl x1), some (.inl x2), some (.inl (nI k))] [] I (fun x w z => if x = 17 ∧ w = 3 ∧ z < k then lN (rq_thr s L y p z) else J x w z) res := by
  intro m
  induction m with
  | zero =>
    intro k h
    obtain rfl : k = 6 := by omega
    exact hk
  | succ m ih =>
    intro k h
    have ih := ih (k + 1) (by omega)
    have e := sx_flJ (J := J) (kd := 17) (r := 3) (k := k) (F := fun z => lN (rq_thr s L y p z))
    have hJ := hL k (by omega)
    have kin : sx_in (nI k) 6 = true := sx_in_nI (by omega) (by omega)
    have go : ∀ t : Int64, t = lN (rq_thr s L y p k) → sx_E sc (d + 1) cd_X9_throwOver 86 [some (.inr (.inr (9, 0))), some (.inl x1), some (.inl x2), some (.inl (nI k))] [.inr (.inl t), .inl (nI k), .inr (.inr (17, 3))] I (fun x w z => if x = 17 ∧ w = 3 ∧ z < k then lN (rq_thr s L y p z) else J x w z) res := fun t ht => by
      refine ee_X9_throwOver_86 ⟨kin, ee_X9_throwOver_87 ?_⟩
      rw [nI_1, nI_clamp (by omega), ht, e]; exact ih
    have ey : y = 0 ∨ y = 1 := by omega
    refine ee_X9_throwOver_28 ⟨fun c => absurd c (nI_ge (b := 6) (by omega) (by omega)), fun _ => ⟨fun c => ⟨kin, fun c2 => ee_X9_throwOver_66 (go _ ?_), fun c2 => ee_X9_throwOver_66 (go _ ?_)⟩, fun c => ⟨fun c2 => go _ ?_, fun c2 => ⟨kin, go _ ?_⟩⟩⟩⟩
    · have h1 : y = 1 := by rw [hx2] at c; exact (nI_eq (b := 1) (by omega) (by omega)).mp c
      have h2 : k = p := by rw [hx1] at c2; exact (nI_eq (by omega) (by omega)).mp c2
      rw [nI_clamp (by omega), show (20 : Int32).toInt64 = lN 20 from by decide]
      refine (congrArg (· * lN 20) (show (if 17 = 17 ∧ 0 = 3 ∧ k < k then lN (rq_thr s L y p k) else J 17 0 k) = lN (L k) from hJ)).trans ?_
      rw [rq_thr, if_pos h1, if_pos h2]; exact lN_mul _ _
    · have h1 : y = 1 := by rw [hx2] at c; exact (nI_eq (b := 1) (by omega) (by omega)).mp c
      have h2 : ¬ k = p := fun w => c2 (by rw [hx1, w])
      rw [nI_clamp (by omega), hQ 3 (by omega), nI_l (by omega)]
      refine (congrArg (· * lN (s 3)) (show (if 17 = 17 ∧ 0 = 3 ∧ k < k then lN (rq_thr s L y p k) else J 17 0 k) = lN (L k) from hJ)).trans ?_
      rw [rq_thr, if_pos h1, if_neg h2]; exact lN_mul _ _
    · have h1 : ¬ y = 1 := fun w => c (by rw [hx2, w]; rfl)
      have h2 : k = p := by rw [hx1] at c2; exact (nI_eq (by omega) (by omega)).mp c2
      rw [rq_thr, if_neg h1, if_pos h2]; rfl
    · have h1 : ¬ y = 1 := fun w => c (by rw [hx2, w]; rfl)
      have h2 : ¬ k = p := fun w => c2 (by rw [hx1, w])
      rw [nI_clamp (by omega)]
      refine (show (if 17 = 17 ∧ 0 = 3 ∧ k < k then lN (rq_thr s L y p k) else J 17 0 k) = lN (L k) from hJ).trans ?_
      rw [rq_thr, if_neg h1, if_neg h2]
theorem lo_thr133 {x1 x2 : Int32} (hk : sx_E sc (d + 1) cd_X9_throwOver 133 [some (.inr (.inr (9, 0))), some (.inl x1), some (.inl x2), some (.inl (nI 6))] [] I (sx_cpB J 0 3 0 0 6) res) : ∀ (m k : Nat), k + m = 6 → sx_E sc (d + 1) cd_X9_throwOver 133 [some (.inr (.inr (9, 0))), some (.inl x1), some (.inl x2), some (.inl (nI k))] [] I (sx_cpB J 0 3 0 0 k) res := by
  intro m
  induction m with
  | zero =>
    intro k h
    obtain rfl : k = 6 := by omega
    exact hk
  | succ m ih =>
    intro k h
    refine ee_X9_throwOver_133 ⟨fun c => absurd c (nI_ge (b := 6) (by omega) (by omega)), fun _ => ⟨sx_in_nI (by omega) (by omega), sx_in_nI (by omega) (by omega), ee_X9_throwOver_151 ?_⟩⟩
    rw [nI_1, nI_clamp (by omega)]
    have e := sx_cpB_1 (J := J) (dd := 0) (ss := 3) (od := 0) (os := 0) (k := k) (Or.inl (by decide))
    rw [Nat.zero_add] at e
    rw [e]
    exact ih (k + 1) (by omega)
theorem pr_throwOver (h : rq_Rel I J) {x x2 : Int32} : rq_pair sc (d + 20) cd_X8_throwOver cd_X9_throwOver [some (.inr (.inr (8, 0))), some (.inl x), some (.inl x2)] [some (.inr (.inr (9, 0))), some (.inl x), some (.inl x2), none] I J := by
  obtain ⟨s, L, hC, hQ, hW, hV⟩ := h.2.2.2.2.1
  obtain ⟨a, q, f, ha, hq, g1, g2, g3⟩ := h.2.2.2.2.2.2.op
  have w := hW.1
  have hin := c_inStorm hC hW
  have hD := rq_64 (rq_D_lt s) w
  have hA := rq_64 (rq_A_lt s) w
  have hb := hW
  obtain ⟨w0, w1, w2, w3, w6, w7, w4, w5, w9, w10⟩ := hb
  have hs2 := hV.sum hW
  have hq0 := hQ.qi.t0 (v := 0)
  rcases rq_per x w with ⟨p, hp, rfl⟩ | hx
  · rcases m_inC (I := sx_uI I 9 0 0 0) (J := J) I J (x := x2) (a := 0) (b := 1) (y := 0) (z := 1) (by decide) (by decide) with ⟨i1, i2, y1, y2⟩ | ⟨i1, i2⟩
    · obtain ⟨y, hy, rfl⟩ := nI_of2 (M := 1) (n := 1) (by decide) (Int32.not_lt.mpr y1) y2
      obtain ⟨t1, t2, t3⟩ := rq_thr_sum (s := s) (L := L) (p := p) (by omega)
      have b2 : rq_sum (rq_thr s L y p) < 2 ^ 63 := by
        have ey : y = 0 ∨ y = 1 := by omega
        rcases ey with rfl | rfl
        · omega
        · have : (rq_sum L - L p) * s 3 ≤ (rq_sum L - L p) * 19 := Nat.mul_le_mul_left _ w3
          omega
      let JT : sx_J → sx_J := fun J x w z => if x = 17 ∧ w = 3 ∧ z < 6 then lN (rq_thr s L y p z) else J x w z
      have k8 : ∀ {res : Option sx_V × sx_I × sx_J}, sx_E sc (d + 20) cd_X8_throwOver 30 [some (.inr (.inr (8, 0))), some (.inl (nI p)), some (.inl (nI y))] [.inl (if 0 < s 0 ∧ s 5 = 1 then 1 else 0)] I J res → sx_E sc (d + 20) cd_X8_throwOver 0 [some (.inr (.inr (8, 0))), some (.inl (nI p)), some (.inl (nI y))] [] I J res := fun k => ee_X8_throwOver_0 ⟨_, _, _, es_X5_has.v (c_has hC w hp), ee_X8_throwOver_8 ⟨fun c => absurd c n10, fun _ => ⟨_, _, _, es_X8_isOutside.v i2, ee_X8_throwOver_17 ⟨fun _ => ⟨_, _, _, es_X5_isInStorm.v hin, k⟩, fun c => absurd rfl c⟩⟩⟩⟩
      have k9 : ∀ {I : sx_I} {J : sx_J} {res : Option sx_V × sx_I × sx_J}, rq_Qi (sx_uI I 9 0 0 0) s → rq_Lj J 0 L → sx_E sc (d + 20) cd_X9_throwOver 28 [some (.inr (.inr (9, 0))), some (.inl (nI p)), some (.inl (nI y)), some (.inl (nI 6))] [] (sx_uI I 9 0 0 0) (JT J) res → sx_E sc (d + 20) cd_X9_throwOver 0 [some (.inr (.inr (9, 0))), some (.inl (nI p)), some (.inl (nI y)), none] [] I J res := fun {I J res} hq hl k => by
        refine ee_X9_throwOver_0 (ee_X9_throwOver_5 ⟨_, _, _, es_X9_isPerson.v (m_isPerson hq w hp), ee_X9_throwOver_10 ⟨fun c => absurd c n10, fun _ => ⟨_, _, _, es_X9_in.v i1, ee_X9_throwOver_20 ⟨fun c => absurd c n10, fun _ => ?_⟩⟩⟩⟩)
        have hl2 := lo_thr28 (sc := sc) (d := d + 19) (p := p) (y := y) rfl rfl (by omega) hy w3 hq hl k 6 0 rfl
        rw [show (fun x w z => if x = 17 ∧ w = 3 ∧ z < 0 then lN (rq_thr s L y p z) else J x w z) = J from by funext x w z; exact if_neg (by omega)] at hl2
        exact hl2
      have eT : ∀ I J, rq_same I J I (JT J) := fun I J => ⟨fun _ _ _ _ => rfl, fun x w z c => if_neg (fun q => c (by unfold rq_scr; omega))⟩
      have e2 : rq_same I J (sx_uI I 9 0 0 0) (JT J) := rq_same.t0.tr (eT _ _)
      have hab := rq_A_b s hp
      have hab2 := hW.ab p hp
      by_cases h5 : s 5 = 1
      · have hst : 0 < s 0 ∧ s 5 = 1 := ⟨by omega, h5⟩
        rw [if_pos hst] at k8
        have hlt : s 4 < s 2 + s 7 := (w9 hst.1 (by omega)).mp h5
        have c41 : ∀ {res : Option sx_V × sx_I × sx_J}, sx_E sc (d + 20) cd_X8_throwOver 41 [some (.inr (.inr (8, 0))), some (.inl (nI p)), some (.inl (nI y))] [.inl (nI (rq_b (rq_A s) p))] I J res → sx_E sc (d + 20) cd_X8_throwOver 0 [some (.inr (.inr (8, 0))), some (.inl (nI p)), some (.inl (nI y))] [] I J res := fun k => k8 (ee_X8_throwOver_30 ⟨fun c => absurd c n10, fun _ => ⟨_, _, _, es_X5_isAboard.v (c_isAboard hC w (rq_A_lt s) (by omega)), k⟩⟩)
        have m109 : ∀ {I : sx_I} {J : sx_J} {res : Option sx_V × sx_I × sx_J}, rq_Qi (sx_uI I 9 0 0 0) s → rq_Lj J 0 L → sx_E sc (d + 20) cd_X9_throwOver 109 [some (.inr (.inr (9, 0))), some (.inl (nI p)), some (.inl (nI y)), some (.inl (nI 6))] [.inl (nI (s (10 + 4 * p)))] (sx_uI I 9 0 0 0) (JT J) res → sx_E sc (d + 20) cd_X9_throwOver 0 [some (.inr (.inr (9, 0))), some (.inl (nI p)), some (.inl (nI y)), none] [] I J res := fun hq hl k => k9 hq hl (ee_X9_throwOver_28 ⟨fun _ => ⟨fun _ => ⟨_, _, _, (es_X9_of (m_ofin (w := 2) (by omega) (by omega))).v (m_of2 hq (by omega)), k⟩, fun c => absurd (by rw [hq 5 (by omega), h5]; rfl) c⟩, fun c => absurd (nI_le (a := 6) (by omega) (by omega)) c⟩)
        by_cases hs : s (10 + 4 * p) = 1
        · rw [if_pos hs] at hab
          have c53 : ∀ {res : Option sx_V × sx_I × sx_J}, sx_E sc (d + 20) cd_X8_throwOver 53 [some (.inr (.inr (8, 0))), some (.inl (nI p)), some (.inl (nI y))] [.inr (.inl (lN (rq_sum (rq_thr s L y p))))] I J res → sx_E sc (d + 20) cd_X8_throwOver 0 [some (.inr (.inr (8, 0))), some (.inl (nI p)), some (.inl (nI y))] [] I J res := fun k => c41 (ee_X8_throwOver_41 ⟨fun c => absurd c (by rw [hab]; exact nn1), fun _ => ⟨_, _, _, (es_X5_allIfThrown (fun _ => hC.p6 w) (fun _ => rq_in6 hp w) (fun _ _ => rq_in6 hp w)).w (c_thrown hC w w3 hV.1 hp hy), k⟩⟩)
          have m119 : ∀ {I : sx_I} {J : sx_J} {res : Option sx_V × sx_I × sx_J}, rq_Qi (sx_uI I 9 0 0 0) s → rq_Lj J 0 L → sx_E sc (d + 20) cd_X9_throwOver 119 [some (.inr (.inr (9, 0))), some (.inl (nI p)), some (.inl (nI y)), some (.inl (nI 6))] [.inr (.inl (lN (rq_sum (rq_thr s L y p))))] (sx_uI I 9 0 0 0) (JT J) res → sx_E sc (d + 20) cd_X9_throwOver 0 [some (.inr (.inr (9, 0))), some (.inl (nI p)), some (.inl (nI y)), none] [] I J res := fun hq hl k => m109 hq hl (ee_X9_throwOver_109 ⟨fun c => absurd c (by rw [hs]; exact nn1), fun _ => ⟨_, _, _, es_X9_allOf.w (m_allOf (fun z hz => if_pos ⟨rfl, rfl, hz⟩)), k⟩⟩)
          by_cases hz : rq_sum (rq_thr s L y p) = 0
          · rw [hz] at c53 m119
            exact .rd h (v := .inl (Int32.ofInt (-1000002))) (c53 (ee_X8_throwOver_53 ⟨fun _ => rfl, fun c => absurd rfl c⟩)) .rf (m119 hq0 hQ.lj (ee_X9_throwOver_119 ⟨fun _ => rfl, fun c => absurd rfl c⟩)) e2 rfl
          · have hne : ¬ lN (rq_sum (rq_thr s L y p)) = 0 := fun c => hz ((rq_lN0 b2).mp c)
            have hW2 : rq_W (rq_pas (rq_ts s y p)) := (hW.thr (y := y) (p := p) hst.1 h5).pas (by rw [rq_ts_ne (by omega) (by omega), rq_ts_ne (by omega) (by omega), rq_ts_ne (by omega) (by omega)]; exact hlt)
            have hV2 : rq_V (rq_pas (rq_ts s y p)) (rq_thr s L y p) := (hV.thr h5 w3 hy (by omega)).pas
            have hA2 : rq_A (rq_pas (rq_ts s y p)) = rq_of (rq_A s) p := rq_A_pas.trans (rq_ts_A w hp)
            have hD2 : rq_D (rq_pas (rq_ts s y p)) = rq_of (rq_D s) p := rq_D_pas.trans (rq_ts_D w hp)
            have hA3 := rq_of_lt _ hA p (by omega)
            refine .act (x := .inl (nI (rq_pc (rq_of (rq_A s) p)))) h hQ g2 hW2 hV2 (rq_ka_le ha) (rq_kq_lt (q := q)) (rq_kp g3 hW hV ha) ?_ (fun I1 J1 hQ g2 => ?_)
            · obtain ⟨I1, J1, k1, k2, k3⟩ := e_keepC (sc := sc) (d := d + 18) g1 ha hq hC w
              have hC1 := hC.kp k3
              have fin : ∀ {I2 J2 st}, rq_sm rq_nC I1 J1 I2 J2 → rq_R I2 J2 0 s (s 4) (s 6) (rq_of (rq_A s) p) (rq_of (rq_D s) p) st (rq_thr s L y p) → st = rq_st (rq_pas (rq_ts s y p)) → rq_sm rq_oC I J (sx_uI I2 5 0 4 (nI (s 4 + 1))) J2 ∧ rq_C (sx_uI I2 5 0 4 (nI (s 4 + 1))) J2 0 (rq_pas (rq_ts s y p)) (rq_thr s L y p) ∧ rq_hc (sx_uI I2 5 0 4 (nI (s 4 + 1))) J2 (rq_ka a) (rq_kq q) (rq_kf a f (s, L)) ∧ sx_E sc (d + 20) cd_X8_throwOver 96 [some (.inr (.inr (8, 0))), some (.inl (nI p)), some (.inl (nI y))] [] I2 J2 (some (.inl (nI (rq_pc (rq_of (rq_A s) p)))), sx_uI I2 5 0 4 (nI (s 4 + 1)), J2) := fun {I2 J2 st} e3 hR he => by
                refine ⟨k3.gC.tr (e3.nC.tr (rq_sm.uI rq_nC5).nC), ?_, (k2.nC e3).nC (.uI rq_nC5), ?_⟩
                · have hR2 := (hR.u4 (h1 := s 4 + 1)).cg (s1 := rq_pas (rq_ts s y p)) (fun k hk => (rq_pas_ne (by omega) (by omega)).trans (rq_ts_ne (by omega) (by omega))) (fun z _ => ⟨(rq_pas_ne (by omega) (by omega)).trans (rq_ts_ne (by omega) (by omega)), (rq_pas_ne (by omega) (by omega)).trans (rq_ts_ne (by omega) (by omega))⟩)
                  refine .of hR2 ?_ ((rq_pas_ne (by omega) (by omega)).trans (rq_ts_ne (by omega) (by omega))).symm hA2.symm hD2.symm he
                  show s 4 + 1 = rq_ts s y p 4 + 1
                  rw [rq_ts_ne (by omega) (by omega)]
                · refine ee_X8_throwOver_96 ?_
                  rw [show I2 5 0 4 = nI (s 4) from hR.2.2.2.2.1, nI_1]
                  refine ee_X8_throwOver_109 ⟨_, _, _, es_J6_bitCount_0f7a4.v ?_, ee_X8_throwOver_119 rfl⟩
                  rw [show (sx_uI I2 5 0 4 (nI (s 4 + 1))) 5 0 7 = nI (rq_of (rq_A s) p) from hR.2.2.2.2.2.2.2.1]
                  exact rq_bc hA3
              have es0 : rq_ts s y p 0 = s 0 := rq_ts_ne (by omega) (by omega)
              have ey : y = 0 ∨ y = 1 := by omega
              rcases ey with rfl | rfl
              · obtain ⟨n1, n2⟩ := e_innoC (sc := sc) (d := d + 18) hC1 w hA hD hp
                obtain ⟨f1, f2, f3, f4⟩ := fin .inno n2 (by rw [rq_st_pas, rq_st, rq_st, es0, rq_ts_5, h5])
                exact ⟨_, _, c53 (ee_X8_throwOver_53 ⟨fun c => absurd c hne, fun _ => ⟨_, _, k1, ee_X8_throwOver_72 ⟨fun c => absurd c (by decide), fun _ => ⟨_, _, n1, f4⟩⟩⟩⟩), f1, f2, f3⟩
              · obtain ⟨I2, J2, n1, n3, n2⟩ := e_stillC (sc := sc) (d := d + 18) hC1 w w3 hA hD hp
                obtain ⟨f1, f2, f3, f4⟩ := fin n3 n2 (by rw [rq_st_pas, rq_st, es0, rq_ts_5, if_neg (by omega)]; rfl)
                exact ⟨_, _, c53 (ee_X8_throwOver_53 ⟨fun c => absurd c hne, fun _ => ⟨_, _, k1, ee_X8_throwOver_72 ⟨fun _ => ⟨_, _, n1, ee_X8_throwOver_85 f4⟩, fun c => absurd rfl c⟩⟩⟩), f1, f2, f3⟩
            · have hQ0 := hQ.sw (rq_same.t0 (v := 0))
              have hQ1 := hQ0.sw (eT _ _)
              obtain ⟨I3, J3, k1, k2, k3, k4⟩ := e_keepM (sc := sc) (d := d + 19) ((g2.sw (rq_same.t0 (v := 0))).sw (eT _ _)) ha hQ1
              have hQ3 := hQ1.kp k3
              have hQ4 : rq_Q I3 (sx_cpB J3 0 3 0 0 6) 3 0 0 0 s (rq_thr s L y p) := ⟨hQ3.1, fun k hk => by
                refine (if_pos (by omega)).trans ?_
                rw [show 0 + (0 + k - 0) = k by omega, k4 k]; exact if_pos ⟨rfl, rfl, hk⟩⟩
              have hQ5 : rq_Q (sx_uI I3 16 3 (10 + 4 * p) (nI 0)) (sx_cpB J3 0 3 0 0 6) 3 0 0 0 (rq_up s (10 + 4 * p) 0) (rq_thr s L y p) := hQ4.uI
              have hQ6 : rq_Q (sx_uI (sx_uI I3 16 3 (10 + 4 * p) (nI 0)) 16 3 5 (nI (1 - y))) (sx_cpB J3 0 3 0 0 6) 3 0 0 0 (rq_ts s y p) (rq_thr s L y p) := hQ5.uI
              have hQ7 := m_passes hQ6 (by rw [rq_ts_ne (by omega) (by omega), rq_ts_ne (by omega) (by omega)]; omega) (by rw [rq_ts_ne (by omega) (by omega)]; omega) (by rw [rq_ts_5]; omega)
              have hq7 := hQ7.qi
              have hN : ∀ z, rq_nM 17 0 z := fun z => Or.inr ⟨rfl, rfl⟩
              have ei : (((8 : Int32) + (4 : Int32) * nI p) + (2 : Int32)).toNatClampNeg = 10 + 4 * p := by rw [show (2 : Int32) = nI 2 from rfl, rq_idx, nI_clamp (by omega)]; omega
              have h187 : sx_E sc (d + 20) cd_X9_throwOver 187 [some (.inr (.inr (9, 0))), some (.inl (nI p)), some (.inl (nI y)), some (.inl (nI 6))] [] (sx_uI (sx_uI I3 16 3 (10 + 4 * p) (nI 0)) 16 3 5 (nI (1 - y))) (sx_cpB J3 0 3 0 0 6) (some (.inl (nI (rq_pc (rq_of (rq_A s) p)))), i_X9_passes (sx_uI (sx_uI I3 16 3 (10 + 4 * p) (nI 0)) 16 3 5 (nI (1 - y))) (sx_cpB J3 0 3 0 0 6), sx_cpB J3 0 3 0 0 6) := by
                refine ee_X9_throwOver_187 ⟨_, _, es_X9_passes, ee_X9_throwOver_191 ⟨_, _, _, (es_X9_aboard (hq7.p6 hW2.1)).v (m_aboard hq7 hW2.1 hW2.ab), ee_X9_throwOver_195 ⟨_, _, _, es_X9_bits.v ?_, ee_X9_throwOver_198 rfl⟩⟩⟩
                rw [hA2]; exact rq_bits hA3
              have h133 : sx_E sc (d + 20) cd_X9_throwOver 133 [some (.inr (.inr (9, 0))), some (.inl (nI p)), some (.inl (nI y)), some (.inl (nI 6))] [] I3 (sx_cpB J3 0 3 0 0 6) (some (.inl (nI (rq_pc (rq_of (rq_A s) p)))), i_X9_passes (sx_uI (sx_uI I3 16 3 (10 + 4 * p) (nI 0)) 16 3 5 (nI (1 - y))) (sx_cpB J3 0 3 0 0 6), sx_cpB J3 0 3 0 0 6) := by
                refine ee_X9_throwOver_133 ⟨fun _ => ⟨m_ofin (w := 2) (by omega) (by omega), ?_⟩, fun c => absurd (nI_le (a := 6) (by omega) (by omega)) c⟩
                rw [ei]
                have ey : y = 0 ∨ y = 1 := by omega
                rcases ey with rfl | rfl
                · exact ee_X9_throwOver_171 ⟨fun c => absurd c (by decide), fun _ => ee_X9_throwOver_186 ⟨by decide, h187⟩⟩
                · exact ee_X9_throwOver_171 ⟨fun _ => ee_X9_throwOver_186 ⟨by decide, h187⟩, fun c => absurd rfl c⟩
              have hlp := lo_thr133 h133 6 0 rfl
              rw [sx_cpB_0] at hlp
              exact ⟨_, _, m119 hQ0.qi hQ0.lj (ee_X9_throwOver_119 ⟨fun c => absurd c hne, fun _ => ⟨_, _, k1, ee_X9_throwOver_131 hlp⟩⟩), ((((rq_same.t0.tr (eT _ _)).sm.tr k3.gM).tr (rq_sm.cpB hN).nM).tr ((rq_sm.uI rq_nM3).nM.tr (rq_sm.uI rq_nM3).nM)).tr rq_sm.passes.nM, hQ7, (((k2.nM (.cpB hN)).nM (.uI rq_nM3)).nM (.uI rq_nM3)).nM .passes⟩
        · rw [if_neg hs] at hab
          exact .rd h (v := .inl (Int32.ofInt (-1000002))) (c41 (ee_X8_throwOver_41 ⟨fun _ => rfl, fun c => absurd (by rw [hab]; rfl) c⟩)) .rf (m109 hq0 hQ.lj (ee_X9_throwOver_109 ⟨fun _ => rfl, fun c => absurd (by rw [show s (10 + 4 * p) = 0 by omega]; rfl) c⟩)) e2 rfl
      · rw [if_neg (fun c => h5 c.2)] at k8
        exact .rd h (v := .inl (Int32.ofInt (-1000002))) (k8 (ee_X8_throwOver_30 ⟨fun _ => rfl, fun c => absurd rfl c⟩)) .rf (k9 hq0 hQ.lj (ee_X9_throwOver_28 ⟨fun _ => ⟨fun c => absurd (by rw [hq0 5 (by omega)] at c; exact (nI_eq (b := 1) (by omega) (by omega)).mp c) h5, fun _ => rfl⟩, fun c => absurd (nI_le (a := 6) (by omega) (by omega)) c⟩)) e2 rfl
    · exact .rd h (ee_X8_throwOver_0 ⟨_, _, _, es_X5_has.v (c_has hC w hp), ee_X8_throwOver_8 ⟨fun c => absurd c n10, fun _ => ⟨_, _, _, es_X8_isOutside.v i2, ee_X8_throwOver_17 ⟨fun c => absurd c n10, fun _ => rfl⟩⟩⟩⟩) .rf (ee_X9_throwOver_0 (ee_X9_throwOver_5 ⟨_, _, _, es_X9_isPerson.v (m_isPerson hq0 w hp), ee_X9_throwOver_10 ⟨fun c => absurd c n10, fun _ => ⟨_, _, _, es_X9_in.v i1, ee_X9_throwOver_20 ⟨fun _ => rfl, fun c => absurd rfl c⟩⟩⟩⟩)) .t0 rfl
  · exact .rd h (ee_X8_throwOver_0 ⟨_, _, _, es_X5_has.v (c_hasnt hC hx), ee_X8_throwOver_8 ⟨fun _ => rfl, fun c => absurd rfl c⟩⟩) .rf (ee_X9_throwOver_0 (ee_X9_throwOver_5 ⟨_, _, _, es_X9_isPerson.v (m_isntPerson hq0 w hx), ee_X9_throwOver_10 ⟨fun _ => rfl, fun c => absurd rfl c⟩⟩)) .t0 rfl
end RQX
