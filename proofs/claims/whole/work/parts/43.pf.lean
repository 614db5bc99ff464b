/-! pair: saved, both sides -/
def rq_lh (s : Nat → Nat) (a v : Nat) : Nat := a * s 3 + v * (20 - s 3)
def rq_bh (s : Nat → Nat) (a v : Nat) : Nat := 20 * a * s 3 + (20 - s 3) * rq_lh s a v
def rq_f1 (s L : Nat → Nat) (p : Nat) : Nat := rq_lh s (rq_sum L) (L p)
def rq_f2 (s L : Nat → Nat) (p : Nat) : Nat := 400 * L p + rq_bh s (rq_sum L - L p) (rq_M (rq_of (rq_A s) p) L)
def rq_v0 (s L : Nat → Nat) : Nat := rq_bh s (rq_sum L) (rq_M (rq_A s) L)
def rq_gl (s L : Nat → Nat) (p : Nat) : Nat := rq_bh s (rq_sum (rq_lot s (rq_D s) p L)) (rq_M (rq_A s) (rq_lot s (rq_D s) p L))
def rq_ab (s L : Nat → Nat) : Nat := rq_sl (rq_D s) (rq_gl s L) (s 0) 0 0
def rq_1h (s L : Nat → Nat) : Nat × Nat := rq_wf (rq_A s) (rq_f1 s L) (s 0) 0 (0, rq_lh s (rq_sum L) 0)
/-- two hours, all by a scale -/
def rq_2h (s L : Nat → Nat) (c : Nat) : Nat × Nat := rq_wf (rq_A s) (fun p => c * rq_f2 s L p) (s 0) 0 (if rq_D s ≠ 0 ∧ s 6 < 4 then rq_w 1 (rq_ab s L) (0, c * rq_v0 s L) else (0, c * rq_v0 s L))
def rq_p2 (I : sx_I) (J : sx_J) (b : Nat) (x : Nat × Nat) : Prop := I 2 0 3 = nI x.1 ∧ J 2 0 1 = lN x.2 ∧ J 2 0 2 = lN b
def rq_p9 (I : sx_I) (J : sx_J) (b : Nat) (x : Nat × Nat) : Prop := I 9 0 24 = nI x.1 ∧ J 9 0 22 = lN x.2 ∧ J 9 0 23 = lN b
theorem rq_M_le {A B : Nat} {L : Nat → Nat} (hL : ∀ p, p < 6 → L p ≤ B) : rq_M A L ≤ B := by
  unfold rq_M
  cases e : rq_B A L with
  | none => exact Nat.zero_le _
  | some q => exact hL q (rq_B_some e).1
theorem rq_lh_le {s : Nat → Nat} {a v B : Nat} (h3 : s 3 ≤ 19) (ha : a ≤ B) (hv : v ≤ B) : rq_lh s a v ≤ 20 * B := by
  have e1 : a * s 3 ≤ B * s 3 := Nat.mul_le_mul_right _ ha
  have e2 : v * (20 - s 3) ≤ B * (20 - s 3) := Nat.mul_le_mul_right _ hv
  have e3 : B * s 3 + B * (20 - s 3) = B * 20 := by rw [← Nat.mul_add, Nat.add_sub_cancel' (by omega)]
  unfold rq_lh; omega
theorem rq_bh_le {s : Nat → Nat} {a v B : Nat} (h3 : s 3 ≤ 19) (ha : a ≤ B) (hv : v ≤ B) : rq_bh s a v ≤ 400 * B := by
  have e1 : 20 * a * s 3 ≤ 20 * B * s 3 := Nat.mul_le_mul_right _ (by omega)
  have e2 : (20 - s 3) * rq_lh s a v ≤ (20 - s 3) * (20 * B) := Nat.mul_le_mul_left _ (rq_lh_le h3 ha hv)
  have e3 : 20 * B * s 3 + 20 * B * (20 - s 3) = 20 * B * 20 := by rw [← Nat.mul_add, Nat.add_sub_cancel' (by omega)]
  have e4 : (20 - s 3) * (20 * B) = 20 * B * (20 - s 3) := Nat.mul_comm _ _
  unfold rq_bh; omega
section RQSV
variable {sc : Nat × (Nat → Int32)} {d : Nat} {I I1 I2 : sx_I} {J J1 J2 : sx_J} {s L : Nat → Nat} {b c v : Nat} {x : Nat × Nat}
/-- in a storm all likelihoods together -/
theorem rq_V.sm5 (hW : rq_W s) (hV : rq_V s L) (h5 : s 5 ≠ 0) : rq_sum L ≤ 1399680000 := by
  have k : ∀ p, p < 6 → L p ≤ 233280000 := fun p hp => by
    have h1 := hV.2.1 p hp
    have h2 := rq_pow (s 6) hW.2.2.2.2.1
    rw [if_neg h5] at h1
    omega
  have k0 := k 0 (by omega); have k1 := k 1 (by omega); have k2 := k 2 (by omega)
  have k3 := k 3 (by omega); have k4 := k 4 (by omega); have k5 := k 5 (by omega)
  unfold rq_sum; omega
theorem rq_gl_le (hW : rq_W s) (hs : rq_sum L ≤ 1399680000) (p : Nat) : rq_gl s L p ≤ 33592320000000 := by
  have h2 := rq_lot_sum (D := rq_D s) (L := L) hW.2.1 p
  have h1 := rq_bh_le (a := rq_sum (rq_lot s (rq_D s) p L)) (v := rq_M (rq_A s) (rq_lot s (rq_D s) p L)) hW.2.2.2.1 (Nat.le_refl _) (rq_M_le (fun q hq => rq_le_sum hq))
  unfold rq_gl; omega
theorem rq_f2_le (hW : rq_W s) (hs : rq_sum L ≤ 1399680000) {p : Nat} (hp : p < 6) : rq_f2 s L p ≤ 1119744000000 := by
  have h2 := rq_le_sum (L := L) hp
  have h1 := rq_bh_le (a := rq_sum L - L p) (v := rq_M (rq_of (rq_A s) p) L) (B := rq_sum L) hW.2.2.2.1 (by omega) (rq_M_le (fun q hq => rq_le_sum hq))
  unfold rq_f2; omega
theorem rq_v0_le (hW : rq_W s) (hs : rq_sum L ≤ 1399680000) : rq_v0 s L ≤ 559872000000 := by
  have h1 := rq_bh_le (a := rq_sum L) (v := rq_M (rq_A s) L) hW.2.2.2.1 (Nat.le_refl _) (rq_M_le (fun q hq => rq_le_sum hq))
  unfold rq_v0; omega
theorem rq_ab_le (hW : rq_W s) (hs : rq_sum L ≤ 1399680000) : rq_ab s L ≤ 201553920000000 := by
  have h := rq_sl_lt (D := rq_D s) (g := rq_gl s L) (B := 33592320000000) (fun p _ => rq_gl_le hW hs p) (s 0) 0 0 (by have := hW.1; omega)
  have h2 : s 0 * 33592320000000 ≤ 6 * 33592320000000 := Nat.mul_le_mul_right _ hW.1
  unfold rq_ab; omega
theorem rq_p2.weigh {z : Int32} (h : rq_p2 I J b x) (hz : z = nI c) (hv : v < 2 ^ 63) (hx : x.2 < 2 ^ 63) : rq_p2 (i_X2_weigh I J (lN v) z) (j_X2_weigh I J (lN v) z) b (rq_w c v x) := by
  unfold i_X2_weigh j_X2_weigh rq_w
  rw [h.2.1]
  by_cases e : x.2 < v
  · have e2 : ¬ lN v ≤ lN x.2 := fun q => absurd ((pk_lLE hv hx).mp q) (by omega)
    rw [if_neg e2, if_neg e2, if_pos e]
    exact ⟨hz, rfl, h.2.2⟩
  · have e2 : lN v ≤ lN x.2 := (pk_lLE hv hx).mpr (by omega)
    rw [if_pos e2, if_pos e2, if_neg e]
    exact h
theorem rq_same.weigh {y : Int64} {z : Int32} : rq_same I J (i_X2_weigh I J y z) (j_X2_weigh I J y z) := by
  unfold i_X2_weigh j_X2_weigh
  split
  · exact .rf
  · exact (rq_same.uI (Or.inl rfl)).tr (.uJ (Or.inl rfl))
theorem rq_same.beginPlan {y z : Int64} : rq_same I J (i_X2_beginPlan I J y z) (j_X2_beginPlan I J y z) := ((rq_same.uI (Or.inl rfl)).tr (.uJ (Or.inl rfl))).tr (.uJ (Or.inl rfl))
theorem rq_p2.begin : rq_p2 (i_X2_beginPlan I J (lN b) (lN v)) (j_X2_beginPlan I J (lN b) (lN v)) b (0, v) := ⟨rfl, rfl, rfl⟩
theorem rq_n24 {n : Nat} (h : n < 2 ^ 31) : ¬ nI n = Int32.ofInt (-1000000) := fun z => by
  have h1 := congrArg Int32.toInt z
  rw [nI_toInt h] at h1
  have h2 : (Int32.ofInt (-1000000)).toInt = -1000000 := by decide
  omega
theorem rq_p9.tries {z : Int32} (h : rq_p9 I J b x) (hz : z = nI c) (h1 : x.1 < 2 ^ 31) (hv : v < 2 ^ 63) (hx : x.2 < 2 ^ 63) : rq_p9 (i_X9_tries I J z (lN v)) (j_X9_tries I J z (lN v)) b (rq_w c v x) := by
  unfold i_X9_tries j_X9_tries rq_w
  rw [h.1, h.2.1, if_neg (rq_n24 h1), if_neg (rq_n24 h1)]
  by_cases e : x.2 < v
  · have e2 : ¬ lN v ≤ lN x.2 := fun q => absurd ((pk_lLE hv hx).mp q) (by omega)
    rw [if_neg e2, if_neg e2, if_pos e]
    exact ⟨hz, rfl, h.2.2⟩
  · have e2 : lN v ≤ lN x.2 := (pk_lLE hv hx).mpr (by omega)
    rw [if_pos e2, if_pos e2, if_neg e]
    exact h
theorem rq_p9.first (h : I 9 0 24 = Int32.ofInt (-1000000)) (h2 : J 9 0 23 = lN b) : rq_p9 (i_X9_tries I J 0 (lN v)) (j_X9_tries I J 0 (lN v)) b (0, v) := by
  unfold i_X9_tries j_X9_tries
  rw [if_pos h, if_pos h]
  exact ⟨rfl, rfl, h2⟩
theorem rq_same.tries {y : Int64} {z : Int32} : rq_same I J (i_X9_tries I J z y) (j_X9_tries I J z y) := by
  unfold i_X9_tries j_X9_tries
  have k : rq_same I J (sx_uI I 9 0 24 z) (sx_uJ J 9 0 22 y) := (rq_same.uI (rq_s9 (by omega))).tr (.uJ (rq_s9 (by omega)))
  repeat' split
  · exact k
  · exact .rf
  · exact k
theorem rq_w_1 {c : Nat} (hc : c < 2 ^ 31) (h1 : x.1 < 2 ^ 31) : (rq_w c v x).1 < 2 ^ 31 := by
  unfold rq_w; split
  · exact hc
  · exact h1
/-! the class -/
theorem c_lh {r h l A D a v : Nat} {st : Int32} (hR : rq_R I J r s h l A D st L) (h3 : s 3 ≤ 19) : v_X2_lastHour I J r (lN a) (lN v) = lN (rq_lh s a v) := by
  rw [v_X2_lastHour, hR.2.2.2.1, nI_l (by omega), show (20 : Int32) = nI 20 from rfl, pk_sub (by omega), nI_l (by omega), lN_mul, lN_mul, lN_add]; rfl
theorem c_bh {r h l A D a v : Nat} {st : Int32} (hR : rq_R I J r s h l A D st L) (h3 : s 3 ≤ 19) : v_X2_bothHours I J r (lN a) (lN v) = lN (rq_bh s a v) := by
  rw [v_X2_bothHours, c_lh hR h3, hR.2.2.2.1, nI_l (by omega), show (20 : Int32) = nI 20 from rfl, pk_sub (by omega), nI_l (by omega), show (20 : Int64) = lN 20 from rfl, lN_mul, lN_mul, lN_mul, lN_add]; rfl
theorem lo_plan1 (hW : rq_W s) (hs : rq_sum L ≤ 1399680000) : ∀ (m k : Nat) (x : Nat × Nat) (I : sx_I) (J : sx_J), k + m = s 0 → rq_C I J 0 s L → rq_p2 I J b x → x.2 < 2 ^ 63 → ∃ I1 J1, rq_same I J I1 J1 ∧ rq_p2 I1 J1 b (rq_wf (rq_A s) (rq_f1 s L) m k x) ∧ sx_E sc (d + 10) cd_X2_planOneHour 23 [some (.inr (.inr (2, 0))), some (.inr (.inr (5, 0))), some (.inr (.inl (lN (rq_sum L)))), none, some (.inl (nI k))] [] I J (none, I1, J1) := by
  have w := hW.1
  intro m
  induction m with
  | zero =>
    intro k x I J hk hC hp hx
    exact ⟨I, J, .rf, hp, ee_X2_planOneHour_23 ⟨fun _ => rfl, fun c => absurd (by rw [hC.1]; exact nI_le (by omega) (by omega)) c⟩⟩
  | succ m ih =>
    intro k x I J hk hC hp hx
    have nc : ¬ I 5 0 0 ≤ nI k := by rw [hC.1]; exact nI_ge (by omega) (by omega)
    rw [rq_wf]
    rcases rq_b01 (rq_A s) k with e | e
    · rw [if_neg (by omega)]
      obtain ⟨I1, J1, h1, h2, h3⟩ := ih (k + 1) x I J (by omega) hC hp hx
      refine ⟨I1, J1, h1, h2, ee_X2_planOneHour_23 ⟨fun c => absurd c nc, fun _ => ⟨_, _, _, es_X5_isAboard.v (c_isAboard hC w (rq_A_lt s) (by omega)), ee_X2_planOneHour_38 ⟨fun _ => ee_X2_planOneHour_61 ?_, fun c => absurd (by rw [e]; rfl) c⟩⟩⟩⟩
      rw [nI_1]; exact h3
    · rw [if_pos e]
      have b1 := rq_le_sum (L := L) (p := k) (by omega)
      have b2 := rq_lh_le (a := rq_sum L) (v := L k) hW.2.2.2.1 (Nat.le_refl _) b1
      have b3 : rq_f1 s L k < 2 ^ 63 := by unfold rq_f1; omega
      have hz : (2 : Int32) + nI k = nI (2 + k) := by rw [show (2 : Int32) = nI 2 from rfl, nI_add]
      have sm : rq_same I J (i_X2_weigh I J (lN (rq_f1 s L k)) ((2 : Int32) + nI k)) (j_X2_weigh I J (lN (rq_f1 s L k)) ((2 : Int32) + nI k)) := .weigh
      obtain ⟨I1, J1, h1, h2, h3⟩ := ih (k + 1) _ _ _ (by omega) (hC.sm sm) (hp.weigh hz b3 hx) (rq_w_lt b3 hx)
      refine ⟨I1, J1, sm.tr h1, h2, ee_X2_planOneHour_23 ⟨fun c => absurd c nc, fun _ => ⟨_, _, _, es_X5_isAboard.v (c_isAboard hC w (rq_A_lt s) (by omega)), ee_X2_planOneHour_38 ⟨fun c => absurd c (by rw [e]; exact nn1), fun _ => ⟨rq_in6 (n := s 0) (by omega) w, _, _, _, es_X2_lastHour.w (w := lN (rq_f1 s L k)) ?_, ee_X2_planOneHour_54 ⟨_, _, es_X2_weigh, ee_X2_planOneHour_61 ?_⟩⟩⟩⟩⟩⟩
      · rw [nI_clamp (by omega), (hC.2.2.2.2.2.2.2.2.2.2 k (by omega)).2.2, c_lh hC hW.2.2.2.1]; rfl
      · rw [nI_1]; exact h3
theorem e_plan1 (hW : rq_W s) (hV : rq_V s L) (h5 : s 5 ≠ 0) (hC : rq_C I J 0 s L) : ∃ I1 J1, rq_same I J I1 J1 ∧ rq_p2 I1 J1 (20 * rq_sum L) (rq_1h s L) ∧ sx_E sc (d + 10) cd_X2_planOneHour 0 [some (.inr (.inr (2, 0))), some (.inr (.inr (5, 0))), none, none, none] [] I J (none, I1, J1) := by
  have w := hW.1
  have hs := hV.sm5 hW h5
  have b2 := rq_lh_le (a := rq_sum L) (v := 0) hW.2.2.2.1 (Nat.le_refl _) (Nat.zero_le _)
  have sm : rq_same I J (i_X2_beginPlan I J (lN (20 * rq_sum L)) (lN (rq_lh s (rq_sum L) 0))) (j_X2_beginPlan I J (lN (20 * rq_sum L)) (lN (rq_lh s (rq_sum L) 0))) := .beginPlan
  obtain ⟨I1, J1, h1, h2, h3⟩ := lo_plan1 (sc := sc) (d := d) hW hs (s 0) 0 _ _ _ (by omega) (hC.sm sm) rq_p2.begin (by show rq_lh s (rq_sum L) 0 < 2 ^ 63; omega)
  refine ⟨I1, J1, sm.tr h1, h2, ee_X2_planOneHour_0 ⟨_, _, _, (es_X5_all (hC.p6 w)).w (c_all hC w hV.1), ee_X2_planOneHour_4 ⟨_, _, _, es_X2_lastHour.w (c_lh (v := 0) hC hW.2.2.2.1), ee_X2_planOneHour_17 ⟨_, _, es_X2_beginPlan, ee_X2_planOneHour_20 ?_⟩⟩⟩⟩
  rw [show (20 : Int64) = lN 20 from rfl, lN_mul]
  exact h3
theorem rq_p2.becomes {r1 : Nat} (h : rq_p2 I J b x) : rq_p2 (i_X5_becomes I J 28 r1) (j_X5_becomes I J 28 r1) b x := by
  have e1 : i_X5_becomes I J 28 r1 2 0 3 = I 2 0 3 := rfl
  have e2 : j_X5_becomes I J 28 r1 2 0 1 = J 2 0 1 := rfl
  have e3 : j_X5_becomes I J 28 r1 2 0 2 = J 2 0 2 := rfl
  exact ⟨e1.trans h.1, e2.trans h.2.1, e3.trans h.2.2⟩
theorem rq_p2.learnLot {z : Int32} (h : rq_p2 I J b x) : rq_p2 I (j_X5_learnLot I J 28 z) b x := by
  have e2 : j_X5_learnLot I J 28 z 2 0 1 = J 2 0 1 := if_neg (by omega)
  have e3 : j_X5_learnLot I J 28 z 2 0 2 = J 2 0 2 := if_neg (by omega)
  exact ⟨h.1, e2.trans h.2.1, e3.trans h.2.2⟩
theorem lo_above (hW : rq_W s) (hV : rq_V s L) : ∀ (m k y : Nat) (I : sx_I) (J : sx_J), k + m = s 0 → rq_C I J 0 s L → rq_p2 I J b x → ∃ I1 J1, rq_same I J I1 J1 ∧ rq_p2 I1 J1 b x ∧ sx_E sc (d + 10) cd_X2_aboveByLot 5 [some (.inr (.inr (2, 0))), some (.inr (.inr (5, 0))), some (.inr (.inl (lN y))), none, some (.inl (nI k))] [] I J (some (.inr (.inl (lN (rq_sl (rq_D s) (rq_gl s L) m k y)))), I1, J1) := by
  have w := hW.1
  intro m
  induction m with
  | zero =>
    intro k y I J hk hC hp
    exact ⟨I, J, .rf, hp, ee_X2_aboveByLot_5 ⟨fun _ => rfl, fun c => absurd (by rw [hC.1]; exact nI_le (by omega) (by omega)) c⟩⟩
  | succ m ih =>
    intro k y I J hk hC hp
    have nc : ¬ I 5 0 0 ≤ nI k := by rw [hC.1]; exact nI_ge (by omega) (by omega)
    rw [rq_sl]
    rcases rq_b01 (rq_D s) k with e | e
    · rw [if_neg (by omega)]
      obtain ⟨I1, J1, h1, h2, h3⟩ := ih (k + 1) y I J (by omega) hC hp
      refine ⟨I1, J1, h1, h2, ee_X2_aboveByLot_5 ⟨fun c => absurd c nc, fun _ => ⟨_, _, _, es_X5_isDrawing.v (c_isDrawing hC w (rq_D_lt s) (by omega)), ee_X2_aboveByLot_20 ⟨fun _ => ee_X2_aboveByLot_63 ?_, fun c => absurd (by rw [e]; rfl) c⟩⟩⟩⟩
      rw [nI_1]; exact h3
    · rw [if_pos e]
      have hR2 : rq_R (i_X5_becomes I J 28 0) (j_X5_becomes I J 28 0) 28 s (s 4) (s 6) (rq_A s) (rq_D s) (rq_st s) L := c_becomes hC w
      have hR3 := c_learnLot (nm := k) hR2 w (rq_D_lt s) hW.2.1 (fun q hq => hW.kd hq) (by omega)
      have sm1 : rq_same I J (i_X5_becomes I J 28 0) (j_X5_becomes I J 28 0) := .becomes (Or.inr (by omega))
      have sm2 : rq_same (i_X5_becomes I J 28 0) (j_X5_becomes I J 28 0) (i_X5_becomes I J 28 0) (j_X5_learnLot (i_X5_becomes I J 28 0) (j_X5_becomes I J 28 0) 28 (nI k)) := .learnLot (Or.inr (by omega))
      have hC2 := hC.sm (sm1.tr sm2)
      have hp6 : sx_p6 (i_X5_becomes I J 28 0 5 28 0) := ⟨s 0, w, hR2.1⟩
      obtain ⟨I1, J1, h1, h2, h3⟩ := ih (k + 1) (y + rq_gl s L k) _ _ (by omega) hC2 hp.becomes.learnLot
      refine ⟨I1, J1, (sm1.tr sm2).tr h1, h2, ee_X2_aboveByLot_5 ⟨fun c => absurd c nc, fun _ => ⟨_, _, _, es_X5_isDrawing.v (c_isDrawing hC w (rq_D_lt s) (by omega)), ee_X2_aboveByLot_20 ⟨fun c => absurd c (by rw [e]; exact nn1), fun _ => ⟨_, _, es_X5_becomes (by omega) hC.st, ee_X2_aboveByLot_31 ⟨_, _, es_X5_learnLot hp6, ee_X2_aboveByLot_40 ⟨_, _, _, (es_X5_all hp6).w (c_all hR3 w (rq_lot_0 hV.1 k)), ee_X2_aboveByLot_49 ⟨_, _, _, (es_X5_mostAboardBut hp6).w (c_most hR3 w (rq_A_lt s) (rq_lotlt hW hV _ _)), ee_X2_aboveByLot_58 ⟨_, _, _, es_X2_bothHours.w (c_bh hC2 hW.2.2.2.1), ee_X2_aboveByLot_61 (ee_X2_aboveByLot_63 ?_)⟩⟩⟩⟩⟩⟩⟩⟩⟩
      rw [nI_1, lN_add]; exact h3
theorem lo_plan2 (hW : rq_W s) (hV : rq_V s L) (hs : rq_sum L ≤ 1399680000) (hc : c ≤ 60) {x4 : Int32} : ∀ (m k : Nat) (x : Nat × Nat) (o8 : Option sx_V) (I : sx_I) (J : sx_J), k + m = s 0 → rq_C I J 0 s L → rq_p2 I J b x → x.2 < 2 ^ 63 → ∃ I1 J1, rq_same I J I1 J1 ∧ rq_p2 I1 J1 b (rq_wf (rq_A s) (fun p => c * rq_f2 s L p) m k x) ∧ sx_E sc (d + 10) cd_X2_planTwoHours 91 [some (.inr (.inr (2, 0))), some (.inr (.inr (5, 0))), some (.inr (.inl (lN (rq_sum L)))), none, some (.inl x4), some (.inr (.inl (lN c))), none, some (.inl (nI k)), o8, none] [] I J (none, I1, J1) := by
  have w := hW.1
  intro m
  induction m with
  | zero =>
    intro k x o8 I J hk hC hp hx
    exact ⟨I, J, .rf, hp, ee_X2_planTwoHours_91 ⟨fun _ => rfl, fun c => absurd (by rw [hC.1]; exact nI_le (by omega) (by omega)) c⟩⟩
  | succ m ih =>
    intro k x o8 I J hk hC hp hx
    have nc : ¬ I 5 0 0 ≤ nI k := by rw [hC.1]; exact nI_ge (by omega) (by omega)
    rw [rq_wf]
    rcases rq_b01 (rq_A s) k with e | e
    · rw [if_neg (by omega)]
      obtain ⟨I1, J1, h1, h2, h3⟩ := ih (k + 1) x o8 I J (by omega) hC hp hx
      refine ⟨I1, J1, h1, h2, ee_X2_planTwoHours_91 ⟨fun c => absurd c nc, fun _ => ⟨_, _, _, es_X5_isAboard.v (c_isAboard hC w (rq_A_lt s) (by omega)), ee_X2_planTwoHours_106 ⟨fun _ => ee_X2_planTwoHours_150 ?_, fun c => absurd (by rw [e]; rfl) c⟩⟩⟩⟩
      rw [nI_1]; exact h3
    · rw [if_pos e]
      have b1 := rq_le_sum (L := L) (p := k) (by omega)
      have b2 := rq_f2_le hW hs (p := k) (by omega)
      have b4 : c * rq_f2 s L k ≤ 60 * rq_f2 s L k := Nat.mul_le_mul_right _ hc
      have b3 : c * rq_f2 s L k < 2 ^ 63 := by omega
      have hz : (2 : Int32) + nI k = nI (2 + k) := by rw [show (2 : Int32) = nI 2 from rfl, nI_add]
      have sm : rq_same I J (i_X2_weigh I J (lN (c * rq_f2 s L k)) ((2 : Int32) + nI k)) (j_X2_weigh I J (lN (c * rq_f2 s L k)) ((2 : Int32) + nI k)) := .weigh
      have el : J 11 0 (nI k).toNatClampNeg = lN (L k) := by rw [nI_clamp (by omega), (hC.2.2.2.2.2.2.2.2.2.2 k (by omega)).2.2]
      obtain ⟨I1, J1, h1, h2, h3⟩ := ih (k + 1) _ (some (.inr (.inl (J 11 0 (nI k).toNatClampNeg)))) _ _ (by omega) (hC.sm sm) (hp.weigh hz b3 hx) (rq_w_lt b3 hx)
      refine ⟨I1, J1, sm.tr h1, h2, ee_X2_planTwoHours_91 ⟨fun c => absurd c nc, fun _ => ⟨_, _, _, es_X5_isAboard.v (c_isAboard hC w (rq_A_lt s) (by omega)), ee_X2_planTwoHours_106 ⟨fun c => absurd c (by rw [e]; exact nn1), fun _ => ⟨rq_in6 (n := s 0) (by omega) w, _, _, _, (es_X5_mostAboardBut (hC.p6 w)).w (c_mostBut hC w (rq_A_lt s) (hV.lt hW) (by omega)), ee_X2_planTwoHours_138 ⟨_, _, _, es_X2_bothHours.w (w := lN (rq_bh s (rq_sum L - L k) (rq_M (rq_of (rq_A s) k) L))) ?_, ee_X2_planTwoHours_141 ⟨_, _, es_X2_weigh, ee_X2_planTwoHours_150 ?_⟩⟩⟩⟩⟩⟩⟩
      · rw [el, lN_sub b1, c_bh hC hW.2.2.2.1]
      · rw [nI_1, el, show (400 : Int64) = lN 400 from rfl, lN_mul, lN_add, lN_mul]; rw [el] at h3; exact h3
def rq_sc (s : Nat → Nat) : Nat := if rq_D s ≠ 0 ∧ s 6 < 4 then 10 * rq_pc (rq_D s) else 1
theorem e_plan2 (hW : rq_W s) (hV : rq_V s L) (h5 : s 5 ≠ 0) (hC : rq_C I J 0 s L) : ∃ I1 J1, rq_same I J I1 J1 ∧ rq_p2 I1 J1 (400 * rq_sum L * rq_sc s) (rq_2h s L (rq_sc s)) ∧ sx_E sc (d + 14) cd_X2_planTwoHours 0 [some (.inr (.inr (2, 0))), some (.inr (.inr (5, 0))), none, none, none, none, none, none, none, none] [] I J (none, I1, J1) := by
  have w := hW.1
  have hs := hV.sm5 hW h5
  have hD := rq_64 (rq_D_lt s) w
  have hpc := rq_pc_le (rq_D s)
  have hc : rq_sc s ≤ 60 := by unfold rq_sc; split <;> omega
  have b0 := rq_v0_le hW hs
  have b1 := rq_ab_le hW hs
  have b2 : rq_sc s * rq_v0 s L ≤ 60 * rq_v0 s L := Nat.mul_le_mul_right _ hc
  have e8 : I 5 0 8 = nI (rq_D s) := hC.2.2.2.2.2.2.2.2.1
  have e5 : I 5 0 5 = nI (s 6) := hC.2.2.2.2.2.1
  have w6 := hW.2.2.2.2.1
  have sm : rq_same I J (i_X2_beginPlan I J (lN (400 * rq_sum L * rq_sc s)) (lN (rq_sc s * rq_v0 s L))) (j_X2_beginPlan I J (lN (400 * rq_sum L * rq_sc s)) (lN (rq_sc s * rq_v0 s L))) := .beginPlan
  have hp0 : rq_p2 (i_X2_beginPlan I J (lN (400 * rq_sum L * rq_sc s)) (lN (rq_sc s * rq_v0 s L))) (j_X2_beginPlan I J (lN (400 * rq_sum L * rq_sc s)) (lN (rq_sc s * rq_v0 s L))) (400 * rq_sum L * rq_sc s) (0, rq_sc s * rq_v0 s L) := rq_p2.begin
  have e45 : ∀ {x4 : Int32} {res : Option sx_V × sx_I × sx_J}, sx_E sc (d + 14) cd_X2_planTwoHours 73 [some (.inr (.inr (2, 0))), some (.inr (.inr (5, 0))), some (.inr (.inl (lN (rq_sum L)))), none, some (.inl x4), some (.inr (.inl (lN (rq_sc s)))), none, none, none, none] [] (i_X2_beginPlan I J (lN (400 * rq_sum L * rq_sc s)) (lN (rq_sc s * rq_v0 s L))) (j_X2_beginPlan I J (lN (400 * rq_sum L * rq_sc s)) (lN (rq_sc s * rq_v0 s L))) res → sx_E sc (d + 14) cd_X2_planTwoHours 45 [some (.inr (.inr (2, 0))), some (.inr (.inr (5, 0))), some (.inr (.inl (lN (rq_sum L)))), none, some (.inl x4), none, none, none, none, none] [.inr (.inl (lN (rq_sc s)))] I J res := fun k => by
    refine ee_X2_planTwoHours_45 ⟨_, _, _, (es_X5_mostAboardBut (hC.p6 w)).w (c_most hC w (rq_A_lt s) (hV.lt hW)), ee_X2_planTwoHours_66 ⟨_, _, _, es_X2_bothHours.w (c_bh hC hW.2.2.2.1), ee_X2_planTwoHours_69 ⟨_, _, es_X2_beginPlan, ?_⟩⟩⟩
    rw [show (400 : Int64) = lN 400 from rfl, lN_mul, lN_mul, lN_mul]
    exact k
  have e0 : ∀ {res : Option sx_V × sx_I × sx_J}, sx_E sc (d + 14) cd_X2_planTwoHours 4 [some (.inr (.inr (2, 0))), some (.inr (.inr (5, 0))), none, none, none, none, none, none, none, none] [.inr (.inl (lN (rq_sum L)))] I J res → sx_E sc (d + 14) cd_X2_planTwoHours 0 [some (.inr (.inr (2, 0))), some (.inr (.inr (5, 0))), none, none, none, none, none, none, none, none] [] I J res := fun k => ee_X2_planTwoHours_0 ⟨_, _, _, (es_X5_all (hC.p6 w)).w (c_all hC w hV.1), k⟩
  by_cases hm : rq_D s ≠ 0 ∧ s 6 < 4
  · have esc : rq_sc s = 10 * rq_pc (rq_D s) := if_pos hm
    obtain ⟨I1, J1, h1, h2, h3⟩ := lo_above (sc := sc) (d := d + 3) hW hV (s 0) 0 0 _ _ (by omega) (hC.sm sm) hp0
    have sm2 : rq_same I1 J1 (i_X2_weigh I1 J1 (lN (rq_ab s L)) (1 : Int32)) (j_X2_weigh I1 J1 (lN (rq_ab s L)) (1 : Int32)) := .weigh
    have hx0 : (0, rq_sc s * rq_v0 s L).2 < 2 ^ 63 := by show rq_sc s * rq_v0 s L < 2 ^ 63; omega
    obtain ⟨I2, J2, g1, g2, g3⟩ := lo_plan2 (sc := sc) (d := d + 4) (x4 := 1) hW hV hs hc (s 0) 0 _ none _ _ (by omega) (((hC.sm sm).sm h1).sm sm2) (h2.weigh (c := 1) (z := 1) rfl (show rq_ab s L < 2 ^ 63 by omega) hx0) (rq_w_lt (by omega) hx0)
    refine ⟨I2, J2, ((sm.tr h1).tr sm2).tr g1, ?_, e0 (ee_X2_planTwoHours_4 ⟨fun c => absurd (e8.symm.trans c) (fun q => hm.1 ((rq_nI0 (by omega)).mp q)), fun _ => ⟨fun c => absurd c (by rw [e5]; exact nI_ge (b := 4) hm.2 (by omega)), fun _ => ee_X2_planTwoHours_25 ⟨fun c => absurd c n10, fun _ => ⟨_, _, _, es_X5_drawers.v (c_drawers hC hD), ee_X2_planTwoHours_39 ?_⟩⟩⟩⟩)⟩
    · rw [rq_2h, if_pos hm]; exact g2
    · rw [nI_l (by omega), show (10 : Int64) = lN 10 from rfl, lN_mul, ← esc]
      exact e45 (ee_X2_planTwoHours_73 ⟨fun c => absurd c n10, fun _ => ⟨_, _, _, ee_X2_aboveByLot_0 h3, ee_X2_planTwoHours_84 ⟨_, _, es_X2_weigh, ee_X2_planTwoHours_88 g3⟩⟩⟩)
  · have esc : rq_sc s = 1 := if_neg hm
    have hx0 : (0, rq_sc s * rq_v0 s L).2 < 2 ^ 63 := by show rq_sc s * rq_v0 s L < 2 ^ 63; omega
    obtain ⟨I2, J2, g1, g2, g3⟩ := lo_plan2 (sc := sc) (d := d + 4) (x4 := 0) hW hV hs hc (s 0) 0 _ none _ _ (by omega) (hC.sm sm) hp0 hx0
    have k24 : sx_E sc (d + 14) cd_X2_planTwoHours 24 [some (.inr (.inr (2, 0))), some (.inr (.inr (5, 0))), some (.inr (.inl (lN (rq_sum L)))), none, none, none, none, none, none, none] [] I J (none, I2, J2) := ee_X2_planTwoHours_24 (ee_X2_planTwoHours_25 ⟨fun _ => by rw [show (1 : Int64) = lN (rq_sc s) by rw [esc]; rfl]; exact e45 (ee_X2_planTwoHours_73 ⟨fun _ => ee_X2_planTwoHours_88 g3, fun c => absurd rfl c⟩), fun c => absurd rfl c⟩)
    refine ⟨I2, J2, sm.tr g1, ?_, e0 (ee_X2_planTwoHours_4 ⟨fun _ => k24, fun c => ⟨fun _ => k24, fun c2 => ?_⟩⟩)⟩
    · rw [rq_2h, if_neg hm]; exact g2
    · refine absurd ⟨fun q => c (by rw [e8, q]; rfl), ?_⟩ hm
      rw [e5] at c2
      exact Nat.lt_of_not_le (fun q => c2 (nI_le (a := 4) q (by omega)))
end RQSV
