/-! storm: what is meant -/
def rq_sx (x : Nat) : Nat := x * 16807 % 2147483647
theorem rq_sx_lt (x : Nat) : rq_sx x < 2147483647 := Nat.mod_lt _ (by decide)
def rq_ps (f : Nat → Nat) : Nat → Nat → Nat
  | 0, _ => 0
  | m + 1, k => f k + rq_ps f m (k + 1)
/-- whom a place falls to -/
def rq_pl (f : Nat → Nat) : Nat → Nat → Nat → Nat
  | 0, k, _ => k
  | m + 1, k, x => if x < f k then k else rq_pl f m (k + 1) (x - f k)
theorem rq_pl_spec (f : Nat → Nat) : ∀ m k x, x < rq_ps f m k → rq_pl f m k x < k + m ∧ 0 < f (rq_pl f m k x)
  | 0, k, x, h => by rw [rq_ps] at h; omega
  | m + 1, k, x, h => by
    rw [rq_ps] at h
    rw [rq_pl]
    by_cases c : x < f k
    · rw [if_pos c]; exact ⟨by omega, by omega⟩
    · rw [if_neg c]
      have ih := rq_pl_spec f m (k + 1) (x - f k) (by omega)
      exact ⟨by omega, ih.2⟩
theorem rq_ps_n {f : Nat → Nat} {n : Nat} (hn : n ≤ 6) (h0 : ∀ p, n ≤ p → p < 6 → f p = 0) : rq_ps f n 0 = f 0 + f 1 + f 2 + f 3 + f 4 + f 5 := by
  have e : n = 0 ∨ n = 1 ∨ n = 2 ∨ n = 3 ∨ n = 4 ∨ n = 5 ∨ n = 6 := by omega
  have hz : ∀ p, p < 6 → n ≤ p → f p = 0 := fun p a b => h0 p b a
  rcases e with rfl | rfl | rfl | rfl | rfl | rfl | rfl <;> simp [rq_ps, hz] <;> omega
theorem rq_ps_D {n D : Nat} (hn : n ≤ 6) (hD : D < 2 ^ n) : rq_ps (rq_b D) n 0 = rq_pc D := rq_ps_n hn (fun p a _ => rq_b_lt (Nat.lt_of_lt_of_le hD (Nat.pow_le_pow_right (by decide) a)))
def rq_p1 (A : Nat) (L : Nat → Nat) : Nat := match rq_B A L with
  | none => 0
  | some q => q
def rq_nm (s : Nat → Nat) (D one x : Nat) : Nat := if rq_b D one = 1 ∧ x % 10 < rq_T s one then one else rq_pl (rq_b D) (s 0) 0 (x / 10 % rq_pc D)
def rq_go (s : Nat → Nat) (a one : Nat) : Nat → Nat → Nat → (Nat → Nat) → Nat → Nat → Nat → Nat × Nat × Nat
  | 0, _, _, _, _, ls, hr => (ls, hr, 0)
  | m + 1, A, l, L, x, ls, hr =>
    if rq_sum L * a ≤ L (rq_p1 A L) * 100 ∨ rq_Dr s A = 0 ∨ l = 4 then
      (if rq_p1 A L = one then (ls, hr + 1, 1)
       else if rq_sx x % 20 < s 3 then (ls + 1, hr + 1, 1)
       else rq_go s a one m (rq_of A (rq_p1 A L)) l (rq_thr s L 0 (rq_p1 A L)) (rq_sx x) (ls + 1) (hr + 1))
    else
      (if rq_sx (rq_sx x) % 20 < s 3 then (ls, hr + 1, 1)
       else rq_go s a one m A (l + 1) (rq_lot s (rq_Dr s A) (rq_nm s (rq_Dr s A) one (rq_sx x)) L) (rq_sx (rq_sx x)) ls (hr + 1))
def rq_iv (s : Nat → Nat) (one A l : Nat) (L : Nat → Nat) : Prop := A < 2 ^ s 0 ∧ one < s 0 ∧ rq_b A one = 1 ∧ 0 < L one ∧ (∀ p, s 0 ≤ p → p < 6 → L p = 0) ∧ (∀ p, p < 6 → L p ≤ 18 * 60 ^ l) ∧ l ≤ 4
section RQST
variable {s L : Nat → Nat} {one A l D p x : Nat}
theorem rq_iv.fst (h : rq_iv s one A l L) (hn : s 0 ≤ 6) : rq_B A L = some (rq_p1 A L) ∧ rq_p1 A L < s 0 ∧ rq_b A (rq_p1 A L) = 1 := by
  obtain ⟨h1, h2, h3, _⟩ := h
  obtain ⟨z, hz, _⟩ := rq_B_max (L := L) (show one < 6 by omega) h3
  have e : rq_p1 A L = z := by unfold rq_p1; rw [hz]
  have hs := rq_B_some hz
  rw [e]
  refine ⟨hz, ?_, hs.2⟩
  rcases Nat.lt_or_ge z (s 0) with q | q
  · exact q
  · have := rq_b_lt (Nat.lt_of_lt_of_le h1 (Nat.pow_le_pow_right (n := 2) (by decide) q))
    omega
theorem rq_iv.sum (h : rq_iv s one A l L) (hn : s 0 ≤ 6) : rq_sum L ≤ 1399680000 ∧ 0 < rq_sum L := by
  obtain ⟨_, h2, _, h4, _, h6, h7⟩ := h
  have hp := rq_pow l h7
  have k0 := h6 0 (by omega); have k1 := h6 1 (by omega); have k2 := h6 2 (by omega)
  have k3 := h6 3 (by omega); have k4 := h6 4 (by omega); have k5 := h6 5 (by omega)
  have := rq_le_sum (L := L) (p := one) (by omega)
  refine ⟨?_, by omega⟩
  unfold rq_sum; omega
theorem rq_iv.lt (h : rq_iv s one A l L) : ∀ p, p < 6 → L p < 2 ^ 63 := fun p hp => by
  have h1 := h.2.2.2.2.2.1 p hp
  have h2 := rq_pow l h.2.2.2.2.2.2
  omega
theorem rq_thr0 (k : Nat) : rq_thr s L 0 p k = if k = p then 0 else L k := by
  show (if (0 : Nat) = 1 then L k * (if k = p then 20 else s 3) else if k = p then 0 else L k) = _
  rw [if_neg (by decide)]
theorem rq_iv.thr (h : rq_iv s one A l L) (hn : s 0 ≤ 6) (hp : p < s 0) (hne : ¬ p = one) : rq_iv s one (rq_of A p) l (rq_thr s L 0 p) := by
  obtain ⟨h1, h2, h3, h4, h5, h6, h7⟩ := h
  refine ⟨rq_of_ltn h1, h2, ?_, ?_, fun q a b => ?_, fun q hq => ?_, h7⟩
  · rw [rq_of_b A (rq_64 h1 hn) p (by omega) one (by omega), if_neg (fun z => hne z.symm)]; exact h3
  · rw [rq_thr0, if_neg (fun z => hne z.symm)]; exact h4
  · rw [rq_thr0]; split
    · rfl
    · exact h5 q a b
  · rw [rq_thr0]; split
    · exact Nat.zero_le _
    · exact h6 q hq
theorem rq_Dr_of (hn : s 0 ≤ 6) (hA : A < 2 ^ s 0) (hp : p < s 0) : rq_Dr s (rq_of A p) = rq_of (rq_Dr s A) p := by
  have hA6 := rq_64 hA hn
  have hD := rq_64 (rq_Dr_lt s A) hn
  refine rq_ext (rq_64 (rq_Dr_lt s _) hn) (rq_of_lt _ hD p (by omega)) (fun z hz => ?_)
  rw [rq_of_b _ hD p (by omega) z hz]
  rcases Nat.lt_or_ge z (s 0) with q | q
  · rw [rq_Dr_b s q, rq_Dr_b s q, rq_of_b _ hA6 p (by omega) z hz]
    by_cases c : z = p
    · rw [if_pos c, if_pos c, if_neg (fun y => absurd y.1 (by decide))]
    · rw [if_neg c, if_neg c]
  · have b : ∀ B, rq_b (rq_Dr s B) z = 0 := fun B => rq_b_lt (Nat.lt_of_lt_of_le (rq_Dr_lt s B) (Nat.pow_le_pow_right (n := 2) (by decide) q))
    rw [b, b, ite_self]
theorem rq_nm_lt (hn : s 0 ≤ 6) (hD : D < 2 ^ s 0) (hpc : 0 < rq_pc D) (h1 : one < s 0) : rq_nm s D one x < s 0 := by
  unfold rq_nm; split
  · exact h1
  · have h := (rq_pl_spec (rq_b D) (s 0) 0 (x / 10 % rq_pc D) (by rw [rq_ps_D hn hD]; exact Nat.mod_lt _ hpc)).1
    omega
theorem rq_F_pos (ht : s 1 ≤ 10) (hpc : 0 < rq_pc D) : 0 < rq_F s D (rq_nm s D one x) one := by
  have hT := rq_T_le ht one
  have hm : rq_T s one ≤ rq_pc D * rq_T s one := Nat.le_mul_of_pos_left _ hpc
  unfold rq_F
  rcases rq_b01 D one with e | e
  · rw [if_neg (by omega)]; omega
  · rw [if_pos e]
    by_cases c : one = rq_nm s D one x
    · rw [if_pos c]; omega
    · rw [if_neg c]
      have : ¬ (rq_b D one = 1 ∧ x % 10 < rq_T s one) := fun q => c (by unfold rq_nm; rw [if_pos q])
      have : ¬ x % 10 < rq_T s one := fun q => this ⟨e, q⟩
      omega
theorem rq_iv.lot (h : rq_iv s one A l L) (ht : s 1 ≤ 10) (hpc : 0 < rq_pc D) (hl : l < 4) : rq_iv s one A (l + 1) (rq_lot s D (rq_nm s D one x) L) := by
  obtain ⟨h1, h2, h3, h4, h5, h6, h7⟩ := h
  refine ⟨h1, h2, h3, Nat.mul_pos h4 (rq_F_pos ht hpc), rq_lot_0 h5 _, fun q hq => ?_, by omega⟩
  have b1 := rq_lot_le (D := D) (L := L) ht (rq_nm s D one x) q
  have b2 := h6 q hq
  rw [Nat.pow_succ]
  omega
end RQST
/-! drawing -/
section RQSD
variable {sc : Nat × (Nat → Int32)} {d : Nat} {I I1 I2 : sx_I} {J J1 J2 : sx_J} {s L : Nat → Nat} {h l A D one x : Nat} {st : Int32}
theorem rq_sxE (hx : x < 2147483647) : (lN x * (Int64.ofInt (16807))) - (lN x * (Int64.ofInt (16807))) / (Int64.ofInt (2147483647)) * (Int64.ofInt (2147483647)) = lN (rq_sx x) := by
  rw [show (Int64.ofInt (16807)) = lN 16807 from rfl, show (Int64.ofInt (2147483647)) = lN 2147483647 from rfl, lN_mul, pk_lRem (by omega) (by omega) (by omega)]; rfl
theorem e_drawC (hx : x < 2147483647) (h : J 3 0 4 = lN x) : sx_E sc d cd_X3_draw 0 [some (.inr (.inr (3, 0)))] [] I J (some (.inr (.inl (lN (rq_sx x)))), I, sx_uJ J 3 0 4 (lN (rq_sx x))) := by
  have e := es_X3_draw (sc := sc) (d := d) (I := I) (J := J)
  unfold v_X3_draw j_X3_draw at e
  rw [h, rq_sxE hx] at e
  exact e
theorem e_drawM (hx : x < 2147483647) (h : J 9 0 25 = lN x) : sx_E sc d cd_X9_draws 0 [some (.inr (.inr (9, 0)))] [] I J (some (.inr (.inl (lN (rq_sx x)))), I, sx_uJ J 9 0 25 (lN (rq_sx x))) := by
  have e := es_X9_draws (sc := sc) (d := d) (I := I) (J := J)
  unfold v_X9_draws j_X9_draws at e
  rw [h, rq_sxE hx] at e
  exact e
theorem rq_lneg {y b : Nat} (hb : b < 2 ^ 62) (h : y < b) : ¬ (0 : Int64) ≤ lN y - lN b := by
  rw [Int64.le_iff_toInt_le, Int64.toInt_sub, pk_lT (by omega), pk_lT (by omega), show (0 : Int64).toInt = 0 from by decide, Int.bmod_eq_of_le (by omega) (by omega)]
  omega
theorem rq_lpos2 {y b : Nat} (hy : y < 2 ^ 63) (h : b ≤ y) : (0 : Int64) ≤ lN y - lN b := by
  rw [lN_sub h, show (0 : Int64) = lN 0 from rfl, pk_lLE (by omega) (by omega)]; omega
theorem lo_one {y1 : Int64} (hn : s 0 ≤ 6) (h0 : I 5 29 0 = nI (s 0)) (hL : ∀ p, p < s 0 → J 11 29 p = lN (L p)) (hb : ∀ p, p < s 0 → L p < 2 ^ 62) : ∀ (m k y : Nat), k + m = s 0 → y < 2 ^ 62 → y < rq_ps L m k → sx_E sc (d + 1) cd_X3_drawTheOne 28 [some (.inr (.inr (3, 0))), some (.inr (.inl y1)), none, some (.inr (.inl (lN y))), none, some (.inl (nI k))] [] I J (some (.inl (nI (rq_pl L m k y))), I, J) := by
  intro m
  induction m with
  | zero => intro k y _ _ h; rw [rq_ps] at h; omega
  | succ m ih =>
    intro k y hk hy h
    rw [rq_ps] at h
    refine ee_X3_drawTheOne_28 ⟨fun c => absurd c (by rw [h0]; exact nI_ge (by omega) (by omega)), fun _ => ⟨rq_in6 (n := s 0) (by omega) hn, fun c => ?_, fun c => ?_⟩⟩
    · rw [nI_clamp (by omega), hL k (by omega)] at c ⊢
      have hle : L k ≤ y := Nat.le_of_not_lt (fun q => rq_lneg (hb k (by omega)) q c)
      rw [lN_sub hle, nI_1, rq_pl, if_neg (by omega)]
      exact ih (k + 1) (y - L k) (by omega) (by omega) (by omega)
    · rw [nI_clamp (by omega), hL k (by omega)] at c
      have hlt : y < L k := Nat.lt_of_not_le (fun q => c (rq_lpos2 (by omega) q))
      rw [rq_pl, if_pos hlt]
theorem e_one (hR : rq_R I J 29 s h l A D st L) (hn : s 0 ≤ 6) (h0 : ∀ p, s 0 ≤ p → p < 6 → L p = 0) (hs : 0 < rq_sum L) (hs2 : rq_sum L ≤ 1399680000) (hx : x < 2147483647) (hJ : J 3 0 4 = lN x) : sx_E sc (d + 1) cd_X3_drawTheOne 0 [some (.inr (.inr (3, 0))), none, none, none, none, none] [] I J (some (.inl (nI (rq_pl L (s 0) 0 (rq_sx x % rq_sum L)))), I, sx_uJ J 3 0 4 (lN (rq_sx x))) := by
  have hsx := rq_sx_lt x
  have hm := Nat.mod_lt (rq_sx x) hs
  refine ee_X3_drawTheOne_0 ⟨_, _, _, (es_X5_all ⟨s 0, hn, hR.1⟩).w (c_all hR hn h0), ee_X3_drawTheOne_7 ⟨fun c => absurd ((rq_lpos (by omega)).mp c) (by omega), fun _ => ⟨_, _, _, e_drawC hx hJ, ee_X3_drawTheOne_18 ⟨fun c => absurd ((rq_lN0 (by omega)).mp c) (by omega), ?_⟩⟩⟩⟩
  rw [pk_lRem (by omega) hs (by omega)]
  refine ee_X3_drawTheOne_24 (lo_one (J := sx_uJ J 3 0 4 (lN (rq_sx x))) hn hR.1 (fun p hp => (hR.2.2.2.2.2.2.2.2.2.2 p hp).2.2) (fun p hp => ?_) (s 0) 0 (rq_sx x % rq_sum L) (by omega) (by omega) ?_)
  · have := rq_le_sum (L := L) (p := p) (by omega)
    omega
  · rw [rq_ps_n hn h0]; exact hm
theorem lo_falls {y1 : Int64} (hn : s 0 ≤ 6) (hL : rq_Lj J 0 L) (hb : ∀ p, p < 6 → L p < 2 ^ 62) : ∀ (m k y : Nat), k + m = s 0 → y < 2 ^ 62 → y < rq_ps L m k → sx_E sc d cd_X9_fallsTo 5 [some (.inr (.inr (9, 0))), some (.inr (.inl y1)), none, some (.inr (.inl (lN y))), none, some (.inl (nI k))] [] I J (some (.inl (nI (rq_pl L m k y))), I, J) := by
  intro m
  induction m with
  | zero => intro k y _ _ h; rw [rq_ps] at h; omega
  | succ m ih =>
    intro k y hk hy h
    rw [rq_ps] at h
    have hbk := hb k (by omega)
    have i6 : sx_in (nI k) 6 = true := rq_in6 (n := s 0) (by omega) hn
    refine ee_X9_fallsTo_5 ⟨i6, fun c => ?_, fun c => ⟨i6, ?_⟩⟩
    · rw [nI_clamp (by omega), hL k (by omega), pk_lLT (by omega) (by omega)] at c
      rw [rq_pl, if_pos c]
    · rw [nI_clamp (by omega), hL k (by omega)] at c ⊢
      rw [pk_lLT (by omega) (by omega)] at c
      rw [lN_sub (by omega), nI_1, rq_pl, if_neg c]
      exact ih (k + 1) (y - L k) (by omega) (by omega) (by omega)
theorem lo_drawer {y1 : Int64} {x3 : Int32} (hR : rq_R I J 29 s h l A D st L) (hn : s 0 ≤ 6) (hD : D < 2 ^ s 0) : ∀ (m k y : Nat), k + m = s 0 → y < 2 ^ 62 → y < rq_ps (rq_b D) m k → sx_E sc (d + 1) cd_X3_drawerAt 25 [some (.inr (.inr (3, 0))), some (.inr (.inl y1)), none, some (.inl x3), some (.inr (.inl (lN y))), none, some (.inl (nI k))] [] I J (some (.inl (nI (rq_pl (rq_b D) m k y))), I, J) := by
  intro m
  induction m with
  | zero => intro k y _ _ h; rw [rq_ps] at h; omega
  | succ m ih =>
    intro k y hk hy h
    rw [rq_ps] at h
    refine ee_X3_drawerAt_25 ⟨fun c => absurd c (by rw [hR.1]; exact nI_ge (by omega) (by omega)), fun _ => ⟨_, _, _, es_X5_isDrawing.v (c_isDrawing hR hn hD (by omega)), ?_⟩⟩
    rw [rq_pl]
    rcases rq_b01 D k with e | e
    · rw [e] at h ⊢
      rw [if_neg (by omega)]
      refine ee_X3_drawerAt_46 ⟨fun _ => ee_X3_drawerAt_65 ?_, fun c => absurd rfl c⟩
      rw [nI_1]
      exact ih (k + 1) y (by omega) hy (by omega)
    · rw [e] at h ⊢
      refine ee_X3_drawerAt_46 ⟨fun c => absurd c nn1, fun _ => ⟨fun c => ?_, fun c => ee_X3_drawerAt_65 ?_⟩⟩
      · have : y = 0 := (rq_lN0 (by omega)).mp c
        rw [if_pos (by omega)]
      · have : ¬ y = 0 := fun q => c (by rw [q]; rfl)
        rw [if_neg (by omega), nI_1, show (1 : Int64) = lN 1 from rfl, lN_sub (by omega)]
        exact ih (k + 1) (y - 1) (by omega) (by omega) (by omega)
theorem e_drawerAt {y : Nat} (hR : rq_R I J 29 s h l A D st L) (hn : s 0 ≤ 6) (hD : D < 2 ^ s 0) (hpc : 0 < rq_pc D) (hy : y < 2 ^ 62) : sx_E sc (d + 2) cd_X3_drawerAt 0 [some (.inr (.inr (3, 0))), some (.inr (.inl (lN y))), none, none, none, none, none] [] I J (some (.inl (nI (rq_pl (rq_b D) (s 0) 0 (y % rq_pc D)))), I, J) := by
  have hp6 := rq_pc_le D
  have hm := Nat.mod_lt y hpc
  refine ee_X3_drawerAt_0 ⟨_, _, _, es_X5_drawers.v (c_drawers hR (rq_64 hD hn)), ee_X3_drawerAt_7 ⟨fun c => absurd c (nI_nle hpc (by omega)), fun _ => ⟨fun c => ?_, ?_⟩⟩⟩
  · rw [nI_l (by omega)] at c
    have := (rq_lN0 (by omega)).mp c
    omega
  · rw [nI_l (by omega), pk_lRem (by omega) hpc (by omega)]
    exact ee_X3_drawerAt_20 (lo_drawer hR hn hD (s 0) 0 _ (by omega) (by omega) (by rw [rq_ps_D hn hD]; exact hm))
theorem lo_place {x1 : Int32} (hn : s 0 ≤ 6) (hD : D < 2 ^ s 0) : ∀ (m k y : Nat), k + m = s 0 → y < 2 ^ 30 → y < rq_ps (rq_b D) m k → sx_E sc (d + 1) cd_X9_placeOf 4 [some (.inl (nI D)), some (.inl x1), some (.inl (nI y)), some (.inl (nI k))] [] I J (some (.inl (nI (rq_pl (rq_b D) m k y))), I, J) := by
  have hD6 := rq_64 hD hn
  intro m
  induction m with
  | zero => intro k y _ _ h; rw [rq_ps] at h; omega
  | succ m ih =>
    intro k y hk hy h
    rw [rq_ps] at h
    refine ee_X9_placeOf_4 ⟨_, _, _, es_X9_has.v (m_has hD6 (by omega)), ?_⟩
    rw [rq_pl]
    rcases rq_b01 D k with e | e
    · rw [if_neg (by omega)]
      refine ee_X9_placeOf_9 ⟨fun _ => ee_X9_placeOf_16 ?_, fun c => absurd (by rw [e]; rfl) c⟩
      rw [rq_shr D hD6 k (by omega), e, nI_1, pk_sub (by omega)]
      exact ih (k + 1) (y - 0) (by omega) (by omega) (by omega)
    · refine ee_X9_placeOf_9 ⟨fun c => absurd c (by rw [e]; exact nn1), fun _ => ⟨fun c => ?_, fun c => ee_X9_placeOf_16 ?_⟩⟩
      · have : y = 0 := by
          rcases Nat.eq_zero_or_pos y with q | q
          · exact q
          · exact absurd c (nI_nle q (by omega))
        rw [if_pos (by omega)]
      · have : ¬ y = 0 := fun q => c (by rw [q]; decide)
        rw [rq_shr D hD6 k (by omega), e, nI_1, pk_sub (by omega), if_neg (by omega)]
        exact ih (k + 1) (y - 1) (by omega) (by omega) (by omega)
theorem e_nameBy (hQ : rq_Qi I s) (hn : s 0 ≤ 6) (h1 : s 1 ≤ 10) (hD : D < 2 ^ s 0) (hpc : 0 < rq_pc D) (ho : one < s 0) (hk : s (8 + 4 * one) ≤ 5) (hx : x < 2147483647) (hJ : J 9 0 25 = lN x) : sx_E sc (d + 3) cd_X9_nameBy 0 [some (.inr (.inr (9, 0))), some (.inl (nI D)), some (.inl (nI one)), none, none] [] I J (some (.inl (nI (rq_nm s D one (rq_sx x)))), I, sx_uJ J 9 0 25 (lN (rq_sx x))) := by
  have hD6 := rq_64 hD hn
  have hsx := rq_sx_lt x
  have hp6 := rq_pc_le D
  have hT := rq_T_le h1 one
  have hm := Nat.mod_lt (rq_sx x / 10) hpc
  have k32 : ¬ (rq_b D one = 1 ∧ rq_sx x % 10 < rq_T s one) → sx_E sc (d + 3) cd_X9_nameBy 32 [some (.inr (.inr (9, 0))), some (.inl (nI D)), some (.inl (nI one)), some (.inr (.inl (lN (rq_sx x)))), none] [] I (sx_uJ J 9 0 25 (lN (rq_sx x))) (some (.inl (nI (rq_nm s D one (rq_sx x)))), I, sx_uJ J 9 0 25 (lN (rq_sx x))) := fun hc => by
    have e : rq_nm s D one (rq_sx x) = rq_pl (rq_b D) (s 0) 0 (rq_sx x / 10 % rq_pc D) := if_neg hc
    refine ee_X9_nameBy_32 ⟨_, _, _, es_X9_bits.v (rq_bits hD6), ?_⟩
    refine ee_X9_nameBy_42 ⟨fun c => ?_, nI (rq_nm s D one (rq_sx x)), _, _, ?_, ee_X9_nameBy_48 rfl⟩
    · rw [nI_l (by omega)] at c
      have := (rq_lN0 (by omega)).mp c
      omega
    · rw [show (10 : Int64) = lN 10 from rfl, pk_lDiv (by omega) (by omega) (by omega), nI_l (by omega), pk_lRem (by omega) hpc (by omega), lN_i, e]
      exact ee_X9_placeOf_0 (lo_place hn hD (s 0) 0 _ (by omega) (by omega) (by rw [rq_ps_D hn hD]; exact hm))
  refine ee_X9_nameBy_0 ⟨_, _, _, e_drawM hx hJ, ee_X9_nameBy_4 ⟨_, _, _, es_X9_has.v (m_has hD6 (by omega)), ee_X9_nameBy_10 ⟨fun c => k32 (fun q => ?_), fun c => ⟨_, _, _, (es_X9_truthOf (m_ofin (w := 0) (by omega) (by omega))).v (m_truthOf hQ h1 (by omega) hk), ?_⟩⟩⟩⟩
  · rw [q.1] at c; exact nn1 c
  · have hb : rq_b D one = 1 := (rq_b01 D one).resolve_left (fun q => c (by rw [q]; rfl))
    have et : (nI (rq_T s one)).toInt64 ≤ lN (rq_sx x) - lN (rq_sx x) / (10 : Int64) * (10 : Int64) ↔ rq_T s one ≤ rq_sx x % 10 := by
      rw [show (10 : Int64) = lN 10 from rfl, pk_lRem (by omega) (by omega) (by omega), nI_l (by omega), pk_lLE (by omega) (by omega)]
    refine ee_X9_nameBy_23 ⟨fun c2 => k32 (fun q => ?_), fun c2 => ee_X9_nameBy_48 ?_⟩
    · have := et.mp c2
      omega
    · have : ¬ rq_T s one ≤ rq_sx x % 10 := fun q => c2 (et.mpr q)
      have e : rq_nm s D one (rq_sx x) = one := if_pos ⟨hb, by omega⟩
      rw [e]
end RQSD
