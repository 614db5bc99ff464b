/-! loops, by hand: what they come to -/
def sx_p6 (x : Int32) : Prop := ∃ P : Nat, P ≤ 6 ∧ x = nI P
theorem sx_in_nI {k N : Nat} (h : k < N) (hN : N < 2 ^ 31) : sx_in (nI k) N = true := sx_in_mk (nI_pos' (by omega)) (by rw [nI_clamp (by omega)]; exact h)
/-- a sum -/
def lp_sum (L : Nat → Int64) : Nat → Nat → Int64 → Int64
  | 0, _, s => s
  | m + 1, k, s => lp_sum L m (k + 1) (s + L k)
def v_X5_all (I : sx_I) (J : sx_J) (r0 : Nat) : Int64 := lp_sum (J 11 r0) (I 5 r0 0).toNatClampNeg 0 0
theorem lo_X5_all {sc : Nat × (Nat → Int32)} {d r0 P : Nat} {I : sx_I} {J : sx_J} (hP : P ≤ 6) (hp : I 5 r0 0 = nI P) : ∀ (m k : Nat) (y : Int64), k + m = P → sx_E sc d cd_X5_all 4 [some (.inr (.inr (5, r0))), some (.inr (.inl y)), none, some (.inl (nI k))] [] I J (some (.inr (.inl (lp_sum (J 11 r0) m k y))), I, J) := by
  intro m
  induction m with
  | zero =>
    intro k y h
    exact ee_X5_all_4 ⟨fun _ => rfl, fun c => absurd (by rw [hp]; exact nI_le (by omega) (by omega)) c⟩
  | succ m ih =>
    intro k y h
    refine ee_X5_all_4 ⟨fun c => absurd c (by rw [hp]; exact nI_ge (by omega) (by omega)), fun c => ⟨sx_in_nI (by omega) (by omega), ?_⟩⟩
    rw [nI_clamp (by omega), nI_1]
    exact ih (k + 1) (y + J 11 r0 k) (by omega)
theorem es_X5_all {sc : Nat × (Nat → Int32)} {d : Nat} {r0 : Nat} {I : sx_I} {J : sx_J} (g1 : sx_p6 (I 5 r0 0)) : sx_E sc d cd_X5_all 0 [some (.inr (.inr (5, r0))), none, none, none] [] I J (some (.inr (.inl (v_X5_all I J r0))), I, J) := by
  obtain ⟨P, hP, hp⟩ := g1
  have h := lo_X5_all (sc := sc) (d := d) (J := J) hP hp P 0 0 (by omega)
  rw [v_X5_all, hp, nI_clamp (by omega)]
  exact ee_X5_all_0 h
/-- the likeliest -/
def lp_like (W : Nat → Int32) (L : Nat → Int64) : Nat → Nat → Int32 → Int64 → Int32
  | 0, _, b, _ => b
  | m + 1, k, b, y => if W k = 0 then lp_like W L m (k + 1) b y else if L k ≤ y then lp_like W L m (k + 1) b y else lp_like W L m (k + 1) (nI k) (L k)
def v_X5_likeliestAboard (I : sx_I) (J : sx_J) (r0 : Nat) : Int32 := lp_like (fun k => v_X5_isAboard I J r0 (nI k)) (J 11 r0) (I 5 r0 0).toNatClampNeg 0 (Int32.ofInt (-1000000)) (Int64.ofInt (-1))
theorem lo_X5_likeliestAboard {sc : Nat × (Nat → Int32)} {d r0 P : Nat} {I : sx_I} {J : sx_J} (hP : P ≤ 6) (hp : I 5 r0 0 = nI P) : ∀ (m k : Nat) (b : Int32) (y : Int64), k + m = P → sx_E sc (d + 2) cd_X5_likeliestAboard 10 [some (.inr (.inr (5, r0))), some (.inl b), some (.inr (.inl y)), none, some (.inl (nI k))] [] I J (some (.inl (lp_like (fun k => v_X5_isAboard I J r0 (nI k)) (J 11 r0) m k b y)), I, J) := by
  intro m
  induction m with
  | zero =>
    intro k b y h
    exact ee_X5_likeliestAboard_10 ⟨fun _ => rfl, fun c => absurd (by rw [hp]; exact nI_le (by omega) (by omega)) c⟩
  | succ m ih =>
    intro k b y h
    refine ee_X5_likeliestAboard_10 ⟨fun c => absurd c (by rw [hp]; exact nI_ge (by omega) (by omega)), fun c => ⟨_, _, _, es_X5_isAboard, ?_⟩⟩
    rw [lp_like]
    refine ee_X5_likeliestAboard_25 ⟨fun c1 => ?_, fun c1 => ⟨sx_in_nI (by omega) (by omega), fun c2 => ?_, fun c2 => ⟨sx_in_nI (by omega) (by omega), ?_⟩⟩⟩
    · rw [if_pos c1]
      refine ee_X5_likeliestAboard_51 ?_
      rw [nI_1]
      exact ih (k + 1) b y (by omega)
    · rw [nI_clamp (by omega)] at c2
      rw [if_neg c1, if_pos c2]
      refine ee_X5_likeliestAboard_51 ?_
      rw [nI_1]
      exact ih (k + 1) b y (by omega)
    · rw [nI_clamp (by omega)] at c2
      rw [if_neg c1, if_neg c2]
      refine ee_X5_likeliestAboard_51 ?_
      rw [nI_1, nI_clamp (by omega)]
      exact ih (k + 1) (nI k) (J 11 r0 k) (by omega)
theorem es_X5_likeliestAboard {sc : Nat × (Nat → Int32)} {d : Nat} {r0 : Nat} {I : sx_I} {J : sx_J} (g1 : sx_p6 (I 5 r0 0)) : sx_E sc (d + 2) cd_X5_likeliestAboard 0 [some (.inr (.inr (5, r0))), none, none, none, none] [] I J (some (.inl (v_X5_likeliestAboard I J r0)), I, J) := by
  obtain ⟨P, hP, hp⟩ := g1
  have h := lo_X5_likeliestAboard (sc := sc) (d := d) (J := J) hP hp P 0 (Int32.ofInt (-1000000)) (Int64.ofInt (-1)) (by omega)
  rw [v_X5_likeliestAboard, hp, nI_clamp (by omega)]
  exact ee_X5_likeliestAboard_0 h
/-- the most, but of one -/
def lp_most (W : Nat → Int32) (L : Nat → Int64) (x : Int32) : Nat → Nat → Int64 → Int64
  | 0, _, y => y
  | m + 1, k, y => if nI k = x then lp_most W L x m (k + 1) y else if W k = 0 then lp_most W L x m (k + 1) y else lp_most W L x m (k + 1) (if L k < y then y else L k)
def v_X5_mostAboardBut (I : sx_I) (J : sx_J) (r0 : Nat) (x1 : Int32) : Int64 := lp_most (fun k => v_X5_isAboard I J r0 (nI k)) (J 11 r0) x1 (I 5 r0 0).toNatClampNeg 0 0
theorem lo_X5_mostAboardBut {sc : Nat × (Nat → Int32)} {d r0 P : Nat} {x1 : Int32} {I : sx_I} {J : sx_J} (hP : P ≤ 6) (hp : I 5 r0 0 = nI P) : ∀ (m k : Nat) (y : Int64), k + m = P → sx_E sc (d + 2) cd_X5_mostAboardBut 5 [some (.inr (.inr (5, r0))), some (.inl x1), some (.inr (.inl y)), none, some (.inl (nI k))] [] I J (some (.inr (.inl (lp_most (fun k => v_X5_isAboard I J r0 (nI k)) (J 11 r0) x1 m k y))), I, J) := by
  intro m
  induction m with
  | zero =>
    intro k y h
    exact ee_X5_mostAboardBut_5 ⟨fun _ => rfl, fun c => absurd (by rw [hp]; exact nI_le (by omega) (by omega)) c⟩
  | succ m ih =>
    intro k y h
    rw [lp_most]
    refine ee_X5_mostAboardBut_5 ⟨fun c => absurd c (by rw [hp]; exact nI_ge (by omega) (by omega)), fun c => ⟨fun c1 => ?_, fun c1 => ⟨_, _, _, es_X5_isAboard, ee_X5_mostAboardBut_26 ⟨fun c2 => ?_, fun c2 => ⟨sx_in_nI (by omega) (by omega), ?_⟩⟩⟩⟩⟩
    · rw [if_pos c1]
      refine ee_X5_mostAboardBut_41 ?_
      rw [nI_1]
      exact ih (k + 1) y (by omega)
    · rw [if_neg c1, if_pos c2]
      refine ee_X5_mostAboardBut_41 ?_
      rw [nI_1]
      exact ih (k + 1) y (by omega)
    · rw [if_neg c1, if_neg c2]
      refine ee_X5_mostAboardBut_41 ?_
      rw [nI_1, nI_clamp (by omega)]
      exact ih (k + 1) _ (by omega)
theorem es_X5_mostAboardBut {sc : Nat × (Nat → Int32)} {d : Nat} {r0 : Nat} {x1 : Int32} {I : sx_I} {J : sx_J} (g1 : sx_p6 (I 5 r0 0)) : sx_E sc (d + 2) cd_X5_mostAboardBut 0 [some (.inr (.inr (5, r0))), some (.inl x1), none, none, none] [] I J (some (.inr (.inl (v_X5_mostAboardBut I J r0 x1))), I, J) := by
  obtain ⟨P, hP, hp⟩ := g1
  have h := lo_X5_mostAboardBut (sc := sc) (d := d) (J := J) (x1 := x1) hP hp P 0 0 (by omega)
  rw [v_X5_mostAboardBut, hp, nI_clamp (by omega)]
  exact ee_X5_mostAboardBut_0 h
/-- a sum of products -/
def lp_dot (L F : Nat → Int64) : Nat → Nat → Int64 → Int64
  | 0, _, s => s
  | m + 1, k, s => lp_dot L F m (k + 1) (s + L k * F k)
def v_X5_allIfNamed (I : sx_I) (J : sx_J) (r0 : Nat) (x1 : Int32) : Int64 := lp_dot (J 11 r0) (fun k => v_X5_lotFactor I J r0 (nI k) x1 (v_X5_drawers I J r0)) (I 5 r0 0).toNatClampNeg 0 0
theorem lo_X5_allIfNamed {sc : Nat × (Nat → Int32)} {d r0 P : Nat} {x1 x2 : Int32} {I : sx_I} {J : sx_J} (hP : P ≤ 6) (hp : I 5 r0 0 = nI P) : ∀ (m k : Nat) (y : Int64), k + m = P → sx_E sc (d + 2) cd_X5_allIfNamed 10 [some (.inr (.inr (5, r0))), some (.inl x1), some (.inl x2), some (.inr (.inl y)), none, some (.inl (nI k))] [] I J (some (.inr (.inl (lp_dot (J 11 r0) (fun k => v_X5_lotFactor I J r0 (nI k) x1 x2) m k y))), I, J) := by
  intro m
  induction m with
  | zero =>
    intro k y h
    exact ee_X5_allIfNamed_10 ⟨fun _ => rfl, fun c => absurd (by rw [hp]; exact nI_le (by omega) (by omega)) c⟩
  | succ m ih =>
    intro k y h
    refine ee_X5_allIfNamed_10 ⟨fun c => absurd c (by rw [hp]; exact nI_ge (by omega) (by omega)), fun c => ⟨sx_in_nI (by omega) (by omega), _, _, _, es_X5_lotFactor (fun _ => sx_in_nI (by omega) (by omega)), ee_X5_allIfNamed_35 ?_⟩⟩
    rw [nI_1, nI_clamp (by omega)]
    exact ih (k + 1) _ (by omega)
theorem es_X5_allIfNamed {sc : Nat × (Nat → Int32)} {d : Nat} {r0 : Nat} {x1 : Int32} {I : sx_I} {J : sx_J} (g1 : sx_p6 (I 5 r0 0)) : sx_E sc (d + 2) cd_X5_allIfNamed 0 [some (.inr (.inr (5, r0))), some (.inl x1), none, none, none, none] [] I J (some (.inr (.inl (v_X5_allIfNamed I J r0 x1))), I, J) := by
  obtain ⟨P, hP, hp⟩ := g1
  have h := lo_X5_allIfNamed (sc := sc) (d := d) (J := J) (x1 := x1) (x2 := v_X5_drawers I J r0) hP hp P 0 0 (by omega)
  rw [v_X5_allIfNamed, hp, nI_clamp (by omega)]
  exact ee_X5_allIfNamed_0 ⟨_, _, _, es_X5_drawers, ee_X5_allIfNamed_4 h⟩
/-- a lot learned -/
def j_X5_learnLot (I : sx_I) (J : sx_J) (r0 : Nat) (x1 : Int32) : sx_J := fun x y z => if x = 11 ∧ y = r0 ∧ z < (I 5 r0 0).toNatClampNeg then J 11 r0 z * v_X5_lotFactor I J r0 (nI z) x1 (v_X5_drawers I J r0) else J x y z
theorem lo_X5_learnLot {sc : Nat × (Nat → Int32)} {d r0 P : Nat} {x1 x2 : Int32} {I : sx_I} {J0 : sx_J} (hP : P ≤ 6) (hp : I 5 r0 0 = nI P) : ∀ (m k : Nat), k + m = P → sx_E sc (d + 2) cd_X5_learnLot 7 [some (.inr (.inr (5, r0))), some (.inl x1), some (.inl x2), some (.inl (nI k))] [] I (fun x y z => if x = 11 ∧ y = r0 ∧ z < k then J0 11 r0 z * v_X5_lotFactor I J0 r0 (nI z) x1 x2 else J0 x y z) (none, I, fun x y z => if x = 11 ∧ y = r0 ∧ z < P then J0 11 r0 z * v_X5_lotFactor I J0 r0 (nI z) x1 x2 else J0 x y z) := by
  intro m
  induction m with
  | zero =>
    intro k h
    obtain rfl : k = P := by omega
    exact ee_X5_learnLot_7 ⟨fun _ => rfl, fun c => absurd (by rw [hp]; exact nI_le (by omega) (by omega)) c⟩
  | succ m ih =>
    intro k h
    refine ee_X5_learnLot_7 ⟨fun c => absurd c (by rw [hp]; exact nI_ge (by omega) (by omega)), fun c => ⟨sx_in_nI (by omega) (by omega), _, _, _, es_X5_lotFactor (fun _ => sx_in_nI (by omega) (by omega)), ee_X5_learnLot_29 ⟨sx_in_nI (by omega) (by omega), ee_X5_learnLot_31 ?_⟩⟩⟩
    rw [nI_1, nI_clamp (by omega)]
    have e : (sx_uJ (fun x y z => if x = 11 ∧ y = r0 ∧ z < k then J0 11 r0 z * v_X5_lotFactor I J0 r0 (nI z) x1 x2 else J0 x y z) 11 r0 k ((if 11 = 11 ∧ r0 = r0 ∧ k < k then J0 11 r0 k * v_X5_lotFactor I J0 r0 (nI k) x1 x2 else J0 11 r0 k) * v_X5_lotFactor I (fun x y z => if x = 11 ∧ y = r0 ∧ z < k then J0 11 r0 z * v_X5_lotFactor I J0 r0 (nI z) x1 x2 else J0 x y z) r0 (nI k) x1 x2)) = fun x y z => if x = 11 ∧ y = r0 ∧ z < k + 1 then J0 11 r0 z * v_X5_lotFactor I J0 r0 (nI z) x1 x2 else J0 x y z := by
      funext x y z
      rw [if_neg (show ¬ (11 = 11 ∧ r0 = r0 ∧ k < k) from fun q => absurd q.2.2 (Nat.lt_irrefl k))]
      simp only [sx_uJ]
      by_cases h1 : x = 11 ∧ y = r0 ∧ z = k
      · obtain ⟨rfl, rfl, rfl⟩ := h1
        rw [if_pos ⟨rfl, rfl, rfl⟩, if_pos ⟨rfl, rfl, by omega⟩]
        rfl
      · rw [if_neg h1]
        by_cases h2 : x = 11 ∧ y = r0 ∧ z < k
        · rw [if_pos h2, if_pos ⟨h2.1, h2.2.1, by omega⟩]
        · rw [if_neg h2, if_neg (fun q => by
            rcases Nat.lt_or_ge z k with h3 | h3
            · exact h2 ⟨q.1, q.2.1, h3⟩
            · exact h1 ⟨q.1, q.2.1, by omega⟩)]
    rw [e]
    exact ih (k + 1) (by omega)
theorem es_X5_learnLot {sc : Nat × (Nat → Int32)} {d : Nat} {r0 : Nat} {x1 : Int32} {I : sx_I} {J : sx_J} (g1 : sx_p6 (I 5 r0 0)) : sx_E sc (d + 2) cd_X5_learnLot 0 [some (.inr (.inr (5, r0))), some (.inl x1), none, none] [] I J (none, I, j_X5_learnLot I J r0 x1) := by
  obtain ⟨P, hP, hp⟩ := g1
  have h := lo_X5_learnLot (sc := sc) (d := d) (J0 := J) (x1 := x1) (x2 := v_X5_drawers I J r0) hP hp P 0 (by omega)
  have e0 : (fun x y z => if x = 11 ∧ y = r0 ∧ z < 0 then J 11 r0 z * v_X5_lotFactor I J r0 (nI z) x1 (v_X5_drawers I J r0) else J x y z) = J := by
    funext x y z
    rw [if_neg (fun q => absurd q.2.2 (Nat.not_lt_zero z))]
  rw [e0] at h
  have e1 : j_X5_learnLot I J r0 x1 = fun x y z => if x = 11 ∧ y = r0 ∧ z < P then J 11 r0 z * v_X5_lotFactor I J r0 (nI z) x1 (v_X5_drawers I J r0) else J x y z := by
    unfold j_X5_learnLot
    rw [hp, nI_clamp (by omega)]
  rw [e1]
  exact ee_X5_learnLot_0 ⟨_, _, _, es_X5_drawers, ee_X5_learnLot_4 h⟩
