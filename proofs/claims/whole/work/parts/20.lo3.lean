/-! more loops, by hand -/
def sx_cI (I : sx_I) (r0 r1 a b c : Nat) : sx_I := fun x y z => if y = r0 ∧ ((x = 5 ∧ z < a) ∨ (x = 20 ∧ z < b) ∨ (x = 21 ∧ z < c)) then I x r1 z else I x y z
def sx_cJ (J : sx_J) (r0 r1 a : Nat) : sx_J := fun x y z => if x = 11 ∧ y = r0 ∧ z < a then J 11 r1 z else J x y z
section SXCP
variable {I : sx_I} {J : sx_J} {r0 r1 a b c : Nat}
theorem sx_cI_r (h : r0 ≠ r1) (x z : Nat) : sx_cI I r0 r1 a b c x r1 z = I x r1 z := if_neg (fun q => h q.1.symm)
theorem sx_cI_0 : sx_cI I r0 r1 0 0 0 = I := by
  funext x y z; exact if_neg (by omega)
theorem sx_cI_5 (h : r0 ≠ r1) : sx_uI (sx_cI I r0 r1 a b c) 5 r0 a (sx_cI I r0 r1 a b c 5 r1 a) = sx_cI I r0 r1 (a + 1) b c := by
  rw [sx_cI_r h]
  funext x y z
  simp only [sx_uI, sx_cI]
  by_cases h1 : x = 5 ∧ y = r0 ∧ z = a
  · obtain ⟨rfl, rfl, rfl⟩ := h1
    rw [if_pos ⟨rfl, rfl, rfl⟩, if_pos ⟨rfl, Or.inl ⟨rfl, by omega⟩⟩]
  · rw [if_neg h1]
    by_cases h2 : y = r0 ∧ ((x = 5 ∧ z < a) ∨ (x = 20 ∧ z < b) ∨ (x = 21 ∧ z < c))
    · rw [if_pos h2, if_pos (by omega)]
    · rw [if_neg h2, if_neg (by omega)]
theorem sx_cI_20 (h : r0 ≠ r1) : sx_uI (sx_cI I r0 r1 a b c) 20 r0 b (sx_cI I r0 r1 a b c 20 r1 b) = sx_cI I r0 r1 a (b + 1) c := by
  rw [sx_cI_r h]
  funext x y z
  simp only [sx_uI, sx_cI]
  by_cases h1 : x = 20 ∧ y = r0 ∧ z = b
  · obtain ⟨rfl, rfl, rfl⟩ := h1
    rw [if_pos ⟨rfl, rfl, rfl⟩, if_pos ⟨rfl, Or.inr (Or.inl ⟨rfl, by omega⟩)⟩]
  · rw [if_neg h1]
    by_cases h2 : y = r0 ∧ ((x = 5 ∧ z < a) ∨ (x = 20 ∧ z < b) ∨ (x = 21 ∧ z < c))
    · rw [if_pos h2, if_pos (by omega)]
    · rw [if_neg h2, if_neg (by omega)]
theorem sx_cI_21 (h : r0 ≠ r1) : sx_uI (sx_cI I r0 r1 a b c) 21 r0 c (sx_cI I r0 r1 a b c 21 r1 c) = sx_cI I r0 r1 a b (c + 1) := by
  rw [sx_cI_r h]
  funext x y z
  simp only [sx_uI, sx_cI]
  by_cases h1 : x = 21 ∧ y = r0 ∧ z = c
  · obtain ⟨rfl, rfl, rfl⟩ := h1
    rw [if_pos ⟨rfl, rfl, rfl⟩, if_pos ⟨rfl, Or.inr (Or.inr ⟨rfl, by omega⟩)⟩]
  · rw [if_neg h1]
    by_cases h2 : y = r0 ∧ ((x = 5 ∧ z < a) ∨ (x = 20 ∧ z < b) ∨ (x = 21 ∧ z < c))
    · rw [if_pos h2, if_pos (by omega)]
    · rw [if_neg h2, if_neg (by omega)]
theorem sx_cJ_0 : sx_cJ J r0 r1 0 = J := by
  funext x y z; exact if_neg (by omega)
theorem sx_cJ_11 (h : r0 ≠ r1) : sx_uJ (sx_cJ J r0 r1 a) 11 r0 a (sx_cJ J r0 r1 a 11 r1 a) = sx_cJ J r0 r1 (a + 1) := by
  have e : sx_cJ J r0 r1 a 11 r1 a = J 11 r1 a := if_neg (fun q => h q.2.1.symm)
  rw [e]
  funext x y z
  simp only [sx_uJ, sx_cJ]
  by_cases h1 : x = 11 ∧ y = r0 ∧ z = a
  · obtain ⟨rfl, rfl, rfl⟩ := h1
    rw [if_pos ⟨rfl, rfl, rfl⟩, if_pos ⟨rfl, rfl, by omega⟩]
  · rw [if_neg h1]
    by_cases h2 : x = 11 ∧ y = r0 ∧ z < a
    · rw [if_pos h2, if_pos (by omega)]
    · rw [if_neg h2, if_neg (by omega)]
end SXCP
def i_X5_becomes (I : sx_I) (J : sx_J) (r0 r1 : Nat) : sx_I := sx_cI I r0 r1 10 6 6
def j_X5_becomes (I : sx_I) (J : sx_J) (r0 r1 : Nat) : sx_J := sx_cJ J r0 r1 6
theorem lo_X5_becomes {sc : Nat × (Nat → Int32)} {d r0 r1 : Nat} {I : sx_I} {J : sx_J} (hr : r0 ≠ r1) : ∀ (m k : Nat), k + m = 6 → sx_E sc d cd_X5_becomes 82 [some (.inr (.inr (5, r0))), some (.inr (.inr (5, r1))), some (.inl (nI k))] [] (sx_cI I r0 r1 10 k k) (sx_cJ J r0 r1 k) (none, sx_cI I r0 r1 10 6 6, sx_cJ J r0 r1 6) := by
  intro m
  induction m with
  | zero =>
    intro k h
    obtain rfl : k = 6 := by omega
    exact ee_X5_becomes_82 ⟨fun _ => rfl, fun c => absurd (nI_le (a := 6) (by omega) (by omega)) c⟩
  | succ m ih =>
    intro k h
    have hin : sx_in (nI k) 6 = true := sx_in_nI (by omega) (by omega)
    refine ee_X5_becomes_82 ⟨fun c => absurd c (nI_ge (b := 6) (by omega) (by omega)), fun _ => ⟨hin, hin, ?_⟩⟩
    rw [nI_clamp (by omega), sx_cI_20 hr]
    refine ee_X5_becomes_100 ⟨hin, hin, ?_⟩
    rw [nI_clamp (by omega), sx_cI_21 hr]
    refine ee_X5_becomes_112 ⟨hin, hin, ?_⟩
    rw [nI_clamp (by omega), sx_cJ_11 hr]
    refine ee_X5_becomes_124 ?_
    rw [nI_1]
    exact ih (k + 1) (by omega)
theorem es_X5_becomes {sc : Nat × (Nat → Int32)} {d : Nat} {r0 r1 : Nat} {I : sx_I} {J : sx_J} (g1 : r0 ≠ r1) (g2 : I 5 r1 9 = 0 ∨ I 5 r1 9 = 1) : sx_E sc d cd_X5_becomes 0 [some (.inr (.inr (5, r0))), some (.inr (.inr (5, r1))), none] [] I J (none, i_X5_becomes I J r0 r1, j_X5_becomes I J r0 r1) := by
  have h0 : sx_E sc d cd_X5_becomes 0 [some (.inr (.inr (5, r0))), some (.inr (.inr (5, r1))), none] [] (sx_cI I r0 r1 0 0 0) (sx_cJ J r0 r1 0) (none, i_X5_becomes I J r0 r1, j_X5_becomes I J r0 r1) := by
    refine ee_X5_becomes_0 ?_
    rw [sx_cI_5 g1]
    refine ee_X5_becomes_8 ?_
    rw [sx_cI_5 g1]
    refine ee_X5_becomes_16 ?_
    rw [sx_cI_5 g1]
    refine ee_X5_becomes_24 ?_
    rw [sx_cI_5 g1]
    refine ee_X5_becomes_32 ?_
    rw [sx_cI_5 g1]
    refine ee_X5_becomes_40 ?_
    rw [sx_cI_5 g1]
    refine ee_X5_becomes_48 ?_
    rw [sx_cI_5 g1]
    refine ee_X5_becomes_56 ?_
    rw [sx_cI_5 g1]
    refine ee_X5_becomes_64 ?_
    rw [sx_cI_5 g1]
    refine ee_X5_becomes_72 ⟨by rw [sx_cI_r g1]; exact g2, ?_⟩
    rw [sx_cI_5 g1]
    exact ee_X5_becomes_80 (lo_X5_becomes g1 6 0 rfl)
  rw [sx_cI_0, sx_cJ_0] at h0
  exact h0
/-- an array filled -/
def i_J7_fill_22 (I : sx_I) (J : sx_J) (r0 : Nat) (x1 : Int32) : sx_I := fun x y z => if x = 22 ∧ y = r0 ∧ z < 40 then x1 else I x y z
def i_J7_fill_10 (I : sx_I) (J : sx_J) (x1 : Int32) : sx_I := fun x y z => if x = 10 ∧ y = 2 ∧ z < 64 then x1 else I x y z
theorem sx_fl {I : sx_I} {kd r k : Nat} {v : Int32} : sx_uI (fun x y z => if x = kd ∧ y = r ∧ z < k then v else I x y z) kd r k v = fun x y z => if x = kd ∧ y = r ∧ z < k + 1 then v else I x y z := by
  funext x y z
  simp only [sx_uI]
  by_cases h1 : x = kd ∧ y = r ∧ z = k
  · rw [if_pos h1, if_pos (by omega)]
  · rw [if_neg h1]
    by_cases h2 : x = kd ∧ y = r ∧ z < k
    · rw [if_pos h2, if_pos (by omega)]
    · rw [if_neg h2, if_neg (by omega)]
theorem lo_J7_fill_22 {sc : Nat × (Nat → Int32)} {d r0 : Nat} {x1 : Int32} {I : sx_I} {J : sx_J} : ∀ (m k : Nat), k + m = 40 → sx_E sc d cd_J7_fill_53178 5 [some (.inr (.inr (22, r0))), some (.inl x1), some (.inl (nI k)), some (.inl (40 : Int32))] [] (fun x y z => if x = 22 ∧ y = r0 ∧ z < k then x1 else I x y z) J (none, i_J7_fill_22 I J r0 x1, J) := by
  intro m
  induction m with
  | zero =>
    intro k h
    obtain rfl : k = 40 := by omega
    exact ee_J7_fill_22_5 ⟨fun _ => rfl, fun c => absurd (nI_le (a := 40) (by omega) (by omega)) c⟩
  | succ m ih =>
    intro k h
    refine ee_J7_fill_22_5 ⟨fun c => absurd c (nI_ge (b := 40) (by omega) (by omega)), fun _ => ⟨sx_in_nI (by omega) (by omega), ?_⟩⟩
    rw [nI_clamp (by omega), sx_fl]
    refine ee_J7_fill_22_14 ?_
    rw [nI_1]
    exact ih (k + 1) (by omega)
theorem es_J7_fill_22 {sc : Nat × (Nat → Int32)} {d : Nat} {r0 : Nat} {x1 : Int32} {I : sx_I} {J : sx_J} : sx_E sc d cd_J7_fill_53178 0 [some (.inr (.inr (22, r0))), some (.inl x1), none, none] [] I J (none, i_J7_fill_22 I J r0 x1, J) := by
  have h := lo_J7_fill_22 (sc := sc) (d := d) (r0 := r0) (x1 := x1) (I := I) (J := J) 40 0 rfl
  rw [show (fun x y z => if x = 22 ∧ y = r0 ∧ z < 0 then x1 else I x y z) = I from by funext x y z; exact if_neg (by omega)] at h
  exact ee_J7_fill_22_0 h
theorem lo_J7_fill_10 {sc : Nat × (Nat → Int32)} {d : Nat} {x1 : Int32} {I : sx_I} {J : sx_J} : ∀ (m k : Nat), k + m = 64 → sx_E sc d cd_J7_fill_53178 5 [some (.inr (.inr (10, 2))), some (.inl x1), some (.inl (nI k)), some (.inl (64 : Int32))] [] (fun x y z => if x = 10 ∧ y = 2 ∧ z < k then x1 else I x y z) J (none, i_J7_fill_10 I J x1, J) := by
  intro m
  induction m with
  | zero =>
    intro k h
    obtain rfl : k = 64 := by omega
    exact ee_J7_fill_10_5 ⟨fun _ => rfl, fun c => absurd (nI_le (a := 64) (by omega) (by omega)) c⟩
  | succ m ih =>
    intro k h
    refine ee_J7_fill_10_5 ⟨fun c => absurd c (nI_ge (b := 64) (by omega) (by omega)), fun _ => ⟨sx_in_nI (by omega) (by omega), ?_⟩⟩
    rw [nI_clamp (by omega), sx_fl]
    refine ee_J7_fill_10_14 ?_
    rw [nI_1]
    exact ih (k + 1) (by omega)
theorem es_J7_fill_10 {sc : Nat × (Nat → Int32)} {d : Nat} {x1 : Int32} {I : sx_I} {J : sx_J} : sx_E sc d cd_J7_fill_53178 0 [some (.inr (.inr (10, 2))), some (.inl x1), none, none] [] I J (none, i_J7_fill_10 I J x1, J) := by
  have h := lo_J7_fill_10 (sc := sc) (d := d) (x1 := x1) (I := I) (J := J) 64 0 rfl
  rw [show (fun x y z => if x = 10 ∧ y = 2 ∧ z < 0 then x1 else I x y z) = I from by funext x y z; exact if_neg (by omega)] at h
  exact ee_J7_fill_10_0 h
/-- some likelihoods by a lot, in place too -/
def j_X9_byLot (I : sx_I) (J : sx_J) (r1 r2 : Nat) (x3 x4 : Int32) : sx_J := fun x y z => if x = 17 ∧ y = r2 ∧ z < 6 then (if z < (I 16 3 0).toNatClampNeg then J 17 r1 z * (v_X9_speaks I J x3 x4 (nI z)).toInt64 else 0) else J x y z
theorem lo_X9_byLot {sc : Nat × (Nat → Int32)} {d r1 r2 P : Nat} {x3 x4 : Int32} {I : sx_I} {J : sx_J} (hP : P ≤ 6) (hp : I 16 3 0 = nI P) : ∀ (m k : Nat), k + m = 6 → sx_E sc (d + 3) cd_X9_byLot 3 [some (.inr (.inr (9, 0))), some (.inr (.inr (17, r1))), some (.inr (.inr (17, r2))), some (.inl x3), some (.inl x4), some (.inl (nI k))] [] I (fun x y z => if x = 17 ∧ y = r2 ∧ z < k then (if z < P then J 17 r1 z * (v_X9_speaks I J x3 x4 (nI z)).toInt64 else 0) else J x y z) (none, I, fun x y z => if x = 17 ∧ y = r2 ∧ z < 6 then (if z < P then J 17 r1 z * (v_X9_speaks I J x3 x4 (nI z)).toInt64 else 0) else J x y z) := by
  intro m
  induction m with
  | zero =>
    intro k h
    obtain rfl : k = 6 := by omega
    exact ee_X9_byLot_3 ⟨fun _ => rfl, fun c => absurd (nI_le (a := 6) (by omega) (by omega)) c⟩
  | succ m ih =>
    intro k h
    have hin : ∀ r, sx_in (nI k) (sx_eN 17 r) = true := fun r => sx_in_le (sx_in_nI (N := 6) (by omega) (by omega)) (sx_eN17 r)
    have e : ∀ v : Int64, v = (if k < P then J 17 r1 k * (v_X9_speaks I J x3 x4 (nI k)).toInt64 else 0) → sx_uJ (fun x y z => if x = 17 ∧ y = r2 ∧ z < k then (if z < P then J 17 r1 z * (v_X9_speaks I J x3 x4 (nI z)).toInt64 else 0) else J x y z) 17 r2 k v = fun x y z => if x = 17 ∧ y = r2 ∧ z < k + 1 then (if z < P then J 17 r1 z * (v_X9_speaks I J x3 x4 (nI z)).toInt64 else 0) else J x y z := by
      intro v hv
      funext x y z
      simp only [sx_uJ]
      by_cases h1 : x = 17 ∧ y = r2 ∧ z = k
      · obtain ⟨rfl, rfl, rfl⟩ := h1
        rw [if_pos ⟨rfl, rfl, rfl⟩, if_pos ⟨rfl, rfl, by omega⟩]
        exact hv
      · rw [if_neg h1]
        by_cases h2 : x = 17 ∧ y = r2 ∧ z < k
        · rw [if_pos h2, if_pos (show x = 17 ∧ y = r2 ∧ z < k + 1 from by omega)]
        · rw [if_neg h2, if_neg (show ¬ (x = 17 ∧ y = r2 ∧ z < k + 1) from by omega)]
    refine ee_X9_byLot_3 ⟨fun c => absurd c (nI_ge (b := 6) (by omega) (by omega)), fun _ => ⟨fun c1 => ?_, fun c1 => ⟨hin r1, _, _, _, es_X9_speaks (fun _ => sx_ofi (w := 0) (by omega) (by omega)), ee_X9_byLot_37 ?_⟩⟩⟩
    · have hk : ¬ k < P := fun q => absurd c1 (by rw [hp]; exact nI_ge q (by omega))
      refine ee_X9_byLot_43 ⟨hin r2, ee_X9_byLot_44 ?_⟩
      rw [nI_1, nI_clamp (by omega), e _ (if_neg hk).symm]
      exact ih (k + 1) (by omega)
    · have hk : k < P := by
        rcases Nat.lt_or_ge k P with q | q
        · exact q
        · exact absurd (by rw [hp]; exact nI_le q (by omega)) c1
      refine ee_X9_byLot_43 ⟨hin r2, ee_X9_byLot_44 ?_⟩
      rw [nI_1, nI_clamp (by omega), e _ (by rw [if_pos hk, if_neg (by omega)]; rfl)]
      exact ih (k + 1) (by omega)
theorem es_X9_byLot {sc : Nat × (Nat → Int32)} {d : Nat} {r1 r2 : Nat} {x3 x4 : Int32} {I : sx_I} {J : sx_J} (g1 : sx_p6 (I 16 3 0)) : sx_E sc (d + 3) cd_X9_byLot 0 [some (.inr (.inr (9, 0))), some (.inr (.inr (17, r1))), some (.inr (.inr (17, r2))), some (.inl x3), some (.inl x4), none] [] I J (none, I, j_X9_byLot I J r1 r2 x3 x4) := by
  obtain ⟨P, hP, hp⟩ := g1
  have h := lo_X9_byLot (sc := sc) (d := d) (r1 := r1) (r2 := r2) (J := J) (x3 := x3) (x4 := x4) hP hp 6 0 rfl
  rw [show (fun x y z => if x = 17 ∧ y = r2 ∧ z < 0 then (if z < P then J 17 r1 z * (v_X9_speaks I J x3 x4 (nI z)).toInt64 else 0) else J x y z) = J from by funext x y z; exact if_neg (by omega)] at h
  have e1 : j_X9_byLot I J r1 r2 x3 x4 = fun x y z => if x = 17 ∧ y = r2 ∧ z < 6 then (if z < P then J 17 r1 z * (v_X9_speaks I J x3 x4 (nI z)).toInt64 else 0) else J x y z := by
    unfold j_X9_byLot
    rw [hp, nI_clamp (by omega)]
  rw [e1]
  exact ee_X9_byLot_0 h
