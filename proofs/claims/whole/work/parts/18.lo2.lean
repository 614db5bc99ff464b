/-! loops of the reference, and some of the class, by hand -/
theorem sx_ofe {p w : Nat} : (8 : Int32) + (4 : Int32) * nI p + nI w = nI (8 + 4 * p + w) := by
  rw [show (8 : Int32) = nI 8 from rfl, show (4 : Int32) = nI 4 from rfl, pk_mul, nI_add, nI_add]
theorem sx_ofi {p w : Nat} (hp : p < 6) (hw : w < 4) : sx_in ((8 : Int32) + (4 : Int32) * nI p + nI w) 32 = true := by
  rw [sx_ofe]; exact sx_in_nI (by omega) (by omega)
theorem sx_ofv {p w : Nat} (hp : p < 6) (hw : w < 4) (I : sx_I) (J : sx_J) : v_X9_of I J (nI p) (nI w) = I 16 3 (8 + 4 * p + w) := by
  rw [v_X9_of, sx_ofe, nI_clamp (by omega)]
theorem sx_eN17 (r : Nat) : 6 ≤ sx_eN 17 r := by
  show 6 ≤ (match r with | 1 => 144 | 4 => 12 | _ => 6)
  split <;> decide
theorem sx_in_le {x : Int32} {n N : Nat} (h : sx_in x n = true) (hn : n ≤ N) : sx_in x N = true := sx_in_mk (sx_in_ge h) (Nat.lt_of_lt_of_le (sx_in_lt h) hn)
def lp_bits (x : Int32) : Nat → Nat → Int32 → Int32
  | 0, _, s => s
  | m + 1, k, s => lp_bits x m (k + 1) (s + ((x >>> (nI k &&& 31)) &&& 1))
def v_X9_bits (I : sx_I) (J : sx_J) (x0 : Int32) : Int32 := lp_bits x0 6 0 0
theorem lo_X9_bits {sc : Nat × (Nat → Int32)} {d : Nat} {x0 : Int32} {I : sx_I} {J : sx_J} : ∀ (m k : Nat) (s : Int32), k + m = 6 → sx_E sc d cd_X9_bits 4 [some (.inl x0), some (.inl s), some (.inl (nI k))] [] I J (some (.inl (lp_bits x0 m k s)), I, J) := by
  intro m
  induction m with
  | zero =>
    intro k s h
    exact ee_X9_bits_4 ⟨fun _ => rfl, fun c => absurd (nI_le (a := 6) (by omega) (by omega)) c⟩
  | succ m ih =>
    intro k s h
    refine ee_X9_bits_4 ⟨fun c => absurd c (nI_ge (b := 6) (by omega) (by omega)), fun c => ?_⟩
    rw [nI_1]
    exact ih (k + 1) _ (by omega)
theorem es_X9_bits {sc : Nat × (Nat → Int32)} {d : Nat} {x0 : Int32} {I : sx_I} {J : sx_J} : sx_E sc d cd_X9_bits 0 [some (.inl x0), none, none] [] I J (some (.inl (v_X9_bits I J x0)), I, J) := ee_X9_bits_0 (lo_X9_bits 6 0 0 rfl)
def v_X9_allOf (I : sx_I) (J : sx_J) (r0 : Nat) : Int64 := lp_sum (J 17 r0) 6 0 0
theorem lo_X9_allOf {sc : Nat × (Nat → Int32)} {d r0 : Nat} {I : sx_I} {J : sx_J} : ∀ (m k : Nat) (y : Int64), k + m = 6 → sx_E sc d cd_X9_allOf 4 [some (.inr (.inr (17, r0))), some (.inr (.inl y)), none, some (.inl (nI k))] [] I J (some (.inr (.inl (lp_sum (J 17 r0) m k y))), I, J) := by
  intro m
  induction m with
  | zero =>
    intro k y h
    exact ee_X9_allOf_4 ⟨fun _ => rfl, fun c => absurd (nI_le (a := 6) (by omega) (by omega)) c⟩
  | succ m ih =>
    intro k y h
    refine ee_X9_allOf_4 ⟨fun c => absurd c (nI_ge (b := 6) (by omega) (by omega)), fun c => ⟨sx_in_le (sx_in_nI (N := 6) (by omega) (by omega)) (sx_eN17 r0), ?_⟩⟩
    rw [nI_clamp (by omega), nI_1]
    exact ih (k + 1) _ (by omega)
theorem es_X9_allOf {sc : Nat × (Nat → Int32)} {d : Nat} {r0 : Nat} {I : sx_I} {J : sx_J} : sx_E sc d cd_X9_allOf 0 [some (.inr (.inr (17, r0))), none, none, none] [] I J (some (.inr (.inl (v_X9_allOf I J r0))), I, J) := ee_X9_allOf_0 (lo_X9_allOf 6 0 0 rfl)
def lp_ab (W : Nat → Int32) : Nat → Nat → Int32 → Int32
  | 0, _, s => s
  | m + 1, k, s => lp_ab W m (k + 1) (s ||| (if W k = 1 then (1 : Int32) <<< (nI k &&& 31) else 0))
def v_X9_aboard (I : sx_I) (J : sx_J) : Int32 := lp_ab (fun k => I 16 3 (8 + 4 * k + 2)) (I 16 3 0).toNatClampNeg 0 0
theorem lo_X9_aboard {sc : Nat × (Nat → Int32)} {d P : Nat} {I : sx_I} {J : sx_J} (hP : P ≤ 6) (hp : I 16 3 0 = nI P) : ∀ (m k : Nat) (s : Int32), k + m = P → sx_E sc (d + 1) cd_X9_aboard 4 [some (.inr (.inr (9, 0))), some (.inl s), some (.inl (nI k))] [] I J (some (.inl (lp_ab (fun k => I 16 3 (8 + 4 * k + 2)) m k s)), I, J) := by
  intro m
  induction m with
  | zero =>
    intro k s h
    exact ee_X9_aboard_4 ⟨fun _ => rfl, fun c => absurd (by rw [hp]; exact nI_le (by omega) (by omega)) c⟩
  | succ m ih =>
    intro k s h
    rw [lp_ab]
    refine ee_X9_aboard_4 ⟨fun c => absurd c (by rw [hp]; exact nI_ge (by omega) (by omega)), fun c => ⟨_, _, _, es_X9_of (sx_ofi (w := 2) (by omega) (by omega)), ?_⟩⟩
    rw [show v_X9_of I J (nI k) (2 : Int32) = I 16 3 (8 + 4 * k + 2) from sx_ofv (w := 2) (by omega) (by omega) I J]
    refine ee_X9_aboard_21 ⟨fun c1 => ?_, fun c1 => ?_⟩
    · rw [if_pos c1]
      refine ee_X9_aboard_32 ?_
      rw [nI_1]
      exact ih (k + 1) _ (by omega)
    · rw [if_neg c1]
      refine ee_X9_aboard_32 ?_
      rw [nI_1]
      exact ih (k + 1) _ (by omega)
theorem es_X9_aboard {sc : Nat × (Nat → Int32)} {d : Nat} {I : sx_I} {J : sx_J} (g1 : sx_p6 (I 16 3 0)) : sx_E sc (d + 1) cd_X9_aboard 0 [some (.inr (.inr (9, 0))), none, none] [] I J (some (.inl (v_X9_aboard I J)), I, J) := by
  obtain ⟨P, hP, hp⟩ := g1
  have h := lo_X9_aboard (sc := sc) (d := d) (J := J) hP hp P 0 0 (by omega)
  rw [v_X9_aboard, hp, nI_clamp (by omega)]
  exact ee_X9_aboard_0 h
def lp_dr (x : Int32) (K T : Nat → Int32) : Nat → Nat → Int32 → Int32
  | 0, _, s => s
  | m + 1, k, s => lp_dr x K T m (k + 1) (s ||| (if (x >>> (nI k &&& 31)) &&& 1 = 1 then (if K k < 4 then (1 : Int32) <<< (nI k &&& 31) else if T k = 1 then (1 : Int32) <<< (nI k &&& 31) else 0) else 0))
def v_X9_drawing (I : sx_I) (J : sx_J) (x1 : Int32) : Int32 := lp_dr x1 (fun k => I 16 3 (8 + 4 * k)) (fun k => I 16 3 (8 + 4 * k + 3)) (I 16 3 0).toNatClampNeg 0 0
theorem lo_X9_drawing {sc : Nat × (Nat → Int32)} {d P : Nat} {x1 : Int32} {I : sx_I} {J : sx_J} (hP : P ≤ 6) (hp : I 16 3 0 = nI P) : ∀ (m k : Nat) (s : Int32) (o : Option sx_V), k + m = P → sx_E sc (d + 1) cd_X9_drawing 4 [some (.inr (.inr (9, 0))), some (.inl x1), some (.inl s), some (.inl (nI k)), o] [] I J (some (.inl (lp_dr x1 (fun k => I 16 3 (8 + 4 * k)) (fun k => I 16 3 (8 + 4 * k + 3)) m k s)), I, J) := by
  intro m
  induction m with
  | zero =>
    intro k s o h
    exact ee_X9_drawing_4 ⟨fun _ => rfl, fun c => absurd (by rw [hp]; exact nI_le (by omega) (by omega)) c⟩
  | succ m ih =>
    intro k s o h
    rw [lp_dr]
    have t1 : ∀ (r : Int32), sx_E sc (d + 1) cd_X9_drawing 4 [some (.inr (.inr (9, 0))), some (.inl x1), some (.inl (s ||| ((1 : Int32) <<< (nI k &&& 31)))), some (.inl (nI k + 1)), some (.inl (1 : Int32))] [] I J (some (.inl r), I, J) → sx_E sc (d + 1) cd_X9_drawing 43 [some (.inr (.inr (9, 0))), some (.inl x1), some (.inl s), some (.inl (nI k)), o] [] I J (some (.inl r), I, J) := fun r hr =>
      ee_X9_drawing_43 (ee_X9_drawing_48 ⟨fun q => absurd q (by decide), fun _ => ee_X9_drawing_63 hr⟩)
    have t0 : ∀ (r : Int32), sx_E sc (d + 1) cd_X9_drawing 4 [some (.inr (.inr (9, 0))), some (.inl x1), some (.inl (s ||| 0)), some (.inl (nI k + 1)), some (.inl (0 : Int32))] [] I J (some (.inl r), I, J) → sx_E sc (d + 1) cd_X9_drawing 47 [some (.inr (.inr (9, 0))), some (.inl x1), some (.inl s), some (.inl (nI k)), o] [] I J (some (.inl r), I, J) := fun r hr =>
      ee_X9_drawing_47 (ee_X9_drawing_48 ⟨fun _ => ee_X9_drawing_63 hr, fun q => absurd rfl q⟩)
    refine ee_X9_drawing_4 ⟨fun c => absurd c (by rw [hp]; exact nI_ge (by omega) (by omega)), fun c => ⟨fun c1 => ⟨_, _, _, es_X9_of (sx_ofi (w := 0) (by omega) (by omega)), ?_⟩, fun c1 => ?_⟩⟩
    · rw [show v_X9_of I J (nI k) (0 : Int32) = I 16 3 (8 + 4 * k) from sx_ofv (w := 0) (by omega) (by omega) I J, if_pos c1]
      refine ee_X9_drawing_29 ⟨fun c2 => ?_, fun c2 => ⟨_, _, _, es_X9_of (sx_ofi (w := 3) (by omega) (by omega)), ?_⟩⟩
      · rw [if_pos c2]
        refine t1 _ ?_
        rw [nI_1]
        exact ih (k + 1) _ _ (by omega)
      · rw [show v_X9_of I J (nI k) (3 : Int32) = I 16 3 (8 + 4 * k + 3) from sx_ofv (w := 3) (by omega) (by omega) I J, if_neg c2]
        refine ee_X9_drawing_39 ⟨fun c3 => ?_, fun c3 => ?_⟩
        · rw [if_pos c3]
          refine t1 _ ?_
          rw [nI_1]
          exact ih (k + 1) _ _ (by omega)
        · rw [if_neg c3]
          refine t0 _ ?_
          rw [nI_1]
          exact ih (k + 1) _ _ (by omega)
    · rw [if_neg c1]
      refine t0 _ ?_
      rw [nI_1]
      exact ih (k + 1) _ _ (by omega)
theorem es_X9_drawing {sc : Nat × (Nat → Int32)} {d : Nat} {x1 : Int32} {I : sx_I} {J : sx_J} (g1 : sx_p6 (I 16 3 0)) : sx_E sc (d + 1) cd_X9_drawing 0 [some (.inr (.inr (9, 0))), some (.inl x1), none, none, none] [] I J (some (.inl (v_X9_drawing I J x1)), I, J) := by
  obtain ⟨P, hP, hp⟩ := g1
  have h := lo_X9_drawing (sc := sc) (d := d) (J := J) (x1 := x1) hP hp P 0 0 none (by omega)
  rw [v_X9_drawing, hp, nI_clamp (by omega)]
  exact ee_X9_drawing_0 h
def j_X9_laySome (I : sx_I) (J : sx_J) : sx_J := fun x y z => if x = 17 ∧ y = 2 ∧ z < 6 then J 17 0 z else J x y z
theorem lo_X9_laySome {sc : Nat × (Nat → Int32)} {d : Nat} {I : sx_I} {J : sx_J} : ∀ (m k : Nat), k + m = 6 → sx_E sc d cd_X9_laySome 2 [some (.inr (.inr (9, 0))), some (.inl (nI k))] [] I (fun x y z => if x = 17 ∧ y = 2 ∧ z < k then J 17 0 z else J x y z) (none, I, j_X9_laySome I J) := by
  intro m
  induction m with
  | zero =>
    intro k h
    obtain rfl : k = 6 := by omega
    exact ee_X9_laySome_2 ⟨fun _ => rfl, fun c => absurd (nI_le (a := 6) (by omega) (by omega)) c⟩
  | succ m ih =>
    intro k h
    refine ee_X9_laySome_2 ⟨fun c => absurd c (nI_ge (b := 6) (by omega) (by omega)), fun c => ⟨sx_in_nI (by omega) (by omega), sx_in_nI (by omega) (by omega), ee_X9_laySome_20 ?_⟩⟩
    rw [nI_1, nI_clamp (by omega)]
    have e : sx_uJ (fun x y z => if x = 17 ∧ y = 2 ∧ z < k then J 17 0 z else J x y z) 17 2 k (if 17 = 17 ∧ 0 = 2 ∧ k < k then J 17 0 k else J 17 0 k) = fun x y z => if x = 17 ∧ y = 2 ∧ z < k + 1 then J 17 0 z else J x y z := by
      funext x y z
      rw [ite_self]
      simp only [sx_uJ]
      by_cases h1 : x = 17 ∧ y = 2 ∧ z = k
      · obtain ⟨rfl, rfl, rfl⟩ := h1
        rw [if_pos ⟨rfl, rfl, rfl⟩, if_pos ⟨rfl, rfl, by omega⟩]
      · rw [if_neg h1]
        by_cases h2 : x = 17 ∧ y = 2 ∧ z < k
        · rw [if_pos h2, if_pos ⟨h2.1, h2.2.1, by omega⟩]
        · rw [if_neg h2, if_neg (fun q => by
            rcases Nat.lt_or_ge z k with h3 | h3
            · exact h2 ⟨q.1, q.2.1, h3⟩
            · exact h1 ⟨q.1, q.2.1, by omega⟩)]
    rw [e]
    exact ih (k + 1) (by omega)
theorem es_X9_laySome {sc : Nat × (Nat → Int32)} {d : Nat} {I : sx_I} {J : sx_J} : sx_E sc d cd_X9_laySome 0 [some (.inr (.inr (9, 0))), none] [] I J (none, I, j_X9_laySome I J) := by
  have h := lo_X9_laySome (sc := sc) (d := d) (I := I) (J := J) 6 0 rfl
  have e0 : (fun x y z => if x = 17 ∧ y = 2 ∧ z < 0 then J 17 0 z else J x y z) = J := by
    funext x y z
    rw [if_neg (fun q => absurd q.2.2 (Nat.not_lt_zero z))]
  rw [e0] at h
  exact ee_X9_laySome_0 h
def lp_kin (x : Int32) : Nat → Int32 → Int32
  | 0, it => it
  | m + 1, it => if it = x then it else if it ≤ 0 then it else if 6 ≤ it then it else lp_kin x m (sx_eT 2 it.toNatClampNeg)
def v_X8_isKindOf (I : sx_I) (J : sx_J) (x0 : Int32) (x1 : Int32) : Int32 := if lp_kin x1 6 x0 = x1 then 1 else 0
theorem lo_X8_isKindOf {sc : Nat × (Nat → Int32)} {d : Nat} {x0 x1 : Int32} {I : sx_I} {J : sx_J} : ∀ (m k : Nat) (it : Int32), k + m = 6 → sx_E sc d cd_X8_isKindOf 4 [some (.inl x0), some (.inl x1), some (.inl it), some (.inl (nI k))] [] I J (some (.inl (if lp_kin x1 m it = x1 then 1 else 0)), I, J) := by
  have fin : ∀ (it st : Int32), sx_E sc d cd_X8_isKindOf 37 [some (.inl x0), some (.inl x1), some (.inl it), some (.inl st)] [] I J (some (.inl (if it = x1 then 1 else 0)), I, J) := fun it st =>
    ee_X8_isKindOf_37 ⟨fun c => by rw [if_pos c], fun c => by rw [if_neg c]⟩
  intro m
  induction m with
  | zero =>
    intro k it h
    exact ee_X8_isKindOf_4 ⟨fun _ => fin it _, fun c => absurd (nI_le (a := 6) (by omega) (by omega)) c⟩
  | succ m ih =>
    intro k it h
    rw [lp_kin]
    refine ee_X8_isKindOf_4 ⟨fun c => absurd c (nI_ge (b := 6) (by omega) (by omega)), fun _ => ⟨fun c1 => ?_, fun c1 => ⟨fun c2 => ?_, fun c2 => ⟨fun c3 => ?_, fun c3 => ⟨?_, ?_⟩⟩⟩⟩⟩
    · rw [if_pos c1]; exact fin it _
    · rw [if_neg c1, if_pos c2]; exact fin it _
    · rw [if_neg c1, if_neg c2, if_pos c3]; exact fin it _
    · have h0 : ¬ it < 0 := fun q => c2 (Int32.le_of_lt q)
      obtain ⟨j, hj, rfl⟩ := nI_of h0
      refine sx_in_nI ?_ (by omega)
      rcases Nat.lt_or_ge j 6 with q | q
      · exact q
      · exact absurd (nI_le (a := 6) q hj) c3
    · rw [if_neg c1, if_neg c2, if_neg c3, nI_1]
      exact ih (k + 1) _ (by omega)
theorem vb_X8_isKindOf (I : sx_I) (J : sx_J) (x0 : Int32) (x1 : Int32) : v_X8_isKindOf I J x0 x1 = 0 ∨ v_X8_isKindOf I J x0 x1 = 1 := by
  unfold v_X8_isKindOf
  split
  · exact Or.inr rfl
  · exact Or.inl rfl
theorem es_X8_isKindOf {sc : Nat × (Nat → Int32)} {d : Nat} {x0 : Int32} {x1 : Int32} {I : sx_I} {J : sx_J} : sx_E sc d cd_X8_isKindOf 0 [some (.inl x0), some (.inl x1), none, none] [] I J (some (.inl (v_X8_isKindOf I J x0 x1)), I, J) := ee_X8_isKindOf_0 (lo_X8_isKindOf 6 0 x0 rfl)
def lp_rows (W : Nat → Int32) : Nat → Nat → Int32 → Int32
  | 0, _, s => s
  | m + 1, k, s => lp_rows W m (k + 1) (if W k = 0 then s + 1 else s)
def v_X8_rowsThere (I : sx_I) (J : sx_J) : Int32 := lp_rows (fun k => v_X4_isMissing I J k) 8 0 0
theorem lo_X8_rowsThere {sc : Nat × (Nat → Int32)} {d : Nat} {I : sx_I} {J : sx_J} : ∀ (m k : Nat) (s : Int32), k + m = 8 → sx_E sc (d + 1) cd_X8_rowsThere 4 [some (.inr (.inr (8, 0))), some (.inl s), some (.inl (nI k))] [] I J (some (.inl (lp_rows (fun k => v_X4_isMissing I J k) m k s)), I, J) := by
  intro m
  induction m with
  | zero =>
    intro k s h
    exact ee_X8_rowsThere_4 ⟨fun _ => rfl, fun c => absurd (nI_le (a := 8) (by omega) (by omega)) c⟩
  | succ m ih =>
    intro k s h
    rw [lp_rows]
    refine ee_X8_rowsThere_4 ⟨fun c => absurd c (nI_ge (b := 8) (by omega) (by omega)), fun c => ⟨sx_in_nI (by omega) (by omega), ?_⟩⟩
    rw [nI_clamp (by omega)]
    refine ee_X8_rowsThere_16 ⟨_, _, _, es_X4_isMissing, ee_X8_rowsThere_19 ⟨fun c1 => ?_, fun c1 => ?_⟩⟩
    · rw [if_pos c1]
      refine ee_X8_rowsThere_25 ?_
      rw [nI_1]
      exact ih (k + 1) _ (by omega)
    · rw [if_neg c1]
      refine ee_X8_rowsThere_25 ?_
      rw [nI_1]
      exact ih (k + 1) _ (by omega)
theorem es_X8_rowsThere {sc : Nat × (Nat → Int32)} {d : Nat} {I : sx_I} {J : sx_J} : sx_E sc (d + 1) cd_X8_rowsThere 0 [some (.inr (.inr (8, 0))), none, none] [] I J (some (.inl (v_X8_rowsThere I J)), I, J) := ee_X8_rowsThere_0 (lo_X8_rowsThere 8 0 0 rfl)
