/-! what our machine comes to, by rules -/
def sx_E (sc : Nat × (Nat → Int32)) (d : Nat) (cd : sx_C) (pc : Nat) (lv : sx_L) (st : List sx_V) (I : sx_I) (J : sx_J) (res : Option sx_V × sx_I × sx_J) : Prop := ∃ n0 : Nat, ∀ n : Nat, n0 ≤ n → sx_go sc n d cd pc lv st I J = some res
def sx_bd (o : sx_R) (f : Option sx_V → sx_I → sx_J → sx_R) : sx_R := match o with
  | some (v, I, J) => f v I J
  | none => none
def sx_b1 (o : Option (Nat × Nat)) (f : Nat × Nat → sx_R) : sx_R := match o with
  | some q => f q
  | none => none
section SXE
variable {sc : Nat × (Nat → Int32)} {d d1 : Nat} {cd cd1 : sx_C} {pc pc1 : Nat} {lv lv1 lv2 : sx_L} {st st1 : List sx_V} {I I1 I2 : sx_I} {J J1 J2 : sx_J} {res : Option sx_V × sx_I × sx_J} {v : Option sx_V}
theorem sx_E.mk (K a : Nat) (h : ∀ n : Nat, sx_go sc (n + K) d cd pc lv st I J = sx_go sc (n + a) d cd1 pc1 lv1 st1 I1 J1) (h2 : sx_E sc d cd1 pc1 lv1 st1 I1 J1 res) : sx_E sc d cd pc lv st I J res := by
  obtain ⟨n0, hn⟩ := h2
  refine ⟨n0 + K, fun n hk => ?_⟩
  have e : n = (n - K) + K := by omega
  rw [e, h]
  exact hn _ (by omega)
theorem sx_E.ret (K : Nat) (h : ∀ n : Nat, sx_go sc (n + K) d cd pc lv st I J = some (v, I1, J1)) (h2 : res = (v, I1, J1)) : sx_E sc d cd pc lv st I J res := by
  refine ⟨K, fun n hk => ?_⟩
  have e : n = (n - K) + K := by omega
  rw [e, h, h2]
theorem sx_E.call (K a b : Nat) (h : ∀ n : Nat, sx_go sc (n + K) d cd pc lv st I J = sx_bd (sx_go sc (n + a) d1 cd1 0 lv1 [] I1 J1) (fun v I J => sx_go sc (n + b) d cd pc1 lv2 (v.toList ++ st1) I J)) (h1 : sx_E sc d1 cd1 0 lv1 [] I1 J1 (v, I2, J2)) (h2 : sx_E sc d cd pc1 lv2 (v.toList ++ st1) I2 J2 res) : sx_E sc d cd pc lv st I J res := by
  obtain ⟨n1, g1⟩ := h1
  obtain ⟨n2, g2⟩ := h2
  refine ⟨n1 + n2 + K, fun n hk => ?_⟩
  have e : n = (n - K) + K := by omega
  rw [e, h, g1 _ (by omega)]
  exact g2 _ (by omega)
end SXE
theorem sx_in_lt {x : Int32} {n : Nat} (h : sx_in x n = true) : x.toNatClampNeg < n := by
  unfold sx_in at h
  simp only [Bool.and_eq_true, decide_eq_true_eq] at h
  exact h.2
theorem sx_in_ge {x : Int32} {n : Nat} (h : sx_in x n = true) : 0 ≤ x := by
  unfold sx_in at h
  simp only [Bool.and_eq_true, decide_eq_true_eq] at h
  exact h.1
theorem sx_in_mk {x : Int32} {n : Nat} (h : 0 ≤ x) (h1 : x.toNatClampNeg < n) : sx_in x n = true := by
  unfold sx_in
  simp only [Bool.and_eq_true, decide_eq_true_eq]
  exact ⟨h, h1⟩
theorem sx_b1_r {k : Nat} (h : k < 8) (f : Nat × Nat → sx_R) : sx_b1 (sx_eR 13 0 k) f = f (4, k) := by
  have e : sx_eR 13 0 k = some (4, k) := by show (if k < 8 then some (4, k) else none) = _; rw [if_pos h]
  rw [e]; rfl
theorem sx_b1_i {k : Nat} (h : k < 2) (f : Nat × Nat → sx_R) : sx_b1 (sx_eR 14 0 k) f = f (5, k + 2) := by
  have e : sx_eR 14 0 k = some (5, k + 2) := by show (if k < 2 then some (5, k + 2) else none) = _; rw [if_pos h]
  rw [e]; rfl
theorem sx_b1_a {k : Nat} (h : k < 24) (f : Nat × Nat → sx_R) : sx_b1 (sx_eR 14 1 k) f = f (5, k + 4) := by
  have e : sx_eR 14 1 k = some (5, k + 4) := by show (if k < 24 then some (5, k + 4) else none) = _; rw [if_pos h]
  rw [e]; rfl
theorem sx_lc_ge {x y : Int64} : 0 ≤ lg_cmp x y ↔ y ≤ x := lg_cmp_ge x y
theorem sx_lc_lt {x y : Int64} : lg_cmp x y < 0 ↔ x < y := by
  rw [← Int32.not_le, ← Int64.not_le, lg_cmp_ge]
theorem sx_lc_eq {x y : Int64} : lg_cmp x y = 0 ↔ x = y := by
  unfold lg_cmp
  by_cases h : x > y
  · rw [if_pos h]
    constructor
    · intro q; exact absurd q (by decide)
    · rintro rfl; exact absurd h (Int64.lt_irrefl)
  · rw [if_neg h]
    by_cases h2 : x = y
    · rw [if_pos h2]; simp [h2]
    · rw [if_neg h2]
      constructor
      · intro q; exact absurd q (by decide)
      · intro q; exact absurd q h2
theorem sx_lc_gt {x y : Int64} : 0 < lg_cmp x y ↔ y < x := by
  unfold lg_cmp
  by_cases h : x > y
  · rw [if_pos h]; exact ⟨fun _ => h, fun _ => by decide⟩
  · rw [if_neg h]
    constructor
    · intro q
      split at q <;> exact absurd q (by decide)
    · intro q; exact absurd q h
theorem sx_lc_le {x y : Int64} : lg_cmp x y ≤ 0 ↔ x ≤ y := by
  rw [← Int32.not_lt, ← Int64.not_lt, sx_lc_gt]
def sx_b2 (o : Option Int) (f : Int → sx_R) : sx_R := match o with
  | some z => f z
  | none => none
theorem sx_sw {x : Int32} {lo hi : Int} (h : ∀ z : Int, lo ≤ z → z ≤ hi → ¬ x = Int32.ofInt z) : x.toInt < lo ∨ hi < x.toInt := by
  by_cases h1 : x.toInt < lo
  · exact Or.inl h1
  · by_cases h2 : hi < x.toInt
    · exact Or.inr h2
    · exact absurd (Int32.ofInt_toInt x).symm (h x.toInt (by omega) (by omega))
