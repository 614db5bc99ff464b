/-! copies within the reference's arrays -/
def sx_cpA (I : sx_I) (dd ss od os n : Nat) : sx_I := fun x y z => if x = 16 ∧ y = dd ∧ od ≤ z ∧ z < od + n then I 16 ss (os + (z - od)) else I x y z
def sx_cpB (J : sx_J) (dd ss od os n : Nat) : sx_J := fun x y z => if x = 17 ∧ y = dd ∧ od ≤ z ∧ z < od + n then J 17 ss (os + (z - od)) else J x y z
theorem sx_cpA_0 {I : sx_I} {dd ss od os : Nat} : sx_cpA I dd ss od os 0 = I := by
  funext x y z; exact if_neg (by omega)
theorem sx_cpB_0 {J : sx_J} {dd ss od os : Nat} : sx_cpB J dd ss od os 0 = J := by
  funext x y z; exact if_neg (by omega)
theorem sx_cpA_ne {I : sx_I} {dd ss od os n x y z : Nat} (h : x ≠ 16) : sx_cpA I dd ss od os n x y z = I x y z := if_neg (fun q => h q.1)
theorem sx_cpA_1 {I : sx_I} {dd ss od os k : Nat} (h : dd ≠ ss ∨ od ≤ os) : sx_uI (sx_cpA I dd ss od os k) 16 dd (od + k) (sx_cpA I dd ss od os k 16 ss (os + k)) = sx_cpA I dd ss od os (k + 1) := by
  have e : sx_cpA I dd ss od os k 16 ss (os + k) = I 16 ss (os + k) := if_neg (by omega)
  rw [e]
  funext x y z
  simp only [sx_uI, sx_cpA]
  by_cases h1 : x = 16 ∧ y = dd ∧ z = od + k
  · obtain ⟨rfl, rfl, rfl⟩ := h1
    rw [if_pos ⟨rfl, rfl, rfl⟩, if_pos (by omega), show od + k - od = k by omega]
  · rw [if_neg h1]
    by_cases h2 : x = 16 ∧ y = dd ∧ od ≤ z ∧ z < od + k
    · rw [if_pos h2, if_pos (by omega)]
    · rw [if_neg h2, if_neg (by omega)]
theorem sx_cpB_1 {J : sx_J} {dd ss od os k : Nat} (h : dd ≠ ss ∨ od ≤ os) : sx_uJ (sx_cpB J dd ss od os k) 17 dd (od + k) (sx_cpB J dd ss od os k 17 ss (os + k)) = sx_cpB J dd ss od os (k + 1) := by
  have e : sx_cpB J dd ss od os k 17 ss (os + k) = J 17 ss (os + k) := if_neg (by omega)
  rw [e]
  funext x y z
  simp only [sx_uJ, sx_cpB]
  by_cases h1 : x = 17 ∧ y = dd ∧ z = od + k
  · obtain ⟨rfl, rfl, rfl⟩ := h1
    rw [if_pos ⟨rfl, rfl, rfl⟩, if_pos (by omega), show od + k - od = k by omega]
  · rw [if_neg h1]
    by_cases h2 : x = 17 ∧ y = dd ∧ od ≤ z ∧ z < od + k
    · rw [if_pos h2, if_pos (by omega)]
    · rw [if_neg h2, if_neg (by omega)]
theorem sx_ix {c a k : Nat} : (nI c) * nI a + nI k = nI (c * a + k) := by rw [pk_mul, nI_add]
section SXKEEP
variable {sc : Nat × (Nat → Int32)} {d a : Nat} {I : sx_I} {J : sx_J} {res : Option sx_V × sx_I × sx_J}
theorem lo_X9_keep_11 (h : sx_E sc d cd_X9_keep 41 [some (.inr (.inr (9, 0))), some (.inl (0 : Int32))] [] (sx_cpA I 5 5 0 32 736) J res) : ∀ (m k : Nat), k + m = 736 → sx_E sc d cd_X9_keep 11 [some (.inr (.inr (9, 0))), some (.inl (nI k))] [] (sx_cpA I 5 5 0 32 k) J res := by
  intro m
  induction m with
  | zero =>
    intro k hk
    obtain rfl : k = 736 := by omega
    exact ee_X9_keep_11 ⟨fun _ => h, fun c => absurd (nI_le (a := 736) (by omega) (by omega)) c⟩
  | succ m ih =>
    intro k hk
    refine ee_X9_keep_11 ⟨fun c => absurd c (nI_ge (b := 736) (by omega) (by omega)), fun _ => ?_⟩
    rw [show nI k + (32 : Int32) = nI (k + 32) from nI_add k 32]
    refine ⟨sx_in_nI (by omega) (by omega), sx_in_nI (by omega) (by omega), ee_X9_keep_33 ?_⟩
    rw [nI_1, nI_clamp (by omega), nI_clamp (by omega)]
    have e := sx_cpA_1 (I := I) (dd := 5) (ss := 5) (od := 0) (os := 32) (k := k) (Or.inr (by omega))
    rw [Nat.zero_add, Nat.add_comm 32 k] at e
    rw [e]
    exact ih (k + 1) (by omega)
theorem lo_X9_keep_41 (h : sx_E sc d cd_X9_keep 79 [some (.inr (.inr (9, 0))), some (.inl (138 : Int32))] [] (sx_uI I 9 0 10 ((I 9 0 10) - (1 : Int32))) (sx_cpB J 1 1 0 6 138) res) : ∀ (m k : Nat), k + m = 138 → sx_E sc d cd_X9_keep 41 [some (.inr (.inr (9, 0))), some (.inl (nI k))] [] I (sx_cpB J 1 1 0 6 k) res := by
  intro m
  induction m with
  | zero =>
    intro k hk
    obtain rfl : k = 138 := by omega
    exact ee_X9_keep_41 ⟨fun _ => h, fun c => absurd (nI_le (a := 138) (by omega) (by omega)) c⟩
  | succ m ih =>
    intro k hk
    refine ee_X9_keep_41 ⟨fun c => absurd c (nI_ge (b := 138) (by omega) (by omega)), fun _ => ?_⟩
    rw [show nI k + (6 : Int32) = nI (k + 6) from nI_add k 6]
    refine ⟨sx_in_nI (by omega) (by omega), sx_in_nI (by omega) (by omega), ee_X9_keep_63 ?_⟩
    rw [nI_1, nI_clamp (by omega), nI_clamp (by omega)]
    have e := sx_cpB_1 (J := J) (dd := 1) (ss := 1) (od := 0) (os := 6) (k := k) (Or.inr (by omega))
    rw [Nat.zero_add, Nat.add_comm 6 k] at e
    rw [e]
    exact ih (k + 1) (by omega)
theorem lo_X9_keep_81 (ha : a < 24) (hI : I 9 0 10 = nI a) (h : sx_E sc d cd_X9_keep 115 [some (.inr (.inr (9, 0))), some (.inl (0 : Int32))] [] (sx_cpA I 5 3 (32 * a) 0 32) J res) : ∀ (m k : Nat), k + m = 32 → sx_E sc d cd_X9_keep 81 [some (.inr (.inr (9, 0))), some (.inl (nI k))] [] (sx_cpA I 5 3 (32 * a) 0 k) J res := by
  intro m
  induction m with
  | zero =>
    intro k hk
    obtain rfl : k = 32 := by omega
    exact ee_X9_keep_81 ⟨fun _ => h, fun c => absurd (nI_le (a := 32) (by omega) (by omega)) c⟩
  | succ m ih =>
    intro k hk
    refine ee_X9_keep_81 ⟨fun c => absurd c (nI_ge (b := 32) (by omega) (by omega)), fun _ => ?_⟩
    rw [sx_cpA_ne (by decide), hI, show (32 : Int32) * nI a + nI k = nI (32 * a + k) from sx_ix]
    refine ⟨sx_in_nI (by omega) (by omega), sx_in_nI (by omega) (by omega), ee_X9_keep_107 ?_⟩
    rw [nI_1, nI_clamp (by omega), nI_clamp (by omega)]
    have e := sx_cpA_1 (I := I) (dd := 5) (ss := 3) (od := 32 * a) (os := 0) (k := k) (Or.inl (by decide))
    rw [Nat.zero_add] at e
    rw [e]
    exact ih (k + 1) (by omega)
theorem lo_X9_keep_115 (ha : a < 24) (hI : I 9 0 10 = nI a) (h : res = (none, sx_uI I 9 0 10 ((I 9 0 10) + (1 : Int32)), sx_cpB J 1 0 (6 * a) 0 6)) : ∀ (m k : Nat), k + m = 6 → sx_E sc d cd_X9_keep 115 [some (.inr (.inr (9, 0))), some (.inl (nI k))] [] I (sx_cpB J 1 0 (6 * a) 0 k) res := by
  intro m
  induction m with
  | zero =>
    intro k hk
    obtain rfl : k = 6 := by omega
    exact ee_X9_keep_115 ⟨fun _ => ee_X9_keep_157 h, fun c => absurd (nI_le (a := 6) (by omega) (by omega)) c⟩
  | succ m ih =>
    intro k hk
    refine ee_X9_keep_115 ⟨fun c => absurd c (nI_ge (b := 6) (by omega) (by omega)), fun _ => ?_⟩
    rw [hI, show (6 : Int32) * nI a + nI k = nI (6 * a + k) from sx_ix]
    refine ⟨sx_in_nI (by omega) (by omega), sx_in_nI (by omega) (by omega), ee_X9_keep_141 ?_⟩
    rw [nI_1, nI_clamp (by omega), nI_clamp (by omega)]
    have e := sx_cpB_1 (J := J) (dd := 1) (ss := 0) (od := 6 * a) (os := 0) (k := k) (Or.inl (by decide))
    rw [Nat.zero_add] at e
    rw [e]
    exact ih (k + 1) (by omega)
/-- what is kept, with so many acts kept (24: the oldest goes) -/
def i_keepA (I : sx_I) (a : Nat) : sx_I := sx_uI (sx_cpA I 5 3 (32 * a) 0 32) 9 0 10 (nI (a + 1))
def j_keepA (J : sx_J) (a : Nat) : sx_J := sx_cpB J 1 0 (6 * a) 0 6
theorem es_keepA {o : Option sx_V} (ha : a < 24) (hI : I 9 0 10 = nI a) : sx_E sc d cd_X9_keep 79 [some (.inr (.inr (9, 0))), o] [] I J (none, i_keepA I a, j_keepA J a) := by
  refine ee_X9_keep_79 ?_
  have h2 := lo_X9_keep_115 (sc := sc) (d := d) (I := sx_cpA I 5 3 (32 * a) 0 32) (J := J) ha (by rw [sx_cpA_ne (by decide)]; exact hI) rfl 6 0 rfl
  rw [sx_cpB_0, sx_cpA_ne (by decide), hI, nI_1] at h2
  have h1 := lo_X9_keep_81 ha hI h2 32 0 rfl
  rw [sx_cpA_0] at h1
  exact h1
def i_X9_keep (I : sx_I) (J : sx_J) : sx_I := if I 9 0 10 = 24 then i_keepA (sx_uI (sx_cpA I 5 5 0 32 736) 9 0 10 (nI 23)) 23 else i_keepA I (I 9 0 10).toNatClampNeg
def j_X9_keep (I : sx_I) (J : sx_J) : sx_J := if I 9 0 10 = 24 then j_keepA (sx_cpB J 1 1 0 6 138) 23 else j_keepA J (I 9 0 10).toNatClampNeg
end SXKEEP
theorem es_X9_keep {sc : Nat × (Nat → Int32)} {d : Nat} {I : sx_I} {J : sx_J} (g1 : ∃ a : Nat, a ≤ 24 ∧ I 9 0 10 = nI a) : sx_E sc d cd_X9_keep 0 [some (.inr (.inr (9, 0))), none] [] I J (none, i_X9_keep I J, j_X9_keep I J) := by
  obtain ⟨a, ha, hI⟩ := g1
  refine ee_X9_keep_0 ⟨fun c => ?_, fun c => ?_⟩
  · rw [i_X9_keep, j_X9_keep, if_pos c, if_pos c]
    have e9 : sx_cpA I 5 5 0 32 736 9 0 10 - 1 = nI 23 := by
      rw [sx_cpA_ne (by decide), c]; decide
    have h2 := lo_X9_keep_41 (sc := sc) (d := d) (I := sx_cpA I 5 5 0 32 736) (J := J) (res := (none, i_keepA (sx_uI (sx_cpA I 5 5 0 32 736) 9 0 10 (nI 23)) 23, j_keepA (sx_cpB J 1 1 0 6 138) 23)) (by
      rw [e9]
      exact es_keepA (by omega) (by simp [sx_uI])) 138 0 rfl
    rw [sx_cpB_0] at h2
    have h1 := lo_X9_keep_11 h2 736 0 rfl
    rw [sx_cpA_0] at h1
    exact h1
  · rw [i_X9_keep, j_X9_keep, if_neg c, if_neg c]
    have ha2 : a ≠ 24 := fun q => c (by rw [hI, q]; rfl)
    rw [hI, nI_clamp (by omega)]
    exact es_keepA (by omega) hI
