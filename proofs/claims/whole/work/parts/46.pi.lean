/-! been: what is meant -/
/-- who can be the one by some voyages, and how many these are -/
def rq_by (e : Nat) (t : Nat → Nat) (M : Nat) : Nat → Nat
  | 0 => e
  | k + 1 => if rq_b M k = 1 then rq_by e t M k &&& t k else rq_by e t M k
def rq_cn (M : Nat) : Nat → Nat
  | 0 => 0
  | k + 1 => rq_cn M k + rq_b M k
theorem rq_by_le (e : Nat) (t : Nat → Nat) (M : Nat) : ∀ k, rq_by e t M k ≤ e
  | 0 => Nat.le_refl _
  | k + 1 => by
    have h := rq_by_le e t M k
    rw [rq_by]; split
    · exact Nat.le_trans Nat.and_le_left h
    · exact h
theorem rq_cn_le (M : Nat) : ∀ k, rq_cn M k ≤ k
  | 0 => Nat.le_refl _
  | k + 1 => by
    have h := rq_cn_le M k
    have h1 := rq_b01 M k
    rw [rq_cn]; omega
theorem rq_by_cg {e M M2 : Nat} {t : Nat → Nat} : ∀ n, (∀ k, k < n → rq_b M2 k = rq_b M k) → rq_by e t M2 n = rq_by e t M n ∧ rq_cn M2 n = rq_cn M n
  | 0, _ => ⟨rfl, rfl⟩
  | n + 1, h => by
    have ih := rq_by_cg (e := e) (t := t) n (fun k hk => h k (by omega))
    rw [rq_by, rq_by, rq_cn, rq_cn, ih.1, ih.2, h n (by omega)]
    exact ⟨rfl, rfl⟩
theorem rq_b_add {M v : Nat} (hM : M < 2 ^ v) : (∀ k, k < v → rq_b (M + 2 ^ v) k = rq_b M k) ∧ rq_b (M + 2 ^ v) v = 1 := by
  refine ⟨fun k hk => ?_, ?_⟩
  · obtain ⟨t, rfl⟩ : ∃ t, v = k + 1 + t := ⟨v - k - 1, by omega⟩
    rw [rq_b, rq_b, Nat.pow_add, Nat.pow_succ, Nat.mul_assoc, Nat.add_mul_div_left _ _ (Nat.two_pow_pos k), Nat.add_mul_mod_self_left]
  · rw [rq_b, Nat.add_div_right _ (Nat.two_pow_pos v), Nat.div_eq_of_lt hM]
theorem rq_b_full : ∀ n, n < 11 → ∀ k, k < n → rq_b (2 ^ n - 1) k = 1 := by decide +kernel
theorem rq_cn_full : ∀ n, n < 11 → rq_cn (2 ^ n - 1) n = n := by decide +kernel
/-- the fewest voyages that leave a set -/
def rq_min (e : Nat) (t : Nat → Nat) (v : Nat) (F : Nat → Nat) : Prop := (∀ z, z < 64 → F z ≤ 11) ∧ (∀ M, F (rq_by e t M v) ≤ rq_cn M v) ∧ (∀ z, z < 64 → F z < 11 → ∃ M, M < 2 ^ v ∧ rq_by e t M v = z ∧ rq_cn M v = F z)
def rq_dpi (F H : Nat → Nat) (t k : Nat) : Prop := (∀ z, z < 64 → H z ≤ F z) ∧ (∀ y, y < k → H (y &&& t) ≤ F y + 1) ∧ (∀ z, z < 64 → H z = F z ∨ ∃ y, y < 64 ∧ y &&& t = z ∧ H z = F y + 1) ∧ (∀ z, k ≤ z → z < 64 → H z = F z)
def rq_dp1 (H : Nat → Nat) (t k : Nat) : Nat → Nat := fun z => if z = k &&& t then (if H k + 1 < H z then H k + 1 else H z) else H z
theorem rq_dpi.step {F H : Nat → Nat} {t k : Nat} (h : rq_dpi F H t k) (hk : k < 64) : rq_dpi F (rq_dp1 H t k) t (k + 1) := by
  obtain ⟨h1, h2, h3, h4⟩ := h
  have hl : ∀ z, rq_dp1 H t k z ≤ H z := fun z => by
    unfold rq_dp1; split
    · split <;> omega
    · exact Nat.le_refl _
  have hw : k &&& t ≤ k := Nat.and_le_left
  refine ⟨fun z hz => Nat.le_trans (hl z) (h1 z hz), fun y hy => ?_, fun z hz => ?_, fun z hz hz6 => ?_⟩
  · by_cases e : y = k
    · subst e
      have e4 := h4 y (Nat.le_refl _) hk
      show (if y &&& t = y &&& t then (if H y + 1 < H (y &&& t) then H y + 1 else H (y &&& t)) else H (y &&& t)) ≤ F y + 1
      rw [if_pos rfl]
      split <;> omega
    · exact Nat.le_trans (hl _) (h2 y (by omega))
  · by_cases e : z = k &&& t
    · have e4 := h4 k (Nat.le_refl _) hk
      have e5 : rq_dp1 H t k z = if H k + 1 < H z then H k + 1 else H z := if_pos e
      rw [e5]
      split
      · exact Or.inr ⟨k, hk, e.symm, by omega⟩
      · exact h3 z hz
    · have e5 : rq_dp1 H t k z = H z := if_neg e
      rw [e5]; exact h3 z hz
  · have e5 : rq_dp1 H t k z = H z := if_neg (by omega)
    rw [e5]; exact h4 z (by omega) hz6
theorem rq_min.step {e v : Nat} {t F G : Nat → Nat} (he : e < 64) (h : rq_min e t v F) (g : rq_dpi F G (t v) 64) : rq_min e t (v + 1) G := by
  obtain ⟨h1, h2, h3⟩ := h
  obtain ⟨g1, g2, g3, _⟩ := g
  refine ⟨fun z hz => Nat.le_trans (g1 z hz) (h1 z hz), fun M => ?_, fun z hz hlt => ?_⟩
  · have hb := rq_by_le e t M v
    have h2M := h2 M
    rw [rq_by, rq_cn]
    rcases rq_b01 M v with b | b
    · rw [b, if_neg (by decide)]
      exact Nat.le_trans (g1 _ (by omega)) (by omega)
    · rw [b, if_pos rfl]
      exact Nat.le_trans (g2 _ (by omega)) (by omega)
  · rcases g3 z hz with q | ⟨y, hy, q1, q2⟩
    · obtain ⟨M, m1, m2, m3⟩ := h3 z hz (by omega)
      have b0 : rq_b M v = 0 := rq_b_lt m1
      refine ⟨M, Nat.lt_of_lt_of_le m1 (Nat.pow_le_pow_right (by decide) (by omega)), ?_, ?_⟩
      · rw [rq_by, b0, if_neg (by decide)]; exact m2
      · rw [rq_cn, b0, m3, q, Nat.add_zero]
    · obtain ⟨M, m1, m2, m3⟩ := h3 y hy (by omega)
      obtain ⟨b1, b2⟩ := rq_b_add m1
      obtain ⟨c1, c2⟩ := rq_by_cg (e := e) (t := t) v b1
      refine ⟨M + 2 ^ v, by rw [Nat.pow_succ]; omega, ?_, ?_⟩
      · rw [rq_by, b2, if_pos rfl, c1, m2]; exact q1
      · rw [rq_cn, b2, c2, m3, q2]
theorem rq_min.zero {e : Nat} {t : Nat → Nat} : rq_min e t 0 (fun z => if z = e then 0 else 11) := by
  refine ⟨fun z _ => ?_, fun M => ?_, fun z _ hlt => ?_⟩
  · show (if z = e then 0 else 11) ≤ 11
    split <;> omega
  · show (if e = e then 0 else 11) ≤ 0
    rw [if_pos rfl]; exact Nat.le_refl _
  · by_cases q : z = e
    · exact ⟨0, by decide, q.symm, (if_pos q).symm⟩
    · exact absurd (show (if z = e then 0 else 11) < 11 from hlt) (by rw [if_neg q]; omega)
def rq_fe (e : Nat) (t : Nat → Nat) (n who : Nat) : Nat → Nat → Nat → Nat
  | 0, _, few => few
  | m + 1, M, few => rq_fe e t n who m (M + 1) (if rq_cn M n < few ∧ rq_by e t M n = who then rq_cn M n else few)
theorem rq_fe_spec (e : Nat) (t : Nat → Nat) (n who : Nat) : ∀ m M few, rq_fe e t n who m M few ≤ few ∧ (∀ K, M ≤ K → K < M + m → rq_by e t K n = who → rq_fe e t n who m M few ≤ rq_cn K n) ∧ (rq_fe e t n who m M few = few ∨ ∃ K, K < M + m ∧ rq_by e t K n = who ∧ rq_cn K n = rq_fe e t n who m M few)
  | 0, M, few => ⟨Nat.le_refl _, fun K h1 h2 => by omega, Or.inl rfl⟩
  | m + 1, M, few => by
    obtain ⟨h1, h2, h3⟩ := rq_fe_spec e t n who m (M + 1) (if rq_cn M n < few ∧ rq_by e t M n = who then rq_cn M n else few)
    rw [rq_fe]
    have hle : (if rq_cn M n < few ∧ rq_by e t M n = who then rq_cn M n else few) ≤ few := by split <;> omega
    refine ⟨Nat.le_trans h1 hle, fun K k1 k2 k3 => ?_, ?_⟩
    · by_cases q : K = M
      · subst q
        refine Nat.le_trans h1 ?_
        split
        · exact Nat.le_refl _
        · rename_i c; exact Nat.le_of_not_lt (fun z => c ⟨z, k3⟩)
      · exact h2 K (by omega) (by omega) k3
    · rcases h3 with h3 | ⟨K, k1, k2, k3⟩
      · by_cases c : rq_cn M n < few ∧ rq_by e t M n = who
        · rw [if_pos c] at h3 ⊢
          exact Or.inr ⟨M, by omega, c.2, h3.symm⟩
        · rw [if_neg c] at h3 ⊢
          exact Or.inl h3
      · exact Or.inr ⟨K, by omega, k2, k3⟩
theorem rq_fe_eq {e n : Nat} {t F : Nat → Nat} (hn : n ≤ 10) (he : e < 64) (h : rq_min e t n F) : rq_fe e t n (rq_by e t (2 ^ n - 1) n) (2 ^ n) 0 n = F (rq_by e t (2 ^ n - 1) n) := by
  obtain ⟨h1, h2, h3⟩ := h
  have hc := rq_cn_full n (by omega)
  have hb := rq_by_le e t (2 ^ n - 1) n
  obtain ⟨f1, f2, f3⟩ := rq_fe_spec e t n (rq_by e t (2 ^ n - 1) n) (2 ^ n) 0 n
  have g1 := h2 (2 ^ n - 1)
  refine Nat.le_antisymm ?_ ?_
  · obtain ⟨M, m1, m2, m3⟩ := h3 (rq_by e t (2 ^ n - 1) n) (by omega) (by omega)
    have := f2 M (Nat.zero_le _) (by omega) m2
    omega
  · rcases f3 with f3 | ⟨K, k1, k2, k3⟩
    · omega
    · have := h2 K
      rw [k2] at this
      omega
/-! numbers -/
theorem rq_land : ∀ a, a < 64 → ∀ b, b < 64 → (nI a &&& nI b) = nI (a &&& b) := by decide +kernel
theorem rq_inv1 : ∀ n, n ≤ 6 → ∀ a, a < 2 ^ n → (nI (2 ^ n - 1) &&& (nI a ^^^ (Int32.ofInt (-1)))) = nI (2 ^ n - 1 - a) := by decide +kernel
theorem rq_inv2 : ∀ n, n ≤ 6 → ∀ x, x < 2 ^ n → ∀ a, a < 2 ^ n → (nI x &&& (nI a ^^^ (Int32.ofInt (-1)))) = nI (x &&& (2 ^ n - 1 - a)) := by decide +kernel
theorem rq_p2m : ∀ n, n ≤ 10 → ((1 : Int32) <<< (nI n &&& 31)) - (1 : Int32) = nI (2 ^ n - 1) := by decide +kernel
theorem rq_smod : ∀ k, k < 10 → ((nI k &&& 31).toBitVec.smod 32).toNat = k := by decide +kernel
theorem rq_bitM {M k : Nat} (hM : M < 2 ^ 31) (hk : k < 10) : ((nI M >>> (nI k &&& 31)) &&& (1 : Int32)) = nI (rq_b M k) := by
  rw [pk_shrN hM _ k (rq_smod k hk), pk_andN (Nat.lt_of_le_of_lt (Nat.div_le_self ..) (by omega)) 1 (by decide)]; rfl
theorem rq_oI0 {I : sx_I} {J : sx_J} {x a b : Int32} (h1 : a ≤ x) (h2 : x ≤ b) : v_X8_isOutside I J x a b = 0 := by
  rw [v_X8_isOutside, if_neg (Int32.not_lt.mpr h1), if_pos h2]
theorem rq_oI1 {I : sx_I} {J : sx_J} {x a b : Int32} (h : ¬ (a ≤ x ∧ x ≤ b)) : v_X8_isOutside I J x a b = 1 := by
  rw [v_X8_isOutside]
  by_cases c : x < a
  · rw [if_pos c]
  · rw [if_neg c, if_neg (fun q => h ⟨Int32.not_lt.mp c, q⟩)]
theorem rq_iI1 {I : sx_I} {J : sx_J} {x a b : Int32} {y z : Int64} (hy : y = a.toInt64) (hz : z = b.toInt64) (h1 : a ≤ x) (h2 : x ≤ b) : v_X9_in I J x.toInt64 y z = 1 := by
  rw [m_in x a b hy hz, if_neg (Int32.not_lt.mpr h1), if_neg (Int32.not_lt.mpr h2)]
theorem rq_iI0 {I : sx_I} {J : sx_J} {x a b : Int32} {y z : Int64} (hy : y = a.toInt64) (hz : z = b.toInt64) (h : ¬ (a ≤ x ∧ x ≤ b)) : v_X9_in I J x.toInt64 y z = 0 := by
  rw [m_in x a b hy hz]
  by_cases c : x < a
  · rw [if_pos c]
  · rw [if_neg c, if_pos (Int32.not_le.mp (fun q => h ⟨Int32.not_lt.mp c, q⟩))]
/-- a voyage as it is told, and the set that it leaves -/
def rq_vd (f : Nat → Int32) (e k : Nat) : Prop := (0 ≤ f (2 * k) ∧ f (2 * k) ≤ nI e) ∧ (0 ≤ f (2 * k + 1) ∧ f (2 * k + 1) ≤ 1)
def rq_tm (e : Nat) (f : Nat → Int32) (k : Nat) : Nat := if f (2 * k + 1) = 1 then (f (2 * k)).toNatClampNeg else e - (f (2 * k)).toNatClampNeg
theorem rq_vd.of {f : Nat → Int32} {e k : Nat} (he : e < 64) (h : rq_vd f e k) : ∃ a, a ≤ e ∧ f (2 * k) = nI a ∧ (f (2 * k + 1) = 1 ∧ rq_tm e f k = a ∨ ¬ f (2 * k + 1) = 1 ∧ rq_tm e f k = e - a) := by
  obtain ⟨a, ha, e1⟩ := nI_of2 (n := e) (nI_toInt (by omega)) (Int32.not_lt.mpr h.1.1) h.1.2
  have e2 : (f (2 * k)).toNatClampNeg = a := by rw [e1, nI_clamp (by omega)]
  refine ⟨a, ha, e1, ?_⟩
  unfold rq_tm
  rw [e2]
  by_cases c : f (2 * k + 1) = 1
  · exact Or.inl ⟨c, if_pos c⟩
  · exact Or.inr ⟨c, if_neg c⟩
