/-! what the reference's small methods answer, over what is meant -/
def rq_Qi (I : sx_I) (s : Nat → Nat) : Prop := ∀ k, k < 32 → I 16 3 k = nI (s k)
def rq_Lj (J : sx_J) (b : Nat) (L : Nat → Nat) : Prop := ∀ p, p < 6 → J 17 b p = lN (L p)
theorem m_in {I : sx_I} {J : sx_J} (x a b : Int32) {y z : Int64} (hy : y = a.toInt64) (hz : z = b.toInt64) : v_X9_in I J x.toInt64 y z = if x < a then 0 else if b < x then 0 else 1 := by
  subst hy; subst hz
  have e : ∀ u v : Int32, (u.toInt64 < v.toInt64) ↔ u < v := fun u v => by rw [Int64.lt_iff_toInt_lt, Int32.lt_iff_toInt_lt, Int32.toInt_toInt64, Int32.toInt_toInt64]
  simp only [v_X9_in, e]
section RQM
variable {I : sx_I} {J : sx_J} {s L : Nat → Nat} {A D : Nat}
theorem m_isThere (hQ : rq_Qi I s) (hn : s 0 ≤ 6) : v_X9_isThere I J = if s 0 = 0 then 0 else 1 := by
  rw [v_X9_isThere, hQ 0 (by omega)]
  by_cases h0 : s 0 = 0
  · rw [h0, if_pos rfl]; rfl
  · rw [if_neg h0, if_neg (nI_nle (by omega) (by omega))]
theorem m_isPerson (hQ : rq_Qi I s) (hn : s 0 ≤ 6) {p : Nat} (hp : p < s 0) : v_X9_isPerson I J (nI p) = 1 := by
  rw [v_X9_isPerson, hQ 0 (by omega), m_in (y := (0 : Int64)) (nI p) 0 (nI (s 0) - 1) (by decide) rfl, if_neg (nI_pos (by omega)), show (1 : Int32) = nI 1 from rfl, pk_sub (by omega), if_neg (nI_nlt (by omega) (by omega))]
theorem m_isntPerson (hQ : rq_Qi I s) (hn : s 0 ≤ 6) {x : Int32} (hx : x < 0 ∨ nI (s 0) ≤ x) : v_X9_isPerson I J x = 0 := by
  rw [v_X9_isPerson, hQ 0 (by omega), m_in (y := (0 : Int64)) x 0 (nI (s 0) - 1) (by decide) rfl]
  rcases hx with h1 | h1
  · rw [if_pos h1]
  · have e : nI (s 0) - 1 < x := by
      rw [Int32.le_iff_toInt_le, nI_toInt (by omega)] at h1
      rw [Int32.lt_iff_toInt_lt, show (1 : Int32) = nI 1 from rfl, pk_sub_toInt (by omega) (by omega)]
      omega
    rw [if_pos e, ite_self]
theorem rq_idx (p w : Nat) : ((8 : Int32) + (4 : Int32) * nI p) + nI w = nI (8 + 4 * p + w) := by
  rw [show (8 : Int32) = nI 8 from rfl, show (4 : Int32) = nI 4 from rfl, pk_mul, nI_add, nI_add]
theorem m_of (hQ : rq_Qi I s) {p w : Nat} (hp : p < 6) (hw : w < 4) : v_X9_of I J (nI p) (nI w) = nI (s (8 + 4 * p + w)) := by
  rw [v_X9_of, rq_idx, nI_clamp (by omega), hQ _ (by omega)]
theorem m_of0 (hQ : rq_Qi I s) {p : Nat} (hp : p < 6) : v_X9_of I J (nI p) 0 = nI (s (8 + 4 * p)) := m_of (w := 0) hQ hp (by omega)
theorem m_of1 (hQ : rq_Qi I s) {p : Nat} (hp : p < 6) : v_X9_of I J (nI p) 1 = nI (s (9 + 4 * p)) := by
  have e := m_of (w := 1) (J := J) hQ hp (by omega)
  rw [show 8 + 4 * p + 1 = 9 + 4 * p by omega] at e; exact e
theorem m_of2 (hQ : rq_Qi I s) {p : Nat} (hp : p < 6) : v_X9_of I J (nI p) 2 = nI (s (10 + 4 * p)) := by
  have e := m_of (w := 2) (J := J) hQ hp (by omega)
  rw [show 8 + 4 * p + 2 = 10 + 4 * p by omega] at e; exact e
theorem m_ofin {p w : Nat} (hp : p < 6) (hw : w < 4) : sx_in (((8 : Int32) + (4 : Int32) * nI p) + nI w) 32 = true := by
  rw [rq_idx]; exact sx_in_nI (by omega) (by omega)
theorem m_sinks (hQ : rq_Qi I s) : v_X9_sinksBehind I J = nI (s 2 + s 7) := by
  rw [v_X9_sinksBehind, hQ 2 (by omega), hQ 7 (by omega), nI_add]
theorem rq_add {f : Nat → Bool} {k : Nat} (hk : k < 6) : nI (rq_S f k) ||| (if f k = true then (1 : Int32) <<< (nI k &&& 31) else 0) = nI (rq_S f (k + 1)) := by
  have hl := rq_S_lt f k
  rw [rq_S]
  split
  · rw [rq_or _ (rq_64 hl (by omega)) k hk, rq_on, if_neg (by rw [rq_b_lt hl]; decide)]
  · rw [Int32.or_zero, Nat.add_zero]
theorem m_aboard (hQ : rq_Qi I s) (hn : s 0 ≤ 6) (hB : ∀ p, p < s 0 → s (10 + 4 * p) ≤ 1) : v_X9_aboard I J = nI (rq_A s) := by
  rw [v_X9_aboard, hQ 0 (by omega), nI_clamp (by omega)]
  have key : ∀ m k : Nat, k + m = s 0 → lp_ab (fun k => I 16 3 (8 + 4 * k + 2)) m k (nI (rq_S (fun p => s (10 + 4 * p) == 1) k)) = nI (rq_A s) := by
    intro m
    induction m with
    | zero => intro k hk; rw [lp_ab, rq_A, ← hk, Nat.add_zero]
    | succ m ih =>
      intro k hk
      rw [lp_ab]
      have e : (if I 16 3 (8 + 4 * k + 2) = 1 then (1 : Int32) <<< (nI k &&& 31) else 0) = (if (fun p => s (10 + 4 * p) == 1) k = true then (1 : Int32) <<< (nI k &&& 31) else 0) := by
        rw [show 8 + 4 * k + 2 = 10 + 4 * k by omega, hQ _ (by omega)]
        have hb := hB k (by omega)
        have e1 : nI (s (10 + 4 * k)) = 1 ↔ s (10 + 4 * k) = 1 := by rw [show (1 : Int32) = nI 1 from rfl, nI_eq (by omega) (by omega)]
        simp only [e1, beq_iff_eq]
      rw [e, rq_add (f := fun p => s (10 + 4 * p) == 1) (by omega)]
      exact ih (k + 1) (by omega)
  exact key (s 0) 0 (by omega)
theorem m_drawing (hQ : rq_Qi I s) (hn : s 0 ≤ 6) (hK : ∀ p, p < s 0 → s (8 + 4 * p) ≤ 5 ∧ s (11 + 4 * p) ≤ 1) (hA : A < 64) : v_X9_drawing I J (nI A) = nI (rq_Dr s A) := by
  rw [v_X9_drawing, hQ 0 (by omega), nI_clamp (by omega)]
  have key : ∀ m k : Nat, k + m = s 0 → lp_dr (nI A) (fun k => I 16 3 (8 + 4 * k)) (fun k => I 16 3 (8 + 4 * k + 3)) m k (nI (rq_S (fun p => rq_b A p == 1 && (decide (s (8 + 4 * p) < 4) || s (11 + 4 * p) == 1)) k)) = nI (rq_Dr s A) := by
    intro m
    induction m with
    | zero => intro k hk; rw [lp_dr, rq_Dr, ← hk, Nat.add_zero]
    | succ m ih =>
      intro k hk
      rw [lp_dr]
      have e : (if (nI A >>> (nI k &&& 31)) &&& 1 = 1 then (if I 16 3 (8 + 4 * k) < 4 then (1 : Int32) <<< (nI k &&& 31) else if I 16 3 (8 + 4 * k + 3) = 1 then (1 : Int32) <<< (nI k &&& 31) else 0) else 0) = (if (fun p => rq_b A p == 1 && (decide (s (8 + 4 * p) < 4) || s (11 + 4 * p) == 1)) k = true then (1 : Int32) <<< (nI k &&& 31) else 0) := by
        rw [show 8 + 4 * k + 3 = 11 + 4 * k by omega, hQ _ (by omega), hQ _ (by omega), rq_shr A hA k (by omega)]
        have hb := hK k (by omega)
        have e1 : nI (s (11 + 4 * k)) = 1 ↔ s (11 + 4 * k) = 1 := by rw [show (1 : Int32) = nI 1 from rfl, nI_eq (by omega) (by omega)]
        have e2 : nI (s (8 + 4 * k)) < 4 ↔ s (8 + 4 * k) < 4 := by rw [show (4 : Int32) = nI 4 from rfl, nI_ltI (by omega) (by omega)]
        have e3 : nI (rq_b A k) = 1 ↔ rq_b A k = 1 := by rw [show (1 : Int32) = nI 1 from rfl, nI_eq (by have := rq_b01 A k; omega) (by omega)]
        simp only [e1, e2, e3]
        by_cases c1 : rq_b A k = 1
        · by_cases c2 : s (8 + 4 * k) < 4
          · simp [c1, c2]
          · by_cases c3 : s (11 + 4 * k) = 1
            · simp [c1, c3]
            · simp [c1, c2, c3]
        · simp [c1]
      rw [e, rq_add (f := fun p => rq_b A p == 1 && (decide (s (8 + 4 * p) < 4) || s (11 + 4 * p) == 1)) (by omega)]
      exact ih (k + 1) (by omega)
  exact key (s 0) 0 (by omega)
theorem m_has (hA : A < 64) {p : Nat} (hp : p < 6) : v_X9_has I J (nI A) (nI p) = nI (rq_b A p) := by
  rw [v_X9_has, rq_shr A hA p hp, rq_if01 _ (rq_b01 A p)]
theorem m_truthOf (hQ : rq_Qi I s) (h1 : s 1 ≤ 10) {p : Nat} (hp : p < 6) (hk : s (8 + 4 * p) ≤ 5) : v_X9_truthOf I J (nI p) = nI (rq_T s p) := by
  rw [v_X9_truthOf, m_of0 hQ hp, hQ 1 (by omega), rq_T]
  have e2 : nI (s (8 + 4 * p)) = 2 ↔ s (8 + 4 * p) = 2 := by rw [show (2 : Int32) = nI 2 from rfl, nI_eq (by omega) (by omega)]
  have e3 : nI (s (8 + 4 * p)) = 3 ↔ s (8 + 4 * p) = 3 := by rw [show (3 : Int32) = nI 3 from rfl, nI_eq (by omega) (by omega)]
  by_cases k2 : s (8 + 4 * p) = 2
  · rw [if_pos (e2.mpr k2), if_pos k2, show (2 : Int32) = nI 2 from rfl, pk_div (by omega) (by omega) (by omega)]
  · rw [if_neg (fun q => k2 (e2.mp q)), if_neg k2]
    by_cases k3 : s (8 + 4 * p) = 3
    · rw [if_pos (e3.mpr k3), if_pos k3]
      by_cases k0 : s 1 = 0
      · rw [k0]; rfl
      · rw [if_neg (nI_nle (by omega) (by omega)), show (1 : Int32) = nI 1 from rfl, pk_sub (by omega)]
    · rw [if_neg (fun q => k3 (e3.mp q)), if_neg k3]
theorem m_speaks (hQ : rq_Qi I s) (h1 : s 1 ≤ 10) (hD : D < 64) {p nm : Nat} (hp : p < 6) (hnm : nm < 6) (hk : s (8 + 4 * p) ≤ 5) : v_X9_speaks I J (nI D) (nI nm) (nI p) = nI (rq_F s D nm p) := by
  rw [v_X9_speaks, m_has hD hp, rq_bits hD, m_truthOf hQ h1 hp hk, rq_F]
  have ht := rq_T_le h1 p
  have hpc := rq_pc_le D
  have h3 : rq_pc D * rq_T s p ≤ 6 * rq_T s p := Nat.mul_le_mul_right _ hpc
  rcases rq_b01 D p with e | e
  · rw [e, if_pos nI_0, if_neg (show ¬ (0 : Nat) = 1 by decide), Int32.mul_zero]; split <;> rfl
  · rw [e, if_neg (show ¬ nI 1 = 0 by decide), if_pos (rfl : (1 : Nat) = 1)]
    by_cases hq : p = nm
    · rw [if_pos hq, if_pos (by rw [hq]), pk_mul, show (10 : Int32) = nI 10 from rfl, nI_add, pk_sub (by omega)]
    · rw [if_neg hq, if_neg (fun q => hq ((nI_eq (by omega) (by omega)).mp q)), show (10 : Int32) = nI 10 from rfl, pk_sub (by omega)]
theorem m_allOf {b : Nat} (hJ : rq_Lj J b L) : v_X9_allOf I J b = lN (rq_sum L) := rq_lpsum (n := 6) (by omega) hJ (fun p h1 h2 => by omega)
theorem m_byLot (hQ : rq_Qi I s) (hn : s 0 ≤ 6) (h1 : s 1 ≤ 10) (hK : ∀ p, p < s 0 → s (8 + 4 * p) ≤ 5) (hD : D < 64) {nm r1 r2 : Nat} (hnm : nm < 6) (hJ : rq_Lj J r1 L) (h0 : ∀ p, s 0 ≤ p → p < 6 → L p = 0) : rq_Lj (j_X9_byLot I J r1 r2 (nI D) (nI nm)) r2 (rq_lot s D nm L) := by
  intro p hp
  rw [j_X9_byLot, if_pos ⟨rfl, rfl, hp⟩, hQ 0 (by omega), nI_clamp (by omega), rq_lot]
  by_cases hp0 : p < s 0
  · have hF := rq_F_le h1 D nm p
    rw [if_pos hp0, hJ p hp, m_speaks hQ h1 hD hp hnm (hK p hp0), nI_l (by omega), lN_mul]
  · rw [if_neg hp0, h0 p (by omega) hp, Nat.zero_mul]; rfl
theorem m_byLot_ne {r1 r2 x y z : Nat} {x3 x4 : Int32} (h : ¬ (x = 17 ∧ y = r2)) : j_X9_byLot I J r1 r2 x3 x4 x y z = J x y z := if_neg (fun q => h ⟨q.1, q.2.1⟩)
theorem rq_oIn {b : Option Nat} (hb : ∀ q, b = some q → q < 6) : rq_oI b = Int32.ofInt (-1000000) ↔ b = none := by
  cases b with
  | none => exact ⟨fun _ => rfl, fun _ => rfl⟩
  | some q =>
    refine ⟨fun z => ?_, fun z => nomatch z⟩
    have h1 := congrArg Int32.toInt z
    have hq := hb q rfl
    rw [rq_oI, nI_toInt (by omega)] at h1
    have h2 : (Int32.ofInt (-1000000)).toInt = -1000000 := by decide
    omega
theorem m_likeliest {b : Nat} (hJ : rq_Lj J b L) (hA : A < 64) (hL : ∀ p, p < 6 → L p < 2 ^ 63) : v_X9_likeliestOf I J b (nI A) = rq_oI (rq_B A L) := by
  have key : ∀ (m k : Nat) (o : Option Nat), k + m = 6 → (∀ q, o = some q → q < 6) → lp_lik I J b (nI A) m k (rq_oI o) = rq_oI (rq_Bk A L m k o) := by
    intro m
    induction m with
    | zero => intro k o _ _; rfl
    | succ m ih =>
      intro k o hk ho
      rw [lp_lik, rq_Bk, m_has hA (by omega)]
      rcases rq_b01 A k with e | e
      · rw [e, if_pos nI_0, if_neg (show ¬ (0 : Nat) = 1 by decide)]
        exact ih (k + 1) o (by omega) ho
      · rw [e, if_neg (show ¬ nI 1 = 0 by decide), if_pos (rfl : (1 : Nat) = 1)]
        cases o with
        | none => exact ih (k + 1) (some k) (by omega) (fun q hq => by cases hq; omega)
        | some q =>
          have hq := ho q rfl
          rw [if_neg (fun z => nomatch (rq_oIn ho).mp z), show rq_oI (some q) = nI q from rfl, nI_clamp (by omega), hJ k (by omega), hJ q hq, rq_bs]
          by_cases hc : L q < L k
          · rw [if_pos hc, if_neg (fun z => absurd ((pk_lLE (hL k (by omega)) (hL q hq)).mp z) (by omega))]
            exact ih (k + 1) (some k) (by omega) (fun q hq => by cases hq; omega)
          · rw [if_neg hc, if_pos ((pk_lLE (hL k (by omega)) (hL q hq)).mpr (by omega))]
            exact ih (k + 1) (some q) (by omega) ho
  exact key 6 0 none rfl (fun q hq => nomatch hq)
end RQM
/-- what the likeliest is -/
theorem rq_Bk_spec (A : Nat) (L : Nat → Nat) : ∀ (m k : Nat) (o : Option Nat), (∀ q, o = some q → q < k ∧ rq_b A q = 1) → (∀ q, q < k → rq_b A q = 1 → ∃ z, o = some z ∧ L q ≤ L z) → (∀ q, rq_Bk A L m k o = some q → q < k + m ∧ rq_b A q = 1) ∧ (∀ q, q < k + m → rq_b A q = 1 → ∃ z, rq_Bk A L m k o = some z ∧ L q ≤ L z)
  | 0, k, o, h1, h2 => ⟨h1, h2⟩
  | m + 1, k, o, h1, h2 => by
    rw [rq_Bk]
    have key : (∀ q, (if rq_b A k = 1 then rq_bs L o k else o) = some q → q < k + 1 ∧ rq_b A q = 1) ∧ (∀ q, q < k + 1 → rq_b A q = 1 → ∃ z, (if rq_b A k = 1 then rq_bs L o k else o) = some z ∧ L q ≤ L z) := by
      rcases rq_b01 A k with e | e
      · rw [if_neg (show ¬ rq_b A k = 1 by omega)]
        refine ⟨fun q hq => ?_, fun q hq hb => ?_⟩
        · have := h1 q hq; exact ⟨by omega, this.2⟩
        · have hne : q ≠ k := fun z => by rw [z] at hb; omega
          exact h2 q (by omega) hb
      · rw [if_pos e]
        cases o with
        | none =>
          refine ⟨fun q hq => ?_, fun q hq hb => ?_⟩
          · cases hq; exact ⟨by omega, e⟩
          · by_cases hne : q = k
            · exact ⟨k, rfl, by rw [hne]; exact Nat.le_refl _⟩
            · obtain ⟨z, hz, _⟩ := h2 q (by omega) hb; exact nomatch hz
        | some y =>
          have hy := h1 y rfl
          rw [rq_bs]
          by_cases hc : L y < L k
          · rw [if_pos hc]
            refine ⟨fun q hq => ?_, fun q hq hb => ?_⟩
            · cases hq; exact ⟨by omega, e⟩
            · by_cases hne : q = k
              · exact ⟨k, rfl, by rw [hne]; exact Nat.le_refl _⟩
              · obtain ⟨z, hz, hz2⟩ := h2 q (by omega) hb
                cases hz
                exact ⟨k, rfl, by omega⟩
          · rw [if_neg hc]
            refine ⟨fun q hq => ?_, fun q hq hb => ?_⟩
            · cases hq; exact ⟨by omega, hy.2⟩
            · by_cases hne : q = k
              · exact ⟨y, rfl, by rw [hne]; omega⟩
              · obtain ⟨z, hz, hz2⟩ := h2 q (by omega) hb
                exact ⟨z, hz, hz2⟩
    have ih := rq_Bk_spec A L m (k + 1) _ key.1 key.2
    rw [show k + (m + 1) = k + 1 + m by omega]
    exact ih
theorem rq_B_some {A q : Nat} {L : Nat → Nat} (h : rq_B A L = some q) : q < 6 ∧ rq_b A q = 1 := (rq_Bk_spec A L 6 0 none (fun q hq => nomatch hq) (fun q hq => by omega)).1 q h
theorem rq_B_max {A q : Nat} {L : Nat → Nat} (hq : q < 6) (h : rq_b A q = 1) : ∃ z, rq_B A L = some z ∧ L q ≤ L z := (rq_Bk_spec A L 6 0 none (fun q hq => nomatch hq) (fun q hq => by omega)).2 q (by omega) h
