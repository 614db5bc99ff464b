/-! what the class's small methods answer, over what is meant -/
theorem rq_per (x : Int32) {n : Nat} (hn : n ≤ 6) : (∃ p, p < n ∧ x = nI p) ∨ (x < 0 ∨ nI n ≤ x) := by
  rcases pk_ix x (n := n) (by omega) with h | h | ⟨j, h, h1⟩
  · exact Or.inr (Or.inl h)
  · exact Or.inr (Or.inr h)
  · exact Or.inl ⟨j, h, h1⟩
theorem rq_nI0 {n : Nat} (h : n < 2 ^ 31) : nI n = 0 ↔ n = 0 := by
  rw [show (0 : Int32) = nI 0 from nI_0.symm, nI_eq h (by omega)]
theorem rq_if01 (b : Nat) (h : b = 0 ∨ b = 1) : (if nI b = (1 : Int32) then (1 : Int32) else 0) = nI b := by
  rcases h with rfl | rfl <;> decide
section RQC
variable {I : sx_I} {J : sx_J} {r : Nat} {s L : Nat → Nat} {h l A D : Nat} {st : Int32}
theorem c_isShip (hR : rq_R I J r s h l A D st L) (hn : s 0 ≤ 6) : v_X5_isShip I J r = if s 0 = 0 then 0 else 1 := by
  rw [v_X5_isShip, hR.1]
  by_cases h0 : s 0 = 0
  · rw [h0, if_pos rfl]; rfl
  · rw [if_neg h0, if_neg (nI_nle (by omega) (by omega))]
theorem c_has (hR : rq_R I J r s h l A D st L) (hn : s 0 ≤ 6) {p : Nat} (hp : p < s 0) : v_X5_has I J r (nI p) = 1 := by
  rw [v_X5_has, hR.1, if_neg (nI_pos (by omega)), if_neg (nI_ge hp (by omega)), if_neg (show ¬ (6 : Int32) ≤ nI p from nI_ge (b := 6) (by omega) (by omega))]
theorem c_hasnt (hR : rq_R I J r s h l A D st L) {x : Int32} (hx : x < 0 ∨ nI (s 0) ≤ x) : v_X5_has I J r x = 0 := by
  rw [v_X5_has, hR.1]
  rcases hx with h1 | h1
  · rw [if_pos h1]
  · rw [if_pos h1, ite_self]
theorem c_isAboard (hR : rq_R I J r s h l A D st L) (hn : s 0 ≤ 6) (hA : A < 2 ^ s 0) {p : Nat} (hp : p < 6) : v_X5_isAboard I J r (nI p) = nI (rq_b A p) := by
  rw [v_X5_isAboard]
  by_cases h1 : p < s 0
  · rw [c_has hR hn h1, if_neg (by decide), hR.2.2.2.2.2.2.2.1, rq_shr A (rq_64 hA hn) p hp, rq_if01 _ (rq_b01 A p)]
  · have h2 : rq_b A p = 0 := rq_b_lt (Nat.lt_of_lt_of_le hA (Nat.pow_le_pow_right (by decide) (by omega)))
    rw [c_hasnt hR (Or.inr (nI_le (by omega) (by omega))), if_pos rfl, h2]; rfl
theorem c_isDrawing (hR : rq_R I J r s h l A D st L) (hn : s 0 ≤ 6) (hD : D < 2 ^ s 0) {p : Nat} (hp : p < 6) : v_X5_isDrawing I J r (nI p) = nI (rq_b D p) := by
  rw [v_X5_isDrawing, if_neg (nI_pos (by omega)), if_neg (show ¬ (6 : Int32) ≤ nI p from nI_ge (b := 6) (by omega) (by omega)), hR.2.2.2.2.2.2.2.2.1, rq_shr D (rq_64 hD hn) p hp, rq_if01 _ (rq_b01 D p)]
theorem c_drawers (hR : rq_R I J r s h l A D st L) (hD : D < 64) : v_X5_drawers I J r = nI (rq_pc D) := by
  rw [v_X5_drawers, hR.2.2.2.2.2.2.2.2.1, rq_bc hD]
theorem c_truthOfKind (hR : rq_R I J r s h l A D st L) (h1 : s 1 ≤ 10) {p : Nat} (hk : s (8 + 4 * p) ≤ 5) : v_X5_truthOfKind I J r (nI (s (8 + 4 * p))) = nI (rq_T s p) := by
  rw [v_X5_truthOfKind, hR.2.1, rq_T]
  have e2 : nI (s (8 + 4 * p)) = 2 ↔ s (8 + 4 * p) = 2 := by rw [show (2 : Int32) = nI 2 from rfl, nI_eq (by omega) (by omega)]
  have e3 : nI (s (8 + 4 * p)) = 3 ↔ s (8 + 4 * p) = 3 := by rw [show (3 : Int32) = nI 3 from rfl, nI_eq (by omega) (by omega)]
  by_cases k2 : s (8 + 4 * p) = 2
  · rw [if_pos (e2.mpr k2), if_pos k2, show (2 : Int32) = nI 2 from rfl, pk_div (by omega) (by omega) (by omega)]
  · rw [if_neg (fun q => k2 (e2.mp q)), if_neg k2]
    by_cases k3 : s (8 + 4 * p) = 3
    · rw [if_pos (e3.mpr k3), if_pos k3]
      by_cases k0 : s 1 = 0
      · rw [k0]; rfl
      · rw [if_neg (nI_nle (by omega) (by omega)), show (1 : Int32) = nI 1 from rfl, pk_sub (by omega)]
    · rw [if_neg (fun q => k3 (e3.mp q)), if_neg k3]
theorem c_truthOf (hR : rq_R I J r s h l A D st L) (hn : s 0 ≤ 6) (hD : D < 2 ^ s 0) (h1 : s 1 ≤ 10) {p : Nat} (hp : p < s 0) (hk : s (8 + 4 * p) ≤ 5) : v_X5_truthOf I J r (nI p) = nI (rq_b D p * rq_T s p) := by
  rw [v_X5_truthOf, c_isDrawing hR hn hD (by omega)]
  rcases rq_b01 D p with e | e
  · rw [e, Nat.zero_mul, if_pos nI_0]; rfl
  · rw [e, Nat.one_mul, if_neg (by decide), nI_clamp (by omega), (hR.2.2.2.2.2.2.2.2.2.2 p hp).1, c_truthOfKind hR h1 hk]
theorem c_lastHour (hR : rq_R I J r s h l A D st L) : v_X5_lastHour I J r = nI (s 2 + s 7) := by
  rw [v_X5_lastHour, hR.2.2.1, hR.2.2.2.2.2.2.1, nI_add]
theorem c_isInStorm (hR : rq_R I J r s h l A D st L) (hn : s 0 ≤ 6) (h2 : s 2 ≤ 20) (h7 : s 7 ≤ 3) (hh : h < 2 ^ 31) : v_X5_isInStorm I J r = if 0 < s 0 ∧ st = 0 ∧ h < s 2 + s 7 then 1 else 0 := by
  rw [v_X5_isInStorm, c_isShip hR hn, c_lastHour hR, hR.2.2.2.2.1, hR.2.2.2.2.2.2.2.2.2.1]
  by_cases h0 : s 0 = 0
  · rw [if_pos h0, if_pos rfl, if_neg (by omega)]
  · rw [if_neg h0, if_neg (by decide)]
    by_cases hs : st = 0
    · rw [if_pos hs]
      by_cases hl : h < s 2 + s 7
      · rw [if_neg (nI_ge hl (by omega)), if_pos ⟨by omega, hs, hl⟩]
      · rw [if_pos (nI_le (by omega) (by omega)), if_neg (fun q => hl q.2.2)]
    · rw [if_neg hs, if_neg (fun q => hs q.2.1)]
theorem rq_nIl {a b : Nat} (h : a = b) (hb : b < 2 ^ 31) : (nI a).toInt64 = lN b := by rw [h, nI_l hb]
theorem c_lotFactor (hR : rq_R I J r s h l A D st L) (hn : s 0 ≤ 6) (hD : D < 2 ^ s 0) (h1 : s 1 ≤ 10) {p nm : Nat} (hp : p < s 0) (hnm : nm < 6) (hk : s (8 + 4 * p) ≤ 5) : v_X5_lotFactor I J r (nI p) (nI nm) (v_X5_drawers I J r) = lN (rq_F s D nm p) := by
  rw [v_X5_lotFactor, c_drawers hR (rq_64 hD hn), c_isDrawing hR hn hD (by omega), nI_clamp (by omega), (hR.2.2.2.2.2.2.2.2.2.2 p hp).1, c_truthOfKind hR h1 hk, rq_F]
  have ht := rq_T_le h1 p
  have hpc := rq_pc_le D
  have h3 : rq_pc D * rq_T s p ≤ 6 * rq_T s p := Nat.mul_le_mul_right _ hpc
  rcases rq_b01 D p with e | e
  · rw [e, if_pos nI_0, if_neg (show ¬ (0 : Nat) = 1 by decide)]; rfl
  · rw [e, if_neg (by decide), if_pos rfl]
    by_cases hq : p = nm
    · rw [if_pos hq, if_pos (by rw [hq]), pk_mul, show (10 : Int32) = nI 10 from rfl, nI_add, pk_sub (by omega), nI_l (by omega)]
    · rw [if_neg hq, if_neg (fun q => hq ((nI_eq (by omega) (by omega)).mp q)), show (10 : Int32) = nI 10 from rfl, pk_sub (by omega), nI_l (by omega)]
/-- sums over the people that there are -/
theorem rq_lpsum {F : Nat → Int64} {L : Nat → Nat} {n : Nat} (hn : n ≤ 6) (hF : ∀ p, p < n → F p = lN (L p)) (h0 : ∀ p, n ≤ p → p < 6 → L p = 0) : lp_sum F n 0 0 = lN (rq_sum L) := by
  have e : n = 0 ∨ n = 1 ∨ n = 2 ∨ n = 3 ∨ n = 4 ∨ n = 5 ∨ n = 6 := by omega
  have hz : ∀ p, p < 6 → n ≤ p → L p = 0 := fun p a b => h0 p b a
  rcases e with rfl | rfl | rfl | rfl | rfl | rfl | rfl <;> simp [lp_sum, hF, hz, rq_sum, lN_add] <;> rfl
theorem c_all (hR : rq_R I J r s h l A D st L) (hn : s 0 ≤ 6) (h0 : ∀ p, s 0 ≤ p → p < 6 → L p = 0) : v_X5_all I J r = lN (rq_sum L) := by
  rw [v_X5_all, hR.1, nI_clamp (by omega)]
  exact rq_lpsum hn (fun p hp => (hR.2.2.2.2.2.2.2.2.2.2 p hp).2.2) h0
theorem rq_dot (L F : Nat → Int64) : ∀ (m k : Nat) (y : Int64), lp_dot L F m k y = lp_sum (fun p => L p * F p) m k y
  | 0, _, _ => rfl
  | m + 1, k, y => by rw [lp_dot, lp_sum, rq_dot L F m]
theorem c_allIfNamed (hR : rq_R I J r s h l A D st L) (hn : s 0 ≤ 6) (hD : D < 2 ^ s 0) (h1 : s 1 ≤ 10) (hK : ∀ p, p < s 0 → s (8 + 4 * p) ≤ 5) (h0 : ∀ p, s 0 ≤ p → p < 6 → L p = 0) {nm : Nat} (hnm : nm < 6) : v_X5_allIfNamed I J r (nI nm) = lN (rq_sum (rq_lot s D nm L)) := by
  rw [v_X5_allIfNamed, hR.1, nI_clamp (by omega), rq_dot]
  refine rq_lpsum hn (fun p hp => ?_) (fun p hp hp6 => by rw [rq_lot, h0 p hp hp6, Nat.zero_mul])
  rw [(hR.2.2.2.2.2.2.2.2.2.2 p hp).2.2, c_lotFactor hR hn hD h1 hp hnm (hK p hp), lN_mul]; rfl
theorem rq_Bk_z (A : Nat) (L : Nat → Nat) : ∀ (m k : Nat) (b : Option Nat), (∀ p, k ≤ p → p < k + m → rq_b A p = 0) → rq_Bk A L m k b = b
  | 0, _, _, _ => rfl
  | m + 1, k, b, hz => by
    rw [rq_Bk, if_neg (by rw [hz k (by omega) (by omega)]; decide)]
    exact rq_Bk_z A L m (k + 1) b (fun p h1 h2 => hz p (by omega) (by omega))
theorem rq_Bk_add (A : Nat) (L : Nat → Nat) : ∀ (m j k : Nat) (b : Option Nat), rq_Bk A L (m + j) k b = rq_Bk A L j (k + m) (rq_Bk A L m k b)
  | 0, j, k, b => by rw [Nat.zero_add]; rfl
  | m + 1, j, k, b => by
    rw [show m + 1 + j = (m + j) + 1 by omega, rq_Bk, rq_Bk_add A L m j (k + 1), rq_Bk, show k + 1 + m = k + (m + 1) by omega]
theorem rq_B_n {A n : Nat} {L : Nat → Nat} (hn : n ≤ 6) (hA : A < 2 ^ n) : rq_B A L = rq_Bk A L n 0 none := by
  obtain ⟨j, hj⟩ : ∃ j, 6 = n + j := ⟨6 - n, by omega⟩
  rw [rq_B, hj, rq_Bk_add]
  exact rq_Bk_z A L j _ _ (fun p h1 h2 => rq_b_lt (Nat.lt_of_lt_of_le hA (Nat.pow_le_pow_right (by decide) (by omega))))
def rq_val (L : Nat → Nat) (b : Option Nat) : Nat := match b with
  | none => 0
  | some q => L q
theorem rq_like {W : Nat → Int32} {F : Nat → Int64} {A n : Nat} {L : Nat → Nat} (hW : ∀ p, p < n → W p = nI (rq_b A p)) (hF : ∀ p, p < n → F p = lN (L p)) (hL : ∀ p, p < n → L p < 2 ^ 63) : ∀ (m k : Nat) (b : Option Nat) (bi : Int32) (y : Int64), k + m = n → ((b = none ∧ bi = Int32.ofInt (-1000000) ∧ y = Int64.ofInt (-1)) ∨ (∃ q, q < n ∧ b = some q ∧ bi = nI q ∧ y = lN (L q))) → lp_like W F m k bi y = rq_oI (rq_Bk A L m k b) := by
  intro m
  induction m with
  | zero =>
    intro k b bi y _ hb
    rcases hb with ⟨rfl, rfl, rfl⟩ | ⟨q, _, rfl, rfl, rfl⟩ <;> rfl
  | succ m ih =>
    intro k b bi y hk hb
    rw [lp_like, rq_Bk, hW k (by omega), hF k (by omega)]
    rcases rq_b01 A k with e | e
    · rw [e, if_pos nI_0, if_neg (show ¬ (0 : Nat) = 1 by decide)]
      exact ih (k + 1) b bi y (by omega) hb
    · rw [e, if_neg (show ¬ nI 1 = 0 by decide), if_pos (rfl : (1 : Nat) = 1)]
      rcases hb with ⟨rfl, rfl, rfl⟩ | ⟨q, hq, rfl, rfl, rfl⟩
      · have hk2 := hL k (by omega)
        have e1 : ¬ lN (L k) ≤ Int64.ofInt (-1) := by
          rw [Int64.le_iff_toInt_le, pk_lT hk2]
          have : (Int64.ofInt (-1)).toInt = -1 := by decide
          omega
        rw [if_neg e1]
        exact ih (k + 1) _ _ _ (by omega) (Or.inr ⟨k, by omega, rfl, rfl, rfl⟩)
      · have hk2 := hL k (by omega)
        have hq2 := hL q hq
        by_cases hc : L q < L k
        · rw [if_neg (fun z => absurd ((pk_lLE hk2 hq2).mp z) (by omega))]
          simp only [rq_bs, if_pos hc]
          exact ih (k + 1) _ _ _ (by omega) (Or.inr ⟨k, by omega, rfl, rfl, rfl⟩)
        · rw [if_pos ((pk_lLE hk2 hq2).mpr (by omega))]
          simp only [rq_bs, if_neg hc]
          exact ih (k + 1) _ _ _ (by omega) (Or.inr ⟨q, hq, rfl, rfl, rfl⟩)
theorem c_likeliest (hR : rq_R I J r s h l A D st L) (hn : s 0 ≤ 6) (hA : A < 2 ^ s 0) (hL : ∀ p, p < 6 → L p < 2 ^ 63) : v_X5_likeliestAboard I J r = rq_oI (rq_B A L) := by
  rw [v_X5_likeliestAboard, hR.1, nI_clamp (by omega), rq_B_n hn hA]
  exact rq_like (fun p hp => c_isAboard hR hn hA (by omega)) (fun p hp => (hR.2.2.2.2.2.2.2.2.2.2 p hp).2.2) (fun p hp => hL p (by omega)) (s 0) 0 none _ _ (by omega) (Or.inl ⟨rfl, rfl, rfl⟩)
theorem rq_most {W : Nat → Int32} {F : Nat → Int64} {x : Int32} {A n : Nat} {L : Nat → Nat} (hW : ∀ p, p < n → ((nI p = x ∨ W p = 0) ↔ rq_b A p = 0)) (hF : ∀ p, p < n → F p = lN (L p)) (hL : ∀ p, p < n → L p < 2 ^ 63) : ∀ (m k : Nat) (b : Option Nat) (y : Int64), k + m = n → (∀ q, b = some q → q < n) → y = lN (rq_val L b) → lp_most W F x m k y = lN (rq_val L (rq_Bk A L m k b)) := by
  intro m
  induction m with
  | zero => intro k b y _ _ hy; exact hy
  | succ m ih =>
    intro k b y hk hb hy
    have hw := hW k (by omega)
    rw [lp_most, rq_Bk, hF k (by omega)]
    rcases rq_b01 A k with e | e
    · rw [if_neg (show ¬ rq_b A k = 1 by omega)]
      have h1 := ih (k + 1) b y (by omega) hb hy
      by_cases c1 : nI k = x
      · rw [if_pos c1]; exact h1
      · rw [if_neg c1, if_pos ((hw.mpr e).resolve_left c1)]; exact h1
    · have c1 : ¬ nI k = x := fun q => absurd (hw.mp (Or.inl q)) (by omega)
      have c2 : ¬ W k = 0 := fun q => absurd (hw.mp (Or.inr q)) (by omega)
      rw [if_neg c1, if_neg c2, if_pos e, hy]
      have hk2 := hL k (by omega)
      cases b with
      | none =>
        rw [if_neg (fun z => absurd ((pk_lLT hk2 (b := 0) (by omega)).mp z) (by omega) : ¬ lN (L k) < lN (rq_val L none))]
        exact ih (k + 1) _ _ (by omega) (fun q hq => by cases hq; omega) rfl
      | some q =>
        have hq := hb q rfl
        have hq2 := hL q hq
        show lp_most W F x m (k + 1) (if lN (L k) < lN (L q) then lN (L q) else lN (L k)) = lN (rq_val L (rq_Bk A L m (k + 1) (if L q < L k then some k else some q)))
        refine ih (k + 1) _ _ (by omega) (fun q' hq' => ?_) ?_
        · split at hq' <;> cases hq' <;> omega
        · by_cases hc : L q < L k
          · rw [if_pos hc, if_neg (fun z => absurd ((pk_lLT hk2 hq2).mp z) (by omega))]; rfl
          · rw [if_neg hc]
            by_cases hc2 : L k < L q
            · rw [if_pos ((pk_lLT hk2 hq2).mpr hc2)]; rfl
            · rw [if_neg (fun z => hc2 ((pk_lLT hk2 hq2).mp z)), show L k = L q by omega]; rfl
theorem c_most (hR : rq_R I J r s h l A D st L) (hn : s 0 ≤ 6) (hA : A < 2 ^ s 0) (hL : ∀ p, p < 6 → L p < 2 ^ 63) : v_X5_mostAboardBut I J r (Int32.ofInt (-1000000)) = lN (rq_M A L) := by
  rw [v_X5_mostAboardBut, hR.1, nI_clamp (by omega), rq_M, rq_B_n hn hA]
  refine (rq_most (A := A) (fun p hp => ?_) (fun p hp => (hR.2.2.2.2.2.2.2.2.2.2 p hp).2.2) (fun p hp => hL p (by omega)) (s 0) 0 none 0 (by omega) (fun q hq => nomatch hq) rfl).trans ?_
  · rw [c_isAboard hR hn hA (by omega), rq_nI0 (by have := rq_b01 A p; omega)]
    constructor
    · intro q
      refine q.resolve_left (fun z => ?_)
      have h1 := congrArg Int32.toInt z
      rw [nI_toInt (by omega)] at h1
      have h2 : (Int32.ofInt (-1000000)).toInt = -1000000 := by decide
      omega
    · exact Or.inr
  · rfl
theorem c_mostBut (hR : rq_R I J r s h l A D st L) (hn : s 0 ≤ 6) (hA : A < 2 ^ s 0) (hL : ∀ p, p < 6 → L p < 2 ^ 63) {x : Nat} (hx : x < 6) : v_X5_mostAboardBut I J r (nI x) = lN (rq_M (rq_of A x) L) := by
  rw [v_X5_mostAboardBut, hR.1, nI_clamp (by omega), rq_M, rq_B_n hn (rq_of_ltn hA)]
  refine (rq_most (A := rq_of A x) (fun p hp => ?_) (fun p hp => (hR.2.2.2.2.2.2.2.2.2.2 p hp).2.2) (fun p hp => hL p (by omega)) (s 0) 0 none 0 (by omega) (fun q hq => nomatch hq) rfl).trans ?_
  · rw [c_isAboard hR hn hA (by omega), rq_nI0 (by have := rq_b01 A p; omega), nI_eq (by omega) (by omega), rq_of_b A (rq_64 hA hn) x hx p (by omega)]
    by_cases c : p = x
    · rw [if_pos c]; exact ⟨fun _ => rfl, fun _ => Or.inl c⟩
    · rw [if_neg c]; exact ⟨fun q => q.resolve_left c, Or.inr⟩
  · rfl
end RQC
