/-! WHAT IS MEANT, without machines: a ship is 32 numbers s and likelihoods L; sets of people are numbers under 64 -/
def rq_b (A p : Nat) : Nat := A / 2 ^ p % 2
def rq_S (f : Nat → Bool) : Nat → Nat
  | 0 => 0
  | m + 1 => rq_S f m + (if f m = true then 2 ^ m else 0)
theorem rq_S_lt (f : Nat → Bool) : ∀ m : Nat, rq_S f m < 2 ^ m
  | 0 => Nat.zero_lt_one
  | m + 1 => by
    have h := rq_S_lt f m
    rw [rq_S, Nat.pow_succ]
    split <;> omega
theorem rq_b_lt {A p : Nat} (h : A < 2 ^ p) : rq_b A p = 0 := by
  rw [rq_b, Nat.div_eq_of_lt h]
theorem rq_b01 (A p : Nat) : rq_b A p = 0 ∨ rq_b A p = 1 := by
  rw [rq_b]; omega
theorem rq_S_b (f : Nat → Bool) : ∀ m p : Nat, rq_b (rq_S f m) p = if p < m ∧ f p = true then 1 else 0
  | 0, p => by
    rw [if_neg (by omega), rq_S, rq_b, Nat.zero_div]
  | m + 1, p => by
    have ih := rq_S_b f m p
    have hl := rq_S_lt f m
    rw [rq_S]
    by_cases hp : p < m
    · have e : (if p < m + 1 ∧ f p = true then 1 else 0) = (if p < m ∧ f p = true then 1 else 0) := by
        by_cases hf : f p = true
        · rw [if_pos ⟨by omega, hf⟩, if_pos ⟨hp, hf⟩]
        · rw [if_neg (fun q => hf q.2), if_neg (fun q => hf q.2)]
      rw [e, ← ih]
      split
      · obtain ⟨t, rfl⟩ : ∃ t, m = p + 1 + t := ⟨m - p - 1, by omega⟩
        rw [rq_b, rq_b, Nat.pow_add, Nat.pow_succ, Nat.mul_assoc, Nat.add_mul_div_left _ _ (Nat.two_pow_pos p), Nat.add_mul_mod_self_left]
      · rfl
    · by_cases h2 : p = m
      · subst h2
        by_cases hf : f p = true
        · rw [if_pos hf, if_pos ⟨by omega, hf⟩, rq_b, Nat.add_div_right _ (Nat.two_pow_pos p), Nat.div_eq_of_lt hl]
        · rw [if_neg hf, if_neg (fun q => hf q.2), rq_b, Nat.add_zero, Nat.div_eq_of_lt hl]
      · rw [if_neg (show ¬ (p < m + 1 ∧ f p = true) by omega)]
        refine rq_b_lt ?_
        have h3 : 2 ^ (m + 1) ≤ 2 ^ p := Nat.pow_le_pow_right (by decide) (by omega)
        rw [Nat.pow_succ] at h3
        split <;> omega
theorem rq_ext {A B : Nat} (hA : A < 64) (hB : B < 64) (h : ∀ p, p < 6 → rq_b A p = rq_b B p) : A = B := by
  have h0 := h 0 (by decide); have h1 := h 1 (by decide); have h2 := h 2 (by decide)
  have h3 := h 3 (by decide); have h4 := h 4 (by decide); have h5 := h 5 (by decide)
  simp only [rq_b, Nat.reducePow] at h0 h1 h2 h3 h4 h5
  omega
theorem rq_64 {A n : Nat} (h : A < 2 ^ n) (hn : n ≤ 6) : A < 64 := Nat.lt_of_lt_of_le h (Nat.pow_le_pow_right (n := 2) (by decide) hn)
def rq_pc (A : Nat) : Nat := rq_b A 0 + rq_b A 1 + rq_b A 2 + rq_b A 3 + rq_b A 4 + rq_b A 5
def rq_on (A p : Nat) : Nat := if rq_b A p = 1 then A else A + 2 ^ p
def rq_of (A p : Nat) : Nat := if rq_b A p = 1 then A - 2 ^ p else A
theorem rq_on_b : ∀ A, A < 64 → ∀ p, p < 6 → ∀ q, q < 6 → rq_b (rq_on A p) q = if q = p then 1 else rq_b A q := by decide +kernel
theorem rq_of_b : ∀ A, A < 64 → ∀ p, p < 6 → ∀ q, q < 6 → rq_b (rq_of A p) q = if q = p then 0 else rq_b A q := by decide +kernel
theorem rq_on_lt : ∀ A, A < 64 → ∀ p, p < 6 → rq_on A p < 64 := by decide +kernel
theorem rq_of_lt : ∀ A, A < 64 → ∀ p, p < 6 → rq_of A p < 64 := by decide +kernel
theorem rq_of_ltn {A p n : Nat} (h : A < 2 ^ n) : rq_of A p < 2 ^ n := by
  unfold rq_of; split
  · exact Nat.lt_of_le_of_lt (Nat.sub_le ..) h
  · exact h
theorem rq_on_ltn : ∀ n, n ≤ 6 → ∀ A, A < 2 ^ n → ∀ p, p < n → rq_on A p < 2 ^ n := by decide +kernel
theorem rq_shr : ∀ A, A < 64 → ∀ p, p < 6 → ((nI A >>> (nI p &&& 31)) &&& (1 : Int32)) = nI (rq_b A p) := by decide +kernel
theorem rq_or : ∀ A, A < 64 → ∀ p, p < 6 → (nI A ||| ((1 : Int32) <<< (nI p &&& 31))) = nI (rq_on A p) := by decide +kernel
theorem rq_and : ∀ A, A < 64 → ∀ p, p < 6 → (nI A &&& (((1 : Int32) <<< (nI p &&& 31)) ^^^ (Int32.ofInt (-1)))) = nI (rq_of A p) := by decide +kernel
theorem rq_bits0 : ∀ A, A < 64 → lp_bits (nI A) 6 0 0 = nI (rq_pc A) := by decide +kernel
theorem rq_bits {I : sx_I} {J : sx_J} {A : Nat} (h : A < 64) : v_X9_bits I J (nI A) = nI (rq_pc A) := rq_bits0 A h
theorem rq_bc0 : ∀ A, A < 64 → v_J6_bitCount_0f7a4 (fun _ _ _ => 0) (fun _ _ _ => 0) (nI A) = nI (rq_pc A) := by decide +kernel
theorem rq_bc {I : sx_I} {J : sx_J} {A : Nat} (h : A < 64) : v_J6_bitCount_0f7a4 I J (nI A) = nI (rq_pc A) := rq_bc0 A h
theorem rq_pc_le (A : Nat) : rq_pc A ≤ 6 := by
  have h0 := rq_b01 A 0; have h1 := rq_b01 A 1; have h2 := rq_b01 A 2; have h3 := rq_b01 A 3; have h4 := rq_b01 A 4; have h5 := rq_b01 A 5
  unfold rq_pc; omega
theorem rq_pc_pos {A p : Nat} (hp : p < 6) (h : rq_b A p = 1) : 0 < rq_pc A := by
  have e : p = 0 ∨ p = 1 ∨ p = 2 ∨ p = 3 ∨ p = 4 ∨ p = 5 := by omega
  unfold rq_pc
  rcases e with rfl | rfl | rfl | rfl | rfl | rfl <;> omega
theorem rq_nz : ∀ A, A < 64 → A ≠ 0 → 0 < rq_pc A := by decide +kernel
def rq_Dr (s : Nat → Nat) (A : Nat) : Nat := rq_S (fun p => rq_b A p == 1 && (decide (s (8 + 4 * p) < 4) || s (11 + 4 * p) == 1)) (s 0)
def rq_A (s : Nat → Nat) : Nat := rq_S (fun p => s (10 + 4 * p) == 1) (s 0)
def rq_D (s : Nat → Nat) : Nat := rq_Dr s (rq_A s)
def rq_T (s : Nat → Nat) (p : Nat) : Nat := if s (8 + 4 * p) = 2 then s 1 / 2 else if s (8 + 4 * p) = 3 then s 1 - 1 else s 1
def rq_F (s : Nat → Nat) (D nm p : Nat) : Nat := if rq_b D p = 1 then (if p = nm then rq_pc D * rq_T s p + 10 - rq_T s p else 10 - rq_T s p) else 10
def rq_sum (L : Nat → Nat) : Nat := L 0 + L 1 + L 2 + L 3 + L 4 + L 5
def rq_lot (s : Nat → Nat) (D nm : Nat) (L : Nat → Nat) : Nat → Nat := fun p => L p * rq_F s D nm p
/-- the likeliest of a set -/
def rq_bs (L : Nat → Nat) (b : Option Nat) (k : Nat) : Option Nat := match b with
  | none => some k
  | some q => if L q < L k then some k else some q
def rq_Bk (A : Nat) (L : Nat → Nat) : Nat → Nat → Option Nat → Option Nat
  | 0, _, b => b
  | m + 1, k, b => rq_Bk A L m (k + 1) (if rq_b A k = 1 then rq_bs L b k else b)
def rq_B (A : Nat) (L : Nat → Nat) : Option Nat := rq_Bk A L 6 0 none
def rq_M (A : Nat) (L : Nat → Nat) : Nat := match rq_B A L with
  | none => 0
  | some q => L q
def rq_oI (o : Option Nat) : Int32 := match o with
  | none => Int32.ofInt (-1000000)
  | some q => nI q
/-- numbers of a ship keep to these bounds -/
def rq_W (s : Nat → Nat) : Prop := s 0 ≤ 6 ∧ s 1 ≤ 10 ∧ s 2 ≤ 20 ∧ s 3 ≤ 19 ∧ s 6 ≤ 4 ∧ s 7 ≤ 3 ∧ s 4 ≤ s 2 + s 7 ∧ s 5 ≤ 2 ∧ (0 < s 0 → s 5 ≠ 0 → (s 5 = 1 ↔ s 4 < s 2 + s 7)) ∧ (∀ p, p < s 0 → 1 ≤ s (8 + 4 * p) ∧ s (8 + 4 * p) ≤ 5 ∧ s (9 + 4 * p) ≤ 9 ∧ s (10 + 4 * p) ≤ 1 ∧ s (11 + 4 * p) ≤ 1)
def rq_V (s L : Nat → Nat) : Prop := (∀ p, s 0 ≤ p → p < 6 → L p = 0) ∧ (∀ p, p < 6 → L p ≤ 18 * 60 ^ s 6 * (if s 5 = 0 then 20 else 1)) ∧ (0 < s 0 → 0 < rq_sum L) ∧ (s 5 ≠ 0 → ∀ p, p < s 0 → s (10 + 4 * p) = 0 → L p = 0)
/-- a ship of the class: what stays (s), and hours h, lots l, who is aboard A, who draws D, still st, likelihoods L -/
def rq_R (I : sx_I) (J : sx_J) (r : Nat) (s : Nat → Nat) (h l A D : Nat) (st : Int32) (L : Nat → Nat) : Prop := I 5 r 0 = nI (s 0) ∧ I 5 r 1 = nI (s 1) ∧ I 5 r 2 = nI (s 2) ∧ I 5 r 3 = nI (s 3) ∧ I 5 r 4 = nI h ∧ I 5 r 5 = nI l ∧ I 5 r 6 = nI (s 7) ∧ I 5 r 7 = nI A ∧ I 5 r 8 = nI D ∧ I 5 r 9 = st ∧ (∀ p, p < s 0 → I 20 r p = nI (s (8 + 4 * p)) ∧ I 21 r p = nI (s (9 + 4 * p)) ∧ J 11 r p = lN (L p))
def rq_st (s : Nat → Nat) : Int32 := if s 0 = 0 then 0 else if s 5 = 0 then 1 else 0
def rq_C (I : sx_I) (J : sx_J) (r : Nat) (s L : Nat → Nat) : Prop := rq_R I J r s (s 4) (s 6) (rq_A s) (rq_D s) (rq_st s) L
/-- a ship of the reference: array a from o, likelihoods b from u -/
def rq_Q (I : sx_I) (J : sx_J) (a o b u : Nat) (s L : Nat → Nat) : Prop := (∀ k, k < 32 → I 16 a (o + k) = nI (s k)) ∧ (∀ p, p < 6 → J 17 b (u + p) = lN (L p))
theorem rq_A_lt (s : Nat → Nat) : rq_A s < 2 ^ s 0 := rq_S_lt _ _
theorem rq_Dr_lt (s : Nat → Nat) (A : Nat) : rq_Dr s A < 2 ^ s 0 := rq_S_lt _ _
theorem rq_D_lt (s : Nat → Nat) : rq_D s < 2 ^ s 0 := rq_S_lt _ _
theorem rq_A_b (s : Nat → Nat) {p : Nat} (hp : p < s 0) : rq_b (rq_A s) p = if s (10 + 4 * p) = 1 then 1 else 0 := by
  rw [rq_A, rq_S_b]
  by_cases h : s (10 + 4 * p) = 1
  · rw [if_pos h, if_pos ⟨hp, by rw [h]; rfl⟩]
  · rw [if_neg h, if_neg (fun q => h (by simpa using q.2))]
theorem rq_Dr_b (s : Nat → Nat) {A p : Nat} (hp : p < s 0) : rq_b (rq_Dr s A) p = if rq_b A p = 1 ∧ (s (8 + 4 * p) < 4 ∨ s (11 + 4 * p) = 1) then 1 else 0 := by
  rw [rq_Dr, rq_S_b]
  by_cases h : rq_b A p = 1 ∧ (s (8 + 4 * p) < 4 ∨ s (11 + 4 * p) = 1)
  · rw [if_pos h, if_pos ⟨hp, by simpa using h⟩]
  · rw [if_neg h, if_neg (fun q => h (by simpa using q.2))]
theorem rq_S_congr {f g : Nat → Bool} : ∀ m : Nat, (∀ p, p < m → f p = g p) → rq_S f m = rq_S g m
  | 0, _ => rfl
  | m + 1, h => by rw [rq_S, rq_S, rq_S_congr m (fun p hp => h p (by omega)), h m (by omega)]
theorem rq_T_le {s : Nat → Nat} (h : s 1 ≤ 10) (p : Nat) : rq_T s p ≤ 10 := by
  unfold rq_T; repeat' split
  all_goals omega
theorem rq_F_le {s : Nat → Nat} (h : s 1 ≤ 10) (D nm p : Nat) : rq_F s D nm p ≤ 60 := by
  have h1 := rq_T_le h p
  have h2 := rq_pc_le D
  have h3 : rq_pc D * rq_T s p ≤ 6 * rq_T s p := Nat.mul_le_mul_right _ h2
  unfold rq_F; repeat' split
  all_goals omega
