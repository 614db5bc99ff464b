/-! pair: saved -/
def rq_w (c v : Nat) (x : Nat × Nat) : Nat × Nat := if x.2 < v then (c, v) else x
def rq_wf (A : Nat) (f : Nat → Nat) : Nat → Nat → Nat × Nat → Nat × Nat
  | 0, _, x => x
  | m + 1, k, x => rq_wf A f m (k + 1) (if rq_b A k = 1 then rq_w (2 + k) (f k) x else x)
def rq_x (c : Nat) (x : Nat × Nat) : Nat × Nat := (x.1, c * x.2)
theorem rq_w_x {c : Nat} (hc : 0 < c) (k v : Nat) (x : Nat × Nat) : rq_w k (c * v) (rq_x c x) = rq_x c (rq_w k v x) := by
  unfold rq_w rq_x
  by_cases h : x.2 < v
  · rw [if_pos h, if_pos (Nat.mul_lt_mul_of_pos_left h hc)]
  · rw [if_neg h, if_neg (fun q => h (Nat.lt_of_mul_lt_mul_left q))]
theorem rq_wf_x {c : Nat} (hc : 0 < c) (A : Nat) (f : Nat → Nat) : ∀ (m k : Nat) (x : Nat × Nat), rq_wf A (fun k => c * f k) m k (rq_x c x) = rq_x c (rq_wf A f m k x)
  | 0, _, _ => rfl
  | m + 1, k, x => by
    rw [rq_wf, rq_wf]
    by_cases h : rq_b A k = 1
    · rw [if_pos h, if_pos h, rq_w_x hc]; exact rq_wf_x hc A f m (k + 1) _
    · rw [if_neg h, if_neg h]; exact rq_wf_x hc A f m (k + 1) _
theorem rq_w_lt {B c v : Nat} {x : Nat × Nat} (hv : v < B) (hx : x.2 < B) : (rq_w c v x).2 < B := by
  unfold rq_w; split
  · exact hv
  · exact hx
theorem rq_wf_lt {B A : Nat} {f : Nat → Nat} (hf : ∀ p, p < 6 → f p < B) : ∀ (m k : Nat) (x : Nat × Nat), k + m ≤ 6 → x.2 < B → (rq_wf A f m k x).2 < B
  | 0, _, _, _, h => h
  | m + 1, k, x, hk, h => by
    rw [rq_wf]
    refine rq_wf_lt hf m (k + 1) _ (by omega) ?_
    split
    · exact rq_w_lt (hf k (by omega)) h
    · exact h
theorem rq_wf_cg {A : Nat} {f g : Nat → Nat} (h : ∀ p, p < 6 → rq_b A p = 1 → f p = g p) : ∀ (m k : Nat) (x : Nat × Nat), k + m ≤ 6 → rq_wf A f m k x = rq_wf A g m k x
  | 0, _, _, _ => rfl
  | m + 1, k, x, hk => by
    rw [rq_wf, rq_wf]
    by_cases e : rq_b A k = 1
    · rw [if_pos e, if_pos e, h k (by omega) e]; exact rq_wf_cg h m (k + 1) _ (by omega)
    · rw [if_neg e, if_neg e]; exact rq_wf_cg h m (k + 1) _ (by omega)
/-- sums over those who draw -/
def rq_sl (D : Nat) (g : Nat → Nat) : Nat → Nat → Nat → Nat
  | 0, _, x => x
  | m + 1, k, x => rq_sl D g m (k + 1) (if rq_b D k = 1 then x + g k else x)
theorem rq_sl_lt {D B : Nat} {g : Nat → Nat} (hg : ∀ p, p < 6 → g p ≤ B) : ∀ (m k x : Nat), k + m ≤ 6 → rq_sl D g m k x ≤ x + m * B
  | 0, _, _, _ => by rw [rq_sl]; omega
  | m + 1, k, x, hk => by
    rw [rq_sl]
    have h1 := hg k (by omega)
    have h2 := rq_sl_lt (D := D) hg m (k + 1) (if rq_b D k = 1 then x + g k else x) (by omega)
    have h3 : (m + 1) * B = m * B + B := by rw [Nat.add_mul, Nat.one_mul]
    refine Nat.le_trans h2 ?_
    split <;> omega
theorem rq_sl_lin {D a b : Nat} {f g h : Nat → Nat} (e : ∀ p, p < 6 → h p = a * f p + b * g p) : ∀ (m k x y : Nat), k + m ≤ 6 → rq_sl D h m k (a * x + b * y) = a * rq_sl D f m k x + b * rq_sl D g m k y
  | 0, _, _, _, _ => rfl
  | m + 1, k, x, y, hk => by
    rw [rq_sl, rq_sl, rq_sl]
    by_cases c : rq_b D k = 1
    · rw [if_pos c, if_pos c, if_pos c, e k (by omega), show a * x + b * y + (a * f k + b * g k) = a * (x + f k) + b * (y + g k) by rw [Nat.mul_add, Nat.mul_add]; omega]
      exact rq_sl_lin e m (k + 1) _ _ (by omega)
    · rw [if_neg c, if_neg c, if_neg c]
      exact rq_sl_lin e m (k + 1) _ _ (by omega)
theorem rq_sl_z {D : Nat} {g : Nat → Nat} : ∀ (m k x : Nat), (∀ p, k ≤ p → p < k + m → rq_b D p = 0) → rq_sl D g m k x = x
  | 0, _, _, _ => rfl
  | m + 1, k, x, hz => by
    rw [rq_sl, if_neg (by rw [hz k (by omega) (by omega)]; decide)]
    exact rq_sl_z m (k + 1) x (fun p h1 h2 => hz p (by omega) (by omega))
theorem rq_sl_add {D : Nat} {g : Nat → Nat} : ∀ (m j k x : Nat), rq_sl D g (m + j) k x = rq_sl D g j (k + m) (rq_sl D g m k x)
  | 0, j, k, x => by rw [Nat.zero_add]; rfl
  | m + 1, j, k, x => by
    rw [show m + 1 + j = (m + j) + 1 by omega, rq_sl, rq_sl_add m j (k + 1), rq_sl, show k + 1 + m = k + (m + 1) by omega]
theorem rq_sl_n {D n : Nat} {g : Nat → Nat} (hn : n ≤ 6) (hD : D < 2 ^ n) : rq_sl D g n 0 0 = rq_sl D g 6 0 0 := by
  obtain ⟨j, hj⟩ : ∃ j, 6 = n + j := ⟨6 - n, by omega⟩
  rw [hj, rq_sl_add]
  exact (rq_sl_z j _ _ (fun p h1 h2 => rq_b_lt (Nat.lt_of_lt_of_le hD (Nat.pow_le_pow_right (by decide) (by omega))))).symm
theorem rq_sl_6 (D : Nat) (g : Nat → Nat) : rq_sl D g 6 0 0 = rq_b D 0 * g 0 + rq_b D 1 * g 1 + rq_b D 2 * g 2 + rq_b D 3 * g 3 + rq_b D 4 * g 4 + rq_b D 5 * g 5 := by
  have k : ∀ p x, (if rq_b D p = 1 then x + g p else x) = x + rq_b D p * g p := fun p x => by
    rcases rq_b01 D p with e | e
    · rw [e, if_neg (by decide), Nat.zero_mul, Nat.add_zero]
    · rw [e, if_pos rfl, Nat.one_mul]
  simp only [rq_sl, k]
  rw [Nat.zero_add]
theorem rq_10 {t T : Nat} (h : T ≤ 10) : t * (10 - T) + ((t + 1) * T + 10 - T) = 10 * (t + 1) := by
  have e : t * (10 - T) + t * T = t * 10 := by rw [← Nat.mul_add, Nat.sub_add_cancel h]
  rw [Nat.add_mul, Nat.one_mul]; omega
theorem rq_FD {s : Nat → Nat} {D q : Nat} (hq : q < 6) (h1 : s 1 ≤ 10) : rq_b D 0 * rq_F s D 0 q + rq_b D 1 * rq_F s D 1 q + rq_b D 2 * rq_F s D 2 q + rq_b D 3 * rq_F s D 3 q + rq_b D 4 * rq_F s D 4 q + rq_b D 5 * rq_F s D 5 q = 10 * rq_pc D := by
  have ht := rq_T_le h1 q
  unfold rq_F
  rcases rq_b01 D q with e | e
  · simp only [if_neg (show ¬ rq_b D q = 1 by omega)]
    unfold rq_pc; omega
  · simp only [if_pos e]
    have e6 : q = 0 ∨ q = 1 ∨ q = 2 ∨ q = 3 ∨ q = 4 ∨ q = 5 := by omega
    rcases e6 with rfl | rfl | rfl | rfl | rfl | rfl
    · have h := rq_10 (t := rq_b D 1 + rq_b D 2 + rq_b D 3 + rq_b D 4 + rq_b D 5) ht
      have hpc : rq_pc D = (rq_b D 1 + rq_b D 2 + rq_b D 3 + rq_b D 4 + rq_b D 5) + 1 := by unfold rq_pc; omega
      rw [hpc, ← h, e]; simp (decide := true) only [Nat.add_mul, Nat.one_mul, reduceIte]; omega
    · have h := rq_10 (t := rq_b D 0 + rq_b D 2 + rq_b D 3 + rq_b D 4 + rq_b D 5) ht
      have hpc : rq_pc D = (rq_b D 0 + rq_b D 2 + rq_b D 3 + rq_b D 4 + rq_b D 5) + 1 := by unfold rq_pc; omega
      rw [hpc, ← h, e]; simp (decide := true) only [Nat.add_mul, Nat.one_mul, reduceIte]; omega
    · have h := rq_10 (t := rq_b D 0 + rq_b D 1 + rq_b D 3 + rq_b D 4 + rq_b D 5) ht
      have hpc : rq_pc D = (rq_b D 0 + rq_b D 1 + rq_b D 3 + rq_b D 4 + rq_b D 5) + 1 := by unfold rq_pc; omega
      rw [hpc, ← h, e]; simp (decide := true) only [Nat.add_mul, Nat.one_mul, reduceIte]; omega
    · have h := rq_10 (t := rq_b D 0 + rq_b D 1 + rq_b D 2 + rq_b D 4 + rq_b D 5) ht
      have hpc : rq_pc D = (rq_b D 0 + rq_b D 1 + rq_b D 2 + rq_b D 4 + rq_b D 5) + 1 := by unfold rq_pc; omega
      rw [hpc, ← h, e]; simp (decide := true) only [Nat.add_mul, Nat.one_mul, reduceIte]; omega
    · have h := rq_10 (t := rq_b D 0 + rq_b D 1 + rq_b D 2 + rq_b D 3 + rq_b D 5) ht
      have hpc : rq_pc D = (rq_b D 0 + rq_b D 1 + rq_b D 2 + rq_b D 3 + rq_b D 5) + 1 := by unfold rq_pc; omega
      rw [hpc, ← h, e]; simp (decide := true) only [Nat.add_mul, Nat.one_mul, reduceIte]; omega
    · have h := rq_10 (t := rq_b D 0 + rq_b D 1 + rq_b D 2 + rq_b D 3 + rq_b D 4) ht
      have hpc : rq_pc D = (rq_b D 0 + rq_b D 1 + rq_b D 2 + rq_b D 3 + rq_b D 4) + 1 := by unfold rq_pc; omega
      rw [hpc, ← h, e]; simp (decide := true) only [Nat.add_mul, Nat.one_mul, reduceIte]
/-- all lots of those who draw: ten times them times all -/
theorem rq_sl_S {s L : Nat → Nat} {D : Nat} (hn : s 0 ≤ 6) (hD : D < 2 ^ s 0) (h1 : s 1 ≤ 10) : rq_sl D (fun p => rq_sum (rq_lot s D p L)) (s 0) 0 0 = 10 * rq_pc D * rq_sum L := by
  rw [rq_sl_n hn hD, rq_sl_6]
  have f : ∀ q, q < 6 → L q * (rq_b D 0 * rq_F s D 0 q + rq_b D 1 * rq_F s D 1 q + rq_b D 2 * rq_F s D 2 q + rq_b D 3 * rq_F s D 3 q + rq_b D 4 * rq_F s D 4 q + rq_b D 5 * rq_F s D 5 q) = L q * (10 * rq_pc D) := fun q hq => by rw [rq_FD hq h1]
  have f0 := f 0 (by omega); have f1 := f 1 (by omega); have f2 := f 2 (by omega)
  have f3 := f 3 (by omega); have f4 := f 4 (by omega); have f5 := f 5 (by omega)
  simp only [Nat.mul_add, Nat.mul_left_comm (L _) (rq_b D _) _] at f0 f1 f2 f3 f4 f5
  simp only [rq_sum, rq_lot, Nat.mul_add]
  rw [Nat.mul_comm _ (L 0), Nat.mul_comm _ (L 1), Nat.mul_comm _ (L 2), Nat.mul_comm _ (L 3), Nat.mul_comm _ (L 4), Nat.mul_comm _ (L 5)]
  omega
