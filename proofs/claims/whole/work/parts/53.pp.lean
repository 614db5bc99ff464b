/-! ship: what a text says, and how the class reads it -/
def rq_dg (n : Nat) (t : Nat → Nat) (c : Nat) : Bool := decide (c < n) && (decide (48 ≤ t c) && decide (t c ≤ 57))
theorem rq_dg_t {n c : Nat} {t : Nat → Nat} : rq_dg n t c = true ↔ c < n ∧ 48 ≤ t c ∧ t c ≤ 57 := by
  unfold rq_dg; simp only [Bool.and_eq_true, decide_eq_true_eq]
/-- a number of one or two figures: how many, and which -/
def rq_nl (n : Nat) (t : Nat → Nat) (c : Nat) : Nat × Nat := if rq_dg n t c = true then (if rq_dg n t (c + 1) = true then (if rq_dg n t (c + 2) = true then (0, 0) else (2, (t c - 48) * 10 + t (c + 1) - 48)) else (1, t c - 48)) else (0, 0)
def rq_nu (n : Nat) (t : Nat → Nat) (lo hi c : Nat) : Except (Nat × Nat) (Nat × Nat) := if (rq_nl n t c).1 = 0 then .error (1, c) else if lo ≤ (rq_nl n t c).2 ∧ (rq_nl n t c).2 ≤ hi then .ok ((rq_nl n t c).2, c + (rq_nl n t c).1) else .error (2, c)
def rq_ex (n : Nat) (t : Nat → Nat) (b c : Nat) : Except (Nat × Nat) Nat := if c < n ∧ t c = b then .ok (c + 1) else .error (1, c)
def rq_kd (b : Nat) : Nat := if b = 97 then 1 else if b = 103 then 4 else if b = 111 then 2 else if b = 114 then 3 else if b = 119 then 5 else 0
def rq_kc (n : Nat) (t : Nat → Nat) (c : Nat) : Nat := if c < n then rq_kd (t c) else 0
def rq_bd {α β : Type} (x : Except (Nat × Nat) α) (f : α → Except (Nat × Nat) β) : Except (Nat × Nat) β := match x with
  | .error e => .error e
  | .ok a => f a
def rq_s0 : Nat → Nat := fun k => if k = 5 then 1 else 0
def rq_law (n : Nat) (t : Nat → Nat) : Except (Nat × Nat) ((Nat → Nat) × Nat) := rq_bd (rq_ex n t 115 0) fun c1 => rq_bd (rq_nu n t 0 10 c1) fun a1 => rq_bd (rq_ex n t 44 a1.2) fun c2 => rq_bd (rq_nu n t 1 20 c2) fun a2 => rq_bd (rq_ex n t 44 a2.2) fun c3 => rq_bd (rq_nu n t 0 19 c3) fun a3 => rq_bd (rq_ex n t 59 a3.2) fun c4 => .ok (rq_up (rq_up (rq_up rq_s0 1 a1.1) 2 a2.1) 3 a3.1, c4)
def rq_per1 (n : Nat) (t : Nat → Nat) (k c : Nat) : Except (Nat × Nat) (Nat × Nat × Nat) := if rq_kc n t c = 0 then .error (1, c) else if 6 ≤ k then .error (3, c) else rq_bd (rq_nu n t 1 9 (c + 1)) fun a => rq_bd (rq_ex n t 59 a.2) fun c2 => .ok (rq_kc n t c, a.1, c2)
def rq_ad (s : Nat → Nat) (kd wt : Nat) : Nat → Nat := fun k => if k = 0 then s 0 + 1 else if k = 8 + 4 * s 0 then kd else if k = 9 + 4 * s 0 then wt else if k = 10 + 4 * s 0 then 1 else s k
def rq_ppl (n : Nat) (t : Nat → Nat) : Nat → (Nat → Nat) → Nat → Except (Nat × Nat) (Nat → Nat)
  | 0, _, _ => .error (0, 0)
  | m + 1, s, c => rq_bd (rq_per1 n t (s 0) c) fun a => if n ≤ a.2.2 then .ok (rq_ad s a.1 a.2.1) else rq_ppl n t m (rq_ad s a.1 a.2.1) a.2.2
def rq_L0 (s : Nat → Nat) (p : Nat) : Nat := if p < s 0 then (if s (8 + 4 * p) = 5 then 2 * s (9 + 4 * p) else s (9 + 4 * p)) else 0
/-- a ship as it is told -/
def rq_tw (s : Nat → Nat) : Prop := s 0 ≤ 6 ∧ s 1 ≤ 10 ∧ 1 ≤ s 2 ∧ s 2 ≤ 20 ∧ s 3 ≤ 19 ∧ s 4 = 0 ∧ s 5 = 1 ∧ s 6 = 0 ∧ s 7 = 0 ∧ (∀ p, p < s 0 → 1 ≤ s (8 + 4 * p) ∧ s (8 + 4 * p) ≤ 5 ∧ 1 ≤ s (9 + 4 * p) ∧ s (9 + 4 * p) ≤ 9 ∧ s (10 + 4 * p) = 1 ∧ s (11 + 4 * p) = 0) ∧ (∀ k, 8 + 4 * s 0 ≤ k → s k = 0)
section RQTW
variable {n c lo hi b v c2 kd wt : Nat} {t s : Nat → Nat}
theorem rq_ex_ok (h : rq_ex n t b c = .ok c2) : c < n ∧ t c = b ∧ c2 = c + 1 := by
  unfold rq_ex at h
  by_cases q : c < n ∧ t c = b
  · rw [if_pos q] at h; exact ⟨q.1, q.2, (Except.ok.inj h).symm⟩
  · rw [if_neg q] at h; exact nomatch h
theorem rq_nl_le (h : (rq_nl n t c).1 ≠ 0) : rq_dg n t c = true ∧ c + (rq_nl n t c).1 ≤ n := by
  unfold rq_nl at h ⊢
  by_cases q0 : rq_dg n t c = true
  · rw [if_pos q0] at h ⊢
    have d0 := rq_dg_t.mp q0
    refine ⟨q0, ?_⟩
    by_cases q1 : rq_dg n t (c + 1) = true
    · rw [if_pos q1] at h ⊢
      have d1 := rq_dg_t.mp q1
      by_cases q2 : rq_dg n t (c + 2) = true
      · rw [if_pos q2] at h; exact absurd rfl h
      · rw [if_neg q2]; show c + 2 ≤ n; omega
    · rw [if_neg q1]; show c + 1 ≤ n; omega
  · rw [if_neg q0] at h; exact absurd rfl h
theorem rq_nl_lt : (rq_nl n t c).2 < 100 := by
  unfold rq_nl
  by_cases q0 : rq_dg n t c = true
  · have d0 := rq_dg_t.mp q0
    rw [if_pos q0]
    by_cases q1 : rq_dg n t (c + 1) = true
    · have d1 := rq_dg_t.mp q1
      rw [if_pos q1]
      by_cases q2 : rq_dg n t (c + 2) = true
      · rw [if_pos q2]; show 0 < 100; omega
      · rw [if_neg q2]; show (t c - 48) * 10 + t (c + 1) - 48 < 100; omega
    · rw [if_neg q1]; show t c - 48 < 100; omega
  · rw [if_neg q0]; show 0 < 100; omega
theorem rq_nu_ok {a : Nat × Nat} (h : rq_nu n t lo hi c = .ok a) : (rq_nl n t c).1 ≠ 0 ∧ lo ≤ a.1 ∧ a.1 ≤ hi ∧ a.2 ≤ n ∧ a = ((rq_nl n t c).2, c + (rq_nl n t c).1) := by
  unfold rq_nu at h
  by_cases q : (rq_nl n t c).1 = 0
  · rw [if_pos q] at h; exact nomatch h
  · rw [if_neg q] at h
    by_cases q2 : lo ≤ (rq_nl n t c).2 ∧ (rq_nl n t c).2 ≤ hi
    · rw [if_pos q2] at h
      have e := (Except.ok.inj h).symm
      rw [e]
      exact ⟨q, q2.1, q2.2, (rq_nl_le q).2, rfl⟩
    · rw [if_neg q2] at h; exact nomatch h
theorem rq_kd_5 (b : Nat) : rq_kd b ≤ 5 := by unfold rq_kd; repeat' split
                                              all_goals omega
theorem rq_ad_0 : rq_ad s kd wt 0 = s 0 + 1 := if_pos rfl
theorem rq_ad_lo {k : Nat} (h0 : k ≠ 0) (h : k < 8 + 4 * s 0) : rq_ad s kd wt k = s k := by
  unfold rq_ad; rw [if_neg h0, if_neg (by omega), if_neg (by omega), if_neg (by omega)]
theorem rq_ad_8 : rq_ad s kd wt (8 + 4 * s 0) = kd := by unfold rq_ad; rw [if_neg (by omega), if_pos rfl]
theorem rq_ad_9 : rq_ad s kd wt (9 + 4 * s 0) = wt := by unfold rq_ad; rw [if_neg (by omega), if_neg (by omega), if_pos rfl]
theorem rq_ad_10 : rq_ad s kd wt (10 + 4 * s 0) = 1 := by unfold rq_ad; rw [if_neg (by omega), if_neg (by omega), if_neg (by omega), if_pos rfl]
theorem rq_ad_hi {k : Nat} (h : 11 + 4 * s 0 ≤ k) : rq_ad s kd wt k = s k := by
  unfold rq_ad; rw [if_neg (by omega), if_neg (by omega), if_neg (by omega), if_neg (by omega)]
theorem rq_tw.ad (h : rq_tw s) (h6 : s 0 < 6) (hk : 1 ≤ kd ∧ kd ≤ 5) (hw : 1 ≤ wt ∧ wt ≤ 9) : rq_tw (rq_ad s kd wt) := by
  obtain ⟨h0, h1, h2, h2b, h3, h4, h5, h6b, h7, hp, hz⟩ := h
  unfold rq_tw
  rw [rq_ad_0, rq_ad_lo (by omega) (by omega), rq_ad_lo (by omega) (by omega), rq_ad_lo (by omega) (by omega), rq_ad_lo (by omega) (by omega), rq_ad_lo (by omega) (by omega), rq_ad_lo (by omega) (by omega), rq_ad_lo (by omega) (by omega)]
  refine ⟨by omega, h1, h2, h2b, h3, h4, h5, h6b, h7, fun p hp0 => ?_, fun k hk0 => ?_⟩
  · by_cases q : p = s 0
    · rw [q, rq_ad_8, rq_ad_9, rq_ad_10, rq_ad_hi (by omega), hz _ (by omega)]
      exact ⟨hk.1, hk.2, hw.1, hw.2, rfl, rfl⟩
    · rw [rq_ad_lo (by omega) (by omega), rq_ad_lo (by omega) (by omega), rq_ad_lo (by omega) (by omega), rq_ad_lo (by omega) (by omega)]
      exact hp p (by omega)
  · rw [rq_ad_hi (by omega)]; exact hz k (by omega)
theorem rq_tw.W (h : rq_tw s) : rq_W s := by
  obtain ⟨h0, h1, h2, h2b, h3, h4, h5, h6, h7, hp, _⟩ := h
  refine ⟨h0, h1, h2b, h3, by omega, by omega, by omega, by omega, fun _ _ => by omega, fun p q => ?_⟩
  obtain ⟨p1, p2, p3, p4, p5, p6⟩ := hp p q
  exact ⟨p1, p2, p4, by omega, by omega⟩
theorem rq_tw.V (h : rq_tw s) : rq_V s (rq_L0 s) := by
  obtain ⟨h0, h1, h2, h2b, h3, h4, h5, h6, h7, hp, _⟩ := h
  refine ⟨fun p a _ => if_neg (by omega), fun p _ => ?_, fun h00 => ?_, fun _ p q z => ?_⟩
  · rw [h6, if_neg (by omega)]
    unfold rq_L0
    by_cases q : p < s 0
    · rw [if_pos q]
      have := (hp p q).2.2.2.1
      split <;> omega
    · rw [if_neg q]; omega
  · have hl := rq_le_sum (L := rq_L0 s) (p := 0) (by omega)
    have : 1 ≤ rq_L0 s 0 := by
      unfold rq_L0
      rw [if_pos h00]
      have := (hp 0 h00).2.2.1
      split <;> omega
    omega
  · have := (hp p q).2.2.2.2.1
    omega
theorem rq_A_ad : rq_A (rq_ad s kd wt) = rq_on (rq_A s) (s 0) := by
  unfold rq_on
  rw [rq_b_lt (rq_A_lt s), if_neg (by decide)]
  show rq_S (fun p => rq_ad s kd wt (10 + 4 * p) == 1) (rq_ad s kd wt 0) = rq_A s + 2 ^ s 0
  rw [rq_ad_0, rq_S, rq_ad_10, rq_S_congr (g := fun p => s (10 + 4 * p) == 1) (s 0) (fun p hp => by rw [rq_ad_lo (by omega) (by omega)])]
  rfl
theorem rq_D_ad (hn : s 0 < 6) (hz : s (11 + 4 * s 0) = 0) : rq_D (rq_ad s kd wt) = if kd < 4 then rq_on (rq_D s) (s 0) else rq_D s := by
  have hA := rq_A_lt s
  have hA6 := rq_64 hA (by omega)
  have e : rq_D (rq_ad s kd wt) = rq_D s + (if kd < 4 then 2 ^ s 0 else 0) := by
    show rq_S (fun p => rq_b (rq_A (rq_ad s kd wt)) p == 1 && (decide (rq_ad s kd wt (8 + 4 * p) < 4) || rq_ad s kd wt (11 + 4 * p) == 1)) (rq_ad s kd wt 0) = _
    rw [rq_ad_0, rq_S, rq_ad_8, rq_ad_hi (by omega), hz, rq_A_ad, rq_on_b _ hA6 _ hn _ hn, if_pos rfl, rq_S_congr (g := fun p => rq_b (rq_A s) p == 1 && (decide (s (8 + 4 * p) < 4) || s (11 + 4 * p) == 1)) (s 0) (fun p hp => by rw [rq_ad_lo (by omega) (by omega), rq_ad_lo (by omega) (by omega), rq_on_b _ hA6 _ hn _ (by omega), if_neg (by omega)])]
    show rq_D s + _ = _
    by_cases q : kd < 4
    · rw [if_pos q, if_pos (by simp [q])]
    · rw [if_neg q, if_neg (by simp [q])]
  rw [e]
  unfold rq_on
  rw [rq_b_lt (rq_D_lt s), if_neg (show ¬ (0 : Nat) = 1 by decide)]
  split
  · rfl
  · rfl
end RQTW
