/-! pairs: calls that only read, the simple ones -/
theorem m_inN {I : sx_I} {J : sx_J} {n p : Nat} (hn : n < 2 ^ 30) (hp : p < n) : v_X9_in I J (nI p).toInt64 (0 : Int64) ((nI n - (1 : Int32)).toInt64) = 1 := by
  rw [m_in (y := (0 : Int64)) (nI p) 0 (nI n - 1) (by decide) rfl, if_neg (nI_pos (by omega)), show (1 : Int32) = nI 1 from rfl, pk_sub (by omega), if_neg (nI_nlt (by omega) (by omega))]
theorem m_outN {I : sx_I} {J : sx_J} {n : Nat} {x : Int32} (hn : n < 2 ^ 30) (hx : x < 0 ∨ nI n ≤ x) : v_X9_in I J x.toInt64 (0 : Int64) ((nI n - (1 : Int32)).toInt64) = 0 := by
  rw [m_in (y := (0 : Int64)) x 0 (nI n - 1) (by decide) rfl]
  rcases hx with h1 | h1
  · rw [if_pos h1]
  · have e : nI n - 1 < x := by
      rw [Int32.le_iff_toInt_le, nI_toInt (by omega)] at h1
      rw [Int32.lt_iff_toInt_lt, show (1 : Int32) = nI 1 from rfl, pk_sub_toInt (by omega) (by omega)]
      omega
    rw [if_pos e, ite_self]
/-- a number within bounds, told by both sides -/
theorem m_inC {I : sx_I} {J : sx_J} (I2 : sx_I) (J2 : sx_J) {x a b : Int32} {y z : Int64} (hy : y = a.toInt64) (hz : z = b.toInt64) : (v_X9_in I J x.toInt64 y z = 1 ∧ v_X8_isOutside I2 J2 x a b = 0 ∧ a ≤ x ∧ x ≤ b) ∨ (v_X9_in I J x.toInt64 y z = 0 ∧ v_X8_isOutside I2 J2 x a b = 1) := by
  rw [m_in x a b hy hz, v_X8_isOutside]
  by_cases h1 : x < a
  · rw [if_pos h1, if_pos h1]; exact Or.inr ⟨rfl, rfl⟩
  · rw [if_neg h1, if_neg h1]
    by_cases h2 : b < x
    · rw [if_pos h2, if_neg (Int32.not_le.mpr h2)]; exact Or.inr ⟨rfl, rfl⟩
    · rw [if_neg h2, if_pos (Int32.not_lt.mp h2)]; exact Or.inl ⟨rfl, rfl, Int32.not_lt.mp h1, Int32.not_lt.mp h2⟩
section RQP
variable {sc : Nat × (Nat → Int32)} {d : Nat} {I I1 I2 : sx_I} {J J1 J2 : sx_J} {s L : Nat → Nat}
theorem rq_Q.qi (h : rq_Q I J 3 0 0 0 s L) : rq_Qi I s := fun k hk => by have e := h.1 k hk; rw [Nat.zero_add] at e; exact e
theorem rq_Q.lj (h : rq_Q I J 3 0 0 0 s L) : rq_Lj J 0 L := fun k hk => by have e := h.2 k hk; rw [Nat.zero_add] at e; exact e
theorem rq_Qi.sm (h : rq_Qi I s) (e : rq_same I J I1 J1) : rq_Qi I1 s := fun k hk => by rw [e.1 16 3 k (rq_nN (Or.inr (Or.inl ⟨rfl, rfl⟩)))]; exact h k hk
theorem rq_Lj.sm (h : rq_Lj J 0 L) (e : rq_same I J I1 J1) : rq_Lj J1 0 L := fun k hk => by rw [e.2 17 0 k (rq_nN (Or.inr (Or.inr ⟨rfl, rfl⟩)))]; exact h k hk
theorem rq_C.sm (h : rq_C I J 0 s L) (e : rq_same I J I1 J1) : rq_C I1 J1 0 s L := h.fr (fun a k c => e.1 a 0 k (rq_nN (Or.inl ⟨c, rfl⟩))) (fun a k c => e.2 a 0 k (rq_nN (Or.inl ⟨c, rfl⟩)))
theorem rq_Qi.t0 (h : rq_Qi I s) {v : Int32} : rq_Qi (sx_uI I 9 0 0 v) s := h.sm (J := fun _ _ _ => 0) (J1 := fun _ _ _ => 0) .t0
theorem rq_Qi.p6 (h : rq_Qi I s) (hn : s 0 ≤ 6) : sx_p6 (I 16 3 0) := ⟨s 0, hn, h 0 (by omega)⟩
theorem rq_C.p6 {r : Nat} (h : rq_C I J r s L) (hn : s 0 ≤ 6) : sx_p6 (I 5 r 0) := ⟨s 0, hn, h.1⟩
theorem rq_in6 {p n : Nat} (hp : p < n) (hn : n ≤ 6) : sx_in (nI p) 6 = true := sx_in_nI (by omega) (by omega)
theorem rq_W.kd (hW : rq_W s) {p : Nat} (hp : p < s 0) : s (8 + 4 * p) ≤ 5 := (hW.2.2.2.2.2.2.2.2.2 p hp).2.1
theorem rq_W.kt (hW : rq_W s) : ∀ p, p < s 0 → s (8 + 4 * p) ≤ 5 ∧ s (11 + 4 * p) ≤ 1 := fun p hp => ⟨(hW.2.2.2.2.2.2.2.2.2 p hp).2.1, (hW.2.2.2.2.2.2.2.2.2 p hp).2.2.2.2⟩
theorem rq_W.ab (hW : rq_W s) : ∀ p, p < s 0 → s (10 + 4 * p) ≤ 1 := fun p hp => (hW.2.2.2.2.2.2.2.2.2 p hp).2.2.2.1
theorem rq_pow (l : Nat) (h : l ≤ 4) : 18 * 60 ^ l ≤ 233280000 := by
  have e : l = 0 ∨ l = 1 ∨ l = 2 ∨ l = 3 ∨ l = 4 := by omega
  rcases e with rfl | rfl | rfl | rfl | rfl <;> decide
theorem rq_V.le (hW : rq_W s) (hV : rq_V s L) {p : Nat} (hp : p < 6) : L p ≤ 4665600000 := by
  have h1 := hV.2.1 p hp
  have h2 := rq_pow (s 6) hW.2.2.2.2.1
  split at h1 <;> omega
theorem rq_V.lt (hW : rq_W s) (hV : rq_V s L) : ∀ p, p < 6 → L p < 2 ^ 63 := fun p hp => Nat.lt_of_le_of_lt (hV.le hW hp) (by decide)
theorem rq_V.sum (hW : rq_W s) (hV : rq_V s L) : rq_sum L ≤ 27993600000 := by
  have h0 := hV.le hW (p := 0) (by omega); have h1 := hV.le hW (p := 1) (by omega); have h2 := hV.le hW (p := 2) (by omega)
  have h3 := hV.le hW (p := 3) (by omega); have h4 := hV.le hW (p := 4) (by omega); have h5 := hV.le hW (p := 5) (by omega)
  unfold rq_sum; omega
theorem m_dr (hQ : rq_Qi I s) (hW : rq_W s) : v_X9_drawing I J (v_X9_aboard I J) = nI (rq_D s) := by
  rw [m_aboard hQ hW.1 hW.ab, m_drawing hQ hW.1 hW.kt (rq_64 (rq_A_lt s) hW.1)]; rfl
theorem pr_fault (h : rq_Rel I J) : rq_pair sc (d + 20) cd_X8_fault cd_X9_fault [some (.inr (.inr (8, 0)))] [some (.inr (.inr (9, 0)))] I J := .rd h es_X8_fault .rf es_X9_fault .t0 (congrArg Sum.inl h.2.1.2)
theorem pr_status (h : rq_Rel I J) : rq_pair sc (d + 20) cd_X8_status cd_X9_status [some (.inr (.inr (8, 0)))] [some (.inr (.inr (9, 0)))] I J := .rd h es_X8_status .rf es_X9_status .t0 (congrArg Sum.inl h.2.2.2.1)
theorem pr_trace (h : rq_Rel I J) {x : Int32} : rq_pair sc (d + 20) cd_X8_trace cd_X9_trace [some (.inr (.inr (8, 0))), some (.inl x)] [some (.inr (.inr (9, 0))), some (.inl x)] I J := by
  obtain ⟨n, hn, h1, h2, h3⟩ := h.2.2.1
  have e9 : (sx_uI I 9 0 0 (0 : Int32)) 9 0 30 = nI n := h2
  rcases pk_ix x (n := n) (by omega) with hx | hx | ⟨p, hp, rfl⟩
  · refine .rd h (es_X8_trace (fun c => absurd hx c)) .rf (es_X9_trace (fun c => absurd (by rw [e9]; exact m_outN (by omega) (Or.inl hx)) c)) .t0 (congrArg Sum.inl ?_)
    rw [v_X8_trace, v_X9_trace, e9, m_outN (by omega) (Or.inl hx), if_pos hx, if_pos rfl]
  · refine .rd h (es_X8_trace (fun _ c => absurd (by rw [h1]; exact hx) c)) .rf (es_X9_trace (fun c => absurd (by rw [e9]; exact m_outN (by omega) (Or.inr hx)) c)) .t0 (congrArg Sum.inl ?_)
    rw [v_X8_trace, v_X9_trace, e9, m_outN (by omega) (Or.inr hx), h1, if_pos hx, if_pos rfl, ite_self]
  · refine .rd h (es_X8_trace (fun _ _ => sx_in_nI (by omega) (by omega))) .rf (es_X9_trace (fun _ => sx_in_nI (by omega) (by omega))) .t0 (congrArg Sum.inl ?_)
    rw [v_X8_trace, v_X9_trace, e9, m_inN (by omega) hp, h1, if_neg (nI_pos (by omega)), if_neg (nI_ge hp (by omega)), if_neg (by decide), nI_clamp (by omega)]
    exact h3 p hp
theorem c_inStorm (hC : rq_C I J 0 s L) (hW : rq_W s) : v_X5_isInStorm I J 0 = if 0 < s 0 ∧ s 5 = 1 then 1 else 0 := by
  obtain ⟨w0, w1, w2, w3, w6, w7, w4, w5, w9, w10⟩ := hW
  rw [c_isInStorm hC w0 w2 w7 (by omega), rq_st]
  by_cases h0 : s 0 = 0
  · rw [if_neg (by omega), if_neg (by omega)]
  · rw [if_neg h0]
    have w := w9 (by omega)
    by_cases h5 : s 5 = 0
    · rw [if_pos h5, if_neg (fun q => absurd q.2.1 (by decide)), if_neg (by omega)]
    · have w' := w h5
      rw [if_neg h5]
      by_cases h6 : s 5 = 1
      · rw [if_pos ⟨by omega, rfl, w'.mp h6⟩, if_pos ⟨by omega, h6⟩]
      · rw [if_neg (fun q => h6 (w'.mpr q.2.2)), if_neg (fun q => h6 q.2)]
theorem pr_sea (h : rq_Rel I J) {x : Int32} : rq_pair sc (d + 20) cd_X8_sea cd_X9_sea [some (.inr (.inr (8, 0))), some (.inl x)] [some (.inr (.inr (9, 0))), some (.inl x)] I J := by
  obtain ⟨s, L, hC, hQ, hW, hV⟩ := h.2.2.2.2.1
  have hq := hQ.qi.t0 (v := 0)
  refine .rd h es_X8_sea .rf es_X9_sea (by unfold i_X9_sea; (repeat' split) <;> exact .t0) (congrArg Sum.inl ?_)
  rw [v_X8_sea, v_X9_sea, c_isShip hC hW.1, m_isThere hq hW.1, hC.2.2.2.2.1, c_lastHour hC, m_sinks hq, hC.2.2.2.2.2.1, hC.2.2.2.2.2.2.1, hC.2.2.2.2.2.2.2.2.2.1, c_inStorm hC hW, hq 4 (by omega), hq 5 (by omega), hq 6 (by omega), hq 7 (by omega), rq_st]
  by_cases h0 : s 0 = 0
  · rw [if_pos h0, if_pos rfl, if_pos rfl]
  · rw [if_neg h0, if_neg (show ¬ (1 : Int32) = 0 by decide), if_neg (show ¬ (1 : Int32) = 0 by decide), if_neg h0]
    have w5 := hW.2.2.2.2.2.2.2.1
    have e : s 5 = 0 ∨ s 5 = 1 ∨ s 5 = 2 := by omega
    have h0' : 0 < s 0 := by omega
    rcases e with e | e | e <;> simp [e, h0'] <;> rfl
theorem pr_likelihood (h : rq_Rel I J) {x : Int32} : rq_pair sc (d + 20) cd_X8_likelihood cd_X9_likelihood [some (.inr (.inr (8, 0))), some (.inl x)] [some (.inr (.inr (9, 0))), some (.inl x)] I J := by
  obtain ⟨s, L, hC, hQ, hW, hV⟩ := h.2.2.2.2.1
  have hq := hQ.qi.t0 (v := 0)
  rcases rq_per x hW.1 with ⟨p, hp, rfl⟩ | hx
  · refine .rd h (es_X8_likelihood (fun _ => rq_in6 hp hW.1)) .rf (es_X9_likelihood (fun _ => rq_in6 hp hW.1)) (by unfold i_X9_likelihood; (repeat' split) <;> exact .t0) (congrArg (fun z => Sum.inr (Sum.inl z)) ?_)
    have w := hW.1
    rw [v_X8_likelihood, v_X9_likelihood, c_has hC hW.1 hp, m_isPerson hq hW.1 hp, if_neg (show ¬ (1 : Int32) = 0 by decide), if_neg (show ¬ (1 : Int32) = 0 by decide), nI_clamp (by omega), (hC.2.2.2.2.2.2.2.2.2.2 p hp).2.2, hQ.lj p (by omega)]
  · refine .rd h (es_X8_likelihood (fun c => absurd (c_hasnt hC hx) c)) .rf (es_X9_likelihood (fun c => absurd (m_isntPerson hq hW.1 hx) c)) (by unfold i_X9_likelihood; (repeat' split) <;> exact .t0) (congrArg (fun z => Sum.inr (Sum.inl z)) ?_)
    rw [v_X8_likelihood, v_X9_likelihood, c_hasnt hC hx, m_isntPerson hq hW.1 hx, if_pos rfl, if_pos rfl]
theorem pr_kind (h : rq_Rel I J) {x : Int32} : rq_pair sc (d + 20) cd_X8_kind cd_X9_kind [some (.inr (.inr (8, 0))), some (.inl x)] [some (.inr (.inr (9, 0))), some (.inl x)] I J := by
  obtain ⟨s, L, hC, hQ, hW, hV⟩ := h.2.2.2.2.1
  have hq := hQ.qi.t0 (v := 0)
  have w := hW.1
  rcases rq_per x hW.1 with ⟨p, hp, rfl⟩ | hx
  · refine .rd h (es_X8_kind (fun _ => rq_in6 hp hW.1)) .rf (es_X9_kind (fun _ => m_ofin (w := 0) (by omega) (by omega))) (by unfold i_X9_kind; (repeat' split) <;> exact .t0) (congrArg Sum.inl ?_)
    rw [v_X8_kind, v_X9_kind, c_has hC hW.1 hp, m_isPerson hq hW.1 hp, if_neg (show ¬ (1 : Int32) = 0 by decide), if_neg (show ¬ (1 : Int32) = 0 by decide), nI_clamp (by omega), (hC.2.2.2.2.2.2.2.2.2.2 p hp).1, m_of0 hq (by omega)]
  · refine .rd h (es_X8_kind (fun c => absurd (c_hasnt hC hx) c)) .rf (es_X9_kind (fun c => absurd (m_isntPerson hq hW.1 hx) c)) (by unfold i_X9_kind; (repeat' split) <;> exact .t0) (congrArg Sum.inl ?_)
    rw [v_X8_kind, v_X9_kind, c_hasnt hC hx, m_isntPerson hq hW.1 hx, if_pos rfl, if_pos rfl]
theorem pr_likeliest (h : rq_Rel I J) : rq_pair sc (d + 20) cd_X8_likeliest cd_X9_likeliest [some (.inr (.inr (8, 0)))] [some (.inr (.inr (9, 0)))] I J := by
  obtain ⟨s, L, hC, hQ, hW, hV⟩ := h.2.2.2.2.1
  have hq := hQ.qi.t0 (v := 0)
  have w := hW.1
  refine .rd h (es_X8_likeliest (fun _ => hC.p6 w)) .rf (es_X9_likeliest (fun _ => hq.p6 w)) (by unfold i_X9_likeliest; (repeat' split) <;> exact .t0) (congrArg Sum.inl ?_)
  rw [v_X8_likeliest, v_X9_likeliest, c_isShip hC w, m_isThere hq w, c_likeliest hC w (rq_A_lt s) (hV.lt hW), m_aboard hq w hW.ab, m_likeliest hQ.lj (rq_64 (rq_A_lt s) w) (hV.lt hW)]
theorem pr_person (h : rq_Rel I J) {x y : Int32} : rq_pair sc (d + 20) cd_X8_person cd_X9_person [some (.inr (.inr (8, 0))), some (.inl x), some (.inl y)] [some (.inr (.inr (9, 0))), some (.inl x), some (.inl y)] I J := by
  obtain ⟨s, L, hC, hQ, hW, hV⟩ := h.2.2.2.2.1
  have hq := hQ.qi.t0 (v := 0)
  have w := hW.1
  have e2 : rq_same I J (i_X9_person I J x y) J := by
    unfold i_X9_person; repeat' split
    all_goals exact .t0
  rcases rq_per x hW.1 with ⟨p, hp, rfl⟩ | hx
  · refine .rd h (es_X8_person (fun _ _ => rq_in6 hp w) (fun _ _ _ _ _ _ => rq_in6 hp w)) .rf (es_X9_person (fun _ _ _ => m_ofin (w := 1) (by omega) (by omega)) (fun _ _ _ _ => m_ofin (w := 2) (by omega) (by omega)) (fun _ _ _ _ _ => hq.p6 w) (fun _ _ _ _ _ => hq.p6 w) (fun _ _ _ _ _ => hq.p6 w) (fun _ _ _ _ _ => hq.p6 w) (fun _ _ _ _ _ _ => m_ofin (w := 0) (by omega) (by omega))) e2 (congrArg Sum.inl ?_)
    have hD := rq_64 (rq_D_lt s) w
    rw [v_X8_person, v_X9_person, c_has hC w hp, m_isPerson hq w hp, if_neg (show ¬ (1 : Int32) = 0 by decide), if_neg (show ¬ (1 : Int32) = 0 by decide), nI_clamp (by omega), (hC.2.2.2.2.2.2.2.2.2.2 p hp).2.1, m_of1 hq (by omega), m_of2 hq (by omega), m_dr hq hW, c_isAboard hC w (rq_A_lt s) (by omega), c_isDrawing hC w (rq_D_lt s) (by omega), rq_shr _ hD p (by omega), v_X9_drawnTruth, m_dr hq hW, m_has hD (by omega), m_truthOf hq hW.2.1 (by omega) (hW.kd hp), c_truthOf hC w (rq_D_lt s) hW.2.1 hp (hW.kd hp), m_in (y := (0 : Int64)) (z := (3 : Int64)) y 0 3 (by decide) (by decide), rq_A_b s hp]
    have hab := hW.ab p hp
    have ea : s (10 + 4 * p) = 0 ∨ s (10 + 4 * p) = 1 := by omega
    have n10 : ¬ (1 : Int32) = 0 := by decide
    have n20 : ¬ (2 : Int32) = 0 := by decide
    have n21 : ¬ (2 : Int32) = 1 := by decide
    have n30 : ¬ (3 : Int32) = 0 := by decide
    have n31 : ¬ (3 : Int32) = 1 := by decide
    have n32 : ¬ (3 : Int32) = 2 := by decide
    by_cases y0 : y = 0
    · subst y0
      rw [show (if (0 : Int32) < 0 then (0 : Int32) else if (3 : Int32) < 0 then 0 else 1) = 1 by decide, if_neg n10, if_pos rfl, if_pos rfl]
    by_cases y1 : y = 1
    · subst y1
      rw [show (if (1 : Int32) < 0 then (0 : Int32) else if (3 : Int32) < 1 then 0 else 1) = 1 by decide, if_neg n10, if_neg n10, if_pos rfl, if_neg n10, if_pos rfl]
      rcases ea with e | e <;> rw [e] <;> decide
    by_cases y2 : y = 2
    · subst y2
      rw [show (if (2 : Int32) < 0 then (0 : Int32) else if (3 : Int32) < 2 then 0 else 1) = 1 by decide, if_neg n20, if_neg n21, if_pos rfl, if_neg n10, if_neg n20, if_neg n21, if_pos rfl]
      rcases rq_b01 (rq_D s) p with e | e <;> rw [e] <;> decide
    by_cases y3 : y = 3
    · subst y3
      rw [show (if (3 : Int32) < 0 then (0 : Int32) else if (3 : Int32) < 3 then 0 else 1) = 1 by decide, if_neg n30, if_neg n31, if_neg n32, if_pos rfl, if_neg n10, if_neg n30, if_neg n31, if_neg n32]
      rcases rq_b01 (rq_D s) p with e | e <;> rw [e]
      · rw [Nat.zero_mul, if_pos nI_0]; rfl
      · rw [Nat.one_mul, if_neg (show ¬ nI 1 = 0 by decide)]
    rw [if_neg y0, if_neg y1, if_neg y2, if_neg y3]
    by_cases l0 : y < 0
    · rw [if_pos l0, if_pos rfl]
    · obtain ⟨j, hj, rfl⟩ := nI_of l0
      have hj0 : j ≠ 0 := fun q => y0 (by rw [q]; rfl)
      have hj1 : j ≠ 1 := fun q => y1 (by rw [q]; rfl)
      have hj2 : j ≠ 2 := fun q => y2 (by rw [q]; rfl)
      have hj3 : j ≠ 3 := fun q => y3 (by rw [q]; rfl)
      rw [if_neg l0, if_pos (show (3 : Int32) < nI j from nI_lt (a := 3) (by omega) hj), if_pos rfl]
  · refine .rd h (es_X8_person (fun c => absurd (c_hasnt hC hx) c) (fun c => absurd (c_hasnt hC hx) c)) .rf (es_X9_person (fun c => absurd (m_isntPerson hq w hx) c) (fun c => absurd (m_isntPerson hq w hx) c) (fun c => absurd (m_isntPerson hq w hx) c) (fun c => absurd (m_isntPerson hq w hx) c) (fun c => absurd (m_isntPerson hq w hx) c) (fun c => absurd (m_isntPerson hq w hx) c) (fun c => absurd (m_isntPerson hq w hx) c)) e2 (congrArg Sum.inl ?_)
    rw [v_X8_person, v_X9_person, c_hasnt hC hx, m_isntPerson hq hW.1 hx, if_pos rfl, if_pos rfl]
end RQP
