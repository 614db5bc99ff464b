/-! pair: saved, the reference, and both together -/
theorem rq_Bk_cg {A : Nat} {L L' : Nat → Nat} (h : ∀ q, q < 6 → rq_b A q = 1 → L' q = L q) : ∀ (m k : Nat) (o : Option Nat), k + m ≤ 6 → (∀ q, o = some q → L' q = L q) → rq_Bk A L' m k o = rq_Bk A L m k o
  | 0, _, _, _, _ => rfl
  | m + 1, k, o, hk, ho => by
    rw [rq_Bk, rq_Bk]
    by_cases e : rq_b A k = 1
    · rw [if_pos e, if_pos e]
      have e1 : rq_bs L' o k = rq_bs L o k := by
        cases o with
        | none => rfl
        | some q => simp only [rq_bs, ho q rfl, h k (by omega) e]
      rw [e1]
      refine rq_Bk_cg h m (k + 1) _ (by omega) (fun q hq => ?_)
      cases o with
      | none => cases hq; exact h k (by omega) e
      | some z =>
        simp only [rq_bs] at hq
        split at hq
        · cases hq; exact h k (by omega) e
        · cases hq; exact ho _ rfl
    · rw [if_neg e, if_neg e]
      exact rq_Bk_cg h m (k + 1) _ (by omega) ho
theorem rq_M_cg {A : Nat} {L L' : Nat → Nat} (h : ∀ q, q < 6 → rq_b A q = 1 → L' q = L q) : rq_M A L' = rq_M A L := by
  have e : rq_B A L' = rq_B A L := rq_Bk_cg h 6 0 none (by omega) (fun q hq => nomatch hq)
  unfold rq_M
  rw [e]
  cases k : rq_B A L with
  | none => rfl
  | some q => exact h q (rq_B_some k).1 (rq_B_some k).2
theorem rq_sum_up {L : Nat → Nat} {p : Nat} (hp : p < 6) : rq_sum (rq_up L p 0) = rq_sum L - L p := by
  have e : p = 0 ∨ p = 1 ∨ p = 2 ∨ p = 3 ∨ p = 4 ∨ p = 5 := by omega
  rcases e with rfl | rfl | rfl | rfl | rfl | rfl <;> simp [rq_sum, rq_up] <;> omega
theorem rq_f1_eq {s L : Nat → Nat} {p : Nat} (h3 : s 3 ≤ 19) (hp : L p ≤ rq_sum L) : 20 * L p + s 3 * (rq_sum L - L p) = rq_f1 s L p := by
  have e1 : L p * s 3 + L p * (20 - s 3) = L p * 20 := by rw [← Nat.mul_add, Nat.add_sub_cancel' (by omega)]
  have e2 : rq_sum L * s 3 = L p * s 3 + (rq_sum L - L p) * s 3 := by rw [← Nat.add_mul, Nat.add_sub_cancel' hp]
  have e3 : s 3 * (rq_sum L - L p) = (rq_sum L - L p) * s 3 := Nat.mul_comm _ _
  unfold rq_f1 rq_lh; omega
theorem rq_bh_eq {s : Nat → Nat} (a v : Nat) : s 3 * a * 20 + (20 - s 3) * (s 3 * a + (20 - s 3) * v) = rq_bh s a v := by
  unfold rq_bh rq_lh
  rw [Nat.mul_comm (s 3) a, Nat.mul_comm (20 - s 3) v, Nat.mul_comm (a * s 3) 20, Nat.mul_assoc 20 a (s 3)]
def rq_mm (s : Nat → Nat) : Nat := if rq_D s = 0 then 1 else rq_pc (rq_D s)
def rq_be (s L : Nat → Nat) (A : Nat) : Nat := s 3 * rq_sum L + (20 - s 3) * rq_M A L
theorem rq_ab_eq {s L : Nat → Nat} (hW : rq_W s) : rq_ab s L = s 3 * 200 * rq_pc (rq_D s) * rq_sum L + (20 - s 3) * rq_sl (rq_D s) (fun p => rq_be s (rq_lot s (rq_D s) p L) (rq_A s)) (s 0) 0 0 := by
  have w := hW.1
  have h := rq_sl_lin (D := rq_D s) (a := 20 * s 3) (b := 20 - s 3) (h := rq_gl s L) (f := fun p => rq_sum (rq_lot s (rq_D s) p L)) (g := fun p => rq_be s (rq_lot s (rq_D s) p L) (rq_A s)) (fun p _ => by
    show rq_gl s L p = 20 * s 3 * rq_sum (rq_lot s (rq_D s) p L) + (20 - s 3) * rq_be s (rq_lot s (rq_D s) p L) (rq_A s)
    unfold rq_gl rq_be
    rw [← rq_bh_eq, Nat.mul_comm _ 20, Nat.mul_assoc 20]) (s 0) 0 0 0 (by omega)
  rw [rq_sl_S w (rq_D_lt s) hW.2.1] at h
  have e : s 3 * 200 * rq_pc (rq_D s) * rq_sum L = 20 * s 3 * (10 * rq_pc (rq_D s) * rq_sum L) := by
    rw [Nat.mul_assoc 10, ← Nat.mul_assoc (20 * s 3) 10, Nat.mul_assoc (s 3 * 200), Nat.mul_comm 20 (s 3), Nat.mul_assoc (s 3) 20 10]
  rw [e]; exact h
theorem rq_2h_sc {s L : Nat → Nat} (hn : s 0 ≤ 6) : ∃ c, 0 < c ∧ rq_2h s L (10 * rq_mm s) = rq_x c (rq_2h s L (rq_sc s)) ∧ 4000 * rq_mm s * rq_sum L = c * (400 * rq_sum L * rq_sc s) := by
  have hD := rq_64 (rq_D_lt s) hn
  by_cases hm : rq_D s ≠ 0 ∧ s 6 < 4
  · have e1 : rq_sc s = 10 * rq_mm s := by unfold rq_sc rq_mm; rw [if_pos hm, if_neg hm.1]
    refine ⟨1, by omega, ?_, ?_⟩
    · rw [e1, rq_x, Nat.one_mul]
    · rw [e1, Nat.one_mul, Nat.mul_assoc 400, Nat.mul_comm (rq_sum L), ← Nat.mul_assoc, ← Nat.mul_assoc 400 10]
  · have e1 : rq_sc s = 1 := if_neg hm
    have hp : 0 < rq_mm s := by
      unfold rq_mm; split
      · omega
      · exact rq_nz _ hD (by assumption)
    refine ⟨10 * rq_mm s, by omega, ?_, ?_⟩
    · rw [e1, rq_2h, rq_2h, if_neg hm, if_neg hm, ← rq_wf_x (by omega)]
      simp only [rq_x, Nat.one_mul]
    · rw [e1, Nat.mul_one, ← Nat.mul_assoc, Nat.mul_comm (10 * rq_mm s) 400, ← Nat.mul_assoc 400 10]
section RQSW
variable {sc : Nat × (Nat → Int32)} {d : Nat} {I I1 I2 : sx_I} {J J1 J2 : sx_J} {s L : Nat → Nat} {b c v A r : Nat} {x : Nat × Nat}
theorem e_bestOf (hQ : rq_Qi I s) (h3 : s 3 ≤ 19) (hJ : rq_Lj J r L) (hA : A < 64) (hL : ∀ p, p < 6 → L p < 2 ^ 63) (hr : sx_eN 17 r = 6) : sx_E sc (d + 2) cd_X9_bestOf 0 [some (.inr (.inr (9, 0))), some (.inr (.inr (17, r))), some (.inl (nI A)), none, none, none] [] I J (some (.inr (.inl (lN (rq_be s L A)))), I, J) := by
  have hl := m_likeliest (I := I) hJ hA hL
  refine (es_X9_bestOf (fun c => ?_)).w ?_
  · rw [hl] at c ⊢
    cases e : rq_B A L with
    | none => rw [e] at c; exact absurd rfl c
    | some q => rw [hr]; exact sx_in_nI (rq_B_some e).1 (by omega)
  · rw [v_X9_bestOf, hl, m_allOf hJ, hQ 3 (by omega), nI_l (by omega), lN_mul, rq_be, rq_M]
    cases e : rq_B A L with
    | none =>
      have e0 : rq_oI none = Int32.ofInt (-1000000) := rfl
      rw [if_pos e0]
      show lN (s 3 * rq_sum L) + lN 0 = lN (s 3 * rq_sum L + (20 - s 3) * 0)
      rw [lN_add, Nat.mul_zero]
    | some q =>
      have hq := (rq_B_some e).1
      have ne : ¬ rq_oI (some q) = Int32.ofInt (-1000000) := rq_n24 (show q < 2 ^ 31 by omega)
      rw [if_neg ne]
      show lN (s 3 * rq_sum L) + (lN 20 - lN (s 3)) * J 17 r (nI q).toNatClampNeg = lN (s 3 * rq_sum L + (20 - s 3) * L q)
      rw [nI_clamp (by omega), hJ q hq, lN_sub (by omega), lN_mul, lN_add]
theorem lo_ls1 (hW : rq_W s) (hs : rq_sum L ≤ 1399680000) {x1 x3 : Int32} {y4 y10 : Int64} : ∀ (m k : Nat) (x : Nat × Nat) (I : sx_I) (J : sx_J), k + m = s 0 → rq_Qi I s → rq_Lj J 0 L → rq_p9 I J b x → x.1 < 2 ^ 31 → x.2 < 2 ^ 63 → ∃ I1 J1, rq_same I J I1 J1 ∧ rq_p9 I1 J1 b (rq_wf (rq_A s) (rq_f1 s L) m k x) ∧ sx_E sc (d + 10) cd_X9_laySaved 91 [some (.inr (.inr (9, 0))), some (.inl x1), some (.inl (nI (rq_A s))), some (.inl x3), some (.inr (.inl y4)), none, some (.inr (.inl (lN (rq_sum L)))), none, some (.inr (.inl (lN (s 3)))), none, some (.inr (.inl y10)), none, some (.inl (nI k)), none, none] [] I J (none, I1, J1) := by
  have w := hW.1
  have hA := rq_64 (rq_A_lt s) w
  intro m
  induction m with
  | zero =>
    intro k x I J hk hQ hJ hp hx1 hx
    exact ⟨I, J, .rf, hp, ee_X9_laySaved_91 ⟨fun _ => rfl, fun c => absurd (by rw [hQ 0 (by omega)]; exact nI_le (by omega) (by omega)) c⟩⟩
  | succ m ih =>
    intro k x I J hk hQ hJ hp hx1 hx
    have nc : ¬ I 16 3 0 ≤ nI k := by rw [hQ 0 (by omega)]; exact nI_ge (by omega) (by omega)
    rw [rq_wf]
    rcases rq_b01 (rq_A s) k with e | e
    · rw [if_neg (by omega)]
      obtain ⟨I1, J1, h1, h2, h3⟩ := ih (k + 1) x I J (by omega) hQ hJ hp hx1 hx
      refine ⟨I1, J1, h1, h2, ee_X9_laySaved_91 ⟨fun c => absurd c nc, fun _ => ⟨_, _, _, es_X9_has.v (m_has hA (by omega)), ee_X9_laySaved_108 ⟨fun _ => ee_X9_laySaved_144 ?_, fun c => absurd (by rw [e]; rfl) c⟩⟩⟩⟩
      rw [nI_1]; exact h3
    · rw [if_pos e]
      have b1 := rq_le_sum (L := L) (p := k) (by omega)
      have b2 := rq_lh_le (a := rq_sum L) (v := L k) hW.2.2.2.1 (Nat.le_refl _) b1
      have b3 : rq_f1 s L k < 2 ^ 63 := by unfold rq_f1; omega
      have hz : (2 : Int32) + nI k = nI (2 + k) := by rw [show (2 : Int32) = nI 2 from rfl, nI_add]
      have sm : rq_same I J (i_X9_tries I J ((2 : Int32) + nI k) (lN (rq_f1 s L k))) (j_X9_tries I J ((2 : Int32) + nI k) (lN (rq_f1 s L k))) := .tries
      obtain ⟨I1, J1, h1, h2, h3⟩ := ih (k + 1) _ _ _ (by omega) (hQ.sm sm) (hJ.sm sm) (hp.tries hz hx1 b3 hx) (rq_w_1 (by omega) hx1) (rq_w_lt b3 hx)
      refine ⟨I1, J1, sm.tr h1, h2, ee_X9_laySaved_91 ⟨fun c => absurd c nc, fun _ => ⟨_, _, _, es_X9_has.v (m_has hA (by omega)), ee_X9_laySaved_108 ⟨fun c => absurd c (by rw [e]; exact nn1), fun _ => ⟨rq_in6 (n := s 0) (by omega) w, rq_in6 (n := s 0) (by omega) w, _, _, es_X9_tries, ee_X9_laySaved_144 ?_⟩⟩⟩⟩⟩
      rw [nI_1, nI_clamp (by omega), hJ k (by omega), lN_sub b1, show (20 : Int64) = lN 20 from rfl, lN_mul, lN_mul, lN_add, rq_f1_eq hW.2.2.2.1 b1]
      exact h3
theorem rq_p9.byLot {r1 : Nat} {z y : Int32} (h : rq_p9 I J b x) : rq_p9 I (j_X9_byLot I J r1 3 z y) b x := ⟨h.1, (m_byLot_ne (by omega)).trans h.2.1, (m_byLot_ne (by omega)).trans h.2.2⟩
theorem lo_lsL (hW : rq_W s) (hV : rq_V s L) (hQ : rq_Qi I s) {x1 : Int32} {y4 y6 y8 y10 : Int64} : ∀ (m k y : Nat) (J : sx_J), k + m = s 0 → rq_Lj J 0 L → rq_p9 I J b x → ∃ J1, rq_same I J I J1 ∧ rq_p9 I J1 b x ∧ ∀ res, sx_E sc (d + 10) cd_X9_laySaved 219 [some (.inr (.inr (9, 0))), some (.inl x1), some (.inl (nI (rq_A s))), some (.inl (nI (rq_D s))), some (.inr (.inl y4)), none, some (.inr (.inl y6)), none, some (.inr (.inl y8)), none, some (.inr (.inl y10)), none, some (.inr (.inl (lN (rq_sl (rq_D s) (fun p => rq_be s (rq_lot s (rq_D s) p L) (rq_A s)) m k y)))), none, some (.inl (nI (s 0)))] [] I J1 res → sx_E sc (d + 10) cd_X9_laySaved 219 [some (.inr (.inr (9, 0))), some (.inl x1), some (.inl (nI (rq_A s))), some (.inl (nI (rq_D s))), some (.inr (.inl y4)), none, some (.inr (.inl y6)), none, some (.inr (.inl y8)), none, some (.inr (.inl y10)), none, some (.inr (.inl (lN y))), none, some (.inl (nI k))] [] I J res := by
  have w := hW.1
  have hA := rq_64 (rq_A_lt s) w
  have hD := rq_64 (rq_D_lt s) w
  intro m
  induction m with
  | zero =>
    intro k y J hk hJ hp
    obtain rfl : k = s 0 := by omega
    exact ⟨J, .rf, hp, fun res h => h⟩
  | succ m ih =>
    intro k y J hk hJ hp
    have nc : ¬ I 16 3 0 ≤ nI k := by rw [hQ 0 (by omega)]; exact nI_ge (by omega) (by omega)
    rw [rq_sl]
    rcases rq_b01 (rq_D s) k with e | e
    · rw [if_neg (by omega)]
      obtain ⟨J1, h1, h2, h3⟩ := ih (k + 1) y J (by omega) hJ hp
      refine ⟨J1, h1, h2, fun res hr => ee_X9_laySaved_219 ⟨fun c => absurd c nc, fun _ => ⟨_, _, _, es_X9_has.v (m_has hD (by omega)), ee_X9_laySaved_236 ⟨fun _ => ee_X9_laySaved_268 ?_, fun c => absurd (by rw [e]; rfl) c⟩⟩⟩⟩
      rw [nI_1]; exact h3 res hr
    · rw [if_pos e]
      have hl3 : rq_Lj (j_X9_byLot I J 0 3 (nI (rq_D s)) (nI k)) 3 (rq_lot s (rq_D s) k L) := m_byLot hQ w hW.2.1 (fun q hq => hW.kd hq) hD (by omega) hJ hV.1
      have sm : rq_same I J I (j_X9_byLot I J 0 3 (nI (rq_D s)) (nI k)) := .byLot (Or.inr rfl)
      obtain ⟨J1, h1, h2, h3⟩ := ih (k + 1) (y + rq_be s (rq_lot s (rq_D s) k L) (rq_A s)) _ (by omega) (hJ.sm sm) hp.byLot
      refine ⟨J1, sm.tr h1, h2, fun res hr => ee_X9_laySaved_219 ⟨fun c => absurd c nc, fun _ => ⟨_, _, _, es_X9_has.v (m_has hD (by omega)), ee_X9_laySaved_236 ⟨fun c => absurd c (by rw [e]; exact nn1), fun _ => ⟨_, _, es_X9_byLot (hQ.p6 w), ee_X9_laySaved_254 ⟨_, _, _, e_bestOf hQ hW.2.2.2.1 hl3 hA (rq_lotlt hW hV _ _) rfl, ee_X9_laySaved_265 (ee_X9_laySaved_268 ?_)⟩⟩⟩⟩⟩⟩
      rw [nI_1, lN_add]; exact h3 res hr
theorem lo_ls2 (hW : rq_W s) (hV : rq_V s L) (hs : rq_sum L ≤ 1399680000) (hc : c ≤ 6) {x1 x3 : Int32} {o14 : Option sx_V} : ∀ (m k : Nat) (x : Nat × Nat) (I : sx_I) (J : sx_J), k + m = s 0 → rq_Qi I s → rq_Lj J 0 L → rq_p9 I J b x → x.1 < 2 ^ 31 → x.2 < 2 ^ 63 → ∃ I1 J1, rq_same I J I1 J1 ∧ rq_p9 I1 J1 b (rq_wf (rq_A s) (fun p => 10 * c * rq_f2 s L p) m k x) ∧ sx_E sc (d + 10) cd_X9_laySaved 300 [some (.inr (.inr (9, 0))), some (.inl x1), some (.inl (nI (rq_A s))), some (.inl x3), some (.inr (.inl (lN c))), none, some (.inr (.inl (lN (rq_sum L)))), none, some (.inr (.inl (lN (s 3)))), none, some (.inr (.inl (lN (20 - s 3)))), none, some (.inl (nI k)), none, o14] [] I J (none, I1, J1) := by
  have w := hW.1
  have hA := rq_64 (rq_A_lt s) w
  intro m
  induction m with
  | zero =>
    intro k x I J hk hQ hJ hp hx1 hx
    exact ⟨I, J, .rf, hp, ee_X9_laySaved_300 ⟨fun _ => rfl, fun c => absurd (by rw [hQ 0 (by omega)]; exact nI_le (by omega) (by omega)) c⟩⟩
  | succ m ih =>
    intro k x I J hk hQ hJ hp hx1 hx
    have nc : ¬ I 16 3 0 ≤ nI k := by rw [hQ 0 (by omega)]; exact nI_ge (by omega) (by omega)
    rw [rq_wf]
    rcases rq_b01 (rq_A s) k with e | e
    · rw [if_neg (by omega)]
      obtain ⟨I1, J1, h1, h2, h3⟩ := ih (k + 1) x I J (by omega) hQ hJ hp hx1 hx
      refine ⟨I1, J1, h1, h2, ee_X9_laySaved_300 ⟨fun c => absurd c nc, fun _ => ⟨_, _, _, es_X9_has.v (m_has hA (by omega)), ee_X9_laySaved_317 ⟨fun _ => ee_X9_laySaved_396 ?_, fun c => absurd (by rw [e]; rfl) c⟩⟩⟩⟩
      rw [nI_1]; exact h3
    · rw [if_pos e]
      have b1 := rq_le_sum (L := L) (p := k) (by omega)
      have b2 := rq_f2_le hW hs (p := k) (by omega)
      have b4 : 10 * c * rq_f2 s L k ≤ 60 * rq_f2 s L k := Nat.mul_le_mul_right _ (by omega)
      have b3 : 10 * c * rq_f2 s L k < 2 ^ 63 := by omega
      have hz : (2 : Int32) + nI k = nI (2 + k) := by rw [show (2 : Int32) = nI 2 from rfl, nI_add]
      have cl : (nI k).toNatClampNeg = k := nI_clamp (by omega)
      have hk6 : k < 6 := by omega
      have sm1 : rq_same I J I (sx_uJ (j_X9_laySome I J) 17 2 k (0 : Int64)) := rq_same.laySome.tr (.uJ (by unfold rq_scr; omega))
      have hJ1 := hJ.sm sm1
      have hJ2 : rq_Lj (sx_uJ (j_X9_laySome I J) 17 2 k (0 : Int64)) 2 (rq_up L k 0) := fun p hp => by
        rw [sx_uJ, rq_up]
        by_cases q : p = k
        · rw [if_pos ⟨rfl, rfl, q⟩, if_pos q]; rfl
        · rw [if_neg (fun z => q z.2.2), if_neg q]; exact m_laySome hJ p hp
      have hp1 : rq_p9 I (sx_uJ (j_X9_laySome I J) 17 2 k (0 : Int64)) b x := hp
      have hu : ∀ p, p < 6 → rq_up L k 0 p < 2 ^ 63 := fun p hp => by
        have := hV.lt hW p hp
        unfold rq_up; split <;> omega
      have eb : rq_be s (rq_up L k 0) (rq_of (rq_A s) k) = s 3 * (rq_sum L - L k) + (20 - s 3) * rq_M (rq_of (rq_A s) k) L := by
        rw [rq_be, rq_sum_up hk6, rq_M_cg (L := L) (fun q hq hb => rq_up_ne (fun z => by rw [z, rq_of_b _ hA k hk6 k hk6, if_pos rfl] at hb; omega))]
      have sm2 : rq_same I (sx_uJ (j_X9_laySome I J) 17 2 k (0 : Int64)) (i_X9_tries I (sx_uJ (j_X9_laySome I J) 17 2 k (0 : Int64)) ((2 : Int32) + nI k) (lN (10 * c * rq_f2 s L k))) (j_X9_tries I (sx_uJ (j_X9_laySome I J) 17 2 k (0 : Int64)) ((2 : Int32) + nI k) (lN (10 * c * rq_f2 s L k))) := .tries
      obtain ⟨I1, J1, h1, h2, h3⟩ := ih (k + 1) _ _ _ (by omega) (hQ.sm sm2) (hJ1.sm sm2) (hp1.tries hz hx1 b3 hx) (rq_w_1 (by omega) hx1) (rq_w_lt b3 hx)
      have ev : (10 : Int64) * lN c * (lN (L k) * 400 + lN (rq_sum L - L k) * lN (s 3) * 20 + lN (20 - s 3) * lN (rq_be s (rq_up L k 0) (rq_of (rq_A s) k))) = lN (10 * c * rq_f2 s L k) := by
        rw [show (400 : Int64) = lN 400 from rfl, show (20 : Int64) = lN 20 from rfl, show (10 : Int64) = lN 10 from rfl]
        simp only [lN_mul, lN_add]
        rw [eb, rq_f2, ← rq_bh_eq, Nat.mul_comm (L k) 400, Nat.mul_comm (rq_sum L - L k) (s 3), Nat.add_assoc]
      refine ⟨I1, J1, (sm1.tr sm2).tr h1, h2, ee_X9_laySaved_300 ⟨fun c => absurd c nc, fun _ => ⟨_, _, _, es_X9_has.v (m_has hA (by omega)), ee_X9_laySaved_317 ⟨fun c => absurd c (by rw [e]; exact nn1), fun _ => ⟨_, _, es_X9_laySome, ee_X9_laySaved_324 ⟨rq_in6 (n := s 0) (by omega) w, ?_⟩⟩⟩⟩⟩⟩
      rw [cl]
      refine ee_X9_laySaved_332 ⟨rq_in6 (n := s 0) (by omega) w, rq_in6 (n := s 0) (by omega) w, lN (rq_be s (rq_up L k 0) (rq_of (rq_A s) k)), I, sx_uJ (j_X9_laySome I J) 17 2 k (0 : Int64), ?_, ee_X9_laySaved_390 ⟨_, _, es_X9_tries, ee_X9_laySaved_396 ?_⟩⟩
      · rw [rq_and _ hA k hk6]
        exact e_bestOf hQ hW.2.2.2.1 hJ2 (rq_of_lt _ hA k hk6) hu rfl
      · rw [nI_1, cl, hJ1 k hk6, lN_sub b1, ev]
        exact h3
theorem e_lsIn (hQ : rq_Qi I s) (hW : rq_W s) (hJ : rq_Lj J 0 L) {x1 : Int32} {res : Option sx_V × sx_I × sx_J} (k : sx_E sc (d + 14) cd_X9_laySaved 63 [some (.inr (.inr (9, 0))), some (.inl x1), some (.inl (nI (rq_A s))), some (.inl (nI (rq_D s))), some (.inr (.inl (lN (rq_mm s)))), none, some (.inr (.inl (lN (rq_sum L)))), none, some (.inr (.inl (lN (s 3)))), none, some (.inr (.inl (lN (20 - s 3)))), none, none, none, none] [] (sx_uI I 9 0 24 (Int32.ofInt (-1000000))) (sx_uJ J 9 0 22 (0 : Int64)) res) : sx_E sc (d + 14) cd_X9_laySaved 0 [some (.inr (.inr (9, 0))), some (.inl x1), none, none, none, none, none, none, none, none, none, none, none, none, none] [] I J res := by
  have w := hW.1
  have hA := rq_64 (rq_A_lt s) w
  have hD := rq_64 (rq_D_lt s) w
  have w3 := hW.2.2.2.1
  have hpc := rq_pc_le (rq_D s)
  have k24 : sx_E sc (d + 14) cd_X9_laySaved 24 [some (.inr (.inr (9, 0))), some (.inl x1), some (.inl (nI (rq_A s))), some (.inl (nI (rq_D s))), none, none, none, none, none, none, none, none, none, none, none] [.inr (.inl (lN (rq_mm s)))] I J res := by
    refine ee_X9_laySaved_24 ⟨_, _, _, es_X9_allOf.w (m_allOf hJ), ee_X9_laySaved_33 (ee_X9_laySaved_58 ?_)⟩
    rw [hQ 3 (by omega), nI_l (by omega), show (20 : Int64) = lN 20 from rfl, lN_sub (by omega)]
    exact k
  refine ee_X9_laySaved_0 ⟨_, _, _, (es_X9_aboard (hQ.p6 w)).v (m_aboard hQ w hW.ab), ee_X9_laySaved_4 ⟨_, _, _, (es_X9_drawing (hQ.p6 w)).v (w := nI (rq_D s)) (m_drawing hQ w hW.kt hA), ee_X9_laySaved_10 ⟨fun c => ?_, fun c => ⟨_, _, _, es_X9_bits.v (rq_bits hD), ee_X9_laySaved_23 ?_⟩⟩⟩⟩
  · have e : rq_mm s = 1 := if_pos ((rq_nI0 (by omega)).mp c)
    rw [e] at k24; exact k24
  · have e : rq_mm s = rq_pc (rq_D s) := if_neg (fun q => c (by show nI (rq_D s) = 0; rw [q]; rfl))
    rw [nI_l (by omega)]; rw [e] at k24; exact k24
theorem e_ls1 (hW : rq_W s) (hV : rq_V s L) (h5 : s 5 ≠ 0) (hQ : rq_Qi I s) (hJ : rq_Lj J 0 L) : ∃ I1 J1, rq_same I J I1 J1 ∧ rq_p9 I1 J1 (20 * rq_sum L) (rq_1h s L) ∧ sx_E sc (d + 14) cd_X9_laySaved 0 [some (.inr (.inr (9, 0))), some (.inl (1 : Int32)), none, none, none, none, none, none, none, none, none, none, none, none, none] [] I J (none, I1, J1) := by
  have w := hW.1
  have hs := hV.sm5 hW h5
  have b2 := rq_lh_le (a := rq_sum L) (v := 0) hW.2.2.2.1 (Nat.le_refl _) (Nat.zero_le _)
  have e0 : s 3 * rq_sum L = rq_lh s (rq_sum L) 0 := by unfold rq_lh; rw [Nat.zero_mul, Nat.add_zero, Nat.mul_comm]
  have sm1 : rq_same I J (sx_uI I 9 0 24 (Int32.ofInt (-1000000))) (sx_uJ (sx_uJ J 9 0 22 (0 : Int64)) 9 0 23 (lN (20 * rq_sum L))) := ((rq_same.uI (rq_s9 (by omega))).tr (.uJ (rq_s9 (by omega)))).tr (.uJ (rq_s9 (by omega)))
  have hp := rq_p9.first (I := sx_uI I 9 0 24 (Int32.ofInt (-1000000))) (J := sx_uJ (sx_uJ J 9 0 22 (0 : Int64)) 9 0 23 (lN (20 * rq_sum L))) (b := 20 * rq_sum L) (v := rq_lh s (rq_sum L) 0) rfl rfl
  have sm2 : rq_same (sx_uI I 9 0 24 (Int32.ofInt (-1000000))) (sx_uJ (sx_uJ J 9 0 22 (0 : Int64)) 9 0 23 (lN (20 * rq_sum L))) _ _ := .tries (z := 0) (y := lN (rq_lh s (rq_sum L) 0))
  obtain ⟨I1, J1, h1, h2, h3⟩ := lo_ls1 (sc := sc) (d := d + 4) (x1 := 1) (x3 := nI (rq_D s)) (y4 := lN (rq_mm s)) (y10 := lN (20 - s 3)) hW hs (s 0) 0 _ _ _ (by omega) ((hQ.sm sm1).sm sm2) ((hJ.sm sm1).sm sm2) hp (by show (0 : Nat) < 2 ^ 31; omega) (by show rq_lh s (rq_sum L) 0 < 2 ^ 63; omega)
  refine ⟨I1, J1, (sm1.tr sm2).tr h1, h2, e_lsIn hQ hW hJ (ee_X9_laySaved_63 ⟨fun _ => ?_, fun c => absurd rfl c⟩)⟩
  rw [show (20 : Int64) = lN 20 from rfl, lN_mul]
  refine ee_X9_laySaved_78 ⟨_, _, es_X9_tries, ee_X9_laySaved_88 ?_⟩
  rw [lN_mul, e0]
  exact h3
theorem e_ls2 (hW : rq_W s) (hV : rq_V s L) (h5 : s 5 ≠ 0) (hQ : rq_Qi I s) (hJ : rq_Lj J 0 L) {x1 : Int32} (hx1 : ¬ x1 = 1) : ∃ I1 J1, rq_same I J I1 J1 ∧ rq_p9 I1 J1 (4000 * rq_mm s * rq_sum L) (rq_2h s L (10 * rq_mm s)) ∧ sx_E sc (d + 14) cd_X9_laySaved 0 [some (.inr (.inr (9, 0))), some (.inl x1), none, none, none, none, none, none, none, none, none, none, none, none, none] [] I J (none, I1, J1) := by
  have w := hW.1
  have hA := rq_64 (rq_A_lt s) w
  have hD := rq_64 (rq_D_lt s) w
  have w6 := hW.2.2.2.2.1
  have hs := hV.sm5 hW h5
  have b0 := rq_v0_le hW hs
  have b1 := rq_ab_le hW hs
  have hpc := rq_pc_le (rq_D s)
  have hc : rq_mm s ≤ 6 := by unfold rq_mm; split <;> omega
  have b2 : 10 * rq_mm s * rq_v0 s L ≤ 60 * rq_v0 s L := Nat.mul_le_mul_right _ (by omega)
  have e0 : lN (10 * rq_mm s) * (lN (s 3 * rq_sum L * 20) + lN (20 - s 3) * lN (rq_be s L (rq_A s))) = lN (10 * rq_mm s * rq_v0 s L) := by
    rw [lN_mul, lN_add, lN_mul, rq_v0, ← rq_bh_eq, rq_be]
  have sm1 : rq_same I J (sx_uI I 9 0 24 (Int32.ofInt (-1000000))) (sx_uJ (sx_uJ J 9 0 22 (0 : Int64)) 9 0 23 (lN (4000 * rq_mm s * rq_sum L))) := ((rq_same.uI (rq_s9 (by omega))).tr (.uJ (rq_s9 (by omega)))).tr (.uJ (rq_s9 (by omega)))
  have hp := rq_p9.first (I := sx_uI I 9 0 24 (Int32.ofInt (-1000000))) (J := sx_uJ (sx_uJ J 9 0 22 (0 : Int64)) 9 0 23 (lN (4000 * rq_mm s * rq_sum L))) (b := 4000 * rq_mm s * rq_sum L) (v := 10 * rq_mm s * rq_v0 s L) rfl rfl
  have sm2 : rq_same (sx_uI I 9 0 24 (Int32.ofInt (-1000000))) (sx_uJ (sx_uJ J 9 0 22 (0 : Int64)) 9 0 23 (lN (4000 * rq_mm s * rq_sum L))) _ _ := .tries (z := 0) (y := lN (10 * rq_mm s * rq_v0 s L))
  have hx0 : (0, 10 * rq_mm s * rq_v0 s L).2 < 2 ^ 63 := by show 10 * rq_mm s * rq_v0 s L < 2 ^ 63; omega
  have hq1 := hQ.sm sm1
  have hj1 := hJ.sm sm1
  have hq2 := hq1.sm sm2
  have hj2 := hj1.sm sm2
  generalize eI : i_X9_tries (sx_uI I 9 0 24 (Int32.ofInt (-1000000))) (sx_uJ (sx_uJ J 9 0 22 (0 : Int64)) 9 0 23 (lN (4000 * rq_mm s * rq_sum L))) 0 (lN (10 * rq_mm s * rq_v0 s L)) = It at hp sm2 hq2
  generalize eJ : j_X9_tries (sx_uI I 9 0 24 (Int32.ofInt (-1000000))) (sx_uJ (sx_uJ J 9 0 22 (0 : Int64)) 9 0 23 (lN (4000 * rq_mm s * rq_sum L))) 0 (lN (10 * rq_mm s * rq_v0 s L)) = Jt at hp sm2 hj2
  have k0 : ∀ {res : Option sx_V × sx_I × sx_J}, sx_E sc (d + 14) cd_X9_laySaved 198 [some (.inr (.inr (9, 0))), some (.inl x1), some (.inl (nI (rq_A s))), some (.inl (nI (rq_D s))), some (.inr (.inl (lN (rq_mm s)))), none, some (.inr (.inl (lN (rq_sum L)))), none, some (.inr (.inl (lN (s 3)))), none, some (.inr (.inl (lN (20 - s 3)))), none, none, none, none] [] It Jt res → sx_E sc (d + 14) cd_X9_laySaved 0 [some (.inr (.inr (9, 0))), some (.inl x1), none, none, none, none, none, none, none, none, none, none, none, none, none] [] I J res := fun k => by
    refine e_lsIn hQ hW hJ (ee_X9_laySaved_63 ⟨fun c => absurd c hx1, fun _ => ?_⟩)
    rw [show (Int64.ofInt (4000)) = lN 4000 from rfl, lN_mul, lN_mul]
    refine ee_X9_laySaved_164 ⟨_, _, _, e_bestOf hq1 hW.2.2.2.1 hj1 hA (hV.lt hW) rfl, ee_X9_laySaved_192 ⟨_, _, es_X9_tries, ?_⟩⟩
    rw [show (20 : Int64) = lN 20 from rfl, show (10 : Int64) = lN 10 from rfl, lN_mul, lN_mul, lN_mul, e0, eI, eJ]
    exact k
  by_cases hm : rq_D s ≠ 0 ∧ s 6 < 4
  · have em : rq_mm s = rq_pc (rq_D s) := if_neg hm.1
    obtain ⟨J1, g1, g2, g3⟩ := lo_lsL (sc := sc) (d := d + 4) (x1 := x1) (y4 := lN (rq_mm s)) (y6 := lN (rq_sum L)) (y8 := lN (s 3)) (y10 := lN (20 - s 3)) hW hV hq2 (s 0) 0 0 Jt (by omega) hj2 hp
    have sm3 : rq_same It J1 _ _ := .tries (z := 1) (y := lN (rq_ab s L))
    obtain ⟨I2, J2, h1, h2, h3⟩ := lo_ls2 (sc := sc) (d := d + 4) (c := rq_mm s) (x1 := x1) (x3 := nI (rq_D s)) (o14 := some (.inl (nI (s 0)))) hW hV hs hc (s 0) 0 _ _ _ (by omega) ((hq2.sm g1).sm sm3) ((hj2.sm g1).sm sm3) (g2.tries (c := 1) (z := 1) rfl (by show (0 : Nat) < 2 ^ 31; omega) (show rq_ab s L < 2 ^ 63 by omega) hx0) (rq_w_1 (by omega) (by show (0 : Nat) < 2 ^ 31; omega)) (rq_w_lt (by omega) hx0)
    refine ⟨I2, J2, (((sm1.tr sm2).tr g1).tr sm3).tr h1, ?_, k0 (ee_X9_laySaved_198 ⟨fun c => absurd ((rq_nI0 (by omega)).mp c) hm.1, fun _ => ⟨fun c => absurd c (by rw [hq2 6 (by omega)]; exact nI_ge (b := 4) hm.2 (by omega)), fun _ => g3 _ (ee_X9_laySaved_219 ⟨fun _ => ⟨_, _, es_X9_tries, ee_X9_laySaved_297 ?_⟩, fun c => absurd (by rw [hq2 0 (by omega)]; exact nI_le (by omega) (by omega)) c⟩)⟩⟩)⟩
    · rw [rq_2h, if_pos hm]; exact h2
    · rw [show (200 : Int64) = lN 200 from rfl, lN_mul, lN_mul, lN_mul, lN_mul, lN_add, show s 3 * 200 * rq_mm s * rq_sum L + (20 - s 3) * rq_sl (rq_D s) (fun p => rq_be s (rq_lot s (rq_D s) p L) (rq_A s)) (s 0) 0 0 = rq_ab s L by rw [rq_ab_eq hW, em]]
      exact h3
  · obtain ⟨I2, J2, h1, h2, h3⟩ := lo_ls2 (sc := sc) (d := d + 4) (c := rq_mm s) (x1 := x1) (x3 := nI (rq_D s)) (o14 := none) hW hV hs hc (s 0) 0 _ _ _ (by omega) hq2 hj2 hp (by show (0 : Nat) < 2 ^ 31; omega) hx0
    have k297 := ee_X9_laySaved_297 (o12 := none) h3
    refine ⟨I2, J2, (sm1.tr sm2).tr h1, ?_, k0 (ee_X9_laySaved_198 ⟨fun _ => k297, fun c => ⟨fun _ => k297, fun c2 => ?_⟩⟩)⟩
    · rw [rq_2h, if_neg hm]; exact h2
    · refine absurd ⟨fun q => c (by rw [q]; rfl), ?_⟩ hm
      rw [hq2 6 (by omega)] at c2
      exact Nat.lt_of_not_le (fun q => c2 (nI_le (a := 4) q (by omega)))
end RQSW
