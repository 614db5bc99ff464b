/-! pairs: tells, sure -/
def rq_tl (s L : Nat → Nat) : Nat → Nat → Int32 → Int32
  | 0, _, x => x
  | m + 1, k, x => rq_tl s L m (k + 1) (if rq_b (rq_D s) k = 1 ∧ 0 < rq_sum (rq_lot s (rq_D s) k L) then x ||| (if rq_oI (rq_B (rq_A s) (rq_lot s (rq_D s) k L)) = rq_oI (rq_B (rq_A s) L) then 0 else (1 : Int32) <<< (nI k &&& 31)) else x)
section RQTS
variable {sc : Nat × (Nat → Int32)} {d : Nat} {I I1 I2 : sx_I} {J J1 J2 : sx_J} {s L : Nat → Nat} {p k : Nat}
theorem rq_lpos {n : Nat} (h : n < 2 ^ 63) : lN n ≤ 0 ↔ n = 0 := by
  rw [show (0 : Int64) = lN 0 from rfl, pk_lLE h (by omega)]; omega
theorem rq_lotlt (hW : rq_W s) (hV : rq_V s L) (D nm : Nat) : ∀ p, p < 6 → rq_lot s D nm L p < 2 ^ 63 := fun p hp => by
  have h1 := rq_lot_le (D := D) (L := L) hW.2.1 nm p
  have h2 := hV.le hW hp
  omega
theorem lo_tellsC (hW : rq_W s) (hV : rq_V s L) : ∀ (m k : Nat) (x : Int32) (I : sx_I) (J : sx_J), k + m = s 0 → rq_C I J 0 s L → ∃ I1 J1, rq_same I J I1 J1 ∧ sx_E sc (d + 10) cd_X2_whoTells 10 [some (.inr (.inr (2, 0))), some (.inr (.inr (5, 0))), some (.inl (rq_oI (rq_B (rq_A s) L))), some (.inl x), some (.inl (nI k))] [] I J (some (.inl (rq_tl s L m k x)), I1, J1) := by
  have w := hW.1
  have hs2 := hV.sum hW
  intro m
  induction m with
  | zero =>
    intro k x I J hk hC
    exact ⟨I, J, .rf, ee_X2_whoTells_10 ⟨fun _ => rfl, fun c => absurd (by rw [hC.1]; exact nI_le (by omega) (by omega)) c⟩⟩
  | succ m ih =>
    intro k x I J hk hC
    have nc : ¬ I 5 0 0 ≤ nI k := by rw [hC.1]; exact nI_ge (by omega) (by omega)
    have b2 := rq_lot_sum (D := rq_D s) (L := L) hW.2.1 k
    rw [rq_tl]
    rcases rq_b01 (rq_D s) k with e | e
    · rw [if_neg (by omega)]
      obtain ⟨I1, J1, h1, h2⟩ := ih (k + 1) x I J (by omega) hC
      refine ⟨I1, J1, h1, ee_X2_whoTells_10 ⟨fun c => absurd c nc, fun _ => ⟨_, _, _, es_X5_isDrawing.v (c_isDrawing hC w (rq_D_lt s) (by omega)), ee_X2_whoTells_25 ⟨fun _ => ee_X2_whoTells_78 ?_, fun c => absurd (by rw [e]; rfl) c⟩⟩⟩⟩
      rw [nI_1]; exact h2
    · have e25 : ∀ {res}, sx_E sc (d + 10) cd_X2_whoTells 34 [some (.inr (.inr (2, 0))), some (.inr (.inr (5, 0))), some (.inl (rq_oI (rq_B (rq_A s) L))), some (.inl x), some (.inl (nI k))] [.inr (.inl (lN (rq_sum (rq_lot s (rq_D s) k L))))] I J res → sx_E sc (d + 10) cd_X2_whoTells 10 [some (.inr (.inr (2, 0))), some (.inr (.inr (5, 0))), some (.inl (rq_oI (rq_B (rq_A s) L))), some (.inl x), some (.inl (nI k))] [] I J res := fun kk => ee_X2_whoTells_10 ⟨fun c => absurd c nc, fun _ => ⟨_, _, _, es_X5_isDrawing.v (c_isDrawing hC w (rq_D_lt s) (by omega)), ee_X2_whoTells_25 ⟨fun c => absurd c (by rw [e]; exact nn1), fun _ => ⟨_, _, _, (es_X5_allIfNamed (hC.p6 w)).w (c_allIfNamed hC w (rq_D_lt s) hW.2.1 (fun q hq => hW.kd hq) hV.1 (by omega)), kk⟩⟩⟩⟩
      by_cases hz : rq_sum (rq_lot s (rq_D s) k L) = 0
      · rw [if_neg (by omega)]
        obtain ⟨I1, J1, h1, h2⟩ := ih (k + 1) x I J (by omega) hC
        refine ⟨I1, J1, h1, e25 (ee_X2_whoTells_34 ⟨fun _ => ee_X2_whoTells_78 ?_, fun c => absurd ((rq_lpos (by omega)).mpr hz) c⟩)⟩
        rw [nI_1]; exact h2
      · rw [if_pos ⟨e, by omega⟩]
        have hR2 : rq_R (i_X5_becomes I J 28 0) (j_X5_becomes I J 28 0) 28 s (s 4) (s 6) (rq_A s) (rq_D s) (rq_st s) L := c_becomes hC w
        have hR3 := c_learnLot (nm := k) hR2 w (rq_D_lt s) hW.2.1 (fun q hq => hW.kd hq) (by omega)
        have sm1 : rq_same I J (i_X5_becomes I J 28 0) (j_X5_becomes I J 28 0) := .becomes (Or.inr (by omega))
        have sm2 : rq_same (i_X5_becomes I J 28 0) (j_X5_becomes I J 28 0) (i_X5_becomes I J 28 0) (j_X5_learnLot (i_X5_becomes I J 28 0) (j_X5_becomes I J 28 0) 28 (nI k)) := .learnLot (Or.inr (by omega))
        have hC2 := hC.sm (sm1.tr sm2)
        have hl := c_likeliest hR3 w (rq_A_lt s) (rq_lotlt hW hV _ _)
        have hp6 : sx_p6 (i_X5_becomes I J 28 0 5 28 0) := ⟨s 0, w, hR2.1⟩
        obtain ⟨I1, J1, h1, h2⟩ := ih (k + 1) (x ||| (if rq_oI (rq_B (rq_A s) (rq_lot s (rq_D s) k L)) = rq_oI (rq_B (rq_A s) L) then 0 else (1 : Int32) <<< (nI k &&& 31))) _ _ (by omega) hC2
        refine ⟨I1, J1, (sm1.tr sm2).tr h1, e25 (ee_X2_whoTells_34 ⟨fun c => absurd ((rq_lpos (by omega)).mp c) hz, fun _ => ⟨_, _, es_X5_becomes (by omega) hC.st, ee_X2_whoTells_47 ⟨_, _, es_X5_learnLot hp6, ee_X2_whoTells_56 ⟨_, _, _, (es_X5_likeliestAboard hp6).v hl, ee_X2_whoTells_64 ⟨fun c => ee_X2_whoTells_76 (ee_X2_whoTells_78 ?_), fun c => ee_X2_whoTells_76 (ee_X2_whoTells_78 ?_)⟩⟩⟩⟩⟩)⟩
        · rw [nI_1]; rw [if_pos c] at h2 ⊢; exact h2
        · rw [nI_1]; rw [if_neg c] at h2 ⊢; exact h2
theorem lo_tellsM (hW : rq_W s) (hV : rq_V s L) : ∀ (m k : Nat) (x : Int32) (I : sx_I) (J : sx_J), k + m = s 0 → rq_Qi I s → rq_Lj J 0 L → ∃ J1, rq_same I J I J1 ∧ sx_E sc (d + 10) cd_X9_tells 38 [some (.inr (.inr (9, 0))), some (.inl (nI (rq_D s))), some (.inl (rq_oI (rq_B (rq_A s) L))), some (.inl x), some (.inl (nI k))] [] I J (some (.inl (rq_tl s L m k x)), I, J1) := by
  have w := hW.1
  have hs2 := hV.sum hW
  have hD := rq_64 (rq_D_lt s) w
  have hA := rq_64 (rq_A_lt s) w
  intro m
  induction m with
  | zero =>
    intro k x I J hk hQ hL
    exact ⟨J, .rf, ee_X9_tells_38 ⟨fun _ => rfl, fun c => absurd (by rw [hQ 0 (by omega)]; exact nI_le (by omega) (by omega)) c⟩⟩
  | succ m ih =>
    intro k x I J hk hQ hL
    have nc : ¬ I 16 3 0 ≤ nI k := by rw [hQ 0 (by omega)]; exact nI_ge (by omega) (by omega)
    have b2 := rq_lot_sum (D := rq_D s) (L := L) hW.2.1 k
    have hl3 : rq_Lj (j_X9_namedOf I J (nI (rq_D s)) (nI k)) 3 (rq_lot s (rq_D s) k L) := by
      rw [rq_namedOf]; exact m_byLot hQ w hW.2.1 (fun q hq => hW.kd hq) hD (by omega) hL hV.1
    have sm : rq_same I J I (j_X9_namedOf I J (nI (rq_D s)) (nI k)) := .namedOf
    have e38 : ∀ {res}, sx_E sc (d + 10) cd_X9_tells 56 [some (.inr (.inr (9, 0))), some (.inl (nI (rq_D s))), some (.inl (rq_oI (rq_B (rq_A s) L))), some (.inl x), some (.inl (nI k))] [.inr (.inl (lN (rq_b (rq_D s) k * rq_sum (rq_lot s (rq_D s) k L))))] I (j_X9_namedOf I J (nI (rq_D s)) (nI k)) res → sx_E sc (d + 10) cd_X9_tells 38 [some (.inr (.inr (9, 0))), some (.inl (nI (rq_D s))), some (.inl (rq_oI (rq_B (rq_A s) L))), some (.inl x), some (.inl (nI k))] [] I J res := fun kk => ee_X9_tells_38 ⟨fun c => absurd c nc, fun _ => ⟨_, _, _, (es_X9_namedOf (hQ.p6 w)).w (m_namedOf hQ hW hL hV.1 hD (by omega)), kk⟩⟩
    rw [rq_tl]
    by_cases hc : rq_b (rq_D s) k = 1 ∧ 0 < rq_sum (rq_lot s (rq_D s) k L)
    · rw [if_pos hc]
      rw [hc.1, Nat.one_mul] at e38
      obtain ⟨J1, h1, h2⟩ := ih (k + 1) (x ||| (if rq_oI (rq_B (rq_A s) (rq_lot s (rq_D s) k L)) = rq_oI (rq_B (rq_A s) L) then 0 else (1 : Int32) <<< (nI k &&& 31))) I _ (by omega) hQ (hL.sm sm)
      refine ⟨J1, sm.tr h1, e38 (ee_X9_tells_56 ⟨fun c => absurd ((rq_lpos (by omega)).mp c) (by omega), fun _ => ⟨_, _, _, (es_X9_aboard (hQ.p6 w)).v (m_aboard hQ w hW.ab), ee_X9_tells_70 ⟨_, _, _, es_X9_likeliestOf.v (m_likeliest hl3 hA (rq_lotlt hW hV _ _)), ee_X9_tells_73 ⟨fun c => ee_X9_tells_85 (ee_X9_tells_87 ?_), fun c => ee_X9_tells_85 (ee_X9_tells_87 ?_)⟩⟩⟩⟩)⟩
      · rw [nI_1]; rw [if_pos c] at h2 ⊢; exact h2
      · rw [nI_1]; rw [if_neg c] at h2 ⊢; exact h2
    · rw [if_neg hc]
      have hz : rq_b (rq_D s) k * rq_sum (rq_lot s (rq_D s) k L) = 0 := by
        rcases rq_b01 (rq_D s) k with e | e
        · rw [e, Nat.zero_mul]
        · rw [e, Nat.one_mul]; omega
      rw [hz] at e38
      obtain ⟨J1, h1, h2⟩ := ih (k + 1) x I _ (by omega) hQ (hL.sm sm)
      refine ⟨J1, sm.tr h1, e38 (ee_X9_tells_56 ⟨fun _ => ee_X9_tells_87 ?_, fun c => absurd (by decide) c⟩)⟩
      rw [nI_1]; exact h2
theorem pr_tells (h : rq_Rel I J) : rq_pair sc (d + 20) cd_X8_tells cd_X9_tells [some (.inr (.inr (8, 0)))] [some (.inr (.inr (9, 0))), none, none, none, none] I J := by
  obtain ⟨s, L, hC, hQ, hW, hV⟩ := h.2.2.2.2.1
  have w := hW.1
  have hD := rq_64 (rq_D_lt s) w
  have hA := rq_64 (rq_A_lt s) w
  have e8 : I 5 0 8 = nI (rq_D s) := hC.2.2.2.2.2.2.2.2.1
  have k9 : ∀ {I : sx_I} {J : sx_J} {res : Option sx_V × sx_I × sx_J}, rq_Qi (sx_uI I 9 0 0 0) s → sx_E sc (d + 20) cd_X9_tells 13 [some (.inr (.inr (9, 0))), none, none, none, none] [.inl (nI (rq_D s))] (sx_uI I 9 0 0 0) J res → sx_E sc (d + 20) cd_X9_tells 0 [some (.inr (.inr (9, 0))), none, none, none, none] [] I J res := fun hq k => ee_X9_tells_0 (ee_X9_tells_5 ⟨_, _, _, (es_X9_aboard (hq.p6 w)).v (m_aboard hq w hW.ab), ee_X9_tells_10 ⟨_, _, _, (es_X9_drawing (hq.p6 w)).v (m_drawing hq w hW.kt hA), k⟩⟩)
  have hsh := c_isShip hC w
  by_cases hD0 : rq_D s = 0
  · have hq := hQ.qi.t0 (v := 0)
    exact .rd h (v := .inl (Int32.ofInt (-1000002))) (ee_X8_tells_0 ⟨_, _, _, es_X5_isShip, ee_X8_tells_7 ⟨fun _ => rfl, fun _ => ⟨fun _ => rfl, fun c => absurd (by rw [e8, hD0]; rfl) c⟩⟩⟩) .rf (k9 hq (ee_X9_tells_13 ⟨fun _ => rfl, fun c => absurd (by rw [hD0]; rfl) c⟩)) .t0 rfl
  · have hne : ¬ nI (rq_D s) = 0 := fun q => hD0 ((rq_nI0 (by omega)).mp q)
    have h0 : s 0 ≠ 0 := fun q => by
      have := rq_D_lt s
      rw [q] at this
      omega
    rw [if_neg h0] at hsh
    obtain ⟨I1, J1, h1, h2⟩ := lo_tellsC (sc := sc) (d := d + 9) hW hV (s 0) 0 0 I J (by omega) hC
    refine .two h (v := .inl (rq_tl s L (s 0) 0 0)) ⟨I1, J1, h1, ee_X8_tells_0 ⟨_, _, _, es_X5_isShip.v hsh, ee_X8_tells_7 ⟨fun c => absurd c n10, fun _ => ⟨fun c => absurd (e8.symm.trans c) hne, fun _ => ⟨_, _, _, ee_X2_whoTells_0 ⟨_, _, _, (es_X5_likeliestAboard (hC.p6 w)).v (c_likeliest hC w (rq_A_lt s) (hV.lt hW)), ee_X2_whoTells_4 h2⟩, ee_X8_tells_34 rfl⟩⟩⟩⟩⟩ (fun I1 J1 em => ?_)
    have hq := (hQ.qi.sm em).t0 (v := 0)
    obtain ⟨J2, h3, h4⟩ := lo_tellsM (sc := sc) (d := d + 10) hW hV (s 0) 0 0 (sx_uI I1 9 0 0 0) J1 (by omega) hq (hQ.lj.sm em)
    exact ⟨_, _, rq_same.t0.tr h3, k9 hq (ee_X9_tells_13 ⟨fun c => absurd c hne, fun _ => ⟨_, _, _, (es_X9_aboard (hq.p6 w)).v (m_aboard hq w hW.ab), ee_X9_tells_29 ⟨_, _, _, es_X9_likeliestOf.v (m_likeliest (hQ.lj.sm em) hA (hV.lt hW)), ee_X9_tells_32 h4⟩⟩⟩)⟩
/-- how often, till sure -/
def rq_sr (s : Nat → Nat) (p a : Nat) : Nat → Nat → (Nat → Nat) → Int32
  | 0, _, _ => Int32.ofInt (-1000000)
  | m + 1, n, L => if 0 < rq_sum L ∧ rq_sum L * a ≤ L p * 100 then nI n else rq_sr s p a m (n + 1) (rq_lot s (rq_D s) p L)
theorem rq_lot_z {D nm : Nat} (h : rq_sum L = 0) : rq_sum (rq_lot s D nm L) = 0 := by
  unfold rq_sum at h
  have h0 : L 0 = 0 := by omega
  have h1 : L 1 = 0 := by omega
  have h2 : L 2 = 0 := by omega
  have h3 : L 3 = 0 := by omega
  have h4 : L 4 = 0 := by omega
  have h5 : L 5 = 0 := by omega
  simp [rq_sum, rq_lot, h0, h1, h2, h3, h4, h5]
theorem rq_sr_z {a : Nat} : ∀ (m n : Nat) (L : Nat → Nat), rq_sum L = 0 → rq_sr s p a m n L = Int32.ofInt (-1000000)
  | 0, _, _, _ => rfl
  | m + 1, n, L, h => by
    rw [rq_sr, if_neg (by omega)]
    exact rq_sr_z m (n + 1) _ (rq_lot_z h)
theorem rq_le_sum (hp : p < 6) : L p ≤ rq_sum L := by
  have e : p = 0 ∨ p = 1 ∨ p = 2 ∨ p = 3 ∨ p = 4 ∨ p = 5 := by omega
  unfold rq_sum
  rcases e with rfl | rfl | rfl | rfl | rfl | rfl <;> omega
theorem rq_60 {n : Nat} (h : n ≤ 4) : 60 ^ n ≤ 12960000 := by
  have e : n = 0 ∨ n = 1 ∨ n = 2 ∨ n = 3 ∨ n = 4 := by omega
  rcases e with rfl | rfl | rfl | rfl | rfl <;> decide
theorem c_believed {h l A D r a : Nat} {st : Int32} (hR : rq_R I J r s h l A D st L) (hn : s 0 ≤ 6) (h0 : ∀ p, s 0 ≤ p → p < 6 → L p = 0) (hp : p < s 0) (ha : a ≤ 100) (hs : rq_sum L ≤ 20000000000000000) : v_X5_isBelieved I J r (nI p) (nI a) = if rq_sum L * a ≤ L p * 100 then 1 else 0 := by
  have b1 := rq_le_sum (L := L) (p := p) (by omega)
  have b2 : rq_sum L * a ≤ rq_sum L * 100 := Nat.mul_le_mul_left _ ha
  rw [v_X5_isBelieved, c_has hR hn hp, if_neg n10, nI_clamp (by omega), (hR.2.2.2.2.2.2.2.2.2.2 p hp).2.2, c_all hR hn h0, nI_l (by omega), show (100 : Int64) = lN 100 from rfl, lN_mul, lN_mul]
  by_cases c : rq_sum L * a ≤ L p * 100
  · rw [if_pos c, if_neg (fun q => absurd ((pk_lLT (by omega) (by omega)).mp q) (by omega))]
  · rw [if_neg c, if_pos ((pk_lLT (by omega) (by omega)).mpr (by omega))]
theorem lo_sureC {a : Nat} (hW : rq_W s) (hp : p < s 0) (ha : a ≤ 100) : ∀ (m n : Nat) (L : Nat → Nat) (I : sx_I) (J : sx_J), n + m = 5 → rq_R I J 28 s (s 4) (s 6) (rq_A s) (rq_D s) (rq_st s) L → (∀ p, s 0 ≤ p → p < 6 → L p = 0) → 0 < rq_sum L → rq_sum L ≤ 1399680000 * 60 ^ n → ∃ J1, rq_same I J I J1 ∧ sx_E sc (d + 10) cd_X2_lotsTillSure 11 [some (.inr (.inr (2, 0))), some (.inr (.inr (5, 0))), some (.inl (nI p)), some (.inl (nI a)), some (.inl (nI n))] [] I J (some (.inl (rq_sr s p a m n L)), I, J1) := by
  have w := hW.1
  intro m
  induction m with
  | zero =>
    intro n L I J hn hR h0 hs hb
    obtain rfl : n = 5 := by omega
    exact ⟨J, .rf, ee_X2_lotsTillSure_11 ⟨fun _ => rfl, fun c => absurd (by decide) c⟩⟩
  | succ m ih =>
    intro n L I J hn hR h0 hs hb
    have h6 := rq_60 (n := n) (by omega)
    have hb2 : 1399680000 * 60 ^ n ≤ 1399680000 * 12960000 := Nat.mul_le_mul_left _ h6
    have hp6 : sx_p6 (I 5 28 0) := ⟨s 0, w, hR.1⟩
    have e11 : ∀ {res}, sx_E sc (d + 10) cd_X2_lotsTillSure 26 [some (.inr (.inr (2, 0))), some (.inr (.inr (5, 0))), some (.inl (nI p)), some (.inl (nI a)), some (.inl (nI n))] [.inl (if rq_sum L * a ≤ L p * 100 then 1 else 0)] I J res → sx_E sc (d + 10) cd_X2_lotsTillSure 11 [some (.inr (.inr (2, 0))), some (.inr (.inr (5, 0))), some (.inl (nI p)), some (.inl (nI a)), some (.inl (nI n))] [] I J res := fun k => ee_X2_lotsTillSure_11 ⟨fun c => absurd c (nI_nlt (a := 4) (by omega) (by omega)), fun _ => ⟨_, _, _, (es_X5_isBelieved (fun _ => rq_in6 hp w) (fun _ => hp6)).v (c_believed hR w h0 hp ha (by omega)), k⟩⟩
    rw [rq_sr]
    by_cases c : rq_sum L * a ≤ L p * 100
    · rw [if_pos ⟨hs, c⟩]
      rw [if_pos c] at e11
      exact ⟨J, .rf, e11 (ee_X2_lotsTillSure_26 ⟨fun c => absurd c n10, fun _ => rfl⟩)⟩
    · rw [if_neg (fun q => c q.2)]
      rw [if_neg c] at e11
      have b2 := rq_lot_sum (D := rq_D s) (L := L) hW.2.1 p
      have e26 : ∀ {res}, sx_E sc (d + 10) cd_X2_lotsTillSure 40 [some (.inr (.inr (2, 0))), some (.inr (.inr (5, 0))), some (.inl (nI p)), some (.inl (nI a)), some (.inl (nI n))] [.inr (.inl (lN (rq_sum (rq_lot s (rq_D s) p L))))] I J res → sx_E sc (d + 10) cd_X2_lotsTillSure 11 [some (.inr (.inr (2, 0))), some (.inr (.inr (5, 0))), some (.inl (nI p)), some (.inl (nI a)), some (.inl (nI n))] [] I J res := fun k => e11 (ee_X2_lotsTillSure_26 ⟨fun _ => ⟨_, _, _, (es_X5_allIfNamed hp6).w (c_allIfNamed hR w (rq_D_lt s) hW.2.1 (fun q hq => hW.kd hq) h0 (by omega)), k⟩, fun c => absurd rfl c⟩)
      by_cases hz : rq_sum (rq_lot s (rq_D s) p L) = 0
      · rw [rq_sr_z m (n + 1) _ hz]
        exact ⟨J, .rf, e26 (ee_X2_lotsTillSure_40 ⟨fun _ => rfl, fun c => absurd (by rw [hz]; rfl) c⟩)⟩
      · have hR2 := c_learnLot (nm := p) hR w (rq_D_lt s) hW.2.1 (fun q hq => hW.kd hq) (by omega)
        obtain ⟨J1, h1, h2⟩ := ih (n + 1) _ I _ (by omega) hR2 (rq_lot_0 h0 p) (by omega) (by rw [Nat.pow_succ]; omega)
        refine ⟨J1, (rq_same.learnLot (Or.inr (by omega))).tr h1, e26 (ee_X2_lotsTillSure_40 ⟨fun c => absurd ((rq_lN0 (by omega)).mp c) hz, fun _ => ⟨_, _, es_X5_learnLot hp6, ee_X2_lotsTillSure_56 ?_⟩⟩)⟩
        rw [nI_1]; exact h2
theorem lo_sureM {a : Nat} (hW : rq_W s) (hp : p < s 0) (ha : a ≤ 100) : ∀ (m n : Nat) (L : Nat → Nat) (I : sx_I) (J : sx_J), n + m = 5 → rq_Qi I s → rq_Lj J 2 L → (∀ p, s 0 ≤ p → p < 6 → L p = 0) → rq_sum L ≤ 1399680000 * 60 ^ n → ∃ J1, rq_same I J I J1 ∧ sx_E sc (d + 10) cd_X9_sure 64 [some (.inr (.inr (9, 0))), some (.inl (nI p)), some (.inl (nI a)), some (.inl (nI (rq_D s))), some (.inl (nI n))] [] I J (some (.inl (rq_sr s p a m n L)), I, J1) := by
  have w := hW.1
  have hD := rq_64 (rq_D_lt s) w
  intro m
  induction m with
  | zero =>
    intro n L I J hn hQ hL h0 hb
    obtain rfl : n = 5 := by omega
    exact ⟨J, .rf, ee_X9_sure_64 ⟨fun _ => rfl, fun c => absurd (by decide) c⟩⟩
  | succ m ih =>
    intro n L I J hn hQ hL h0 hb
    have h6 := rq_60 (n := n) (by omega)
    have hb2 : 1399680000 * 60 ^ n ≤ 1399680000 * 12960000 := Nat.mul_le_mul_left _ h6
    have b1 := rq_le_sum (L := L) (p := p) (by omega)
    have b2 : rq_sum L * a ≤ rq_sum L * 100 := Nat.mul_le_mul_left _ ha
    have b3 := rq_lot_sum (D := rq_D s) (L := L) hW.2.1 p
    have n4 : ¬ (4 : Int32) < nI n := nI_nlt (a := 4) (by omega) (by omega)
    have e64 : ∀ {res}, sx_E sc (d + 10) cd_X9_sure 77 [some (.inr (.inr (9, 0))), some (.inl (nI p)), some (.inl (nI a)), some (.inl (nI (rq_D s))), some (.inl (nI n))] [.inr (.inl (lN (rq_sum L)))] I J res → sx_E sc (d + 10) cd_X9_sure 64 [some (.inr (.inr (9, 0))), some (.inl (nI p)), some (.inl (nI a)), some (.inl (nI (rq_D s))), some (.inl (nI n))] [] I J res := fun k => ee_X9_sure_64 ⟨fun c => absurd c n4, fun _ => ⟨_, _, _, es_X9_allOf.w (m_allOf hL), k⟩⟩
    have next : ∃ J1, rq_same I J I J1 ∧ sx_E sc (d + 10) cd_X9_sure 109 [some (.inr (.inr (9, 0))), some (.inl (nI p)), some (.inl (nI a)), some (.inl (nI (rq_D s))), some (.inl (nI n))] [] I J (some (.inl (rq_sr s p a m (n + 1) (rq_lot s (rq_D s) p L))), I, J1) := by
      obtain ⟨J1, h1, h2⟩ := ih (n + 1) (rq_lot s (rq_D s) p L) I _ (by omega) hQ (m_byLot (r2 := 2) hQ w hW.2.1 (fun q hq => hW.kd hq) hD (by omega) hL h0) (rq_lot_0 h0 p) (by rw [Nat.pow_succ]; omega)
      refine ⟨J1, (rq_same.byLot (Or.inl rfl)).tr h1, ee_X9_sure_109 ⟨_, _, es_X9_byLot (hQ.p6 w), ee_X9_sure_123 ?_⟩⟩
      rw [nI_1]; exact h2
    rw [rq_sr]
    by_cases hs : rq_sum L = 0
    · obtain ⟨J1, h1, h2⟩ := next
      rw [if_neg (by omega)]
      exact ⟨J1, h1, e64 (ee_X9_sure_77 ⟨fun _ => h2, fun c => absurd ((rq_lpos (by omega)).mpr hs) c⟩)⟩
    · have e77 : ∀ {res}, sx_E sc (d + 10) cd_X9_sure 99 [some (.inr (.inr (9, 0))), some (.inl (nI p)), some (.inl (nI a)), some (.inl (nI (rq_D s))), some (.inl (nI n))] [.inr (.inl (lN (rq_sum L))), .inr (.inl (lN (L p * 100)))] I J res → sx_E sc (d + 10) cd_X9_sure 64 [some (.inr (.inr (9, 0))), some (.inl (nI p)), some (.inl (nI a)), some (.inl (nI (rq_D s))), some (.inl (nI n))] [] I J res := fun k => e64 (ee_X9_sure_77 ⟨fun c => absurd ((rq_lpos (by omega)).mp c) hs, fun _ => ⟨rq_in6 hp w, _, _, _, es_X9_allOf.w (m_allOf hL), by rw [nI_clamp (by omega), hL p (by omega), show (100 : Int64) = lN 100 from rfl, lN_mul]; exact k⟩⟩)
      have ec : lN (L p * 100) < lN (rq_sum L) * (nI a).toInt64 ↔ L p * 100 < rq_sum L * a := by rw [nI_l (by omega), lN_mul, pk_lLT (by omega) (by omega)]
      by_cases c : rq_sum L * a ≤ L p * 100
      · rw [if_pos ⟨by omega, c⟩]
        exact ⟨J, .rf, e77 (ee_X9_sure_99 ⟨fun q => absurd (ec.mp q) (by omega), fun _ => rfl⟩)⟩
      · obtain ⟨J1, h1, h2⟩ := next
        rw [if_neg (fun q => c q.2)]
        exact ⟨J1, h1, e77 (ee_X9_sure_99 ⟨fun _ => h2, fun q => absurd (ec.mpr (by omega)) q⟩)⟩
theorem m_laySome (hL : rq_Lj J 0 L) : rq_Lj (j_X9_laySome I J) 2 L := fun p hp => (if_pos ⟨rfl, rfl, hp⟩).trans (hL p hp)
theorem pr_sure (h : rq_Rel I J) {x y : Int32} : rq_pair sc (d + 20) cd_X8_sure cd_X9_sure [some (.inr (.inr (8, 0))), some (.inl x), some (.inl y)] [some (.inr (.inr (9, 0))), some (.inl x), some (.inl y), none, none] I J := by
  obtain ⟨s, L, hC, hQ, hW, hV⟩ := h.2.2.2.2.1
  have w := hW.1
  have hD := rq_64 (rq_D_lt s) w
  have hA := rq_64 (rq_A_lt s) w
  have hq0 := hQ.qi.t0 (v := 0)
  rcases rq_per x w with ⟨p, hp, rfl⟩ | hx
  · rcases m_inC (I := sx_uI I 9 0 0 0) (J := J) I J (x := y) (a := 1) (b := 99) (y := 1) (z := 99) (by decide) (by decide) with ⟨i1, i2, y1, y2⟩ | ⟨i1, i2⟩
    · obtain ⟨a, ha, rfl⟩ := nI_of2 (M := 99) (n := 99) (by decide) (Int32.not_lt.mpr (Int32.le_trans (by decide) y1)) y2
      have k8 : ∀ {res : Option sx_V × sx_I × sx_J}, sx_E sc (d + 20) cd_X8_sure 32 [some (.inr (.inr (8, 0))), some (.inl (nI p)), some (.inl (nI a))] [.inl (nI (rq_b (rq_D s) p))] I J res → sx_E sc (d + 20) cd_X8_sure 0 [some (.inr (.inr (8, 0))), some (.inl (nI p)), some (.inl (nI a))] [] I J res := fun k => ee_X8_sure_0 ⟨_, _, _, es_X5_has.v (c_has hC w hp), ee_X8_sure_8 ⟨fun c => absurd c n10, fun _ => ⟨_, _, _, es_X8_isOutside.v i2, ee_X8_sure_18 ⟨fun _ => ⟨_, _, _, es_X5_isDrawing.v (c_isDrawing hC w (rq_D_lt s) (by omega)), k⟩, fun c => absurd rfl c⟩⟩⟩⟩
      have k9 : ∀ {I : sx_I} {J : sx_J} {res : Option sx_V × sx_I × sx_J}, rq_Qi (sx_uI I 9 0 0 0) s → sx_E sc (d + 20) cd_X9_sure 42 [some (.inr (.inr (9, 0))), some (.inl (nI p)), some (.inl (nI a)), some (.inl (nI (rq_D s))), none] [.inl (nI (rq_b (rq_D s) p))] (sx_uI I 9 0 0 0) J res → sx_E sc (d + 20) cd_X9_sure 0 [some (.inr (.inr (9, 0))), some (.inl (nI p)), some (.inl (nI a)), none, none] [] I J res := fun hq k => ee_X9_sure_0 (ee_X9_sure_5 ⟨_, _, _, es_X9_isPerson.v (m_isPerson hq w hp), ee_X9_sure_10 ⟨fun c => absurd c n10, fun _ => ⟨_, _, _, es_X9_in.v i1, ee_X9_sure_22 ⟨fun c => absurd c n10, fun _ => ⟨_, _, _, (es_X9_aboard (hq.p6 w)).v (m_aboard hq w hW.ab), ee_X9_sure_33 ⟨_, _, _, (es_X9_drawing (hq.p6 w)).v (m_drawing hq w hW.kt hA), ee_X9_sure_36 ⟨_, _, _, es_X9_has.v (m_has hD (by omega)), k⟩⟩⟩⟩⟩⟩⟩)
      have e9 : I 5 0 9 = rq_st s := hC.2.2.2.2.2.2.2.2.2.1
      have w5 := hW.2.2.2.2.2.2.2.1
      rcases rq_b01 (rq_D s) p with e | e
      · rw [e] at k8 k9
        exact .rd h (v := .inl (Int32.ofInt (-1000002))) (k8 (ee_X8_sure_32 ⟨fun _ => rfl, fun c => absurd rfl c⟩)) .rf (k9 hq0 (ee_X9_sure_42 ⟨fun _ => rfl, fun c => absurd rfl c⟩)) .t0 rfl
      · rw [e] at k8 k9
        by_cases h5 : s 5 = 0
        · have est : rq_st s = 1 := by rw [rq_st, if_neg (by omega), if_pos h5]
          exact .rd h (v := .inl (Int32.ofInt (-1000002))) (k8 (ee_X8_sure_32 ⟨fun c => absurd c nn1, fun _ => ⟨fun c => absurd (by rw [e9, est] at c; exact c) n10, fun _ => rfl⟩⟩)) .rf (k9 hq0 (ee_X9_sure_42 ⟨fun c => absurd c nn1, fun _ => ⟨fun _ => rfl, fun c => absurd (by rw [hq0 5 (by omega), h5]; rfl) c⟩⟩)) .t0 rfl
        · have est : rq_st s = 0 := by rw [rq_st, if_neg (by omega), if_neg h5]
          have hb : rq_sum L ≤ 1399680000 * 60 ^ 0 := by
            have k : ∀ p, p < 6 → L p ≤ 233280000 := fun p hp => by
              have h1 := hV.2.1 p hp
              have h2 := rq_pow (s 6) hW.2.2.2.2.1
              rw [if_neg h5] at h1
              omega
            have k0 := k 0 (by omega); have k1 := k 1 (by omega); have k2 := k 2 (by omega)
            have k3 := k 3 (by omega); have k4 := k 4 (by omega); have k5 := k 5 (by omega)
            unfold rq_sum; omega
          have hR2 : rq_R (i_X5_becomes I J 28 0) (j_X5_becomes I J 28 0) 28 s (s 4) (s 6) (rq_A s) (rq_D s) (rq_st s) L := c_becomes hC w
          obtain ⟨J1, h1, h2⟩ := lo_sureC (sc := sc) (d := d + 9) (a := a) hW hp (by omega) 5 0 L _ _ rfl hR2 hV.1 (hV.2.2.1 (by omega)) hb
          refine .two h (v := .inl (rq_sr s p a 5 0 L)) ⟨_, _, (rq_same.becomes (r1 := 0) (Or.inr (by omega))).tr h1, k8 (ee_X8_sure_32 ⟨fun c => absurd c nn1, fun _ => ⟨fun _ => ⟨_, _, _, ee_X2_lotsTillSure_0 ⟨_, _, es_X5_becomes (by omega) hC.st, ee_X2_lotsTillSure_8 h2⟩, ee_X8_sure_61 rfl⟩, fun c => absurd (e9.trans est) c⟩⟩)⟩ (fun I1 J1 em => ?_)
          have hq := (hQ.qi.sm em).t0 (v := 0)
          have hl := hQ.lj.sm em
          obtain ⟨J2, h3, h4⟩ := lo_sureM (sc := sc) (d := d + 10) (a := a) hW hp (by omega) 5 0 L (sx_uI I1 9 0 0 0) (j_X9_laySome (sx_uI I1 9 0 0 0) J1) rfl hq (m_laySome hl) hV.1 hb
          exact ⟨_, _, (rq_same.t0.tr .laySome).tr h3, k9 hq (ee_X9_sure_42 ⟨fun c => absurd c nn1, fun _ => ⟨fun c => absurd (by rw [hq 5 (by omega)] at c; exact (rq_nI0 (by omega)).mp c) h5, fun _ => ⟨_, _, es_X9_laySome, ee_X9_sure_61 h4⟩⟩⟩)⟩
    · exact .rd h (ee_X8_sure_0 ⟨_, _, _, es_X5_has.v (c_has hC w hp), ee_X8_sure_8 ⟨fun c => absurd c n10, fun _ => ⟨_, _, _, es_X8_isOutside.v i2, ee_X8_sure_18 ⟨fun c => absurd c n10, fun _ => rfl⟩⟩⟩⟩) .rf (ee_X9_sure_0 (ee_X9_sure_5 ⟨_, _, _, es_X9_isPerson.v (m_isPerson hq0 w hp), ee_X9_sure_10 ⟨fun c => absurd c n10, fun _ => ⟨_, _, _, es_X9_in.v i1, ee_X9_sure_22 ⟨fun _ => rfl, fun c => absurd rfl c⟩⟩⟩⟩)) .t0 rfl
  · exact .rd h (ee_X8_sure_0 ⟨_, _, _, es_X5_has.v (c_hasnt hC hx), ee_X8_sure_8 ⟨fun _ => rfl, fun c => absurd rfl c⟩⟩) .rf (ee_X9_sure_0 (ee_X9_sure_5 ⟨_, _, _, es_X9_isPerson.v (m_isntPerson hq0 w hx), ee_X9_sure_10 ⟨fun _ => rfl, fun c => absurd rfl c⟩⟩)) .t0 rfl
end RQTS
