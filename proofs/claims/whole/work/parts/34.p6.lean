/-! pairs: cargo, joins, undo -/
section RQU
variable {sc : Nat × (Nat → Int32)} {d : Nat} {I I1 I2 : sx_I} {J J1 J2 : sx_J} {s L s1 L1 : Nat → Nat} {a q p v : Nat} {f : Nat → (Nat → Nat) × (Nat → Nat)} {res : Option sx_V × sx_I × sx_J}
theorem rq_W.cargo (hW : rq_W s) (h0 : 0 < s 0) (h5 : s 5 = 1) (h7 : s 7 < 3) : rq_W (rq_up s 7 (s 7 + 1)) := by
  obtain ⟨w0, w1, w2, w3, w6, w7, w4, w5, w9, w10⟩ := hW
  have w := (w9 h0 (by omega)).mp h5
  refine ⟨w0, w1, w2, w3, w6, ?_, ?_, w5, fun _ _ => ?_, fun p hp => ?_⟩
  · show s 7 + 1 ≤ 3; omega
  · show s 4 ≤ s 2 + (s 7 + 1); omega
  · show s 5 = 1 ↔ s 4 < s 2 + (s 7 + 1); omega
  · rw [rq_up_ne (by omega), rq_up_ne (by omega), rq_up_ne (by omega), rq_up_ne (by omega)]; exact w10 p hp
theorem rq_V.cargo (hV : rq_V s L) : rq_V (rq_up s 7 v) L := ⟨hV.1, hV.2.1, hV.2.2.1, fun c p hp hs => hV.2.2.2 c p hp (by rw [rq_up_ne (by omega)] at hs; exact hs)⟩
theorem c_cargo (hC : rq_C I J 0 s L) : rq_C (sx_uI I 5 0 6 (nI v)) J 0 (rq_up s 7 v) L := by
  have eA : rq_A (rq_up s 7 v) = rq_A s := rq_A_cg rfl (fun p _ => rq_up_ne (by omega))
  have eD : rq_D (rq_up s 7 v) = rq_D s := rq_D_cg rfl eA (fun p _ => rq_up_ne (by omega)) (fun p _ => rq_up_ne (by omega))
  exact .of (rq_R.u6 (v := v) hC) rfl rfl eA.symm eD.symm rfl
theorem pr_cargo (h : rq_Rel I J) : rq_pair sc (d + 20) cd_X8_cargo cd_X9_cargo [some (.inr (.inr (8, 0)))] [some (.inr (.inr (9, 0)))] I J := by
  obtain ⟨s, L, hC, hQ, hW, hV⟩ := h.2.2.2.2.1
  obtain ⟨a, q, f, ha, hq, g1, g2, g3⟩ := h.2.2.2.2.2.2.op
  have w := hW.1
  have hin := c_inStorm hC hW
  have hb := hW
  obtain ⟨w0, w1, w2, w3, w6, w7, w4, w5, w9, w10⟩ := hb
  have e6 : I 5 0 6 = nI (s 7) := hC.2.2.2.2.2.2.1
  by_cases hst : 0 < s 0 ∧ s 5 = 1
  · rw [if_pos hst] at hin
    by_cases h3 : s 7 < 3
    · refine .act (x := .inl (nI (s 7 + 1))) h hQ g2 (hW.cargo hst.1 hst.2 h3) hV.cargo (rq_ka_le ha) (rq_kq_lt (q := q)) (rq_kp g3 hW hV ha) ?_ (fun I1 J1 hQ g2 => ?_)
      · obtain ⟨I1, J1, k1, k2, k3⟩ := e_keepC (sc := sc) (d := d + 18) g1 ha hq hC w
        have hC1 := hC.kp k3
        refine ⟨sx_uI I1 5 0 6 (nI (s 7 + 1)), J1, ee_X8_cargo_0 ⟨_, _, _, es_X5_isInStorm.v hin, ee_X8_cargo_7 ⟨fun c => absurd c n10, fun _ => ⟨fun _ => ⟨_, _, k1, ee_X8_cargo_38 ?_⟩, fun c => absurd (by rw [e6]; exact nI_lt (b := 3) h3 (by omega)) c⟩⟩⟩, k3.gC.tr (rq_sm.uI rq_nC5).nC, c_cargo hC1, k2.nC (.uI rq_nC5)⟩
        rw [show I1 5 0 6 = nI (s 7) from hC1.2.2.2.2.2.2.1, nI_1]
        exact ee_X8_cargo_51 rfl
      · have hQ0 := hQ.sw (rq_same.t0 (v := 0))
        have hth : v_X9_isThere (sx_uI I1 9 0 0 0) J1 = 1 := by rw [m_isThere hQ0.qi w, if_neg (by omega)]
        have e5 : (sx_uI I1 9 0 0 0) 16 3 5 = 1 := by rw [hQ0.qi 5 (by omega), hst.2]; rfl
        have e7 : ¬ (sx_uI I1 9 0 0 0) 16 3 7 = 3 := by rw [hQ0.qi 7 (by omega)]; exact fun c => absurd ((nI_eq (b := 3) (by omega) (by omega)).mp c) (by omega)
        obtain ⟨I3, J3, k1, k2, k3, _⟩ := e_keepM (sc := sc) (d := d + 19) (g2.sw (rq_same.t0 (v := 0))) ha hQ0
        have hQ3 := hQ0.kp k3
        refine ⟨sx_uI I3 16 3 7 (nI (s 7 + 1)), J3, ee_X9_cargo_0 (ee_X9_cargo_5 ⟨_, _, _, es_X9_isThere.v hth, ee_X9_cargo_9 ⟨fun c => absurd c n10, fun _ => ⟨fun _ => ⟨fun c => absurd c e7, fun _ => ⟨_, _, k1, ee_X9_cargo_43 ?_⟩⟩, fun c => absurd e5 c⟩⟩⟩), (rq_same.t0.sm.tr k3.gM).tr (rq_sm.uI rq_nM3).nM, hQ3.uI, k2.nM (.uI rq_nM3)⟩
        rw [hQ3.qi 7 (by omega), nI_1]
        exact ee_X9_cargo_54 rfl
    · have hq0 := hQ.qi.t0 (v := 0)
      have hth : v_X9_isThere (sx_uI I 9 0 0 0) J = 1 := by rw [m_isThere hq0 w, if_neg (by omega)]
      exact .rd h (v := .inl (Int32.ofInt (-1000003))) (ee_X8_cargo_0 ⟨_, _, _, es_X5_isInStorm.v hin, ee_X8_cargo_7 ⟨fun c => absurd c n10, fun _ => ⟨fun c => absurd c (by rw [e6]; exact nI_nlt (b := 3) (by omega) (by omega)), fun _ => rfl⟩⟩⟩) .rf (I2 := sx_uI I 9 0 0 0) (J2 := J) (ee_X9_cargo_0 (ee_X9_cargo_5 ⟨_, _, _, es_X9_isThere.v hth, ee_X9_cargo_9 ⟨fun c => absurd c n10, fun _ => ⟨fun _ => ⟨fun _ => rfl, fun c => absurd (by rw [hq0 7 (by omega), show s 7 = 3 by omega]; rfl) c⟩, fun c => absurd (by rw [hq0 5 (by omega), hst.2]; rfl) c⟩⟩⟩)) .t0 rfl
  · rw [if_neg hst] at hin
    have hq0 := hQ.qi.t0 (v := 0)
    refine .rd h (v := .inl (Int32.ofInt (-1000002))) (ee_X8_cargo_0 ⟨_, _, _, es_X5_isInStorm.v hin, ee_X8_cargo_7 ⟨fun _ => rfl, fun c => absurd rfl c⟩⟩) .rf (I2 := sx_uI I 9 0 0 0) (J2 := J) (ee_X9_cargo_0 (ee_X9_cargo_5 ⟨_, _, _, es_X9_isThere.v (m_isThere hq0 w), ee_X9_cargo_9 ⟨fun _ => rfl, fun c => ⟨fun c5 => ?_, fun _ => rfl⟩⟩⟩)) .t0 rfl
    exfalso
    rw [hq0 5 (by omega)] at c5
    have := (nI_eq (b := 1) (by omega) (by omega)).mp c5
    by_cases h0 : s 0 = 0
    · rw [if_pos h0] at c; exact c rfl
    · exact hst ⟨by omega, this⟩
theorem rq_A_up (h : ∀ z, v ≠ 10 + 4 * z) (h0 : v ≠ 0) (y : Nat) : rq_A (rq_up s v y) = rq_A s := rq_A_cg (rq_up_ne (Ne.symm h0)) (fun p _ => rq_up_ne (Ne.symm (h p)))
theorem rq_D_join (hn : s 0 ≤ 6) (hp : p < s 0) (hA : rq_b (rq_A s) p = 1) : rq_D (rq_up s (11 + 4 * p) 1) = rq_on (rq_D s) p := by
  have e0 : rq_up s (11 + 4 * p) 1 0 = s 0 := rq_up_ne (by omega)
  have eA : rq_A (rq_up s (11 + 4 * p) 1) = rq_A s := rq_A_up (fun z => by omega) (by omega) 1
  have hD := rq_64 (rq_D_lt s) hn
  have l1 := rq_D_lt (rq_up s (11 + 4 * p) 1)
  rw [e0] at l1
  refine rq_ext (rq_64 l1 hn) (rq_on_lt _ hD p (by omega)) (fun z hz => ?_)
  rw [rq_on_b _ hD p (by omega) z hz]
  by_cases hz0 : z < s 0
  · rw [rq_D, rq_Dr_b _ (by rw [e0]; exact hz0), eA, rq_D, rq_Dr_b _ hz0, rq_up_ne (show 8 + 4 * z ≠ 11 + 4 * p by omega)]
    by_cases c : z = p
    · subst c; rw [if_pos rfl, if_pos ⟨hA, Or.inr (if_pos rfl)⟩]
    · rw [if_neg c, rq_up_ne (show 11 + 4 * z ≠ 11 + 4 * p by omega)]
  · have k : ∀ D, D < 2 ^ s 0 → rq_b D z = 0 := fun D hD => rq_b_lt (Nat.lt_of_lt_of_le hD (Nat.pow_le_pow_right (by decide) (by omega)))
    rw [k _ l1, k _ (rq_D_lt s), if_neg (show ¬ z = p by omega)]
theorem rq_W.join (hW : rq_W s) : rq_W (rq_up s (11 + 4 * p) 1) := by
  have e : ∀ k, k < 8 → rq_up s (11 + 4 * p) 1 k = s k := fun k hk => rq_up_ne (by omega)
  have hb := hW.2.2.2.2.2.2.2.2.2
  unfold rq_W at hW ⊢
  rw [e 0 (by omega), e 1 (by omega), e 2 (by omega), e 3 (by omega), e 4 (by omega), e 5 (by omega), e 6 (by omega), e 7 (by omega)]
  refine ⟨hW.1, hW.2.1, hW.2.2.1, hW.2.2.2.1, hW.2.2.2.2.1, hW.2.2.2.2.2.1, hW.2.2.2.2.2.2.1, hW.2.2.2.2.2.2.2.1, hW.2.2.2.2.2.2.2.2.1, fun z hz => ?_⟩
  have k := hb z hz
  rw [rq_up_ne (show 8 + 4 * z ≠ 11 + 4 * p by omega), rq_up_ne (show 9 + 4 * z ≠ 11 + 4 * p by omega), rq_up_ne (show 10 + 4 * z ≠ 11 + 4 * p by omega)]
  refine ⟨k.1, k.2.1, k.2.2.1, k.2.2.2.1, ?_⟩
  unfold rq_up; split
  · omega
  · exact k.2.2.2.2
theorem rq_V.join (hV : rq_V s L) : rq_V (rq_up s (11 + 4 * p) 1) L := by
  have e : ∀ k, k < 8 → rq_up s (11 + 4 * p) 1 k = s k := fun k hk => rq_up_ne (by omega)
  unfold rq_V at hV ⊢
  rw [e 0 (by omega), e 5 (by omega), e 6 (by omega)]
  exact ⟨hV.1, hV.2.1, hV.2.2.1, fun c z hz hs => hV.2.2.2 c z hz (by rw [rq_up_ne (by omega)] at hs; exact hs)⟩
theorem c_join (hC : rq_C I J 0 s L) (hW : rq_W s) (hp : p < s 0) (hA : rq_b (rq_A s) p = 1) : rq_C (i_X5_takeLot I J 0 (nI p)) J 0 (rq_up s (11 + 4 * p) 1) L := by
  have hR := c_takeLot hC hW.1 (rq_A_lt s) (rq_64 (rq_D_lt s) hW.1) hp hA
  have hR2 := hR.cg (s1 := rq_up s (11 + 4 * p) 1) (fun k hk => rq_up_ne (by omega)) (fun z _ => ⟨rq_up_ne (by omega), rq_up_ne (by omega)⟩)
  refine .of hR2 (rq_up_ne (by omega)).symm (rq_up_ne (by omega)).symm (rq_A_up (fun z => by omega) (by omega) 1).symm (rq_D_join hW.1 hp hA).symm ?_
  unfold rq_st; rw [rq_up_ne (by omega), rq_up_ne (by omega)]
theorem rq_sm.takeLot {x : Int32} : rq_sm rq_nC I J (i_X5_takeLot I J 0 x) J := by
  unfold i_X5_takeLot; split
  · exact .rf
  · exact .uI rq_nC5
theorem pr_joins (h : rq_Rel I J) {x : Int32} : rq_pair sc (d + 20) cd_X8_joins cd_X9_joins [some (.inr (.inr (8, 0))), some (.inl x)] [some (.inr (.inr (9, 0))), some (.inl x)] I J := by
  obtain ⟨s, L, hC, hQ, hW, hV⟩ := h.2.2.2.2.1
  obtain ⟨a, q, f, ha, hq, g1, g2, g3⟩ := h.2.2.2.2.2.2.op
  have w := hW.1
  have hin := c_inStorm hC hW
  have hD := rq_64 (rq_D_lt s) w
  have hA := rq_64 (rq_A_lt s) w
  have w5 := hW.2.2.2.2.2.2.2.1
  have hq0 := hQ.qi.t0 (v := 0)
  rcases rq_per x w with ⟨p, hp, rfl⟩ | hx
  · have k8 : ∀ {res : Option sx_V × sx_I × sx_J}, sx_E sc (d + 20) cd_X8_joins 21 [some (.inr (.inr (8, 0))), some (.inl (nI p))] [.inl (if 0 < s 0 ∧ s 5 = 1 then 1 else 0)] I J res → sx_E sc (d + 20) cd_X8_joins 0 [some (.inr (.inr (8, 0))), some (.inl (nI p))] [] I J res := fun k => ee_X8_joins_0 ⟨_, _, _, es_X5_has.v (c_has hC w hp), ee_X8_joins_8 ⟨fun c => absurd c n10, fun _ => ⟨_, _, _, es_X5_isInStorm.v hin, k⟩⟩⟩
    have k9 : ∀ {I : sx_I} {J : sx_J} {res : Option sx_V × sx_I × sx_J}, rq_Qi (sx_uI I 9 0 0 0) s → sx_E sc (d + 20) cd_X9_joins 10 [some (.inr (.inr (9, 0))), some (.inl (nI p))] [.inl 1] (sx_uI I 9 0 0 0) J res → sx_E sc (d + 20) cd_X9_joins 0 [some (.inr (.inr (9, 0))), some (.inl (nI p))] [] I J res := fun hq k => ee_X9_joins_0 (ee_X9_joins_5 ⟨_, _, _, es_X9_isPerson.v (m_isPerson hq w hp), k⟩)
    have hab := rq_A_b s hp
    have hab2 := hW.ab p hp
    by_cases h5 : s 5 = 1
    · have hst : 0 < s 0 ∧ s 5 = 1 := ⟨by omega, h5⟩
      rw [if_pos hst] at k8
      have c21 : ∀ {res : Option sx_V × sx_I × sx_J}, sx_E sc (d + 20) cd_X8_joins 32 [some (.inr (.inr (8, 0))), some (.inl (nI p))] [.inl (nI (rq_b (rq_A s) p))] I J res → sx_E sc (d + 20) cd_X8_joins 0 [some (.inr (.inr (8, 0))), some (.inl (nI p))] [] I J res := fun k => k8 (ee_X8_joins_21 ⟨fun c => absurd c n10, fun _ => ⟨_, _, _, es_X5_isAboard.v (c_isAboard hC w (rq_A_lt s) (by omega)), k⟩⟩)
      have m10 : ∀ {I : sx_I} {J : sx_J} {res : Option sx_V × sx_I × sx_J}, rq_Qi (sx_uI I 9 0 0 0) s → sx_E sc (d + 20) cd_X9_joins 32 [some (.inr (.inr (9, 0))), some (.inl (nI p))] [.inl (nI (s (10 + 4 * p)))] (sx_uI I 9 0 0 0) J res → sx_E sc (d + 20) cd_X9_joins 0 [some (.inr (.inr (9, 0))), some (.inl (nI p))] [] I J res := fun hq k => k9 hq (ee_X9_joins_10 ⟨fun c => absurd c n10, fun _ => ⟨fun _ => ⟨_, _, _, (es_X9_of (m_ofin (w := 2) (by omega) (by omega))).v (m_of2 hq (by omega)), k⟩, fun c => absurd (by rw [hq 5 (by omega), h5]; rfl) c⟩⟩)
      by_cases hs : s (10 + 4 * p) = 1
      · rw [if_pos hs] at hab
        have c32 : ∀ {res : Option sx_V × sx_I × sx_J}, sx_E sc (d + 20) cd_X8_joins 43 [some (.inr (.inr (8, 0))), some (.inl (nI p))] [.inl (nI (rq_b (rq_D s) p))] I J res → sx_E sc (d + 20) cd_X8_joins 0 [some (.inr (.inr (8, 0))), some (.inl (nI p))] [] I J res := fun k => c21 (ee_X8_joins_32 ⟨fun c => absurd c (by rw [hab]; exact nn1), fun _ => ⟨_, _, _, es_X5_isDrawing.v (c_isDrawing hC w (rq_D_lt s) (by omega)), k⟩⟩)
        have m32 : ∀ {I : sx_I} {J : sx_J} {res : Option sx_V × sx_I × sx_J}, rq_Qi (sx_uI I 9 0 0 0) s → sx_E sc (d + 20) cd_X9_joins 47 [some (.inr (.inr (9, 0))), some (.inl (nI p))] [.inl (nI (rq_b (rq_D s) p))] (sx_uI I 9 0 0 0) J res → sx_E sc (d + 20) cd_X9_joins 0 [some (.inr (.inr (9, 0))), some (.inl (nI p))] [] I J res := fun hq k => m10 hq (ee_X9_joins_32 ⟨fun c => absurd c (by rw [hs]; exact nn1), fun _ => ⟨_, _, _, (es_X9_aboard (hq.p6 w)).v (m_aboard hq w hW.ab), ee_X9_joins_40 ⟨_, _, _, (es_X9_drawing (hq.p6 w)).v (m_drawing hq w hW.kt hA), ee_X9_joins_43 ⟨_, _, _, es_X9_has.v (m_has hD (by omega)), k⟩⟩⟩⟩)
        rcases rq_b01 (rq_D s) p with e | e
        · rw [e] at c32 m32
          have hD2 : rq_D (rq_up s (11 + 4 * p) 1) = rq_on (rq_D s) p := rq_D_join w hp hab
          refine .act (x := .inl (nI (rq_pc (rq_D (rq_up s (11 + 4 * p) 1))))) h hQ g2 (hW.join (p := p)) (hV.join (p := p)) (rq_ka_le ha) (rq_kq_lt (q := q)) (rq_kp g3 hW hV ha) ?_ (fun I1 J1 hQ g2 => ?_)
          · obtain ⟨I1, J1, k1, k2, k3⟩ := e_keepC (sc := sc) (d := d + 18) g1 ha hq hC w
            have hC1 := hC.kp k3
            have hC2 := c_join hC1 hW hp hab
            have hD3 := rq_D_lt (rq_up s (11 + 4 * p) 1)
            refine ⟨i_X5_takeLot I1 J1 0 (nI p), J1, c32 (ee_X8_joins_43 ⟨fun _ => ⟨_, _, k1, ee_X8_joins_60 ⟨_, _, es_X5_takeLot, ee_X8_joins_68 ⟨_, _, _, es_X5_drawers.v (c_drawers hC2 ?_), ee_X8_joins_75 rfl⟩⟩⟩, fun c => absurd rfl c⟩), k3.gC.tr rq_sm.takeLot.nC, hC2, k2.nC .takeLot⟩
            rw [rq_up_ne (by omega)] at hD3
            exact rq_64 hD3 w
          · have hQ0 := hQ.sw (rq_same.t0 (v := 0))
            obtain ⟨I3, J3, k1, k2, k3, _⟩ := e_keepM (sc := sc) (d := d + 19) (g2.sw (rq_same.t0 (v := 0))) ha hQ0
            have hQ3 := hQ0.kp k3
            have hW3 : rq_W (rq_up s (11 + 4 * p) 1) := hW.join
            have hQ4 : rq_Q (sx_uI I3 16 3 (11 + 4 * p) (nI 1)) J3 3 0 0 0 (rq_up s (11 + 4 * p) 1) L := hQ3.uI
            have hq4 := hQ4.qi
            have hA4 := rq_64 (rq_A_lt (rq_up s (11 + 4 * p) 1)) hW3.1
            have hD4 := rq_64 (rq_D_lt (rq_up s (11 + 4 * p) 1)) hW3.1
            have ei : (((8 : Int32) + (4 : Int32) * nI p) + (3 : Int32)).toNatClampNeg = 11 + 4 * p := by rw [show (3 : Int32) = nI 3 from rfl, rq_idx, nI_clamp (by omega)]; omega
            refine ⟨sx_uI I3 16 3 (11 + 4 * p) (nI 1), J3, m32 hQ0.qi (ee_X9_joins_47 ⟨fun _ => ⟨_, _, k1, ee_X9_joins_57 ⟨m_ofin (w := 3) (by omega) (by omega), ?_⟩⟩, fun c => absurd rfl c⟩), (rq_same.t0.sm.tr k3.gM).tr (rq_sm.uI rq_nM3).nM, hQ4, k2.nM (.uI rq_nM3)⟩
            rw [ei]
            exact ee_X9_joins_71 ⟨_, _, _, (es_X9_aboard (hq4.p6 hW3.1)).v (m_aboard hq4 hW3.1 hW3.ab), ee_X9_joins_76 ⟨_, _, _, (es_X9_drawing (hq4.p6 hW3.1)).v (m_drawing hq4 hW3.1 hW3.kt hA4), ee_X9_joins_79 ⟨_, _, _, es_X9_bits.v (rq_bits hD4), ee_X9_joins_82 rfl⟩⟩⟩
        · rw [e] at c32 m32
          exact .rd h (v := .inl (Int32.ofInt (-1000002))) (c32 (ee_X8_joins_43 ⟨fun c => absurd c nn1, fun _ => rfl⟩)) .rf (m32 hq0 (ee_X9_joins_47 ⟨fun c => absurd c nn1, fun _ => rfl⟩)) .t0 rfl
      · rw [if_neg hs] at hab
        exact .rd h (v := .inl (Int32.ofInt (-1000002))) (c21 (ee_X8_joins_32 ⟨fun _ => rfl, fun c => absurd (by rw [hab]; rfl) c⟩)) .rf (m10 hq0 (ee_X9_joins_32 ⟨fun _ => rfl, fun c => absurd (by rw [show s (10 + 4 * p) = 0 by omega]; rfl) c⟩)) .t0 rfl
    · rw [if_neg (fun c => h5 c.2)] at k8
      exact .rd h (v := .inl (Int32.ofInt (-1000002))) (k8 (ee_X8_joins_21 ⟨fun _ => rfl, fun c => absurd rfl c⟩)) .rf (k9 hq0 (ee_X9_joins_10 ⟨fun c => absurd c n10, fun _ => ⟨fun c => absurd (by rw [hq0 5 (by omega)] at c; exact (nI_eq (b := 1) (by omega) (by omega)).mp c) h5, fun _ => rfl⟩⟩)) .t0 rfl
  · exact .rd h (ee_X8_joins_0 ⟨_, _, _, es_X5_has.v (c_hasnt hC hx), ee_X8_joins_8 ⟨fun _ => rfl, fun c => absurd rfl c⟩⟩) .rf (ee_X9_joins_0 (ee_X9_joins_5 ⟨_, _, _, es_X9_isPerson.v (m_isntPerson hq0 w hx), ee_X9_joins_10 ⟨fun _ => rfl, fun c => absurd rfl c⟩⟩)) .t0 rfl
/-- what was kept comes back, in the reference -/
theorem lo_undo27 (hI : I 9 0 10 = nI a) (ha : a < 24) (hk : sx_E sc d cd_X9_undo 61 [some (.inr (.inr (9, 0))), some (.inl (0 : Int32))] [] (sx_cpA I 3 5 0 (32 * a) 32) J res) : ∀ (m k : Nat), k + m = 32 → sx_E sc d cd_X9_undo 27 [some (.inr (.inr (9, 0))), some (.inl (nI k))] [] (sx_cpA I 3 5 0 (32 * a) k) J res := by
  intro m
  induction m with
  | zero =>
    intro k h
    obtain rfl : k = 32 := by omega
    exact ee_X9_undo_27 ⟨fun _ => hk, fun c => absurd (nI_le (a := 32) (by omega) (by omega)) c⟩
  | succ m ih =>
    intro k h
    refine ee_X9_undo_27 ⟨fun c => absurd c (nI_ge (b := 32) (by omega) (by omega)), fun _ => ?_⟩
    rw [sx_cpA_ne (by decide), hI, show (32 : Int32) * nI a + nI k = nI (32 * a + k) from sx_ix]
    refine ⟨sx_in_nI (by omega) (by omega), sx_in_nI (by omega) (by omega), ee_X9_undo_53 ?_⟩
    rw [nI_1, nI_clamp (by omega), nI_clamp (by omega)]
    have e := sx_cpA_1 (I := I) (dd := 3) (ss := 5) (od := 0) (os := 32 * a) (k := k) (Or.inl (by decide))
    rw [Nat.zero_add] at e
    rw [e]
    exact ih (k + 1) (by omega)
theorem lo_undo61 (hI : I 9 0 10 = nI a) (ha : a < 24) (hk : res = (some (.inl (nI a)), I, sx_cpB J 0 1 0 (6 * a) 6)) : ∀ (m k : Nat), k + m = 6 → sx_E sc d cd_X9_undo 61 [some (.inr (.inr (9, 0))), some (.inl (nI k))] [] I (sx_cpB J 0 1 0 (6 * a) k) res := by
  intro m
  induction m with
  | zero =>
    intro k h
    obtain rfl : k = 6 := by omega
    exact ee_X9_undo_61 ⟨fun _ => by rw [hI]; exact hk, fun c => absurd (nI_le (a := 6) (by omega) (by omega)) c⟩
  | succ m ih =>
    intro k h
    refine ee_X9_undo_61 ⟨fun c => absurd c (nI_ge (b := 6) (by omega) (by omega)), fun _ => ?_⟩
    rw [hI, show (6 : Int32) * nI a + nI k = nI (6 * a + k) from sx_ix]
    refine ⟨sx_in_nI (by omega) (by omega), sx_in_nI (by omega) (by omega), ee_X9_undo_87 ?_⟩
    rw [nI_1, nI_clamp (by omega), nI_clamp (by omega)]
    have e := sx_cpB_1 (J := J) (dd := 0) (ss := 1) (od := 0) (os := 6 * a) (k := k) (Or.inl (by decide))
    rw [Nat.zero_add] at e
    rw [e]
    exact ih (k + 1) (by omega)
theorem rq_sm.cpA {b c x n : Nat} {P : Nat → Nat → Nat → Prop} (h : ∀ z, P 16 b z) : rq_sm P I J (sx_cpA I b c 0 x n) J := ⟨fun y z k q => if_neg (fun w => q.2 (by rw [w.1, w.2.1]; exact h k)), fun _ _ _ _ => rfl⟩
theorem rq_sm.cpB {b c x n : Nat} {P : Nat → Nat → Nat → Prop} (h : ∀ z, P 17 b z) : rq_sm P I J I (sx_cpB J b c 0 x n) := ⟨fun _ _ _ _ => rfl, fun y z k q => if_neg (fun w => q.2 (by rw [w.1, w.2.1]; exact h k))⟩
theorem pr_undo (h : rq_Rel I J) : rq_pair sc (d + 20) cd_X8_undo cd_X9_undo [some (.inr (.inr (8, 0)))] [some (.inr (.inr (9, 0))), none] I J := by
  obtain ⟨s, L, hC, hQ, hW, hV⟩ := h.2.2.2.2.1
  obtain ⟨a, q, f, ha, hq, g1, g2, g3⟩ := h.2.2.2.2.2.2.op
  cases a with
  | zero =>
    exact .rd h (v := .inl (Int32.ofInt (-1000002))) (ee_X8_undo_0 ⟨_, _, _, e_takeC0 g1 hq, ee_X8_undo_11 ⟨fun _ => rfl, fun c => absurd rfl c⟩⟩) .rf (ee_X9_undo_0 (ee_X9_undo_5 ⟨fun _ => rfl, fun c => absurd (show (sx_uI I 9 0 0 0) 9 0 10 = 0 from g2.1) c⟩)) .t0 rfl
  | succ a =>
    have hp := g3 a (by omega)
    refine .act (x := .inl (nI a)) h hQ g2 hp.1 hp.2 (a1 := a) (q1 := rq_tq q) (f1 := f) (by omega) (by unfold rq_tq; split <;> omega) (fun i hi => g3 i (by omega)) ?_ (fun I1 J1 hQ g2 => ?_)
    · obtain ⟨I1, J1, k1, k2, k3, k4⟩ := e_takeC (sc := sc) (d := d + 18) g1 (by omega) hq hp.1.1
      exact ⟨I1, J1, ee_X8_undo_0 ⟨_, _, _, k1, ee_X8_undo_11 ⟨fun c => absurd c n10, fun _ => by rw [k2.2.1]⟩⟩, k4, k3, k2⟩
    · have e10 : (sx_uI I1 9 0 0 0) 9 0 10 = nI (a + 1) := g2.1
      have hE : sx_E sc (d + 20) cd_X9_undo 25 [some (.inr (.inr (9, 0))), none] [] (sx_uI (sx_uI I1 9 0 0 0) 9 0 10 (nI a)) J1 (some (.inl (nI a)), sx_cpA (sx_uI (sx_uI I1 9 0 0 0) 9 0 10 (nI a)) 3 5 0 (32 * a) 32, sx_cpB J1 0 1 0 (6 * a) 6) := by
        have h1 := lo_undo61 (sc := sc) (d := d + 20) (I := sx_cpA (sx_uI (sx_uI I1 9 0 0 0) 9 0 10 (nI a)) 3 5 0 (32 * a) 32) (J := J1) (a := a) rfl (by omega) rfl 6 0 rfl
        rw [sx_cpB_0] at h1
        have h2 := lo_undo27 (sc := sc) (d := d + 20) (I := sx_uI (sx_uI I1 9 0 0 0) 9 0 10 (nI a)) (J := J1) (a := a) rfl (by omega) h1 32 0 rfl
        rw [sx_cpA_0] at h2
        exact ee_X9_undo_25 h2
      have hk := g2.2 a (by omega)
      have kM : ∀ z, rq_oM 16 3 z := fun z => Or.inl rq_nM3
      have kM2 : ∀ z, rq_oM 17 0 z := fun z => Or.inl (Or.inr ⟨rfl, rfl⟩)
      refine ⟨_, _, ee_X9_undo_0 (ee_X9_undo_5 ⟨fun c => absurd (e10.symm.trans c) (nI_ne0 (by omega) (by omega)), fun _ => by rw [e10, nI_pred]; exact hE⟩), ((rq_same.t0.sm.tr (.uI (Or.inr (Or.inr (Or.inr ⟨rfl, rfl⟩))))).tr (.cpA kM)).tr (.cpB kM2), ⟨fun k hk' => ?_, fun k hk' => ?_⟩, ⟨rfl, fun i hi => ?_⟩⟩
      · refine (if_pos (by omega)).trans ?_
        rw [show 32 * a + (0 + k - 0) = 32 * a + k by omega]
        exact hk.1 k hk'
      · refine (if_pos (by omega)).trans ?_
        rw [show 6 * a + (0 + k - 0) = 6 * a + k by omega]
        exact hk.2 k hk'
      · have hi2 := g2.2 i (by omega)
        exact hi2.fr (fun k _ => if_neg (by omega)) (fun k _ => if_neg (by omega))
end RQU
