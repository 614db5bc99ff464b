/-! pair: cast -/
theorem sx_flJ {J : sx_J} {kd r k : Nat} {F : Nat → Int64} : sx_uJ (fun x y z => if x = kd ∧ y = r ∧ z < k then F z else J x y z) kd r k (F k) = fun x y z => if x = kd ∧ y = r ∧ z < k + 1 then F z else J x y z := by
  funext x y z
  simp only [sx_uJ]
  by_cases h1 : x = kd ∧ y = r ∧ z = k
  · rw [if_pos h1, if_pos (by omega), h1.2.2]
  · rw [if_neg h1]
    by_cases h2 : x = kd ∧ y = r ∧ z < k
    · rw [if_pos h2, if_pos (by omega)]
    · rw [if_neg h2, if_neg (by omega)]
section RQV
variable {sc : Nat × (Nat → Int32)} {d : Nat} {I I1 I2 : sx_I} {J J1 J2 : sx_J} {s L s1 L1 : Nat → Nat} {a q p v y r h l A D : Nat} {st : Int32} {f : Nat → (Nat → Nat) × (Nat → Nat)} {res : Option sx_V × sx_I × sx_J}
theorem lo_cast92 {x1 x2 : Int32} (hk : sx_E sc (d + 1) cd_X9_cast 92 [some (.inr (.inr (9, 0))), some (.inl x1), some (.inl x2), some (.inl (nI 6))] [] I (sx_cpB J 0 3 0 0 6) res) : ∀ (m k : Nat), k + m = 6 → sx_E sc (d + 1) cd_X9_cast 92 [some (.inr (.inr (9, 0))), some (.inl x1), some (.inl x2), some (.inl (nI k))] [] I (sx_cpB J 0 3 0 0 k) res := by
  intro m
  induction m with
  | zero =>
    intro k h
    obtain rfl : k = 6 := by omega
    exact hk
  | succ m ih =>
    intro k h
    refine ee_X9_cast_92 ⟨fun c => absurd c (nI_ge (b := 6) (by omega) (by omega)), fun _ => ⟨sx_in_nI (by omega) (by omega), sx_in_nI (by omega) (by omega), ee_X9_cast_110 ?_⟩⟩
    rw [nI_1, nI_clamp (by omega)]
    have e := sx_cpB_1 (J := J) (dd := 0) (ss := 3) (od := 0) (os := 0) (k := k) (Or.inl (by decide))
    rw [Nat.zero_add] at e
    rw [e]
    exact ih (k + 1) (by omega)
theorem rq_W.lots (hW : rq_W s) (h6 : s 6 < 4) : rq_W (rq_up s 6 (s 6 + 1)) := by
  obtain ⟨w0, w1, w2, w3, w6, w7, w4, w5, w9, w10⟩ := hW
  refine ⟨w0, w1, w2, w3, ?_, w7, w4, w5, w9, fun p hp => ?_⟩
  · show s 6 + 1 ≤ 4; omega
  · rw [rq_up_ne (by omega), rq_up_ne (by omega), rq_up_ne (by omega), rq_up_ne (by omega)]; exact w10 p hp
theorem rq_V.lots (hV : rq_V s L) (h5 : s 5 = 1) (h1 : s 1 ≤ 10) (hs : 0 < rq_sum (rq_lot s D p L)) : rq_V (rq_up s 6 (s 6 + 1)) (rq_lot s D p L) := by
  refine ⟨rq_lot_0 hV.1 p, fun z hz => ?_, fun _ => hs, fun c z hz hs => ?_⟩
  · have e := hV.2.1 z hz
    have e2 := rq_lot_le (D := D) (L := L) h1 p z
    show rq_lot s D p L z ≤ 18 * 60 ^ (s 6 + 1) * (if s 5 = 0 then 20 else 1)
    rw [h5, if_neg (by decide), Nat.mul_one] at e
    rw [h5, if_neg (by decide), Nat.pow_succ]; omega
  · rw [rq_up_ne (by omega)] at hs
    rw [rq_lot, hV.2.2.2 (by omega) z hz hs, Nat.zero_mul]
theorem c_lots (hC : rq_C I J 0 s L) : rq_C (sx_uI I 5 0 5 (nI v)) J 0 (rq_up s 6 v) L := by
  have hR := (rq_R.u5 (h1 := v) hC).cg (s1 := rq_up s 6 v) (fun k hk => rq_up_ne (by omega)) (fun p _ => ⟨rq_up_ne (by omega), rq_up_ne (by omega)⟩)
  have eA : rq_A (rq_up s 6 v) = rq_A s := rq_A_cg rfl (fun p _ => rq_up_ne (by omega))
  have eD : rq_D (rq_up s 6 v) = rq_D s := rq_D_cg rfl eA (fun p _ => rq_up_ne (by omega)) (fun p _ => rq_up_ne (by omega))
  exact .of hR rfl rfl eA.symm eD.symm rfl
theorem rq_sm.learnLot {x : Int32} : rq_sm rq_nC I J I (j_X5_learnLot I J 0 x) := ⟨fun _ _ _ _ => rfl, fun x y z c => if_neg (fun q => c.2 ⟨Or.inr (Or.inr (Or.inr q.1)), q.2.1⟩)⟩
theorem rq_lN0 {n : Nat} (h : n < 2 ^ 63) : lN n = 0 ↔ n = 0 := sx_lN0 h
theorem pr_cast (h : rq_Rel I J) {x : Int32} : rq_pair sc (d + 20) cd_X8_cast cd_X9_cast [some (.inr (.inr (8, 0))), some (.inl x)] [some (.inr (.inr (9, 0))), some (.inl x), none, none] I J := by
  obtain ⟨s, L, hC, hQ, hW, hV⟩ := h.2.2.2.2.1
  obtain ⟨a, q, f, ha, hq, g1, g2, g3⟩ := h.2.2.2.2.2.2.op
  have w := hW.1
  have hin := c_inStorm hC hW
  have hD := rq_64 (rq_D_lt s) w
  have hA := rq_64 (rq_A_lt s) w
  have hb := hW
  obtain ⟨w0, w1, w2, w3, w6, w7, w4, w5, w9, w10⟩ := hb
  have hs2 := hV.sum hW
  rcases rq_per x w with ⟨p, hp, rfl⟩ | hx
  · have b2 := rq_lot_sum (D := rq_D s) (L := L) w1 p
    have k8 : ∀ {res : Option sx_V × sx_I × sx_J}, sx_E sc (d + 20) cd_X8_cast 21 [some (.inr (.inr (8, 0))), some (.inl (nI p))] [.inl (if 0 < s 0 ∧ s 5 = 1 then 1 else 0)] I J res → sx_E sc (d + 20) cd_X8_cast 0 [some (.inr (.inr (8, 0))), some (.inl (nI p))] [] I J res := fun k => ee_X8_cast_0 ⟨_, _, _, es_X5_has.v (c_has hC w hp), ee_X8_cast_8 ⟨fun c => absurd c n10, fun _ => ⟨_, _, _, es_X5_isInStorm.v hin, k⟩⟩⟩
    have k9 : ∀ {I : sx_I} {J : sx_J} {res : Option sx_V × sx_I × sx_J}, rq_Qi (sx_uI I 9 0 0 0) s → sx_E sc (d + 20) cd_X9_cast 39 [some (.inr (.inr (9, 0))), some (.inl (nI p)), some (.inl (nI (rq_D s))), none] [] (sx_uI I 9 0 0 0) (j_X9_byLot (sx_uI I 9 0 0 0) J 0 3 (nI (rq_D s)) (nI p)) res → sx_E sc (d + 20) cd_X9_cast 0 [some (.inr (.inr (9, 0))), some (.inl (nI p)), none, none] [] I J res := fun hq k => ee_X9_cast_0 (ee_X9_cast_5 ⟨_, _, _, es_X9_isPerson.v (m_isPerson hq w hp), ee_X9_cast_10 ⟨fun c => absurd c n10, fun _ => ⟨_, _, _, (es_X9_aboard (hq.p6 w)).v (m_aboard hq w hW.ab), ee_X9_cast_21 ⟨_, _, _, (es_X9_drawing (hq.p6 w)).v (m_drawing hq w hW.kt hA), ee_X9_cast_24 ⟨_, _, es_X9_byLot (hq.p6 w), k⟩⟩⟩⟩⟩)
    have hq0 := hQ.qi.t0 (v := 0)
    have e2 : rq_same I J (sx_uI I 9 0 0 0) (j_X9_byLot (sx_uI I 9 0 0 0) J 0 3 (nI (rq_D s)) (nI p)) := rq_same.t0.tr (.byLot (Or.inr rfl))
    by_cases h5 : s 5 = 1
    · have hst : 0 < s 0 ∧ s 5 = 1 := ⟨by omega, h5⟩
      rw [if_pos hst] at k8
      have hlt : s 4 < s 2 + s 7 := (w9 hst.1 (by omega)).mp h5
      have c21 : ∀ {res : Option sx_V × sx_I × sx_J}, sx_E sc (d + 20) cd_X8_cast 32 [some (.inr (.inr (8, 0))), some (.inl (nI p))] [.inl (nI (rq_b (rq_D s) p))] I J res → sx_E sc (d + 20) cd_X8_cast 0 [some (.inr (.inr (8, 0))), some (.inl (nI p))] [] I J res := fun k => k8 (ee_X8_cast_21 ⟨fun c => absurd c n10, fun _ => ⟨_, _, _, es_X5_isDrawing.v (c_isDrawing hC w (rq_D_lt s) (by omega)), k⟩⟩)
      have m39 : ∀ {I : sx_I} {J : sx_J} {res : Option sx_V × sx_I × sx_J}, rq_Qi (sx_uI I 9 0 0 0) s → sx_E sc (d + 20) cd_X9_cast 54 [some (.inr (.inr (9, 0))), some (.inl (nI p)), some (.inl (nI (rq_D s))), none] [.inl (nI (rq_b (rq_D s) p))] (sx_uI I 9 0 0 0) (j_X9_byLot (sx_uI I 9 0 0 0) J 0 3 (nI (rq_D s)) (nI p)) res → sx_E sc (d + 20) cd_X9_cast 0 [some (.inr (.inr (9, 0))), some (.inl (nI p)), none, none] [] I J res := fun hq k => k9 hq (ee_X9_cast_39 ⟨fun _ => ⟨_, _, _, es_X9_has.v (m_has hD (by omega)), k⟩, fun c => absurd (by rw [hq 5 (by omega), h5]; rfl) c⟩)
      rcases rq_b01 (rq_D s) p with e | e
      · rw [e] at c21 m39
        exact .rd h (v := .inl (Int32.ofInt (-1000002))) (c21 (ee_X8_cast_32 ⟨fun _ => rfl, fun c => absurd rfl c⟩)) .rf (m39 hq0 (ee_X9_cast_54 ⟨fun _ => rfl, fun c => absurd rfl c⟩)) e2 rfl
      · rw [e] at c21 m39
        have c43 : ∀ {res : Option sx_V × sx_I × sx_J}, sx_E sc (d + 20) cd_X8_cast 43 [some (.inr (.inr (8, 0))), some (.inl (nI p))] [.inr (.inl (lN (rq_sum (rq_lot s (rq_D s) p L))))] I J res → sx_E sc (d + 20) cd_X8_cast 0 [some (.inr (.inr (8, 0))), some (.inl (nI p))] [] I J res := fun k => c21 (ee_X8_cast_32 ⟨fun c => absurd c nn1, fun _ => ⟨_, _, _, (es_X5_allIfNamed (hC.p6 w)).w (c_allIfNamed hC w (rq_D_lt s) w1 (fun q hq => hW.kd hq) hV.1 (by omega)), k⟩⟩)
        have m64 : ∀ {I : sx_I} {J : sx_J} {res : Option sx_V × sx_I × sx_J}, rq_Qi (sx_uI I 9 0 0 0) s → rq_Lj J 0 L → sx_E sc (d + 20) cd_X9_cast 64 [some (.inr (.inr (9, 0))), some (.inl (nI p)), some (.inl (nI (rq_D s))), none] [.inr (.inl (lN (rq_sum (rq_lot s (rq_D s) p L))))] (sx_uI I 9 0 0 0) (j_X9_byLot (sx_uI I 9 0 0 0) J 0 3 (nI (rq_D s)) (nI p)) res → sx_E sc (d + 20) cd_X9_cast 0 [some (.inr (.inr (9, 0))), some (.inl (nI p)), none, none] [] I J res := fun hq hl k => m39 hq (ee_X9_cast_54 ⟨fun c => absurd c nn1, fun _ => ⟨_, _, _, es_X9_allOf.w (m_allOf (m_byLot hq w w1 (fun q hq => hW.kd hq) hD (by omega) hl hV.1)), k⟩⟩)
        by_cases hz : rq_sum (rq_lot s (rq_D s) p L) = 0
        · rw [hz] at c43 m64
          exact .rd h (v := .inl (Int32.ofInt (-1000002))) (c43 (ee_X8_cast_43 ⟨fun _ => rfl, fun c => absurd rfl c⟩)) .rf (m64 hq0 hQ.lj (ee_X9_cast_64 ⟨fun _ => rfl, fun c => absurd rfl c⟩)) e2 rfl
        · have hne : ¬ lN (rq_sum (rq_lot s (rq_D s) p L)) = 0 := fun c => hz ((rq_lN0 (by omega)).mp c)
          have e5 : I 5 0 5 = nI (s 6) := hC.2.2.2.2.2.1
          by_cases h6 : s 6 < 4
          · have hWl := hW.lots h6
            refine .act (x := .inl (nI (s 6 + 1))) h hQ g2 (hWl.pas hlt) (hV.lots (D := rq_D s) (p := p) h5 w1 (by omega)).pas (rq_ka_le ha) (rq_kq_lt (q := q)) (rq_kp g3 hW hV ha) ?_ (fun I1 J1 hQ g2 => ?_)
            · obtain ⟨I1, J1, k1, k2, k3⟩ := e_keepC (sc := sc) (d := d + 18) g1 ha hq hC w
              have hC1 := hC.kp k3
              have hC2 : rq_C I1 (j_X5_learnLot I1 J1 0 (nI p)) 0 s (rq_lot s (rq_D s) p L) := c_learnLot hC1 w (rq_D_lt s) w1 (fun q hq => hW.kd hq) (by omega)
              have hC3 := c_lots (v := s 6 + 1) hC2
              have hC4 := c_pas hC3
              refine ⟨_, _, c43 (ee_X8_cast_43 ⟨fun c => absurd c hne, fun _ => ⟨fun _ => ⟨_, _, k1, ee_X8_cast_76 ⟨_, _, es_X5_learnLot (hC1.p6 w), ee_X8_cast_84 ?_⟩⟩, fun c => absurd (by rw [e5]; exact nI_lt (b := 4) h6 (by omega)) c⟩⟩), ((k3.gC.tr rq_sm.learnLot.nC).tr (rq_sm.uI rq_nC5).nC).tr (rq_sm.uI rq_nC5).nC, hC4, ((k2.nC .learnLot).nC (.uI rq_nC5)).nC (.uI rq_nC5)⟩
              rw [show I1 5 0 5 = nI (s 6) from hC1.2.2.2.2.2.1, nI_1]
              refine ee_X8_cast_97 ?_
              rw [show sx_uI I1 5 0 5 (nI (s 6 + 1)) 5 0 4 = nI (s 4) from hC1.2.2.2.2.1, nI_1]
              exact ee_X8_cast_110 rfl
            · have hQ0 := hQ.sw (rq_same.t0 (v := 0))
              have eb : rq_same (sx_uI I1 9 0 0 0) J1 (sx_uI I1 9 0 0 0) (j_X9_byLot (sx_uI I1 9 0 0 0) J1 0 3 (nI (rq_D s)) (nI p)) := .byLot (Or.inr rfl)
              have hQ1 := hQ0.sw eb
              have hL3 := m_byLot hQ0.qi w w1 (fun q hq => hW.kd hq) hD (nm := p) (r2 := 3) (by omega) hQ0.lj hV.1
              obtain ⟨I3, J3, k1, k2, k3, k4⟩ := e_keepM (sc := sc) (d := d + 19) ((g2.sw (rq_same.t0 (v := 0))).sw eb) ha hQ1
              have hQ3 := hQ1.kp k3
              have hQ4 : rq_Q I3 (sx_cpB J3 0 3 0 0 6) 3 0 0 0 s (rq_lot s (rq_D s) p L) := ⟨hQ3.1, fun k hk => by
                refine (if_pos (by omega)).trans ?_
                rw [show 0 + (0 + k - 0) = k by omega, k4 k]; exact hL3 k hk⟩
              have hQ5 : rq_Q (sx_uI I3 16 3 6 (nI (s 6 + 1))) (sx_cpB J3 0 3 0 0 6) 3 0 0 0 (rq_up s 6 (s 6 + 1)) (rq_lot s (rq_D s) p L) := hQ4.uI
              have hQ6 := m_passes hQ5 (show s 2 + s 7 < 2 ^ 31 by omega) (show s 4 + 1 < 2 ^ 31 by omega) (show s 5 < 2 ^ 31 by omega)
              have e6 : ¬ (sx_uI I1 9 0 0 0) 16 3 6 = 4 := by rw [hQ0.qi 6 (by omega)]; exact fun c => absurd ((nI_eq (b := 4) (by omega) (by omega)).mp c) (by omega)
              have hN : ∀ z, rq_nM 17 0 z := fun z => Or.inr ⟨rfl, rfl⟩
              have hend : sx_E sc (d + 20) cd_X9_cast 92 [some (.inr (.inr (9, 0))), some (.inl (nI p)), some (.inl (nI (rq_D s))), some (.inl (nI 6))] [] I3 (sx_cpB J3 0 3 0 0 6) (some (.inl (nI (s 6 + 1))), i_X9_passes (sx_uI I3 16 3 6 (nI (s 6 + 1))) (sx_cpB J3 0 3 0 0 6), sx_cpB J3 0 3 0 0 6) := by
                refine ee_X9_cast_92 ⟨fun _ => ?_, fun c => absurd (nI_le (a := 6) (by omega) (by omega)) c⟩
                rw [hQ4.qi 6 (by omega), nI_1]
                refine ee_X9_cast_127 ⟨_, _, es_X9_passes, ee_X9_cast_131 ?_⟩
                rw [show i_X9_passes (sx_uI I3 16 3 6 (nI (s 6 + 1))) (sx_cpB J3 0 3 0 0 6) 16 3 6 = nI (s 6 + 1) from hQ6.qi 6 (by omega)]
              have hlp := lo_cast92 hend 6 0 rfl
              rw [sx_cpB_0] at hlp
              refine ⟨_, _, m64 hQ0.qi hQ0.lj (ee_X9_cast_64 ⟨fun c => absurd c hne, fun _ => ⟨fun c => absurd c e6, fun _ => ⟨_, _, k1, ee_X9_cast_90 hlp⟩⟩⟩), ((((rq_same.t0.tr eb).sm.tr k3.gM).tr (rq_sm.cpB hN).nM).tr (rq_sm.uI rq_nM3).nM).tr rq_sm.passes.nM, hQ6, ((k2.nM (.cpB hN)).nM (.uI rq_nM3)).nM .passes⟩
          · exact .rd h (v := .inl (Int32.ofInt (-1000003))) (c43 (ee_X8_cast_43 ⟨fun c => absurd c hne, fun _ => ⟨fun c => absurd c (by rw [e5]; exact nI_nlt (b := 4) (by omega) (by omega)), fun _ => rfl⟩⟩)) .rf (m64 hq0 hQ.lj (ee_X9_cast_64 ⟨fun c => absurd c hne, fun _ => ⟨fun _ => rfl, fun c => absurd (by rw [hq0 6 (by omega), show s 6 = 4 by omega]; rfl) c⟩⟩)) e2 rfl
    · rw [if_neg (fun c => h5 c.2)] at k8
      exact .rd h (v := .inl (Int32.ofInt (-1000002))) (k8 (ee_X8_cast_21 ⟨fun _ => rfl, fun c => absurd rfl c⟩)) .rf (k9 hq0 (ee_X9_cast_39 ⟨fun c => absurd (by rw [hq0 5 (by omega)] at c; exact (nI_eq (b := 1) (by omega) (by omega)).mp c) h5, fun _ => rfl⟩)) e2 rfl
  · have hq0 := hQ.qi.t0 (v := 0)
    exact .rd h (ee_X8_cast_0 ⟨_, _, _, es_X5_has.v (c_hasnt hC hx), ee_X8_cast_8 ⟨fun _ => rfl, fun c => absurd rfl c⟩⟩) .rf (ee_X9_cast_0 (ee_X9_cast_5 ⟨_, _, _, es_X9_isPerson.v (m_isntPerson hq0 w hx), ee_X9_cast_10 ⟨fun _ => rfl, fun c => absurd rfl c⟩⟩)) .t0 rfl
end RQV
