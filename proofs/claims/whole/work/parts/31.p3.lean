/-! pairs: named, price, count, as -/
section RQK3
variable {sc : Nat × (Nat → Int32)} {d : Nat} {I I1 I2 : sx_I} {J J1 J2 : sx_J} {s L : Nat → Nat}
theorem pr_named (h : rq_Rel I J) {x y : Int32} : rq_pair sc (d + 20) cd_X8_named cd_X9_named [some (.inr (.inr (8, 0))), some (.inl x), some (.inl y)] [some (.inr (.inr (9, 0))), some (.inl x), some (.inl y), none] I J := by
  obtain ⟨s, L, hC, hQ, hW, hV⟩ := h.2.2.2.2.1
  have hq := hQ.qi.t0 (v := 0)
  have w := hW.1
  have hD := rq_64 (rq_D_lt s) w
  have e8 : I 5 0 8 = nI (rq_D s) := hC.2.2.2.2.2.2.2.2.1
  rcases rq_per x w with ⟨p, hp, rfl⟩ | hx
  · have hs := hV.2.2.1 (by omega)
    have hs2 := hV.sum hW
    rcases m_inC (I := sx_uI I 9 0 0 0) (J := J) I J (x := y) (a := 0) (b := 1) (y := 0) (z := 1) (by decide) (by decide) with ⟨i1, i2, _, _⟩ | ⟨i1, i2⟩
    · have k8 : ∀ {res : Option sx_V × sx_I × sx_J}, sx_E sc (d + 20) cd_X8_named 17 [some (.inr (.inr (8, 0))), some (.inl (nI p)), some (.inl y)] [.inl 0] I J res → sx_E sc (d + 20) cd_X8_named 0 [some (.inr (.inr (8, 0))), some (.inl (nI p)), some (.inl y)] [] I J res := fun k => ee_X8_named_0 ⟨_, _, _, es_X5_has.v (c_has hC w hp), ee_X8_named_8 ⟨fun c => absurd c n10, fun _ => ⟨_, _, _, es_X8_isOutside.v i2, k⟩⟩⟩
      have k9 : ∀ {res : Option sx_V × sx_I × sx_J}, sx_E sc (d + 20) cd_X9_named 35 [some (.inr (.inr (9, 0))), some (.inl (nI p)), some (.inl y), none] [.inl (nI (rq_D s))] (sx_uI I 9 0 0 0) J res → sx_E sc (d + 20) cd_X9_named 0 [some (.inr (.inr (9, 0))), some (.inl (nI p)), some (.inl y), none] [] I J res := fun k => ee_X9_named_0 (ee_X9_named_5 ⟨_, _, _, es_X9_isPerson.v (m_isPerson hq w hp), ee_X9_named_10 ⟨fun c => absurd c n10, fun _ => ⟨_, _, _, es_X9_in.v i1, ee_X9_named_20 ⟨fun c => absurd c n10, fun _ => ⟨_, _, _, (es_X9_aboard (hq.p6 w)).v (m_aboard hq w hW.ab), ee_X9_named_32 ⟨_, _, _, (es_X9_drawing (hq.p6 w)).v (m_drawing hq w hW.kt (rq_64 (rq_A_lt s) w)), k⟩⟩⟩⟩⟩⟩)
      by_cases hD0 : rq_D s = 0
      · exact .rd h (k8 (ee_X8_named_17 ⟨fun _ => ⟨fun _ => rfl, fun c => absurd (by rw [e8, hD0]; rfl) c⟩, fun c => absurd rfl c⟩)) .rf (k9 (ee_X9_named_35 ⟨fun _ => ee_X9_named_73 rfl, fun c => absurd (by rw [hD0]; rfl) c⟩)) .t0 rfl
      · have hne : ¬ nI (rq_D s) = 0 := fun q => hD0 ((rq_nI0 (by omega)).mp q)
        have hpc := rq_pc_le (rq_D s)
        have hpp := rq_nz _ hD hD0
        have b1 : 10 * rq_pc (rq_D s) * rq_sum L ≤ 60 * rq_sum L := Nat.mul_le_mul_right _ (by omega)
        have b0 : 0 < 10 * rq_pc (rq_D s) * rq_sum L := Nat.mul_pos (by omega) hs
        have b2 := rq_lot_sum (D := rq_D s) (L := L) hW.2.1 p
        have b3 : rq_b (rq_D s) p * rq_sum (rq_lot s (rq_D s) p L) < 2 ^ 63 := by
          rcases rq_b01 (rq_D s) p with e | e <;> rw [e] <;> omega
        have e1 : (10 : Int64) * (nI (rq_pc (rq_D s))).toInt64 * lN (rq_sum L) = lN (10 * rq_pc (rq_D s) * rq_sum L) := by
          rw [nI_l (by omega), show (10 : Int64) = lN 10 from rfl, lN_mul, lN_mul]
        have h9 : sx_E sc (d + 20) cd_X9_named 0 [some (.inr (.inr (9, 0))), some (.inl (nI p)), some (.inl y), none] [] I J (some (.inr (.inl (rq_fr (rq_b (rq_D s) p * rq_sum (rq_lot s (rq_D s) p L)) (10 * rq_pc (rq_D s) * rq_sum L) y))), sx_uI I 9 0 0 0, j_X9_namedOf (sx_uI I 9 0 0 0) J (nI (rq_D s)) (nI p)) := by
          refine k9 (ee_X9_named_35 ⟨fun c => absurd c hne, fun _ => ⟨_, _, _, (es_X9_namedOf (hq.p6 w)).w (m_namedOf hq hW hQ.lj hV.1 hD (by omega)), ee_X9_named_52 ⟨_, _, _, es_X9_bits.v (rq_bits hD), ee_X9_named_59 ⟨_, _, _, es_X9_allOf.w (m_allOf (hQ.lj.sm (I := sx_uI I 9 0 0 0) (I1 := sx_uI I 9 0 0 0) .namedOf)), ?_⟩⟩⟩⟩)
          refine ee_X9_named_68 ⟨_, _, _, ?_, ee_X9_named_73 rfl⟩
          rw [e1]
          exact e_part b3 (by omega) b0
        rcases rq_b01 (rq_D s) p with e | e
        · rw [e, Nat.zero_mul, rq_fr_0 b0] at h9
          refine .rd (v := .inr (.inl (if y = 0 then 0 else 1))) h (k8 (ee_X8_named_17 ⟨fun _ => ⟨fun c => absurd (by rw [e8] at c; exact c) hne, fun _ => ⟨_, _, _, es_X5_isDrawing.v (c_isDrawing hC w (rq_D_lt s) (by omega)), ee_X8_named_46 ⟨fun _ => ⟨_, _, _, (e_lowest (a := 0) (b := 1) (by omega) (by omega) (by omega)).w (rq_fr_0 (by omega) y), ee_X8_named_55 rfl⟩, fun c => absurd (by rw [e]; rfl) c⟩⟩⟩, fun c => absurd rfl c⟩)) .rf h9 (rq_same.t0.tr .namedOf) rfl
        · rw [e, Nat.one_mul] at h9
          refine .rd h (k8 (ee_X8_named_17 ⟨fun _ => ⟨fun c => absurd (by rw [e8] at c; exact c) hne, fun _ => ⟨_, _, _, es_X5_isDrawing.v (c_isDrawing hC w (rq_D_lt s) (by omega)), ee_X8_named_46 ⟨fun c => absurd c (by rw [e]; exact nn1), fun _ => ⟨_, _, _, (es_X5_allIfNamed (hC.p6 w)).w (c_allIfNamed hC w (rq_D_lt s) hW.2.1 (fun q hq => hW.kd hq) hV.1 (by omega)), ee_X8_named_64 ⟨_, _, _, (es_X5_allLots (hC.p6 w)).w (c_allLots hC w (rq_D_lt s) hV.1), ee_X8_named_71 ⟨_, _, _, e_lowest (by omega) (by omega) b0, ee_X8_named_75 rfl⟩⟩⟩⟩⟩⟩, fun c => absurd rfl c⟩)) .rf h9 (rq_same.t0.tr .namedOf) rfl
    · exact .rd h (ee_X8_named_0 ⟨_, _, _, es_X5_has.v (c_has hC w hp), ee_X8_named_8 ⟨fun c => absurd c n10, fun _ => ⟨_, _, _, es_X8_isOutside.v i2, ee_X8_named_17 ⟨fun c => absurd c n10, fun _ => rfl⟩⟩⟩⟩) .rf (ee_X9_named_0 (ee_X9_named_5 ⟨_, _, _, es_X9_isPerson.v (m_isPerson hq w hp), ee_X9_named_10 ⟨fun c => absurd c n10, fun _ => ⟨_, _, _, es_X9_in.v i1, ee_X9_named_20 ⟨fun _ => rfl, fun c => absurd rfl c⟩⟩⟩⟩)) .t0 rfl
  · exact .rd h (ee_X8_named_0 ⟨_, _, _, es_X5_has.v (c_hasnt hC hx), ee_X8_named_8 ⟨fun _ => rfl, fun c => absurd rfl c⟩⟩) .rf (ee_X9_named_0 (ee_X9_named_5 ⟨_, _, _, es_X9_isPerson.v (m_isntPerson hq w hx), ee_X9_named_10 ⟨fun _ => rfl, fun c => absurd rfl c⟩⟩)) .t0 rfl
theorem rq_st01 (s : Nat → Nat) : rq_st s = 0 ∨ rq_st s = 1 := by
  unfold rq_st; repeat' split
  all_goals first | exact Or.inl rfl | exact Or.inr rfl
theorem rq_C.st {r : Nat} (h : rq_C I J r s L) : I 5 r 9 = 0 ∨ I 5 r 9 = 1 := by
  rw [show I 5 r 9 = rq_st s from h.2.2.2.2.2.2.2.2.2.1]; exact rq_st01 s
theorem rq_same.takeLot {r : Nat} {x : Int32} (hr : r = 1 ∨ 28 ≤ r) : rq_same I J (i_X5_takeLot I J r x) J := by
  unfold i_X5_takeLot; split
  · exact .rf
  · exact .uI (by unfold rq_scr rq_cs; omega)
theorem rq_m1 {x : Int32} (hx : ¬ x < 0) : ¬ x = Int32.ofInt (-1) := fun q => hx (by rw [q]; decide)
theorem rq_pair.two {c8 c9 : sx_C} {lv8 lv9 : sx_L} {v : sx_V} (h : rq_Rel I J) (h8 : ∃ I1 J1, rq_same I J I1 J1 ∧ sx_E sc d c8 0 lv8 [] I J (some v, I1, J1)) (h9 : ∀ I1 J1, rq_same I J I1 J1 → ∃ I2 J2, rq_same I1 J1 I2 J2 ∧ sx_E sc d c9 0 lv9 [] I1 J1 (some v, I2, J2)) : rq_pair sc d c8 c9 lv8 lv9 I J := by
  obtain ⟨I1, J1, e1, k8⟩ := h8
  obtain ⟨I2, J2, e2, k9⟩ := h9 I1 J1 e1
  exact .rd h k8 e1 k9 e2 rfl
theorem pr_price (h : rq_Rel I J) {x y z : Int32} : rq_pair sc (d + 20) cd_X8_price cd_X9_price [some (.inr (.inr (8, 0))), some (.inl x), some (.inl y), some (.inl z)] [some (.inr (.inr (9, 0))), some (.inl x), some (.inl y), some (.inl z), none, none] I J := by
  obtain ⟨s, L, hC, hQ, hW, hV⟩ := h.2.2.2.2.1
  have hq := hQ.qi.t0 (v := 0)
  have w := hW.1
  have hD := rq_64 (rq_D_lt s) w
  have e8 : I 5 0 8 = nI (rq_D s) := hC.2.2.2.2.2.2.2.2.1
  rcases rq_per x w with ⟨p, hp, rfl⟩ | hx
  · have hs := hV.2.2.1 (by omega)
    have hs2 := hV.sum hW
    rcases m_inC (I := sx_uI I 9 0 0 0) (J := J) I J (x := y) (a := 0) (b := Int32.ofInt (999)) (y := 0) (z := Int64.ofInt (999)) (by decide) (by decide) with ⟨i1, i2, y1, y2⟩ | ⟨i1, i2⟩
    · obtain ⟨u, hu, rfl⟩ := nI_of2 (M := Int32.ofInt (999)) (n := 999) (by decide) (Int32.not_lt.mpr y1) y2
      have k8 : ∀ {res : Option sx_V × sx_I × sx_J}, sx_E sc (d + 20) cd_X8_price 19 [some (.inr (.inr (8, 0))), some (.inl (nI p)), some (.inl (nI u)), some (.inl z)] [.inl 0] I J res → sx_E sc (d + 20) cd_X8_price 0 [some (.inr (.inr (8, 0))), some (.inl (nI p)), some (.inl (nI u)), some (.inl z)] [] I J res := fun k => ee_X8_price_0 ⟨_, _, _, es_X5_has.v (c_has hC w hp), ee_X8_price_8 ⟨fun c => absurd c n10, fun _ => ⟨_, _, _, es_X8_isOutside.v i2, k⟩⟩⟩
      have k9 : ∀ {I : sx_I} {J : sx_J} {res : Option sx_V × sx_I × sx_J}, rq_Qi (sx_uI I 9 0 0 0) s → sx_E sc (d + 20) cd_X9_price 22 [some (.inr (.inr (9, 0))), some (.inl (nI p)), some (.inl (nI u)), some (.inl z), none, none] [.inl 1] (sx_uI I 9 0 0 0) J res → sx_E sc (d + 20) cd_X9_price 0 [some (.inr (.inr (9, 0))), some (.inl (nI p)), some (.inl (nI u)), some (.inl z), none, none] [] I J res := fun hq k => ee_X9_price_0 (ee_X9_price_5 ⟨_, _, _, es_X9_isPerson.v (m_isPerson hq w hp), ee_X9_price_10 ⟨fun c => absurd c n10, fun _ => ⟨_, _, _, es_X9_in.v i1, k⟩⟩⟩)
      have k41 : ∀ {I : sx_I} {J : sx_J} {res : Option sx_V × sx_I × sx_J}, rq_Qi (sx_uI I 9 0 0 0) s → sx_E sc (d + 20) cd_X9_price 57 [some (.inr (.inr (9, 0))), some (.inl (nI p)), some (.inl (nI u)), some (.inl z), some (.inl (nI (rq_D s))), none] [.inl (nI (rq_b (rq_D s) p))] (sx_uI I 9 0 0 0) J res → sx_E sc (d + 20) cd_X9_price 41 [some (.inr (.inr (9, 0))), some (.inl (nI p)), some (.inl (nI u)), some (.inl z), none, none] [] (sx_uI I 9 0 0 0) J res := fun hq k => ee_X9_price_41 ⟨_, _, _, (es_X9_aboard (hq.p6 w)).v (m_aboard hq w hW.ab), ee_X9_price_46 ⟨_, _, _, (es_X9_drawing (hq.p6 w)).v (m_drawing hq w hW.kt (rq_64 (rq_A_lt s) w)), ee_X9_price_49 ⟨_, _, _, es_X9_has.v (m_has hD (by omega)), k⟩⟩⟩
      have c41 : ∀ {res : Option sx_V × sx_I × sx_J}, sx_E sc (d + 20) cd_X8_price 49 [some (.inr (.inr (8, 0))), some (.inl (nI p)), some (.inl (nI u)), some (.inl z)] [.inl (nI (rq_b (rq_D s) p))] I J res → sx_E sc (d + 20) cd_X8_price 41 [some (.inr (.inr (8, 0))), some (.inl (nI p)), some (.inl (nI u)), some (.inl z)] [] I J res := fun k => ee_X8_price_41 ⟨_, _, _, es_X5_isDrawing.v (c_isDrawing hC w (rq_D_lt s) (by omega)), k⟩
      by_cases hz : z = Int32.ofInt (-1)
      · rcases rq_b01 (rq_D s) p with e | e
        · exact .rd h (k8 (ee_X8_price_19 ⟨fun _ => ⟨fun _ => c41 (ee_X8_price_49 ⟨fun _ => rfl, fun c => absurd (by rw [e]; rfl) c⟩), fun c => absurd hz c⟩, fun c => absurd rfl c⟩)) .rf (k9 hq (ee_X9_price_22 ⟨fun c => absurd c n10, fun _ => ⟨fun _ => k41 hq (ee_X9_price_57 ⟨fun _ => rfl, fun c => absurd (by rw [e]; rfl) c⟩), fun c => absurd hz c⟩⟩)) .t0 rfl
        · obtain ⟨J1, hj, hE⟩ := e_priceOf (sc := sc) (d := d + 14) hq hW hQ.lj hD hV.1 hs hs2 e hp hu
          have hz0 : z < 0 := by rw [hz]; decide
          exact .rd h (k8 (ee_X8_price_19 ⟨fun _ => ⟨fun _ => c41 (ee_X8_price_49 ⟨fun c => absurd c (by rw [e]; exact nn1), fun _ => ⟨fun _ => ⟨_, _, _, e_shareOf hC hW (rq_D_lt s) hV.1 hs hs2 (rq_pc_pos (by omega) e) hp hu, ee_X8_price_69 rfl⟩, fun c => absurd hz c⟩⟩), fun c => absurd hz c⟩, fun c => absurd rfl c⟩)) .rf (k9 hq (ee_X9_price_22 ⟨fun c => absurd c n10, fun _ => ⟨fun _ => k41 hq (ee_X9_price_57 ⟨fun c => absurd c (by rw [e]; exact nn1), fun _ => ⟨fun _ => ee_X9_price_85 ⟨_, _, _, hE, ee_X9_price_93 ⟨fun c => absurd c (Int32.not_le.mpr hz0), fun _ => rfl⟩⟩, fun c => absurd hz0 c⟩⟩), fun c => absurd hz c⟩⟩)) (rq_same.t0.tr hj) rfl
      · rcases rq_per z w with ⟨o, ho, rfl⟩ | hx
        · have hz0 : ¬ nI o < 0 := nI_pos (by omega)
          rcases rq_b01 (rq_D s) p with e | e
          · exact .rd h (k8 (ee_X8_price_19 ⟨fun _ => ⟨fun c => absurd c hz, fun _ => ⟨_, _, _, es_X5_has.v (c_has hC w ho), ee_X8_price_35 ⟨fun c => absurd c n10, fun _ => c41 (ee_X8_price_49 ⟨fun _ => rfl, fun c => absurd (by rw [e]; rfl) c⟩)⟩⟩⟩, fun c => absurd rfl c⟩)) .rf (k9 hq (ee_X9_price_22 ⟨fun c => absurd c n10, fun _ => ⟨fun c => absurd c hz, fun _ => ⟨_, _, _, es_X9_isPerson.v (m_isPerson hq w ho), ee_X9_price_35 ⟨fun c => absurd c n10, fun _ => k41 hq (ee_X9_price_57 ⟨fun _ => rfl, fun c => absurd (by rw [e]; rfl) c⟩)⟩⟩⟩⟩)) .t0 rfl
          · have c49 : ∀ {res : Option sx_V × sx_I × sx_J}, sx_E sc (d + 20) cd_X8_price 78 [some (.inr (.inr (8, 0))), some (.inl (nI p)), some (.inl (nI u)), some (.inl (nI o))] [.inl (nI (rq_b (rq_D s) o))] I J res → sx_E sc (d + 20) cd_X8_price 0 [some (.inr (.inr (8, 0))), some (.inl (nI p)), some (.inl (nI u)), some (.inl (nI o))] [] I J res := fun k => k8 (ee_X8_price_19 ⟨fun _ => ⟨fun c => absurd c hz, fun _ => ⟨_, _, _, es_X5_has.v (c_has hC w ho), ee_X8_price_35 ⟨fun c => absurd c n10, fun _ => c41 (ee_X8_price_49 ⟨fun c => absurd c (by rw [e]; exact nn1), fun _ => ⟨fun c => absurd c hz, fun _ => ⟨_, _, _, es_X5_isDrawing.v (c_isDrawing hC w (rq_D_lt s) (by omega)), k⟩⟩⟩)⟩⟩⟩, fun c => absurd rfl c⟩)
            have k57 : ∀ {I : sx_I} {J : sx_J} {res : Option sx_V × sx_I × sx_J}, rq_Qi (sx_uI I 9 0 0 0) s → sx_E sc (d + 20) cd_X9_price 70 [some (.inr (.inr (9, 0))), some (.inl (nI p)), some (.inl (nI u)), some (.inl (nI o)), some (.inl (nI (rq_D s))), none] [.inl (nI (rq_b (rq_D s) o))] (sx_uI I 9 0 0 0) J res → sx_E sc (d + 20) cd_X9_price 0 [some (.inr (.inr (9, 0))), some (.inl (nI p)), some (.inl (nI u)), some (.inl (nI o)), none, none] [] I J res := fun hq k => k9 hq (ee_X9_price_22 ⟨fun c => absurd c n10, fun _ => ⟨fun c => absurd c hz, fun _ => ⟨_, _, _, es_X9_isPerson.v (m_isPerson hq w ho), ee_X9_price_35 ⟨fun c => absurd c n10, fun _ => k41 hq (ee_X9_price_57 ⟨fun c => absurd c (by rw [e]; exact nn1), fun _ => ⟨fun c => absurd c hz0, fun _ => ⟨_, _, _, es_X9_has.v (m_has hD (by omega)), k⟩⟩⟩)⟩⟩⟩⟩)
            rcases rq_b01 (rq_D s) o with eo | eo
            · have hab := rq_A_b s ho
              have hab2 := hW.ab o ho
              by_cases ha : s (10 + 4 * o) = 1
              · rw [if_pos ha] at hab
                have hR2 : rq_R (i_X5_becomes I J 28 0) (j_X5_becomes I J 28 0) 28 s (s 4) (s 6) (rq_A s) (rq_D s) (rq_st s) L := c_becomes hC w
                have hR3 := c_takeLot hR2 w (rq_A_lt s) hD ho hab
                have hD2 := rq_on_ltn (s 0) w (rq_D s) (rq_D_lt s) o ho
                have ep : rq_b (rq_on (rq_D s) o) p = 1 := by
                  rw [rq_on_b _ hD o (by omega) p (by omega)]; split
                  · rfl
                  · exact e
                refine .two h ⟨_, _, (rq_same.becomes (r1 := 0) (Or.inr (by omega))).tr (.takeLot (Or.inr (by omega))), c49 (ee_X8_price_78 ⟨fun _ => ⟨_, _, _, es_X5_isAboard.v (c_isAboard hC w (rq_A_lt s) (by omega)), ee_X8_price_89 ⟨fun c => absurd c (by rw [hab]; exact nn1), fun _ => ⟨_, _, _, e_shareOf hC hW (rq_D_lt s) hV.1 hs hs2 (rq_pc_pos (by omega) e) hp hu, ee_X8_price_104 ⟨_, _, _, ee_X2_shareIfJoined_0 ⟨_, _, es_X5_becomes (by omega) hC.st, ee_X2_shareIfJoined_8 ⟨_, _, es_X5_takeLot, ee_X2_shareIfJoined_17 ⟨_, _, _, e_shareOf hR3 hW hD2 hV.1 hs hs2 (rq_pc_pos (by omega) ep) hp hu, ee_X2_shareIfJoined_26 rfl⟩⟩⟩, ee_X8_price_118 rfl⟩⟩⟩⟩, fun c => absurd (by rw [eo]; rfl) c⟩)⟩ (fun I1 J1 em => ?_)
                have hq := (hQ.qi.sm em).t0 (v := 0)
                obtain ⟨J3, hj, hE⟩ := e_priceOf (sc := sc) (d := d + 14) hq hW (hQ.lj.sm em) hD hV.1 hs hs2 e hp hu
                obtain ⟨J4, hj2, hE2⟩ := e_priceOf (sc := sc) (d := d + 14) hq hW ((hQ.lj.sm em).sm hj) (rq_64 hD2 w) hV.1 hs hs2 ep hp hu
                exact ⟨_, _, (rq_same.t0.tr hj).tr hj2, k57 hq (ee_X9_price_70 ⟨fun _ => ⟨_, _, _, (es_X9_of (m_ofin (w := 2) (by omega) (by omega))).v (m_of2 hq (by omega)), ee_X9_price_79 ⟨fun c => absurd c (by rw [ha]; exact nn1), fun _ => ee_X9_price_85 ⟨_, _, _, hE, ee_X9_price_93 ⟨fun _ => ⟨_, _, _, by rw [rq_or _ hD o (by omega)]; exact hE2, ee_X9_price_118 rfl⟩, fun c => absurd (Int32.not_lt.mp hz0) c⟩⟩⟩⟩, fun c => absurd (by rw [eo]; rfl) c⟩)⟩
              · rw [if_neg ha] at hab
                exact .rd h (c49 (ee_X8_price_78 ⟨fun _ => ⟨_, _, _, es_X5_isAboard.v (c_isAboard hC w (rq_A_lt s) (by omega)), ee_X8_price_89 ⟨fun _ => rfl, fun c => absurd (by rw [hab]; rfl) c⟩⟩, fun c => absurd (by rw [eo]; rfl) c⟩)) .rf (k57 hq (ee_X9_price_70 ⟨fun _ => ⟨_, _, _, (es_X9_of (m_ofin (w := 2) (by omega) (by omega))).v (m_of2 hq (by omega)), ee_X9_price_79 ⟨fun _ => rfl, fun c => absurd (by rw [show s (10 + 4 * o) = 0 by omega]; rfl) c⟩⟩, fun c => absurd (by rw [eo]; rfl) c⟩)) .t0 rfl
            · exact .rd h (c49 (ee_X8_price_78 ⟨fun c => absurd c (by rw [eo]; exact nn1), fun _ => rfl⟩)) .rf (k57 hq (ee_X9_price_70 ⟨fun c => absurd c (by rw [eo]; exact nn1), fun _ => rfl⟩)) .t0 rfl
        · exact .rd h (k8 (ee_X8_price_19 ⟨fun _ => ⟨fun c => absurd c hz, fun _ => ⟨_, _, _, es_X5_has.v (c_hasnt hC hx), ee_X8_price_35 ⟨fun _ => rfl, fun c => absurd rfl c⟩⟩⟩, fun c => absurd rfl c⟩)) .rf (k9 hq (ee_X9_price_22 ⟨fun c => absurd c n10, fun _ => ⟨fun c => absurd c hz, fun _ => ⟨_, _, _, es_X9_isPerson.v (m_isntPerson hq w hx), ee_X9_price_35 ⟨fun _ => rfl, fun c => absurd rfl c⟩⟩⟩⟩)) .t0 rfl
    · exact .rd h (ee_X8_price_0 ⟨_, _, _, es_X5_has.v (c_has hC w hp), ee_X8_price_8 ⟨fun c => absurd c n10, fun _ => ⟨_, _, _, es_X8_isOutside.v i2, ee_X8_price_19 ⟨fun c => absurd c n10, fun _ => rfl⟩⟩⟩⟩) .rf (ee_X9_price_0 (ee_X9_price_5 ⟨_, _, _, es_X9_isPerson.v (m_isPerson hq w hp), ee_X9_price_10 ⟨fun c => absurd c n10, fun _ => ⟨_, _, _, es_X9_in.v i1, ee_X9_price_22 ⟨fun _ => rfl, fun c => absurd rfl c⟩⟩⟩⟩)) .t0 rfl
  · exact .rd h (ee_X8_price_0 ⟨_, _, _, es_X5_has.v (c_hasnt hC hx), ee_X8_price_8 ⟨fun _ => rfl, fun c => absurd rfl c⟩⟩) .rf (ee_X9_price_0 (ee_X9_price_5 ⟨_, _, _, es_X9_isPerson.v (m_isntPerson hq w hx), ee_X9_price_10 ⟨fun _ => rfl, fun c => absurd rfl c⟩⟩)) .t0 rfl
theorem rq_lprows {W W2 : Nat → Int32} : ∀ (m k : Nat) (c : Int32), (∀ r, k ≤ r → r < k + m → (W r = 0 ↔ W2 r = 0)) → lp_rows W m k c = lp_rows W2 m k c
  | 0, _, _, _ => rfl
  | m + 1, k, c, hw => by
    rw [lp_rows, lp_rows]
    have e := hw k (by omega) (by omega)
    simp only [e]
    exact rq_lprows m (k + 1) _ (fun r h1 h2 => hw r (by omega) (by omega))
theorem lo_X9_count {x : Int32} : ∀ (m k : Nat) (c : Int32), k + m = 8 → sx_E sc (d + 1) cd_X9_count 50 [some (.inr (.inr (9, 0))), some (.inl x), some (.inl c), some (.inl (nI k))] [] I J (some (.inl (lp_rows (fun r => if I 16 0 r < 0 then 1 else 0) m k c)), I, J) := by
  intro m
  induction m with
  | zero =>
    intro k c hk
    exact ee_X9_count_50 ⟨fun _ => rfl, fun c => absurd (nI_le (a := 8) (by omega) (by omega)) c⟩
  | succ m ih =>
    intro k c hk
    refine ee_X9_count_50 ⟨fun c => absurd c (nI_ge (b := 8) (by omega) (by omega)), fun _ => ⟨sx_in_nI (by omega) (by omega), fun c1 => ?_, fun c1 => ?_⟩⟩
    · rw [nI_clamp (by omega)] at c1
      refine ee_X9_count_71 ?_
      rw [nI_1, lp_rows, if_pos c1, if_neg n10, Int32.add_zero]
      exact ih (k + 1) c (by omega)
    · rw [nI_clamp (by omega)] at c1
      refine ee_X9_count_71 ?_
      rw [nI_1, lp_rows, if_neg c1, if_pos rfl]
      exact ih (k + 1) (c + 1) (by omega)
theorem pr_count (h : rq_Rel I J) {x : Int32} : rq_pair sc (d + 20) cd_X8_count cd_X9_count [some (.inr (.inr (8, 0))), some (.inl x)] [some (.inr (.inr (9, 0))), some (.inl x), none, none] I J := by
  obtain ⟨s, L, hC, hQ, hW, hV⟩ := h.2.2.2.2.1
  have hq := hQ.qi.t0 (v := 0)
  have w := hW.1
  have hA := rq_64 (rq_A_lt s) w
  have hD := rq_64 (rq_D_lt s) w
  obtain ⟨n, hn, t1, t2, _⟩ := h.2.1.1
  obtain ⟨a, q, ha, _, _, g2, g3, _⟩ := h.2.2.2.2.2.2
  refine .rd (I2 := sx_uI I 9 0 0 0) (J2 := J) (v2 := .inl (v_X8_count I J x)) h es_X8_count .rf (ee_X9_count_0 (ee_X9_count_5 (ee_X9_count_8 (fun e => ?_) (fun e => ?_) (fun e => ?_) (fun e => ?_) (fun e => ?_) (fun e => ?_) (fun e0 e1 e2 e3 e4 e5 => ?_)))) .t0 rfl
  · refine ee_X9_count_48 ?_
    rw [v_X8_count, if_pos e, v_X8_rowsThere, rq_lprows (W := fun k => v_X4_isMissing I J k) (W2 := fun r => if (sx_uI I 9 0 0 0) 16 0 r < 0 then 1 else 0) 8 0 0 (fun r _ hr => ?_)]
    · exact lo_X9_count 8 0 0 rfl
    · obtain ⟨r1, r2, _⟩ := h.1 r (by omega)
      show v_X4_isMissing I J r = 0 ↔ (if I 16 0 r < 0 then (1 : Int32) else 0) = 0
      rw [v_X4_isMissing, r1]
      rcases r2 with r2 | ⟨r2 | r2 | r2, _⟩ <;> rw [r2] <;> decide
  · rw [v_X8_count, if_neg (by rw [e]; decide), if_pos e, hC.1]
    exact ee_X9_count_81 (by rw [hq 0 (by omega)])
  · rw [v_X8_count, if_neg (by rw [e]; decide), if_neg (by rw [e]; decide), if_pos e, hC.2.2.2.2.2.2.2.1, rq_bc hA]
    exact ee_X9_count_88 ⟨_, _, _, (es_X9_aboard (hq.p6 w)).v (m_aboard hq w hW.ab), ee_X9_count_92 ⟨_, _, _, es_X9_bits.v (rq_bits hA), ee_X9_count_95 rfl⟩⟩
  · rw [v_X8_count, if_neg (by rw [e]; decide), if_neg (by rw [e]; decide), if_neg (by rw [e]; decide), if_pos e, c_drawers hC hD]
    exact ee_X9_count_96 ⟨_, _, _, (es_X9_aboard (hq.p6 w)).v (m_aboard hq w hW.ab), ee_X9_count_101 ⟨_, _, _, (es_X9_drawing (hq.p6 w)).v (m_drawing hq w hW.kt hA), ee_X9_count_104 ⟨_, _, _, es_X9_bits.v (rq_bits hD), ee_X9_count_107 rfl⟩⟩⟩
  · rw [v_X8_count, if_neg (by rw [e]; decide), if_neg (by rw [e]; decide), if_neg (by rw [e]; decide), if_neg (by rw [e]; decide), if_pos e, g2]
    exact ee_X9_count_108 (by rw [show (sx_uI I 9 0 0 0) 9 0 10 = nI a from g3])
  · rw [v_X8_count, if_neg (by rw [e]; decide), if_neg (by rw [e]; decide), if_neg (by rw [e]; decide), if_neg (by rw [e]; decide), if_neg (by rw [e]; decide), if_pos e, t1]
    exact ee_X9_count_113 (by rw [show (sx_uI I 9 0 0 0) 9 0 12 = nI n from t2])
  · rw [v_X8_count, if_neg e0, if_neg e1, if_neg e2, if_neg e3, if_neg e4, if_neg e5]
    exact ee_X9_count_118 rfl
/-- the relation, where only some cells have changed -/
def rq_sm (P : Nat → Nat → Nat → Prop) (I : sx_I) (J : sx_J) (I1 : sx_I) (J1 : sx_J) : Prop := rq_fI (fun a b k => ¬ rq_scr a b k ∧ ¬ P a b k) I I1 ∧ rq_fJ (fun a b k => ¬ rq_scr a b k ∧ ¬ P a b k) J J1
theorem rq_sm.rf {P : Nat → Nat → Nat → Prop} : rq_sm P I J I J := ⟨fun _ _ _ _ => rfl, fun _ _ _ _ => rfl⟩
theorem rq_sm.tr {P : Nat → Nat → Nat → Prop} (h1 : rq_sm P I J I1 J1) (h2 : rq_sm P I1 J1 I2 J2) : rq_sm P I J I2 J2 := ⟨h1.1.tr h2.1, h1.2.tr h2.2⟩
theorem rq_same.sm {P : Nat → Nat → Nat → Prop} (h : rq_same I J I1 J1) : rq_sm P I J I1 J1 := ⟨h.1.mono fun _ _ _ c => c.1, h.2.mono fun _ _ _ c => c.1⟩
theorem rq_sm.uI {P : Nat → Nat → Nat → Prop} {a b k : Nat} {v : Int32} (h : P a b k) : rq_sm P I J (sx_uI I a b k v) J := ⟨fun x y z c => if_neg (fun q => c.2 (by rw [q.1, q.2.1, q.2.2]; exact h)), fun _ _ _ _ => rfl⟩
theorem rq_sm.uJ {P : Nat → Nat → Nat → Prop} {a b k : Nat} {v : Int64} (h : P a b k) : rq_sm P I J I (sx_uJ J a b k v) := ⟨fun _ _ _ _ => rfl, fun x y z c => if_neg (fun q => c.2 (by rw [q.1, q.2.1, q.2.2]; exact h))⟩
theorem rq_Rel.but {P : Nat → Nat → Nat → Prop} (h : rq_Rel I J) (e : rq_sm P I J I1 J1) (hR : (∀ a b k, rq_cR a b k → ¬ P a b k) ∨ rq_rows I1) (hT : (∀ a b k, rq_cT a b k → ¬ P a b k) ∨ rq_tape I1) (hA : (∀ a b k, rq_cA a b k → ¬ P a b k) ∨ rq_asks I1) (hF : (∀ a b k, rq_cF a b k → ¬ P a b k) ∨ rq_fin I1) (hN : (∀ a b k, rq_cN a b k → ¬ P a b k) ∨ rq_now I1 J1) (hI : (∀ a b k, rq_cI a b k → ¬ P a b k) ∨ (∀ k, k < 2 → rq_img I1 J1 k)) (hG : (∀ a b k, rq_cG a b k → ¬ P a b k) ∨ rq_ring I1 J1) : rq_Rel I1 J1 := by
  obtain ⟨h1, h2, h3, h4, h5, h6, h7⟩ := h
  refine ⟨hR.elim (fun c => h1.fr (e.1.mono fun a b k q => ⟨rq_nR q, c a b k q⟩)) id, hT.elim (fun c => h2.fr (e.1.mono fun a b k q => ⟨rq_nT q, c a b k q⟩)) id, hA.elim (fun c => h3.fr (e.1.mono fun a b k q => ⟨rq_nA q, c a b k q⟩)) id, hF.elim (fun c => h4.fr (e.1.mono fun a b k q => ⟨rq_nF q, c a b k q⟩)) id, hN.elim (fun c => h5.fr (e.1.mono fun a b k q => ⟨rq_nN q, c a b k q⟩) (e.2.mono fun a b k q => ⟨rq_nN q, c a b k q⟩)) id, hI.elim (fun c k hk => (h6 k hk).fr hk (e.1.mono fun a b k q => ⟨rq_nI' q, c a b k q⟩) (e.2.mono fun a b k q => ⟨rq_nI' q, c a b k q⟩)) id, hG.elim (fun c => h7.fr (e.1.mono fun a b k q => ⟨rq_nG q, c a b k q⟩) (e.2.mono fun a b k q => ⟨rq_nG q, c a b k q⟩)) id⟩
theorem rq_Rel.fin (h : rq_Rel I J) (e : rq_sm rq_cF I J I1 J1) (hF : rq_fin I1) : rq_Rel I1 J1 := by
  refine h.but e (Or.inl fun a b k => ?_) (Or.inl fun a b k => ?_) (Or.inl fun a b k => ?_) (Or.inr hF) (Or.inl fun a b k => ?_) (Or.inl fun a b k => ?_) (Or.inl fun a b k => ?_)
  · unfold rq_cR rq_cF; omega
  · unfold rq_cT rq_cF; omega
  · unfold rq_cA rq_cF; omega
  · unfold rq_cN rq_cF rq_cs; omega
  · unfold rq_cI rq_cF rq_cs; omega
  · unfold rq_cG rq_cF rq_cs; omega
theorem rq_kin0 : ∀ a, a < 6 → 0 < a → ∀ b, b < 6 → v_X8_isKindOf (fun _ _ _ => 0) (fun _ _ _ => 0) (nI a) (nI b) = v_X9_isOf (fun _ _ _ => 0) (fun _ _ _ => 0) (nI a) (nI b) := by decide +kernel
theorem pr_as (h : rq_Rel I J) {x y : Int32} : rq_pair sc (d + 20) cd_X8_as cd_X9_as [some (.inr (.inr (8, 0))), some (.inl x), some (.inl y)] [some (.inr (.inr (9, 0))), some (.inl x), some (.inl y)] I J := by
  obtain ⟨s, L, hC, hQ, hW, hV⟩ := h.2.2.2.2.1
  have hq := hQ.qi.t0 (v := 0)
  have w := hW.1
  rcases rq_per x w with ⟨p, hp, rfl⟩ | hx
  · rcases m_inC (I := sx_uI I 9 0 0 0) (J := J) I J (x := y) (a := 0) (b := 5) (y := 0) (z := 5) (by decide) (by decide) with ⟨i1, i2, y1, y2⟩ | ⟨i1, i2⟩
    · obtain ⟨u, hu, rfl⟩ := nI_of2 (M := 5) (n := 5) (by decide) (Int32.not_lt.mpr y1) y2
      have hk := hW.2.2.2.2.2.2.2.2.2 p hp
      have ek : v_X8_isKindOf I J (nI (s (8 + 4 * p))) (nI u) = v_X9_isOf I J (nI (s (8 + 4 * p))) (nI u) := rq_kin0 _ (by omega) (by omega) u (by omega)
      have e20 := (hC.2.2.2.2.2.2.2.2.2.2 p hp).1
      rcases vb_X9_isOf I J (nI (s (8 + 4 * p))) (nI u) with e | e
      · rw [e] at ek
        have hq0 : rq_Qi (sx_uI (sx_uI I 8 0 10 3) 9 0 0 0) s := fun k hk => by rw [← hQ.qi k hk]; rfl
        have hq1 : rq_Qi (sx_uI (sx_uI (sx_uI I 8 0 10 3) 9 0 0 0) 9 0 1 0) s := fun k hk => by rw [← hQ.qi k hk]; rfl
        refine ⟨.inl (Int32.ofInt (-1000010) - 3), sx_uI I 8 0 10 3, J, sx_uI (sx_uI (sx_uI (sx_uI I 8 0 10 3) 9 0 0 0) 9 0 1 0) 9 0 1 3, J, ee_X8_as_0 ⟨_, _, _, es_X5_has.v (c_has hC w hp), ee_X8_as_8 ⟨fun c => absurd c n10, fun _ => ⟨_, _, _, es_X8_isOutside.v i2, ee_X8_as_17 ⟨fun _ => ⟨rq_in6 hp w, _, _, _, es_X8_isKindOf.v (by rw [nI_clamp (by omega), e20]; exact ek), ee_X8_as_36 ⟨fun _ => ⟨_, _, _, es_X8_found, ee_X8_as_52 rfl⟩, fun c => absurd rfl c⟩⟩, fun c => absurd rfl c⟩⟩⟩⟩, ee_X9_as_0 (ee_X9_as_5 ⟨_, _, _, es_X9_isPerson.v (m_isPerson hq0 w hp), ee_X9_as_10 ⟨fun c => absurd c n10, fun _ => ⟨_, _, _, es_X9_in.v i1, ee_X9_as_22 ⟨fun c => absurd c n10, fun _ => ee_X9_as_33 ⟨_, _, _, (es_X9_of (m_ofin (w := 0) (by omega) (by omega))).v (m_of0 hq1 (by omega)), ee_X9_as_39 ⟨_, _, _, es_X9_isOf.v e, ee_X9_as_43 ⟨fun _ => ⟨_, _, _, es_X9_finding, ee_X9_as_55 rfl⟩, fun c => absurd rfl c⟩⟩⟩⟩⟩⟩⟩), ?_⟩
        refine h.fin (((rq_sm.uI (Or.inl rfl)).tr rq_same.t0.sm).tr ((rq_sm.uI (Or.inr ⟨rfl, rfl⟩)).tr (.uI (Or.inr ⟨rfl, rfl⟩)))) rfl
      · rw [e] at ek
        have hq0 : rq_Qi (sx_uI (sx_uI I 8 0 10 0) 9 0 0 0) s := fun k hk => by rw [← hQ.qi k hk]; rfl
        have hq1 : rq_Qi (sx_uI (sx_uI (sx_uI I 8 0 10 0) 9 0 0 0) 9 0 1 0) s := fun k hk => by rw [← hQ.qi k hk]; rfl
        refine ⟨.inl (nI p), sx_uI I 8 0 10 0, J, sx_uI (sx_uI (sx_uI I 8 0 10 0) 9 0 0 0) 9 0 1 0, J, ee_X8_as_0 ⟨_, _, _, es_X5_has.v (c_has hC w hp), ee_X8_as_8 ⟨fun c => absurd c n10, fun _ => ⟨_, _, _, es_X8_isOutside.v i2, ee_X8_as_17 ⟨fun _ => ⟨rq_in6 hp w, _, _, _, es_X8_isKindOf.v (by rw [nI_clamp (by omega), e20]; exact ek), ee_X8_as_36 ⟨fun c => absurd c n10, fun _ => ⟨_, _, _, es_X8_foundNothing, ee_X8_as_44 (ee_X8_as_52 rfl)⟩⟩⟩, fun c => absurd rfl c⟩⟩⟩⟩, ee_X9_as_0 (ee_X9_as_5 ⟨_, _, _, es_X9_isPerson.v (m_isPerson hq0 w hp), ee_X9_as_10 ⟨fun c => absurd c n10, fun _ => ⟨_, _, _, es_X9_in.v i1, ee_X9_as_22 ⟨fun c => absurd c n10, fun _ => ee_X9_as_33 ⟨_, _, _, (es_X9_of (m_ofin (w := 0) (by omega) (by omega))).v (m_of0 hq1 (by omega)), ee_X9_as_39 ⟨_, _, _, es_X9_isOf.v e, ee_X9_as_43 ⟨fun c => absurd c n10, fun _ => ee_X9_as_55 rfl⟩⟩⟩⟩⟩⟩⟩), ?_⟩
        refine h.fin (((rq_sm.uI (Or.inl rfl)).tr rq_same.t0.sm).tr (.uI (Or.inr ⟨rfl, rfl⟩))) rfl
    · exact .rd h (ee_X8_as_0 ⟨_, _, _, es_X5_has.v (c_has hC w hp), ee_X8_as_8 ⟨fun c => absurd c n10, fun _ => ⟨_, _, _, es_X8_isOutside.v i2, ee_X8_as_17 ⟨fun c => absurd c n10, fun _ => rfl⟩⟩⟩⟩) .rf (ee_X9_as_0 (ee_X9_as_5 ⟨_, _, _, es_X9_isPerson.v (m_isPerson hq w hp), ee_X9_as_10 ⟨fun c => absurd c n10, fun _ => ⟨_, _, _, es_X9_in.v i1, ee_X9_as_22 ⟨fun _ => rfl, fun c => absurd rfl c⟩⟩⟩⟩)) .t0 rfl
  · exact .rd h (ee_X8_as_0 ⟨_, _, _, es_X5_has.v (c_hasnt hC hx), ee_X8_as_8 ⟨fun _ => rfl, fun c => absurd rfl c⟩⟩) .rf (ee_X9_as_0 (ee_X9_as_5 ⟨_, _, _, es_X9_isPerson.v (m_isntPerson hq w hx), ee_X9_as_10 ⟨fun _ => rfl, fun c => absurd rfl c⟩⟩)) .t0 rfl
end RQK3
