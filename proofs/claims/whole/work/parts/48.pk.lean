/-! pair: been, the call -/
section RQBM
variable {sc : Nat × (Nat → Int32)} {d : Nat} {I I1 I2 : sx_I} {J J1 J2 : sx_J}
theorem rq_fnb (h : rq_Rel I J) (f : Int32) : rq_Rel (sx_uI (sx_uI (sx_uI I 8 0 10 f) 9 0 0 0) 9 0 1 f) J := h.fin (((rq_sm.uI (Or.inl rfl)).tr rq_same.t0.sm).tr (.uI (Or.inr ⟨rfl, rfl⟩))) rfl
theorem pr_been (h : rq_Rel I J) {x1 x2 x3 x4 : Int32} : rq_pair sc (d + 20) cd_X8_been cd_X9_been [some (.inr (.inr (8, 0))), some (.inl x1), some (.inl x2), some (.inl x3), some (.inl x4), none] [some (.inr (.inr (9, 0))), some (.inl x1), some (.inl x2), some (.inl x3), some (.inl x4), none, none, none, none, none, none, none] I J := by
  obtain ⟨s, L, hC, hQ, hW, hV⟩ := h.2.2.2.2.1
  have w := hW.1
  have hq0 := hQ.qi.t0 (v := 0)
  have hsh := c_isShip hC w
  by_cases h0 : s 0 = 0
  · rw [if_pos h0] at hsh
    exact .rd h (v := .inl (Int32.ofInt (-1000002))) (ee_X8_been_0 ⟨_, _, _, es_X5_isShip.v hsh, ee_X8_been_7 ⟨fun _ => rfl, fun c => absurd rfl c⟩⟩) .rf (ee_X9_been_0 (ee_X9_been_5 ⟨_, _, _, es_X9_isThere.v ((m_isThere hq0 w).trans (if_pos h0)), ee_X9_been_9 ⟨fun _ => rfl, fun c => absurd rfl c⟩⟩)) .t0 rfl
  · rw [if_neg h0] at hsh
    have k8 : ∀ {res : Option sx_V × sx_I × sx_J} {z : Int32}, v_X8_isNoRow I J x1 = z → sx_E sc (d + 20) cd_X8_been 17 [some (.inr (.inr (8, 0))), some (.inl x1), some (.inl x2), some (.inl x3), some (.inl x4), none] [.inl z] I J res → sx_E sc (d + 20) cd_X8_been 0 [some (.inr (.inr (8, 0))), some (.inl x1), some (.inl x2), some (.inl x3), some (.inl x4), none] [] I J res := fun e k => ee_X8_been_0 ⟨_, _, _, es_X5_isShip.v hsh, ee_X8_been_7 ⟨fun c => absurd c n10, fun _ => ⟨_, _, _, es_X8_isNoRow.v e, k⟩⟩⟩
    have k9 : ∀ {I : sx_I} {J : sx_J} {res : Option sx_V × sx_I × sx_J} {z : Int32}, rq_Qi (sx_uI I 9 0 0 0) s → v_X9_isRow (sx_uI I 9 0 0 0) J x1 = z → sx_E sc (d + 20) cd_X9_been 19 [some (.inr (.inr (9, 0))), some (.inl x1), some (.inl x2), some (.inl x3), some (.inl x4), none, none, none, none, none, none, none] [.inl z] (sx_uI I 9 0 0 0) J res → sx_E sc (d + 20) cd_X9_been 0 [some (.inr (.inr (9, 0))), some (.inl x1), some (.inl x2), some (.inl x3), some (.inl x4), none, none, none, none, none, none, none] [] I J res := fun hq e k => ee_X9_been_0 (ee_X9_been_5 ⟨_, _, _, es_X9_isThere.v ((m_isThere hq w).trans (if_neg h0)), ee_X9_been_9 ⟨fun c => absurd c n10, fun _ => ⟨_, _, _, es_X9_isRow.v e, k⟩⟩⟩)
    rcases rq_rw I J (sx_uI I 9 0 0 0) J x1 with ⟨r, hr, rfl, k1, k2⟩ | ⟨k1, k2⟩
    · rcases m_inC (I := sx_uI I 9 0 0 0) (J := J) I J (x := x3) (a := 1) (b := 10) (y := 1) (z := 10) (by decide) (by decide) with ⟨i1, i2, y1, y2⟩ | ⟨i1, i2⟩
      · obtain ⟨n, hn, rfl⟩ := nI_of2 (M := 10) (n := 10) (by decide) (Int32.not_lt.mpr (Int32.le_trans (by decide) y1)) y2
        rcases m_inC (I := sx_uI I 9 0 0 0) (J := J) I J (x := x4) (a := 0) (b := 1) (y := 0) (z := 1) (by decide) (by decide) with ⟨j1, j2, _, _⟩ | ⟨j1, j2⟩
        · have cr : (nI r).toNatClampNeg = r := nI_clamp (by omega)
          have sr : sx_in (nI r) 8 = true := sx_in_nI hr (by omega)
          have e2n : (2 : Int32) * nI n = nI (2 * n) := by rw [show (2 : Int32) = nI 2 from rfl, pk_mul]
          have c56 : ∀ {res : Option sx_V × sx_I × sx_J} {z : Int32}, v_X4_isMissing I J r = z → sx_E sc (d + 20) cd_X8_been 56 [some (.inr (.inr (8, 0))), some (.inl (nI r)), some (.inl x2), some (.inl (nI n)), some (.inl x4), some (.inr (.inr (4, r)))] [.inl z] I J res → sx_E sc (d + 20) cd_X8_been 0 [some (.inr (.inr (8, 0))), some (.inl (nI r)), some (.inl x2), some (.inl (nI n)), some (.inl x4), none] [] I J res := fun e k => by
            refine k8 k1 (ee_X8_been_17 ⟨fun _ => ⟨_, _, _, es_X8_isOutside.v i2, ee_X8_been_27 ⟨fun _ => ⟨_, _, _, es_X8_isOutside.v j2, ee_X8_been_37 ⟨fun _ => ⟨sr, ?_⟩, fun c => absurd rfl c⟩⟩, fun c => absurd rfl c⟩⟩, fun c => absurd rfl c⟩)
            rw [cr]
            exact ee_X8_been_49 ⟨_, _, _, es_X4_isMissing.v e, k⟩
          have m42 : ∀ {I : sx_I} {J : sx_J} {res : Option sx_V × sx_I × sx_J}, rq_Qi (sx_uI I 9 0 0 0) s → sx_E sc (d + 20) cd_X9_been 42 [some (.inr (.inr (9, 0))), some (.inl (nI r)), some (.inl x2), some (.inl (nI n)), some (.inl x4), none, none, none, none, none, none, none] [.inl 1] (sx_uI I 9 0 0 0) J res → sx_E sc (d + 20) cd_X9_been 0 [some (.inr (.inr (9, 0))), some (.inl (nI r)), some (.inl x2), some (.inl (nI n)), some (.inl x4), none, none, none, none, none, none, none] [] I J res := fun hq k => k9 hq k2 (ee_X9_been_19 ⟨fun c => absurd c n10, fun _ => ⟨_, _, _, es_X9_in.v i1, ee_X9_been_31 ⟨fun c => absurd c n10, fun _ => ⟨_, _, _, es_X9_in.v j1, k⟩⟩⟩⟩)
          rcases rq_lane (J := J) h.1 hr with ⟨l1, l2, l3⟩ | ⟨l1, l2, l3, l4, l5, z, hz, l6, l7⟩
          · refine ⟨.inl (Int32.ofInt (-1000010) - 1), _, _, _, _, c56 l3 (ee_X8_been_56 ⟨fun c => absurd c n10, fun _ => ⟨_, _, _, es_X8_found, ee_X8_been_64 rfl⟩⟩), m42 (I := sx_uI I 8 0 10 1) hq0 (ee_X9_been_42 ⟨fun c => absurd c n10, fun _ => ⟨sr, fun c => absurd c ?_, fun _ => ⟨_, _, _, es_X9_finding, ee_X9_been_62 rfl⟩⟩⟩), rq_fnb h 1⟩
            rw [cr]; show ¬ 0 ≤ I 16 0 r
            rw [l2]; exact m1lt
          · have c74 : ∀ {res : Option sx_V × sx_I × sx_J} {z : Int32}, v_X4_spans I J r x2 ((2 : Int32) * nI n) = z → sx_E sc (d + 20) cd_X8_been 74 [some (.inr (.inr (8, 0))), some (.inl (nI r)), some (.inl x2), some (.inl (nI n)), some (.inl x4), some (.inr (.inr (4, r)))] [.inl z] I J res → sx_E sc (d + 20) cd_X8_been 0 [some (.inr (.inr (8, 0))), some (.inl (nI r)), some (.inl x2), some (.inl (nI n)), some (.inl x4), none] [] I J res := fun e k => c56 l1 (ee_X8_been_56 ⟨fun _ => ⟨_, _, _, es_X4_spans.v e, k⟩, fun c => absurd rfl c⟩)
            rcases c_spans (J := J) l6 hz x2 ((2 : Int32) * nI n) with ⟨i, m, him, rfl, hm, sp⟩ | ⟨sp, hsp⟩
            · have em : m = 2 * n := by
                rw [e2n] at hm
                exact ((nI_eq (by omega) (by omega)).mp hm).symm
              subst em
              have h6 := w
              have hpw := Nat.two_pow_pos (s 0)
              have hp64 : 2 ^ s 0 ≤ 64 := Nat.pow_le_pow_right (n := 2) (by decide) w
              generalize he : 2 ^ s 0 - 1 = e
              have he64 : e < 64 := by omega
              have hp := rq_p2m (s 0) (by omega)
              rw [he] at hp
              let Ia : sx_I := sx_uI I 7 0 2 (nI n)
              let Ib : sx_I := sx_uI Ia 7 0 3 (((1 : Int32) <<< (nI (s 0) &&& 31)) - (1 : Int32))
              let Ic : sx_I := sx_uI Ib 7 0 4 (Ib 7 0 3)
              have smc : rq_same I J Ic J := ((rq_same.uI (Or.inr (Or.inr (Or.inl rfl)))).tr (.uI (Or.inr (Or.inr (Or.inl rfl))))).tr (.uI (Or.inr (Or.inr (Or.inl rfl))))
              have m102 : ∀ {I1 : sx_I} {J1 : sx_J} {res : Option sx_V × sx_I × sx_J}, rq_Qi (sx_uI I1 9 0 0 0) s → I1 16 0 r = I 16 0 r → I1 16 1 r = I 16 1 r → sx_E sc (d + 20) cd_X9_been 102 [some (.inr (.inr (9, 0))), some (.inl (nI r)), some (.inl (nI i)), some (.inl (nI n)), some (.inl x4), some (.inl (nI (40 * r + i))), some (.inl (nI 0)), none, none, none, none, none] [] (sx_uI I1 9 0 0 0) J1 res → sx_E sc (d + 20) cd_X9_been 0 [some (.inr (.inr (9, 0))), some (.inl (nI r)), some (.inl (nI i)), some (.inl (nI n)), some (.inl x4), none, none, none, none, none, none, none] [] I1 J1 res := fun {I1 J1 res} hq g0 g1 k => by
                refine m42 hq (ee_X9_been_42 ⟨fun c => absurd c n10, fun _ => ⟨sr, fun _ => ⟨fun c => absurd c (nI_pos (by omega)), fun _ => ⟨sr, fun _ => ?_, fun c => absurd ?_ c⟩⟩, fun c => absurd ?_ c⟩⟩)
                · rw [show (40 : Int32) * nI r + nI i = nI (40 * r + i) from sx_ix]; exact k
                · rw [cr, e2n]
                  show (nI i).toInt64 + (nI (2 * n)).toInt64 ≤ (I1 16 1 r).toInt64
                  rw [g1, l7, nI_l (by omega), nI_l (by omega), nI_l (by omega), lN_add, pk_lLE (by omega) (by omega)]; omega
                · rw [cr]; show 0 ≤ I1 16 0 r
                  rw [g0]; exact l4
              have n16 : ∀ b k, b ≤ 2 → ¬ rq_scr 16 b k := fun b k hb => rq_nR (Or.inl ⟨rfl, hb⟩)
              have c101 : ∀ {res : Option sx_V × sx_I × sx_J} {z : Int32} {I1 : sx_I}, sx_E sc (d + 19) cd_X7_areTold 60 [some (.inr (.inr (7, 0))), some (.inr (.inr (4, r))), some (.inl (nI i)), some (.inl (nI n)), some (.inl (nI (s 0))), some (.inl (nI 0)), none, none] [] Ic J (some (.inl z), I1, J) → sx_E sc (d + 20) cd_X8_been 101 [some (.inr (.inr (8, 0))), some (.inl (nI r)), some (.inl (nI i)), some (.inl (nI n)), some (.inl x4), some (.inr (.inr (4, r)))] [.inl z] I1 J res → sx_E sc (d + 20) cd_X8_been 0 [some (.inr (.inr (8, 0))), some (.inl (nI r)), some (.inl (nI i)), some (.inl (nI n)), some (.inl x4), none] [] I J res := fun q k => by
                refine c74 sp (ee_X8_been_74 ⟨fun c => absurd c n10, fun _ => ⟨_, _, _, ?_, k⟩⟩)
                rw [hC.1]
                refine ee_X7_areTold_0 ⟨_, _, _, es_X8_isOutside.v (rq_oI0 (nI_pos' (by omega)) (nI_le (b := 10) (by omega) (by omega))), ee_X7_areTold_7 ⟨fun _ => ⟨_, _, _, es_X4_spans.v sp, ee_X7_areTold_18 ⟨fun c => absurd c n10, fun _ => ⟨_, _, _, es_X8_isOutside.v (rq_oI0 (nI_pos' (by omega)) (nI_le (b := 6) (by omega) (by omega))), ee_X7_areTold_29 ⟨fun _ => ee_X7_areTold_39 (ee_X7_areTold_49 (ee_X7_areTold_57 q)), fun c => absurd rfl c⟩⟩⟩⟩, fun c => absurd rfl c⟩⟩
              rcases lo_told (sc := sc) (d := d + 18) (J := J) (r := r) (x4 := nI (s 0)) (f := fun j => I 22 r (i + j)) (e := e) hn (show i + 2 * n ≤ 40 by omega) h6 he.symm n 0 none none Ic (by omega) (fun j _ => rfl) rfl hp hp (fun j hj => by omega) with ⟨hv, I3, p1, p2, p3, p4, p5, p6⟩ | ⟨hv, I3, p1, p6⟩
              · have hv2 : ∀ j, j < n → rq_vd (fun j => I 22 r (i + j)) e j := fun j hj => hv j (Nat.zero_le _) hj
                have htm : ∀ j, j < n → rq_tm e (fun j => I 22 r (i + j)) j < 64 := fun j hj => by
                  obtain ⟨a, ha, _, et⟩ := rq_vd.of he64 (hv2 j hj)
                  rcases et with ⟨_, et⟩ | ⟨_, et⟩ <;> omega
                have hwh := rq_by_le e (rq_tm e (fun j => I 22 r (i + j))) (2 ^ n - 1) n
                -- the reference
                have m9 : ∀ {I1 : sx_I}, rq_same I J I1 J → sx_E sc (d + 20) cd_X9_been 0 [some (.inr (.inr (9, 0))), some (.inl (nI r)), some (.inl (nI i)), some (.inl (nI n)), some (.inl x4), none, none, none, none, none, none, none] [] (sx_uI I1 8 0 10 0) J (some (.inl (if x4 = 0 then nI (rq_by e (rq_tm e (fun j => I 22 r (i + j))) (2 ^ n - 1) n) else nI (rq_fe e (rq_tm e (fun j => I 22 r (i + j))) n (rq_by e (rq_tm e (fun j => I 22 r (i + j))) (2 ^ n - 1) n) (2 ^ n) 0 n))), sx_uI (sx_uI (sx_uI I1 8 0 10 0) 9 0 0 0) 9 0 1 0, J) := fun {I1} em => by
                  have hq : rq_Qi I1 s := hQ.qi.sm em
                  have hq1 : rq_Qi (sx_uI (sx_uI I1 8 0 10 0) 9 0 0 0) s := fun k hk => hq k hk
                  have hf : ∀ j, j < 2 * n → I1 16 2 (40 * r + i + j) = I 22 r (i + j) := fun j hj => by
                    rw [em.1 16 2 _ (n16 2 _ (by omega)), Nat.add_assoc]
                    exact (h.1 r hr).2.2 (i + j) (by omega)
                  refine m102 hq1 (em.1 16 0 r (n16 0 r (by omega))) (em.1 16 1 r (n16 1 r (by omega))) ((lo_bn102 (n := n) (o := 40 * r + i) hn (by omega) h6 he.symm (hq1 0 (by omega)) hf n 0 (by omega)).2 hv _ (ee_X9_been_102 ⟨fun _ => ?_, fun c => absurd (nI_le (by omega) (by omega)) c⟩))
                  have hpn : 2 ^ n ≤ 1024 := Nat.pow_le_pow_right (n := 2) (by decide) hn
                  have hpn0 := Nat.two_pow_pos n
                  have hqk : rq_Qi (sx_uI (sx_uI (sx_uI I1 8 0 10 0) 9 0 0 0) 9 0 1 0) s := fun k hk => hq k hk
                  refine ee_X9_been_176 ⟨nI (rq_by e (rq_tm e (fun j => I 22 r (i + j))) (2 ^ n - 1) n), sx_uI (sx_uI (sx_uI I1 8 0 10 0) 9 0 0 0) 9 0 1 0, J, ?_, ?_⟩
                  · rw [rq_p2m n hn]
                    exact e_by (M := 2 ^ n - 1) (by omega) hn (show 40 * r + i + 2 * n ≤ 320 by omega) h6 he.symm (hqk 0 (by omega)) hf hv2
                  · rw [rq_p2m n hn]
                    exact ee_X9_been_192 (lo_bn200 (by omega) hn (show 40 * r + i + 2 * n ≤ 320 by omega) h6 he.symm (hqk 0 (by omega)) hf hv2 (2 ^ n) 0 n none none (by omega) (Nat.le_refl _))
                have fin : ∀ {I1 : sx_I}, rq_same I J I1 J → rq_Rel (sx_uI (sx_uI (sx_uI I1 8 0 10 0) 9 0 0 0) 9 0 1 0) J := fun em => rq_fnb (h.same em) 0
                by_cases hx4 : x4 = 0
                · have z := m9 (smc.tr p1)
                  rw [if_pos hx4] at z
                  refine ⟨.inl (nI (rq_by e (rq_tm e (fun j => I 22 r (i + j))) (2 ^ n - 1) n)), _, _, _, _, c101 p6 (ee_X8_been_101 ⟨fun c => absurd c n10, fun _ => ⟨fun _ => ?_, fun c => absurd hx4 c⟩⟩), z, fin (smc.tr p1)⟩
                  rw [p4]
                  exact ee_X8_been_130 ⟨_, _, _, es_X8_foundNothing, ee_X8_been_133 rfl⟩
                · obtain ⟨I4, F4, q1, q2, q3⟩ := e_few (sc := sc) (d := d + 18) (J := J) he64 hn htm (show rq_by e (rq_tm e (fun j => I 22 r (i + j))) (2 ^ n - 1) n < 64 by omega) p5 p2 p3 p4
                  have z := m9 ((smc.tr p1).tr q1)
                  rw [if_neg hx4, rq_fe_eq hn he64 q2] at z
                  exact ⟨.inl (nI (F4 (rq_by e (rq_tm e (fun j => I 22 r (i + j))) (2 ^ n - 1) n))), _, _, _, _, c101 p6 (ee_X8_been_101 ⟨fun c => absurd c n10, fun _ => ⟨fun c => absurd c hx4, fun _ => ⟨_, _, _, q3, ee_X8_been_130 ⟨_, _, _, es_X8_foundNothing, ee_X8_been_133 rfl⟩⟩⟩⟩), z, fin ((smc.tr p1).tr q1)⟩
              · refine .two h (v := .inl (Int32.ofInt (-1000001))) ⟨I3, J, smc.tr p1, c101 p6 (ee_X8_been_101 ⟨fun _ => rfl, fun c => absurd rfl c⟩)⟩ (fun I1 J1 em => ?_)
                have hq1 := (hQ.qi.sm em).t0 (v := 0)
                have hf : ∀ j, j < 2 * n → (sx_uI I1 9 0 0 0) 16 2 (40 * r + i + j) = I 22 r (i + j) := fun j hj => by
                  show I1 16 2 (40 * r + i + j) = I 22 r (i + j)
                  rw [em.1 16 2 _ (n16 2 _ (by omega)), Nat.add_assoc]
                  exact (h.1 r hr).2.2 (i + j) (by omega)
                exact ⟨_, _, .t0, m102 hq1 (em.1 16 0 r (n16 0 r (by omega))) (em.1 16 1 r (n16 1 r (by omega))) ((lo_bn102 (n := n) (o := 40 * r + i) hn (by omega) h6 he.symm (hq1 0 (by omega)) hf n 0 (by omega)).1 hv)⟩
            · have f2 : sx_E sc (d + 20) cd_X9_been 85 [some (.inr (.inr (9, 0))), some (.inl (nI r)), some (.inl x2), some (.inl (nI n)), some (.inl x4), none, none, none, none, none, none, none] [] (sx_uI (sx_uI I 8 0 10 2) 9 0 0 0) J (some (.inl (Int32.ofInt (-1000010) - 2)), sx_uI (sx_uI (sx_uI I 8 0 10 2) 9 0 0 0) 9 0 1 2, J) := ee_X9_been_85 ⟨_, _, _, es_X9_finding, ee_X9_been_90 rfl⟩
              refine ⟨.inl (Int32.ofInt (-1000010) - 2), _, _, _, _, c74 sp (ee_X8_been_74 ⟨fun _ => ⟨_, _, _, es_X8_found, ee_X8_been_82 rfl⟩, fun c => absurd rfl c⟩), m42 (I := sx_uI I 8 0 10 2) hq0 (ee_X9_been_42 ⟨fun c => absurd c n10, fun _ => ⟨sr, fun _ => ⟨fun _ => f2, fun c1 => ⟨sr, fun c2 => ?_, fun _ => f2⟩⟩, fun c => absurd ?_ c⟩⟩), rq_fnb h 2⟩
              · exfalso
                rw [e2n] at hsp
                rw [cr, e2n] at c2
                rcases hsp with q | q | ⟨a, b, ha, hb, rfl, q1, q2⟩
                · exact c1 q
                · exact nI_pos (by omega) q
                · have eb : 2 * n = b := (nI_eq (by omega) hb).mp q1
                  rw [show (sx_uI (sx_uI I 8 0 10 2) 9 0 0 0) 16 1 r = nI z from l7, nI_l ha, nI_l (by omega), nI_l (by omega), lN_add, pk_lLE (by omega) (by omega)] at c2
                  omega
              · rw [cr]; exact l4
        · exact .rd h (v := .inl (Int32.ofInt (-1000001))) (k8 k1 (ee_X8_been_17 ⟨fun _ => ⟨_, _, _, es_X8_isOutside.v i2, ee_X8_been_27 ⟨fun _ => ⟨_, _, _, es_X8_isOutside.v j2, ee_X8_been_37 ⟨fun c => absurd c n10, fun _ => rfl⟩⟩, fun c => absurd rfl c⟩⟩, fun c => absurd rfl c⟩)) .rf (k9 hq0 k2 (ee_X9_been_19 ⟨fun c => absurd c n10, fun _ => ⟨_, _, _, es_X9_in.v i1, ee_X9_been_31 ⟨fun c => absurd c n10, fun _ => ⟨_, _, _, es_X9_in.v j1, ee_X9_been_42 ⟨fun _ => rfl, fun c => absurd rfl c⟩⟩⟩⟩⟩)) .t0 rfl
      · exact .rd h (v := .inl (Int32.ofInt (-1000001))) (k8 k1 (ee_X8_been_17 ⟨fun _ => ⟨_, _, _, es_X8_isOutside.v i2, ee_X8_been_27 ⟨fun c => absurd c n10, fun _ => rfl⟩⟩, fun c => absurd rfl c⟩)) .rf (k9 hq0 k2 (ee_X9_been_19 ⟨fun c => absurd c n10, fun _ => ⟨_, _, _, es_X9_in.v i1, ee_X9_been_31 ⟨fun _ => rfl, fun c => absurd rfl c⟩⟩⟩)) .t0 rfl
    · exact .rd h (v := .inl (Int32.ofInt (-1000001))) (k8 k1 (ee_X8_been_17 ⟨fun c => absurd c n10, fun _ => rfl⟩)) .rf (k9 hq0 k2 (ee_X9_been_19 ⟨fun _ => rfl, fun c => absurd rfl c⟩)) .t0 rfl
end RQBM
