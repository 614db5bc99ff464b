/-! pair: storm, the call -/
theorem rq_go_01 (s : Nat → Nat) (a one : Nat) : ∀ (m A l : Nat) (L : Nat → Nat) (x ls hr : Nat), (rq_go s a one m A l L x ls hr).2.2 = 0 ∨ (rq_go s a one m A l L x ls hr).2.2 = 1
  | 0, _, _, _, _, _, _ => Or.inl rfl
  | m + 1, A, l, L, x, ls, hr => by
    rw [rq_go]
    repeat' split
    · exact Or.inr rfl
    · exact Or.inr rfl
    · exact rq_go_01 s a one m _ _ _ _ _ _
    · exact Or.inr rfl
    · exact rq_go_01 s a one m _ _ _ _ _ _
section RQSQ
variable {sc : Nat × (Nat → Int32)} {d : Nat} {I I1 I2 : sx_I} {J J1 J2 : sx_J}
theorem pr_storm (h : rq_Rel I J) {x1 x2 x3 : Int32} : rq_pair sc (d + 20) cd_X8_storm cd_X9_storm [some (.inr (.inr (8, 0))), some (.inl x1), some (.inl x2), some (.inl x3)] [some (.inr (.inr (9, 0))), some (.inl x1), some (.inl x2), some (.inl x3), none, none, none, none, none, none, none, none] I J := by
  obtain ⟨s, L, hC, hQ, hW, hV⟩ := h.2.2.2.2.1
  have w := hW.1
  have hq0 := hQ.qi.t0 (v := 0)
  have hsh := c_isShip hC w
  by_cases h0 : s 0 = 0
  · rw [if_pos h0] at hsh
    exact .rd h (v := .inl (Int32.ofInt (-1000002))) (ee_X8_storm_0 ⟨_, _, _, es_X5_isShip.v hsh, ee_X8_storm_7 ⟨fun _ => rfl, fun c => absurd rfl c⟩⟩) .rf (ee_X9_storm_0 (ee_X9_storm_5 ⟨_, _, _, es_X9_isThere.v ((m_isThere hq0 w).trans (if_pos h0)), ee_X9_storm_9 ⟨fun _ => rfl, fun c => absurd rfl c⟩⟩)) .t0 rfl
  · rw [if_neg h0] at hsh
    have k8 : ∀ {res : Option sx_V × sx_I × sx_J} {z : Int32}, v_X8_isOutside I J x1 1 100 = z → sx_E sc (d + 20) cd_X8_storm 20 [some (.inr (.inr (8, 0))), some (.inl x1), some (.inl x2), some (.inl x3)] [.inl z] I J res → sx_E sc (d + 20) cd_X8_storm 0 [some (.inr (.inr (8, 0))), some (.inl x1), some (.inl x2), some (.inl x3)] [] I J res := fun e k => ee_X8_storm_0 ⟨_, _, _, es_X5_isShip.v hsh, ee_X8_storm_7 ⟨fun c => absurd c n10, fun _ => ⟨_, _, _, es_X8_isOutside.v e, k⟩⟩⟩
    have k9 : ∀ {I : sx_I} {J : sx_J} {res : Option sx_V × sx_I × sx_J} {z : Int32}, rq_Qi (sx_uI I 9 0 0 0) s → v_X9_in (sx_uI I 9 0 0 0) J x1.toInt64 1 100 = z → sx_E sc (d + 20) cd_X9_storm 24 [some (.inr (.inr (9, 0))), some (.inl x1), some (.inl x2), some (.inl x3), none, none, none, none, none, none, none, none] [.inl z] (sx_uI I 9 0 0 0) J res → sx_E sc (d + 20) cd_X9_storm 0 [some (.inr (.inr (9, 0))), some (.inl x1), some (.inl x2), some (.inl x3), none, none, none, none, none, none, none, none] [] I J res := fun hq e k => ee_X9_storm_0 (ee_X9_storm_5 ⟨_, _, _, es_X9_isThere.v ((m_isThere hq w).trans (if_neg h0)), ee_X9_storm_9 ⟨fun c => absurd c n10, fun _ => ⟨_, _, _, es_X9_in.v e, k⟩⟩⟩)
    rcases m_inC (I := sx_uI I 9 0 0 0) (J := J) I J (x := x1) (a := 1) (b := 100) (y := 1) (z := 100) (by decide) (by decide) with ⟨i1, i2, y1, y2⟩ | ⟨i1, i2⟩
    · obtain ⟨a, ha, rfl⟩ := nI_of2 (M := 100) (n := 100) (by decide) (Int32.not_lt.mpr (Int32.le_trans (by decide) y1)) y2
      rcases m_inC (I := sx_uI I 9 0 0 0) (J := J) I J (x := x2) (a := 1) (b := Int32.ofInt (999999)) (y := 1) (z := Int64.ofInt (999999)) (by decide) (by decide) with ⟨j1, j2, z1, z2⟩ | ⟨j1, j2⟩
      · obtain ⟨e, he, rfl⟩ := nI_of2 (M := Int32.ofInt (999999)) (n := 999999) (by decide) (Int32.not_lt.mpr (Int32.le_trans (by decide) z1)) z2
        rcases m_inC (I := sx_uI I 9 0 0 0) (J := J) I J (x := x3) (a := 0) (b := 2) (y := 0) (z := 2) (by decide) (by decide) with ⟨l1, l2, _, _⟩ | ⟨l1, l2⟩
        · have hst := c_inStorm hC hW
          have k53 : ∀ {res : Option sx_V × sx_I × sx_J} {z : Int32}, v_X5_isInStorm I J 0 = z → sx_E sc (d + 20) cd_X8_storm 53 [some (.inr (.inr (8, 0))), some (.inl (nI a)), some (.inl (nI e)), some (.inl x3)] [.inl z] I J res → sx_E sc (d + 20) cd_X8_storm 0 [some (.inr (.inr (8, 0))), some (.inl (nI a)), some (.inl (nI e)), some (.inl x3)] [] I J res := fun q k => k8 i2 (ee_X8_storm_20 ⟨fun _ => ⟨_, _, _, es_X8_isOutside.v j2, ee_X8_storm_31 ⟨fun _ => ⟨_, _, _, es_X8_isOutside.v l2, ee_X8_storm_40 ⟨fun _ => ⟨_, _, _, es_X5_isInStorm.v q, k⟩, fun c => absurd rfl c⟩⟩, fun c => absurd rfl c⟩⟩, fun c => absurd rfl c⟩)
          have m48 : ∀ {I : sx_I} {J : sx_J} {res : Option sx_V × sx_I × sx_J}, rq_Qi (sx_uI I 9 0 0 0) s → sx_E sc (d + 20) cd_X9_storm 48 [some (.inr (.inr (9, 0))), some (.inl (nI a)), some (.inl (nI e)), some (.inl x3), none, none, none, none, none, none, none, none] [.inl 1] (sx_uI I 9 0 0 0) J res → sx_E sc (d + 20) cd_X9_storm 0 [some (.inr (.inr (9, 0))), some (.inl (nI a)), some (.inl (nI e)), some (.inl x3), none, none, none, none, none, none, none, none] [] I J res := fun hq k => k9 hq i1 (ee_X9_storm_24 ⟨fun c => absurd c n10, fun _ => ⟨_, _, _, es_X9_in.v j1, ee_X9_storm_36 ⟨fun c => absurd c n10, fun _ => ⟨_, _, _, es_X9_in.v l1, k⟩⟩⟩⟩)
          by_cases h5 : s 5 = 1
          · rw [if_pos ⟨by omega, h5⟩] at hst
            have hs := hV.sm5 hW (by omega)
            have hs0 := hV.2.2.1 (by omega)
            have est : rq_st s = 0 := by rw [rq_st, if_neg h0, if_neg (by omega)]
            have hlt : s 4 < s 2 + s 7 := (hW.2.2.2.2.2.2.2.2.1 (by omega) (by omega)).mp h5
            have hsx := rq_sx_lt e
            have hmod := Nat.mod_lt (rq_sx e) hs0
            have w6 := hW.2.2.2.2.1
            have hpl := rq_pl_spec L (s 0) 0 (rq_sx e % rq_sum L) (by rw [rq_ps_n w hV.1]; exact hmod)
            generalize eo : rq_pl L (s 0) 0 (rq_sx e % rq_sum L) = one at hpl
            have ho : one < s 0 := by omega
            have hab : rq_b (rq_A s) one = 1 := by
              rw [rq_A_b s ho]
              have h1 := hW.ab one ho
              by_cases q : s (10 + 4 * one) = 1
              · rw [if_pos q]
              · have := hV.2.2.2 (by omega) one ho (by omega)
                omega
            have hv : rq_iv s one (rq_A s) (s 6) L := ⟨rq_A_lt s, ho, hab, hpl.2, hV.1, fun p hp => by
              have := hV.2.1 p hp
              rw [if_neg (by omega), Nat.mul_one] at this
              exact this, w6⟩
            -- the class
            have hR0 : rq_R (i_X5_becomes I J 29 0) (j_X5_becomes I J 29 0) 29 s (s 4) (s 6) (rq_A s) (rq_D s) (rq_st s) L := c_becomes hC w
            rw [est] at hR0
            have sm0 : rq_same I J (i_X5_becomes I J 29 0) (j_X5_becomes I J 29 0) := .becomes (Or.inr (by omega))
            have hR1 := hR0.uJ3 (v := lN e)
            have hR2 := ((hR1.uJ3 (v := lN (rq_sx e))).uI3 (k := 3) (v := nI one)).uI3 (k := 1) (v := 0)
            have sm2 : rq_same (i_X5_becomes I J 29 0) (j_X5_becomes I J 29 0) (sx_uI (sx_uI (i_X5_becomes I J 29 0) 3 0 3 (nI one)) 3 0 1 0) (sx_uJ (sx_uJ (j_X5_becomes I J 29 0) 3 0 4 (lN e)) 3 0 4 (lN (rq_sx e))) := (((rq_same.uJ (rq_s3 (k := 4))).tr (.uJ (rq_s3 (k := 4)))).tr (.uI (rq_s3 (k := 3)))).tr (.uI (rq_s3 (k := 1)))
            have hg : rq_g3 (sx_uI (sx_uI (i_X5_becomes I J 29 0) 3 0 3 (nI one)) 3 0 1 0) (sx_uJ (sx_uJ (j_X5_becomes I J 29 0) 3 0 4 (lN e)) 3 0 4 (lN (rq_sx e))) one 0 (rq_sx e) := ⟨rfl, rfl, rfl⟩
            obtain ⟨I1, J1, t1, t2, t3, t4, t5⟩ := lo_blow (sc := sc) (d := d + 10) (x3 := nI e) (L0 := L) hW ha (s 2 + s 7 - s 4) (rq_A s) (s 6) L (rq_sx e) 0 0 _ _ (by omega) hv hsx ((hC.sm sm0).sm sm2) hR2 hg
            refine .two h (v := .inl (rq_sa x3 (rq_go s a one (s 2 + s 7 - s 4) (rq_A s) (s 6) L (rq_sx e) 0 0))) ⟨I1, J1, (sm0.tr sm2).tr t1, k53 hst (ee_X8_storm_53 ⟨fun c => absurd c n10, fun _ => ⟨I1, J1, ee_X3_blow_0 ⟨_, _, es_X5_becomes (by omega) hC.st, ee_X3_blow_8 ?_⟩, ee_X8_storm_72 (ee_X8_storm_73 (fun c => ee_X8_storm_100 ?_) (fun c => ee_X8_storm_108 ?_) (fun c c2 => ee_X8_storm_116 ⟨fun c3 => ?_, fun c3 => ?_⟩))⟩⟩)⟩ (fun I1 J1 em => ?_)
            · rw [nI_l (by omega)]
              have z := e_one (sc := sc) (d := d + 17) hR1 w hV.1 hs0 hs (show e < 2147483647 by omega) rfl
              rw [eo] at z
              exact ee_X3_blow_14 ⟨_, _, _, z, ee_X3_blow_19 (ee_X3_blow_22 (ee_X3_blow_27 t5))⟩
            · rw [t2, rq_sa, if_pos c]
            · rw [t3, rq_sa, if_neg (by rw [c]; decide), if_pos c]
            · rw [rq_sa, if_neg c, if_neg c2]
              rcases rq_go_01 s a one (s 2 + s 7 - s 4) (rq_A s) (s 6) L (rq_sx e) 0 0 with q | q
              · rw [q]; rfl
              · rw [t4, q] at c3; exact absurd c3 nn1
            · rw [rq_sa, if_neg c, if_neg c2]
              rcases rq_go_01 s a one (s 2 + s 7 - s 4) (rq_A s) (s 6) L (rq_sx e) 0 0 with q | q
              · rw [t4, q] at c3; exact absurd rfl c3
              · rw [q]; rfl
            · -- the reference
              have hq := (hQ.qi.sm em).t0 (v := 0)
              have hl0 := hQ.lj.sm em
              have hl1 : rq_Lj (sx_uJ J1 9 0 25 (lN e)) 0 L := hl0.u25
              have hl2 : rq_Lj (sx_uJ (sx_uJ J1 9 0 25 (lN e)) 9 0 25 (lN (rq_sx e))) 0 L := hl1.u25
              obtain ⟨J3, r1, r2⟩ := lo_stormM (sc := sc) (d := d + 10) (x2 := nI e) (x3 := x3) (one := one) hW hq ha (s 2 + s 7 - s 4) (rq_A s) (s 6) L (rq_sx e) 0 0 none none (j_X9_laySome (sx_uI I1 9 0 0 0) (sx_uJ (sx_uJ J1 9 0 25 (lN e)) 9 0 25 (lN (rq_sx e)))) (by omega) hv hsx (m_laySome hl2) rfl
              refine ⟨_, _, (((rq_same.t0.tr (.uJ (v := lN e) (rq_s9 (k := 25) (by omega)))).tr (.uJ (v := lN (rq_sx e)) (rq_s9 (k := 25) (by omega)))).tr .laySome).tr r1, m48 hq (ee_X9_storm_48 ⟨fun c => absurd c n10, fun _ => ⟨fun _ => ?_, fun c => absurd (by rw [hq 5 (by omega), h5]; rfl) c⟩⟩)⟩
              rw [nI_l (by omega)]
              refine ee_X9_storm_73 ⟨_, _, _, e_drawM (x := e) (by omega) rfl, ee_X9_storm_78 ⟨_, _, _, es_X9_allOf.w (m_allOf hl2), ee_X9_storm_85 ⟨fun c => absurd ((rq_lN0 (by omega)).mp c) (by omega), nI one, sx_uI I1 9 0 0 0, sx_uJ (sx_uJ J1 9 0 25 (lN e)) 9 0 25 (lN (rq_sx e)), ?_, ee_X9_storm_89 ⟨_, _, es_X9_laySome, ee_X9_storm_95 ⟨_, _, _, (es_X9_aboard (hq.p6 w)).v (m_aboard hq w hW.ab), ee_X9_storm_99 ?_⟩⟩⟩⟩⟩
              · rw [pk_lRem (by omega) hs0 (by omega), ← eo]
                refine ee_X9_fallsTo_0 (lo_falls (s := s) w hl2 (fun p hp => ?_) (s 0) 0 (rq_sx e % rq_sum L) (by omega) (by omega) (by rw [rq_ps_n w hV.1]; exact hmod))
                have := rq_le_sum (L := L) hp
                omega
              · rw [hq 6 (by omega)]; exact r2
          · rw [if_neg (fun q => h5 q.2)] at hst
            exact .rd h (v := .inl (Int32.ofInt (-1000002))) (k53 hst (ee_X8_storm_53 ⟨fun _ => rfl, fun c => absurd rfl c⟩)) .rf (m48 hq0 (ee_X9_storm_48 ⟨fun c => absurd c n10, fun _ => ⟨fun c => absurd c (by rw [hq0 5 (by omega)]; exact fun q => h5 ((nI_eq (b := 1) (by have := hW.2.2.2.2.2.2.2.1; omega) (by omega)).mp q)), fun _ => rfl⟩⟩)) .t0 rfl
        · exact .rd h (v := .inl (Int32.ofInt (-1000001))) (k8 i2 (ee_X8_storm_20 ⟨fun _ => ⟨_, _, _, es_X8_isOutside.v j2, ee_X8_storm_31 ⟨fun _ => ⟨_, _, _, es_X8_isOutside.v l2, ee_X8_storm_40 ⟨fun c => absurd c n10, fun _ => rfl⟩⟩, fun c => absurd rfl c⟩⟩, fun c => absurd rfl c⟩)) .rf (k9 hq0 i1 (ee_X9_storm_24 ⟨fun c => absurd c n10, fun _ => ⟨_, _, _, es_X9_in.v j1, ee_X9_storm_36 ⟨fun c => absurd c n10, fun _ => ⟨_, _, _, es_X9_in.v l1, ee_X9_storm_48 ⟨fun _ => rfl, fun c => absurd rfl c⟩⟩⟩⟩⟩)) .t0 rfl
      · exact .rd h (v := .inl (Int32.ofInt (-1000001))) (k8 i2 (ee_X8_storm_20 ⟨fun _ => ⟨_, _, _, es_X8_isOutside.v j2, ee_X8_storm_31 ⟨fun c => absurd c n10, fun _ => rfl⟩⟩, fun c => absurd rfl c⟩)) .rf (k9 hq0 i1 (ee_X9_storm_24 ⟨fun c => absurd c n10, fun _ => ⟨_, _, _, es_X9_in.v j1, ee_X9_storm_36 ⟨fun _ => rfl, fun c => absurd rfl c⟩⟩⟩)) .t0 rfl
    · exact .rd h (v := .inl (Int32.ofInt (-1000001))) (k8 i2 (ee_X8_storm_20 ⟨fun c => absurd c n10, fun _ => rfl⟩)) .rf (k9 hq0 i1 (ee_X9_storm_24 ⟨fun _ => rfl, fun c => absurd rfl c⟩)) .t0 rfl
end RQSQ
