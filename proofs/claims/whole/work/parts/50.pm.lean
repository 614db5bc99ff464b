/-! pair: storm, the class -/
def rq_g3 (I : sx_I) (J : sx_J) (one ls x : Nat) : Prop := I 3 0 3 = nI one ∧ I 3 0 1 = nI ls ∧ J 3 0 4 = lN x
section RQSC
variable {sc : Nat × (Nat → Int32)} {d : Nat} {I I1 I2 : sx_I} {J J1 J2 : sx_J} {s L L0 : Nat → Nat} {h l A D one x ls a hr m : Nat} {st : Int32}
theorem rq_s3 {k : Nat} : rq_scr 3 0 k := Or.inr (Or.inl rfl)
theorem rq_s29 {k : Nat} {z : Nat} (hz : rq_cs z) : rq_scr z 29 k := Or.inr (Or.inr (Or.inr (Or.inl ⟨hz, by omega⟩)))
theorem rq_R.uJ3 {v : Int64} (hR : rq_R I J 29 s h l A D st L) : rq_R I (sx_uJ J 3 0 4 v) 29 s h l A D st L := hR.fr (fun _ _ _ => rfl) (fun z k c => if_neg (fun q => by unfold rq_cs at c; omega))
theorem rq_R.uI3 {v : Int32} {k : Nat} (hR : rq_R I J 29 s h l A D st L) : rq_R (sx_uI I 3 0 k v) J 29 s h l A D st L := hR.fr (fun z k c => if_neg (fun q => by unfold rq_cs at c; omega)) (fun _ _ _ => rfl)
/-- the end of an hour -/
theorem e_53z {x1 x2 : Int32} (hR : rq_R I J 29 s h l A D 0 L) (hg : rq_g3 I J one ls x) (hx : x < 2147483647) (h3 : s 3 ≤ 19) : ∃ I1 J1, rq_same I J I1 J1 ∧ rq_R I1 J1 29 s (h + 1) l A D (if rq_sx x % 20 < s 3 then 1 else 0) L ∧ rq_g3 I1 J1 one ls (rq_sx x) ∧ sx_E sc (d + 1) cd_X3_passHour 53 [some (.inr (.inr (3, 0))), some (.inl x1), some (.inl x2)] [] I J (none, I1, J1) := by
  have hsx := rq_sx_lt x
  have e9 : I 5 29 9 = 0 := hR.2.2.2.2.2.2.2.2.2.1
  have e3 : I 5 29 3 = nI (s 3) := hR.2.2.2.1
  have e4 : I 5 29 4 = nI h := hR.2.2.2.2.1
  have hR1 := ((hR.uJ3 (v := lN (rq_sx x))).u9 (st1 := if rq_sx x % 20 < s 3 then 1 else 0)).u4 (h1 := h + 1)
  have hv : (if rq_sx x % 20 < s 3 then (1 : Int32) else 0) = 0 ∨ (if rq_sx x % 20 < s 3 then (1 : Int32) else 0) = 1 := by split <;> decide
  have et : (nI (s 3)).toInt64 ≤ lN (rq_sx x) - lN (rq_sx x) / (20 : Int64) * (20 : Int64) ↔ s 3 ≤ rq_sx x % 20 := by
    rw [show (20 : Int64) = lN 20 from rfl, pk_lRem (by omega) (by omega) (by omega), nI_l (by omega), pk_lLE (by omega) (by omega)]
  have k92 : sx_E sc (d + 1) cd_X3_passHour 92 [some (.inr (.inr (3, 0))), some (.inl x1), some (.inl x2)] [.inl (if rq_sx x % 20 < s 3 then (1 : Int32) else 0), .inr (.inr (5, 29))] I (sx_uJ J 3 0 4 (lN (rq_sx x))) (none, sx_uI (sx_uI I 5 29 9 (if rq_sx x % 20 < s 3 then 1 else 0)) 5 29 4 (nI (h + 1)), sx_uJ J 3 0 4 (lN (rq_sx x))) := by
    refine ee_X3_passHour_92 ⟨hv, ee_X3_passHour_95 (ee_X3_passHour_108 ?_)⟩
    rw [show (sx_uI I 5 29 9 (if rq_sx x % 20 < s 3 then 1 else 0)) 5 29 4 = nI h from e4, nI_1]
  refine ⟨_, _, ((rq_same.uJ (v := lN (rq_sx x)) (rq_s3 (k := 4))).tr (.uI (rq_s29 (Or.inl rfl)))).tr (.uI (rq_s29 (Or.inl rfl))), hR1, ⟨hg.1, hg.2.1, rfl⟩, ee_X3_passHour_53 ⟨fun _ => ⟨_, _, _, e_drawC hx hg.2.2, ee_X3_passHour_71 ⟨fun c => ?_, fun c => ?_⟩⟩, fun c => absurd e9 c⟩⟩
  · rw [e3] at c
    have := et.mp c
    rw [if_neg (show ¬ rq_sx x % 20 < s 3 by omega)] at k92 ⊢
    exact k92
  · rw [e3] at c
    have : ¬ s 3 ≤ rq_sx x % 20 := fun q => c (et.mpr q)
    rw [if_pos (show rq_sx x % 20 < s 3 by omega)] at k92 ⊢
    exact k92
/-- a lot is cast -/
theorem e_castC (hR : rq_R I J 29 s h l A D st L) (hg : rq_g3 I J one ls x) (hx : x < 2147483647) (hW : rq_W s) (hD : D < 2 ^ s 0) (hpc : 0 < rq_pc D) (ho : one < s 0) : ∃ I1 J1, rq_same I J I1 J1 ∧ rq_R I1 J1 29 s h (l + 1) A D st (rq_lot s D (rq_nm s D one (rq_sx x)) L) ∧ rq_g3 I1 J1 one ls (rq_sx x) ∧ sx_E sc (d + 5) cd_X3_castLot 0 [some (.inr (.inr (3, 0))), none, none, none] [] I J (none, I1, J1) := by
  have w := hW.1
  have hsx := rq_sx_lt x
  have hT := rq_T_le hW.2.1 one
  have hR1 := hR.uJ3 (v := lN (rq_sx x))
  have hlt := rq_nm_lt (x := rq_sx x) w hD hpc ho
  have hp6 : sx_p6 (I 5 29 0) := ⟨s 0, w, hR.1⟩
  have hR2 := c_learnLot (nm := rq_nm s D one (rq_sx x)) hR1 w hD hW.2.1 (fun q hq => hW.kd hq) (by omega)
  have hR3 := hR2.u5 (h1 := l + 1)
  have e5 : I 5 29 5 = nI l := hR.2.2.2.2.2.1
  have k56 : ∀ {x3 : Int32}, sx_E sc (d + 5) cd_X3_castLot 56 [some (.inr (.inr (3, 0))), some (.inr (.inl (lN (rq_sx x)))), none, some (.inl x3)] [.inl (nI (rq_nm s D one (rq_sx x))), .inr (.inr (5, 29))] I (sx_uJ J 3 0 4 (lN (rq_sx x))) (none, sx_uI I 5 29 5 (nI (l + 1)), j_X5_learnLot I (sx_uJ J 3 0 4 (lN (rq_sx x))) 29 (nI (rq_nm s D one (rq_sx x)))) := fun {x3} => by
    refine ee_X3_castLot_56 ⟨_, _, es_X5_learnLot hp6, ee_X3_castLot_59 (ee_X3_castLot_72 ?_)⟩
    rw [e5, nI_1]
  have et : (nI (rq_b D one * rq_T s one)).toInt64 ≤ lN (rq_sx x) - lN (rq_sx x) / (10 : Int64) * (10 : Int64) ↔ rq_b D one * rq_T s one ≤ rq_sx x % 10 := by
    have : rq_b D one * rq_T s one ≤ 10 := by rcases rq_b01 D one with e | e <;> rw [e] <;> omega
    rw [show (10 : Int64) = lN 10 from rfl, pk_lRem (by omega) (by omega) (by omega), nI_l (by omega), pk_lLE (by omega) (by omega)]
  have ej : (j_X5_learnLot I (sx_uJ J 3 0 4 (lN (rq_sx x))) 29 (nI (rq_nm s D one (rq_sx x)))) 3 0 4 = lN (rq_sx x) := if_neg (by omega)
  refine ⟨_, _, ((rq_same.uJ (v := lN (rq_sx x)) (rq_s3 (k := 4))).tr (.learnLot (x := nI (rq_nm s D one (rq_sx x))) (Or.inr (by omega)))).tr (.uI (rq_s29 (Or.inl rfl))), hR3, ⟨hg.1, hg.2.1, ej⟩, ?_⟩
  refine ee_X3_castLot_0 ⟨_, _, _, e_drawC hx hg.2.2, ee_X3_castLot_4 ⟨nI (rq_b D one * rq_T s one), I, sx_uJ J 3 0 4 (lN (rq_sx x)), ?_, ?_⟩⟩
  · rw [hg.1]
    exact (es_X5_truthOf (fun _ => rq_in6 ho w)).v (c_truthOf hR1 w hD hW.2.1 ho (hW.kd ho))
  · refine ee_X3_castLot_21 ⟨fun c => ee_X3_castLot_31 ⟨fun _ => ⟨nI (rq_nm s D one (rq_sx x)), I, sx_uJ J 3 0 4 (lN (rq_sx x)), ?_, k56⟩, fun c => absurd rfl c⟩, fun c => ee_X3_castLot_31 ⟨fun c => absurd c n10, fun _ => ?_⟩⟩
    · have hc := et.mp c
      have e : rq_nm s D one (rq_sx x) = rq_pl (rq_b D) (s 0) 0 (rq_sx x / 10 % rq_pc D) := if_neg (fun q => by rw [q.1, Nat.one_mul] at hc; omega)
      rw [show (10 : Int64) = lN 10 from rfl, pk_lDiv (by omega) (by omega) (by omega), e]
      exact e_drawerAt hR1 w hD hpc (by omega)
    · have hc : ¬ rq_b D one * rq_T s one ≤ rq_sx x % 10 := fun q => c (et.mpr q)
      have hb : rq_b D one = 1 := (rq_b01 D one).resolve_left (fun q => hc (by rw [q, Nat.zero_mul]; exact Nat.zero_le _))
      rw [hb, Nat.one_mul] at hc
      have e : rq_nm s D one (rq_sx x) = one := if_pos ⟨hb, by omega⟩
      have z := k56 (x3 := 1)
      rw [e] at z ⊢
      rw [hg.1]; exact z
/-- an hour -/
theorem e_hourC (hW : rq_W s) (hv : rq_iv s one A l L) (hR : rq_R I J 29 s h l A (rq_Dr s A) 0 L) (hg : rq_g3 I J one ls x) (hx : x < 2147483647) (ha : a ≤ 100) : ∃ I1 J1, rq_same I J I1 J1 ∧ sx_E sc (d + 8) cd_X3_passHour 0 [some (.inr (.inr (3, 0))), some (.inl (nI a)), none] [] I J (none, I1, J1) ∧ (((rq_sum L * a ≤ L (rq_p1 A L) * 100 ∨ rq_Dr s A = 0 ∨ l = 4) ∧ rq_p1 A L = one ∧ rq_R I1 J1 29 s (h + 1) l A (rq_Dr s A) 1 L ∧ I1 3 0 1 = nI ls) ∨ ((rq_sum L * a ≤ L (rq_p1 A L) * 100 ∨ rq_Dr s A = 0 ∨ l = 4) ∧ ¬ rq_p1 A L = one ∧ rq_R I1 J1 29 s (h + 1) l (rq_of A (rq_p1 A L)) (rq_Dr s (rq_of A (rq_p1 A L))) (if rq_sx x % 20 < s 3 then 1 else 0) (rq_thr s L 0 (rq_p1 A L)) ∧ rq_g3 I1 J1 one (ls + 1) (rq_sx x)) ∨ (¬ (rq_sum L * a ≤ L (rq_p1 A L) * 100 ∨ rq_Dr s A = 0 ∨ l = 4) ∧ rq_R I1 J1 29 s (h + 1) (l + 1) A (rq_Dr s A) (if rq_sx (rq_sx x) % 20 < s 3 then 1 else 0) (rq_lot s (rq_Dr s A) (rq_nm s (rq_Dr s A) one (rq_sx x)) L) ∧ rq_g3 I1 J1 one ls (rq_sx (rq_sx x)))) := by
  have w := hW.1
  have hD := rq_Dr_lt s A
  have hD6 := rq_64 hD w
  have hA6 := rq_64 hv.1 w
  have hl := hv.2.2.2.2.2.2
  obtain ⟨f1, f2, f3⟩ := hv.fst w
  obtain ⟨s1, s2⟩ := hv.sum w
  generalize rq_p1 A L = p at f1 f2 f3 ⊢
  have hp6 : sx_p6 (I 5 29 0) := ⟨s 0, w, hR.1⟩
  have e8 : I 5 29 8 = nI (rq_Dr s A) := hR.2.2.2.2.2.2.2.2.1
  have e5 : I 5 29 5 = nI l := hR.2.2.2.2.2.1
  have e4 : I 5 29 4 = nI h := hR.2.2.2.2.1
  have hfst : v_X5_likeliestAboard I J 29 = nI p := by
    rw [c_likeliest hR w hv.1 hv.lt, f1]; rfl
  -- a throw
  have thr : ∀ {I1 : sx_I} {J1 : sx_J}, sx_E sc (d + 8) cd_X3_passHour 41 [some (.inr (.inr (3, 0))), some (.inl (nI a)), some (.inl (nI p))] [] I J (none, I1, J1) → (rq_sum L * a ≤ L p * 100 ∨ rq_Dr s A = 0 ∨ l = 4) → sx_E sc (d + 8) cd_X3_passHour 0 [some (.inr (.inr (3, 0))), some (.inl (nI a)), none] [] I J (none, I1, J1) := fun k41 hc => by
    refine ee_X3_passHour_0 ⟨_, _, _, (es_X5_likeliestAboard hp6).v hfst, ee_X3_passHour_7 ⟨fun _ => k41, fun c1 => ⟨fun _ => k41, fun c2 => ⟨_, _, _, (es_X5_isBelieved (fun _ => rq_in6 f2 w) (fun _ => hp6)).v (c_believed hR w hv.2.2.2.2.1 f2 ha (by omega)), ee_X3_passHour_38 ⟨fun c3 => ?_, fun _ => k41⟩⟩⟩⟩⟩
    exfalso
    rcases hc with q | q | q
    · rw [if_pos q] at c3; exact n10 c3
    · exact c1 (by rw [e8, q]; rfl)
    · exact c2 (by rw [e5, q]; decide)
  by_cases hc : rq_sum L * a ≤ L p * 100 ∨ rq_Dr s A = 0 ∨ l = 4
  · by_cases ho : p = one
    · have hR1 := (hR.u9 (st1 := 1)).u4 (h1 := h + 1)
      refine ⟨sx_uI (sx_uI I 5 29 9 1) 5 29 4 (nI (h + 1)), J, (rq_same.uI (rq_s29 (Or.inl rfl))).tr (.uI (rq_s29 (Or.inl rfl))), thr (ee_X3_passHour_41 ⟨_, _, ee_X3_throwOne_0 ⟨fun _ => ee_X3_throwOne_16 rfl, fun c => absurd (by rw [hg.1, ho]) c⟩, ee_X3_passHour_46 (ee_X3_passHour_53 ⟨fun c => absurd c n10, fun _ => ee_X3_passHour_95 (ee_X3_passHour_108 ?_)⟩)⟩) hc, Or.inl ⟨hc, ho, hR1, hg.2.1⟩⟩
      rw [show (sx_uI I 5 29 9 1) 5 29 4 = nI h from e4, nI_1]
    · obtain ⟨i1, i2⟩ := e_innoC (sc := sc) (d := d + 5) hR w hA6 hD6 f2
      have eu : ∀ y z, y = 3 → i_X5_learnInnocent I J 29 (nI p) y 0 z = I y 0 z := fun y z hy => by
        unfold i_X5_learnInnocent i_X5_leave
        split
        · rfl
        · exact (if_neg (by omega)).trans (if_neg (by omega))
      have ej : ∀ y z, y = 3 → j_X5_learnInnocent I J 29 (nI p) y 0 z = J y 0 z := fun y z hy => by
        unfold j_X5_learnInnocent
        split
        · rfl
        · exact if_neg (by omega)
      have sm1 : rq_same I J (i_X5_learnInnocent I J 29 (nI p)) (j_X5_learnInnocent I J 29 (nI p)) := by
        unfold i_X5_learnInnocent j_X5_learnInnocent
        split
        · exact .rf
        · exact ((rq_same.uJ (rq_s29 (Or.inr (Or.inr (Or.inr rfl))))).tr (.uI (rq_s29 (Or.inl rfl)))).tr (.uI (rq_s29 (Or.inl rfl)))
      have i3 := i2.uI3 (k := 1) (v := nI (ls + 1))
      rw [← rq_Dr_of w hv.1 f2] at i3
      have g3 : rq_g3 (sx_uI (i_X5_learnInnocent I J 29 (nI p)) 3 0 1 (nI (ls + 1))) (j_X5_learnInnocent I J 29 (nI p)) one (ls + 1) x := ⟨(eu 3 3 rfl).trans hg.1, rfl, (ej 3 4 rfl).trans hg.2.2⟩
      obtain ⟨I1, J1, q1, q2, q3, q4⟩ := e_53z (sc := sc) (d := d + 7) (x1 := nI a) (x2 := nI p) i3 g3 hx hW.2.2.2.1
      refine ⟨I1, J1, (sm1.tr (.uI (rq_s3 (k := 1)))).tr q1, thr (ee_X3_passHour_41 ⟨_, _, ee_X3_throwOne_0 ⟨fun c => absurd ((nI_eq (by omega) (by have := hv.2.1; omega)).mp (c.trans hg.1)) ho, fun _ => ⟨_, _, i1, ee_X3_throwOne_25 (ee_X3_throwOne_35 rfl)⟩⟩, ee_X3_passHour_46 ?_⟩) hc, Or.inr (Or.inl ⟨hc, ho, q2, q3⟩)⟩
      rw [eu 3 1 rfl, hg.2.1, nI_1]
      exact q4
  · have hD0 : rq_Dr s A ≠ 0 := fun q => hc (Or.inr (Or.inl q))
    have hl4 : l < 4 := by
      have : ¬ l = 4 := fun q => hc (Or.inr (Or.inr q))
      omega
    obtain ⟨I1, J1, q1, q2, q3, q4⟩ := e_castC (sc := sc) (d := d + 2) hR hg hx hW hD (rq_nz _ hD6 hD0) hv.2.1
    obtain ⟨I2, J2, r1, r2, r3, r4⟩ := e_53z (sc := sc) (d := d + 7) (x1 := nI a) (x2 := nI p) q2 q3 (rq_sx_lt x) hW.2.2.2.1
    refine ⟨I2, J2, q1.tr r1, ee_X3_passHour_0 ⟨_, _, _, (es_X5_likeliestAboard hp6).v hfst, ee_X3_passHour_7 ⟨fun c => absurd (e8.symm.trans c) (fun q => hD0 ((rq_nI0 (by omega)).mp q)), fun _ => ⟨fun c => absurd c (by rw [e5]; exact nI_ge (b := 4) hl4 (by omega)), fun _ => ⟨_, _, _, (es_X5_isBelieved (fun _ => rq_in6 f2 w) (fun _ => hp6)).v (c_believed hR w hv.2.2.2.2.1 f2 ha (by omega)), ee_X3_passHour_38 ⟨fun _ => ⟨_, _, q4, r4⟩, fun c3 => absurd ?_ c3⟩⟩⟩⟩⟩, Or.inr (Or.inr ⟨hc, r2, r3⟩)⟩
    rw [if_neg (fun q => hc (Or.inl q))]
/-- the storm is over -/
theorem e_endC {x2 x3 : Int32} (hW : rq_W s) (hC : rq_C I J 0 s L0) (hR : rq_R I J 29 s (s 4 + hr) l A D st L) (hend : ¬ (st = 0 ∧ s 4 + hr < s 2 + s 7)) (hh : hr ≤ 24) : sx_E sc (d + 8) cd_X3_blow 30 [some (.inr (.inr (3, 0))), some (.inr (.inr (5, 0))), some (.inl x2), some (.inl x3), some (.inl (nI hr))] [] I J (none, sx_uI I 3 0 2 (nI hr), J) := by
  have w2 := hW.2.2.1
  have w7 := hW.2.2.2.2.2.1
  have w4 := hW.2.2.2.2.2.2.1
  have e4 : I 5 29 4 = nI (s 4 + hr) := hR.2.2.2.2.1
  have f4 : I 5 0 4 = nI (s 4) := hC.2.2.2.2.1
  have k58 : sx_E sc (d + 8) cd_X3_blow 58 [some (.inr (.inr (3, 0))), some (.inr (.inr (5, 0))), some (.inl x2), some (.inl x3), some (.inl (nI hr))] [] I J (none, sx_uI I 3 0 2 (nI hr), J) := by
    refine ee_X3_blow_58 (ee_X3_blow_74 ?_)
    rw [e4, f4, pk_sub (by omega), Nat.add_sub_cancel_left]
  refine ee_X3_blow_30 ⟨fun _ => k58, fun _ => ⟨_, _, _, es_X5_isInStorm.v (c_isInStorm hR hW.1 w2 w7 (by omega)), ?_⟩⟩
  rw [if_neg (fun q => hend q.2)]
  exact ee_X3_blow_44 ⟨fun _ => k58, fun c => absurd rfl c⟩
theorem lo_blow {x3 : Int32} (hW : rq_W s) (ha : a ≤ 100) : ∀ (m A l : Nat) (L : Nat → Nat) (x ls hr : Nat) (I : sx_I) (J : sx_J), s 4 + hr + m = s 2 + s 7 → rq_iv s one A l L → x < 2147483647 → rq_C I J 0 s L0 → rq_R I J 29 s (s 4 + hr) l A (rq_Dr s A) 0 L → rq_g3 I J one ls x → ∃ I1 J1, rq_same I J I1 J1 ∧ I1 3 0 1 = nI (rq_go s a one m A l L x ls hr).1 ∧ I1 3 0 2 = nI (rq_go s a one m A l L x ls hr).2.1 ∧ I1 5 29 9 = nI (rq_go s a one m A l L x ls hr).2.2 ∧ sx_E sc (d + 9) cd_X3_blow 30 [some (.inr (.inr (3, 0))), some (.inr (.inr (5, 0))), some (.inl (nI a)), some (.inl x3), some (.inl (nI hr))] [] I J (none, I1, J1) := by
  have w2 := hW.2.2.1
  have w7 := hW.2.2.2.2.2.1
  intro m
  induction m with
  | zero =>
    intro A l L x ls hr I J hm hv hx hC hR hg
    exact ⟨sx_uI I 3 0 2 (nI hr), J, .uI (rq_s3 (k := 2)), hg.2.1, rfl, hR.2.2.2.2.2.2.2.2.2.1, e_endC (d := d + 1) hW hC hR (by omega) (by omega)⟩
  | succ m ih =>
    intro A l L x ls hr I J hm hv hx hC hR hg
    obtain ⟨I1, J1, q1, q2, q3⟩ := e_hourC (sc := sc) (d := d) hW hv hR hg hx ha
    have hC1 := hC.sm q1
    have e30 : ∀ {res : Option sx_V × sx_I × sx_J}, sx_E sc (d + 9) cd_X3_blow 30 [some (.inr (.inr (3, 0))), some (.inr (.inr (5, 0))), some (.inl (nI a)), some (.inl x3), some (.inl (nI (hr + 1)))] [] I1 J1 res → sx_E sc (d + 9) cd_X3_blow 30 [some (.inr (.inr (3, 0))), some (.inr (.inr (5, 0))), some (.inl (nI a)), some (.inl x3), some (.inl (nI hr))] [] I J res := fun k => by
      refine ee_X3_blow_30 ⟨fun c => absurd c (nI_ge (b := 24) (by omega) (by omega)), fun _ => ⟨_, _, _, es_X5_isInStorm.v (c_isInStorm hR hW.1 w2 w7 (by omega)), ?_⟩⟩
      rw [if_pos ⟨by have := hv.2.1; omega, rfl, by omega⟩]
      refine ee_X3_blow_44 ⟨fun c => absurd c n10, fun _ => ⟨_, _, q2, ee_X3_blow_52 ?_⟩⟩
      rw [nI_1]; exact k
    rw [rq_go]
    rcases q3 with ⟨hc, ho, r1, r2⟩ | ⟨hc, ho, r1, r2⟩ | ⟨hc, r1, r2⟩
    · rw [if_pos hc, if_pos ho]
      exact ⟨sx_uI I1 3 0 2 (nI (hr + 1)), J1, q1.tr (.uI (rq_s3 (k := 2))), r2, rfl, r1.2.2.2.2.2.2.2.2.2.1, e30 (e_endC (d := d + 1) (hr := hr + 1) hW hC1 r1 (fun q => n10 q.1) (by omega))⟩
    · rw [if_pos hc, if_neg ho]
      by_cases ht : rq_sx x % 20 < s 3
      · rw [if_pos ht] at r1 ⊢
        exact ⟨sx_uI I1 3 0 2 (nI (hr + 1)), J1, q1.tr (.uI (rq_s3 (k := 2))), r2.2.1, rfl, r1.2.2.2.2.2.2.2.2.2.1, e30 (e_endC (d := d + 1) (hr := hr + 1) hW hC1 r1 (fun q => n10 q.1) (by omega))⟩
      · rw [if_neg ht] at r1 ⊢
        obtain ⟨I2, J2, t1, t2, t3, t4, t5⟩ := ih (rq_of A (rq_p1 A L)) l (rq_thr s L 0 (rq_p1 A L)) (rq_sx x) (ls + 1) (hr + 1) I1 J1 (by omega) (hv.thr hW.1 (hv.fst hW.1).2.1 ho) (rq_sx_lt x) hC1 r1 r2
        exact ⟨I2, J2, q1.tr t1, t2, t3, t4, e30 t5⟩
    · rw [if_neg hc]
      by_cases ht : rq_sx (rq_sx x) % 20 < s 3
      · rw [if_pos ht] at r1 ⊢
        exact ⟨sx_uI I1 3 0 2 (nI (hr + 1)), J1, q1.tr (.uI (rq_s3 (k := 2))), r2.2.1, rfl, r1.2.2.2.2.2.2.2.2.2.1, e30 (e_endC (d := d + 1) (hr := hr + 1) hW hC1 r1 (fun q => n10 q.1) (by omega))⟩
      · rw [if_neg ht] at r1 ⊢
        have hD0 : rq_Dr s A ≠ 0 := fun q => hc (Or.inr (Or.inl q))
        have hl4 : l < 4 := by
          have : ¬ l = 4 := fun q => hc (Or.inr (Or.inr q))
          have := hv.2.2.2.2.2.2
          omega
        obtain ⟨I2, J2, t1, t2, t3, t4, t5⟩ := ih A (l + 1) _ (rq_sx (rq_sx x)) ls (hr + 1) I1 J1 (by omega) (hv.lot (x := rq_sx x) hW.2.1 (rq_nz _ (rq_64 (rq_Dr_lt s A) hW.1) hD0) hl4) (rq_sx_lt _) hC1 r1 r2
        exact ⟨I2, J2, q1.tr t1, t2, t3, t4, e30 t5⟩
end RQSC
