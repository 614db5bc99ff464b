/-! pair: storm, the reference and the call -/
def rq_sa (y : Int32) (r : Nat × Nat × Nat) : Int32 := if y = 0 then nI r.1 else if y = 1 then nI r.2.1 else nI r.2.2
section RQSM
variable {sc : Nat × (Nat → Int32)} {d : Nat} {I I1 I2 : sx_I} {J J1 J2 : sx_J} {s L L0 : Nat → Nat} {h l A D one x ls a hr m : Nat} {x2 x3 : Int32} {o10 o11 : Option sx_V}
theorem e_308z : sx_E sc (d + 10) cd_X9_storm 308 [some (.inr (.inr (9, 0))), some (.inl (nI a)), some (.inl x2), some (.inl x3), some (.inl (nI one)), some (.inl (nI A)), some (.inl (nI l)), some (.inl (nI ls)), some (.inl (nI hr)), some (.inl 0), o10, o11] [] I J (some (.inl (rq_sa x3 (ls, hr, 0))), I, J) := ee_X9_storm_308 ⟨fun c => by rw [rq_sa, if_pos c], fun c => ⟨fun c2 => by rw [rq_sa, if_neg c, if_pos c2], fun c2 => ⟨fun _ => by rw [rq_sa, if_neg c, if_neg c2]; rfl, fun c3 => absurd rfl c3⟩⟩⟩
theorem e_308o : sx_E sc (d + 10) cd_X9_storm 308 [some (.inr (.inr (9, 0))), some (.inl (nI a)), some (.inl x2), some (.inl x3), some (.inl (nI one)), some (.inl (nI A)), some (.inl (nI l)), some (.inl (nI ls)), some (.inl (nI hr)), some (.inl 1), o10, o11] [] I J (some (.inl (rq_sa x3 (ls, hr, 1))), I, J) := ee_X9_storm_308 ⟨fun c => by rw [rq_sa, if_pos c], fun c => ⟨fun c2 => by rw [rq_sa, if_neg c, if_pos c2], fun c2 => ⟨fun c3 => absurd c3 n10, fun _ => by rw [rq_sa, if_neg c, if_neg c2]; rfl⟩⟩⟩
/-- behind a throw or a lot: the wind -/
theorem e_271 (hQ : rq_Qi I s) (h3 : s 3 ≤ 19) (hx : x < 2147483647) (hJ : J 9 0 25 = lN x) {x10 x11 : Int32} {res : Option sx_V × sx_I × sx_J} (k : sx_E sc (d + 10) cd_X9_storm 119 [some (.inr (.inr (9, 0))), some (.inl (nI a)), some (.inl x2), some (.inl x3), some (.inl (nI one)), some (.inl (nI A)), some (.inl (nI l)), some (.inl (nI ls)), some (.inl (nI (hr + 1))), some (.inl (if rq_sx x % 20 < s 3 then 1 else 0)), some (.inl x10), some (.inl x11)] [] I (sx_uJ J 9 0 25 (lN (rq_sx x))) res) : sx_E sc (d + 10) cd_X9_storm 271 [some (.inr (.inr (9, 0))), some (.inl (nI a)), some (.inl x2), some (.inl x3), some (.inl (nI one)), some (.inl (nI A)), some (.inl (nI l)), some (.inl (nI ls)), some (.inl (nI hr)), some (.inl 0), some (.inl x10), some (.inl x11)] [] I J res := by
  have hsx := rq_sx_lt x
  have et : (nI (s 3)).toInt64 ≤ lN (rq_sx x) - lN (rq_sx x) / (20 : Int64) * (20 : Int64) ↔ s 3 ≤ rq_sx x % 20 := by
    rw [show (20 : Int64) = lN 20 from rfl, pk_lRem (by omega) (by omega) (by omega), nI_l (by omega), pk_lLE (by omega) (by omega)]
  refine ee_X9_storm_271 ⟨fun _ => ⟨_, _, _, e_drawM hx hJ, ee_X9_storm_280 ⟨fun c => ?_, fun c => ee_X9_storm_295 ?_⟩⟩, fun c => absurd rfl c⟩
  · rw [hQ 3 (by omega)] at c
    have := et.mp c
    rw [if_neg (show ¬ rq_sx x % 20 < s 3 by omega)] at k
    refine ee_X9_storm_300 ?_
    rw [nI_1]; exact k
  · rw [hQ 3 (by omega)] at c
    have : ¬ s 3 ≤ rq_sx x % 20 := fun q => c (et.mpr q)
    rw [if_pos (show rq_sx x % 20 < s 3 by omega)] at k
    refine ee_X9_storm_300 ?_
    rw [nI_1]; exact k
theorem rq_Lj.u25 {b : Nat} {v : Int64} (h : rq_Lj J b L) : rq_Lj (sx_uJ J 9 0 25 v) b L := fun p hp => (if_neg (by omega)).trans (h p hp)
theorem lo_stormM (hW : rq_W s) (hQ : rq_Qi I s) (ha : a ≤ 100) : ∀ (m A l : Nat) (L : Nat → Nat) (x ls hr : Nat) (o10 o11 : Option sx_V) (J : sx_J), s 4 + hr + m = s 2 + s 7 → rq_iv s one A l L → x < 2147483647 → rq_Lj J 2 L → J 9 0 25 = lN x → ∃ J1, rq_same I J I J1 ∧ sx_E sc (d + 10) cd_X9_storm 119 [some (.inr (.inr (9, 0))), some (.inl (nI a)), some (.inl x2), some (.inl x3), some (.inl (nI one)), some (.inl (nI A)), some (.inl (nI l)), some (.inl (nI ls)), some (.inl (nI hr)), some (.inl 0), o10, o11] [] I J (some (.inl (rq_sa x3 (rq_go s a one m A l L x ls hr))), I, J1) := by
  have w := hW.1
  have w2 := hW.2.2.1
  have w7 := hW.2.2.2.2.2.1
  have sx : ∀ {J : sx_J} {v : Int64}, rq_same I J I (sx_uJ J 9 0 25 v) := fun {J v} => .uJ (rq_s9 (by omega))
  intro m
  induction m with
  | zero =>
    intro A l L x ls hr o10 o11 J hm hv hx hJ hd
    refine ⟨J, .rf, ee_X9_storm_119 ⟨fun _ => ⟨_, _, _, es_X9_sinksBehind.v (m_sinks hQ), ?_⟩, fun c => absurd rfl c⟩⟩
    rw [hQ 4 (by omega), nI_add]
    exact ee_X9_storm_137 ⟨fun _ => e_308z, fun c => absurd (nI_le (by omega) (by omega)) c⟩
  | succ m ih =>
    intro A l L x ls hr o10 o11 J hm hv hx hJ hd
    have hD := rq_Dr_lt s A
    have hD6 := rq_64 hD w
    have hA6 := rq_64 hv.1 w
    have hl := hv.2.2.2.2.2.2
    obtain ⟨f1, f2, f3⟩ := hv.fst w
    obtain ⟨s1, s2⟩ := hv.sum w
    have ho1 := hv.2.1
    have hps := rq_le_sum (L := L) (p := rq_p1 A L) (by omega)
    have hsa : rq_sum L * a ≤ rq_sum L * 100 := Nat.mul_le_mul_left _ ha
    have hfst : v_X9_likeliestOf I J 2 (nI A) = nI (rq_p1 A L) := by
      rw [m_likeliest hJ hA6 hv.lt, f1]; rfl
    have cl : (nI (rq_p1 A L)).toNatClampNeg = rq_p1 A L := nI_clamp (by omega)
    have i6 : sx_in (nI (rq_p1 A L)) 6 = true := rq_in6 f2 w
    have ec : lN (rq_sum L) * (nI a).toInt64 ≤ lN (L (rq_p1 A L) * 100) ↔ rq_sum L * a ≤ L (rq_p1 A L) * 100 := by
      rw [nI_l (by omega), lN_mul, pk_lLE (by omega) (by omega)]
    have k177 : ∀ {res : Option sx_V × sx_I × sx_J}, sx_E sc (d + 10) cd_X9_storm 177 [some (.inr (.inr (9, 0))), some (.inl (nI a)), some (.inl x2), some (.inl x3), some (.inl (nI one)), some (.inl (nI A)), some (.inl (nI l)), some (.inl (nI ls)), some (.inl (nI hr)), some (.inl 0), some (.inl (nI (rq_Dr s A))), some (.inl (nI (rq_p1 A L)))] [.inr (.inl (lN (rq_sum L))), .inr (.inl (lN (L (rq_p1 A L) * 100)))] I J res → sx_E sc (d + 10) cd_X9_storm 119 [some (.inr (.inr (9, 0))), some (.inl (nI a)), some (.inl x2), some (.inl x3), some (.inl (nI one)), some (.inl (nI A)), some (.inl (nI l)), some (.inl (nI ls)), some (.inl (nI hr)), some (.inl 0), o10, o11] [] I J res := fun k => by
      refine ee_X9_storm_119 ⟨fun _ => ⟨_, _, _, es_X9_sinksBehind.v (m_sinks hQ), ?_⟩, fun c => absurd rfl c⟩
      rw [hQ 4 (by omega), nI_add]
      refine ee_X9_storm_137 ⟨fun c => absurd c (nI_ge (by omega) (by omega)), fun _ => ⟨_, _, _, (es_X9_drawing (hQ.p6 w)).v (m_drawing hQ w hW.kt hA6), ee_X9_storm_146 ⟨_, _, _, es_X9_likeliestOf.v hfst, ee_X9_storm_157 ⟨i6, _, _, _, es_X9_allOf.w (m_allOf hJ), ?_⟩⟩⟩⟩
      rw [cl, hJ _ (by omega), show (100 : Int64) = lN 100 from rfl, lN_mul]
      exact k
    rw [rq_go]
    by_cases hc : rq_sum L * a ≤ L (rq_p1 A L) * 100 ∨ rq_Dr s A = 0 ∨ l = 4
    · rw [if_pos hc]
      have k195 : ∀ {res : Option sx_V × sx_I × sx_J}, sx_E sc (d + 10) cd_X9_storm 195 [some (.inr (.inr (9, 0))), some (.inl (nI a)), some (.inl x2), some (.inl x3), some (.inl (nI one)), some (.inl (nI A)), some (.inl (nI l)), some (.inl (nI ls)), some (.inl (nI hr)), some (.inl 0), some (.inl (nI (rq_Dr s A))), some (.inl (nI (rq_p1 A L)))] [] I J res → sx_E sc (d + 10) cd_X9_storm 119 [some (.inr (.inr (9, 0))), some (.inl (nI a)), some (.inl x2), some (.inl x3), some (.inl (nI one)), some (.inl (nI A)), some (.inl (nI l)), some (.inl (nI ls)), some (.inl (nI hr)), some (.inl 0), o10, o11] [] I J res := fun k => by
        refine k177 (ee_X9_storm_177 ⟨fun _ => k, fun c1 => ⟨fun _ => k, fun c2 => ⟨fun _ => k, fun c3 => ?_⟩⟩⟩)
        exfalso
        rcases hc with q | q | q
        · exact c1 (ec.mpr q)
        · exact c2 (by rw [q]; rfl)
        · exact c3 (by rw [q]; rfl)
      have eA := rq_and A hA6 (rq_p1 A L) (by omega)
      have sm1 : rq_same I J I (sx_uJ J 17 2 (rq_p1 A L) (0 : Int64)) := .uJ (by unfold rq_scr; omega)
      by_cases ho : rq_p1 A L = one
      · rw [if_pos ho]
        refine ⟨sx_uJ J 17 2 (rq_p1 A L) (0 : Int64), sm1, k195 (ee_X9_storm_195 ⟨fun _ => ee_X9_storm_218 ⟨fun c => absurd c n10, fun _ => ee_X9_storm_232 ⟨i6, ee_X9_storm_243 (ee_X9_storm_271 ⟨fun c => absurd c n10, fun _ => ee_X9_storm_295 (ee_X9_storm_300 (ee_X9_storm_119 ⟨fun c => absurd c n10, fun _ => ?_⟩))⟩)⟩⟩, fun c => absurd (by rw [ho]) c⟩)⟩
        rw [eA, cl, nI_1, Int32.add_zero]
        exact e_308o
      · rw [if_neg ho]
        have hJ1 : rq_Lj (sx_uJ J 17 2 (rq_p1 A L) (0 : Int64)) 2 (rq_thr s L 0 (rq_p1 A L)) := fun p hp => by
          rw [rq_thr0, sx_uJ]
          by_cases q : p = rq_p1 A L
          · rw [if_pos ⟨rfl, rfl, q⟩, if_pos q]; rfl
          · rw [if_neg (fun z => q z.2.2), if_neg q]; exact hJ p hp
        have k271 : ∀ {res : Option sx_V × sx_I × sx_J}, sx_E sc (d + 10) cd_X9_storm 271 [some (.inr (.inr (9, 0))), some (.inl (nI a)), some (.inl x2), some (.inl x3), some (.inl (nI one)), some (.inl (nI (rq_of A (rq_p1 A L)))), some (.inl (nI l)), some (.inl (nI (ls + 1))), some (.inl (nI hr)), some (.inl 0), some (.inl (nI (rq_Dr s A))), some (.inl (nI (rq_p1 A L)))] [] I (sx_uJ J 17 2 (rq_p1 A L) (0 : Int64)) res → sx_E sc (d + 10) cd_X9_storm 119 [some (.inr (.inr (9, 0))), some (.inl (nI a)), some (.inl x2), some (.inl x3), some (.inl (nI one)), some (.inl (nI A)), some (.inl (nI l)), some (.inl (nI ls)), some (.inl (nI hr)), some (.inl 0), o10, o11] [] I J res := fun k => by
          refine k195 (ee_X9_storm_195 ⟨fun c => absurd ((nI_eq (by omega) (by omega)).mp c) ho, fun _ => ee_X9_storm_218 ⟨fun _ => ee_X9_storm_232 ⟨i6, ee_X9_storm_243 ?_⟩, fun c => absurd rfl c⟩⟩)
          rw [eA, cl, nI_1]; exact k
        have hd1 : (sx_uJ J 17 2 (rq_p1 A L) (0 : Int64)) 9 0 25 = lN x := hd
        by_cases ht : rq_sx x % 20 < s 3
        · rw [if_pos ht]
          refine ⟨_, sm1.tr (sx (v := lN (rq_sx x))), k271 (e_271 hQ hW.2.2.2.1 hx hd1 ?_)⟩
          rw [if_pos ht]
          exact ee_X9_storm_119 ⟨fun c => absurd c n10, fun _ => e_308o⟩
        · rw [if_neg ht]
          obtain ⟨J3, t1, t2⟩ := ih (rq_of A (rq_p1 A L)) l (rq_thr s L 0 (rq_p1 A L)) (rq_sx x) (ls + 1) (hr + 1) (some (.inl (nI (rq_Dr s A)))) (some (.inl (nI (rq_p1 A L)))) (sx_uJ (sx_uJ J 17 2 (rq_p1 A L) (0 : Int64)) 9 0 25 (lN (rq_sx x))) (by omega) (hv.thr w f2 ho) (rq_sx_lt x) hJ1.u25 rfl
          refine ⟨J3, (sm1.tr sx).tr t1, k271 (e_271 hQ hW.2.2.2.1 hx hd1 ?_)⟩
          rw [if_neg ht]
          exact t2
    · rw [if_neg hc]
      have hD0 : rq_Dr s A ≠ 0 := fun q => hc (Or.inr (Or.inl q))
      have hl4 : l < 4 := by
        have : ¬ l = 4 := fun q => hc (Or.inr (Or.inr q))
        omega
      have hpc := rq_nz _ hD6 hD0
      have hnl := rq_nm_lt (x := rq_sx x) w hD hpc ho1
      have hJ1 : rq_Lj (j_X9_byLot I (sx_uJ J 9 0 25 (lN (rq_sx x))) 2 2 (nI (rq_Dr s A)) (nI (rq_nm s (rq_Dr s A) one (rq_sx x)))) 2 (rq_lot s (rq_Dr s A) (rq_nm s (rq_Dr s A) one (rq_sx x)) L) := m_byLot hQ w hW.2.1 (fun q hq => hW.kd hq) hD6 (by omega) hJ.u25 hv.2.2.2.2.1
      have hd1 : (j_X9_byLot I (sx_uJ J 9 0 25 (lN (rq_sx x))) 2 2 (nI (rq_Dr s A)) (nI (rq_nm s (rq_Dr s A) one (rq_sx x)))) 9 0 25 = lN (rq_sx x) := m_byLot_ne (by omega)
      have sm1 : rq_same I J I (j_X9_byLot I (sx_uJ J 9 0 25 (lN (rq_sx x))) 2 2 (nI (rq_Dr s A)) (nI (rq_nm s (rq_Dr s A) one (rq_sx x)))) := sx.tr (.byLot (Or.inl rfl))
      generalize eJ : j_X9_byLot I (sx_uJ J 9 0 25 (lN (rq_sx x))) 2 2 (nI (rq_Dr s A)) (nI (rq_nm s (rq_Dr s A) one (rq_sx x))) = Jb at hJ1 hd1 sm1
      have k271 : ∀ {res : Option sx_V × sx_I × sx_J}, sx_E sc (d + 10) cd_X9_storm 271 [some (.inr (.inr (9, 0))), some (.inl (nI a)), some (.inl x2), some (.inl x3), some (.inl (nI one)), some (.inl (nI A)), some (.inl (nI (l + 1))), some (.inl (nI ls)), some (.inl (nI hr)), some (.inl 0), some (.inl (nI (rq_Dr s A))), some (.inl (nI (rq_p1 A L)))] [] I Jb res → sx_E sc (d + 10) cd_X9_storm 119 [some (.inr (.inr (9, 0))), some (.inl (nI a)), some (.inl x2), some (.inl x3), some (.inl (nI one)), some (.inl (nI A)), some (.inl (nI l)), some (.inl (nI ls)), some (.inl (nI hr)), some (.inl 0), o10, o11] [] I J res := fun k => by
        refine k177 (ee_X9_storm_177 ⟨fun c => absurd (ec.mp c) (fun q => hc (Or.inl q)), fun _ => ⟨fun c => absurd ((rq_nI0 (by omega)).mp c) hD0, fun _ => ⟨fun c => absurd ((nI_eq (b := 4) (by omega) (by omega)).mp c) (by omega), fun _ => ⟨_, _, _, e_nameBy hQ w hW.2.1 hD hpc ho1 (hW.kd ho1) hx hd, ee_X9_storm_265 ⟨_, _, es_X9_byLot (hQ.p6 w), ee_X9_storm_268 ?_⟩⟩⟩⟩⟩)
        rw [eJ, nI_1]; exact k
      by_cases ht : rq_sx (rq_sx x) % 20 < s 3
      · rw [if_pos ht]
        refine ⟨_, sm1.tr (sx (v := lN (rq_sx (rq_sx x)))), k271 (e_271 hQ hW.2.2.2.1 (rq_sx_lt x) hd1 ?_)⟩
        rw [if_pos ht]
        exact ee_X9_storm_119 ⟨fun c => absurd c n10, fun _ => e_308o⟩
      · rw [if_neg ht]
        obtain ⟨J3, t1, t2⟩ := ih A (l + 1) (rq_lot s (rq_Dr s A) (rq_nm s (rq_Dr s A) one (rq_sx x)) L) (rq_sx (rq_sx x)) ls (hr + 1) (some (.inl (nI (rq_Dr s A)))) (some (.inl (nI (rq_p1 A L)))) (sx_uJ Jb 9 0 25 (lN (rq_sx (rq_sx x)))) (by omega) (hv.lot (x := rq_sx x) hW.2.1 hpc hl4) (rq_sx_lt _) hJ1.u25 rfl
        refine ⟨J3, (sm1.tr sx).tr t1, k271 (e_271 hQ hW.2.2.2.1 (rq_sx_lt x) hd1 ?_)⟩
        rw [if_neg ht]
        exact t2
end RQSM
