/-! pair: saved, the call -/
def rq_av (y : Int32) (b : Nat) (x : Nat × Nat) : Int64 := if y = 2 then (nI x.1).toInt64 else rq_fr x.2 b y
theorem rq_av_x {y : Int32} {b c : Nat} {x : Nat × Nat} (hc : 0 < c) : rq_av y (c * b) (rq_x c x) = rq_av y b x := by
  unfold rq_av rq_x
  split
  · rfl
  · exact rq_fr_mul hc y
section RQSX
variable {sc : Nat × (Nat → Int32)} {d : Nat} {I I1 I2 : sx_I} {J J1 J2 : sx_J} {s L : Nat → Nat} {b : Nat} {x : Nat × Nat} {x1 y : Int32}
theorem t_saved8 (hp : rq_p2 I J b x) (hx : x.2 < 2 ^ 63) (hb : b < 2 ^ 63) (h0 : 0 < b) : sx_E sc (d + 20) cd_X8_saved 99 [some (.inr (.inr (8, 0))), some (.inl x1), some (.inl y)] [] I J (some (.inr (.inl (rq_av y b x))), I, J) :=
  ee_X8_saved_99 ⟨fun c => ee_X8_saved_133 (by rw [hp.1, rq_av, if_pos c]), fun c => ⟨rq_fr x.2 b y, I, J, by rw [hp.2.1, hp.2.2]; exact e_lowest hx hb h0, ee_X8_saved_133 (by rw [rq_av, if_neg c])⟩⟩
theorem t_saved9 (hp : rq_p9 I J b x) (hx : x.2 < 2 ^ 63) (hb : b < 2 ^ 63) (h0 : 0 < b) : sx_E sc (d + 20) cd_X9_saved 82 [some (.inr (.inr (9, 0))), some (.inl x1), some (.inl y)] [] I J (some (.inr (.inl (rq_av y b x))), I, J) :=
  ee_X9_saved_82 ⟨fun c => ee_X9_saved_107 (by rw [hp.1, rq_av, if_pos c]), fun c => ⟨rq_fr x.2 b y, I, J, by rw [hp.2.1, hp.2.2]; exact e_part hx hb h0, ee_X9_saved_107 (by rw [rq_av, if_neg c])⟩⟩
theorem rq_1h_lt (hW : rq_W s) (hs : rq_sum L ≤ 1399680000) : (rq_1h s L).2 < 2 ^ 63 := by
  have w := hW.1
  have b2 := rq_lh_le (a := rq_sum L) (v := 0) hW.2.2.2.1 (Nat.le_refl _) (Nat.zero_le _)
  refine rq_wf_lt (fun p hp => ?_) (s 0) 0 _ (by omega) (by show rq_lh s (rq_sum L) 0 < 2 ^ 63; omega)
  have b3 := rq_lh_le (a := rq_sum L) (v := L p) hW.2.2.2.1 (Nat.le_refl _) (rq_le_sum hp)
  unfold rq_f1; omega
theorem rq_2h_lt {c : Nat} (hW : rq_W s) (hs : rq_sum L ≤ 1399680000) (hc : c ≤ 60) : (rq_2h s L c).2 < 2 ^ 63 := by
  have w := hW.1
  have b0 := rq_v0_le hW hs
  have b1 := rq_ab_le hW hs
  have b2 : c * rq_v0 s L ≤ 60 * rq_v0 s L := Nat.mul_le_mul_right _ hc
  have hx0 : (0, c * rq_v0 s L).2 < 2 ^ 63 := by show c * rq_v0 s L < 2 ^ 63; omega
  refine rq_wf_lt (fun p hp => ?_) (s 0) 0 _ (by omega) ?_
  · have b3 := rq_f2_le hW hs hp
    have b4 : c * rq_f2 s L p ≤ 60 * rq_f2 s L p := Nat.mul_le_mul_right _ hc
    omega
  · split
    · exact rq_w_lt (by omega) hx0
    · exact hx0
theorem pr_saved (h : rq_Rel I J) {x y : Int32} : rq_pair sc (d + 20) cd_X8_saved cd_X9_saved [some (.inr (.inr (8, 0))), some (.inl x), some (.inl y)] [some (.inr (.inr (9, 0))), some (.inl x), some (.inl y)] I J := by
  obtain ⟨s, L, hC, hQ, hW, hV⟩ := h.2.2.2.2.1
  have w := hW.1
  have hq0 := hQ.qi.t0 (v := 0)
  have hsh := c_isShip hC w
  by_cases h0 : s 0 = 0
  · rw [if_pos h0] at hsh
    exact .rd h (v := .inr (.inl (Int64.ofInt (-1000002)))) (ee_X8_saved_0 ⟨_, _, _, es_X5_isShip.v hsh, ee_X8_saved_7 ⟨fun _ => rfl, fun c => absurd rfl c⟩⟩) .rf (ee_X9_saved_0 (ee_X9_saved_5 ⟨_, _, _, es_X9_isThere.v ((m_isThere hq0 w).trans (if_pos h0)), ee_X9_saved_9 ⟨fun _ => rfl, fun c => absurd rfl c⟩⟩)) .t0 rfl
  · rw [if_neg h0] at hsh
    have k8 : ∀ {res : Option sx_V × sx_I × sx_J} {w : Int32}, v_X8_isOutside I J x 1 2 = w → sx_E sc (d + 20) cd_X8_saved 20 [some (.inr (.inr (8, 0))), some (.inl x), some (.inl y)] [.inl w] I J res → sx_E sc (d + 20) cd_X8_saved 0 [some (.inr (.inr (8, 0))), some (.inl x), some (.inl y)] [] I J res := fun e k => ee_X8_saved_0 ⟨_, _, _, es_X5_isShip.v hsh, ee_X8_saved_7 ⟨fun c => absurd c n10, fun _ => ⟨_, _, _, es_X8_isOutside.v e, k⟩⟩⟩
    have k9 : ∀ {I : sx_I} {J : sx_J} {res : Option sx_V × sx_I × sx_J} {z : Int32}, rq_Qi (sx_uI I 9 0 0 0) s → v_X9_in (sx_uI I 9 0 0 0) J x.toInt64 1 2 = z → sx_E sc (d + 20) cd_X9_saved 25 [some (.inr (.inr (9, 0))), some (.inl x), some (.inl y)] [.inl z] (sx_uI I 9 0 0 0) J res → sx_E sc (d + 20) cd_X9_saved 0 [some (.inr (.inr (9, 0))), some (.inl x), some (.inl y)] [] I J res := fun hq e k => ee_X9_saved_0 (ee_X9_saved_5 ⟨_, _, _, es_X9_isThere.v ((m_isThere hq w).trans (if_neg h0)), ee_X9_saved_9 ⟨fun c => absurd c n10, fun _ => ⟨_, _, _, es_X9_in.v e, k⟩⟩⟩)
    rcases m_inC (I := sx_uI I 9 0 0 0) (J := J) I J (x := x) (a := 1) (b := 2) (y := 1) (z := 2) (by decide) (by decide) with ⟨i1, i2, _, _⟩ | ⟨i1, i2⟩
    · rcases m_inC (I := sx_uI I 9 0 0 0) (J := J) I J (x := y) (a := 0) (b := 2) (y := 0) (z := 2) (by decide) (by decide) with ⟨j1, j2, _, _⟩ | ⟨j1, j2⟩
      · have hst := c_inStorm hC hW
        by_cases h5 : s 5 = 1
        · rw [if_pos ⟨by omega, h5⟩] at hst
          have hs := hV.sm5 hW (by omega)
          have hs0 := hV.2.2.1 (by omega)
          have hb1 : 20 * rq_sum L < 2 ^ 63 := by omega
          have e4 : I 5 0 4 = nI (s 4) := hC.2.2.2.2.1
          have w2 := hW.2.2.1
          have w7 := hW.2.2.2.2.2.1
          have w4 := hW.2.2.2.2.2.2.1
          have c8 : ∀ {res : Option sx_V × sx_I × sx_J}, sx_E sc (d + 20) cd_X8_saved 43 [some (.inr (.inr (8, 0))), some (.inl x), some (.inl y)] [.inl (1 : Int32)] I J res → sx_E sc (d + 20) cd_X8_saved 0 [some (.inr (.inr (8, 0))), some (.inl x), some (.inl y)] [] I J res := fun k => k8 i2 (ee_X8_saved_20 ⟨fun _ => ⟨_, _, _, es_X8_isOutside.v j2, ee_X8_saved_29 ⟨fun _ => ⟨_, _, _, es_X5_isInStorm.v hst, k⟩, fun c => absurd rfl c⟩⟩, fun c => absurd rfl c⟩)
          have c9 : ∀ {I : sx_I} {J : sx_J} {res : Option sx_V × sx_I × sx_J}, rq_Qi (sx_uI I 9 0 0 0) s → sx_E sc (d + 20) cd_X9_saved 71 [some (.inr (.inr (9, 0))), some (.inl x), some (.inl y)] [.inl (nI (s 2 + s 7)), .inl (nI (s 4 + 1)), .inr (.inr (9, 0))] (sx_uI I 9 0 0 0) J res → sx_E sc (d + 20) cd_X9_saved 0 [some (.inr (.inr (9, 0))), some (.inl x), some (.inl y)] [] I J res := fun hq k => k9 hq i1 (ee_X9_saved_25 ⟨fun c => absurd c n10, fun _ => ⟨_, _, _, es_X9_in.v j1, ee_X9_saved_37 ⟨fun c => absurd c n10, fun _ => ⟨fun _ => ⟨_, _, _, es_X9_sinksBehind.v (m_sinks hq), by rw [hq 4 (by omega), nI_1]; exact k⟩, fun c => absurd (by rw [hq 5 (by omega), h5]; rfl) c⟩⟩⟩⟩)
          by_cases ho : x = 1 ∨ ¬ s 4 + 1 < s 2 + s 7
          · obtain ⟨I1, J1, h1, h2, h3⟩ := e_plan1 (sc := sc) (d := d + 9) hW hV (by omega) hC
            have k74 := ee_X8_saved_74 (x1 := x) (x2 := y) ⟨_, _, h3, ee_X8_saved_85 (t_saved8 (sc := sc) (d := d) h2 (rq_1h_lt hW hs) hb1 (by omega))⟩
            refine .two h (v := .inr (.inl (rq_av y (20 * rq_sum L) (rq_1h s L)))) ⟨I1, J1, h1, c8 (ee_X8_saved_43 ⟨fun c => absurd c n10, fun _ => ⟨fun _ => k74, fun c => ⟨_, _, _, es_X5_lastHour.v (c_lastHour hC), ?_⟩⟩⟩)⟩ (fun I1 J1 em => ?_)
            · refine ee_X8_saved_71 ⟨fun c2 => absurd c2 ?_, fun _ => k74⟩
              rw [e4, nI_1]
              exact nI_nlt (Nat.le_of_not_lt (ho.resolve_left c)) (by omega)
            · have hq := (hQ.qi.sm em).t0 (v := 0)
              have hl := hQ.lj.sm em
              obtain ⟨I2, J2, g1, g2, g3⟩ := e_ls1 (sc := sc) (d := d + 5) hW hV (by omega) hq hl
              have k79 := ee_X9_saved_79 (x1 := x) (x2 := y) ⟨_, _, g3, t_saved9 (sc := sc) (d := d) g2 (rq_1h_lt hW hs) hb1 (by omega)⟩
              refine ⟨I2, J2, rq_same.t0.tr g1, c9 hq (ee_X9_saved_71 ⟨fun c => ?_, fun _ => k79⟩)⟩
              have ex : x = 1 := ho.resolve_right (fun q => q ((nI_ltI (by omega) (by omega)).mp c))
              subst ex
              exact k79
          · have hx1 : ¬ x = 1 := fun q => ho (Or.inl q)
            have hlt : s 4 + 1 < s 2 + s 7 := Decidable.byContradiction (fun q => ho (Or.inr q))
            have hD := rq_64 (rq_D_lt s) w
            have hpc := rq_pc_le (rq_D s)
            have hsc : rq_sc s ≤ 60 := by unfold rq_sc; split <;> omega
            have hmm : 10 * rq_mm s ≤ 60 := by unfold rq_mm; split <;> omega
            obtain ⟨c, hc, e2, e3⟩ := rq_2h_sc (s := s) (L := L) w
            have hpo : 0 < rq_mm s := by
              unfold rq_mm; split
              · omega
              · exact rq_nz _ hD (by assumption)
            have hps : 0 < rq_sc s := by
              unfold rq_sc; split
              · rename_i q; have := rq_nz _ hD q.1; omega
              · omega
            have f1 : 400 * rq_sum L * rq_sc s ≤ 400 * rq_sum L * 60 := Nat.mul_le_mul_left _ hsc
            have f2 : 0 < 400 * rq_sum L * rq_sc s := Nat.mul_pos (by omega) hps
            have f3 : 4000 * rq_mm s * rq_sum L ≤ 24000 * rq_sum L := Nat.mul_le_mul_right _ (by omega)
            have f4 : 0 < 4000 * rq_mm s * rq_sum L := Nat.mul_pos (by omega) hs0
            obtain ⟨I1, J1, h1, h2, h3⟩ := e_plan2 (sc := sc) (d := d + 5) hW hV (by omega) hC
            refine .two h (v := .inr (.inl (rq_av y (400 * rq_sum L * rq_sc s) (rq_2h s L (rq_sc s))))) ⟨I1, J1, h1, c8 (ee_X8_saved_43 ⟨fun c => absurd c n10, fun _ => ⟨fun c => absurd c hx1, fun _ => ⟨_, _, _, es_X5_lastHour.v (c_lastHour hC), ee_X8_saved_71 ⟨fun _ => ⟨_, _, h3, t_saved8 h2 (rq_2h_lt hW hs hsc) (by omega) f2⟩, fun c2 => absurd (by rw [e4, nI_1]; exact nI_lt hlt (by omega)) c2⟩⟩⟩⟩)⟩ (fun I1 J1 em => ?_)
            have hq := (hQ.qi.sm em).t0 (v := 0)
            have hl := hQ.lj.sm em
            obtain ⟨I2, J2, g1, g2, g3⟩ := e_ls2 (sc := sc) (d := d + 5) hW hV (by omega) hq hl hx1
            refine ⟨I2, J2, rq_same.t0.tr g1, c9 hq (ee_X9_saved_71 ⟨fun _ => ee_X9_saved_79 ⟨_, _, g3, ?_⟩, fun c => absurd (nI_lt hlt (by omega)) c⟩)⟩
            have t := t_saved9 (sc := sc) (d := d) (x1 := x) (y := y) g2 (rq_2h_lt hW hs hmm) (by omega) f4
            rw [e2, e3, rq_av_x hc] at t
            exact t
        · rw [if_neg (fun q => h5 q.2)] at hst
          exact .rd h (v := .inr (.inl (Int64.ofInt (-1000002)))) (k8 i2 (ee_X8_saved_20 ⟨fun _ => ⟨_, _, _, es_X8_isOutside.v j2, ee_X8_saved_29 ⟨fun _ => ⟨_, _, _, es_X5_isInStorm.v hst, ee_X8_saved_43 ⟨fun _ => rfl, fun c => absurd rfl c⟩⟩, fun c => absurd rfl c⟩⟩, fun c => absurd rfl c⟩)) .rf (k9 hq0 i1 (ee_X9_saved_25 ⟨fun c => absurd c n10, fun _ => ⟨_, _, _, es_X9_in.v j1, ee_X9_saved_37 ⟨fun c => absurd c n10, fun _ => ⟨fun c => absurd c (by rw [hq0 5 (by omega)]; exact fun q => h5 ((nI_eq (b := 1) (by have := hW.2.2.2.2.2.2.2.1; omega) (by omega)).mp q)), fun _ => rfl⟩⟩⟩⟩)) .t0 rfl
      · exact .rd h (v := .inr (.inl (Int64.ofInt (-1000001)))) (k8 i2 (ee_X8_saved_20 ⟨fun _ => ⟨_, _, _, es_X8_isOutside.v j2, ee_X8_saved_29 ⟨fun c => absurd c n10, fun _ => rfl⟩⟩, fun c => absurd rfl c⟩)) .rf (k9 hq0 i1 (ee_X9_saved_25 ⟨fun c => absurd c n10, fun _ => ⟨_, _, _, es_X9_in.v j1, ee_X9_saved_37 ⟨fun _ => rfl, fun c => absurd rfl c⟩⟩⟩)) .t0 rfl
    · exact .rd h (v := .inr (.inl (Int64.ofInt (-1000001)))) (k8 i2 (ee_X8_saved_20 ⟨fun c => absurd c n10, fun _ => rfl⟩)) .rf (k9 hq0 i1 (ee_X9_saved_25 ⟨fun _ => rfl, fun c => absurd rfl c⟩)) .t0 rfl
end RQSX
