/-! pair: ship -/
def rq_f0 (I : sx_I) (k : Nat) : sx_I := fun x y z => if x = 16 ∧ y = 4 ∧ z < k then 0 else I x y z
def rq_fJ0 (J : sx_J) (s : Nat → Nat) (k : Nat) : sx_J := fun x y z => if x = 17 ∧ y = 0 ∧ z < k then lN (rq_L0 s z) else J x y z
def rq_pS (a b k : Nat) : Prop := rq_cT a b k ∨ rq_nC a b k ∨ rq_nM a b k ∨ (a = 0 ∧ k = 2) ∨ (a = 9 ∧ k = 10)
section RQPS
variable {sc : Nat × (Nat → Int32)} {d : Nat} {I I1 I2 : sx_I} {J J1 J2 : sx_J} {n c : Nat} {t s : Nat → Nat} {x1 : Int32} {res : Option sx_V × sx_I × sx_J}
theorem rq_f0_1 {k : Nat} : sx_uI (rq_f0 I k) 16 4 k 0 = rq_f0 I (k + 1) := by
  funext x y z
  simp only [sx_uI, rq_f0]
  by_cases h1 : x = 16 ∧ y = 4 ∧ z = k
  · rw [if_pos h1, if_pos (by omega)]
  · rw [if_neg h1]
    by_cases h2 : x = 16 ∧ y = 4 ∧ z < k
    · rw [if_pos h2, if_pos (by omega)]
    · rw [if_neg h2, if_neg (by omega)]
theorem rq_fJ0_1 {k : Nat} : sx_uJ (rq_fJ0 J s k) 17 0 k (lN (rq_L0 s k)) = rq_fJ0 J s (k + 1) := by
  funext x y z
  simp only [sx_uJ, rq_fJ0]
  by_cases h1 : x = 17 ∧ y = 0 ∧ z = k
  · rw [if_pos h1, if_pos (by omega), h1.2.2]
  · rw [if_neg h1]
    by_cases h2 : x = 17 ∧ y = 0 ∧ z < k
    · rw [if_pos h2, if_pos (by omega)]
    · rw [if_neg h2, if_neg (by omega)]
theorem lo_s11 (hk : sx_E sc (d + 1) cd_X9_ship 37 [some (.inr (.inr (9, 0))), some (.inl (nI 32))] [] (sx_uI (rq_f0 I 32) 16 4 5 1) J res) : ∀ (m k : Nat), k + m = 32 → sx_E sc (d + 1) cd_X9_ship 11 [some (.inr (.inr (9, 0))), some (.inl (nI k))] [] (rq_f0 I k) J res := by
  intro m
  induction m with
  | zero =>
    intro k h
    obtain rfl : k = 32 := by omega
    exact ee_X9_ship_11 ⟨fun _ => hk, fun z => absurd (by decide) z⟩
  | succ m ih =>
    intro k h
    refine ee_X9_ship_11 ⟨fun z => absurd z (nI_ge (b := 32) (by omega) (by omega)), fun _ => ⟨sx_in_nI (by omega) (by omega), ee_X9_ship_24 ?_⟩⟩
    rw [nI_1, nI_clamp (by omega), rq_f0_1]
    exact ih (k + 1) (by omega)
theorem lo_s152 (hk : sx_E sc (d + 1) cd_X9_ship 178 [some (.inr (.inr (9, 0))), some (.inl (nI 0))] [] (sx_cpA I 3 4 0 0 32) J res) : ∀ (m k : Nat), k + m = 32 → sx_E sc (d + 1) cd_X9_ship 152 [some (.inr (.inr (9, 0))), some (.inl (nI k))] [] (sx_cpA I 3 4 0 0 k) J res := by
  intro m
  induction m with
  | zero =>
    intro k h
    obtain rfl : k = 32 := by omega
    exact ee_X9_ship_152 ⟨fun _ => hk, fun z => absurd (by decide) z⟩
  | succ m ih =>
    intro k h
    have i32 : sx_in (nI k) 32 = true := sx_in_nI (by omega) (by omega)
    refine ee_X9_ship_152 ⟨fun z => absurd z (nI_ge (b := 32) (by omega) (by omega)), fun _ => ⟨i32, i32, ee_X9_ship_170 ?_⟩⟩
    have e := sx_cpA_1 (I := I) (dd := 3) (ss := 4) (od := 0) (os := 0) (k := k) (Or.inl (by decide))
    rw [Nat.zero_add] at e
    rw [nI_1, nI_clamp (by omega), e]
    exact ih (k + 1) (by omega)
theorem lo_s178 (hQ : rq_Qi I s) (hw : rq_tw s) : ∀ (m k : Nat), k + m = 6 → sx_E sc (d + 1) cd_X9_ship 178 [some (.inr (.inr (9, 0))), some (.inl (nI k))] [] I (rq_fJ0 J s k) (some (.inl (nI (s 0))), I, rq_fJ0 J s 6) := by
  have w := hw.1
  have h0 : I 16 3 0 = nI (s 0) := hQ 0 (by omega)
  intro m
  induction m with
  | zero =>
    intro k h
    obtain rfl : k = 6 := by omega
    exact ee_X9_ship_178 ⟨fun _ => by rw [h0], fun z => absurd (by decide) z⟩
  | succ m ih =>
    intro k h
    have i6 : sx_in (nI k) 6 = true := sx_in_nI (by omega) (by omega)
    have k234 : sx_E sc (d + 1) cd_X9_ship 234 [some (.inr (.inr (9, 0))), some (.inl (nI k))] [.inr (.inl (lN (rq_L0 s k))), .inl (nI k), .inr (.inr (17, 0))] I (rq_fJ0 J s k) (some (.inl (nI (s 0))), I, rq_fJ0 J s 6) := by
      refine ee_X9_ship_234 ⟨i6, ee_X9_ship_235 ?_⟩
      rw [nI_clamp (by omega), rq_fJ0_1, nI_1]
      exact ih (k + 1) (by omega)
    refine ee_X9_ship_178 ⟨fun z => absurd z (nI_ge (b := 6) (by omega) (by omega)), fun _ => ⟨fun z => ?_, fun z => ?_⟩⟩
    · rw [h0] at z
      have hk := (nI_ltI (by omega) (by omega)).mp z
      obtain ⟨p1, p2, p3, p4, p5, p6⟩ := hw.2.2.2.2.2.2.2.2.2.1 k hk
      refine ⟨_, _, _, (es_X9_of (m_ofin (w := 0) (by omega) (by omega))).v (m_of0 hQ (by omega)), ee_X9_ship_209 ⟨fun z5 => ⟨_, _, _, (es_X9_of (m_ofin (w := 1) (by omega) (by omega))).v (m_of1 hQ (by omega)), ee_X9_ship_222 ?_⟩, fun z5 => ⟨_, _, _, (es_X9_of (m_ofin (w := 1) (by omega) (by omega))).v (m_of1 hQ (by omega)), ee_X9_ship_233 ?_⟩⟩⟩
      · have e5 : s (8 + 4 * k) = 5 := (nI_eq (b := 5) (by omega) (by omega)).mp z5
        rw [nI_l (by omega), show (2 : Int64) = lN 2 from rfl, lN_mul, show 2 * s (9 + 4 * k) = rq_L0 s k by unfold rq_L0; rw [if_pos hk, if_pos e5]]
        exact k234
      · have e5 : ¬ s (8 + 4 * k) = 5 := fun q => z5 (by rw [q]; rfl)
        rw [nI_l (by omega), show s (9 + 4 * k) = rq_L0 s k by unfold rq_L0; rw [if_pos hk, if_neg e5]]
        exact k234
    · rw [h0] at z
      have hk : ¬ k < s 0 := fun q => z (nI_lt q (by omega))
      rw [show (0 : Int64) = lN (rq_L0 s k) by unfold rq_L0; rw [if_neg hk]; rfl]
      exact k234
theorem rq_rt.fr4 (h : rq_rt I n t c) (ne : ∀ x y z, ¬ (x = 16 ∧ y = 4) → I1 x y z = I x y z) : rq_rt I1 n t c := by
  obtain ⟨u1, u2, u3, u4, u5⟩ := h
  refine ⟨u1.fr (ne 9 0 12 (by omega)) (fun k => ne 16 6 k (by omega)), u2, (ne 9 0 17 (by omega)).trans u3, (ne 9 0 14 (by omega)).trans u4, ?_⟩
  rw [ne 9 0 15 (by omega), ne 9 0 16 (by omega), ne 9 0 13 (by omega)]
  exact u5
/-- the reference reads: as rq_prs says -/
theorem e_readM (hT : rq_t9 I n t) : (∃ e I1, rq_prs n t = .error e ∧ rq_same I J I1 J ∧ sx_E sc (d + 5) cd_X9_ship 0 [some (.inr (.inr (9, 0))), none] [] I J (some (.inl ((Int32.ofInt (-1000100)) - nI e.2)), sx_uI (sx_uI I1 9 0 12 0) 9 0 19 (nI e.1), J)) ∨ (∃ s2 I1, rq_prs n t = .ok s2 ∧ rq_fs I1 s2 ∧ rq_same I J I1 J ∧ ∀ res, sx_E sc (d + 5) cd_X9_ship 134 [some (.inr (.inr (9, 0))), some (.inl (nI 32))] [.inl 0] (sx_uI (sx_uI I1 9 0 12 0) 9 0 19 (I1 9 0 19)) J res → sx_E sc (d + 5) cd_X9_ship 0 [some (.inr (.inr (9, 0))), none] [] I J res) := by
  let Ib : sx_I := sx_uI (sx_uI (sx_uI I 9 0 0 0) 9 0 13 0) 9 0 17 0
  have sb : rq_same I J Ib J := (rq_same.t0.tr (rq_s9' (by omega))).tr (rq_s9' (by omega))
  obtain ⟨I1, a1, a2, a3, a4⟩ := m_next (sc := sc) (d := d + 2) (I := Ib) (J := J) (c := 0) (hT.fr rfl (fun _ => rfl)) rfl (Nat.zero_le _) rfl
  let Ic : sx_I := sx_uI (rq_f0 I1 32) 16 4 5 1
  have nc : ∀ x y z, ¬ (x = 16 ∧ y = 4) → Ic x y z = I1 x y z := fun x y z q => (if_neg (fun v => q ⟨v.1, v.2.1⟩)).trans (if_neg (fun v => q ⟨v.1, v.2.1⟩))
  have sc1 : rq_same I1 J Ic J := ⟨fun x y z q => nc x y z (fun v => q (by unfold rq_scr; omega)), fun _ _ _ _ => rfl⟩
  have hrt : rq_rt Ic n t 0 := a2.fr4 nc
  have hfs : rq_fs Ic rq_s0 := fun k hk => by
    show (if 16 = 16 ∧ 4 = 4 ∧ k = 5 then (1 : Int32) else rq_f0 I1 32 16 4 k) = nI (if k = 5 then 1 else 0)
    by_cases q : k = 5
    · rw [if_pos ⟨rfl, rfl, q⟩, if_pos q]; rfl
    · rw [if_neg (fun v => q v.2.2), if_neg q]
      exact if_pos ⟨rfl, rfl, hk⟩
  have k37 : ∀ {res : Option sx_V × sx_I × sx_J}, sx_E sc (d + 5) cd_X9_ship 37 [some (.inr (.inr (9, 0))), some (.inl (nI 32))] [] Ic J res → sx_E sc (d + 5) cd_X9_ship 0 [some (.inr (.inr (9, 0))), none] [] I J res := fun k => by
    have l := lo_s11 (sc := sc) (d := d + 4) (I := I1) k 32 0 rfl
    rw [show rq_f0 I1 0 = I1 by funext x y z; exact if_neg (by omega)] at l
    exact ee_X9_ship_0 (ee_X9_ship_5 ⟨_, _, ee_X9_beginText_0 (ee_X9_beginText_5 (ee_X9_beginText_10 ⟨_, _, a4, ee_X9_beginText_14 rfl⟩)), ee_X9_ship_9 l⟩)
  have s0 := (sb.tr a1).tr sc1
  rcases m_law (sc := sc) (d := d) (J := J) (x1 := nI 32) hrt hfs with ⟨e, I2, p1, p2, p3, p4⟩ | ⟨a, I2, p1, p2, p3, p4, p5⟩
  · exact Or.inl ⟨e, I2, by unfold rq_prs; rw [p1]; rfl, s0.tr p3, k37 (p4 _ (f_104 p2))⟩
  · have hn := hT.1
    have hlaw := p1
    have htw : rq_tw a.1 ∧ a.1 0 = 0 := by
      simp only [rq_law] at p1
      cases y1 : rq_ex n t 115 0 with
      | error e => rw [y1] at p1; exact nomatch p1
      | ok c1 =>
        cases y2 : rq_nu n t 0 10 c1 with
        | error e => simp only [y1, y2, rq_bd] at p1; exact nomatch p1
        | ok b1 =>
          cases y3 : rq_ex n t 44 b1.2 with
          | error e => simp only [y1, y2, y3, rq_bd] at p1; exact nomatch p1
          | ok c2 =>
            cases y4 : rq_nu n t 1 20 c2 with
            | error e => simp only [y1, y2, y3, y4, rq_bd] at p1; exact nomatch p1
            | ok b2 =>
              cases y5 : rq_ex n t 44 b2.2 with
              | error e => simp only [y1, y2, y3, y4, y5, rq_bd] at p1; exact nomatch p1
              | ok c3 =>
                cases y6 : rq_nu n t 0 19 c3 with
                | error e => simp only [y1, y2, y3, y4, y5, y6, rq_bd] at p1; exact nomatch p1
                | ok b3 =>
                  cases y7 : rq_ex n t 59 b3.2 with
                  | error e => simp only [y1, y2, y3, y4, y5, y6, y7, rq_bd] at p1; exact nomatch p1
                  | ok c4 =>
                    simp only [y1, y2, y3, y4, y5, y6, y7, rq_bd] at p1
                    have ea := (Except.ok.inj p1).symm
                    have b1' := rq_nu_ok y2
                    have b2' := rq_nu_ok y4
                    have b3' := rq_nu_ok y6
                    rw [ea]
                    refine ⟨⟨by show (0 : Nat) ≤ 6; omega, b1'.2.2.1, b2'.2.1, b2'.2.2.1, b3'.2.2.1, rfl, rfl, rfl, rfl, fun p hp => absurd (show p < 0 from hp) (by omega), fun k hk => ?_⟩, rfl⟩
                    have hk8 : 8 ≤ k := hk
                    show rq_up (rq_up (rq_up rq_s0 1 b1.1) 2 b2.1) 3 b3.1 k = 0
                    rw [rq_up_ne (by omega), rq_up_ne (by omega), rq_up_ne (by omega)]
                    exact if_neg (by omega)
    have hso := m_sort (J := J) p2
    by_cases hk : rq_kc n t a.2 = 0
    · rw [if_pos hk] at hso
      obtain ⟨b1, b2, b3⟩ := rq_bad (J := J) p2.2.2.1 p2.2.2.2.1 (x := 1) (f := 1) rfl (by omega)
      refine Or.inl ⟨(1, a.2), i_X9_bad I2 J 1, ?_, (s0.tr p4).tr b1, k37 (p5 _ (ee_X9_ship_104 ⟨_, _, _, es_X9_isSort.v hso, ee_X9_ship_108 ⟨fun _ => ⟨_, _, es_X9_bad, f_116 b2⟩, fun z => absurd rfl z⟩⟩))⟩
      unfold rq_prs
      rw [hlaw]
      show rq_ppl n t 7 a.1 a.2 = _
      rw [rq_ppl]
      unfold rq_per1
      rw [if_pos hk]; rfl
    · rw [if_neg hk] at hso
      have k116 : ∀ {res : Option sx_V × sx_I × sx_J}, sx_E sc (d + 5) cd_X9_ship 116 [some (.inr (.inr (9, 0))), some (.inl (nI 32))] [] I2 J res → sx_E sc (d + 5) cd_X9_ship 0 [some (.inr (.inr (9, 0))), none] [] I J res := fun k => k37 (p5 _ (ee_X9_ship_104 ⟨_, _, _, es_X9_isSort.v hso, ee_X9_ship_108 ⟨fun z => absurd z n10, fun _ => k⟩⟩))
      rcases lo_pplM (sc := sc) (d := d) (J := J) (x1 := nI 32) 7 a.1 a.2 I2 (by rw [htw.2]) p2 p3 htw.1 (rq_kcl p2.1 hk).1 with ⟨e, I3, t1, t2, t3⟩ | ⟨s2, I3, t1, t2, t3, t4⟩
      · exact Or.inl ⟨e, I3, by unfold rq_prs; rw [hlaw]; exact t1, (s0.tr p4).tr t2, k116 t3⟩
      · exact Or.inr ⟨s2, I3, by unfold rq_prs; rw [hlaw]; exact t1, t2, (s0.tr p4).tr t3, fun res k => k116 (t4 res k)⟩
theorem rq_c6T {a b k : Nat} (h : rq_c6 a b k) : rq_cT a b k := Or.inl h
theorem pr_ship (h : rq_Rel I J) : rq_pair sc (d + 20) cd_X8_ship cd_X9_ship [some (.inr (.inr (8, 0))), none] [some (.inr (.inr (9, 0))), none] I J := by
  obtain ⟨⟨n, hn, h1, h2, h3⟩, h4⟩ := h.2.1
  have ht : ∀ k, k < n → I 10 0 k = nI ((fun k => (I 10 0 k).toNatClampNeg) k) ∧ (fun k => (I 10 0 k).toNatClampNeg) k < 256 := fun k hk => by
    obtain ⟨_, c, hc, ec⟩ := h3 k hk
    show I 10 0 k = nI (I 10 0 k).toNatClampNeg ∧ (I 10 0 k).toNatClampNeg < 256
    rw [ec, nI_clamp (by omega)]
    exact ⟨rfl, hc⟩
  generalize (fun k => (I 10 0 k).toNatClampNeg) = t at ht
  have hT : rq_tp I n t := ⟨hn, h1, ht⟩
  have t9 : ∀ {I1 : sx_I} {J1 : sx_J} {P : Nat → Nat → Nat → Prop}, rq_sm P I J I1 J1 → (∀ a b k, (a = 9 ∧ k = 12) ∨ (a = 16 ∧ b = 6) → ¬ P a b k) → rq_t9 I1 n t := fun e hp => ⟨hn, (e.1 9 0 12 ⟨by unfold rq_scr rq_cs; omega, hp 9 0 12 (by omega)⟩).trans h2, fun k hk => ⟨((e.1 16 6 k ⟨by unfold rq_scr rq_cs; omega, hp 16 6 k (by omega)⟩).trans (h3 k hk).1).trans (ht k hk).1, (ht k hk).2⟩⟩
  rcases e_readC (sc := sc) (d := d + 15) (J := J) hT with ⟨e, I2, J2, p1, p2, p3⟩ | ⟨s2, c2, I2, J2, p1, p2, p3, p4, p5⟩
  · -- a fault
    let Ic : sx_I := sx_uI I2 6 0 1 0
    have s1 : rq_sm rq_c6 I J Ic J2 := p2.1.tr (.uI ⟨rfl, Or.inl rfl⟩)
    have t9c := t9 s1 (fun a b k q => by unfold rq_c6; omega)
    rcases e_readM (sc := sc) (d := d + 15) (J := J2) t9c with ⟨e', I3, q1, q2, q3⟩ | ⟨s3, I3, q1, _⟩
    · have ee : e' = e := Except.error.inj (q1.symm.trans p1)
      subst ee
      have sT : rq_sm rq_cT I J (sx_uI (sx_uI I3 9 0 12 0) 9 0 19 (nI e'.1)) J2 := (((s1.mono fun _ _ _ => rq_c6T).tr q2.sm).tr (.uI (Or.inr (Or.inl ⟨rfl, Or.inl rfl⟩)))).tr (.uI (Or.inr (Or.inl ⟨rfl, Or.inr rfl⟩)))
      refine ⟨.inl ((Int32.ofInt (-1000100)) - nI e'.2), _, _, _, _, ee_X8_ship_0 ⟨_, _, _, p3, ee_X8_ship_11 (ee_X8_ship_20 ⟨fun _ => ?_, fun z => absurd rfl z⟩)⟩, q3, h.tape sT ⟨⟨0, by omega, ?_, rfl, fun k hk => by omega⟩, ?_⟩⟩
      · rw [show (sx_uI I2 6 0 1 0) 6 0 2 = nI e'.2 from p2.2.1]
      · exact (q2.1 6 0 1 (by unfold rq_scr rq_cs; omega))
      · exact (q2.1 6 0 3 (by unfold rq_scr rq_cs; omega)).trans p2.2.2
    · exact nomatch (q1.symm.trans p1)
  · -- a ship
    have w := p3.1
    let Ic : sx_I := sx_uI I2 6 0 1 0
    have hR1 : rq_R Ic J2 1 s2 0 0 (rq_A s2) (rq_D s2) 0 (rq_L0 s2) := p2.2.2.2.2.u6'
    let Id : sx_I := i_X5_becomes Ic J2 0 1
    let Jd : sx_J := j_X5_becomes Ic J2 0 1
    let Ie : sx_I := sx_uI Id 0 0 2 0
    have hb : rq_R Id Jd 0 s2 0 0 (rq_A s2) (rq_D s2) 0 (rq_L0 s2) := c_becomes hR1 w
    have est : (0 : Int32) = rq_st s2 := by unfold rq_st; rw [if_neg (by omega), if_neg (by have := p3.2.2.2.2.2.2.1; omega)]
    have hC : rq_C Id Jd 0 s2 (rq_L0 s2) := .of hb p3.2.2.2.2.2.1.symm p3.2.2.2.2.2.2.2.1.symm rfl rfl est
    have hCe : rq_C Ie Jd 0 s2 (rq_L0 s2) := hC.fr (fun a z c => by unfold rq_cs at c; exact if_neg (by omega)) (fun _ _ _ => rfl)
    let P8 : Nat → Nat → Nat → Prop := fun a b k => rq_c6 a b k ∨ rq_nC a b k ∨ (a = 0 ∧ k = 2)
    have s1 : rq_sm P8 I J Ie Jd := (((p2.1.mono fun _ _ _ z => Or.inl z).tr (.uI (Or.inl ⟨rfl, Or.inl rfl⟩))).tr ⟨fun x y z c => by
        have c2 := c.2
        show i_X5_becomes Ic J2 0 1 x y z = Ic x y z
        refine if_neg (fun q => c2 (Or.inr (Or.inl ?_)))
        unfold rq_nC rq_cs; omega, fun x y z c => by
        have c2 := c.2
        show j_X5_becomes Ic J2 0 1 x y z = J2 x y z
        refine if_neg (fun q => c2 (Or.inr (Or.inl ?_)))
        unfold rq_nC rq_cs; omega⟩).tr (.uI (Or.inr (Or.inr ⟨rfl, rfl⟩)))
    have t9e := t9 s1 (fun a b k q => by
      show ¬ (rq_c6 a b k ∨ rq_nC a b k ∨ (a = 0 ∧ k = 2))
      unfold rq_c6 rq_nC rq_cs; omega)
    have e8 : sx_E sc (d + 20) cd_X8_ship 0 [some (.inr (.inr (8, 0))), none] [] I J (some (.inl (nI (s2 0))), Ie, Jd) := by
      refine ee_X8_ship_0 ⟨_, _, _, p5, ee_X8_ship_11 (ee_X8_ship_20 ⟨fun z => absurd z n10, fun _ => ⟨_, _, es_X5_becomes (by omega) (Or.inl hR1.2.2.2.2.2.2.2.2.2.1), ee_X8_ship_46 ⟨_, _, es_X0_forget, ee_X8_ship_53 ?_⟩⟩⟩)⟩
      rw [show i_X0_forget (i_X5_becomes (sx_uI I2 6 0 1 0) J2 0 1) (j_X5_becomes (sx_uI I2 6 0 1 0) J2 0 1) 5 0 0 = nI (s2 0) from hCe.1]
      rfl
    rcases e_readM (sc := sc) (d := d + 15) (J := Jd) t9e with ⟨e', I3, q1, _⟩ | ⟨s3, I3, q1, q2, q3, q4⟩
    · exact nomatch (q1.symm.trans p1)
    · have ee : s3 = s2 := Except.ok.inj (q1.symm.trans p1)
      subst ee
      let Ig : sx_I := sx_uI (sx_uI (sx_uI I3 9 0 12 0) 9 0 19 (I3 9 0 19)) 9 0 10 0
      let Ih : sx_I := sx_cpA Ig 3 4 0 0 32
      have hQi : rq_Qi Ih s3 := fun k hk => by
        show (if 16 = 16 ∧ 3 = 3 ∧ 0 ≤ k ∧ k < 0 + 32 then Ig 16 4 (0 + (k - 0)) else Ig 16 3 k) = nI (s3 k)
        rw [if_pos (by omega), show 0 + (k - 0) = k by omega]
        exact q2 k hk
      have l1 := lo_s178 (sc := sc) (d := d + 19) (I := Ih) (J := Jd) hQi p3 6 0 rfl
      rw [show rq_fJ0 Jd s3 0 = Jd by funext x y z; exact if_neg (by omega)] at l1
      have l2 := lo_s152 (sc := sc) (d := d + 19) (I := Ig) (J := Jd) l1 32 0 rfl
      rw [sx_cpA_0] at l2
      have e9 : sx_E sc (d + 20) cd_X9_ship 0 [some (.inr (.inr (9, 0))), none] [] Ie Jd (some (.inl (nI (s3 0))), Ih, rq_fJ0 Jd s3 6) := q4 _ (ee_X9_ship_134 ⟨fun _ => ee_X9_ship_150 l2, fun z => absurd rfl z⟩)
      have s9 : rq_sm rq_pS Ie Jd Ih (rq_fJ0 Jd s3 6) := (((q3.sm.tr (.uI (Or.inl (Or.inr (Or.inl ⟨rfl, Or.inl rfl⟩))))).tr (.uI (Or.inl (Or.inr (Or.inl ⟨rfl, Or.inr rfl⟩))))).tr (.uI (Or.inr (Or.inr (Or.inr (Or.inr ⟨rfl, rfl⟩)))))).tr ((rq_sm.cpA (fun z => Or.inr (Or.inr (Or.inl (Or.inl ⟨rfl, rfl⟩))))).tr ⟨fun _ _ _ _ => rfl, fun x y z c => if_neg (fun q => c.2 (Or.inr (Or.inr (Or.inl (Or.inr ⟨q.1, q.2.1⟩)))))⟩)
      have s8 : rq_sm rq_pS I J Ie Jd := s1.mono fun a b k z => by
        rcases z with z | z | z
        · exact Or.inl (rq_c6T z)
        · exact Or.inr (Or.inl z)
        · exact Or.inr (Or.inr (Or.inr (Or.inl z)))
      have sA := s8.tr s9
      have hN : rq_now Ih (rq_fJ0 Jd s3 6) := by
        refine ⟨s3, rq_L0 s3, hCe.fr (fun a k c => ?_) (fun a k c => ?_), ⟨fun k hk => ?_, fun k hk => ?_⟩, p3.W, p3.V⟩
        · have c' : rq_cs a := c
          refine ((if_neg (fun q => by unfold rq_cs at c'; omega)).trans ?_ : Ih a 0 k = Ie a 0 k)
          refine ((if_neg (fun q => by unfold rq_cs at c'; omega)).trans ((if_neg (fun q => by unfold rq_cs at c'; omega)).trans ((if_neg (fun q => by unfold rq_cs at c'; omega)).trans ?_)) : Ig a 0 k = Ie a 0 k)
          exact q3.1 a 0 k (rq_nN (Or.inl ⟨c', rfl⟩))
        · have c' : rq_cs a := c
          exact if_neg (fun q => by unfold rq_cs at c'; omega)
        · rw [Nat.zero_add]; exact hQi k hk
        · rw [Nat.zero_add]; exact if_pos ⟨rfl, rfl, hk⟩
      obtain ⟨ra, rq, rf, ha, hq, g1, g2, g3⟩ := h.2.2.2.2.2.2.op
      have hG : rq_ring Ih (rq_fJ0 Jd s3 6) := ⟨0, rq, by omega, hq, (sA.1 0 0 1 ⟨by unfold rq_scr rq_cs; omega, by unfold rq_pS rq_cT rq_nC rq_nM rq_cs; omega⟩).trans g1.1, q3.1 0 0 2 (by unfold rq_scr rq_cs; omega), rfl, fun i hi => by omega⟩
      have hTp : rq_tape Ih := ⟨⟨0, by omega, q3.1 6 0 1 (by unfold rq_scr rq_cs; omega), rfl, fun k hk => by omega⟩, ?_⟩
      · refine ⟨.inl (nI (s3 0)), _, _, _, _, e8, e9, h.but sA (Or.inl fun a b k => ?_) (Or.inr hTp) (Or.inl fun a b k => ?_) (Or.inl fun a b k => ?_) (Or.inr hN) (Or.inl fun a b k => ?_) (Or.inr hG)⟩
        · unfold rq_cR rq_pS rq_cT rq_nC rq_nM rq_cs; omega
        · unfold rq_cA rq_pS rq_cT rq_nC rq_nM rq_cs; omega
        · unfold rq_cF rq_pS rq_cT rq_nC rq_nM rq_cs; omega
        · unfold rq_cI rq_pS rq_cT rq_nC rq_nM rq_cs; omega
      · have e1 : Ih 6 0 3 = I 6 0 3 := (q3.1 6 0 3 (by unfold rq_scr rq_cs; omega)).trans p2.2.2.2.1
        have e2 : Ih 9 0 19 = I 9 0 19 := (q3.1 9 0 19 (by unfold rq_scr rq_cs; omega)).trans (s1.1 9 0 19 ⟨by unfold rq_scr rq_cs; omega, by show ¬ (rq_c6 9 0 19 ∨ rq_nC 9 0 19 ∨ ((9 : Nat) = 0 ∧ (19 : Nat) = 2)); unfold rq_c6 rq_nC rq_cs; omega⟩)
        rw [e1, e2]; exact h4
end RQPS
