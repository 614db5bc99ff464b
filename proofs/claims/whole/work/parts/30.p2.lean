/-! pairs: belief, named, price, as, count; what several others need -/
section RQK
variable {sc : Nat × (Nat → Int32)} {d d1 : Nat} {cd : sx_C} {pc : Nat} {lv : sx_L} {stk : List sx_V} {I I1 I2 : sx_I} {J J1 J2 : sx_J} {s L : Nat → Nat} {h l A D r r0 r1 : Nat} {st : Int32}
theorem sx_E.v {v w : Int32} (h : sx_E sc d cd pc lv stk I J (some (.inl v), I1, J1)) (e : v = w) : sx_E sc d cd pc lv stk I J (some (.inl w), I1, J1) := e ▸ h
theorem sx_E.w {v w : Int64} (h : sx_E sc d cd pc lv stk I J (some (.inr (.inl v)), I1, J1)) (e : v = w) : sx_E sc d cd pc lv stk I J (some (.inr (.inl w)), I1, J1) := e ▸ h
theorem n10 : ¬ (1 : Int32) = 0 := by decide
theorem nn1 : ¬ nI 1 = 0 := by decide
def rq_fr (a b : Nat) (x : Int32) : Int64 := if x = 0 then lN (a / Nat.gcd a b) else lN (b / Nat.gcd a b)
theorem rq_gcb {a b : Nat} (hb : b < 2 ^ 63) (h0 : 0 < b) : Nat.gcd a b < 2 ^ 63 := Nat.lt_of_le_of_lt (Nat.le_of_dvd h0 (Nat.gcd_dvd_right a b)) hb
theorem rq_gc {a b : Nat} (ha : a < 2 ^ 63) (hb : b < 2 ^ 63) (h0 : 0 < b) : sx_gc (lN a) (lN b) := ⟨a, b, ha, hb, rfl, rfl, Nat.gcd_pos_of_pos_right _ h0⟩
theorem rq_fr_0 {b : Nat} (h0 : 0 < b) (x : Int32) : rq_fr 0 b x = if x = 0 then 0 else 1 := by
  rw [rq_fr, Nat.gcd_zero_left, Nat.zero_div, Nat.div_self h0]; rfl
theorem rq_fr_mul {a b c : Nat} (h0 : 0 < c) (x : Int32) : rq_fr (c * a) (c * b) x = rq_fr a b x := by
  rw [rq_fr, rq_fr, Nat.gcd_mul_left, Nat.mul_div_mul_left _ _ h0, Nat.mul_div_mul_left _ _ h0]
theorem e_part {a b : Nat} {x : Int32} (ha : a < 2 ^ 63) (hb : b < 2 ^ 63) (h0 : 0 < b) : sx_E sc d cd_X9_part 0 [some (.inr (.inl (lN a))), none, some (.inr (.inl (lN b))), none, some (.inl x), none, none, none, none, none, none] [] I J (some (.inr (.inl (rq_fr a b x))), I, J) := by
  refine (es_X9_part (rq_gc ha hb h0)).w ?_
  have hg := Nat.gcd_pos_of_pos_right a h0
  rw [v_X9_part, pk_lT ha, pk_lT hb, Int.toNat_natCast, Int.toNat_natCast, rq_fr]
  split
  · rw [pk_lDiv ha hg (rq_gcb hb h0)]
  · rw [pk_lDiv hb hg (rq_gcb hb h0)]
theorem e_lowest {a b : Nat} {x : Int32} (ha : a < 2 ^ 63) (hb : b < 2 ^ 63) (h0 : 0 < b) : sx_E sc (d + 1) cd_X8_lowest 0 [some (.inr (.inl (lN a))), none, some (.inr (.inl (lN b))), none, some (.inl x), none, none] [] I J (some (.inr (.inl (rq_fr a b x))), I, J) := by
  have hg := Nat.gcd_pos_of_pos_right a h0
  have hgb := rq_gcb (a := a) hb h0
  have ecp : v_X8_commonPart I J (lN a) (lN b) = lN (Nat.gcd a b) := by rw [v_X8_commonPart, pk_lT ha, pk_lT hb, Int.toNat_natCast, Int.toNat_natCast]
  have e0 : (0 : Int64) = lN 0 := rfl
  have ene : ¬ lN (Nat.gcd a b) = 0 := fun q => absurd ((sx_lN0 hgb).mp q) (by omega)
  refine (es_X8_lowest (fun _ _ => rq_gc ha hb h0) (fun _ _ _ _ => by rw [ecp]; exact ene) (fun _ _ _ _ => by rw [ecp]; exact ene)).w ?_
  rw [v_X8_lowest, ecp]
  by_cases ha0 : a = 0
  · subst ha0
    rw [if_pos (show lN 0 ≤ (0 : Int64) by decide), rq_fr_0 h0]
  · rw [if_neg (fun q => absurd ((pk_lLE ha (b := 0) (by omega)).mp q) (by omega) : ¬ lN a ≤ (0 : Int64)), if_pos (show (0 : Int64) < lN b from (pk_lLT (a := 0) (by omega) hb).mpr h0), if_pos (show (0 : Int64) < lN (Nat.gcd a b) from (pk_lLT (a := 0) (by omega) hgb).mpr hg), rq_fr, pk_lDiv ha hg hgb, pk_lDiv hb hg hgb]
theorem c_becomes (hR : rq_R I J r1 s h l A D st L) (hn : s 0 ≤ 6) : rq_R (i_X5_becomes I J r0 r1) (j_X5_becomes I J r0 r1) r0 s h l A D st L := by
  have e5 : ∀ z, z < 10 → i_X5_becomes I J r0 r1 5 r0 z = I 5 r1 z := fun z hz => if_pos ⟨rfl, Or.inl ⟨rfl, hz⟩⟩
  have e20 : ∀ z, z < 6 → i_X5_becomes I J r0 r1 20 r0 z = I 20 r1 z := fun z hz => if_pos ⟨rfl, Or.inr (Or.inl ⟨rfl, hz⟩)⟩
  have e21 : ∀ z, z < 6 → i_X5_becomes I J r0 r1 21 r0 z = I 21 r1 z := fun z hz => if_pos ⟨rfl, Or.inr (Or.inr ⟨rfl, hz⟩)⟩
  have e11 : ∀ z, z < 6 → j_X5_becomes I J r0 r1 11 r0 z = J 11 r1 z := fun z hz => if_pos ⟨rfl, rfl, hz⟩
  rw [rq_R, e5 0 (by omega), e5 1 (by omega), e5 2 (by omega), e5 3 (by omega), e5 4 (by omega), e5 5 (by omega), e5 6 (by omega), e5 7 (by omega), e5 8 (by omega), e5 9 (by omega)]
  refine ⟨hR.1, hR.2.1, hR.2.2.1, hR.2.2.2.1, hR.2.2.2.2.1, hR.2.2.2.2.2.1, hR.2.2.2.2.2.2.1, hR.2.2.2.2.2.2.2.1, hR.2.2.2.2.2.2.2.2.1, hR.2.2.2.2.2.2.2.2.2.1, fun p hp => ?_⟩
  rw [e20 p (by omega), e21 p (by omega), e11 p (by omega)]
  exact hR.2.2.2.2.2.2.2.2.2.2 p hp
theorem c_learnLot (hR : rq_R I J r s h l A D st L) (hn : s 0 ≤ 6) (hD : D < 2 ^ s 0) (h1 : s 1 ≤ 10) (hK : ∀ p, p < s 0 → s (8 + 4 * p) ≤ 5) {nm : Nat} (hnm : nm < 6) : rq_R I (j_X5_learnLot I J r (nI nm)) r s h l A D st (rq_lot s D nm L) := by
  refine ⟨hR.1, hR.2.1, hR.2.2.1, hR.2.2.2.1, hR.2.2.2.2.1, hR.2.2.2.2.2.1, hR.2.2.2.2.2.2.1, hR.2.2.2.2.2.2.2.1, hR.2.2.2.2.2.2.2.2.1, hR.2.2.2.2.2.2.2.2.2.1, fun p hp => ?_⟩
  obtain ⟨k1, k2, k3⟩ := hR.2.2.2.2.2.2.2.2.2.2 p hp
  refine ⟨k1, k2, ?_⟩
  rw [j_X5_learnLot, if_pos ⟨rfl, rfl, by rw [hR.1, nI_clamp (by omega)]; exact hp⟩, k3, c_lotFactor hR hn hD h1 hp hnm (hK p hp), lN_mul]; rfl
theorem c_takeLot (hR : rq_R I J r s h l A D st L) (hn : s 0 ≤ 6) (hA : A < 2 ^ s 0) (hD : D < 64) {p : Nat} (hp : p < s 0) (hb : rq_b A p = 1) : rq_R (i_X5_takeLot I J r (nI p)) J r s h l A (rq_on D p) st L := by
  rw [i_X5_takeLot, c_isAboard hR hn hA (by omega), hb, if_neg nn1, hR.2.2.2.2.2.2.2.2.1, rq_or D hD p (by omega)]
  have e : ∀ a z, ¬ (a = 5 ∧ z = 8) → sx_uI I 5 r 8 (nI (rq_on D p)) a r z = I a r z := fun a z hz => if_neg (fun q => hz ⟨q.1, q.2.2⟩)
  rw [rq_R, e 5 0 (by omega), e 5 1 (by omega), e 5 2 (by omega), e 5 3 (by omega), e 5 4 (by omega), e 5 5 (by omega), e 5 6 (by omega), e 5 7 (by omega), e 5 9 (by omega)]
  refine ⟨hR.1, hR.2.1, hR.2.2.1, hR.2.2.2.1, hR.2.2.2.2.1, hR.2.2.2.2.2.1, hR.2.2.2.2.2.2.1, hR.2.2.2.2.2.2.2.1, if_pos ⟨rfl, rfl, rfl⟩, hR.2.2.2.2.2.2.2.2.2.1, fun p hp => ?_⟩
  rw [e 20 p (by omega), e 21 p (by omega)]
  exact hR.2.2.2.2.2.2.2.2.2.2 p hp
theorem rq_lot_0 (h0 : ∀ p, s 0 ≤ p → p < 6 → L p = 0) (nm : Nat) : ∀ p, s 0 ≤ p → p < 6 → rq_lot s D nm L p = 0 := fun p a b => by rw [rq_lot, h0 p a b, Nat.zero_mul]
theorem rq_lot_le (h1 : s 1 ≤ 10) (nm p : Nat) : rq_lot s D nm L p ≤ 60 * L p := by
  rw [rq_lot, Nat.mul_comm]; exact Nat.mul_le_mul_right _ (rq_F_le h1 D nm p)
theorem rq_lot_sum (h1 : s 1 ≤ 10) (nm : Nat) : rq_sum (rq_lot s D nm L) ≤ 60 * rq_sum L := by
  have k := fun p => rq_lot_le (D := D) (L := L) h1 nm p
  have k0 := k 0; have k1 := k 1; have k2 := k 2; have k3 := k 3; have k4 := k 4; have k5 := k 5
  unfold rq_sum; omega
theorem c_allLots (hR : rq_R I J r s h l A D st L) (hn : s 0 ≤ 6) (hD : D < 2 ^ s 0) (h0 : ∀ p, s 0 ≤ p → p < 6 → L p = 0) : v_X5_allLots I J r = lN (10 * rq_pc D * rq_sum L) := by
  have hp := rq_pc_le D
  rw [v_X5_allLots, c_drawers hR (rq_64 hD hn), nI_l (by omega), c_all hR hn h0, show (10 : Int64) = lN 10 from rfl, lN_mul, lN_mul]
theorem e_shareOf {p w : Nat} (hR : rq_R I J r s h l A D st L) (hW : rq_W s) (hD : D < 2 ^ s 0) (h0 : ∀ p, s 0 ≤ p → p < 6 → L p = 0) (hs : 0 < rq_sum L) (hs2 : rq_sum L ≤ 27993600000) (hb : 0 < rq_pc D) (hp : p < s 0) (hw : w ≤ 999) : sx_E sc (d + 3) cd_X5_shareOf 0 [some (.inr (.inr (5, r))), some (.inl (nI p)), some (.inl (nI w)), none, none] [] I J (some (.inl (nI (rq_sum (rq_lot s D p L) * w / (10 * rq_pc D * rq_sum L)))), I, J) := by
  have hn := hW.1
  have e := c_allLots hR hn hD h0
  have hpc := rq_pc_le D
  have b1 : 10 * rq_pc D * rq_sum L ≤ 60 * rq_sum L := Nat.mul_le_mul_right _ (by omega)
  have b0 : 0 < 10 * rq_pc D * rq_sum L := Nat.mul_pos (by omega) hs
  have b2 := rq_lot_sum (D := D) (L := L) hW.2.1 p
  have b3 : rq_sum (rq_lot s D p L) * w ≤ rq_sum (rq_lot s D p L) * 999 := Nat.mul_le_mul_left _ hw
  have hp6 : sx_p6 (I 5 r 0) := ⟨s 0, hn, hR.1⟩
  have ene : ¬ lN (10 * rq_pc D * rq_sum L) = 0 := fun q => absurd ((sx_lN0 (by omega)).mp q) (by omega)
  refine (es_X5_shareOf hp6 (fun _ => hp6) (fun _ => by rw [e]; exact ene)).v ?_
  rw [v_X5_shareOf, e, if_pos (show (0 : Int64) < lN _ from (pk_lLT (a := 0) (by omega) (by omega)).mpr b0), c_allIfNamed hR hn hD hW.2.1 (fun q hq => hW.kd hq) h0 (by omega), nI_l (by omega), lN_mul, pk_lDiv (by omega) b0 (by omega), lN_i]
theorem m_namedOf (hQ : rq_Qi I s) (hW : rq_W s) (hJ : rq_Lj J 0 L) (h0 : ∀ p, s 0 ≤ p → p < 6 → L p = 0) (hD : D < 64) {p : Nat} (hp : p < 6) : v_X9_namedOf I J (nI D) (nI p) = lN (rq_b D p * rq_sum (rq_lot s D p L)) := by
  rw [v_X9_namedOf, m_has hD hp, m_allOf (m_byLot hQ hW.1 hW.2.1 (fun q hq => hW.kd hq) hD hp hJ h0)]
  rcases rq_b01 D p with e | e
  · rw [e, Nat.zero_mul, if_pos nI_0]; rfl
  · rw [e, Nat.one_mul, if_neg nn1]
theorem rq_namedOf {x1 x2 : Int32} : j_X9_namedOf I J x1 x2 = j_X9_byLot I J 0 3 x1 x2 := by
  unfold j_X9_namedOf; split <;> rfl
theorem rq_same.namedOf {x1 x2 : Int32} : rq_same I J I (j_X9_namedOf I J x1 x2) := by
  rw [rq_namedOf]; exact .byLot (Or.inr rfl)
theorem e_priceOf {p w : Nat} (hQ : rq_Qi I s) (hW : rq_W s) (hJ : rq_Lj J 0 L) (hD : D < 64) (h0 : ∀ p, s 0 ≤ p → p < 6 → L p = 0) (hs : 0 < rq_sum L) (hs2 : rq_sum L ≤ 27993600000) (hb : rq_b D p = 1) (hp : p < s 0) (hw : w ≤ 999) : ∃ J1, rq_same I J I J1 ∧ sx_E sc (d + 5) cd_X9_priceOf 0 [some (.inr (.inr (9, 0))), some (.inl (nI D)), some (.inl (nI p)), some (.inl (nI w))] [] I J (some (.inl (nI (rq_sum (rq_lot s D p L) * w / (10 * rq_pc D * rq_sum L)))), I, J1) := by
  have hn := hW.1
  have hJ1 : rq_Lj (j_X9_namedOf I J (nI D) (nI p)) 0 L := hJ.sm (I := I) (I1 := I) .namedOf
  have hpc := rq_pc_le D
  have hpp := rq_pc_pos (A := D) (p := p) (by omega) hb
  have b1 : 10 * rq_pc D * rq_sum L ≤ 60 * rq_sum L := Nat.mul_le_mul_right _ (by omega)
  have b0 : 0 < 10 * rq_pc D * rq_sum L := Nat.mul_pos (by omega) hs
  have b2 := rq_lot_sum (D := D) (L := L) hW.2.1 p
  have b3 : rq_sum (rq_lot s D p L) * w ≤ rq_sum (rq_lot s D p L) * 999 := Nat.mul_le_mul_left _ hw
  have ene : ¬ lN (10 * rq_pc D * rq_sum L) = 0 := fun q => absurd ((sx_lN0 (by omega)).mp q) (by omega)
  have e1 : (10 : Int64) * (v_X9_bits I (j_X9_namedOf I J (nI D) (nI p)) (nI D)).toInt64 * v_X9_allOf I (j_X9_namedOf I J (nI D) (nI p)) 0 = lN (10 * rq_pc D * rq_sum L) := by
    rw [rq_bits hD, nI_l (by omega), m_allOf hJ1, show (10 : Int64) = lN 10 from rfl, lN_mul, lN_mul]
  refine ⟨_, .namedOf, (es_X9_priceOf (hQ.p6 hn) (by rw [e1]; exact ene)).v ?_⟩
  rw [v_X9_priceOf, e1, m_namedOf hQ hW hJ h0 hD (by omega), hb, Nat.one_mul, nI_l (by omega), lN_mul, Nat.mul_comm w, pk_lDiv (by omega) b0 (by omega), lN_i]
/-- what a class's ship and the reference's arrays have in common, at hand -/
theorem pr_belief (h : rq_Rel I J) {x y : Int32} : rq_pair sc (d + 20) cd_X8_belief cd_X9_belief [some (.inr (.inr (8, 0))), some (.inl x), some (.inl y)] [some (.inr (.inr (9, 0))), some (.inl x), some (.inl y)] I J := by
  obtain ⟨s, L, hC, hQ, hW, hV⟩ := h.2.2.2.2.1
  have hq := hQ.qi.t0 (v := 0)
  have w := hW.1
  rcases rq_per x w with ⟨p, hp, rfl⟩ | hx
  · have hs := hV.2.2.1 (by omega)
    have hs2 := hV.sum hW
    have hlp := hV.lt hW p (by omega)
    rcases m_inC (I := sx_uI I 9 0 0 0) (J := J) I J (x := y) (a := 0) (b := 1) (y := 0) (z := 1) (by decide) (by decide) with ⟨i1, i2, _, _⟩ | ⟨i1, i2⟩
    · refine .rd (v := .inr (.inl (rq_fr (L p) (rq_sum L) y))) (I1 := I) (J1 := J) (I2 := sx_uI I 9 0 0 0) (J2 := J) h (ee_X8_belief_0 ⟨_, _, _, es_X5_has.v (c_has hC w hp), ee_X8_belief_8 ⟨fun c => absurd c n10, fun _ => ⟨_, _, _, es_X8_isOutside.v i2, ee_X8_belief_17 ⟨fun _ => ⟨rq_in6 hp w, _, _, _, (es_X5_all (hC.p6 w)).w (c_all hC w hV.1), ?_⟩, fun c => absurd rfl c⟩⟩⟩⟩) .rf (ee_X9_belief_0 (ee_X9_belief_5 ⟨_, _, _, es_X9_isPerson.v (m_isPerson hq w hp), ee_X9_belief_10 ⟨fun c => absurd c n10, fun _ => ⟨_, _, _, es_X9_in.v i1, ee_X9_belief_20 ⟨fun c => absurd c n10, fun _ => ⟨rq_in6 hp w, _, _, _, es_X9_allOf.w (m_allOf hQ.lj), ?_⟩⟩⟩⟩⟩)) .t0 rfl
      · rw [nI_clamp (by omega), (hC.2.2.2.2.2.2.2.2.2.2 p hp).2.2]
        exact ee_X8_belief_40 ⟨_, _, _, e_lowest hlp (by omega) hs, ee_X8_belief_44 rfl⟩
      · rw [nI_clamp (by omega), hQ.lj p (by omega)]
        exact ee_X9_belief_36 ⟨_, _, _, e_part hlp (by omega) hs, ee_X9_belief_40 rfl⟩
    · exact .rd h (ee_X8_belief_0 ⟨_, _, _, es_X5_has.v (c_has hC w hp), ee_X8_belief_8 ⟨fun c => absurd c n10, fun _ => ⟨_, _, _, es_X8_isOutside.v i2, ee_X8_belief_17 ⟨fun c => absurd c n10, fun _ => rfl⟩⟩⟩⟩) .rf (ee_X9_belief_0 (ee_X9_belief_5 ⟨_, _, _, es_X9_isPerson.v (m_isPerson hq w hp), ee_X9_belief_10 ⟨fun c => absurd c n10, fun _ => ⟨_, _, _, es_X9_in.v i1, ee_X9_belief_20 ⟨fun _ => rfl, fun c => absurd rfl c⟩⟩⟩⟩)) .t0 rfl
  · exact .rd h (ee_X8_belief_0 ⟨_, _, _, es_X5_has.v (c_hasnt hC hx), ee_X8_belief_8 ⟨fun _ => rfl, fun c => absurd rfl c⟩⟩) .rf (ee_X9_belief_0 (ee_X9_belief_5 ⟨_, _, _, es_X9_isPerson.v (m_isntPerson hq w hx), ee_X9_belief_10 ⟨fun _ => rfl, fun c => absurd rfl c⟩⟩)) .t0 rfl
end RQK
