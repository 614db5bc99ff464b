/-! pair: been -/
section RQBN
variable {sc : Nat × (Nat → Int32)} {d : Nat} {I I1 I2 : sx_I} {J J1 J2 : sx_J} {f : Nat → Int32} {e n n0 i r o : Nat} {res : Option sx_V × sx_I × sx_J}
theorem lo_told {x4 : Int32} (hn : n ≤ 10) (hi : i + 2 * n ≤ 40) (h6 : n0 ≤ 6) (he : e = 2 ^ n0 - 1) : ∀ (m k : Nat) (o6 o7 : Option sx_V) (I : sx_I), k + m = n → (∀ j, j < 2 * n → I 22 r (i + j) = f j) → I 7 0 2 = nI n → I 7 0 3 = nI e → I 7 0 4 = nI (rq_by e (rq_tm e f) (2 ^ n - 1) k) → (∀ j, j < k → I 10 1 j = nI (rq_tm e f j)) → ((∀ j, k ≤ j → j < n → rq_vd f e j) ∧ ∃ I1, rq_same I J I1 J ∧ I1 7 0 2 = nI n ∧ I1 7 0 3 = nI e ∧ I1 7 0 4 = nI (rq_by e (rq_tm e f) (2 ^ n - 1) n) ∧ (∀ j, j < n → I1 10 1 j = nI (rq_tm e f j)) ∧ sx_E sc (d + 1) cd_X7_areTold 60 [some (.inr (.inr (7, 0))), some (.inr (.inr (4, r))), some (.inl (nI i)), some (.inl (nI n)), some (.inl x4), some (.inl (nI k)), o6, o7] [] I J (some (.inl 1), I1, J)) ∨ ((∃ j, k ≤ j ∧ j < n ∧ ¬ rq_vd f e j) ∧ ∃ I1, rq_same I J I1 J ∧ sx_E sc (d + 1) cd_X7_areTold 60 [some (.inr (.inr (7, 0))), some (.inr (.inr (4, r))), some (.inl (nI i)), some (.inl (nI n)), some (.inl x4), some (.inl (nI k)), o6, o7] [] I J (some (.inl 0), I1, J)) := by
  have he64 : e < 64 := by
    have h := Nat.pow_le_pow_right (n := 2) (by decide) h6
    omega
  have hpw : 2 ^ n0 = e + 1 := by
    have := Nat.two_pow_pos n0
    omega
  intro m
  induction m with
  | zero =>
    intro k o6 o7 I hk hf h2 h3 h4 h5
    obtain rfl : k = n := by omega
    exact Or.inl ⟨fun j a b => by omega, I, .rf, h2, h3, h4, h5, ee_X7_areTold_60 ⟨fun _ => rfl, fun c => absurd (nI_le (by omega) (by omega)) c⟩⟩
  | succ m ih =>
    intro k o6 o7 I hk hf h2 h3 h4 h5
    have e1 : nI i + (2 : Int32) * nI k = nI (i + 2 * k) := by rw [show (2 : Int32) = nI 2 from rfl, pk_mul, nI_add]
    have g1 := hf (2 * k) (by omega)
    have g2 : I 22 r (i + 2 * k + 1) = f (2 * k + 1) := hf (2 * k + 1) (by omega)
    have k60 : ∀ {w : Int32} {res : Option sx_V × sx_I × sx_J}, v_X8_isOutside I J (f (2 * k)) 0 (nI e) = w → sx_E sc (d + 1) cd_X7_areTold 104 [some (.inr (.inr (7, 0))), some (.inr (.inr (4, r))), some (.inl (nI i)), some (.inl (nI n)), some (.inl x4), some (.inl (nI k)), some (.inl (f (2 * k))), some (.inl (f (2 * k + 1)))] [.inl w] I J res → sx_E sc (d + 1) cd_X7_areTold 60 [some (.inr (.inr (7, 0))), some (.inr (.inr (4, r))), some (.inl (nI i)), some (.inl (nI n)), some (.inl x4), some (.inl (nI k)), o6, o7] [] I J res := fun hw kk => by
      refine ee_X7_areTold_60 ⟨fun c => absurd c (nI_ge (by omega) (by omega)), fun _ => ?_⟩
      rw [e1, nI_1, nI_clamp (by omega), nI_clamp (by omega), g1, g2, h3]
      exact ⟨sx_in_nI (by omega) (by omega), sx_in_nI (by omega) (by omega), _, _, _, es_X8_isOutside.v hw, kk⟩
    by_cases v1 : 0 ≤ f (2 * k) ∧ f (2 * k) ≤ nI e
    · by_cases v2 : 0 ≤ f (2 * k + 1) ∧ f (2 * k + 1) ≤ 1
      · obtain ⟨a, ha, ea, et⟩ := rq_vd.of he64 ⟨v1, v2⟩
        have ht : rq_tm e f k ≤ e := by rcases et with ⟨_, et⟩ | ⟨_, et⟩ <;> omega
        have hby : rq_by e (rq_tm e f) (2 ^ n - 1) (k + 1) = rq_by e (rq_tm e f) (2 ^ n - 1) k &&& rq_tm e f k := by
          rw [rq_by, if_pos (rq_b_full n (by omega) k (by omega))]
        have hbl := rq_by_le e (rq_tm e f) (2 ^ n - 1) k
        let I1 : sx_I := sx_uI I 10 1 k (nI (rq_tm e f k))
        let I2 : sx_I := sx_uI I1 7 0 4 (nI (rq_by e (rq_tm e f) (2 ^ n - 1) (k + 1)))
        have sm : rq_same I J I2 J := (rq_same.uI (by unfold rq_scr; omega)).tr (.uI (Or.inr (Or.inr (Or.inl rfl))))
        have k145 : ∀ {res : Option sx_V × sx_I × sx_J}, sx_E sc (d + 1) cd_X7_areTold 60 [some (.inr (.inr (7, 0))), some (.inr (.inr (4, r))), some (.inl (nI i)), some (.inl (nI n)), some (.inl x4), some (.inl (nI (k + 1))), some (.inl (f (2 * k))), some (.inl (f (2 * k + 1)))] [] I2 J res → sx_E sc (d + 1) cd_X7_areTold 145 [some (.inr (.inr (7, 0))), some (.inr (.inr (4, r))), some (.inl (nI i)), some (.inl (nI n)), some (.inl x4), some (.inl (nI k)), some (.inl (f (2 * k))), some (.inl (f (2 * k + 1)))] [.inl (nI (rq_tm e f k)), .inl (nI k), .inr (.inr (10, 1))] I J res := fun kk => by
          refine ee_X7_areTold_145 ⟨sx_in_nI (by omega) (by omega), ?_⟩
          rw [nI_clamp (by omega)]
          refine ee_X7_areTold_146 ⟨sx_in_nI (by omega) (by omega), ee_X7_areTold_162 ?_⟩
          rw [nI_clamp (by omega), nI_1, show (sx_uI I 10 1 k (nI (rq_tm e f k))) 7 0 4 = I 7 0 4 from rfl, h4, show (sx_uI I 10 1 k (nI (rq_tm e f k))) 10 1 k = nI (rq_tm e f k) from if_pos ⟨rfl, rfl, rfl⟩, rq_land _ (by omega) _ (by omega), ← hby]
          exact kk
        have k104 : ∀ {res : Option sx_V × sx_I × sx_J}, sx_E sc (d + 1) cd_X7_areTold 60 [some (.inr (.inr (7, 0))), some (.inr (.inr (4, r))), some (.inl (nI i)), some (.inl (nI n)), some (.inl x4), some (.inl (nI (k + 1))), some (.inl (f (2 * k))), some (.inl (f (2 * k + 1)))] [] I2 J res → sx_E sc (d + 1) cd_X7_areTold 60 [some (.inr (.inr (7, 0))), some (.inr (.inr (4, r))), some (.inl (nI i)), some (.inl (nI n)), some (.inl x4), some (.inl (nI k)), o6, o7] [] I J res := fun kk => by
          refine k60 (rq_oI0 v1.1 v1.2) (ee_X7_areTold_104 ⟨fun _ => ⟨_, _, _, es_X8_isOutside.v (rq_oI0 v2.1 v2.2), ee_X7_areTold_114 ⟨fun _ => ⟨fun c => ?_, fun c => ?_⟩, fun c => absurd rfl c⟩⟩, fun c => absurd rfl c⟩)
          · rcases et with ⟨_, et⟩ | ⟨c2, _⟩
            · have z := k145 kk
              rw [et, ← ea] at z
              exact z
            · exact absurd c c2
          · rcases et with ⟨c2, _⟩ | ⟨_, et⟩
            · exact absurd c2 c
            · have z := k145 kk
              have ei : nI e &&& (nI a ^^^ (Int32.ofInt (-1))) = nI (e - a) := by
                have := rq_inv1 n0 h6 a (by omega)
                rw [← he] at this
                exact this
              rw [h3, show f (2 * k) ^^^ (Int32.ofInt (-1)) = nI a ^^^ (Int32.ofInt (-1)) by rw [ea], ei, ← et]
              exact z
        have hI2 : ∀ j, j < k + 1 → I2 10 1 j = nI (rq_tm e f j) := fun j hj => by
          show (sx_uI I 10 1 k (nI (rq_tm e f k))) 10 1 j = _
          by_cases q : j = k
          · rw [q]; exact if_pos ⟨rfl, rfl, rfl⟩
          · rw [sx_uI, if_neg (fun z => q z.2.2)]; exact h5 j (by omega)
        rcases ih (k + 1) (some (.inl (f (2 * k)))) (some (.inl (f (2 * k + 1)))) I2 (by omega) hf h2 h3 rfl hI2 with ⟨q1, I3, q2, q3, q4, q5, q6, q7⟩ | ⟨⟨j, j1, j2, j3⟩, I3, q2, q7⟩
        · refine Or.inl ⟨fun j a b => ?_, I3, sm.tr q2, q3, q4, q5, q6, k104 q7⟩
          by_cases q : j = k
          · rw [q]; exact ⟨v1, v2⟩
          · exact q1 j (by omega) b
        · exact Or.inr ⟨⟨j, by omega, j2, j3⟩, I3, sm.tr q2, k104 q7⟩
      · exact Or.inr ⟨⟨k, Nat.le_refl _, by omega, fun q => v2 q.2⟩, I, .rf, k60 (rq_oI0 v1.1 v1.2) (ee_X7_areTold_104 ⟨fun _ => ⟨_, _, _, es_X8_isOutside.v (rq_oI1 v2), ee_X7_areTold_114 ⟨fun c => absurd c n10, fun _ => rfl⟩⟩, fun c => absurd rfl c⟩)⟩
    · exact Or.inr ⟨⟨k, Nat.le_refl _, by omega, fun q => v1 q.1⟩, I, .rf, k60 (rq_oI1 v1) (ee_X7_areTold_104 ⟨fun c => absurd c n10, fun _ => rfl⟩)⟩
/-- one pass over all sets -/
theorem lo_few31 {F : Nat → Nat} {v : Nat} {t : Nat} (ht : t < 64) (hv : v < 10) (hF : ∀ z, z < 64 → F z ≤ 11) : ∀ (m k : Nat) (H : Nat → Nat) (o3 : Option sx_V) (I : sx_I), k + m = 64 → rq_dpi F H t k → (∀ z, z < 64 → I 10 2 z = nI (H z)) → I 10 1 v = nI t → ∃ I1 H1 x2 o3', rq_same I J I1 J ∧ (∀ k, I1 7 0 k = I 7 0 k) ∧ (∀ j, I1 10 1 j = I 10 1 j) ∧ rq_dpi F H1 t 64 ∧ (∀ z, z < 64 → I1 10 2 z = nI (H1 z)) ∧ ∀ res, sx_E sc (d + 1) cd_X7_fewestThatLeaveThem 21 [some (.inr (.inr (7, 0))), some (.inl (nI (v + 1))), some (.inl x2), o3'] [] I1 J res → sx_E sc (d + 1) cd_X7_fewestThatLeaveThem 31 [some (.inr (.inr (7, 0))), some (.inl (nI v)), some (.inl (nI k)), o3] [] I J res := by
  intro m
  induction m with
  | zero =>
    intro k H o3 I hk hd hI ht1
    obtain rfl : k = 64 := by omega
    refine ⟨I, H, nI 64, o3, .rf, fun _ => rfl, fun _ => rfl, hd, hI, fun res hr => ee_X7_fewestThatLeaveThem_31 ⟨fun _ => ?_, fun c => absurd (by decide) c⟩⟩
    rw [nI_1]; exact hr
  | succ m ih =>
    intro k H o3 I hk hd hI ht1
    have hk6 : k < 64 := by omega
    have hw : k &&& t < 64 := Nat.lt_of_le_of_lt Nat.and_le_left hk6
    have hH : ∀ z, z < 64 → H z ≤ 11 := fun z hz => Nat.le_trans (hd.1 z hz) (hF z hz)
    have b1 := hH k hk6
    have b2 := hH (k &&& t) hw
    let I1 : sx_I := sx_uI I 10 2 (k &&& t) (nI (rq_dp1 H t k (k &&& t)))
    have sm : rq_same I J I1 J := rq_same.uI (by unfold rq_scr; omega)
    have hI1 : ∀ z, z < 64 → I1 10 2 z = nI (rq_dp1 H t k z) := fun z hz => by
      by_cases q : z = k &&& t
      · rw [q]; exact if_pos ⟨rfl, rfl, rfl⟩
      · rw [show rq_dp1 H t k z = H z from if_neg q]
        exact (if_neg (fun y => q y.2.2)).trans (hI z hz)
    have h7 : ∀ z, I1 7 0 z = I 7 0 z := fun z => if_neg (by omega)
    have h1 : ∀ z, I1 10 1 z = I 10 1 z := fun z => if_neg (by omega)
    obtain ⟨I3, H3, x2, o3', p1, p2, p3, p4, p5, p6⟩ := ih (k + 1) (rq_dp1 H t k) (some (.inl (nI (k &&& t)))) I1 (by omega) (hd.step hk6) hI1 ((h1 v).trans ht1)
    refine ⟨I3, H3, x2, o3', sm.tr p1, fun z => (p2 z).trans (h7 z), fun z => (p3 z).trans (h1 z), p4, p5, fun res hr => ee_X7_fewestThatLeaveThem_31 ⟨fun c => absurd c (nI_ge (b := 64) hk6 (by omega)), fun _ => ?_⟩⟩
    rw [nI_clamp (n := v) (by omega), ht1, rq_land k hk6 t ht, nI_clamp (n := k) (by omega), nI_clamp (n := k &&& t) (by omega), hI k hk6, hI _ hw, nI_1]
    refine ⟨sx_in_nI (by omega) (by omega), sx_in_nI (by omega) (by omega), sx_in_nI (by omega) (by omega), sx_in_nI (by omega) (by omega), ee_X7_fewestThatLeaveThem_69 ?_⟩
    rw [nI_1]
    have ev : (if nI (H k + 1) < nI (H (k &&& t)) then nI (H k + 1) else nI (H (k &&& t))) = nI (rq_dp1 H t k (k &&& t)) := by
      rw [show rq_dp1 H t k (k &&& t) = if H k + 1 < H (k &&& t) then H k + 1 else H (k &&& t) from if_pos rfl]
      by_cases q : H k + 1 < H (k &&& t)
      · rw [if_pos q, if_pos (nI_lt q (by omega))]
      · rw [if_neg q, if_neg (fun z => q ((nI_ltI (by omega) (by omega)).mp z))]
    rw [ev]
    exact p6 res hr
theorem lo_few21 {t : Nat → Nat} {w : Nat} (he : e < 64) (hn : n ≤ 10) (ht : ∀ v, v < n → t v < 64) (hw : w < 64) : ∀ (m v : Nat) (F : Nat → Nat) (o2 o3 : Option sx_V) (I : sx_I), v + m = n → rq_min e t v F → (∀ z, z < 64 → I 10 2 z = nI (F z)) → (∀ j, j < n → I 10 1 j = nI (t j)) → I 7 0 2 = nI n → I 7 0 4 = nI w → ∃ I1 F1, rq_same I J I1 J ∧ rq_min e t n F1 ∧ sx_E sc (d + 1) cd_X7_fewestThatLeaveThem 21 [some (.inr (.inr (7, 0))), some (.inl (nI v)), o2, o3] [] I J (some (.inl (nI (F1 w))), I1, J) := by
  intro m
  induction m with
  | zero =>
    intro v F o2 o3 I hk hm hI h1 h2 h4
    obtain rfl : v = n := by omega
    refine ⟨I, F, .rf, hm, ee_X7_fewestThatLeaveThem_21 ⟨fun _ => ?_, fun c => absurd (by rw [h2]; exact nI_le (by omega) (by omega)) c⟩⟩
    rw [h4, nI_clamp (by omega), hI w hw]
    exact ⟨sx_in_nI hw (by omega), rfl⟩
  | succ m ih =>
    intro v F o2 o3 I hk hm hI h1 h2 h4
    have d0 : rq_dpi F F (t v) 0 := ⟨fun z _ => Nat.le_refl _, fun y hy => by omega, fun z _ => Or.inl rfl, fun z _ _ => rfl⟩
    obtain ⟨I3, H3, x2, o3', p1, p2, p3, p4, p5, p6⟩ := lo_few31 (sc := sc) (d := d) (J := J) (ht v (by omega)) (show v < 10 by omega) hm.1 64 0 F o3 I rfl d0 hI (h1 v (by omega))
    obtain ⟨I4, F4, q1, q2, q3⟩ := ih (v + 1) H3 (some (.inl x2)) o3' I3 (by omega) (hm.step he p4) p5 (fun j hj => (p3 j).trans (h1 j hj)) ((p2 2).trans h2) ((p2 4).trans h4)
    exact ⟨I4, F4, p1.tr q1, q2, ee_X7_fewestThatLeaveThem_21 ⟨fun c => absurd c (by rw [h2]; exact nI_ge (by omega) (by omega)), fun _ => p6 _ q3⟩⟩
theorem e_few {t : Nat → Nat} {w : Nat} (he : e < 64) (hn : n ≤ 10) (ht : ∀ v, v < n → t v < 64) (hw : w < 64) (h1 : ∀ j, j < n → I 10 1 j = nI (t j)) (h2 : I 7 0 2 = nI n) (h3 : I 7 0 3 = nI e) (h4 : I 7 0 4 = nI w) : ∃ I1 F1, rq_same I J I1 J ∧ rq_min e t n F1 ∧ sx_E sc (d + 1) cd_X7_fewestThatLeaveThem 0 [some (.inr (.inr (7, 0))), none, none, none] [] I J (some (.inl (nI (F1 w))), I1, J) := by
  let I1 : sx_I := i_J7_fill_10 I J 11
  let I2 : sx_I := sx_uI I1 10 2 e 0
  have sm1 : rq_same I J I1 J := ⟨fun x y z c => if_neg (fun q => c (by unfold rq_scr; omega)), fun _ _ _ _ => rfl⟩
  have sm2 : rq_same I1 J I2 J := rq_same.uI (by unfold rq_scr; omega)
  have h7 : ∀ z, I2 7 0 z = I 7 0 z := fun z => (if_neg (by omega)).trans (if_neg (by omega))
  have hI2 : ∀ z, z < 64 → I2 10 2 z = nI ((fun z => if z = e then 0 else 11) z) := fun z hz => by
    show (sx_uI I1 10 2 e 0) 10 2 z = nI (if z = e then 0 else 11)
    by_cases q : z = e
    · rw [if_pos q, q]; exact if_pos ⟨rfl, rfl, rfl⟩
    · rw [if_neg q]
      exact (if_neg (fun y => q y.2.2)).trans (if_pos ⟨rfl, rfl, hz⟩)
  obtain ⟨I3, F3, p1, p2, p3⟩ := lo_few21 (sc := sc) (d := d) (J := J) (t := t) he hn ht hw n 0 _ none none I2 (by omega) rq_min.zero hI2 (fun j hj => ((if_neg (by omega)).trans (if_neg (by omega))).trans (h1 j hj)) ((h7 2).trans h2) ((h7 4).trans h4)
  refine ⟨I3, F3, (sm1.tr sm2).tr p1, p2, ee_X7_fewestThatLeaveThem_0 ⟨_, _, es_J7_fill_10, ?_⟩⟩
  refine ee_X7_fewestThatLeaveThem_9 ?_
  rw [show i_J7_fill_10 I J 11 7 0 3 = nI e from (if_neg (by omega)).trans h3, nI_clamp (by omega)]
  exact ⟨sx_in_nI he (by omega), ee_X7_fewestThatLeaveThem_19 p3⟩
/-! the reference -/
theorem lo_by {M : Nat} (hM : M < 1024) (hn : n ≤ 10) (hi : o + 2 * n ≤ 320) (h6 : n0 ≤ 6) (he : e = 2 ^ n0 - 1) (hf : ∀ j, j < 2 * n → I 16 2 (o + j) = f j) (hv : ∀ j, j < n → rq_vd f e j) : ∀ (m k : Nat), k + m = n → sx_E sc d cd_X9_beenBy 15 [some (.inr (.inr (9, 0))), some (.inl (nI o)), some (.inl (nI n)), some (.inl (nI M)), some (.inl (nI (rq_by e (rq_tm e f) M k))), some (.inl (nI k))] [] I J (some (.inl (nI (rq_by e (rq_tm e f) M n))), I, J) := by
  have he64 : e < 64 := by
    have h := Nat.pow_le_pow_right (n := 2) (by decide) h6
    omega
  have hpw : 2 ^ n0 = e + 1 := by
    have := Nat.two_pow_pos n0
    omega
  intro m
  induction m with
  | zero =>
    intro k hk
    obtain rfl : k = n := by omega
    exact ee_X9_beenBy_15 ⟨fun _ => rfl, fun c => absurd (nI_le (by omega) (by omega)) c⟩
  | succ m ih =>
    intro k hk
    have e1 : nI o + (2 : Int32) * nI k = nI (o + 2 * k) := by rw [show (2 : Int32) = nI 2 from rfl, pk_mul, nI_add]
    have g1 := hf (2 * k) (by omega)
    have g2 : I 16 2 (o + 2 * k + 1) = f (2 * k + 1) := hf (2 * k + 1) (by omega)
    obtain ⟨a, ha, ea, et⟩ := rq_vd.of he64 (hv k (by omega))
    have hbl := rq_by_le e (rq_tm e f) M k
    have ih2 := ih (k + 1) (by omega)
    refine ee_X9_beenBy_15 ⟨fun c => absurd c (nI_ge (by omega) (by omega)), fun _ => ?_⟩
    rw [rq_bitM (by omega) (by omega), e1, nI_1, nI_clamp (by omega), nI_clamp (by omega), g1, g2]
    rw [rq_by] at ih2
    refine ⟨fun c => ?_, fun c => ?_⟩
    · have hb : rq_b M k = 1 := (nI_eq (b := 1) (by have := rq_b01 M k; omega) (by omega)).mp c
      rw [if_pos hb] at ih2
      refine ⟨sx_in_nI (by omega) (by omega), fun c2 => ⟨sx_in_nI (by omega) (by omega), ee_X9_beenBy_77 (ee_X9_beenBy_80 ?_)⟩, fun c2 => ⟨sx_in_nI (by omega) (by omega), ee_X9_beenBy_77 (ee_X9_beenBy_80 ?_)⟩⟩
      · rcases et with ⟨_, et⟩ | ⟨c3, _⟩
        · rw [ea, rq_land _ (by omega) _ (by omega), nI_1, ← et]; exact ih2
        · exact absurd c2 c3
      · rcases et with ⟨c3, _⟩ | ⟨_, et⟩
        · exact absurd c3 c2
        · have ei := rq_inv2 n0 h6 (rq_by e (rq_tm e f) M k) (by omega) a (by omega)
          rw [← he] at ei
          rw [ea, ei, nI_1, ← et]; exact ih2
    · have hb : ¬ rq_b M k = 1 := fun q => c (by rw [q]; rfl)
      rw [if_neg hb] at ih2
      refine ee_X9_beenBy_80 ?_
      rw [nI_1]; exact ih2
theorem e_by {M : Nat} (hM : M < 1024) (hn : n ≤ 10) (hi : o + 2 * n ≤ 320) (h6 : n0 ≤ 6) (he : e = 2 ^ n0 - 1) (h0 : I 16 3 0 = nI n0) (hf : ∀ j, j < 2 * n → I 16 2 (o + j) = f j) (hv : ∀ j, j < n → rq_vd f e j) : sx_E sc d cd_X9_beenBy 0 [some (.inr (.inr (9, 0))), some (.inl (nI o)), some (.inl (nI n)), some (.inl (nI M)), none, none] [] I J (some (.inl (nI (rq_by e (rq_tm e f) M n))), I, J) := by
  refine ee_X9_beenBy_0 ?_
  rw [h0, rq_p2m n0 (by omega), ← he]
  exact lo_by hM hn hi h6 he hf hv n 0 (by omega)
theorem lo_bn102 {x1 x2 x4 : Int32} (hn : n ≤ 10) (hi : o + 2 * n ≤ 320) (h6 : n0 ≤ 6) (he : e = 2 ^ n0 - 1) (h0 : I 16 3 0 = nI n0) (hf : ∀ j, j < 2 * n → I 16 2 (o + j) = f j) : ∀ (m k : Nat), k + m = n → ((∃ j, k ≤ j ∧ j < n ∧ ¬ rq_vd f e j) → sx_E sc (d + 1) cd_X9_been 102 [some (.inr (.inr (9, 0))), some (.inl x1), some (.inl x2), some (.inl (nI n)), some (.inl x4), some (.inl (nI o)), some (.inl (nI k)), none, none, none, none, none] [] I J (some (.inl (Int32.ofInt (-1000001))), I, J)) ∧ ((∀ j, k ≤ j → j < n → rq_vd f e j) → ∀ res, sx_E sc (d + 1) cd_X9_been 102 [some (.inr (.inr (9, 0))), some (.inl x1), some (.inl x2), some (.inl (nI n)), some (.inl x4), some (.inl (nI o)), some (.inl (nI n)), none, none, none, none, none] [] I J res → sx_E sc (d + 1) cd_X9_been 102 [some (.inr (.inr (9, 0))), some (.inl x1), some (.inl x2), some (.inl (nI n)), some (.inl x4), some (.inl (nI o)), some (.inl (nI k)), none, none, none, none, none] [] I J res) := by
  intro m
  induction m with
  | zero =>
    intro k hk
    obtain rfl : k = n := by omega
    exact ⟨fun ⟨j, a, b, _⟩ => by omega, fun _ res h => h⟩
  | succ m ih =>
    intro k hk
    obtain ⟨ih1, ih2⟩ := ih (k + 1) (by omega)
    have e1 : nI o + (2 : Int32) * nI k = nI (o + 2 * k) := by rw [show (2 : Int32) = nI 2 from rfl, pk_mul, nI_add]
    have g1 := hf (2 * k) (by omega)
    have g2 : I 16 2 (o + 2 * k + 1) = f (2 * k + 1) := hf (2 * k + 1) (by omega)
    have k102 : ∀ {w : Int32} {res : Option sx_V × sx_I × sx_J}, v_X9_in I J (f (2 * k)).toInt64 0 (nI e).toInt64 = w → sx_E sc (d + 1) cd_X9_been 136 [some (.inr (.inr (9, 0))), some (.inl x1), some (.inl x2), some (.inl (nI n)), some (.inl x4), some (.inl (nI o)), some (.inl (nI k)), none, none, none, none, none] [.inl w] I J res → sx_E sc (d + 1) cd_X9_been 102 [some (.inr (.inr (9, 0))), some (.inl x1), some (.inl x2), some (.inl (nI n)), some (.inl x4), some (.inl (nI o)), some (.inl (nI k)), none, none, none, none, none] [] I J res := fun hw kk => by
      refine ee_X9_been_102 ⟨fun c => absurd c (nI_ge (by omega) (by omega)), fun _ => ?_⟩
      rw [e1, nI_clamp (by omega), g1, h0, rq_p2m n0 (by omega), ← he]
      exact ⟨sx_in_nI (by omega) (by omega), _, _, _, es_X9_in.v hw, kk⟩
    have k136 : ∀ {w : Int32} {res : Option sx_V × sx_I × sx_J}, v_X9_in I J (f (2 * k + 1)).toInt64 0 1 = w → sx_E sc (d + 1) cd_X9_been 159 [some (.inr (.inr (9, 0))), some (.inl x1), some (.inl x2), some (.inl (nI n)), some (.inl x4), some (.inl (nI o)), some (.inl (nI k)), none, none, none, none, none] [.inl w] I J res → sx_E sc (d + 1) cd_X9_been 136 [some (.inr (.inr (9, 0))), some (.inl x1), some (.inl x2), some (.inl (nI n)), some (.inl x4), some (.inl (nI o)), some (.inl (nI k)), none, none, none, none, none] [.inl 1] I J res := fun hw kk => by
      refine ee_X9_been_136 ⟨fun c => absurd c n10, fun _ => ?_⟩
      rw [e1, nI_1, nI_clamp (by omega), g2]
      exact ⟨sx_in_nI (by omega) (by omega), _, _, _, es_X9_in.v hw, kk⟩
    by_cases v1 : 0 ≤ f (2 * k) ∧ f (2 * k) ≤ nI e
    · by_cases v2 : 0 ≤ f (2 * k + 1) ∧ f (2 * k + 1) ≤ 1
      · have kk : ∀ {res}, sx_E sc (d + 1) cd_X9_been 102 [some (.inr (.inr (9, 0))), some (.inl x1), some (.inl x2), some (.inl (nI n)), some (.inl x4), some (.inl (nI o)), some (.inl (nI (k + 1))), none, none, none, none, none] [] I J res → sx_E sc (d + 1) cd_X9_been 102 [some (.inr (.inr (9, 0))), some (.inl x1), some (.inl x2), some (.inl (nI n)), some (.inl x4), some (.inl (nI o)), some (.inl (nI k)), none, none, none, none, none] [] I J res := fun q => k102 (rq_iI1 (by decide) rfl v1.1 v1.2) (k136 (rq_iI1 (by decide) (by decide) v2.1 v2.2) (ee_X9_been_159 ⟨fun c => absurd c n10, fun _ => by rw [nI_1]; exact q⟩))
        refine ⟨fun ⟨j, a, b, c⟩ => kk (ih1 ⟨j, ?_, b, c⟩), fun hv res hr => kk (ih2 (fun j a b => hv j (by omega) b) res hr)⟩
        refine Nat.lt_of_le_of_ne a (fun q => c ?_)
        rw [← q]; exact ⟨v1, v2⟩
      · exact ⟨fun _ => k102 (rq_iI1 (by decide) rfl v1.1 v1.2) (k136 (rq_iI0 (by decide) (by decide) v2) (ee_X9_been_159 ⟨fun _ => rfl, fun c => absurd rfl c⟩)), fun hv => absurd (hv k (Nat.le_refl _) (by omega)).2 v2⟩
    · exact ⟨fun _ => k102 (rq_iI0 (by decide) rfl v1) (ee_X9_been_136 ⟨fun _ => rfl, fun c => absurd rfl c⟩), fun hv => absurd (hv k (Nat.le_refl _) (by omega)).1 v1⟩
theorem lo_bn213 {M : Nat} {x1 x2 x4 x5 x6 x7 x8 : Int32} (hM : M < 1024) (hn : n ≤ 10) : ∀ (m k : Nat), k + m = n → ∀ res, sx_E sc (d + 1) cd_X9_been 213 [some (.inr (.inr (9, 0))), some (.inl x1), some (.inl x2), some (.inl (nI n)), some (.inl x4), some (.inl x5), some (.inl x6), some (.inl x7), some (.inl x8), some (.inl (nI M)), some (.inl (nI (rq_cn M n))), some (.inl (nI n))] [] I J res → sx_E sc (d + 1) cd_X9_been 213 [some (.inr (.inr (9, 0))), some (.inl x1), some (.inl x2), some (.inl (nI n)), some (.inl x4), some (.inl x5), some (.inl x6), some (.inl x7), some (.inl x8), some (.inl (nI M)), some (.inl (nI (rq_cn M k))), some (.inl (nI k))] [] I J res := by
  intro m
  induction m with
  | zero =>
    intro k hk res h
    obtain rfl : k = n := by omega
    exact h
  | succ m ih =>
    intro k hk res h
    refine ee_X9_been_213 ⟨fun c => absurd c (nI_ge (by omega) (by omega)), fun _ => ?_⟩
    rw [rq_bitM (by omega) (by omega), nI_add, nI_1]
    exact ih (k + 1) (by omega) res h
theorem lo_bn200 {x1 x2 x4 : Int32} {w : Nat} (hw : w < 64) (hn : n ≤ 10) (hi : o + 2 * n ≤ 320) (h6 : n0 ≤ 6) (he : e = 2 ^ n0 - 1) (h0 : I 16 3 0 = nI n0) (hf : ∀ j, j < 2 * n → I 16 2 (o + j) = f j) (hv : ∀ j, j < n → rq_vd f e j) : ∀ (m M few : Nat) (o10 o11 : Option sx_V), M + m = 2 ^ n → few ≤ n → sx_E sc (d + 1) cd_X9_been 200 [some (.inr (.inr (9, 0))), some (.inl x1), some (.inl x2), some (.inl (nI n)), some (.inl x4), some (.inl (nI o)), some (.inl (nI (2 ^ n - 1))), some (.inl (nI w)), some (.inl (nI few)), some (.inl (nI M)), o10, o11] [] I J (some (.inl (if x4 = 0 then nI w else nI (rq_fe e (rq_tm e f) n w m M few))), I, J) := by
  have hp : 2 ^ n ≤ 1024 := Nat.pow_le_pow_right (n := 2) (by decide) hn
  have hp0 := Nat.two_pow_pos n
  have he64 : e < 64 := by
    have h := Nat.pow_le_pow_right (n := 2) (by decide) h6
    omega
  intro m
  induction m with
  | zero =>
    intro M few o10 o11 hM hfew
    refine ee_X9_been_200 ⟨fun _ => ⟨fun c => by rw [if_pos c], fun c => by rw [if_neg c]; rfl⟩, fun c => absurd (nI_lt (by omega) (by omega)) c⟩
  | succ m ih =>
    intro M few o10 o11 hM hfew
    have hcn := rq_cn_le M n
    have hbl := rq_by_le e (rq_tm e f) M n
    refine ee_X9_been_200 ⟨fun c => absurd c (nI_nlt (by omega) (by omega)), fun _ => lo_bn213 (M := M) (by omega) hn n 0 (by omega) _ (ee_X9_been_213 ⟨fun _ => ⟨fun c => ee_X9_been_263 (ee_X9_been_265 ?_), fun c => ⟨_, _, _, e_by (M := M) (by omega) hn hi h6 he h0 hf hv, ee_X9_been_253 ⟨fun c2 => ee_X9_been_265 ?_, fun c2 => ee_X9_been_263 (ee_X9_been_265 ?_)⟩⟩⟩, fun c => absurd (nI_le (by omega) (by omega)) c⟩)⟩
    · have q : few ≤ rq_cn M n := (nI_leI (by omega) (by omega)).mp c
      have z := ih (M + 1) few (some (.inl (nI (rq_cn M n)))) (some (.inl (nI n))) (by omega) hfew
      rw [nI_1, rq_fe, if_neg (show ¬ (rq_cn M n < few ∧ rq_by e (rq_tm e f) M n = w) by omega)]; exact z
    · have q : ¬ few ≤ rq_cn M n := fun z => c (nI_le z (by omega))
      have q2 := (nI_eq (by omega) (by omega)).mp c2
      have z := ih (M + 1) (rq_cn M n) (some (.inl (nI (rq_cn M n)))) (some (.inl (nI n))) (by omega) hcn
      rw [nI_1, rq_fe, if_pos (show rq_cn M n < few ∧ rq_by e (rq_tm e f) M n = w from ⟨by omega, q2⟩)]; exact z
    · have q2 : ¬ rq_by e (rq_tm e f) M n = w := fun z => c2 (by rw [z])
      have z := ih (M + 1) few (some (.inl (nI (rq_cn M n)))) (some (.inl (nI n))) (by omega) hfew
      rw [nI_1, rq_fe, if_neg (show ¬ (rq_cn M n < few ∧ rq_by e (rq_tm e f) M n = w) from fun y => q2 y.2)]; exact z
end RQBN
