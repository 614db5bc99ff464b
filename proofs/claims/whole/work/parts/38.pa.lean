/-! pairs: image, restore, feed -/
section RQZ
variable {sc : Nat × (Nat → Int32)} {d : Nat} {I I1 I2 : sx_I} {J J1 J2 : sx_J} {s L : Nat → Nat} {p k : Nat} {P : Nat → Nat → Nat → Prop} {res : Option sx_V × sx_I × sx_J}
theorem rq_Rel.tape (h : rq_Rel I J) (e : rq_sm rq_cT I J I1 J1) (hT : rq_tape I1) : rq_Rel I1 J1 := by
  refine h.but e (Or.inl fun a b k => ?_) (Or.inr hT) (Or.inl fun a b k => ?_) (Or.inl fun a b k => ?_) (Or.inl fun a b k => ?_) (Or.inl fun a b k => ?_) (Or.inl fun a b k => ?_)
  · unfold rq_cR rq_cT; omega
  · unfold rq_cA rq_cT; omega
  · unfold rq_cF rq_cT; omega
  · unfold rq_cN rq_cT rq_cs; omega
  · unfold rq_cI rq_cT rq_cs; omega
  · unfold rq_cG rq_cT rq_cs; omega
theorem rq_Rel.img (h : rq_Rel I J) (e : rq_sm rq_cI I J I1 J1) (hI : ∀ k, k < 2 → rq_img I1 J1 k) : rq_Rel I1 J1 := by
  refine h.but e (Or.inl fun a b k => ?_) (Or.inl fun a b k => ?_) (Or.inl fun a b k => ?_) (Or.inl fun a b k => ?_) (Or.inl fun a b k => ?_) (Or.inr hI) (Or.inl fun a b k => ?_)
  · unfold rq_cR rq_cI rq_cs; omega
  · unfold rq_cT rq_cI rq_cs; omega
  · unfold rq_cA rq_cI rq_cs; omega
  · unfold rq_cF rq_cI rq_cs; omega
  · unfold rq_cN rq_cI rq_cs; omega
  · unfold rq_cG rq_cI rq_cs; omega
theorem pr_feed (h : rq_Rel I J) {x : Int32} : rq_pair sc (d + 20) cd_X8_feed cd_X9_feed [some (.inr (.inr (8, 0))), some (.inl x)] [some (.inr (.inr (9, 0))), some (.inl x)] I J := by
  obtain ⟨⟨n, hn, t1, t2, t3⟩, t4⟩ := h.2.1
  rcases m_inC (I := sx_uI I 9 0 0 0) (J := J) I J (x := x) (a := 0) (b := 255) (y := 0) (z := 255) (by decide) (by decide) with ⟨i1, i2, y1, y2⟩ | ⟨i1, i2⟩
  · obtain ⟨c, hc, rfl⟩ := nI_of2 (M := 255) (n := 255) (by decide) (Int32.not_lt.mpr y1) y2
    by_cases h80 : n < 80
    · have e8 := es_X8_feed (sc := sc) (d := d + 19) (x1 := nI c) (I := I) (J := J) (fun _ _ _ => by rw [t1]; exact sx_in_nI h80 (by omega))
      have l80 : nI n < (80 : Int32) := nI_lt (b := 80) h80 (by omega)
      have ei : i_X6_takes I J (nI c) = sx_uI (sx_uI I 10 0 n (nI c)) 6 0 1 (nI (n + 1)) := by
        rw [i_X6_takes, t1, if_neg (nI_pos (by omega)), if_pos l80, nI_clamp (by omega), show (sx_uI I 10 0 n (nI c)) 6 0 1 = nI n from t1, nI_1]
      rw [v_X8_feed, i_X8_feed, i2, if_pos rfl, if_pos rfl, v_X6_takes, t1, if_neg (nI_pos (by omega)), if_pos l80, if_neg n10, ei] at e8
      have e12 : (sx_uI (sx_uI (sx_uI I 10 0 n (nI c)) 6 0 1 (nI (n + 1))) 9 0 0 0) 9 0 12 = nI n := t2
      have n80 : ¬ nI n = (80 : Int32) := fun q => absurd ((nI_eq (b := 80) (by omega) (by omega)).mp q) (by omega)
      have e9 := es_X9_feed (sc := sc) (d := d + 19) (x1 := nI c) (I := sx_uI (sx_uI I 10 0 n (nI c)) 6 0 1 (nI (n + 1))) (J := J) (fun _ _ => by rw [e12]; exact sx_in_nI h80 (by omega))
      have i1' : v_X9_in (sx_uI (sx_uI (sx_uI I 10 0 n (nI c)) 6 0 1 (nI (n + 1))) 9 0 0 0) J (nI c).toInt64 0 255 = 1 := i1
      rw [v_X9_feed, i_X9_feed, i1', if_neg n10, if_neg n10, e12, if_neg n80, if_neg n80, nI_clamp (by omega), show (sx_uI (sx_uI (sx_uI (sx_uI I 10 0 n (nI c)) 6 0 1 (nI (n + 1))) 9 0 0 0) 16 6 n (nI c)) 9 0 12 = nI n from t2, nI_1] at e9
      refine ⟨.inl (nI (n + 1)), _, _, _, _, e8, e9, h.tape (((rq_sm.uI (Or.inr (Or.inr (Or.inl ⟨rfl, rfl⟩)))).tr (.uI (Or.inl ⟨rfl, Or.inl rfl⟩))).tr (rq_same.t0.sm.tr ((rq_sm.uI (Or.inr (Or.inr (Or.inr ⟨rfl, rfl⟩)))).tr (.uI (Or.inr (Or.inl ⟨rfl, Or.inl rfl⟩)))))) ⟨⟨n + 1, by omega, rfl, rfl, fun k hk => ?_⟩, t4⟩⟩
      have a1 : ∀ v w, (sx_uI (sx_uI (sx_uI (sx_uI (sx_uI I 10 0 n (nI c)) 6 0 1 v) 9 0 0 0) 16 6 n (nI c)) 9 0 12 w) 16 6 k = if k = n then nI c else I 16 6 k := fun v w => by
        by_cases q : k = n
        · rw [if_pos q]; exact (if_neg (by omega)).trans (if_pos ⟨rfl, rfl, q⟩)
        · rw [if_neg q]; exact (if_neg (by omega)).trans ((if_neg (by omega)).trans ((if_neg (by omega)).trans ((if_neg (by omega)).trans (if_neg (by omega)))))
      have a2 : ∀ v w, (sx_uI (sx_uI (sx_uI (sx_uI (sx_uI I 10 0 n (nI c)) 6 0 1 v) 9 0 0 0) 16 6 n (nI c)) 9 0 12 w) 10 0 k = if k = n then nI c else I 10 0 k := fun v w => by
        refine (if_neg (by omega)).trans ((if_neg (by omega)).trans ((if_neg (by omega)).trans ((if_neg (by omega)).trans ?_)))
        by_cases q : k = n
        · rw [if_pos q]; exact if_pos ⟨rfl, rfl, q⟩
        · rw [if_neg q]; exact if_neg (by omega)
      rw [a1, a2]
      by_cases q : k = n
      · rw [if_pos q, if_pos q]; exact ⟨rfl, c, by omega, rfl⟩
      · rw [if_neg q, if_neg q]; exact t3 k (by omega)
    · obtain rfl : n = 80 := by omega
      have e8 := es_X8_feed (sc := sc) (d := d + 19) (x1 := nI c) (I := I) (J := J) (fun _ _ c => absurd (by rw [t1] at c; exact c) (by decide))
      have ev : v_X6_takes I J (nI c) = 0 := by rw [v_X6_takes, t1]; decide
      have ei : i_X6_takes I J (nI c) = I := by rw [i_X6_takes, t1, if_neg (by decide), if_neg (by decide)]
      rw [v_X8_feed, i_X8_feed, i2, if_pos rfl, if_pos rfl, ev, if_pos rfl, ei] at e8
      have e12 : (sx_uI I 9 0 0 0) 9 0 12 = 80 := t2
      have e9 := es_X9_feed (sc := sc) (d := d + 19) (x1 := nI c) (I := I) (J := J) (fun _ c => absurd e12 c)
      rw [v_X9_feed, i_X9_feed, i1, if_neg n10, if_neg n10, if_pos e12, if_pos e12] at e9
      exact .rd h e8 .rf e9 .t0 rfl
  · have e8 := es_X8_feed (sc := sc) (d := d + 19) (x1 := x) (I := I) (J := J) (fun c => absurd (i2.symm.trans c) n10)
    rw [v_X8_feed, i_X8_feed, i2, if_neg n10, if_neg n10] at e8
    have e9 := es_X9_feed (sc := sc) (d := d + 19) (x1 := x) (I := I) (J := J) (fun c => absurd i1 c)
    rw [v_X9_feed, i_X9_feed, i1, if_pos rfl, if_pos rfl] at e9
    exact .rd h e8 .rf e9 .t0 rfl
theorem lo_img30 (hk1 : k < 2) (hk : sx_E sc (d + 1) cd_X9_image 61 [some (.inr (.inr (9, 0))), some (.inl (nI k)), some (.inl (0 : Int32))] [] (sx_cpA I 7 3 (32 * k) 0 32) J res) : ∀ (m j : Nat), j + m = 32 → sx_E sc (d + 1) cd_X9_image 30 [some (.inr (.inr (9, 0))), some (.inl (nI k)), some (.inl (nI j))] [] (sx_cpA I 7 3 (32 * k) 0 j) J res := by
  intro m
  induction m with
  | zero =>
    intro j h
    obtain rfl : j = 32 := by omega
    exact ee_X9_image_30 ⟨fun _ => hk, fun c => absurd (nI_le (a := 32) (by omega) (by omega)) c⟩
  | succ m ih =>
    intro j h
    refine ee_X9_image_30 ⟨fun c => absurd c (nI_ge (b := 32) (by omega) (by omega)), fun _ => ?_⟩
    rw [show (32 : Int32) * nI k + nI j = nI (32 * k + j) from sx_ix]
    refine ⟨sx_in_nI (by omega) (by omega), sx_in_nI (by omega) (by omega), ee_X9_image_53 ?_⟩
    rw [nI_1, nI_clamp (by omega), nI_clamp (by omega)]
    have e := sx_cpA_1 (I := I) (dd := 7) (ss := 3) (od := 32 * k) (os := 0) (k := j) (Or.inl (by decide))
    rw [Nat.zero_add] at e
    rw [e]
    exact ih (j + 1) (by omega)
theorem lo_img61 (hk1 : k < 2) (hk : res = (some (.inl 1), sx_uI I 18 0 k 1, sx_cpB J 4 0 (6 * k) 0 6)) : ∀ (m j : Nat), j + m = 6 → sx_E sc (d + 1) cd_X9_image 61 [some (.inr (.inr (9, 0))), some (.inl (nI k)), some (.inl (nI j))] [] I (sx_cpB J 4 0 (6 * k) 0 j) res := by
  intro m
  induction m with
  | zero =>
    intro j h
    obtain rfl : j = 6 := by omega
    refine ee_X9_image_61 ⟨fun _ => ⟨sx_in_nI (by omega) (by omega), ?_⟩, fun c => absurd (nI_le (a := 6) (by omega) (by omega)) c⟩
    rw [nI_clamp (by omega)]
    exact ee_X9_image_97 hk
  | succ m ih =>
    intro j h
    refine ee_X9_image_61 ⟨fun c => absurd c (nI_ge (b := 6) (by omega) (by omega)), fun _ => ?_⟩
    rw [show (6 : Int32) * nI k + nI j = nI (6 * k + j) from sx_ix]
    refine ⟨sx_in_nI (by omega) (by omega), sx_in_nI (by omega) (by omega), ee_X9_image_84 ?_⟩
    rw [nI_1, nI_clamp (by omega), nI_clamp (by omega)]
    have e := sx_cpB_1 (J := J) (dd := 4) (ss := 0) (od := 6 * k) (os := 0) (k := j) (Or.inl (by decide))
    rw [Nat.zero_add] at e
    rw [e]
    exact ih (j + 1) (by omega)
theorem pr_image (h : rq_Rel I J) {x : Int32} : rq_pair sc (d + 20) cd_X8_image cd_X9_image [some (.inr (.inr (8, 0))), some (.inl x)] [some (.inr (.inr (9, 0))), some (.inl x), none] I J := by
  obtain ⟨s, L, hC, hQ, hW, hV⟩ := h.2.2.2.2.1
  have hq0 := hQ.qi.t0 (v := 0)
  have w := hW.1
  rcases m_inC (I := sx_uI I 9 0 0 0) (J := J) I J (x := x) (a := 0) (b := 1) (y := 0) (z := 1) (by decide) (by decide) with ⟨i1, i2, y1, y2⟩ | ⟨i1, i2⟩
  · obtain ⟨k, hk, rfl⟩ := nI_of2 (M := 1) (n := 1) (by decide) (Int32.not_lt.mpr y1) y2
    have h8 := c_isShip hC w
    have h9 := m_isThere (J := J) hq0 w
    by_cases h0 : s 0 = 0
    · rw [if_pos h0] at h8 h9
      exact .rd h (v := .inl (Int32.ofInt (-1000002))) (ee_X8_image_0 ⟨_, _, _, es_X8_isOutside.v i2, ee_X8_image_6 ⟨fun _ => ⟨_, _, _, es_X5_isShip.v h8, ee_X8_image_19 ⟨fun _ => rfl, fun c => absurd rfl c⟩⟩, fun c => absurd rfl c⟩⟩) .rf (ee_X9_image_0 (ee_X9_image_5 ⟨_, _, _, es_X9_in.v i1, ee_X9_image_12 ⟨fun c => absurd c n10, fun _ => ⟨_, _, _, es_X9_isThere.v h9, ee_X9_image_22 ⟨fun _ => rfl, fun c => absurd rfl c⟩⟩⟩⟩)) .t0 rfl
    · rw [if_neg h0] at h8 h9
      have hb : rq_C (i_X5_becomes I J (k + 2) 0) (j_X5_becomes I J (k + 2) 0) (k + 2) s L := c_becomes hC w
      let I1 := i_X5_becomes I J (k + 2) 0
      let J1 := j_X5_becomes I J (k + 2) 0
      let I2 := sx_uI I1 9 0 0 0
      have e8 : sx_E sc (d + 20) cd_X8_image 0 [some (.inr (.inr (8, 0))), some (.inl (nI k))] [] I J (some (.inl 1), I1, J1) := by
        refine ee_X8_image_0 ⟨_, _, _, es_X8_isOutside.v i2, ee_X8_image_6 ⟨fun _ => ⟨_, _, _, es_X5_isShip.v h8, ee_X8_image_19 ⟨fun c => absurd c n10, fun _ => ⟨sx_in_nI (by omega) (by omega), ?_⟩⟩⟩, fun c => absurd rfl c⟩⟩
        rw [nI_clamp (by omega)]
        exact ee_X8_image_31 ⟨_, _, es_X5_becomes (by omega) hC.st, ee_X8_image_38 rfl⟩
      have n2 : ∀ x y z, x ≠ 5 → x ≠ 20 → x ≠ 21 → I1 x y z = I x y z := fun x y z a b c => if_neg (by omega)
      have nj2 : ∀ x y z, x ≠ 11 → J1 x y z = J x y z := fun x y z a => if_neg (by omega)
      have hq2 : rq_Qi I2 s := fun z hz => ((if_neg (by omega)).trans (n2 16 3 z (by decide) (by decide) (by decide))).trans (hQ.qi z hz)
      have hth : v_X9_isThere I2 J1 = 1 := by rw [m_isThere hq2 w, if_neg h0]
      have l1 := lo_img61 (sc := sc) (d := d + 19) (I := sx_cpA I2 7 3 (32 * k) 0 32) (J := J1) (k := k) (by omega) rfl 6 0 rfl
      rw [sx_cpB_0] at l1
      have l2 := lo_img30 (sc := sc) (d := d + 19) (I := I2) (J := J1) (k := k) (by omega) l1 32 0 rfl
      rw [sx_cpA_0] at l2
      have e9 : sx_E sc (d + 20) cd_X9_image 0 [some (.inr (.inr (9, 0))), some (.inl (nI k)), none] [] I1 J1 (some (.inl 1), sx_uI (sx_cpA I2 7 3 (32 * k) 0 32) 18 0 k 1, sx_cpB J1 4 0 (6 * k) 0 6) := ee_X9_image_0 (ee_X9_image_5 ⟨_, _, _, es_X9_in.v i1, ee_X9_image_12 ⟨fun c => absurd c n10, fun _ => ⟨_, _, _, es_X9_isThere.v hth, ee_X9_image_22 ⟨fun c => absurd c n10, fun _ => l2⟩⟩⟩⟩)
      have fI : ∀ x y z, ¬ (x = 18 ∧ y = 0 ∧ z = k) → ¬ (x = 16 ∧ y = 7 ∧ 32 * k ≤ z ∧ z < 32 * k + 32) → ¬ (x = 9 ∧ y = 0 ∧ z = 0) → sx_uI (sx_cpA I2 7 3 (32 * k) 0 32) 18 0 k 1 x y z = I1 x y z := fun x y z a b c => (if_neg a).trans ((if_neg b).trans (if_neg c))
      have fJ : ∀ x y z, ¬ (x = 17 ∧ y = 4 ∧ 6 * k ≤ z ∧ z < 6 * k + 6) → sx_cpB J1 4 0 (6 * k) 0 6 x y z = J1 x y z := fun x y z a => if_neg a
      refine ⟨.inl 1, _, _, _, _, e8, e9, h.img ⟨fun x y z c => ?_, fun x y z c => ?_⟩ (fun m hm => ?_)⟩
      · have c1 := c.1
        have c2 := c.2
        unfold rq_cI rq_cs at c2
        unfold rq_scr rq_cs at c1
        rw [fI x y z (by omega) (by omega) (by omega)]
        exact if_neg (by omega)
      · have c2 := c.2
        unfold rq_cI rq_cs at c2
        rw [fJ x y z (by omega)]
        exact if_neg (by omega)
      · by_cases cm : m = k
        · subst cm
          refine Or.inr ⟨if_pos ⟨rfl, rfl, rfl⟩, s, L, by omega, hb.fr (fun a z c => ?_) (fun a z c => ?_), ⟨fun z hz => ?_, fun z hz => ?_⟩, hW, hV⟩
          · unfold rq_cs at c
            exact fI _ _ _ (by omega) (by omega) (by omega)
          · unfold rq_cs at c
            exact fJ _ _ _ (by omega)
          · refine (if_neg (by omega)).trans ((if_pos (by omega)).trans ?_)
            rw [show 0 + (32 * m + z - 32 * m) = z by omega]
            exact hq2 z hz
          · refine (if_pos (by omega)).trans ?_
            rw [show 0 + (6 * m + z - 6 * m) = z by omega]
            exact (nj2 17 0 z (by decide)).trans (hQ.lj z hz)
        · have e18 : sx_uI (sx_cpA I2 7 3 (32 * k) 0 32) 18 0 k 1 18 0 m = I 18 0 m := (fI 18 0 m (by omega) (by omega) (by omega)).trans (n2 18 0 m (by decide) (by decide) (by decide))
          have eC : ∀ a z, rq_cs a → sx_uI (sx_cpA I2 7 3 (32 * k) 0 32) 18 0 k 1 a (m + 2) z = I a (m + 2) z := fun a z c => by
            unfold rq_cs at c
            exact (fI _ _ _ (by omega) (by omega) (by omega)).trans (if_neg (by omega))
          have eJ : ∀ a z, rq_cs a → sx_cpB J1 4 0 (6 * k) 0 6 a (m + 2) z = J a (m + 2) z := fun a z c => by
            unfold rq_cs at c
            exact (fJ _ _ _ (by omega)).trans (if_neg (by omega))
          rcases h.2.2.2.2.2.1 m hm with ⟨o1, o2⟩ | ⟨o1, s', L', o2, o3, o4, o5, o6⟩
          · exact Or.inl ⟨e18.trans o1, (eC 5 0 (Or.inl rfl)).trans o2⟩
          · refine Or.inr ⟨e18.trans o1, s', L', o2, o3.fr eC eJ, o4.fr (fun z hz => ?_) (fun z hz => ?_), o5, o6⟩
            · exact (fI _ _ _ (by omega) (by omega) (by omega)).trans (n2 16 7 _ (by decide) (by decide) (by decide))
            · exact (fJ _ _ _ (by omega)).trans (nj2 17 4 _ (by decide))
  · exact .rd h (v := .inl (Int32.ofInt (-1000001))) (ee_X8_image_0 ⟨_, _, _, es_X8_isOutside.v i2, ee_X8_image_6 ⟨fun c => absurd c n10, fun _ => rfl⟩⟩) .rf (ee_X9_image_0 (ee_X9_image_5 ⟨_, _, _, es_X9_in.v i1, ee_X9_image_12 ⟨fun _ => rfl, fun c => absurd rfl c⟩⟩)) .t0 rfl
theorem lo_res32 (hk1 : k < 2) (hk : sx_E sc (d + 1) cd_X9_restore 63 [some (.inr (.inr (9, 0))), some (.inl (nI k)), some (.inl (0 : Int32))] [] (sx_cpA I 3 7 0 (32 * k) 32) J res) : ∀ (m j : Nat), j + m = 32 → sx_E sc (d + 1) cd_X9_restore 32 [some (.inr (.inr (9, 0))), some (.inl (nI k)), some (.inl (nI j))] [] (sx_cpA I 3 7 0 (32 * k) j) J res := by
  intro m
  induction m with
  | zero =>
    intro j h
    obtain rfl : j = 32 := by omega
    exact ee_X9_restore_32 ⟨fun _ => hk, fun c => absurd (nI_le (a := 32) (by omega) (by omega)) c⟩
  | succ m ih =>
    intro j h
    refine ee_X9_restore_32 ⟨fun c => absurd c (nI_ge (b := 32) (by omega) (by omega)), fun _ => ?_⟩
    rw [show (32 : Int32) * nI k + nI j = nI (32 * k + j) from sx_ix]
    refine ⟨sx_in_nI (by omega) (by omega), sx_in_nI (by omega) (by omega), ee_X9_restore_55 ?_⟩
    rw [nI_1, nI_clamp (by omega), nI_clamp (by omega)]
    have e := sx_cpA_1 (I := I) (dd := 3) (ss := 7) (od := 0) (os := 32 * k) (k := j) (Or.inl (by decide))
    rw [Nat.zero_add] at e
    rw [e]
    exact ih (j + 1) (by omega)
theorem lo_res63 (hk1 : k < 2) (hk : res = (some (.inl 1), sx_uI I 9 0 10 0, sx_cpB J 0 4 0 (6 * k) 6)) : ∀ (m j : Nat), j + m = 6 → sx_E sc (d + 1) cd_X9_restore 63 [some (.inr (.inr (9, 0))), some (.inl (nI k)), some (.inl (nI j))] [] I (sx_cpB J 0 4 0 (6 * k) j) res := by
  intro m
  induction m with
  | zero =>
    intro j h
    obtain rfl : j = 6 := by omega
    exact ee_X9_restore_63 ⟨fun _ => ee_X9_restore_97 hk, fun c => absurd (nI_le (a := 6) (by omega) (by omega)) c⟩
  | succ m ih =>
    intro j h
    refine ee_X9_restore_63 ⟨fun c => absurd c (nI_ge (b := 6) (by omega) (by omega)), fun _ => ?_⟩
    rw [show (6 : Int32) * nI k + nI j = nI (6 * k + j) from sx_ix]
    refine ⟨sx_in_nI (by omega) (by omega), sx_in_nI (by omega) (by omega), ee_X9_restore_86 ?_⟩
    rw [nI_1, nI_clamp (by omega), nI_clamp (by omega)]
    have e := sx_cpB_1 (J := J) (dd := 0) (ss := 4) (od := 0) (os := 6 * k) (k := j) (Or.inl (by decide))
    rw [Nat.zero_add] at e
    rw [e]
    exact ih (j + 1) (by omega)
theorem pr_restore (h : rq_Rel I J) {x : Int32} : rq_pair sc (d + 20) cd_X8_restore cd_X9_restore [some (.inr (.inr (8, 0))), some (.inl x)] [some (.inr (.inr (9, 0))), some (.inl x), none] I J := by
  rcases m_inC (I := sx_uI I 9 0 0 0) (J := J) I J (x := x) (a := 0) (b := 1) (y := 0) (z := 1) (by decide) (by decide) with ⟨i1, i2, y1, y2⟩ | ⟨i1, i2⟩
  · obtain ⟨k, hk, rfl⟩ := nI_of2 (M := 1) (n := 1) (by decide) (Int32.not_lt.mpr y1) y2
    have k8 : ∀ {v : Int32} {res : Option sx_V × sx_I × sx_J}, v_X5_isShip I J (k + 2) = v → sx_E sc (d + 20) cd_X8_restore 21 [some (.inr (.inr (8, 0))), some (.inl (nI k))] [.inl v] I J res → sx_E sc (d + 20) cd_X8_restore 0 [some (.inr (.inr (8, 0))), some (.inl (nI k))] [] I J res := fun hv kk => by
      refine ee_X8_restore_0 ⟨_, _, _, es_X8_isOutside.v i2, ee_X8_restore_6 ⟨fun _ => ⟨sx_in_nI (by omega) (by omega), ?_⟩, fun c => absurd rfl c⟩⟩
      rw [nI_clamp (by omega)]
      exact ee_X8_restore_18 ⟨_, _, _, es_X5_isShip.v hv, kk⟩
    rcases h.2.2.2.2.2.1 k (by omega) with ⟨o1, o2⟩ | ⟨o1, s, L, o2, o3, o4, o5, o6⟩
    · have hv : v_X5_isShip I J (k + 2) = 0 := by rw [v_X5_isShip, o2]; rfl
      refine .rd h (v := .inl (Int32.ofInt (-1000002))) (k8 hv (ee_X8_restore_21 ⟨fun _ => rfl, fun c => absurd rfl c⟩)) .rf (I2 := sx_uI I 9 0 0 0) (J2 := J) (ee_X9_restore_0 (ee_X9_restore_5 ⟨_, _, _, es_X9_in.v i1, ee_X9_restore_12 ⟨fun c => absurd c n10, fun _ => ⟨sx_in_nI (by omega) (by omega), ?_⟩⟩⟩)) .t0 rfl
      rw [nI_clamp (by omega)]
      exact ⟨fun _ => rfl, fun c => absurd (show (sx_uI I 9 0 0 0) 18 0 k = 0 from o1) c⟩
    · have w := o5.1
      have hv : v_X5_isShip I J (k + 2) = 1 := by rw [c_isShip o3 w, if_neg (by omega)]
      have hb : rq_C (i_X5_becomes I J 0 (k + 2)) (j_X5_becomes I J 0 (k + 2)) 0 s L := c_becomes o3 w
      obtain ⟨a, q, f, ha, hq, g1, g2, g3⟩ := h.2.2.2.2.2.2.op
      let I1 := i_X0_forget (i_X5_becomes I J 0 (k + 2)) (j_X5_becomes I J 0 (k + 2))
      let J1 := j_X5_becomes I J 0 (k + 2)
      let I2 := sx_uI I1 9 0 0 0
      have e8 : sx_E sc (d + 20) cd_X8_restore 0 [some (.inr (.inr (8, 0))), some (.inl (nI k))] [] I J (some (.inl 1), I1, J1) := by
        refine k8 hv (ee_X8_restore_21 ⟨fun c => absurd c n10, fun _ => ⟨sx_in_nI (by omega) (by omega), ?_⟩⟩)
        rw [nI_clamp (by omega)]
        exact ee_X8_restore_37 ⟨_, _, es_X5_becomes (by omega) o3.st, ee_X8_restore_40 ⟨_, _, es_X0_forget, ee_X8_restore_47 rfl⟩⟩
      have f1 : rq_sm rq_oC I J I1 J1 := ⟨fun x y z c => by
        have c2 := c.2
        unfold rq_oC rq_nC rq_gC rq_cs at c2
        exact (if_neg (by omega)).trans (if_neg (by omega)), fun x y z c => by
        have c2 := c.2
        unfold rq_oC rq_nC rq_gC rq_cs at c2
        exact if_neg (by omega)⟩
      have o4' : rq_Q I2 J1 7 (32 * k) 4 (6 * k) s L := o4.sm2 (f1.tr rq_same.t0.sm) (fun z => by unfold rq_scr rq_oC rq_nC rq_gC rq_cs; omega) (fun z => by unfold rq_scr rq_oC rq_nC rq_gC rq_cs; omega)
      have o18 : I2 18 0 k = 1 := ((f1.tr rq_same.t0.sm).1 18 0 k (by unfold rq_scr rq_oC rq_nC rq_gC rq_cs; omega)).trans o1
      have l1 := lo_res63 (sc := sc) (d := d + 19) (I := sx_cpA I2 3 7 0 (32 * k) 32) (J := J1) (k := k) (by omega) rfl 6 0 rfl
      rw [sx_cpB_0] at l1
      have l2 := lo_res32 (sc := sc) (d := d + 19) (I := I2) (J := J1) (k := k) (by omega) l1 32 0 rfl
      rw [sx_cpA_0] at l2
      have e9 : sx_E sc (d + 20) cd_X9_restore 0 [some (.inr (.inr (9, 0))), some (.inl (nI k)), none] [] I1 J1 (some (.inl 1), sx_uI (sx_cpA I2 3 7 0 (32 * k) 32) 9 0 10 0, sx_cpB J1 0 4 0 (6 * k) 6) := by
        refine ee_X9_restore_0 (ee_X9_restore_5 ⟨_, _, _, es_X9_in.v i1, ee_X9_restore_12 ⟨fun c => absurd c n10, fun _ => ⟨sx_in_nI (by omega) (by omega), ?_⟩⟩⟩)
        rw [nI_clamp (by omega)]
        exact ⟨fun c => absurd (o18.symm.trans c) n10, fun _ => l2⟩
      have f2 : rq_sm rq_oM I1 J1 (sx_uI (sx_cpA I2 3 7 0 (32 * k) 32) 9 0 10 0) (sx_cpB J1 0 4 0 (6 * k) 6) := (rq_same.t0.sm.tr ((rq_sm.cpA (fun z => Or.inl rq_nM3)).tr (.uI (Or.inr (Or.inr (Or.inr ⟨rfl, rfl⟩)))))).tr (.cpB (fun z => Or.inl (Or.inr ⟨rfl, rfl⟩)))
      have hc1 : rq_C I1 J1 0 s L := hb.fr (fun a z c => by unfold rq_cs at c; exact if_neg (by omega)) (fun _ _ _ => rfl)
      have hg1 : rq_hc I1 J1 0 q f := ⟨g1.1, rfl, fun i hi => absurd hi (Nat.not_lt_zero i)⟩
      refine ⟨.inl 1, _, _, _, _, e8, e9, h.act ((f1.mono fun _ _ _ z => Or.inl z).tr (f2.mono fun _ _ _ z => Or.inr z)) ⟨s, L, hc1.oM f2, ⟨fun z hz => ?_, fun z hz => ?_⟩, o5, o6⟩ (.mk (a := 0) (q := q) (f := f) (by omega) hq (hg1.oM f2) ⟨rfl, fun i hi => by omega⟩ (fun i hi => by omega))⟩
      · refine (if_neg (by omega)).trans ((if_pos (by omega)).trans ?_)
        rw [show 32 * k + (0 + z - 0) = 32 * k + z by omega]
        exact o4'.1 z hz
      · refine (if_pos (by omega)).trans ?_
        rw [show 6 * k + (0 + z - 0) = 6 * k + z by omega]
        exact o4'.2 z hz
  · exact .rd h (v := .inl (Int32.ofInt (-1000001))) (ee_X8_restore_0 ⟨_, _, _, es_X8_isOutside.v i2, ee_X8_restore_6 ⟨fun c => absurd c n10, fun _ => rfl⟩⟩) .rf (ee_X9_restore_0 (ee_X9_restore_5 ⟨_, _, _, es_X9_in.v i1, ee_X9_restore_12 ⟨fun _ => rfl, fun c => absurd rfl c⟩⟩)) .t0 rfl
end RQZ
