/-! ship: the reference reads a text -/
section RQRL
variable {sc : Nat × (Nat → Int32)} {d : Nat} {I I1 I2 : sx_I} {J J1 J2 : sx_J} {n c b lo hi : Nat} {t s : Nat → Nat} {e : Nat × Nat} {x x1 x2 : Int32} {res : Option sx_V × sx_I × sx_J}
theorem rq_s4 {k : Nat} {v : Int32} : rq_same I J (sx_uI I 16 4 k v) J := .uI (by unfold rq_scr; omega)
theorem rq_rf.u4 {k : Nat} {v : Int32} (h : rq_rf I e) : rq_rf (sx_uI I 16 4 k v) e := h
theorem rq_rt.u4 {k : Nat} {v : Int32} (h : rq_rt I n t c) : rq_rt (sx_uI I 16 4 k v) n t c := ⟨h.1.fr rfl (fun _ => rfl), h.2.1, h.2.2.1, h.2.2.2.1, h.2.2.2.2⟩
theorem rq_fs.u4 {j v : Nat} (h : rq_fs I s) : rq_fs (sx_uI I 16 4 j (nI v)) (rq_up s j v) := fun k hk => by
  rw [sx_uI, rq_up]
  by_cases q : k = j
  · rw [if_pos ⟨rfl, rfl, q⟩, if_pos q]
  · rw [if_neg (fun z => q z.2.2), if_neg q]; exact h k hk
theorem rq_fs.k4 (h : rq_fs I s) (k : rq_k4 I I1) : rq_fs I1 s := fun j hj => (k j).trans (h j hj)
/-- the rest of the law, where a fault stands -/
theorem f_85 (h : rq_rf I e) : ∃ I1, rq_rf I1 e ∧ rq_same I J I1 J ∧ ∀ res, sx_E sc (d + 5) cd_X9_ship 104 [some (.inr (.inr (9, 0))), some (.inl x1)] [] I1 J res → sx_E sc (d + 5) cd_X9_ship 85 [some (.inr (.inr (9, 0))), some (.inl x1)] [] I J res :=
  ⟨_, h.u4 (k := 3) (v := 0), rq_s4, fun res k => ee_X9_ship_85 ⟨_, _, _, f_num h, ee_X9_ship_97 ⟨rfl, ee_X9_ship_98 ⟨_, _, f_sign (h.u4 (k := 3) (v := 0)), k⟩⟩⟩⟩
theorem f_66 (h : rq_rf I e) : ∃ I1, rq_rf I1 e ∧ rq_same I J I1 J ∧ ∀ res, sx_E sc (d + 5) cd_X9_ship 104 [some (.inr (.inr (9, 0))), some (.inl x1)] [] I1 J res → sx_E sc (d + 5) cd_X9_ship 66 [some (.inr (.inr (9, 0))), some (.inl x1)] [] I J res := by
  obtain ⟨I1, a1, a2, a3⟩ := f_85 (sc := sc) (d := d) (J := J) (x1 := x1) (h.u4 (k := 2) (v := 1))
  exact ⟨I1, a1, rq_s4.tr a2, fun res k => ee_X9_ship_66 ⟨_, _, _, f_num h, ee_X9_ship_78 ⟨rfl, ee_X9_ship_79 ⟨_, _, f_sign (h.u4 (k := 2) (v := 1)), a3 res k⟩⟩⟩⟩
theorem f_47 (h : rq_rf I e) : ∃ I1, rq_rf I1 e ∧ rq_same I J I1 J ∧ ∀ res, sx_E sc (d + 5) cd_X9_ship 104 [some (.inr (.inr (9, 0))), some (.inl x1)] [] I1 J res → sx_E sc (d + 5) cd_X9_ship 47 [some (.inr (.inr (9, 0))), some (.inl x1)] [] I J res := by
  obtain ⟨I1, a1, a2, a3⟩ := f_66 (sc := sc) (d := d) (J := J) (x1 := x1) (h.u4 (k := 1) (v := 0))
  exact ⟨I1, a1, rq_s4.tr a2, fun res k => ee_X9_ship_47 ⟨_, _, _, f_num h, ee_X9_ship_59 ⟨rfl, ee_X9_ship_60 ⟨_, _, f_sign (h.u4 (k := 1) (v := 0)), a3 res k⟩⟩⟩⟩
theorem m_law (h : rq_rt I n t 0) (hs : rq_fs I rq_s0) : (∃ e I1, rq_law n t = .error e ∧ rq_rf I1 e ∧ rq_same I J I1 J ∧ ∀ res, sx_E sc (d + 5) cd_X9_ship 104 [some (.inr (.inr (9, 0))), some (.inl x1)] [] I1 J res → sx_E sc (d + 5) cd_X9_ship 37 [some (.inr (.inr (9, 0))), some (.inl x1)] [] I J res) ∨ (∃ a I1, rq_law n t = .ok a ∧ rq_rt I1 n t a.2 ∧ rq_fs I1 a.1 ∧ rq_same I J I1 J ∧ ∀ res, sx_E sc (d + 5) cd_X9_ship 104 [some (.inr (.inr (9, 0))), some (.inl x1)] [] I1 J res → sx_E sc (d + 5) cd_X9_ship 37 [some (.inr (.inr (9, 0))), some (.inl x1)] [] I J res) := by
  obtain ⟨g1, g2⟩ := h.sg (b := 115) (w := 2) (by omega) (Or.inl ⟨rfl, by omega, by omega⟩)
  by_cases q : 0 < n ∧ t 0 = 115
  · have p1 : rq_ex n t 115 0 = .ok 1 := if_pos q
    obtain ⟨e15, e16, e13⟩ := g2 q
    obtain ⟨I1, a1, a2, a3, a4⟩ := m_must1 (sc := sc) (d := d + 2) (J := J) (x := 1) h.1 e13 (by omega) h.2.2.1 n10
    have el : v_X9_isLetter I J 115 = 1 := by rw [v_X9_isLetter, if_pos h.2.2.1, if_pos e15, if_pos (show I 9 0 16 = 115 from e16)]
    have k47 : ∀ res, sx_E sc (d + 5) cd_X9_ship 47 [some (.inr (.inr (9, 0))), some (.inl x1)] [] I1 J res → sx_E sc (d + 5) cd_X9_ship 37 [some (.inr (.inr (9, 0))), some (.inl x1)] [] I J res := fun res k => ee_X9_ship_37 ⟨_, _, _, es_X9_isLetter.v el, ee_X9_ship_44 ⟨_, _, a4, k⟩⟩
    have f1 := hs.k4 a3
    rcases m_num (sc := sc) (d := d + 1) (J := J) (x1 := 0) (x2 := 10) (lo := 0) (hi := 10) a2 rfl rfl (by omega) (by omega) with ⟨b1, I2, p2, r2, s2, k2, t2⟩ | ⟨f, I2, p2, r2, s2, k2, t2⟩
    · have f2 := (f1.k4 k2).u4 (j := 1) (v := b1.1)
      have r2' := r2.u4 (k := 1) (v := nI b1.1)
      have k60 : ∀ res, sx_E sc (d + 5) cd_X9_ship 60 [some (.inr (.inr (9, 0))), some (.inl x1)] [] (sx_uI I2 16 4 1 (nI b1.1)) J res → sx_E sc (d + 5) cd_X9_ship 37 [some (.inr (.inr (9, 0))), some (.inl x1)] [] I J res := fun res k => k47 res (ee_X9_ship_47 ⟨_, _, _, t2, ee_X9_ship_59 ⟨rfl, k⟩⟩)
      rcases m_sign (sc := sc) (d := d + 1) (J := J) (x := 44) (b := 44) r2' rfl (Or.inl rfl) with ⟨c2, I3, p3, r3, s3, k3, t3⟩ | ⟨I3, p3, r3, s3, k3, t3⟩
      · have k66 : ∀ res, sx_E sc (d + 5) cd_X9_ship 66 [some (.inr (.inr (9, 0))), some (.inl x1)] [] I3 J res → sx_E sc (d + 5) cd_X9_ship 37 [some (.inr (.inr (9, 0))), some (.inl x1)] [] I J res := fun res k => k60 res (ee_X9_ship_60 ⟨_, _, t3, k⟩)
        have f3 := f2.k4 k3
        rcases m_num (sc := sc) (d := d + 1) (J := J) (x1 := 1) (x2 := 20) (lo := 1) (hi := 20) r3 rfl rfl (by omega) (by omega) with ⟨b2, I4, p4, r4, s4, k4, t4⟩ | ⟨f, I4, p4, r4, s4, k4, t4⟩
        · have f4 := (f3.k4 k4).u4 (j := 2) (v := b2.1)
          have r4' := r4.u4 (k := 2) (v := nI b2.1)
          have k79 : ∀ res, sx_E sc (d + 5) cd_X9_ship 79 [some (.inr (.inr (9, 0))), some (.inl x1)] [] (sx_uI I4 16 4 2 (nI b2.1)) J res → sx_E sc (d + 5) cd_X9_ship 37 [some (.inr (.inr (9, 0))), some (.inl x1)] [] I J res := fun res k => k66 res (ee_X9_ship_66 ⟨_, _, _, t4, ee_X9_ship_78 ⟨rfl, k⟩⟩)
          rcases m_sign (sc := sc) (d := d + 1) (J := J) (x := 44) (b := 44) r4' rfl (Or.inl rfl) with ⟨c3, I5, p5, r5, s5, k5, t5⟩ | ⟨I5, p5, r5, s5, k5, t5⟩
          · have k85 : ∀ res, sx_E sc (d + 5) cd_X9_ship 85 [some (.inr (.inr (9, 0))), some (.inl x1)] [] I5 J res → sx_E sc (d + 5) cd_X9_ship 37 [some (.inr (.inr (9, 0))), some (.inl x1)] [] I J res := fun res k => k79 res (ee_X9_ship_79 ⟨_, _, t5, k⟩)
            have f5 := f4.k4 k5
            rcases m_num (sc := sc) (d := d + 1) (J := J) (x1 := 0) (x2 := 19) (lo := 0) (hi := 19) r5 rfl rfl (by omega) (by omega) with ⟨b3, I6, p6, r6, s6, k6, t6⟩ | ⟨f, I6, p6, r6, s6, k6, t6⟩
            · have f6 := (f5.k4 k6).u4 (j := 3) (v := b3.1)
              have r6' := r6.u4 (k := 3) (v := nI b3.1)
              have k98 : ∀ res, sx_E sc (d + 5) cd_X9_ship 98 [some (.inr (.inr (9, 0))), some (.inl x1)] [] (sx_uI I6 16 4 3 (nI b3.1)) J res → sx_E sc (d + 5) cd_X9_ship 37 [some (.inr (.inr (9, 0))), some (.inl x1)] [] I J res := fun res k => k85 res (ee_X9_ship_85 ⟨_, _, _, t6, ee_X9_ship_97 ⟨rfl, k⟩⟩)
              rcases m_sign (sc := sc) (d := d + 1) (J := J) (x := 59) (b := 59) r6' rfl (Or.inr rfl) with ⟨c4, I7, p7, r7, s7, k7, t7⟩ | ⟨I7, p7, r7, s7, k7, t7⟩
              · exact Or.inr ⟨(rq_up (rq_up (rq_up rq_s0 1 b1.1) 2 b2.1) 3 b3.1, c4), I7, by simp only [rq_law, p1, p2, p3, p4, p5, p6, p7, rq_bd], r7, f6.k4 k7, ((((((((a1.tr s2).tr rq_s4).tr s3).tr s4).tr rq_s4).tr s5).tr s6).tr rq_s4).tr s7, fun res k => k98 res (ee_X9_ship_98 ⟨_, _, t7, k⟩)⟩
              · exact Or.inl ⟨_, I7, by simp only [rq_law, p1, p2, p3, p4, p5, p6, p7, rq_bd], r7, ((((((((a1.tr s2).tr rq_s4).tr s3).tr s4).tr rq_s4).tr s5).tr s6).tr rq_s4).tr s7, fun res k => k98 res (ee_X9_ship_98 ⟨_, _, t7, k⟩)⟩
            · have r6' := r6.u4 (k := 3) (v := 0)
              exact Or.inl ⟨_, _, by simp only [rq_law, p1, p2, p3, p4, p5, p6, rq_bd], r6', (((((((a1.tr s2).tr rq_s4).tr s3).tr s4).tr rq_s4).tr s5).tr s6).tr (rq_s4 (k := 3) (v := 0)), fun res k => k85 res (ee_X9_ship_85 ⟨_, _, _, t6, ee_X9_ship_97 ⟨rfl, ee_X9_ship_98 ⟨_, _, f_sign r6', k⟩⟩⟩)⟩
          · obtain ⟨I8, u1, u2, u3⟩ := f_85 (sc := sc) (d := d) (J := J) (x1 := x1) r5
            exact Or.inl ⟨_, I8, by simp only [rq_law, p1, p2, p3, p4, p5, rq_bd], u1, ((((((a1.tr s2).tr rq_s4).tr s3).tr s4).tr rq_s4).tr s5).tr u2, fun res k => k79 res (ee_X9_ship_79 ⟨_, _, t5, u3 res k⟩)⟩
        · have r4' := r4.u4 (k := 2) (v := 1)
          obtain ⟨I8, u1, u2, u3⟩ := f_85 (sc := sc) (d := d) (J := J) (x1 := x1) r4'
          exact Or.inl ⟨_, I8, by simp only [rq_law, p1, p2, p3, p4, rq_bd], u1, (((((a1.tr s2).tr rq_s4).tr s3).tr s4).tr rq_s4).tr u2, fun res k => k66 res (ee_X9_ship_66 ⟨_, _, _, t4, ee_X9_ship_78 ⟨rfl, ee_X9_ship_79 ⟨_, _, f_sign r4', u3 res k⟩⟩⟩)⟩
      · obtain ⟨I8, u1, u2, u3⟩ := f_66 (sc := sc) (d := d) (J := J) (x1 := x1) r3
        exact Or.inl ⟨_, I8, by simp only [rq_law, p1, p2, p3, rq_bd], u1, (((a1.tr s2).tr rq_s4).tr s3).tr u2, fun res k => k60 res (ee_X9_ship_60 ⟨_, _, t3, u3 res k⟩)⟩
    · have r2' := r2.u4 (k := 1) (v := 0)
      obtain ⟨I8, u1, u2, u3⟩ := f_66 (sc := sc) (d := d) (J := J) (x1 := x1) r2'
      exact Or.inl ⟨_, I8, by simp only [rq_law, p1, p2, rq_bd], u1, ((a1.tr s2).tr rq_s4).tr u2, fun res k => k47 res (ee_X9_ship_47 ⟨_, _, _, t2, ee_X9_ship_59 ⟨rfl, ee_X9_ship_60 ⟨_, _, f_sign r2', u3 res k⟩⟩⟩)⟩
  · have p1 : rq_ex n t 115 0 = .error (1, 0) := if_neg q
    obtain ⟨I1, a1, a2, a3, a4⟩ := m_must0 (sc := sc) (d := d + 2) (J := J) h.2.2.1 h.2.2.2.1
    have el : v_X9_isLetter I J 115 = 0 := by
      rw [v_X9_isLetter, if_pos h.2.2.1]
      by_cases y : I 9 0 15 = 2
      · rw [if_pos y, if_neg (show ¬ I 9 0 16 = 115 from fun z => q (let w := g1 ⟨y, z⟩; ⟨w.1, w.2.1⟩))]
      · rw [if_neg y]
    obtain ⟨I8, u1, u2, u3⟩ := f_47 (sc := sc) (d := d) (J := J) (x1 := x1) a2
    exact Or.inl ⟨_, I8, by simp only [rq_law, p1, rq_bd], u1, a1.tr u2, fun res k => ee_X9_ship_37 ⟨_, _, _, es_X9_isLetter.v el, ee_X9_ship_44 ⟨_, _, a4, u3 res k⟩⟩⟩
theorem f_failed (h : rq_rf I e) : sx_E sc (d + 1) cd_X9_failed 20 [some (.inr (.inr (9, 0)))] [] I J (some (.inl 1), sx_uI (sx_uI I 9 0 12 0) 9 0 19 (nI e.1), J) := by
  have h1 := h.2.1
  have h3 := h.2.2.1
  have ng : ¬ I 9 0 17 ≤ 0 := by rw [h.1]; exact nI_nle h1 (by omega)
  refine ee_X9_failed_20 (ee_X9_failed_25 ⟨fun z => absurd z ng, fun _ => ee_X9_failed_44 ?_⟩)
  rw [show (sx_uI I 9 0 12 0) 9 0 17 = nI e.1 from h.1]
  exact ee_X9_failed_47 ⟨fun z => absurd z ng, fun _ => rfl⟩
theorem f_116 (h : rq_rf I e) : sx_E sc (d + 5) cd_X9_ship 116 [some (.inr (.inr (9, 0))), some (.inl x1)] [] I J (some (.inl ((Int32.ofInt (-1000100)) - nI e.2)), sx_uI (sx_uI I 9 0 12 0) 9 0 19 (nI e.1), J) := by
  refine ee_X9_ship_116 ⟨_, _, _, es_X9_isSort.v (f_sort h), ee_X9_ship_120 ⟨fun _ => ⟨_, _, _, ee_X9_failed_0 ⟨fun z => absurd z h.nz, fun _ => f_failed h⟩, ee_X9_ship_134 ⟨fun z => absurd z n10, fun _ => ?_⟩⟩, fun z => absurd rfl z⟩⟩
  rw [show (sx_uI (sx_uI I 9 0 12 0) 9 0 19 (nI e.1)) 9 0 18 = nI e.2 from h.2.2.2]
theorem f_104 (h : rq_rf I e) : sx_E sc (d + 5) cd_X9_ship 104 [some (.inr (.inr (9, 0))), some (.inl x1)] [] I J (some (.inl ((Int32.ofInt (-1000100)) - nI e.2)), sx_uI (sx_uI I 9 0 12 0) 9 0 19 (nI e.1), J) := by
  refine ee_X9_ship_104 ⟨_, _, _, es_X9_isSort.v (f_sort h), ee_X9_ship_108 ⟨fun _ => ⟨_, _, es_X9_bad, ?_⟩, fun z => absurd rfl z⟩⟩
  rw [h.no]; exact f_116 h
theorem lo_pplM : ∀ (m : Nat) (s : Nat → Nat) (c : Nat) (I : sx_I), s 0 + m = 7 → rq_rt I n t c → rq_fs I s → rq_tw s → c < n → (∃ e I1, rq_ppl n t m s c = .error e ∧ rq_same I J I1 J ∧ sx_E sc (d + 5) cd_X9_ship 116 [some (.inr (.inr (9, 0))), some (.inl x1)] [] I J (some (.inl ((Int32.ofInt (-1000100)) - nI e.2)), sx_uI (sx_uI I1 9 0 12 0) 9 0 19 (nI e.1), J)) ∨ (∃ s2 I1, rq_ppl n t m s c = .ok s2 ∧ rq_fs I1 s2 ∧ rq_same I J I1 J ∧ ∀ res, sx_E sc (d + 5) cd_X9_ship 134 [some (.inr (.inr (9, 0))), some (.inl x1)] [.inl 0] (sx_uI (sx_uI I1 9 0 12 0) 9 0 19 (I1 9 0 19)) J res → sx_E sc (d + 5) cd_X9_ship 116 [some (.inr (.inr (9, 0))), some (.inl x1)] [] I J res) := by
  intro m
  induction m with
  | zero => intro s c I h0 _ _ hw _; have := hw.1; omega
  | succ m ih =>
    intro s c I h0 hr hs hw hc
    have hso := m_sort (J := J) hr
    rw [rq_ppl]
    by_cases hk : rq_kc n t c = 0
    · rw [if_pos hk] at hso
      have e1 : rq_per1 n t (s 0) c = .error (1, c) := by unfold rq_per1; rw [if_pos hk]
      obtain ⟨a1, a2, a3⟩ := rq_bad (J := J) hr.2.2.1 hr.2.2.2.1 (x := 1) (f := 1) rfl (by omega)
      have n15 : ¬ I 9 0 15 = 1 := by
        rcases hr.2.2.2.2 with ⟨ec, _⟩ | ⟨_, _, e15, _⟩ | ⟨_, _, e15, _⟩ | ⟨_, _, e15⟩
        · omega
        · rw [e15]; exact rq_tk1
        · rw [e15]; decide
        · rw [e15]; decide
      refine Or.inl ⟨(1, c), i_X9_bad I J 1, by rw [e1]; rfl, a1, ee_X9_ship_116 ⟨_, _, _, es_X9_isSort.v hso, ee_X9_ship_120 ⟨fun _ => ⟨_, _, _, ee_X9_failed_0 ⟨fun _ => ⟨fun z => absurd z n15, fun _ => ⟨_, _, es_X9_bad, f_failed a2⟩⟩, fun z => absurd hr.2.2.1 z⟩, ee_X9_ship_134 ⟨fun z => absurd z n10, fun _ => ?_⟩⟩, fun z => absurd rfl z⟩⟩⟩
      rw [show (sx_uI (sx_uI (i_X9_bad I J 1) 9 0 12 0) 9 0 19 (nI 1)) 9 0 18 = nI c from a2.2.2.2]
    · rw [if_neg hk] at hso
      have k120 : ∀ {I1 : sx_I} {res : Option sx_V × sx_I × sx_J}, sx_E sc (d + 4) cd_X9_readPerson 0 [some (.inr (.inr (9, 0))), none, none, none] [] I J (none, I1, J) → sx_E sc (d + 5) cd_X9_ship 116 [some (.inr (.inr (9, 0))), some (.inl x1)] [] I1 J res → sx_E sc (d + 5) cd_X9_ship 116 [some (.inr (.inr (9, 0))), some (.inl x1)] [] I J res := fun k1 k2 => ee_X9_ship_116 ⟨_, _, _, es_X9_isSort.v hso, ee_X9_ship_120 ⟨fun z => absurd z n10, fun _ => ⟨_, _, k1, ee_X9_ship_127 k2⟩⟩⟩
      rcases e_perM (sc := sc) (d := d) (J := J) hr hs hw hk with ⟨e, I1, p1, p2, p3, p4⟩ | ⟨a, I1, p1, p2, p3, p4, p5⟩
      · exact Or.inl ⟨e, I1, by rw [p1]; rfl, p3, k120 p4 (f_116 p2)⟩
      · have hb : rq_kc n t c = a.1 ∧ 1 ≤ a.2.1 ∧ a.2.1 ≤ 9 ∧ s 0 < 6 := by
          unfold rq_per1 at p1
          rw [if_neg hk] at p1
          by_cases q6 : 6 ≤ s 0
          · rw [if_pos q6] at p1; exact nomatch p1
          · rw [if_neg q6] at p1
            cases y1 : rq_nu n t 1 9 (c + 1) with
            | error e => rw [y1] at p1; exact nomatch p1
            | ok b1 =>
              rw [y1] at p1
              have b2 := rq_nu_ok y1
              cases y2 : rq_ex n t 59 b1.2 with
              | error e => simp only [rq_bd, y2] at p1; exact nomatch p1
              | ok c2 =>
                simp only [rq_bd, y2] at p1
                have := Except.ok.inj p1
                rw [← this]
                exact ⟨rfl, b2.2.1, b2.2.2.1, by omega⟩
        have h5 := rq_kd_5 (t c)
        have hk2 := (rq_kcl hr.1 hk).2.1
        have hw2 := hw.ad (kd := a.1) (wt := a.2.1) hb.2.2.2 ⟨by rw [← hb.1]; omega, by rw [← hb.1, hk2]; exact h5⟩ ⟨hb.2.1, hb.2.2.1⟩
        rw [p1]
        show _ ∨ _
        by_cases q : n ≤ a.2.2
        · have ec : a.2.2 = n := by have := p2.2.1; omega
          have hso2 := m_sort (J := J) p2
          rw [if_pos (show rq_kc n t a.2.2 = 0 by unfold rq_kc; rw [if_neg (by omega)])] at hso2
          have e15 : I1 9 0 15 = 1 := by
            rcases p2.2.2.2.2 with ⟨_, e15⟩ | ⟨y, _⟩ | ⟨y, _⟩ | ⟨y, _⟩
            · exact e15
            · omega
            · have := (rq_dg_t.mp y).1; omega
            · have := (rq_dg_t.mp y).1; omega
          have h17 := p2.2.2.1
          have le0 : I1 9 0 17 ≤ 0 := by rw [h17]; decide
          exact Or.inr ⟨_, I1, if_pos q, p3, p4, fun res k => k120 p5 (ee_X9_ship_116 ⟨_, _, _, es_X9_isSort.v hso2, ee_X9_ship_120 ⟨fun _ => ⟨0, _, _, ee_X9_failed_0 ⟨fun _ => ⟨fun _ => ee_X9_failed_20 (ee_X9_failed_25 ⟨fun _ => ee_X9_failed_44 (ee_X9_failed_47 ⟨fun _ => rfl, fun z => absurd le0 z⟩), fun z => absurd le0 z⟩), fun z => absurd e15 z⟩, fun z => absurd h17 z⟩, k⟩, fun z => absurd rfl z⟩⟩)⟩
        · rcases ih (rq_ad s a.1 a.2.1) a.2.2 I1 (by rw [rq_ad_0]; omega) p2 p3 hw2 (by omega) with ⟨e, I2, t1, t2, t3⟩ | ⟨s2, I2, t1, t2, t3, t4⟩
          · exact Or.inl ⟨e, I2, (if_neg q).trans t1, p4.tr t2, k120 p5 t3⟩
          · exact Or.inr ⟨s2, I2, (if_neg q).trans t1, t2, p4.tr t3, fun res k => k120 p5 (t4 res k)⟩
end RQRL
