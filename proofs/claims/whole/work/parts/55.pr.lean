/-! ship: the class reads people -/
theorem rq_kd0 : ∀ b, b < 256 → v_X6_kindOf (fun _ _ _ => 0) (fun _ _ _ => 0) (nI b) = nI (rq_kd b) := by decide +kernel
def rq_prs (n : Nat) (t : Nat → Nat) : Except (Nat × Nat) (Nat → Nat) := rq_bd (rq_law n t) fun a => rq_ppl n t 7 a.1 a.2
section RQRP
variable {sc : Nat × (Nat → Int32)} {d : Nat} {I I1 I2 : sx_I} {J J1 J2 : sx_J} {s L : Nat → Nat} {n c m kd wt A D : Nat} {t : Nat → Nat} {x2 : Int32}
theorem a_102 (h0 : I 5 1 0 = nI m) : sx_E sc d cd_X5_addPerson 102 [some (.inr (.inr (5, 1))), some (.inl (nI kd)), some (.inl x2)] [] I J (none, sx_uI I 5 1 0 (nI (m + 1)), J) := by
  refine ee_X5_addPerson_102 (ee_X5_addPerson_112 ?_)
  rw [h0, nI_1]
def rq_a8 (I : sx_I) (kd D m : Nat) : sx_I := if kd < 4 then sx_uI I 5 1 8 (nI (rq_on D m)) else I
theorem a_77 (h0 : I 5 1 0 = nI m) (h8 : I 5 1 8 = nI D) (hD : D < 64) (hm : m < 6) (hk : kd ≤ 5) : sx_E sc d cd_X5_addPerson 77 [some (.inr (.inr (5, 1))), some (.inl (nI kd)), some (.inl x2)] [] I J (none, sx_uI (rq_a8 I kd D m) 5 1 0 (nI (m + 1)), J) := by
  unfold rq_a8
  by_cases q : kd < 4
  · rw [if_pos q]
    refine ee_X5_addPerson_77 ⟨fun z => absurd ((nI_eq (b := 4) (by omega) (by omega)).mp z) (by omega), fun _ => ⟨fun z => absurd ((nI_eq (b := 5) (by omega) (by omega)).mp z) (by omega), fun _ => ?_⟩⟩
    rw [h0, h8, rq_or D hD m hm]
    exact a_102 h0
  · rw [if_neg q]
    have e : kd = 4 ∨ kd = 5 := by omega
    refine ee_X5_addPerson_77 ⟨fun _ => a_102 h0, fun z => ⟨fun _ => a_102 h0, fun z2 => ?_⟩⟩
    rcases e with rfl | rfl
    · exact absurd rfl z
    · exact absurd rfl z2
def rq_aI (I : sx_I) (kd wt A D m : Nat) : sx_I := sx_uI (rq_a8 (sx_uI (sx_uI (sx_uI I 20 1 m (nI kd)) 21 1 m (nI wt)) 5 1 7 (nI (rq_on A m))) kd D m) 5 1 0 (nI (m + 1))
theorem e_addC (h0 : I 5 1 0 = nI m) (h7 : I 5 1 7 = nI A) (h8 : I 5 1 8 = nI D) (hA : A < 64) (hD : D < 64) (hm : m < 6) (hk : kd ≤ 5) (hw : wt ≤ 9) : sx_E sc d cd_X5_addPerson 0 [some (.inr (.inr (5, 1))), some (.inl (nI kd)), some (.inl (nI wt))] [] I J (none, rq_aI I kd wt A D m, sx_uJ J 11 1 m (lN (if kd = 5 then 2 * wt else wt))) := by
  have i6 : sx_in (nI m) 6 = true := sx_in_nI hm (by omega)
  have cl : (nI m).toNatClampNeg = m := nI_clamp (by omega)
  have k61 : ∀ {J1 : sx_J}, sx_E sc d cd_X5_addPerson 62 [some (.inr (.inr (5, 1))), some (.inl (nI kd)), some (.inl (nI wt))] [] (sx_uI (sx_uI I 20 1 m (nI kd)) 21 1 m (nI wt)) J1 (none, rq_aI I kd wt A D m, J1) := fun {J1} => by
    refine ee_X5_addPerson_62 ?_
    rw [show (sx_uI (sx_uI I 20 1 m (nI kd)) 21 1 m (nI wt)) 5 1 0 = nI m from h0, show (sx_uI (sx_uI I 20 1 m (nI kd)) 21 1 m (nI wt)) 5 1 7 = nI A from h7, rq_or A hA m hm]
    exact a_77 h0 h8 hD hm hk
  refine ee_X5_addPerson_0 ⟨fun z => absurd z (by rw [h0]; exact nI_pos (by omega)), fun _ => ⟨fun _ => ⟨by rw [h0]; exact i6, ?_⟩, fun z => absurd (by rw [h0]; exact nI_lt (b := 6) hm (by omega)) z⟩⟩
  rw [h0, cl]
  refine ee_X5_addPerson_27 ⟨by rw [show (sx_uI I 20 1 m (nI kd)) 5 1 0 = nI m from h0]; exact i6, ?_⟩
  rw [show (sx_uI I 20 1 m (nI kd)) 5 1 0 = nI m from h0, cl]
  refine ee_X5_addPerson_37 ⟨fun z => ?_, fun z => ?_⟩
  · have e : kd = 5 := (nI_eq (b := 5) (by omega) (by omega)).mp z
    rw [show (sx_uI (sx_uI I 20 1 m (nI kd)) 21 1 m (nI wt)) 5 1 0 = nI m from h0]
    refine ee_X5_addPerson_61 ⟨i6, ?_⟩
    rw [cl, if_pos e, nI_l (by omega), show (2 : Int64) = lN 2 from rfl, lN_mul]
    exact k61
  · have e : ¬ kd = 5 := fun q => z (by rw [q]; rfl)
    rw [show (sx_uI (sx_uI I 20 1 m (nI kd)) 21 1 m (nI wt)) 5 1 0 = nI m from h0]
    refine ee_X5_addPerson_61 ⟨i6, ?_⟩
    rw [cl, if_neg e, nI_l (by omega)]
    exact k61
theorem rq_aI_ne {x y z : Nat} (h : ¬ (x = 5 ∧ y = 1) ∧ ¬ (x = 20 ∧ y = 1) ∧ ¬ (x = 21 ∧ y = 1)) : rq_aI I kd wt A D m x y z = I x y z := by
  unfold rq_aI rq_a8
  split
  · exact (if_neg (by omega)).trans ((if_neg (by omega)).trans ((if_neg (by omega)).trans ((if_neg (by omega)).trans (if_neg (by omega)))))
  · exact (if_neg (by omega)).trans ((if_neg (by omega)).trans ((if_neg (by omega)).trans (if_neg (by omega))))
theorem rq_aI_5 {z : Nat} (h0 : z ≠ 0) (h7 : z ≠ 7) (h8 : z ≠ 8) : rq_aI I kd wt A D m 5 1 z = I 5 1 z := by
  unfold rq_aI rq_a8
  split
  · exact (if_neg (by omega)).trans ((if_neg (by omega)).trans ((if_neg (by omega)).trans ((if_neg (by omega)).trans (if_neg (by omega)))))
  · exact (if_neg (by omega)).trans ((if_neg (by omega)).trans ((if_neg (by omega)).trans (if_neg (by omega))))
theorem rq_aI_7 : rq_aI I kd wt A D m 5 1 7 = nI (rq_on A m) := by
  unfold rq_aI rq_a8; split <;> rfl
theorem rq_aI_8 (h8 : I 5 1 8 = nI D) : rq_aI I kd wt A D m 5 1 8 = nI (if kd < 4 then rq_on D m else D) := by
  unfold rq_aI rq_a8; split
  · rfl
  · exact h8
theorem rq_aI_20 {z : Nat} : rq_aI I kd wt A D m 20 1 z = if z = m then nI kd else I 20 1 z := by
  have e : rq_aI I kd wt A D m 20 1 z = (sx_uI (sx_uI I 20 1 m (nI kd)) 21 1 m (nI wt)) 20 1 z := by
    unfold rq_aI rq_a8; split <;> rfl
  rw [e]
  show (if 20 = 21 ∧ (1 : Nat) = 1 ∧ z = m then nI wt else if (20 : Nat) = 20 ∧ (1 : Nat) = 1 ∧ z = m then nI kd else I 20 1 z) = _
  rw [if_neg (by omega)]
  by_cases q : z = m
  · rw [if_pos ⟨rfl, rfl, q⟩, if_pos q]
  · rw [if_neg (fun w => q w.2.2), if_neg q]
theorem rq_aI_21 {z : Nat} : rq_aI I kd wt A D m 21 1 z = if z = m then nI wt else I 21 1 z := by
  have e : rq_aI I kd wt A D m 21 1 z = (sx_uI (sx_uI I 20 1 m (nI kd)) 21 1 m (nI wt)) 21 1 z := by
    unfold rq_aI rq_a8; split <;> rfl
  rw [e]
  show (if (21 : Nat) = 21 ∧ (1 : Nat) = 1 ∧ z = m then nI wt else if (21 : Nat) = 20 ∧ (1 : Nat) = 1 ∧ z = m then nI kd else I 21 1 z) = _
  by_cases q : z = m
  · rw [if_pos ⟨rfl, rfl, q⟩, if_pos q]
  · rw [if_neg (fun w => q w.2.2), if_neg q, if_neg (by omega)]
theorem rq_R.ad (hR : rq_R I J 1 s 0 0 (rq_A s) (rq_D s) 0 (rq_L0 s)) (h : rq_tw s) (h6 : s 0 < 6) : rq_R (rq_aI I kd wt (rq_A s) (rq_D s) (s 0)) (sx_uJ J 11 1 (s 0) (lN (if kd = 5 then 2 * wt else wt))) 1 (rq_ad s kd wt) 0 0 (rq_A (rq_ad s kd wt)) (rq_D (rq_ad s kd wt)) 0 (rq_L0 (rq_ad s kd wt)) := by
  obtain ⟨r0, r1, r2, r3, r4, r5, r6, r7, r8, r9, rp⟩ := hR
  have hz := h.2.2.2.2.2.2.2.2.2.2 (11 + 4 * s 0) (by omega)
  rw [rq_A_ad, rq_D_ad h6 hz]
  refine ⟨?_, ?_, ?_, ?_, ?_, ?_, ?_, rq_aI_7, rq_aI_8 r8, ?_, fun p hp => ?_⟩
  · rw [rq_ad_0]; unfold rq_aI; rfl
  · rw [rq_aI_5 (by omega) (by omega) (by omega), rq_ad_lo (by omega) (by omega)]; exact r1
  · rw [rq_aI_5 (by omega) (by omega) (by omega), rq_ad_lo (by omega) (by omega)]; exact r2
  · rw [rq_aI_5 (by omega) (by omega) (by omega), rq_ad_lo (by omega) (by omega)]; exact r3
  · rw [rq_aI_5 (by omega) (by omega) (by omega)]; exact r4
  · rw [rq_aI_5 (by omega) (by omega) (by omega)]; exact r5
  · rw [rq_aI_5 (by omega) (by omega) (by omega), rq_ad_lo (by omega) (by omega)]; exact r6
  · rw [rq_aI_5 (by omega) (by omega) (by omega)]; exact r9
  · have hp1 : p < s 0 + 1 := by rw [rq_ad_0] at hp; exact hp
    rw [rq_aI_20, rq_aI_21]
    unfold rq_L0
    rw [rq_ad_0, if_pos hp1]
    by_cases q : p = s 0
    · rw [if_pos q, if_pos q, q, rq_ad_8, rq_ad_9]
      exact ⟨rfl, rfl, if_pos ⟨rfl, rfl, rfl⟩⟩
    · rw [if_neg q, if_neg q, rq_ad_lo (by omega) (by omega), rq_ad_lo (by omega) (by omega)]
      obtain ⟨a1, a2, a3⟩ := rp p (by omega)
      refine ⟨a1, a2, ?_⟩
      unfold rq_L0 at a3
      rw [if_pos (by omega)] at a3
      exact (if_neg (fun w => q w.2.2)).trans a3
theorem c_kind (hT : rq_tp I n t) : v_X6_kindOf I J (if c < n then nI (t c) else Int32.ofInt (-1)) = nI (rq_kc n t c) := by
  unfold rq_kc
  by_cases q : c < n
  · rw [if_pos q, if_pos q]; exact rq_kd0 (t c) (hT.2.2 c q).2
  · rw [if_neg q, if_neg q]; rfl
theorem e_perC (hO : rq_cO I J I1 J1 n t s (rq_L0 s) (rq_A s) (rq_D s) c) (h : rq_tw s) (hcn : c ≤ n) : (∃ e I2, rq_per1 n t (s 0) c = .error e ∧ rq_cE I J I2 J1 e ∧ sx_E sc (d + 2) cd_X6_readsPerson 0 [some (.inr (.inr (6, 0))), some (.inr (.inr (5, 1))), none] [] I1 J1 (some (.inl 0), I2, J1)) ∨ (∃ a I2 J2, rq_per1 n t (s 0) c = .ok a ∧ rq_cO I J I2 J2 n t (rq_ad s a.1 a.2.1) (rq_L0 (rq_ad s a.1 a.2.1)) (rq_A (rq_ad s a.1 a.2.1)) (rq_D (rq_ad s a.1 a.2.1)) a.2.2 ∧ rq_tw (rq_ad s a.1 a.2.1) ∧ a.2.2 ≤ n ∧ sx_E sc (d + 2) cd_X6_readsPerson 0 [some (.inr (.inr (6, 0))), some (.inr (.inr (5, 1))), none] [] I1 J1 (some (.inl 1), I2, J2)) := by
  have hT := hO.2.1
  have hn := hT.1
  have hc := hO.2.2.1
  have w := h.1
  have hk5 := rq_kd_5 (t c)
  have hkc : rq_kc n t c ≤ 5 := by unfold rq_kc; split <;> omega
  have k11 : ∀ {res : Option sx_V × sx_I × sx_J}, sx_E sc (d + 2) cd_X6_readsPerson 11 [some (.inr (.inr (6, 0))), some (.inr (.inr (5, 1))), none] [.inl (nI (rq_kc n t c))] I1 J1 res → sx_E sc (d + 2) cd_X6_readsPerson 0 [some (.inr (.inr (6, 0))), some (.inr (.inr (5, 1))), none] [] I1 J1 res := fun k => ee_X6_readsPerson_0 ⟨_, _, _, e_byte hT (c := c) (by omega) hc, ee_X6_readsPerson_8 ⟨_, _, _, es_X6_kindOf.v (c_kind hT), k⟩⟩
  have h0 : I1 5 1 0 = nI (s 0) := hO.2.2.2.2.1
  by_cases q0 : rq_kc n t c = 0
  · refine Or.inl ⟨(1, c), _, by unfold rq_per1; rw [if_pos q0], hO.bad 1, k11 (ee_X6_readsPerson_11 ⟨fun _ => ⟨_, _, _, es_X6_fails, ee_X6_readsPerson_21 ⟨Or.inl rfl, rfl⟩⟩, fun z => absurd (by rw [q0]; rfl) z⟩)⟩
  · have nz : ¬ nI (rq_kc n t c) = 0 := fun z => q0 ((rq_nI0 (by omega)).mp z)
    have hlt : c < n := by
      rcases Nat.lt_or_ge c n with q | q
      · exact q
      · exact absurd (show rq_kc n t c = 0 by unfold rq_kc; rw [if_neg (by omega)]) q0
    by_cases q6 : 6 ≤ s 0
    · refine Or.inl ⟨(3, c), _, by unfold rq_per1; rw [if_neg q0, if_pos q6], hO.bad 3, k11 (ee_X6_readsPerson_11 ⟨fun z => absurd z nz, fun _ => ⟨fun z => absurd z (by rw [h0]; exact nI_nlt (b := 6) q6 (by omega)), fun _ => ⟨_, _, _, es_X6_fails, ee_X6_readsPerson_36 ⟨Or.inl rfl, rfl⟩⟩⟩⟩)⟩
    · have o1 := hO.u2 (c + 1)
      have k47 : ∀ {res : Option sx_V × sx_I × sx_J}, sx_E sc (d + 2) cd_X6_readsPerson 47 [some (.inr (.inr (6, 0))), some (.inr (.inr (5, 1))), some (.inl (nI (rq_kc n t c)))] [] (sx_uI I1 6 0 2 (nI (c + 1))) J1 res → sx_E sc (d + 2) cd_X6_readsPerson 0 [some (.inr (.inr (6, 0))), some (.inr (.inr (5, 1))), none] [] I1 J1 res := fun k => by
        refine k11 (ee_X6_readsPerson_11 ⟨fun z => absurd z nz, fun _ => ⟨fun _ => ?_, fun z => absurd (by rw [h0]; exact nI_lt (b := 6) (by omega) (by omega)) z⟩⟩)
        rw [hc, nI_1]; exact k
      rcases e_num (sc := sc) (d := d) (J := J1) (x1 := 1) (x2 := 9) (lo := 1) (hi := 9) rfl rfl (by omega) (by omega) o1.2.1 o1.2.2.1 (by omega) with ⟨a1, p1, k1⟩ | ⟨f, p1, k1⟩
      · have b1 := rq_nu_ok p1
        have o2 := (o1.u4 a1.1).u2 a1.2
        rcases e_pass (sc := sc) (d := d) (J := J1) (x := 59) (b := 59) rfl (by omega) o2.2.1 o2.2.2.1 b1.2.2.2.1 with ⟨c2, p2, n2, k2⟩ | ⟨p2, k2⟩
        · have o3 := o2.u2 c2
          have hR := o3.2.2.2.2
          have hA6 := rq_64 (rq_A_lt s) w
          have hD6 := rq_64 (rq_D_lt s) w
          have hw := h.ad (kd := rq_kc n t c) (wt := a1.1) (by omega) ⟨by omega, hkc⟩ ⟨b1.2.1, b1.2.2.1⟩
          refine Or.inr ⟨(rq_kc n t c, a1.1, c2), _, _, by unfold rq_per1; rw [if_neg q0, if_neg q6]; simp only [p1, p2, rq_bd], ⟨o3.1.tr ?_, o3.2.1.fr (rq_aI_ne (by omega)) (fun _ => rq_aI_ne (by omega)), (rq_aI_ne (by omega)).trans o3.2.2.1, (rq_aI_ne (by omega)).trans o3.2.2.2.1, hR.ad h (by omega)⟩, hw, n2, k47 (ee_X6_readsPerson_47 ⟨_, _, _, k1, ee_X6_readsPerson_54 ⟨fun z => absurd z n10, fun _ => ⟨_, _, _, k2, ee_X6_readsPerson_63 ⟨fun z => absurd z n10, fun _ => ⟨_, _, e_addC hR.1 hR.2.2.2.2.2.2.2.1 hR.2.2.2.2.2.2.2.2.1 hA6 hD6 (by omega) hkc b1.2.2.1, ee_X6_readsPerson_77 rfl⟩⟩⟩⟩⟩)⟩
          refine (show rq_same _ _ _ _ from ⟨fun x y z q => rq_aI_ne ?_, fun x y z q => if_neg (fun v => q ?_)⟩).sm
          · unfold rq_scr rq_cs at q; omega
          · unfold rq_scr rq_cs; omega
        · exact Or.inl ⟨_, _, by unfold rq_per1; rw [if_neg q0, if_neg q6]; simp only [p1, p2, rq_bd], o2.bad 1, k47 (ee_X6_readsPerson_47 ⟨_, _, _, k1, ee_X6_readsPerson_54 ⟨fun z => absurd z n10, fun _ => ⟨_, _, _, k2, ee_X6_readsPerson_63 ⟨fun _ => rfl, fun z => absurd rfl z⟩⟩⟩⟩)⟩
      · exact Or.inl ⟨_, _, by unfold rq_per1; rw [if_neg q0, if_neg q6]; simp only [p1, rq_bd], o1.bad f, k47 (ee_X6_readsPerson_47 ⟨_, _, _, k1, ee_X6_readsPerson_54 ⟨fun _ => rfl, fun z => absurd rfl z⟩⟩)⟩
theorem lo_pplC : ∀ (m k : Nat) (s : Nat → Nat) (c : Nat) (I1 : sx_I) (J1 : sx_J), k + m = 7 → s 0 = k → (k = 0 ∨ c < n) → rq_cO I J I1 J1 n t s (rq_L0 s) (rq_A s) (rq_D s) c → rq_tw s → c ≤ n → (∃ e I2 J2, rq_ppl n t m s c = .error e ∧ rq_cE I J I2 J2 e ∧ sx_E sc (d + 3) cd_X6_readsPeople 2 [some (.inr (.inr (6, 0))), some (.inr (.inr (5, 1))), some (.inl (nI k))] [] I1 J1 (some (.inl 0), I2, J2)) ∨ (∃ s2 c2 I2 J2, rq_ppl n t m s c = .ok s2 ∧ rq_cO I J I2 J2 n t s2 (rq_L0 s2) (rq_A s2) (rq_D s2) c2 ∧ rq_tw s2 ∧ 0 < s2 0 ∧ sx_E sc (d + 3) cd_X6_readsPeople 2 [some (.inr (.inr (6, 0))), some (.inr (.inr (5, 1))), some (.inl (nI k))] [] I1 J1 (some (.inl 1), I2, J2)) := by
  intro m
  induction m with
  | zero => intro k s c I1 J1 hk hs _ _ h _; have := h.1; omega
  | succ m ih =>
    intro k s c I1 J1 hk hs hkc hO h hcn
    have hn := hO.2.1.1
    have h1 : I1 6 0 1 = nI n := hO.2.1.2.1
    have h2 := hO.2.2.1
    have w := h.1
    have k23 : ∀ {res : Option sx_V × sx_I × sx_J}, sx_E sc (d + 3) cd_X6_readsPeople 23 [some (.inr (.inr (6, 0))), some (.inr (.inr (5, 1))), some (.inl (nI k))] [] I1 J1 res → sx_E sc (d + 3) cd_X6_readsPeople 2 [some (.inr (.inr (6, 0))), some (.inr (.inr (5, 1))), some (.inl (nI k))] [] I1 J1 res := fun kk => ee_X6_readsPeople_2 ⟨fun z => absurd z (nI_nlt (a := 6) (by omega) (by omega)), fun _ => ⟨fun _ => kk, fun z => ⟨fun z2 => by
      have q : ¬ k = 0 := fun y => z (by rw [y]; rfl)
      rw [h1, h2] at z2
      have := (nI_leI (by omega) (by omega)).mp z2
      omega, fun _ => kk⟩⟩⟩
    rw [rq_ppl]
    rcases e_perC (sc := sc) (d := d) hO h hcn with ⟨e, I2, p1, p2, p3⟩ | ⟨a, I2, J2, p1, p2, p3, p4, p5⟩
    · exact Or.inl ⟨e, I2, J1, by rw [p1]; rfl, p2, k23 (ee_X6_readsPeople_23 ⟨_, _, _, p3, ee_X6_readsPeople_28 ⟨fun _ => rfl, fun z => absurd rfl z⟩⟩)⟩
    · have e0 : rq_ad s a.1 a.2.1 0 = k + 1 := by rw [rq_ad_0, hs]
      have k28 : ∀ {res : Option sx_V × sx_I × sx_J}, sx_E sc (d + 3) cd_X6_readsPeople 2 [some (.inr (.inr (6, 0))), some (.inr (.inr (5, 1))), some (.inl (nI (k + 1)))] [] I2 J2 res → sx_E sc (d + 3) cd_X6_readsPeople 2 [some (.inr (.inr (6, 0))), some (.inr (.inr (5, 1))), some (.inl (nI k))] [] I1 J1 res := fun kk => k23 (ee_X6_readsPeople_23 ⟨_, _, _, p5, ee_X6_readsPeople_28 ⟨fun z => absurd z n10, fun _ => by rw [nI_1]; exact kk⟩⟩)
      have hk6 : k + 1 ≤ 6 := by have := p3.1; omega
      rw [p1]
      show _ ∨ _
      by_cases q : n ≤ a.2.2
      · refine Or.inr ⟨rq_ad s a.1 a.2.1, a.2.2, I2, J2, if_pos q, p2, p3, by omega, k28 (ee_X6_readsPeople_2 ⟨fun z => absurd z (nI_nlt (a := 6) (by omega) (by omega)), fun _ => ⟨fun z => absurd ((rq_nI0 (by omega)).mp z) (by omega), fun _ => ⟨fun _ => rfl, fun z => absurd ?_ z⟩⟩⟩)⟩
        rw [p2.2.1.2.1, p2.2.2.1]; exact nI_le q (by omega)
      · rcases ih (k + 1) (rq_ad s a.1 a.2.1) a.2.2 I2 J2 (by omega) e0 (Or.inr (by omega)) p2 p3 p4 with ⟨e, I3, J3, t1, t2, t3⟩ | ⟨s2, c2, I3, J3, t1, t2, t3, t4, t5⟩
        · exact Or.inl ⟨e, I3, J3, (if_neg q).trans t1, t2, k28 t3⟩
        · exact Or.inr ⟨s2, c2, I3, J3, (if_neg q).trans t1, t2, t3, t4, k28 t5⟩
theorem e_readC (hT : rq_tp I n t) : (∃ e I2 J2, rq_prs n t = .error e ∧ rq_cE I J I2 J2 e ∧ sx_E sc (d + 4) cd_X6_reads 0 [some (.inr (.inr (6, 0))), some (.inr (.inr (5, 1)))] [] I J (some (.inl 0), I2, J2)) ∨ (∃ s2 c2 I2 J2, rq_prs n t = .ok s2 ∧ rq_cO I J I2 J2 n t s2 (rq_L0 s2) (rq_A s2) (rq_D s2) c2 ∧ rq_tw s2 ∧ 0 < s2 0 ∧ sx_E sc (d + 4) cd_X6_reads 0 [some (.inr (.inr (6, 0))), some (.inr (.inr (5, 1)))] [] I J (some (.inl 1), I2, J2)) := by
  let I1 : sx_I := i_X5_clear (sx_uI I 6 0 2 0) J 1
  have s1 : rq_sm rq_c6 I J I1 J := rq_u2.tr (rq_u5.tr (rq_u5.tr (rq_u5.tr (rq_u5.tr (rq_u5.tr (rq_u5.tr (rq_u5.tr (rq_u5.tr (rq_u5.tr rq_u5)))))))))
  have hO : rq_cO I J I1 J n t rq_s0 (rq_L0 rq_s0) 0 0 0 := ⟨s1, hT.fr rfl (fun _ => rfl), rfl, rfl, ⟨rfl, rfl, rfl, rfl, rfl, rfl, rfl, rfl, rfl, rfl, fun p hp => absurd (show p < 0 from hp) (by omega)⟩⟩
  have k9 : ∀ {res : Option sx_V × sx_I × sx_J}, sx_E sc (d + 4) cd_X6_reads 9 [some (.inr (.inr (6, 0))), some (.inr (.inr (5, 1)))] [] I1 J res → sx_E sc (d + 4) cd_X6_reads 0 [some (.inr (.inr (6, 0))), some (.inr (.inr (5, 1)))] [] I J res := fun k => ee_X6_reads_0 (ee_X6_reads_5 ⟨_, _, es_X5_clear, k⟩)
  rcases e_lawC (sc := sc) (d := d + 1) hO with ⟨e, I2, p1, p2, p3⟩ | ⟨a, I2, p1, p2, p3, p4, p5, p6⟩
  · exact Or.inl ⟨e, I2, J, by unfold rq_prs; rw [p1]; rfl, p2, k9 (ee_X6_reads_9 ⟨_, _, _, p3, ee_X6_reads_14 ⟨fun _ => rfl, fun z => absurd rfl z⟩⟩)⟩
  · have hO2 : rq_cO I J I2 J n t a.1 (rq_L0 a.1) (rq_A a.1) (rq_D a.1) a.2 := by
      have eA : rq_A a.1 = 0 := by unfold rq_A; rw [p3]; rfl
      have eD : rq_D a.1 = 0 := by unfold rq_D rq_Dr; rw [p3]; rfl
      rw [eA, eD]
      obtain ⟨q1, q2, q3, q4, r0, r1, r2, r3, r4, r5, r6, r7, r8, r9, rp⟩ := p2
      exact ⟨q1, q2, q3, q4, r0, r1, r2, r3, r4, r5, r6, r7, r8, r9, fun p hp => absurd hp (by omega)⟩
    rcases lo_pplC (sc := sc) (d := d) 7 0 a.1 a.2 I2 J rfl p3 (Or.inl rfl) hO2 p4 p5 with ⟨e, I3, J3, t1, t2, t3⟩ | ⟨s2, c2, I3, J3, t1, t2, t3, t4, t5⟩
    · exact Or.inl ⟨e, I3, J3, by unfold rq_prs; rw [p1]; exact t1, t2, k9 (ee_X6_reads_9 ⟨_, _, _, p6, ee_X6_reads_14 ⟨fun z => absurd z n10, fun _ => ⟨_, _, _, ee_X6_readsPeople_0 t3, ee_X6_reads_22 ⟨fun _ => rfl, fun z => absurd rfl z⟩⟩⟩⟩)⟩
    · exact Or.inr ⟨s2, c2, I3, J3, by unfold rq_prs; rw [p1]; exact t1, t2, t3, t4, k9 (ee_X6_reads_9 ⟨_, _, _, p6, ee_X6_reads_14 ⟨fun z => absurd z n10, fun _ => ⟨_, _, _, ee_X6_readsPeople_0 t5, ee_X6_reads_22 ⟨fun z => absurd z n10, fun _ => rfl⟩⟩⟩⟩)⟩
end RQRP
