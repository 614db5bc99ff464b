/-! ship: the class reads -/
def rq_c6 (a b k : Nat) : Prop := a = 6 ∧ (k = 1 ∨ k = 3)
def rq_tp (I : sx_I) (n : Nat) (t : Nat → Nat) : Prop := n ≤ 80 ∧ I 6 0 1 = nI n ∧ ∀ k, k < n → I 10 0 k = nI (t k) ∧ t k < 256
section RQRC
variable {sc : Nat × (Nat → Int32)} {d : Nat} {I I1 I2 : sx_I} {J J1 J2 : sx_J} {s L : Nat → Nat} {n c b lo hi A D h l : Nat} {t : Nat → Nat} {st : Int32}
theorem rq_tp.fr (hT : rq_tp I n t) (e : I1 6 0 1 = I 6 0 1) (e2 : ∀ k, I1 10 0 k = I 10 0 k) : rq_tp I1 n t := ⟨hT.1, e.trans hT.2.1, fun k hk => ⟨(e2 k).trans (hT.2.2 k hk).1, (hT.2.2 k hk).2⟩⟩
theorem e_byte (hT : rq_tp I n t) (hc : c ≤ 90) {x : Int32} (hx : x = nI c) : sx_E sc d cd_X6_byteAt 0 [some (.inr (.inr (6, 0))), some (.inl x)] [] I J (some (.inl (if c < n then nI (t c) else Int32.ofInt (-1))), I, J) := by
  have hn := hT.1
  subst hx
  refine (es_X6_byteAt (fun _ _ q => ?_)).v ?_
  · have : ¬ 80 ≤ c := fun z => q (nI_le (a := 80) z (by omega))
    exact sx_in_nI (by omega) (by omega)
  · rw [v_X6_byteAt, if_neg (nI_pos (by omega)), hT.2.1]
    by_cases q : c < n
    · rw [if_neg (nI_ge q (by omega)), if_neg (show ¬ (80 : Int32) ≤ nI c from nI_ge (b := 80) (by omega) (by omega)), nI_clamp (by omega), (hT.2.2 c q).1, if_pos q]
    · rw [if_pos (nI_le (by omega) (by omega)), if_neg q]
theorem e_pass {x : Int32} (hx : x = nI b) (hb : b < 256) (hT : rq_tp I n t) (hc : I 6 0 2 = nI c) (hcn : c ≤ n) : (∃ c2, rq_ex n t b c = .ok c2 ∧ c2 ≤ n ∧ sx_E sc (d + 1) cd_X6_passes 0 [some (.inr (.inr (6, 0))), some (.inl x)] [] I J (some (.inl 1), sx_uI I 6 0 2 (nI c2), J)) ∨ (rq_ex n t b c = .error (1, c) ∧ sx_E sc (d + 1) cd_X6_passes 0 [some (.inr (.inr (6, 0))), some (.inl x)] [] I J (some (.inl 0), sx_uI I 6 0 3 1, J)) := by
  have hn := hT.1
  subst hx
  unfold rq_ex
  by_cases q : c < n ∧ t c = b
  · refine Or.inl ⟨c + 1, if_pos q, by omega, ee_X6_passes_0 ⟨_, _, _, e_byte hT (c := c) (by omega) hc, ee_X6_passes_8 ⟨fun _ => ee_X6_passes_28 ?_, fun z => absurd (by rw [if_pos q.1, q.2]) z⟩⟩⟩
    rw [hc, nI_1]
  · refine Or.inr ⟨if_neg q, ee_X6_passes_0 ⟨_, _, _, e_byte hT (c := c) (by omega) hc, ee_X6_passes_8 ⟨fun z => ?_, fun _ => ⟨_, _, _, es_X6_fails, ee_X6_passes_17 ⟨Or.inl rfl, rfl⟩⟩⟩⟩⟩
    exfalso
    by_cases q2 : c < n
    · rw [if_pos q2] at z
      have := (hT.2.2 c q2).2
      exact q ⟨q2, (nI_eq (by omega) (by omega)).mp z⟩
    · rw [if_neg q2] at z
      have z2 := congrArg Int32.toInt z
      rw [nI_toInt (by omega)] at z2
      have : (Int32.ofInt (-1)).toInt = -1 := by decide
      omega
theorem c_figure (hT : rq_tp I n t) : v_X6_isFigure I J (if c < n then nI (t c) else Int32.ofInt (-1)) = if rq_dg n t c = true then 1 else 0 := by
  rw [v_X6_isFigure]
  by_cases q : c < n
  · have := (hT.2.2 c q).2
    rw [if_pos q]
    by_cases q1 : t c < 48
    · rw [if_pos (show nI (t c) < 48 from nI_lt (b := 48) q1 (by omega)), if_neg (fun z => by have := rq_dg_t.mp z; omega)]
    · rw [if_neg (show ¬ nI (t c) < 48 from nI_nlt (b := 48) (by omega) (by omega))]
      by_cases q2 : 57 < t c
      · rw [if_pos (show (57 : Int32) < nI (t c) from nI_lt (a := 57) q2 (by omega)), if_neg (fun z => by have := rq_dg_t.mp z; omega)]
      · rw [if_neg (show ¬ (57 : Int32) < nI (t c) from nI_nlt (a := 57) (by omega) (by omega)), if_pos (rq_dg_t.mpr ⟨q, by omega, by omega⟩)]
  · rw [if_neg q, if_neg (fun z => q (rq_dg_t.mp z).1)]
    rfl
/-- a figure more, and no more -/
theorem e_fig {x1 x2 : Int32} {k v : Nat} (hT : rq_tp I n t) (hc : I 6 0 2 = nI c) (hcn : c ≤ n) (hk : k < 3) {res : Option sx_V × sx_I × sx_J} (k1 : rq_dg n t (c + k) = true → sx_E sc (d + 1) cd_X6_isNumber 5 [some (.inr (.inr (6, 0))), some (.inl x1), some (.inl x2), some (.inl (nI (k + 1))), some (.inl (nI (v * 10 + t (c + k) - 48)))] [] I J res) (k2 : ¬ rq_dg n t (c + k) = true → sx_E sc (d + 1) cd_X6_isNumber 53 [some (.inr (.inr (6, 0))), some (.inl x1), some (.inl x2), some (.inl (nI k)), some (.inl (nI v))] [] I J res) : sx_E sc (d + 1) cd_X6_isNumber 5 [some (.inr (.inr (6, 0))), some (.inl x1), some (.inl x2), some (.inl (nI k)), some (.inl (nI v))] [] I J res := by
  have hn := hT.1
  have ex : I 6 0 2 + nI k = nI (c + k) := by rw [hc, nI_add]
  refine ee_X6_isNumber_5 ⟨fun z => absurd z (nI_ge (b := 3) hk (by omega)), fun _ => ⟨_, _, _, e_byte hT (c := c + k) (by omega) ex, ee_X6_isNumber_20 ⟨_, _, _, es_X6_isFigure.v (c_figure hT), ?_⟩⟩⟩
  by_cases q : rq_dg n t (c + k) = true
  · rw [if_pos q]
    have dg := rq_dg_t.mp q
    refine ee_X6_isNumber_23 ⟨fun z => absurd z n10, fun _ => ⟨_, _, _, e_byte hT (c := c + k) (by omega) ex, ee_X6_isNumber_41 ?_⟩⟩
    rw [if_pos dg.1, nI_1, show (10 : Int32) = nI 10 from rfl, pk_mul, nI_add, show (48 : Int32) = nI 48 from rfl, pk_sub (by omega)]
    exact k1 q
  · rw [if_neg q]
    exact ee_X6_isNumber_23 ⟨fun _ => k2 q, fun z => absurd rfl z⟩
theorem e_num {x1 x2 : Int32} (h1 : x1 = nI lo) (h2 : x2 = nI hi) (hlo : lo < 256) (hhi : hi < 256) (hT : rq_tp I n t) (hc : I 6 0 2 = nI c) (hcn : c ≤ n) : (∃ a, rq_nu n t lo hi c = .ok a ∧ sx_E sc (d + 1) cd_X6_isNumber 0 [some (.inr (.inr (6, 0))), some (.inl x1), some (.inl x2), none, none] [] I J (some (.inl 1), sx_uI (sx_uI I 6 0 4 (nI a.1)) 6 0 2 (nI a.2), J)) ∨ (∃ f, rq_nu n t lo hi c = .error (f, c) ∧ sx_E sc (d + 1) cd_X6_isNumber 0 [some (.inr (.inr (6, 0))), some (.inl x1), some (.inl x2), none, none] [] I J (some (.inl 0), sx_uI I 6 0 3 (nI f), J)) := by
  subst h1; subst h2
  have hn := hT.1
  have hl := rq_nl_lt (n := n) (t := t) (c := c)
  have k63 : ∀ {k v : Nat}, sx_E sc (d + 1) cd_X6_isNumber 63 [some (.inr (.inr (6, 0))), some (.inl (nI lo)), some (.inl (nI hi)), some (.inl (nI k)), some (.inl (nI v))] [] I J (some (.inl 0), sx_uI I 6 0 3 (nI 1), J) := ee_X6_isNumber_63 ⟨_, _, _, es_X6_fails, ee_X6_isNumber_68 ⟨Or.inl rfl, rfl⟩⟩
  have go : ∀ {res : Option sx_V × sx_I × sx_J}, ((rq_nl n t c).1 = 0 → ∀ {k v : Nat}, sx_E sc (d + 1) cd_X6_isNumber 63 [some (.inr (.inr (6, 0))), some (.inl (nI lo)), some (.inl (nI hi)), some (.inl (nI k)), some (.inl (nI v))] [] I J res) → ((rq_nl n t c).1 ≠ 0 → sx_E sc (d + 1) cd_X6_isNumber 53 [some (.inr (.inr (6, 0))), some (.inl (nI lo)), some (.inl (nI hi)), some (.inl (nI (rq_nl n t c).1)), some (.inl (nI (rq_nl n t c).2))] [] I J res) → sx_E sc (d + 1) cd_X6_isNumber 0 [some (.inr (.inr (6, 0))), some (.inl (nI lo)), some (.inl (nI hi)), none, none] [] I J res := fun {res} ka kb => by
    refine ee_X6_isNumber_0 (e_fig (k := 0) (v := 0) hT hc hcn (by omega) (fun q0 => e_fig (k := 1) hT hc hcn (by omega) (fun q1 => e_fig (k := 2) hT hc hcn (by omega) (fun q2 => ?_) (fun q2 => ?_)) (fun q1 => ?_)) (fun q0 => ?_))
    · have e : (rq_nl n t c).1 = 0 := by unfold rq_nl; rw [if_pos (show rq_dg n t c = true from q0), if_pos q1, if_pos q2]
      exact ee_X6_isNumber_5 ⟨fun _ => ee_X6_isNumber_53 ⟨fun _ => ka e, fun _ => ⟨fun z => absurd z (by decide), fun _ => ka e⟩⟩, fun z => absurd (by decide) z⟩
    · have e : rq_nl n t c = (2, (t c - 48) * 10 + t (c + 1) - 48) := by unfold rq_nl; rw [if_pos (show rq_dg n t c = true from q0), if_pos q1, if_neg q2]
      have z := kb (by rw [e]; show (2 : Nat) ≠ 0; omega)
      rw [e] at z
      rw [show (0 * 10 + t (c + 0) - 48) * 10 + t (c + 1) - 48 = (t c - 48) * 10 + t (c + 1) - 48 by rw [Nat.zero_mul, Nat.zero_add, Nat.add_zero]]
      exact z
    · have e : rq_nl n t c = (1, t c - 48) := by unfold rq_nl; rw [if_pos (show rq_dg n t c = true from q0), if_neg q1]
      have z := kb (by rw [e]; show (1 : Nat) ≠ 0; omega)
      rw [e] at z
      rw [show 0 * 10 + t (c + 0) - 48 = t c - 48 by rw [Nat.zero_mul, Nat.zero_add, Nat.add_zero]]
      exact z
    · have e : (rq_nl n t c).1 = 0 := by unfold rq_nl; rw [if_neg (show ¬ rq_dg n t c = true from q0)]
      exact ee_X6_isNumber_53 ⟨fun _ => ka e, fun z => absurd (by decide) z⟩
  by_cases q : (rq_nl n t c).1 = 0
  · exact Or.inr ⟨1, by unfold rq_nu; rw [if_pos q], go (fun _ => k63) (fun z => absurd q z)⟩
  · have hle := rq_nl_le q
    have h2 : (rq_nl n t c).1 ≤ 2 := by
      unfold rq_nl; repeat' split
      all_goals (dsimp only; omega)
    by_cases q2 : lo ≤ (rq_nl n t c).2 ∧ (rq_nl n t c).2 ≤ hi
    · refine Or.inl ⟨((rq_nl n t c).2, c + (rq_nl n t c).1), by unfold rq_nu; rw [if_neg q, if_pos q2], go (fun z => absurd z q) (fun _ => ee_X6_isNumber_53 ⟨fun z => absurd z (nI_nlt (b := 1) (by omega) (by omega)), fun _ => ⟨fun _ => ⟨_, _, _, es_X8_isOutside.v (rq_oI0 (nI_le q2.1 (by omega)) (nI_le q2.2 (by omega))), ee_X6_isNumber_76 ⟨fun _ => ee_X6_isNumber_91 (ee_X6_isNumber_101 ?_), fun z => absurd rfl z⟩⟩, fun z => absurd (nI_le (b := 2) h2 (by omega)) z⟩⟩)⟩
      rw [show (sx_uI I 6 0 4 (nI (rq_nl n t c).2)) 6 0 2 = nI c from hc, nI_add]
    · exact Or.inr ⟨2, by unfold rq_nu; rw [if_neg q, if_neg q2], go (fun z => absurd z q) (fun _ => ee_X6_isNumber_53 ⟨fun z => absurd z (nI_nlt (b := 1) (by omega) (by omega)), fun _ => ⟨fun _ => ⟨_, _, _, es_X8_isOutside.v (rq_oI1 (fun z => q2 ⟨(nI_leI (by omega) (by omega)).mp z.1, (nI_leI (by omega) (by omega)).mp z.2⟩)), ee_X6_isNumber_76 ⟨fun z => absurd z n10, fun _ => ⟨_, _, _, es_X6_fails, ee_X6_isNumber_84 ⟨Or.inl rfl, rfl⟩⟩⟩⟩, fun z => absurd (nI_le (b := 2) h2 (by omega)) z⟩⟩)⟩
theorem rq_R.u123 {j v : Nat} (hj : j = 1 ∨ j = 2 ∨ j = 3) (hR : rq_R I J 1 s h l A D st L) : rq_R (sx_uI I 5 1 j (nI v)) J 1 (rq_up s j v) h l A D st L := by
  obtain ⟨r0, r1, r2, r3, r4, r5, r6, r7, r8, r9, rp⟩ := hR
  have e : ∀ k, k ≤ 3 → (sx_uI I 5 1 j (nI v)) 5 1 k = nI (rq_up s j v k) := fun k hk => by
    rw [sx_uI, rq_up]
    by_cases q : k = j
    · rw [if_pos ⟨rfl, rfl, q⟩, if_pos q]
    · rw [if_neg (fun z => q z.2.2), if_neg q]
      have : k = 0 ∨ k = 1 ∨ k = 2 ∨ k = 3 := by omega
      rcases this with rfl | rfl | rfl | rfl
      · exact r0
      · exact r1
      · exact r2
      · exact r3
  have u : ∀ k, 4 ≤ k → (sx_uI I 5 1 j (nI v)) 5 1 k = I 5 1 k := fun k hk => if_neg (fun z => by omega)
  refine ⟨e 0 (by omega), e 1 (by omega), e 2 (by omega), e 3 (by omega), (u 4 (by omega)).trans r4, (u 5 (by omega)).trans r5, ?_, (u 7 (by omega)).trans r7, (u 8 (by omega)).trans r8, (u 9 (by omega)).trans r9, fun p hp => ?_⟩
  · rw [rq_up_ne (by omega)]; exact (u 6 (by omega)).trans r6
  · rw [rq_up_ne (by omega)] at hp
    rw [rq_up_ne (by omega), rq_up_ne (by omega)]
    exact rp p hp
theorem rq_R.u6' {j : Nat} {v : Int32} (hR : rq_R I J 1 s h l A D st L) : rq_R (sx_uI I 6 0 j v) J 1 s h l A D st L := hR.fr (fun z k q => if_neg (fun w => by unfold rq_cs at q; omega)) (fun _ _ _ => rfl)
theorem rq_u2 {v : Int32} : rq_sm rq_c6 I J (sx_uI I 6 0 2 v) J := (rq_same.uI (by unfold rq_scr; omega)).sm
theorem rq_u4 {v : Int32} : rq_sm rq_c6 I J (sx_uI I 6 0 4 v) J := (rq_same.uI (by unfold rq_scr; omega)).sm
theorem rq_u3 {v : Int32} : rq_sm rq_c6 I J (sx_uI I 6 0 3 v) J := .uI ⟨rfl, Or.inr rfl⟩
theorem rq_u5 {j : Nat} {v : Int32} : rq_sm rq_c6 I J (sx_uI I 5 1 j v) J := (rq_same.uI (Or.inr (Or.inr (Or.inr (Or.inl ⟨Or.inl rfl, Or.inl rfl⟩))))).sm
/-- behind a fault; behind what stands -/
def rq_cE (I : sx_I) (J : sx_J) (I1 : sx_I) (J1 : sx_J) (e : Nat × Nat) : Prop := rq_sm rq_c6 I J I1 J1 ∧ I1 6 0 2 = nI e.2 ∧ I1 6 0 3 = nI e.1
def rq_cO (I : sx_I) (J : sx_J) (I1 : sx_I) (J1 : sx_J) (n : Nat) (t : Nat → Nat) (s L : Nat → Nat) (A D c : Nat) : Prop := rq_sm rq_c6 I J I1 J1 ∧ rq_tp I1 n t ∧ I1 6 0 2 = nI c ∧ I1 6 0 3 = I 6 0 3 ∧ rq_R I1 J1 1 s 0 0 A D 0 L
theorem rq_cO.u2 (h : rq_cO I J I1 J1 n t s L A D c) (c2 : Nat) : rq_cO I J (sx_uI I1 6 0 2 (nI c2)) J1 n t s L A D c2 := ⟨h.1.tr rq_u2, h.2.1.fr rfl (fun _ => rfl), rfl, h.2.2.2.1, h.2.2.2.2.u6'⟩
theorem rq_cO.u4 (h : rq_cO I J I1 J1 n t s L A D c) (v : Nat) : rq_cO I J (sx_uI I1 6 0 4 (nI v)) J1 n t s L A D c := ⟨h.1.tr rq_u4, h.2.1.fr rfl (fun _ => rfl), h.2.2.1, h.2.2.2.1, h.2.2.2.2.u6'⟩
theorem rq_cO.u5 (h : rq_cO I J I1 J1 n t s L A D c) {j : Nat} (hj : j = 1 ∨ j = 2 ∨ j = 3) (v : Nat) : rq_cO I J (sx_uI I1 5 1 j (nI v)) J1 n t (rq_up s j v) L A D c := ⟨h.1.tr rq_u5, h.2.1.fr rfl (fun _ => rfl), h.2.2.1, h.2.2.2.1, h.2.2.2.2.u123 hj⟩
theorem rq_cO.bad (h : rq_cO I J I1 J1 n t s L A D c) (f : Nat) : rq_cE I J (sx_uI I1 6 0 3 (nI f)) J1 (f, c) := ⟨h.1.tr rq_u3, h.2.2.1, rfl⟩
theorem e_lawC (h : rq_cO I J I1 J n t rq_s0 L 0 0 0) : (∃ e I2, rq_law n t = .error e ∧ rq_cE I J I2 J e ∧ sx_E sc (d + 2) cd_X6_readsLaw 0 [some (.inr (.inr (6, 0))), some (.inr (.inr (5, 1)))] [] I1 J (some (.inl 0), I2, J)) ∨ (∃ a I2, rq_law n t = .ok a ∧ rq_cO I J I2 J n t a.1 L 0 0 a.2 ∧ a.1 0 = 0 ∧ rq_tw a.1 ∧ a.2 ≤ n ∧ sx_E sc (d + 2) cd_X6_readsLaw 0 [some (.inr (.inr (6, 0))), some (.inr (.inr (5, 1)))] [] I1 J (some (.inl 1), I2, J)) := by
  rcases e_pass (sc := sc) (d := d) (J := J) (x := 115) (b := 115) rfl (by omega) h.2.1 h.2.2.1 (Nat.zero_le _) with ⟨c1, p1, n1, k1⟩ | ⟨p1, k1⟩
  · have o1 := h.u2 c1
    rcases e_num (sc := sc) (d := d) (J := J) (x1 := 0) (x2 := 10) (lo := 0) (hi := 10) rfl rfl (by omega) (by omega) o1.2.1 o1.2.2.1 n1 with ⟨a1, p2, k2⟩ | ⟨f, p2, k2⟩
    · have b1 := rq_nu_ok p2
      have o2 := ((o1.u4 a1.1).u2 a1.2).u5 (j := 1) (Or.inl rfl) a1.1
      rcases e_pass (sc := sc) (d := d) (J := J) (x := 44) (b := 44) rfl (by omega) o2.2.1 o2.2.2.1 b1.2.2.2.1 with ⟨c2, p3, n3, k3⟩ | ⟨p3, k3⟩
      · have o3 := o2.u2 c2
        rcases e_num (sc := sc) (d := d) (J := J) (x1 := 1) (x2 := 20) (lo := 1) (hi := 20) rfl rfl (by omega) (by omega) o3.2.1 o3.2.2.1 n3 with ⟨a2, p4, k4⟩ | ⟨f, p4, k4⟩
        · have b2 := rq_nu_ok p4
          have o4 := ((o3.u4 a2.1).u2 a2.2).u5 (j := 2) (Or.inr (Or.inl rfl)) a2.1
          rcases e_pass (sc := sc) (d := d) (J := J) (x := 44) (b := 44) rfl (by omega) o4.2.1 o4.2.2.1 b2.2.2.2.1 with ⟨c3, p5, n5, k5⟩ | ⟨p5, k5⟩
          · have o5 := o4.u2 c3
            rcases e_num (sc := sc) (d := d) (J := J) (x1 := 0) (x2 := 19) (lo := 0) (hi := 19) rfl rfl (by omega) (by omega) o5.2.1 o5.2.2.1 n5 with ⟨a3, p6, k6⟩ | ⟨f, p6, k6⟩
            · have b3 := rq_nu_ok p6
              have o6 := ((o5.u4 a3.1).u2 a3.2).u5 (j := 3) (Or.inr (Or.inr rfl)) a3.1
              rcases e_pass (sc := sc) (d := d) (J := J) (x := 59) (b := 59) rfl (by omega) o6.2.1 o6.2.2.1 b3.2.2.2.1 with ⟨c4, p7, n7, k7⟩ | ⟨p7, k7⟩
              · refine Or.inr ⟨(rq_up (rq_up (rq_up rq_s0 1 a1.1) 2 a2.1) 3 a3.1, c4), _, by simp only [rq_law, p1, p2, p3, p4, p5, p6, p7, rq_bd], o6.u2 c4, rfl, ⟨by show (0 : Nat) ≤ 6; omega, b1.2.2.1, b2.2.1, b2.2.2.1, b3.2.2.1, rfl, rfl, rfl, rfl, fun p hp => absurd (show p < 0 from hp) (by omega), fun k hk => ?_⟩, n7, ee_X6_readsLaw_0 ⟨_, _, _, k1, ee_X6_readsLaw_6 ⟨fun z => absurd z n10, fun _ => ⟨_, _, _, k2, ee_X6_readsLaw_16 ⟨fun z => absurd z n10, fun _ => ee_X6_readsLaw_29 ⟨_, _, _, k3, ee_X6_readsLaw_35 ⟨fun z => absurd z n10, fun _ => ⟨_, _, _, k4, ee_X6_readsLaw_45 ⟨fun z => absurd z n10, fun _ => ee_X6_readsLaw_58 ⟨_, _, _, k5, ee_X6_readsLaw_64 ⟨fun z => absurd z n10, fun _ => ⟨_, _, _, k6, ee_X6_readsLaw_74 ⟨fun z => absurd z n10, fun _ => ee_X6_readsLaw_87 ⟨_, _, _, k7, ee_X6_readsLaw_93 ⟨Or.inr rfl, rfl⟩⟩⟩⟩⟩⟩⟩⟩⟩⟩⟩⟩⟩⟩⟩
                have hk8 : 8 ≤ k := hk
                show rq_up (rq_up (rq_up rq_s0 1 a1.1) 2 a2.1) 3 a3.1 k = 0
                rw [rq_up_ne (by omega), rq_up_ne (by omega), rq_up_ne (by omega)]
                exact if_neg (by omega)
              · exact Or.inl ⟨_, _, by simp only [rq_law, p1, p2, p3, p4, p5, p6, p7, rq_bd], o6.bad 1, ee_X6_readsLaw_0 ⟨_, _, _, k1, ee_X6_readsLaw_6 ⟨fun z => absurd z n10, fun _ => ⟨_, _, _, k2, ee_X6_readsLaw_16 ⟨fun z => absurd z n10, fun _ => ee_X6_readsLaw_29 ⟨_, _, _, k3, ee_X6_readsLaw_35 ⟨fun z => absurd z n10, fun _ => ⟨_, _, _, k4, ee_X6_readsLaw_45 ⟨fun z => absurd z n10, fun _ => ee_X6_readsLaw_58 ⟨_, _, _, k5, ee_X6_readsLaw_64 ⟨fun z => absurd z n10, fun _ => ⟨_, _, _, k6, ee_X6_readsLaw_74 ⟨fun z => absurd z n10, fun _ => ee_X6_readsLaw_87 ⟨_, _, _, k7, ee_X6_readsLaw_93 ⟨Or.inl rfl, rfl⟩⟩⟩⟩⟩⟩⟩⟩⟩⟩⟩⟩⟩⟩⟩
            · exact Or.inl ⟨_, _, by simp only [rq_law, p1, p2, p3, p4, p5, p6, rq_bd], o5.bad f, ee_X6_readsLaw_0 ⟨_, _, _, k1, ee_X6_readsLaw_6 ⟨fun z => absurd z n10, fun _ => ⟨_, _, _, k2, ee_X6_readsLaw_16 ⟨fun z => absurd z n10, fun _ => ee_X6_readsLaw_29 ⟨_, _, _, k3, ee_X6_readsLaw_35 ⟨fun z => absurd z n10, fun _ => ⟨_, _, _, k4, ee_X6_readsLaw_45 ⟨fun z => absurd z n10, fun _ => ee_X6_readsLaw_58 ⟨_, _, _, k5, ee_X6_readsLaw_64 ⟨fun z => absurd z n10, fun _ => ⟨_, _, _, k6, ee_X6_readsLaw_74 ⟨fun _ => rfl, fun z => absurd rfl z⟩⟩⟩⟩⟩⟩⟩⟩⟩⟩⟩⟩⟩
          · exact Or.inl ⟨_, _, by simp only [rq_law, p1, p2, p3, p4, p5, rq_bd], o4.bad 1, ee_X6_readsLaw_0 ⟨_, _, _, k1, ee_X6_readsLaw_6 ⟨fun z => absurd z n10, fun _ => ⟨_, _, _, k2, ee_X6_readsLaw_16 ⟨fun z => absurd z n10, fun _ => ee_X6_readsLaw_29 ⟨_, _, _, k3, ee_X6_readsLaw_35 ⟨fun z => absurd z n10, fun _ => ⟨_, _, _, k4, ee_X6_readsLaw_45 ⟨fun z => absurd z n10, fun _ => ee_X6_readsLaw_58 ⟨_, _, _, k5, ee_X6_readsLaw_64 ⟨fun _ => rfl, fun z => absurd rfl z⟩⟩⟩⟩⟩⟩⟩⟩⟩⟩⟩
        · exact Or.inl ⟨_, _, by simp only [rq_law, p1, p2, p3, p4, rq_bd], o3.bad f, ee_X6_readsLaw_0 ⟨_, _, _, k1, ee_X6_readsLaw_6 ⟨fun z => absurd z n10, fun _ => ⟨_, _, _, k2, ee_X6_readsLaw_16 ⟨fun z => absurd z n10, fun _ => ee_X6_readsLaw_29 ⟨_, _, _, k3, ee_X6_readsLaw_35 ⟨fun z => absurd z n10, fun _ => ⟨_, _, _, k4, ee_X6_readsLaw_45 ⟨fun _ => rfl, fun z => absurd rfl z⟩⟩⟩⟩⟩⟩⟩⟩⟩
      · exact Or.inl ⟨_, _, by simp only [rq_law, p1, p2, p3, rq_bd], o2.bad 1, ee_X6_readsLaw_0 ⟨_, _, _, k1, ee_X6_readsLaw_6 ⟨fun z => absurd z n10, fun _ => ⟨_, _, _, k2, ee_X6_readsLaw_16 ⟨fun z => absurd z n10, fun _ => ee_X6_readsLaw_29 ⟨_, _, _, k3, ee_X6_readsLaw_35 ⟨fun _ => rfl, fun z => absurd rfl z⟩⟩⟩⟩⟩⟩⟩
    · exact Or.inl ⟨_, _, by simp only [rq_law, p1, p2, rq_bd], o1.bad f, ee_X6_readsLaw_0 ⟨_, _, _, k1, ee_X6_readsLaw_6 ⟨fun z => absurd z n10, fun _ => ⟨_, _, _, k2, ee_X6_readsLaw_16 ⟨fun _ => rfl, fun z => absurd rfl z⟩⟩⟩⟩⟩
  · exact Or.inl ⟨_, _, by simp only [rq_law, p1, rq_bd], h.bad 1, ee_X6_readsLaw_0 ⟨_, _, _, k1, ee_X6_readsLaw_6 ⟨fun _ => rfl, fun z => absurd rfl z⟩⟩⟩
end RQRC
