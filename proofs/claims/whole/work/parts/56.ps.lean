/-! ship: the reference's tokens -/
def rq_t9 (I : sx_I) (n : Nat) (t : Nat → Nat) : Prop := n ≤ 80 ∧ I 9 0 12 = nI n ∧ ∀ k, k < n → I 16 6 k = nI (t k) ∧ t k < 256
def rq_tk (b : Nat) : Int32 := if 97 ≤ b ∧ b ≤ 122 then 2 else if b = 44 ∨ b = 59 then 4 else 0
def rq_rt (I : sx_I) (n : Nat) (t : Nat → Nat) (c : Nat) : Prop := rq_t9 I n t ∧ c ≤ n ∧ I 9 0 17 = 0 ∧ I 9 0 14 = nI c ∧ ((c = n ∧ I 9 0 15 = 1) ∨ (c < n ∧ ¬ rq_dg n t c = true ∧ I 9 0 15 = rq_tk (t c) ∧ I 9 0 16 = nI (t c) ∧ I 9 0 13 = nI (c + 1)) ∨ (rq_dg n t c = true ∧ (rq_nl n t c).1 ≠ 0 ∧ I 9 0 15 = 3 ∧ I 9 0 16 = nI (rq_nl n t c).2 ∧ I 9 0 13 = nI (c + (rq_nl n t c).1)) ∨ (rq_dg n t c = true ∧ (rq_nl n t c).1 = 0 ∧ I 9 0 15 = 0))
def rq_k4 (I I1 : sx_I) : Prop := ∀ k, I1 16 4 k = I 16 4 k
section RQTK
variable {sc : Nat × (Nat → Int32)} {d : Nat} {I I1 I2 : sx_I} {J J1 J2 : sx_J} {n c j v b : Nat} {t : Nat → Nat} {res : Option sx_V × sx_I × sx_J}
theorem rq_t9.fr (h : rq_t9 I n t) (e : I1 9 0 12 = I 9 0 12) (e2 : ∀ k, I1 16 6 k = I 16 6 k) : rq_t9 I1 n t := ⟨h.1, e.trans h.2.1, fun k hk => ⟨(e2 k).trans (h.2.2 k hk).1, (h.2.2 k hk).2⟩⟩
theorem rq_t9.sm (h : rq_t9 I n t) (e : rq_same I J I1 J1) : rq_t9 I1 n t := h.fr (e.1 9 0 12 (by unfold rq_scr rq_cs; omega)) (fun k => e.1 16 6 k (by unfold rq_scr rq_cs; omega))
theorem tk_255 (h13 : I 9 0 13 = nI j) (h14 : I 9 0 14 = nI c) (hcj : c ≤ j) (hj : j ≤ 90) : sx_E sc (d + 1) cd_X9_nextToken 255 [some (.inr (.inr (9, 0)))] [] I J (none, sx_uI I 9 0 15 (if j ≤ c + 2 then 3 else 0), J) := by
  have e : I 9 0 13 - I 9 0 14 = nI (j - c) := by rw [h13, h14, pk_sub hcj]
  refine ee_X9_nextToken_255 ⟨fun z => ee_X9_nextToken_274 (ee_X9_nextToken_277 ?_), fun z => ee_X9_nextToken_274 (ee_X9_nextToken_277 ?_)⟩
  · rw [e] at z
    have := (nI_leI (b := 2) (by omega) (by omega)).mp z
    rw [if_pos (by omega)]
  · rw [e] at z
    have : ¬ j - c ≤ 2 := fun q => z (nI_le (b := 2) q (by omega))
    rw [if_neg (by omega)]
theorem tk_fig (hT : rq_t9 I n t) (h13 : I 9 0 13 = nI j) (h14 : I 9 0 14 = nI c) (h16 : I 9 0 16 = nI v) (hcj : c ≤ j) (hj : j ≤ n) (k1 : rq_dg n t j = true → sx_E sc (d + 1) cd_X9_nextToken 165 [some (.inr (.inr (9, 0)))] [] (sx_uI (sx_uI I 9 0 16 (nI (if j < c + 2 then 10 * v + t j - 48 else v))) 9 0 13 (nI (j + 1))) J res) (k2 : ¬ rq_dg n t j = true → sx_E sc (d + 1) cd_X9_nextToken 255 [some (.inr (.inr (9, 0)))] [] I J res) : sx_E sc (d + 1) cd_X9_nextToken 165 [some (.inr (.inr (9, 0)))] [] I J res := by
  have hn := hT.1
  have e : I 9 0 13 - I 9 0 14 = nI (j - c) := by rw [h13, h14, pk_sub hcj]
  refine ee_X9_nextToken_165 ⟨fun z => k2 (fun q => ?_), fun z => ?_⟩
  · rw [hT.2.1, h13] at z
    have := (nI_leI (by omega) (by omega)).mp z
    have := (rq_dg_t.mp q).1
    omega
  · rw [hT.2.1, h13] at z
    have hlt : j < n := Nat.lt_of_not_le (fun q => z (nI_le q (by omega)))
    have hb := hT.2.2 j hlt
    have i8 : sx_in (I 9 0 13) 80 = true := by rw [h13]; exact sx_in_nI (by omega) (by omega)
    have er : I 16 6 (I 9 0 13).toNatClampNeg = nI (t j) := by rw [h13, nI_clamp (by omega)]; exact hb.1
    refine ⟨i8, ?_⟩
    rw [er]
    by_cases q : rq_dg n t j = true
    · have dg := rq_dg_t.mp q
      refine ⟨_, _, _, es_X9_in.v (rq_iI1 (a := 48) (b := 57) (by decide) (by decide) (nI_le (a := 48) dg.2.1 (by omega)) (nI_le (b := 57) dg.2.2 (by omega))), ee_X9_nextToken_195 ⟨fun z => absurd z n10, fun _ => ⟨fun z => ee_X9_nextToken_239 (ee_X9_nextToken_242 (ee_X9_nextToken_252 ?_)), fun z => ⟨i8, ee_X9_nextToken_239 (ee_X9_nextToken_242 (ee_X9_nextToken_252 ?_))⟩⟩⟩⟩
      · rw [e] at z
        have := (nI_leI (a := 2) (by omega) (by omega)).mp z
        have k := k1 q
        rw [if_neg (by omega)] at k
        rw [h16, show (sx_uI I 9 0 16 (nI v)) 9 0 13 = nI j from h13, nI_1]
        exact k
      · rw [e] at z
        have : ¬ 2 ≤ j - c := fun y => z (nI_le (a := 2) y (by omega))
        have k := k1 q
        rw [if_pos (by omega)] at k
        rw [er, h16, show (10 : Int32) = nI 10 from rfl, pk_mul, nI_add, show (48 : Int32) = nI 48 from rfl, pk_sub (by omega), show (sx_uI I 9 0 16 (nI (10 * v + t j - 48))) 9 0 13 = nI j from h13, nI_1]
        exact k
    · refine ⟨_, _, _, es_X9_in.v (rq_iI0 (a := 48) (b := 57) (by decide) (by decide) (fun y => q (rq_dg_t.mpr ⟨hlt, (nI_leI (a := 48) (by omega) (by omega)).mp y.1, (nI_leI (b := 57) (by omega) (by omega)).mp y.2⟩))), ee_X9_nextToken_195 ⟨fun _ => k2 q, fun z => absurd rfl z⟩⟩
theorem rq_s9' {I : sx_I} {J : sx_J} {k : Nat} {w : Int32} (h : 13 ≤ k ∧ k ≤ 18) : rq_same I J (sx_uI I 9 0 k w) J := .uI (rq_s9 (by omega))
theorem tk_rest : ∀ (m j v : Nat) (I : sx_I), j + m = n → c + 3 ≤ j → rq_t9 I n t → I 9 0 13 = nI j → I 9 0 14 = nI c → I 9 0 16 = nI v → ∃ I1, rq_same I J I1 J ∧ I1 9 0 15 = 0 ∧ I1 9 0 14 = nI c ∧ I1 9 0 17 = I 9 0 17 ∧ rq_k4 I I1 ∧ sx_E sc (d + 1) cd_X9_nextToken 165 [some (.inr (.inr (9, 0)))] [] I J (none, I1, J) := by
  intro m
  induction m with
  | zero =>
    intro j v I hj hc hT h13 h14 h16
    have hn := hT.1
    refine ⟨sx_uI I 9 0 15 0, rq_s9' (by omega), rfl, h14, rfl, fun _ => rfl, tk_fig hT h13 h14 h16 (by omega) (by omega) (fun q => ?_) (fun _ => ?_)⟩
    · have := (rq_dg_t.mp q).1; omega
    · have k := tk_255 (sc := sc) (d := d) (J := J) h13 h14 (by omega) (by omega)
      rw [if_neg (by omega)] at k; exact k
  | succ m ih =>
    intro j v I hj hc hT h13 h14 h16
    have hn := hT.1
    by_cases q : rq_dg n t j = true
    · obtain ⟨I1, a1, a2, a3, a4, a5, a6⟩ := ih (j + 1) v (sx_uI (sx_uI I 9 0 16 (nI v)) 9 0 13 (nI (j + 1))) (by omega) (by omega) (hT.fr rfl (fun _ => rfl)) rfl h14 rfl
      refine ⟨I1, ((rq_s9' (by omega)).tr (rq_s9' (by omega))).tr a1, a2, a3, a4, a5, tk_fig hT h13 h14 h16 (by omega) (by omega) (fun _ => ?_) (fun z => absurd q z)⟩
      rw [if_neg (by omega)]; exact a6
    · refine ⟨sx_uI I 9 0 15 0, rq_s9' (by omega), rfl, h14, rfl, fun _ => rfl, tk_fig hT h13 h14 h16 (by omega) (by omega) (fun z => absurd z q) (fun _ => ?_)⟩
      have k := tk_255 (sc := sc) (d := d) (J := J) h13 h14 (by omega) (by omega)
      rw [if_neg (by omega)] at k; exact k
theorem tk_118 {w : Int32} (h12 : I 9 0 12 = nI n) (h13 : I 9 0 13 = nI c) (hn : n ≤ 80) (hc : c ≤ n) (k1 : c < n → w = 3 → sx_E sc (d + 1) cd_X9_nextToken 165 [some (.inr (.inr (9, 0)))] [] (sx_uI (sx_uI (sx_uI I 9 0 15 w) 9 0 13 (nI (c + 1))) 9 0 16 (I 9 0 16 - 48)) J res) (k2 : c < n → ¬ w = 3 → res = (none, sx_uI (sx_uI I 9 0 15 w) 9 0 13 (nI (c + 1)), J)) (k3 : c = n → ¬ w = 3 ∧ res = (none, sx_uI (sx_uI I 9 0 15 w) 9 0 13 (nI c), J)) : sx_E sc (d + 1) cd_X9_nextToken 118 [some (.inr (.inr (9, 0)))] [.inl w, .inr (.inr (9, 0))] I J res := by
  refine ee_X9_nextToken_118 (ee_X9_nextToken_121 ⟨fun z => ?_, fun z => ?_⟩)
  · rw [show (sx_uI I 9 0 15 w) 9 0 12 = nI n from h12, show (sx_uI I 9 0 15 w) 9 0 13 = nI c from h13] at z
    have := (nI_leI (by omega) (by omega)).mp z
    obtain ⟨w3, hr⟩ := k3 (by omega)
    refine ee_X9_nextToken_142 (ee_X9_nextToken_146 ⟨fun y => absurd y w3, fun _ => ee_X9_nextToken_277 ?_⟩)
    rw [hr, show (sx_uI I 9 0 15 w) 9 0 13 = nI c from h13, Int32.add_zero]
  · rw [show (sx_uI I 9 0 15 w) 9 0 12 = nI n from h12, show (sx_uI I 9 0 15 w) 9 0 13 = nI c from h13] at z
    have hlt : c < n := Nat.lt_of_not_le (fun q => z (nI_le q (by omega)))
    refine ee_X9_nextToken_142 ?_
    rw [show (sx_uI I 9 0 15 w) 9 0 13 = nI c from h13, nI_1]
    exact ee_X9_nextToken_146 ⟨fun y => k1 hlt y, fun y => ee_X9_nextToken_277 (k2 hlt y)⟩
theorem m_next (hT : rq_t9 I n t) (h13 : I 9 0 13 = nI c) (hc : c ≤ n) (h17 : I 9 0 17 = 0) : ∃ I1, rq_same I J I1 J ∧ rq_rt I1 n t c ∧ rq_k4 I I1 ∧ sx_E sc (d + 1) cd_X9_nextToken 0 [some (.inr (.inr (9, 0)))] [] I J (none, I1, J) := by
  have hn := hT.1
  have h12 := hT.2.1
  rcases Nat.lt_or_ge c n with hlt | hge
  · have hb := hT.2.2 c hlt
    let Ib : sx_I := sx_uI (sx_uI I 9 0 14 (I 9 0 13)) 9 0 16 (nI (t c))
    have sb : rq_same I J Ib J := (rq_s9' (by omega)).tr (rq_s9' (by omega))
    have hTb : rq_t9 Ib n t := hT.fr rfl (fun _ => rfl)
    have k37 : ∀ {res : Option sx_V × sx_I × sx_J}, sx_E sc (d + 1) cd_X9_nextToken 37 [some (.inr (.inr (9, 0)))] [] Ib J res → sx_E sc (d + 1) cd_X9_nextToken 0 [some (.inr (.inr (9, 0)))] [] I J res := fun k => by
      refine ee_X9_nextToken_0 (ee_X9_nextToken_8 ⟨fun z => ?_, fun _ => ⟨?_, ee_X9_nextToken_34 ?_⟩⟩)
      · rw [show (sx_uI I 9 0 14 (I 9 0 13)) 9 0 12 = nI n from h12, show (sx_uI I 9 0 14 (I 9 0 13)) 9 0 13 = nI c from h13] at z
        exact absurd z (nI_ge hlt (by omega))
      · rw [show (sx_uI I 9 0 14 (I 9 0 13)) 9 0 13 = nI c from h13]; exact sx_in_nI (by omega) (by omega)
      · rw [show (sx_uI I 9 0 14 (I 9 0 13)) 9 0 13 = nI c from h13, nI_clamp (by omega), show (sx_uI I 9 0 14 (I 9 0 13)) 16 6 c = nI (t c) from hb.1]
        exact k
    have ne : ¬ Ib 9 0 13 = Ib 9 0 12 := fun z => by
      rw [show Ib 9 0 13 = nI c from h13, show Ib 9 0 12 = nI n from h12] at z
      have := (nI_eq (by omega) (by omega)).mp z
      omega
    by_cases q : rq_dg n t c = true
    · -- a number
      have dg := rq_dg_t.mp q
      have k165 : ∀ {res : Option sx_V × sx_I × sx_J}, sx_E sc (d + 1) cd_X9_nextToken 165 [some (.inr (.inr (9, 0)))] [] (sx_uI (sx_uI (sx_uI Ib 9 0 15 3) 9 0 13 (nI (c + 1))) 9 0 16 (nI (t c - 48))) J res → sx_E sc (d + 1) cd_X9_nextToken 0 [some (.inr (.inr (9, 0)))] [] I J res := fun k => by
        refine k37 (ee_X9_nextToken_37 ⟨fun z => absurd z ne, fun _ => ⟨_, _, _, es_X9_in.v (rq_iI0 (x := nI (t c)) (a := 97) (b := 122) (by decide) (by decide) (fun y => ?_)), ee_X9_nextToken_67 ⟨fun _ => ⟨_, _, _, es_X9_in.v (rq_iI1 (x := nI (t c)) (a := 48) (b := 57) (by decide) (by decide) (nI_le (a := 48) dg.2.1 (by omega)) (nI_le (b := 57) dg.2.2 (by omega))), ee_X9_nextToken_88 ⟨fun z => absurd z n10, fun _ => tk_118 (c := c) (n := n) h12 h13 hn hc (fun _ _ => ?_) (fun _ z => absurd rfl z) (fun z => by omega)⟩⟩, fun z => absurd rfl z⟩⟩⟩)
        · have := (nI_leI (a := 97) (by omega) (by omega)).mp y.1
          omega
        · rw [show Ib 9 0 16 - 48 = nI (t c - 48) by rw [show Ib 9 0 16 = nI (t c) from rfl, show (48 : Int32) = nI 48 from rfl, pk_sub dg.2.1]]
          exact k
      let Ic : sx_I := sx_uI (sx_uI (sx_uI Ib 9 0 15 3) 9 0 13 (nI (c + 1))) 9 0 16 (nI (t c - 48))
      have scc : rq_same I J Ic J := ((sb.tr (rq_s9' (by omega))).tr (rq_s9' (by omega))).tr (rq_s9' (by omega))
      have hTc : rq_t9 Ic n t := hT.fr rfl (fun _ => rfl)
      have h14c : Ic 9 0 14 = nI c := h13
      by_cases q1 : rq_dg n t (c + 1) = true
      · have dg1 := rq_dg_t.mp q1
        let Id : sx_I := sx_uI (sx_uI Ic 9 0 16 (nI (10 * (t c - 48) + t (c + 1) - 48))) 9 0 13 (nI (c + 2))
        have hTd : rq_t9 Id n t := hT.fr rfl (fun _ => rfl)
        have sd : rq_same I J Id J := (scc.tr (rq_s9' (by omega))).tr (rq_s9' (by omega))
        have kd : ∀ {res : Option sx_V × sx_I × sx_J}, sx_E sc (d + 1) cd_X9_nextToken 165 [some (.inr (.inr (9, 0)))] [] Id J res → sx_E sc (d + 1) cd_X9_nextToken 0 [some (.inr (.inr (9, 0)))] [] I J res := fun k => k165 (tk_fig (c := c) (j := c + 1) (v := t c - 48) hTc rfl h14c rfl (by omega) (by omega) (fun _ => by rw [if_pos (by omega)]; exact k) (fun z => absurd q1 z))
        by_cases q2 : rq_dg n t (c + 2) = true
        · have dg2 := rq_dg_t.mp q2
          have e0 : (rq_nl n t c).1 = 0 := by unfold rq_nl; rw [if_pos q, if_pos q1, if_pos q2]
          obtain ⟨I1, a1, a2, a3, a4, a5, a6⟩ := tk_rest (sc := sc) (d := d) (J := J) (c := c) (n - (c + 3)) (c + 3) (10 * (t c - 48) + t (c + 1) - 48) (sx_uI (sx_uI Id 9 0 16 (nI (10 * (t c - 48) + t (c + 1) - 48))) 9 0 13 (nI (c + 3))) (by omega) (by omega) (hT.fr rfl (fun _ => rfl)) rfl h13 rfl
          have s1 := ((sd.tr (rq_s9' (J := J) (k := 16) (w := nI (10 * (t c - 48) + t (c + 1) - 48)) (by omega))).tr (rq_s9' (J := J) (k := 13) (w := nI (c + 3)) (by omega))).tr a1
          refine ⟨I1, s1, ⟨hT.sm s1, hc, a4.trans h17, a3, Or.inr (Or.inr (Or.inr ⟨q, e0, a2⟩))⟩, fun k => (a5 k).trans rfl, kd (tk_fig (c := c) (j := c + 2) hTd rfl h13 rfl (by omega) (by omega) (fun _ => ?_) (fun z => absurd q2 z))⟩
          rw [if_neg (by omega)]; exact a6
        · have e2 : rq_nl n t c = (2, (t c - 48) * 10 + t (c + 1) - 48) := by unfold rq_nl; rw [if_pos q, if_pos q1, if_neg q2]
          have k := tk_255 (sc := sc) (d := d) (I := Id) (J := J) (j := c + 2) (c := c) rfl h13 (by omega) (by omega)
          rw [if_pos (by omega)] at k
          refine ⟨sx_uI Id 9 0 15 3, sd.tr (rq_s9' (by omega)), ⟨hT.fr rfl (fun _ => rfl), hc, h17, h13, Or.inr (Or.inr (Or.inl ⟨q, by rw [e2]; show (2 : Nat) ≠ 0; omega, rfl, ?_, by rw [e2]; rfl⟩))⟩, fun _ => rfl, kd (tk_fig (c := c) (j := c + 2) hTd rfl h13 rfl (by omega) (by omega) (fun z => absurd z q2) (fun _ => k))⟩
          rw [e2]
          show nI (10 * (t c - 48) + t (c + 1) - 48) = nI ((t c - 48) * 10 + t (c + 1) - 48)
          rw [Nat.mul_comm 10]
      · have e1 : rq_nl n t c = (1, t c - 48) := by unfold rq_nl; rw [if_pos q, if_neg q1]
        have k := tk_255 (sc := sc) (d := d) (I := Ic) (J := J) (j := c + 1) (c := c) rfl h13 (by omega) (by omega)
        rw [if_pos (by omega)] at k
        exact ⟨sx_uI Ic 9 0 15 3, scc.tr (rq_s9' (by omega)), ⟨hT.fr rfl (fun _ => rfl), hc, h17, h13, Or.inr (Or.inr (Or.inl ⟨q, by rw [e1]; show (1 : Nat) ≠ 0; omega, rfl, by rw [e1]; rfl, by rw [e1]; rfl⟩))⟩, fun _ => rfl, k165 (tk_fig (c := c) (j := c + 1) hTc rfl h13 rfl (by omega) (by omega) (fun z => absurd z q1) (fun _ => k))⟩
    · -- no number
      have nd : ¬ (48 ≤ t c ∧ t c ≤ 57) := fun y => q (rq_dg_t.mpr ⟨hlt, y⟩)
      have key : ∀ w : Int32, w = rq_tk (t c) → ¬ w = 3 → sx_E sc (d + 1) cd_X9_nextToken 118 [some (.inr (.inr (9, 0)))] [.inl w, .inr (.inr (9, 0))] Ib J (none, sx_uI (sx_uI Ib 9 0 15 (rq_tk (t c))) 9 0 13 (nI (c + 1)), J) := fun w hw hw3 => tk_118 (c := c) (n := n) h12 h13 hn hc (fun _ z => absurd z hw3) (fun _ _ => by rw [hw]) (fun z => by omega)
      refine ⟨sx_uI (sx_uI Ib 9 0 15 (rq_tk (t c))) 9 0 13 (nI (c + 1)), (sb.tr (rq_s9' (by omega))).tr (rq_s9' (by omega)), ⟨hT.fr rfl (fun _ => rfl), hc, h17, h13, Or.inr (Or.inl ⟨hlt, q, rfl, rfl, rfl⟩)⟩, fun _ => rfl, k37 (ee_X9_nextToken_37 ⟨fun z => absurd z ne, fun _ => ?_⟩)⟩
      by_cases ql : 97 ≤ t c ∧ t c ≤ 122
      · exact ⟨_, _, _, es_X9_in.v (rq_iI1 (x := nI (t c)) (a := 97) (b := 122) (by decide) (by decide) (nI_le (a := 97) ql.1 (by omega)) (nI_le (b := 122) ql.2 (by omega))), ee_X9_nextToken_67 ⟨fun z => absurd z n10, fun _ => key 2 (by unfold rq_tk; rw [if_pos ql]) (by decide)⟩⟩
      · refine ⟨_, _, _, es_X9_in.v (rq_iI0 (x := nI (t c)) (a := 97) (b := 122) (by decide) (by decide) (fun y => ql ⟨(nI_leI (a := 97) (by omega) (by omega)).mp y.1, (nI_leI (b := 122) (by omega) (by omega)).mp y.2⟩)), ee_X9_nextToken_67 ⟨fun _ => ⟨_, _, _, es_X9_in.v (rq_iI0 (x := nI (t c)) (a := 48) (b := 57) (by decide) (by decide) (fun y => nd ⟨(nI_leI (a := 48) (by omega) (by omega)).mp y.1, (nI_leI (b := 57) (by omega) (by omega)).mp y.2⟩)), ee_X9_nextToken_88 ⟨fun _ => ⟨fun z => ee_X9_nextToken_113 (key 4 ?_ (by decide)), fun z => ⟨fun z2 => ee_X9_nextToken_113 (key 4 ?_ (by decide)), fun z2 => key 0 ?_ (by decide)⟩⟩, fun z => absurd rfl z⟩⟩, fun z => absurd rfl z⟩⟩
        · have : t c = 44 := (nI_eq (b := 44) (by omega) (by omega)).mp z
          unfold rq_tk; rw [if_neg ql, if_pos (Or.inl this)]
        · have : t c = 59 := (nI_eq (b := 59) (by omega) (by omega)).mp z2
          unfold rq_tk; rw [if_neg ql, if_pos (Or.inr this)]
        · unfold rq_tk; rw [if_neg ql, if_neg (fun y => ?_)]
          rcases y with y | y
          · exact z (by show nI (t c) = 44; rw [y]; rfl)
          · exact z2 (by show nI (t c) = 59; rw [y]; rfl)
  · have ec : c = n := by omega
    let Ib : sx_I := sx_uI (sx_uI I 9 0 14 (I 9 0 13)) 9 0 16 (Int32.ofInt (-1000000))
    refine ⟨sx_uI (sx_uI Ib 9 0 15 1) 9 0 13 (nI c), (((rq_s9' (by omega)).tr (rq_s9' (by omega))).tr (rq_s9' (by omega))).tr (rq_s9' (by omega)), ⟨hT.fr rfl (fun _ => rfl), hc, h17, h13, Or.inl ⟨ec, rfl⟩⟩, fun _ => rfl, ee_X9_nextToken_0 (ee_X9_nextToken_8 ⟨fun _ => ee_X9_nextToken_34 (ee_X9_nextToken_37 ⟨fun _ => tk_118 (c := c) (n := n) h12 h13 hn hc (fun z => by omega) (fun z => by omega) (fun _ => ⟨by decide, rfl⟩), fun z => absurd ?_ z⟩), fun z => absurd ?_ z⟩)⟩
    · show I 9 0 13 = I 9 0 12
      rw [h13, h12, ec]
    · show I 9 0 12 ≤ I 9 0 13
      rw [h13, h12, ec]; exact nI_le (by omega) (by omega)
end RQTK
