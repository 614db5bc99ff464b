/-! ship: the reference reads -/
/-- a fault stands -/
def rq_rf (I : sx_I) (e : Nat × Nat) : Prop := I 9 0 17 = nI e.1 ∧ 1 ≤ e.1 ∧ e.1 ≤ 3 ∧ I 9 0 18 = nI e.2
def rq_fs (I : sx_I) (s : Nat → Nat) : Prop := ∀ k, k < 32 → I 16 4 k = nI (s k)
section RQRM
variable {sc : Nat × (Nat → Int32)} {d : Nat} {I I1 I2 : sx_I} {J J1 J2 : sx_J} {n c b lo hi : Nat} {t s : Nat → Nat} {e : Nat × Nat} {x x1 x2 : Int32} {res : Option sx_V × sx_I × sx_J}
theorem rq_rf.nz (h : rq_rf I e) : ¬ I 9 0 17 = 0 := by
  rw [h.1]; exact fun z => absurd ((rq_nI0 (by have := h.2.2.1; omega)).mp z) (by have := h.2.1; omega)
theorem rq_rf.no (h : rq_rf I e) : i_X9_bad I J x = I := if_neg h.nz
theorem f_must (h : rq_rf I e) : sx_E sc (d + 1) cd_X9_must 0 [some (.inr (.inr (9, 0))), some (.inl x)] [] I J (none, I, J) := by
  have k9 : sx_E sc (d + 1) cd_X9_must 9 [some (.inr (.inr (9, 0))), some (.inl x)] [] I J (none, I, J) := ee_X9_must_9 ⟨fun z => absurd z h.nz, fun _ => ee_X9_must_20 rfl⟩
  refine ee_X9_must_0 ⟨fun _ => ⟨_, _, es_X9_bad, ?_⟩, fun _ => k9⟩
  rw [h.no]; exact k9
theorem f_num (h : rq_rf I e) : sx_E sc (d + 2) cd_X9_number 0 [some (.inr (.inr (9, 0))), some (.inl x1), some (.inl x2), none] [] I J (some (.inl x1), I, J) := ee_X9_number_0 ⟨fun z => absurd z h.nz, fun _ => ee_X9_number_20 ⟨fun z => absurd z h.nz, fun _ => ee_X9_number_47 ⟨fun z => absurd z h.nz, fun _ => ee_X9_number_62 ⟨_, _, f_must h, ee_X9_number_68 rfl⟩⟩⟩⟩
theorem f_sign (h : rq_rf I e) : sx_E sc (d + 2) cd_X9_mustSign 0 [some (.inr (.inr (9, 0))), some (.inl x1)] [] I J (none, I, J) := by
  have k22 : ∀ {w : Int32}, sx_E sc (d + 2) cd_X9_mustSign 22 [some (.inr (.inr (9, 0))), some (.inl x1)] [.inl w, .inr (.inr (9, 0))] I J (none, I, J) := fun {w} => ee_X9_mustSign_22 ⟨_, _, f_must h, ee_X9_mustSign_25 rfl⟩
  exact ee_X9_mustSign_0 ⟨fun _ => ⟨fun _ => k22, fun _ => ee_X9_mustSign_21 k22⟩, fun _ => ee_X9_mustSign_21 k22⟩
theorem f_sort (h : rq_rf I e) : v_X9_isSort I J = 0 := if_neg h.nz
/-- tokens, one by one -/
theorem rq_tk2 {b : Nat} : rq_tk b = 2 ↔ 97 ≤ b ∧ b ≤ 122 := by
  unfold rq_tk
  by_cases q : 97 ≤ b ∧ b ≤ 122
  · rw [if_pos q]; exact ⟨fun _ => q, fun _ => rfl⟩
  · rw [if_neg q]
    refine ⟨fun z => ?_, fun z => absurd z q⟩
    split at z <;> exact absurd z (by decide)
theorem rq_tk4 {b : Nat} : rq_tk b = 4 ↔ b = 44 ∨ b = 59 := by
  unfold rq_tk
  by_cases q : 97 ≤ b ∧ b ≤ 122
  · rw [if_pos q]; exact ⟨fun z => absurd z (by decide), fun z => by omega⟩
  · rw [if_neg q]
    by_cases q2 : b = 44 ∨ b = 59
    · rw [if_pos q2]; exact ⟨fun _ => q2, fun _ => rfl⟩
    · rw [if_neg q2]; exact ⟨fun z => absurd z (by decide), fun z => absurd z q2⟩
theorem rq_tk3 {b : Nat} : ¬ rq_tk b = 3 := by
  unfold rq_tk; repeat' split
  all_goals decide
theorem rq_tk1 {b : Nat} : ¬ rq_tk b = 1 := by
  unfold rq_tk; repeat' split
  all_goals decide
theorem rq_rt.sg {w : Int32} (h : rq_rt I n t c) (hb : b < 256) (hw : (w = 2 ∧ 97 ≤ b ∧ b ≤ 122) ∨ (w = 4 ∧ (b = 44 ∨ b = 59))) : (I 9 0 15 = w ∧ I 9 0 16 = nI b → c < n ∧ t c = b ∧ I 9 0 13 = nI (c + 1)) ∧ (c < n ∧ t c = b → I 9 0 15 = w ∧ I 9 0 16 = nI b ∧ I 9 0 13 = nI (c + 1)) := by
  obtain ⟨hT, hc, h17, h14, hh⟩ := h
  have hw3 : ¬ w = 3 ∧ ¬ w = 1 ∧ ¬ w = 0 := by
    rcases hw with ⟨rfl, _⟩ | ⟨rfl, _⟩ <;> decide
  rcases hh with ⟨ec, e15⟩ | ⟨hlt, nd, e15, e16, e13⟩ | ⟨dg, _, e15, _⟩ | ⟨dg, _, e15⟩
  · exact ⟨fun z => absurd (e15.symm.trans z.1) (fun y => hw3.2.1 y.symm), fun z => by omega⟩
  · have hb2 := (hT.2.2 c hlt).2
    refine ⟨fun z => ⟨hlt, (nI_eq (by omega) (by omega)).mp (e16.symm.trans z.2), e13⟩, fun z => ⟨?_, by rw [e16, z.2], e13⟩⟩
    rw [e15, z.2]
    rcases hw with ⟨rfl, w2⟩ | ⟨rfl, w2⟩
    · exact rq_tk2.mpr w2
    · exact rq_tk4.mpr w2
  · exact ⟨fun z => absurd (e15.symm.trans z.1) (fun y => hw3.1 y.symm), fun z => by
      have := rq_dg_t.mp dg
      rcases hw with ⟨_, w2⟩ | ⟨_, w2⟩ <;> omega⟩
  · exact ⟨fun z => absurd (e15.symm.trans z.1) (fun y => hw3.2.2 y.symm), fun z => by
      have := rq_dg_t.mp dg
      rcases hw with ⟨_, w2⟩ | ⟨_, w2⟩ <;> omega⟩
theorem rq_rt.nm (h : rq_rt I n t c) : (I 9 0 15 = 3 → (rq_nl n t c).1 ≠ 0) ∧ ((rq_nl n t c).1 ≠ 0 → I 9 0 15 = 3 ∧ I 9 0 16 = nI (rq_nl n t c).2 ∧ I 9 0 13 = nI (c + (rq_nl n t c).1)) := by
  obtain ⟨hT, hc, h17, h14, hh⟩ := h
  rcases hh with ⟨ec, e15⟩ | ⟨hlt, nd, e15, e16, e13⟩ | ⟨dg, nz, e15, e16, e13⟩ | ⟨dg, nz, e15⟩
  · refine ⟨fun z => absurd (e15.symm.trans z) (by decide), fun z => ?_⟩
    have := (rq_dg_t.mp (rq_nl_le z).1).1
    omega
  · exact ⟨fun z => absurd (e15.symm.trans z) rq_tk3, fun z => absurd (rq_nl_le z).1 nd⟩
  · exact ⟨fun _ => nz, fun _ => ⟨e15, e16, e13⟩⟩
  · exact ⟨fun z => absurd (e15.symm.trans z) (by decide), fun z => absurd nz z⟩
theorem m_must1 (hT : rq_t9 I n t) (h13 : I 9 0 13 = nI c) (hc : c ≤ n) (h17 : I 9 0 17 = 0) (hx : ¬ x = 0) : ∃ I1, rq_same I J I1 J ∧ rq_rt I1 n t c ∧ rq_k4 I I1 ∧ sx_E sc (d + 2) cd_X9_must 0 [some (.inr (.inr (9, 0))), some (.inl x)] [] I J (none, I1, J) := by
  obtain ⟨I1, a1, a2, a3, a4⟩ := m_next (sc := sc) (d := d) (J := J) hT h13 hc h17
  exact ⟨I1, a1, a2, a3, ee_X9_must_0 ⟨fun z => absurd z hx, fun _ => ee_X9_must_9 ⟨fun _ => ⟨_, _, a4, ee_X9_must_20 rfl⟩, fun z => absurd h17 z⟩⟩⟩
theorem rq_bad (h17 : I 9 0 17 = 0) (h14 : I 9 0 14 = nI c) {f : Nat} (hx : x = nI f) (hf : 1 ≤ f ∧ f ≤ 3) : rq_same I J (i_X9_bad I J x) J ∧ rq_rf (i_X9_bad I J x) (f, c) ∧ rq_k4 I (i_X9_bad I J x) := by
  have e : i_X9_bad I J x = sx_uI (sx_uI I 9 0 17 x) 9 0 18 (I 9 0 14) := if_pos h17
  rw [e]
  exact ⟨(rq_s9' (by omega)).tr (rq_s9' (by omega)), ⟨hx, hf.1, hf.2, h14⟩, fun _ => rfl⟩
theorem m_must0 (h17 : I 9 0 17 = 0) (h14 : I 9 0 14 = nI c) : ∃ I1, rq_same I J I1 J ∧ rq_rf I1 (1, c) ∧ rq_k4 I I1 ∧ sx_E sc (d + 2) cd_X9_must 0 [some (.inr (.inr (9, 0))), some (.inl (0 : Int32))] [] I J (none, I1, J) := by
  obtain ⟨a1, a2, a3⟩ := rq_bad (J := J) h17 h14 (x := 1) (f := 1) rfl (by omega)
  exact ⟨_, a1, a2, a3, ee_X9_must_0 ⟨fun _ => ⟨_, _, es_X9_bad, ee_X9_must_9 ⟨fun z => absurd z a2.nz, fun _ => ee_X9_must_20 rfl⟩⟩, fun z => absurd rfl z⟩⟩
theorem m_sign {x : Int32} (h : rq_rt I n t c) (hx : x = nI b) (hb : b = 44 ∨ b = 59) : (∃ c2 I1, rq_ex n t b c = .ok c2 ∧ rq_rt I1 n t c2 ∧ rq_same I J I1 J ∧ rq_k4 I I1 ∧ sx_E sc (d + 3) cd_X9_mustSign 0 [some (.inr (.inr (9, 0))), some (.inl x)] [] I J (none, I1, J)) ∨ (∃ I1, rq_ex n t b c = .error (1, c) ∧ rq_rf I1 (1, c) ∧ rq_same I J I1 J ∧ rq_k4 I I1 ∧ sx_E sc (d + 3) cd_X9_mustSign 0 [some (.inr (.inr (9, 0))), some (.inl x)] [] I J (none, I1, J)) := by
  obtain ⟨g1, g2⟩ := h.sg (b := b) (w := 4) (by omega) (Or.inr ⟨rfl, hb⟩)
  subst hx
  by_cases q : c < n ∧ t c = b
  · obtain ⟨e15, e16, e13⟩ := g2 q
    obtain ⟨I1, a1, a2, a3, a4⟩ := m_must1 (sc := sc) (d := d) (J := J) (x := 1) h.1 e13 (by omega) h.2.2.1 n10
    exact Or.inl ⟨c + 1, I1, if_pos q, a2, a1, a3, ee_X9_mustSign_0 ⟨fun _ => ⟨fun _ => ee_X9_mustSign_22 ⟨_, _, a4, ee_X9_mustSign_25 rfl⟩, fun z => absurd e16 z⟩, fun z => absurd e15 z⟩⟩
  · obtain ⟨I1, a1, a2, a3, a4⟩ := m_must0 (sc := sc) (d := d) (J := J) h.2.2.1 h.2.2.2.1
    have k21 : sx_E sc (d + 3) cd_X9_mustSign 21 [some (.inr (.inr (9, 0))), some (.inl (nI b))] [.inr (.inr (9, 0))] I J (none, I1, J) := ee_X9_mustSign_21 (ee_X9_mustSign_22 ⟨_, _, a4, ee_X9_mustSign_25 rfl⟩)
    exact Or.inr ⟨I1, if_neg q, a2, a1, a3, ee_X9_mustSign_0 ⟨fun z => ⟨fun z2 => absurd (let y := g1 ⟨z, z2⟩; ⟨y.1, y.2.1⟩) q, fun _ => k21⟩, fun _ => k21⟩⟩
theorem m_num (h : rq_rt I n t c) (h1 : x1 = nI lo) (h2 : x2 = nI hi) (hlo : lo < 256) (hhi : hi < 256) : (∃ a I1, rq_nu n t lo hi c = .ok a ∧ rq_rt I1 n t a.2 ∧ rq_same I J I1 J ∧ rq_k4 I I1 ∧ sx_E sc (d + 3) cd_X9_number 0 [some (.inr (.inr (9, 0))), some (.inl x1), some (.inl x2), none] [] I J (some (.inl (nI a.1)), I1, J)) ∨ (∃ f I1, rq_nu n t lo hi c = .error (f, c) ∧ rq_rf I1 (f, c) ∧ rq_same I J I1 J ∧ rq_k4 I I1 ∧ sx_E sc (d + 3) cd_X9_number 0 [some (.inr (.inr (9, 0))), some (.inl x1), some (.inl x2), none] [] I J (some (.inl x1), I1, J)) := by
  obtain ⟨g1, g2⟩ := h.nm
  have hl := rq_nl_lt (n := n) (t := t) (c := c)
  have h17 := h.2.2.1
  subst h1; subst h2
  by_cases q : (rq_nl n t c).1 = 0
  · obtain ⟨a1, a2, a3⟩ := rq_bad (J := J) h17 h.2.2.2.1 (x := 1) (f := 1) rfl (by omega)
    exact Or.inr ⟨1, _, by unfold rq_nu; rw [if_pos q], a2, a1, a3, ee_X9_number_0 ⟨fun _ => ⟨fun z => absurd q (g1 z), fun _ => ⟨_, _, es_X9_bad, ee_X9_number_20 ⟨fun z => absurd z a2.nz, fun _ => ee_X9_number_47 ⟨fun z => absurd z a2.nz, fun _ => ee_X9_number_62 ⟨_, _, f_must a2, ee_X9_number_68 rfl⟩⟩⟩⟩⟩, fun z => absurd h17 z⟩⟩
  · obtain ⟨e15, e16, e13⟩ := g2 q
    have hle := (rq_nl_le q).2
    by_cases q2 : lo ≤ (rq_nl n t c).2 ∧ (rq_nl n t c).2 ≤ hi
    · obtain ⟨I1, a1, a2, a3, a4⟩ := m_must1 (sc := sc) (d := d) (J := J) (x := 1) h.1 e13 hle h17 n10
      refine Or.inl ⟨((rq_nl n t c).2, c + (rq_nl n t c).1), I1, by unfold rq_nu; rw [if_neg q, if_pos q2], a2, a1, a3, ee_X9_number_0 ⟨fun _ => ⟨fun _ => ee_X9_number_20 ⟨fun _ => ⟨1, I, J, ?_, ee_X9_number_39 ⟨fun z => absurd z n10, fun _ => ee_X9_number_47 ⟨fun _ => ?_, fun z => absurd h17 z⟩⟩⟩, fun z => absurd h17 z⟩, fun z => absurd e15 z⟩, fun z => absurd h17 z⟩⟩
      · rw [e16]; exact es_X9_in.v (rq_iI1 rfl rfl (nI_le q2.1 (by omega)) (nI_le q2.2 (by omega)))
      · rw [e16]; exact ee_X9_number_62 ⟨_, _, a4, ee_X9_number_68 rfl⟩
    · obtain ⟨a1, a2, a3⟩ := rq_bad (J := J) h17 h.2.2.2.1 (x := 2) (f := 2) rfl (by omega)
      refine Or.inr ⟨2, _, by unfold rq_nu; rw [if_neg q, if_neg q2], a2, a1, a3, ee_X9_number_0 ⟨fun _ => ⟨fun _ => ee_X9_number_20 ⟨fun _ => ⟨0, I, J, ?_, ee_X9_number_39 ⟨fun _ => ⟨_, _, es_X9_bad, ee_X9_number_47 ⟨fun z => absurd z a2.nz, fun _ => ee_X9_number_62 ⟨_, _, f_must a2, ee_X9_number_68 rfl⟩⟩⟩, fun z => absurd rfl z⟩⟩, fun z => absurd h17 z⟩, fun z => absurd e15 z⟩, fun z => absurd h17 z⟩⟩
      rw [e16]; exact es_X9_in.v (rq_iI0 rfl rfl (fun y => q2 ⟨(nI_leI (by omega) (by omega)).mp y.1, (nI_leI (by omega) (by omega)).mp y.2⟩))
theorem rq_kb0 : ∀ b, b < 256 → v_X9_kindBy (fun _ _ _ => 0) (fun _ _ _ => 0) (nI b) = (if rq_kd b = 0 then Int32.ofInt (-1000000) else nI (rq_kd b)) := by decide +kernel
theorem rq_kdl : ∀ b, b < 256 → rq_kd b ≠ 0 → 97 ≤ b ∧ b ≤ 122 := by decide +kernel
theorem rq_kcl (hT : rq_t9 I n t) (h : rq_kc n t c ≠ 0) : c < n ∧ rq_kc n t c = rq_kd (t c) ∧ 97 ≤ t c ∧ t c ≤ 122 := by
  unfold rq_kc at h ⊢
  by_cases q : c < n
  · rw [if_pos q] at h ⊢
    exact ⟨q, rfl, rq_kdl _ (hT.2.2 c q).2 h⟩
  · rw [if_neg q] at h; exact absurd rfl h
theorem m_sort (h : rq_rt I n t c) : v_X9_isSort I J = if rq_kc n t c = 0 then 0 else 1 := by
  have hT := h.1
  rw [v_X9_isSort, if_pos h.2.2.1]
  by_cases q : rq_kc n t c = 0
  · rw [if_pos q]
    by_cases q2 : I 9 0 15 = 2
    · rw [if_pos q2]
      rcases h.2.2.2.2 with ⟨_, e15⟩ | ⟨hlt, nd, e15, e16, e13⟩ | ⟨_, _, e15, _⟩ | ⟨_, _, e15⟩
      · exact absurd (e15.symm.trans q2) (by decide)
      · have e := rq_kb0 (t c) (hT.2.2 c hlt).2
        unfold rq_kc at q
        rw [if_pos hlt] at q
        rw [if_pos q] at e
        rw [e16, if_pos (show v_X9_kindBy I J (nI (t c)) = _ from e)]
      · exact absurd (e15.symm.trans q2) (by decide)
      · exact absurd (e15.symm.trans q2) (by decide)
    · rw [if_neg q2]
  · obtain ⟨k1, k2, k3⟩ := rq_kcl hT q
    obtain ⟨e15, e16, e13⟩ := (h.sg (b := t c) (w := 2) (hT.2.2 c k1).2 (Or.inl ⟨rfl, k3⟩)).2 ⟨k1, rfl⟩
    have e := rq_kb0 (t c) (hT.2.2 c k1).2
    rw [k2] at q
    rw [if_neg q] at e
    have h5 := rq_kd_5 (t c)
    rw [if_pos e15, e16, show v_X9_kindBy I J (nI (t c)) = nI (rq_kd (t c)) from e, if_neg (rq_n24 (by omega)), k2, if_neg q]
/-- a person -/
theorem e_perM (h : rq_rt I n t c) (hs : rq_fs I s) (hw : rq_tw s) (hk : rq_kc n t c ≠ 0) : (∃ e I1, rq_per1 n t (s 0) c = .error e ∧ rq_rf I1 e ∧ rq_same I J I1 J ∧ sx_E sc (d + 4) cd_X9_readPerson 0 [some (.inr (.inr (9, 0))), none, none, none] [] I J (none, I1, J)) ∨ (∃ a I1, rq_per1 n t (s 0) c = .ok a ∧ rq_rt I1 n t a.2.2 ∧ rq_fs I1 (rq_ad s a.1 a.2.1) ∧ rq_same I J I1 J ∧ sx_E sc (d + 4) cd_X9_readPerson 0 [some (.inr (.inr (9, 0))), none, none, none] [] I J (none, I1, J)) := by
  have hT := h.1
  have w := hw.1
  obtain ⟨k1, k2, k3⟩ := rq_kcl hT hk
  obtain ⟨e15, e16, e13⟩ := (h.sg (b := t c) (w := 2) (hT.2.2 c k1).2 (Or.inl ⟨rfl, k3⟩)).2 ⟨k1, rfl⟩
  have e := rq_kb0 (t c) (hT.2.2 c k1).2
  rw [if_neg (by rw [← k2]; exact hk)] at e
  have k7 : ∀ {res : Option sx_V × sx_I × sx_J}, sx_E sc (d + 4) cd_X9_readPerson 7 [some (.inr (.inr (9, 0))), none, none, none] [.inl (nI (rq_kc n t c))] I J res → sx_E sc (d + 4) cd_X9_readPerson 0 [some (.inr (.inr (9, 0))), none, none, none] [] I J res := fun k => by
    refine ee_X9_readPerson_0 ⟨nI (rq_kc n t c), I, J, ?_, k⟩
    rw [e16, k2]; exact es_X9_kindBy.v e
  have h0 : I 16 4 0 = nI (s 0) := hs 0 (by omega)
  by_cases q6 : 6 ≤ s 0
  · obtain ⟨a1, a2, a3⟩ := rq_bad (J := J) h.2.2.1 h.2.2.2.1 (x := 3) (f := 3) rfl (by omega)
    exact Or.inl ⟨(3, c), _, by unfold rq_per1; rw [if_neg hk, if_pos q6], a2, a1, k7 (ee_X9_readPerson_7 ⟨fun _ => ⟨_, _, es_X9_bad, ee_X9_readPerson_24 ⟨_, _, f_must a2, ee_X9_readPerson_29 ⟨_, _, _, f_num a2, ee_X9_readPerson_36 ⟨_, _, f_sign a2, ee_X9_readPerson_43 ⟨fun z => absurd z a2.nz, fun _ => ee_X9_readPerson_97 rfl⟩⟩⟩⟩⟩, fun z => absurd (by rw [h0, show s 0 = 6 by omega]; rfl) z⟩)⟩
  · obtain ⟨I1, a1, a2, a3, a4⟩ := m_must1 (sc := sc) (d := d + 1) (J := J) (x := 1) hT e13 (by omega) h.2.2.1 n10
    have k24 : ∀ {res : Option sx_V × sx_I × sx_J}, sx_E sc (d + 4) cd_X9_readPerson 29 [some (.inr (.inr (9, 0))), some (.inl (nI (rq_kc n t c))), none, none] [] I1 J res → sx_E sc (d + 4) cd_X9_readPerson 0 [some (.inr (.inr (9, 0))), none, none, none] [] I J res := fun k => k7 (ee_X9_readPerson_7 ⟨fun z => absurd ((nI_eq (b := 6) (by omega) (by omega)).mp (h0.symm.trans z)) (by omega), fun _ => ee_X9_readPerson_24 ⟨_, _, a4, k⟩⟩)
    rcases m_num (sc := sc) (d := d) (J := J) (x1 := 1) (x2 := 9) (lo := 1) (hi := 9) a2 rfl rfl (by omega) (by omega) with ⟨a, I2, p1, p2, p3, p4, p5⟩ | ⟨f, I2, p1, p2, p3, p4, p5⟩
    · rcases m_sign (sc := sc) (d := d) (J := J) (x := 59) (b := 59) p2 rfl (Or.inr rfl) with ⟨c2, I3, r1, r2, r3, r4, r5⟩ | ⟨I3, r1, r2, r3, r4, r5⟩
      · have f4 : rq_fs I3 s := fun k hk => ((r4 k).trans ((p4 k).trans (a3 k))).trans (hs k hk)
        have ex : (8 : Int32) + (4 : Int32) * I3 16 4 0 = nI (8 + 4 * s 0) := by rw [f4 0 (by omega), show (8 : Int32) = nI 8 from rfl, show (4 : Int32) = nI 4 from rfl, pk_mul, nI_add]
        let Ia : sx_I := sx_uI I3 16 4 (8 + 4 * s 0) (nI (rq_kc n t c))
        let Ib : sx_I := sx_uI Ia 16 4 (9 + 4 * s 0) (nI a.1)
        let Ic : sx_I := sx_uI Ib 16 4 (10 + 4 * s 0) 1
        let Id : sx_I := sx_uI Ic 16 4 0 (nI (s 0 + 1))
        have sc4 : ∀ k, rq_scr 16 4 k := fun k => by unfold rq_scr; omega
        have sd : rq_same I3 J Id J := (((rq_same.uI (sc4 _)).tr (.uI (sc4 _))).tr (.uI (sc4 _))).tr (.uI (sc4 _))
        have ne4 : ∀ x y z, ¬ (x = 16 ∧ y = 4) → Id x y z = I3 x y z := fun x y z q => (if_neg (fun v => q ⟨v.1, v.2.1⟩)).trans ((if_neg (fun v => q ⟨v.1, v.2.1⟩)).trans ((if_neg (fun v => q ⟨v.1, v.2.1⟩)).trans (if_neg (fun v => q ⟨v.1, v.2.1⟩))))
        have rd : rq_rt Id n t c2 := by
          obtain ⟨u1, u2, u3, u4, u5⟩ := r2
          refine ⟨u1.fr (ne4 9 0 12 (by omega)) (fun k => ne4 16 6 k (by omega)), u2, (ne4 9 0 17 (by omega)).trans u3, (ne4 9 0 14 (by omega)).trans u4, ?_⟩
          rw [ne4 9 0 15 (by omega), ne4 9 0 16 (by omega), ne4 9 0 13 (by omega)]
          exact u5
        have fd : rq_fs Id (rq_ad s (rq_kc n t c) a.1) := fun k hk => by
          have e5 : ∀ (X : sx_I) (y : Nat) (v : Int32), (sx_uI X 16 4 y v) 16 4 k = if k = y then v else X 16 4 k := fun X y v => by
            rw [sx_uI]
            by_cases q : k = y
            · rw [if_pos ⟨rfl, rfl, q⟩, if_pos q]
            · rw [if_neg (fun z => q z.2.2), if_neg q]
          show (sx_uI (sx_uI (sx_uI (sx_uI I3 16 4 (8 + 4 * s 0) (nI (rq_kc n t c))) 16 4 (9 + 4 * s 0) (nI a.1)) 16 4 (10 + 4 * s 0) 1) 16 4 0 (nI (s 0 + 1))) 16 4 k = _
          rw [e5, e5, e5, e5, f4 k hk]
          unfold rq_ad
          by_cases q0 : k = 0
          · simp only [if_pos q0]
          · by_cases q8 : k = 8 + 4 * s 0
            · have y9 : ¬ k = 9 + 4 * s 0 := by omega
              have y10 : ¬ k = 10 + 4 * s 0 := by omega
              simp only [if_neg q0, if_neg y9, if_neg y10, if_pos q8]
            · by_cases q9 : k = 9 + 4 * s 0
              · have y10 : ¬ k = 10 + 4 * s 0 := by omega
                simp only [if_neg q0, if_neg y10, if_neg q8, if_pos q9]
              · by_cases q10 : k = 10 + 4 * s 0
                · simp only [if_neg q0, if_neg q8, if_neg q9, if_pos q10]; rfl
                · simp only [if_neg q0, if_neg q8, if_neg q9, if_neg q10]
        refine Or.inr ⟨(rq_kc n t c, a.1, c2), Id, by unfold rq_per1; rw [if_neg hk, if_neg q6]; simp only [p1, r1, rq_bd], rd, fd, ((a1.tr p3).tr r3).tr sd, k24 (ee_X9_readPerson_29 ⟨_, _, _, p5, ee_X9_readPerson_36 ⟨_, _, r5, ee_X9_readPerson_43 ⟨fun _ => ?_, fun z => absurd r2.2.2.1 z⟩⟩⟩)⟩
        rw [ex, nI_clamp (by omega)]
        refine ⟨sx_in_nI (by omega) (by omega), ee_X9_readPerson_69 ?_⟩
        rw [show nI (8 + 4 * s 0) + 1 = nI (9 + 4 * s 0) by rw [nI_1, show 8 + 4 * s 0 + 1 = 9 + 4 * s 0 by omega], nI_clamp (by omega)]
        refine ⟨sx_in_nI (by omega) (by omega), ee_X9_readPerson_78 ?_⟩
        rw [show nI (8 + 4 * s 0) + 2 = nI (10 + 4 * s 0) by rw [show (2 : Int32) = nI 2 from rfl, nI_add, show 8 + 4 * s 0 + 2 = 10 + 4 * s 0 by omega], nI_clamp (by omega)]
        refine ⟨sx_in_nI (by omega) (by omega), ee_X9_readPerson_87 ?_⟩
        have e0 : Ic 16 4 0 = nI (s 0) := (if_neg (by omega)).trans ((if_neg (by omega)).trans ((if_neg (by omega)).trans (f4 0 (by omega))))
        rw [show (sx_uI (sx_uI (sx_uI I3 16 4 (8 + 4 * s 0) (nI (rq_kc n t c))) 16 4 (9 + 4 * s 0) (nI a.1)) 16 4 (10 + 4 * s 0) 1) 16 4 0 = nI (s 0) from e0, nI_1]
        exact ee_X9_readPerson_97 rfl
      · exact Or.inl ⟨_, I3, by unfold rq_per1; rw [if_neg hk, if_neg q6]; simp only [p1, r1, rq_bd], r2, (a1.tr p3).tr r3, k24 (ee_X9_readPerson_29 ⟨_, _, _, p5, ee_X9_readPerson_36 ⟨_, _, r5, ee_X9_readPerson_43 ⟨fun z => absurd z r2.nz, fun _ => ee_X9_readPerson_97 rfl⟩⟩⟩)⟩
    · exact Or.inl ⟨_, I2, by unfold rq_per1; rw [if_neg hk, if_neg q6]; simp only [p1, rq_bd], p2, a1.tr p3, k24 (ee_X9_readPerson_29 ⟨_, _, _, p5, ee_X9_readPerson_36 ⟨_, _, f_sign p2, ee_X9_readPerson_43 ⟨fun z => absurd z p2.nz, fun _ => ee_X9_readPerson_97 rfl⟩⟩⟩)⟩
end RQRM
