/-! pairs: row, set, drop -/
section RQB
variable {sc : Nat × (Nat → Int32)} {d : Nat} {I I1 I2 : sx_I} {J J1 J2 : sx_J} {s L : Nat → Nat} {r n k : Nat} {res : Option sx_V × sx_I × sx_J}
def rq_cRF (a b k : Nat) : Prop := rq_cR a b k ∨ rq_cF a b k
def rq_ok (I : sx_I) (r : Nat) : Prop := I 16 0 r = I 4 r 0 ∧ (I 4 r 0 = Int32.ofInt (-1) ∨ ((I 4 r 0 = 0 ∨ I 4 r 0 = 1 ∨ I 4 r 0 = 2) ∧ ∃ n, n ≤ 40 ∧ I 4 r 1 = nI n ∧ I 16 1 r = nI n)) ∧ ∀ k, k < 40 → I 16 2 (40 * r + k) = I 22 r k
theorem rq_Rel.rows (h : rq_Rel I J) (e : rq_sm rq_cRF I J I1 J1) (hR : rq_rows I1) (hF : rq_fin I1) : rq_Rel I1 J1 := by
  refine h.but e (Or.inr hR) (Or.inl fun a b k => ?_) (Or.inl fun a b k => ?_) (Or.inr hF) (Or.inl fun a b k => ?_) (Or.inl fun a b k => ?_) (Or.inl fun a b k => ?_)
  · unfold rq_cT rq_cRF rq_cR rq_cF; omega
  · unfold rq_cA rq_cRF rq_cR rq_cF; omega
  · unfold rq_cN rq_cRF rq_cR rq_cF rq_cs; omega
  · unfold rq_cI rq_cRF rq_cR rq_cF rq_cs; omega
  · unfold rq_cG rq_cRF rq_cR rq_cF rq_cs; omega
theorem rq_rows.up (h : rq_rows I) (e : ∀ z, z < 8 → z ≠ r → I1 16 0 z = I 16 0 z ∧ I1 16 1 z = I 16 1 z ∧ I1 4 z 0 = I 4 z 0 ∧ I1 4 z 1 = I 4 z 1) (e2 : ∀ z k, z < 8 → z ≠ r → k < 40 → I1 16 2 (40 * z + k) = I 16 2 (40 * z + k) ∧ I1 22 z k = I 22 z k) (h1 : rq_ok I1 r) : rq_rows I1 := by
  intro z hz
  by_cases c : z = r
  · rw [c]; exact h1
  · obtain ⟨a, b, cc, dd⟩ := e z hz c
    have hh := h z hz
    rw [a, b, cc, dd]
    refine ⟨hh.1, hh.2.1, fun k hk => ?_⟩
    rw [(e2 z k hz c hk).1, (e2 z k hz c hk).2]
    exact hh.2.2 k hk
theorem rq_rw (I : sx_I) (J : sx_J) (I1 : sx_I) (J1 : sx_J) (x : Int32) : (∃ r, r < 8 ∧ x = nI r ∧ v_X8_isNoRow I J x = 0 ∧ v_X9_isRow I1 J1 x = 1) ∨ (v_X8_isNoRow I J x = 1 ∧ v_X9_isRow I1 J1 x = 0) := by
  rw [v_X8_isNoRow, v_X9_isRow, m_in (y := (0 : Int64)) (z := (7 : Int64)) x 0 7 (by decide) (by decide)]
  rcases pk_ix x (n := 8) (by omega) with h | h | ⟨r, h, rfl⟩
  · rw [if_pos h, if_pos h]; exact Or.inr ⟨rfl, rfl⟩
  · have h8 : (8 : Int32) ≤ x := h
    have h7 : (7 : Int32) < x := by
      rw [Int32.le_iff_toInt_le] at h8
      rw [Int32.lt_iff_toInt_lt]
      have e8 : (8 : Int32).toInt = 8 := by decide
      have e7 : (7 : Int32).toInt = 7 := by decide
      omega
    rw [if_neg (Int32.not_lt.mpr h8), if_pos h7, ite_self, ite_self]; exact Or.inr ⟨rfl, rfl⟩
  · refine Or.inl ⟨r, h, rfl, ?_, ?_⟩
    · rw [if_neg (nI_pos (by omega)), if_pos (show nI r < (8 : Int32) from nI_lt (b := 8) h (by omega))]
    · rw [if_neg (nI_pos (by omega)), if_neg (show ¬ (7 : Int32) < nI r from nI_nlt (a := 7) (by omega) (by omega))]
theorem rq_fnd (h : rq_Rel I J) (f : Int32) : rq_Rel (sx_uI (sx_uI (sx_uI (sx_uI I 8 0 10 f) 9 0 0 0) 9 0 1 0) 9 0 1 f) J := h.fin (((rq_sm.uI (Or.inl rfl)).tr rq_same.t0.sm).tr ((rq_sm.uI (Or.inr ⟨rfl, rfl⟩)).tr (.uI (Or.inr ⟨rfl, rfl⟩)))) rfl
theorem rq_lane (h : rq_rows I) (hr : r < 8) : (I 4 r 0 = Int32.ofInt (-1) ∧ I 16 0 r = Int32.ofInt (-1) ∧ v_X4_isMissing I J r = 1) ∨ (v_X4_isMissing I J r = 0 ∧ I 16 0 r = I 4 r 0 ∧ (I 4 r 0 = 0 ∨ I 4 r 0 = 1 ∨ I 4 r 0 = 2) ∧ 0 ≤ I 16 0 r ∧ ¬ I 16 0 r < 0 ∧ ∃ n, n ≤ 40 ∧ I 4 r 1 = nI n ∧ I 16 1 r = nI n) := by
  obtain ⟨h1, h2, _⟩ := h r hr
  rw [v_X4_isMissing]
  rcases h2 with h2 | ⟨h2, h3⟩
  · rw [if_pos h2]; exact Or.inl ⟨h2, h1.trans h2, rfl⟩
  · refine Or.inr ⟨?_, h1, h2, ?_, ?_, h3⟩
    · rcases h2 with h2 | h2 | h2 <;> rw [h2] <;> decide
    · rw [h1]; rcases h2 with h2 | h2 | h2 <;> rw [h2] <;> decide
    · rw [h1]; rcases h2 with h2 | h2 | h2 <;> rw [h2] <;> decide
theorem m1lt : ¬ (0 : Int32) ≤ Int32.ofInt (-1) := by decide
theorem pr_drop (h : rq_Rel I J) {x : Int32} : rq_pair sc (d + 20) cd_X8_drop cd_X9_drop [some (.inr (.inr (8, 0))), some (.inl x), none, none] [some (.inr (.inr (9, 0))), some (.inl x)] I J := by
  rcases rq_rw I J (sx_uI I 9 0 0 0) J x with ⟨r, hr, rfl, k1, k2⟩ | ⟨k1, k2⟩
  · have c16 : ∀ {res : Option sx_V × sx_I × sx_J}, sx_E sc (d + 20) cd_X8_drop 16 [some (.inr (.inr (8, 0))), some (.inl (nI r)), none, none] [.inr (.inr (4, r))] I J res → sx_E sc (d + 20) cd_X8_drop 0 [some (.inr (.inr (8, 0))), some (.inl (nI r)), none, none] [] I J res := fun k => ee_X8_drop_0 ⟨_, _, _, es_X8_isNoRow.v k1, ee_X8_drop_4 ⟨fun _ => ⟨sx_in_nI hr (by omega), by rw [nI_clamp (by omega)]; exact k⟩, fun c => absurd rfl c⟩⟩
    have m20 : ∀ {I : sx_I} {res : Option sx_V × sx_I × sx_J}, sx_E sc (d + 20) cd_X9_drop 20 [some (.inr (.inr (9, 0))), some (.inl (nI r))] [] (sx_uI (sx_uI I 9 0 0 0) 9 0 1 0) J res → sx_E sc (d + 20) cd_X9_drop 0 [some (.inr (.inr (9, 0))), some (.inl (nI r))] [] I J res := fun k => ee_X9_drop_0 (ee_X9_drop_5 ⟨_, _, _, es_X9_isRow.v k2, ee_X9_drop_9 ⟨fun c => absurd c n10, fun _ => k⟩⟩)
    rcases rq_lane (J := J) h.1 hr with ⟨l1, l2, l3⟩ | ⟨l1, l2, l3, l4, l5, n, hn, l6, l7⟩
    · refine ⟨.inl (Int32.ofInt (-1000010) - 1), _, _, _, _, c16 (ee_X8_drop_16 ⟨_, _, _, es_X4_isMissing.v l3, ee_X8_drop_21 ⟨fun c => absurd c n10, fun _ => ⟨_, _, _, es_X8_found, ee_X8_drop_29 rfl⟩⟩⟩), m20 (ee_X9_drop_20 ⟨sx_in_nI hr (by omega), fun c => ?_, fun _ => ⟨_, _, _, es_X9_finding, ee_X9_drop_34 rfl⟩⟩), rq_fnd h 1⟩
      rw [nI_clamp (by omega)] at c
      exact absurd (l2 ▸ (show 0 ≤ I 16 0 r from c)) m1lt
    · let I1 : sx_I := sx_uI (i_X4_end I J r) 8 0 10 0
      have a16 : ∀ y z, I1 16 y z = I 16 y z := fun y z => rfl
      refine ⟨.inl (nI n), I1, J, sx_uI (sx_uI (sx_uI I1 9 0 0 0) 9 0 1 0) 16 0 r (Int32.ofInt (-1)), J, c16 (ee_X8_drop_16 ⟨_, _, _, es_X4_isMissing.v l1, ee_X8_drop_21 ⟨fun _ => ⟨_, _, es_X4_end, ee_X8_drop_39 ⟨_, _, _, es_X8_foundNothing, ee_X8_drop_44 (by rw [v_X8_foundNothing, l6]; rfl)⟩⟩, fun c => absurd rfl c⟩⟩), m20 (ee_X9_drop_20 ⟨sx_in_nI hr (by omega), fun _ => ⟨sx_in_nI hr (by omega), ?_⟩, fun c => absurd ?_ c⟩), ?_⟩
      · rw [nI_clamp (by omega)]
        refine ee_X9_drop_42 ⟨sx_in_nI hr (by omega), ?_⟩
        rw [nI_clamp (by omega)]
        rw [show (sx_uI (sx_uI (sx_uI I1 9 0 0 0) 9 0 1 0) 16 0 r (Int32.ofInt (-1))) 16 1 r = nI n from l7]
      · rw [nI_clamp (by omega)]; exact l4
      · refine h.rows (((((rq_sm.uI (Or.inl (Or.inr (Or.inl rfl)))).tr (.uI (Or.inl (Or.inr (Or.inl rfl))))).tr (.uI (Or.inr (Or.inl rfl)))).tr rq_same.t0.sm).tr ((rq_sm.uI (Or.inr (Or.inr ⟨rfl, rfl⟩))).tr (.uI (Or.inl (Or.inl ⟨rfl, by omega⟩))))) (rq_rows.up (r := r) h.1 (fun z hz hne => ?_) (fun z k hz hne hk => ?_) ⟨?_, Or.inl ?_, fun k hk => ?_⟩) rfl
        · simp [I1, sx_uI, i_X4_end, hne]
        · simp [I1, sx_uI, i_X4_end]
        · simp [I1, sx_uI, i_X4_end]
        · simp [I1, sx_uI, i_X4_end]
        · simp only [I1, sx_uI, i_X4_end]
          simp
          exact (h.1 r hr).2.2 k hk
  · exact .rd h (v := .inl (Int32.ofInt (-1000001))) (ee_X8_drop_0 ⟨_, _, _, es_X8_isNoRow.v k1, ee_X8_drop_4 ⟨fun c => absurd c n10, fun _ => rfl⟩⟩) .rf (ee_X9_drop_0 (ee_X9_drop_5 ⟨_, _, _, es_X9_isRow.v k2, ee_X9_drop_9 ⟨fun _ => rfl, fun c => absurd rfl c⟩⟩)) .t0 rfl
theorem c_spans (h : I 4 r 1 = nI n) (hn : n ≤ 40) (x y : Int32) : (∃ i m, i + m ≤ n ∧ x = nI i ∧ y = nI m ∧ v_X4_spans I J r x y = 1) ∨ (v_X4_spans I J r x y = 0 ∧ (x < 0 ∨ y < 0 ∨ (∃ i m, i < 2 ^ 31 ∧ m < 2 ^ 31 ∧ x = nI i ∧ y = nI m ∧ n < i + m))) := by
  rw [v_X4_spans, h]
  by_cases h1 : x < 0
  · rw [if_pos h1]; exact Or.inr ⟨rfl, Or.inl h1⟩
  · by_cases h2 : y < 0
    · rw [if_neg h1, if_pos h2]; exact Or.inr ⟨rfl, Or.inr (Or.inl h2)⟩
    · obtain ⟨i, hi, rfl⟩ := nI_of h1
      obtain ⟨m, hm, rfl⟩ := nI_of h2
      rw [if_neg h1, if_neg h2]
      by_cases h3 : n < i
      · rw [if_pos (nI_lt h3 hi)]; exact Or.inr ⟨rfl, Or.inr (Or.inr ⟨i, m, hi, hm, rfl, rfl, by omega⟩)⟩
      · rw [if_neg (nI_nlt (by omega) (by omega)), pk_sub (by omega)]
        by_cases h4 : n - i < m
        · rw [if_pos (nI_lt h4 hm)]; exact Or.inr ⟨rfl, Or.inr (Or.inr ⟨i, m, hi, hm, rfl, rfl, by omega⟩)⟩
        · rw [if_neg (nI_nlt (by omega) (by omega))]; exact Or.inl ⟨i, m, by omega, rfl, rfl, rfl⟩
/-- the lowest bits, as many as a lane has -/
def rq_nar (l v : Int32) : Int32 := if l = 0 then v.toInt8.toInt32 else if l = 1 then v.toInt16.toInt32 else v
theorem pr_set (h : rq_Rel I J) {x y v : Int32} : rq_pair sc (d + 20) cd_X8_set cd_X9_set [some (.inr (.inr (8, 0))), some (.inl x), some (.inl y), some (.inl v), none] [some (.inr (.inr (9, 0))), some (.inl x), some (.inl y), some (.inl v)] I J := by
  rcases rq_rw I J (sx_uI I 9 0 0 0) J x with ⟨r, hr, rfl, k1, k2⟩ | ⟨k1, k2⟩
  · have c16 : ∀ {res : Option sx_V × sx_I × sx_J}, sx_E sc (d + 20) cd_X8_set 16 [some (.inr (.inr (8, 0))), some (.inl (nI r)), some (.inl y), some (.inl v), none] [.inr (.inr (4, r))] I J res → sx_E sc (d + 20) cd_X8_set 0 [some (.inr (.inr (8, 0))), some (.inl (nI r)), some (.inl y), some (.inl v), none] [] I J res := fun k => ee_X8_set_0 ⟨_, _, _, es_X8_isNoRow.v k1, ee_X8_set_4 ⟨fun _ => ⟨sx_in_nI hr (by omega), by rw [nI_clamp (by omega)]; exact k⟩, fun c => absurd rfl c⟩⟩
    have m20 : ∀ {I : sx_I} {res : Option sx_V × sx_I × sx_J}, sx_E sc (d + 20) cd_X9_set 20 [some (.inr (.inr (9, 0))), some (.inl (nI r)), some (.inl y), some (.inl v)] [] (sx_uI (sx_uI I 9 0 0 0) 9 0 1 0) J res → sx_E sc (d + 20) cd_X9_set 0 [some (.inr (.inr (9, 0))), some (.inl (nI r)), some (.inl y), some (.inl v)] [] I J res := fun k => ee_X9_set_0 (ee_X9_set_5 ⟨_, _, _, es_X9_isRow.v k2, ee_X9_set_9 ⟨fun c => absurd c n10, fun _ => k⟩⟩)
    rcases rq_lane (J := J) h.1 hr with ⟨l1, l2, l3⟩ | ⟨l1, l2, l3, l4, l5, n, hn, l6, l7⟩
    · refine ⟨.inl (Int32.ofInt (-1000010) - 1), _, _, _, _, c16 (ee_X8_set_16 ⟨_, _, _, es_X4_isMissing.v l3, ee_X8_set_23 ⟨fun c => absurd c n10, fun _ => ⟨_, _, _, es_X8_found, ee_X8_set_31 rfl⟩⟩⟩), m20 (ee_X9_set_20 ⟨sx_in_nI hr (by omega), fun c => ?_, fun _ => ⟨_, _, _, es_X9_finding, ee_X9_set_34 rfl⟩⟩), rq_fnd h 1⟩
      rw [nI_clamp (by omega)] at c
      exact absurd (l2 ▸ (show 0 ≤ I 16 0 r from c)) m1lt
    · have c23 : ∀ {w : Int32} {res : Option sx_V × sx_I × sx_J}, v_X4_spans I J r y 1 = w → sx_E sc (d + 20) cd_X8_set 39 [some (.inr (.inr (8, 0))), some (.inl (nI r)), some (.inl y), some (.inl v), some (.inr (.inr (4, r)))] [.inl w] I J res → sx_E sc (d + 20) cd_X8_set 0 [some (.inr (.inr (8, 0))), some (.inl (nI r)), some (.inl y), some (.inl v), none] [] I J res := fun hw k => c16 (ee_X8_set_16 ⟨_, _, _, es_X4_isMissing.v l1, ee_X8_set_23 ⟨fun _ => ⟨_, _, _, es_X4_spans.v hw, k⟩, fun c => absurd rfl c⟩⟩)
      have m50 : ∀ {I : sx_I} {w : Int32} {res : Option sx_V × sx_I × sx_J}, 0 ≤ I 16 0 r → I 16 1 r = nI n → v_X9_in (sx_uI (sx_uI I 9 0 0 0) 9 0 1 0) J y.toInt64 0 ((nI n - 1).toInt64) = w → sx_E sc (d + 20) cd_X9_set 50 [some (.inr (.inr (9, 0))), some (.inl (nI r)), some (.inl y), some (.inl v)] [.inl w] (sx_uI (sx_uI I 9 0 0 0) 9 0 1 0) J res → sx_E sc (d + 20) cd_X9_set 0 [some (.inr (.inr (9, 0))), some (.inl (nI r)), some (.inl y), some (.inl v)] [] I J res := fun {I w res} a1 a2 a3 k => by
        refine m20 (ee_X9_set_20 ?_)
        rw [nI_clamp (by omega)]
        refine ⟨sx_in_nI hr (by omega), fun _ => ⟨sx_in_nI hr (by omega), _, _, _, es_X9_in.v ?_, k⟩, fun c => absurd a1 c⟩
        rw [show (sx_uI (sx_uI I 9 0 0 0) 9 0 1 0) 16 1 r = nI n from a2]; exact a3
      rcases c_spans (J := J) l6 hn y 1 with ⟨i, m, him, rfl, hm, sp⟩ | ⟨sp, hsp⟩
      · have hm1 : m = 1 := by
          have := congrArg Int32.toInt hm
          rw [nI_toInt (by omega)] at this
          have e1 : (1 : Int32).toInt = 1 := by decide
          omega
        subst hm1
        have i40 : sx_in (nI i) 40 = true := sx_in_nI (by omega) (by omega)
        let I1 : sx_I := sx_uI (sx_uI I 22 r i (rq_nar (I 4 r 0) v)) 8 0 10 0
        have hput : sx_E sc (d + 19) cd_X4_put 0 [some (.inr (.inr (4, r))), some (.inl (nI i)), some (.inl v)] [] I J (some (.inl (rq_nar (I 4 r 0) v)), sx_uI I 22 r i (rq_nar (I 4 r 0) v), J) := by
          have go : ∀ w, w = rq_nar (I 4 r 0) v → sx_E sc (d + 19) cd_X4_put 42 [some (.inr (.inr (4, r))), some (.inl (nI i)), some (.inl v)] [.inl w, .inl (nI i), .inr (.inr (22, r))] I J (some (.inl (rq_nar (I 4 r 0) v)), sx_uI I 22 r i (rq_nar (I 4 r 0) v), J) := fun w hw => by
            subst hw
            refine ee_X4_put_42 ⟨i40, ?_⟩
            rw [nI_clamp (by omega)]
            refine ee_X4_put_43 ⟨i40, ?_⟩
            rw [nI_clamp (by omega), show (sx_uI I 22 r i (rq_nar (I 4 r 0) v)) 22 r i = rq_nar (I 4 r 0) v from if_pos ⟨rfl, rfl, rfl⟩]
          refine ee_X4_put_0 ⟨_, _, _, es_X4_spans.v sp, ee_X4_put_6 ⟨fun c => absurd c n10, fun _ => ⟨fun c => go _ ?_, fun c => ⟨fun c2 => go _ ?_, fun c2 => go _ ?_⟩⟩⟩⟩
          · rw [rq_nar, if_pos c]
          · rw [rq_nar, if_neg c, if_pos c2]
          · rw [rq_nar, if_neg c, if_neg c2]
        have b16 : (sx_uI (sx_uI I1 9 0 0 0) 9 0 1 0) 16 0 r = I 4 r 0 := l2
        have ei : (40 : Int32) * nI r + nI i = nI (40 * r + i) := sx_ix
        have i320 : sx_in (nI (40 * r + i)) 320 = true := sx_in_nI (by omega) (by omega)
        have go : ∀ w, w = rq_nar (I 4 r 0) v → sx_E sc (d + 20) cd_X9_set 99 [some (.inr (.inr (9, 0))), some (.inl (nI r)), some (.inl (nI i)), some (.inl v)] [.inl w, .inl ((40 : Int32) * nI r + nI i), .inr (.inr (16, 2))] (sx_uI (sx_uI I1 9 0 0 0) 9 0 1 0) J (some (.inl (rq_nar (I 4 r 0) v)), sx_uI (sx_uI (sx_uI I1 9 0 0 0) 9 0 1 0) 16 2 (40 * r + i) (rq_nar (I 4 r 0) v), J) := fun w hw => by
          subst hw
          refine ee_X9_set_99 ?_
          rw [ei, nI_clamp (by omega)]
          refine ⟨i320, ee_X9_set_100 ?_⟩
          rw [ei, nI_clamp (by omega)]
          refine ⟨i320, ?_⟩
          rw [show (sx_uI (sx_uI (sx_uI I1 9 0 0 0) 9 0 1 0) 16 2 (40 * r + i) (rq_nar (I 4 r 0) v)) 16 2 (40 * r + i) = rq_nar (I 4 r 0) v from if_pos ⟨rfl, rfl, rfl⟩]
        refine ⟨.inl (rq_nar (I 4 r 0) v), I1, J, sx_uI (sx_uI (sx_uI I1 9 0 0 0) 9 0 1 0) 16 2 (40 * r + i) (rq_nar (I 4 r 0) v), J, c23 sp (ee_X8_set_39 ⟨fun c => absurd c n10, fun _ => ⟨_, _, _, hput, ee_X8_set_56 ⟨_, _, _, es_X8_foundNothing, ee_X8_set_59 rfl⟩⟩⟩), m50 (show 0 ≤ I1 16 0 r from l4) (show I1 16 1 r = nI n from l7) (m_inN (by omega) (by omega)) (ee_X9_set_50 ⟨fun c => absurd c n10, fun _ => ⟨sx_in_nI hr (by omega), fun c => ?_, fun c => ⟨sx_in_nI hr (by omega), fun c2 => ?_, fun c2 => ?_⟩⟩⟩), ?_⟩
        · rw [nI_clamp (by omega), b16] at c
          exact go _ (by rw [rq_nar, if_pos c])
        · rw [nI_clamp (by omega), b16] at c c2
          exact go _ (by rw [rq_nar, if_neg c, if_pos c2])
        · rw [nI_clamp (by omega), b16] at c c2
          exact go _ (by rw [rq_nar, if_neg c, if_neg c2])
        · refine h.rows ((((rq_sm.uI (Or.inl (Or.inr (Or.inr rfl)))).tr (.uI (Or.inr (Or.inl rfl)))).tr rq_same.t0.sm).tr ((rq_sm.uI (Or.inr (Or.inr ⟨rfl, rfl⟩))).tr (.uI (Or.inl (Or.inl ⟨rfl, by omega⟩))))) (rq_rows.up (r := r) h.1 (fun z hz hne => ?_) (fun z k hz hne hk => ?_) ⟨l2, Or.inr ⟨l3, n, hn, l6, l7⟩, fun k hk => ?_⟩) rfl
          · exact ⟨rfl, rfl, rfl, rfl⟩
          · refine ⟨if_neg (by omega), (if_neg (by omega)).trans ((if_neg (by omega)).trans ((if_neg (by omega)).trans ((if_neg (by omega)).trans (if_neg (by omega)))))⟩
          · by_cases c : k = i
            · subst c
              exact (if_pos ⟨rfl, rfl, rfl⟩).trans ((if_neg (by omega)).trans ((if_neg (by omega)).trans ((if_neg (by omega)).trans ((if_neg (by omega)).trans (if_pos ⟨rfl, rfl, rfl⟩))))).symm
            · have a1 : (sx_uI (sx_uI (sx_uI I1 9 0 0 0) 9 0 1 0) 16 2 (40 * r + i) (rq_nar (I 4 r 0) v)) 16 2 (40 * r + k) = I 16 2 (40 * r + k) := if_neg (by omega)
              have a2 : (sx_uI (sx_uI (sx_uI I1 9 0 0 0) 9 0 1 0) 16 2 (40 * r + i) (rq_nar (I 4 r 0) v)) 22 r k = I 22 r k := (if_neg (by omega)).trans ((if_neg (by omega)).trans ((if_neg (by omega)).trans ((if_neg (by omega)).trans (if_neg (by omega)))))
              rw [a1, a2]
              exact (h.1 r hr).2.2 k hk
      · have hout : y < 0 ∨ nI n ≤ y := by
          rcases hsp with hsp | hsp | ⟨i, m, hi, hm, rfl, hm1, hlt⟩
          · exact Or.inl hsp
          · exact absurd hsp (by decide)
          · have := congrArg Int32.toInt hm1
            rw [nI_toInt hm] at this
            have e1 : (1 : Int32).toInt = 1 := by decide
            exact Or.inr (nI_le (by omega) hi)
        exact ⟨.inl (Int32.ofInt (-1000010) - 2), _, _, _, _, c23 sp (ee_X8_set_39 ⟨fun _ => ⟨_, _, _, es_X8_found, ee_X8_set_47 rfl⟩, fun c => absurd rfl c⟩), m50 (I := sx_uI I 8 0 10 2) l4 l7 (m_outN (by omega) hout) (ee_X9_set_50 ⟨fun _ => ⟨_, _, _, es_X9_finding, ee_X9_set_58 rfl⟩, fun c => absurd rfl c⟩), rq_fnd h 2⟩
  · exact .rd h (v := .inl (Int32.ofInt (-1000001))) (ee_X8_set_0 ⟨_, _, _, es_X8_isNoRow.v k1, ee_X8_set_4 ⟨fun c => absurd c n10, fun _ => rfl⟩⟩) .rf (ee_X9_set_0 (ee_X9_set_5 ⟨_, _, _, es_X9_isRow.v k2, ee_X9_set_9 ⟨fun _ => rfl, fun c => absurd rfl c⟩⟩)) .t0 rfl
theorem lo_row65 {x2 x3 : Int32} (hr : r < 8) (hk : res = (some (.inl x3), (fun x y z => if x = 16 ∧ y = 2 ∧ 40 * r ≤ z ∧ z < 40 * r + 40 then 0 else I x y z), J)) : ∀ (m k : Nat), k + m = 40 → sx_E sc (d + 1) cd_X9_row 65 [some (.inr (.inr (9, 0))), some (.inl (nI r)), some (.inl x2), some (.inl x3), some (.inl (nI k))] [] (fun x y z => if x = 16 ∧ y = 2 ∧ 40 * r ≤ z ∧ z < 40 * r + k then 0 else I x y z) J res := by
  intro m
  induction m with
  | zero =>
    intro k h
    obtain rfl : k = 40 := by omega
    exact ee_X9_row_65 ⟨fun _ => hk, fun c => absurd (nI_le (a := 40) (by omega) (by omega)) c⟩
  | succ m ih =>
    intro k h
    refine ee_X9_row_65 ⟨fun c => absurd c (nI_ge (b := 40) (by omega) (by omega)), fun _ => ?_⟩
    rw [show (40 : Int32) * nI r + nI k = nI (40 * r + k) from sx_ix]
    refine ⟨sx_in_nI (by omega) (by omega), ee_X9_row_85 ?_⟩
    rw [nI_1, nI_clamp (by omega)]
    have e : sx_uI (fun x y z => if x = 16 ∧ y = 2 ∧ 40 * r ≤ z ∧ z < 40 * r + k then 0 else I x y z) 16 2 (40 * r + k) 0 = fun x y z => if x = 16 ∧ y = 2 ∧ 40 * r ≤ z ∧ z < 40 * r + (k + 1) then 0 else I x y z := by
      funext x y z
      simp only [sx_uI]
      by_cases h1 : x = 16 ∧ y = 2 ∧ z = 40 * r + k
      · rw [if_pos h1, if_pos (by omega)]
      · rw [if_neg h1]
        by_cases h2 : x = 16 ∧ y = 2 ∧ 40 * r ≤ z ∧ z < 40 * r + k
        · rw [if_pos h2, if_pos (by omega)]
        · rw [if_neg h2, if_neg (by omega)]
    rw [e]
    exact ih (k + 1) (by omega)
theorem pr_row (h : rq_Rel I J) {x y v : Int32} : rq_pair sc (d + 20) cd_X8_row cd_X9_row [some (.inr (.inr (8, 0))), some (.inl x), some (.inl y), some (.inl v)] [some (.inr (.inr (9, 0))), some (.inl x), some (.inl y), some (.inl v), none] I J := by
  rcases rq_rw I J (sx_uI I 9 0 0 0) J x with ⟨r, hr, rfl, k1, k2⟩ | ⟨k1, k2⟩
  · rcases m_inC (I := sx_uI I 9 0 0 0) (J := J) I J (x := y) (a := 0) (b := 2) (y := 0) (z := 2) (by decide) (by decide) with ⟨i1, i2, y1, y2⟩ | ⟨i1, i2⟩
    · obtain ⟨l, hl, rfl⟩ := nI_of2 (M := 2) (n := 2) (by decide) (Int32.not_lt.mpr y1) y2
      have c13 : ∀ {res : Option sx_V × sx_I × sx_J}, sx_E sc (d + 20) cd_X8_row 13 [some (.inr (.inr (8, 0))), some (.inl (nI r)), some (.inl (nI l)), some (.inl v)] [.inl 0] I J res → sx_E sc (d + 20) cd_X8_row 0 [some (.inr (.inr (8, 0))), some (.inl (nI r)), some (.inl (nI l)), some (.inl v)] [] I J res := fun k => ee_X8_row_0 ⟨_, _, _, es_X8_isNoRow.v k1, ee_X8_row_4 ⟨fun _ => ⟨_, _, _, es_X8_isOutside.v i2, k⟩, fun c => absurd rfl c⟩⟩
      have m21 : ∀ {I : sx_I} {res : Option sx_V × sx_I × sx_J}, sx_E sc (d + 20) cd_X9_row 21 [some (.inr (.inr (9, 0))), some (.inl (nI r)), some (.inl (nI l)), some (.inl v), none] [.inl 1] (sx_uI I 9 0 0 0) J res → sx_E sc (d + 20) cd_X9_row 0 [some (.inr (.inr (9, 0))), some (.inl (nI r)), some (.inl (nI l)), some (.inl v), none] [] I J res := fun k => ee_X9_row_0 (ee_X9_row_5 ⟨_, _, _, es_X9_isRow.v k2, ee_X9_row_9 ⟨fun c => absurd c n10, fun _ => ⟨_, _, _, es_X9_in.v i1, k⟩⟩⟩)
      by_cases hv : v ≤ 40
      · by_cases hv0 : 0 ≤ v
        · obtain ⟨n, hn, rfl⟩ := nI_of2 (M := 40) (n := 40) (by decide) (Int32.not_lt.mpr hv0) hv
          let I1 : sx_I := sx_uI (i_X4_begin I J r (nI l) (nI n)) 8 0 10 0
          let I2 : sx_I := sx_uI (sx_uI (sx_uI (sx_uI I1 9 0 0 0) 9 0 1 0) 16 0 r (nI l)) 16 1 r (nI n)
          have hlp := lo_row65 (sc := sc) (d := d + 19) (I := I2) (J := J) (x2 := nI l) (x3 := nI n) hr rfl 40 0 rfl
          rw [show (fun x y z => if x = 16 ∧ y = 2 ∧ 40 * r ≤ z ∧ z < 40 * r + 0 then 0 else I2 x y z) = I2 from by funext x y z; exact if_neg (by omega)] at hlp
          refine ⟨.inl (nI n), I1, J, (fun x y z => if x = 16 ∧ y = 2 ∧ 40 * r ≤ z ∧ z < 40 * r + 40 then 0 else I2 x y z), J, c13 (ee_X8_row_13 ⟨fun _ => ⟨fun _ => ⟨fun _ => ⟨sx_in_nI hr (by omega), ?_⟩, fun c => absurd hv0 c⟩, fun c => absurd hv c⟩, fun c => absurd rfl c⟩), m21 (ee_X9_row_21 ⟨fun c => absurd c n10, fun _ => ⟨fun _ => ee_X9_row_38 ⟨fun _ => ⟨sx_in_nI hr (by omega), ee_X9_row_55 ⟨sx_in_nI hr (by omega), ee_X9_row_62 ?_⟩⟩, fun c => absurd hv0 c⟩, fun c => absurd hv c⟩⟩), ?_⟩
          · rw [nI_clamp (by omega)]
            exact ee_X8_row_41 ⟨_, _, es_X4_begin, ee_X8_row_46 ⟨_, _, _, es_X8_foundNothing, ee_X8_row_51 rfl⟩⟩
          · rw [nI_clamp (by omega)]
            exact hlp
          · have s1 : rq_sm rq_cRF I J I1 J := ⟨fun x y z c => by
              have c2 := c.2
              unfold rq_cRF rq_cR rq_cF at c2
              exact (if_neg (by omega)).trans ((if_neg (by omega)).trans ((if_neg (by omega)).trans (if_neg (by omega)))), fun _ _ _ _ => rfl⟩
            have s2 : rq_sm rq_cRF I1 J I2 J := (rq_same.t0.sm.tr (.uI (Or.inr (Or.inr ⟨rfl, rfl⟩)))).tr ((rq_sm.uI (Or.inl (Or.inl ⟨rfl, by omega⟩))).tr (.uI (Or.inl (Or.inl ⟨rfl, by omega⟩))))
            have s3 : rq_sm rq_cRF I2 J (fun x y z => if x = 16 ∧ y = 2 ∧ 40 * r ≤ z ∧ z < 40 * r + 40 then 0 else I2 x y z) J := ⟨fun x y z c => if_neg (fun q => c.2 (Or.inl (Or.inl ⟨q.1, by omega⟩))), fun _ _ _ _ => rfl⟩
            have hlane : nI l = 0 ∨ nI l = 1 ∨ nI l = 2 := by
              have e : l = 0 ∨ l = 1 ∨ l = 2 := by omega
              rcases e with rfl | rfl | rfl
              · exact Or.inl rfl
              · exact Or.inr (Or.inl rfl)
              · exact Or.inr (Or.inr rfl)
            refine h.rows ((s1.tr s2).tr s3) (rq_rows.up (r := r) h.1 (fun z hz hne => ?_) (fun z k hz hne hk => ?_) ⟨?_, Or.inr ⟨?_, n, hn, ?_, ?_⟩, fun k hk => ?_⟩) rfl
            · simp [I1, I2, sx_uI, i_X4_begin, i_J7_fill_22, hne]
            · refine ⟨(if_neg (by omega)).trans rfl, ?_⟩
              simp [I1, I2, sx_uI, i_X4_begin, i_J7_fill_22, hne]
            · simp [I1, I2, sx_uI, i_X4_begin, i_J7_fill_22]
            · simp [I1, I2, sx_uI, i_X4_begin, i_J7_fill_22]; exact hlane
            · simp [I1, I2, sx_uI, i_X4_begin, i_J7_fill_22]
            · simp [I1, I2, sx_uI, i_X4_begin, i_J7_fill_22]
            · refine (if_pos (by omega)).trans ?_
              simp [I1, I2, sx_uI, i_X4_begin, i_J7_fill_22, hk]
        · refine ⟨.inl (Int32.ofInt (-1000010) - 4), _, _, _, _, c13 (ee_X8_row_13 ⟨fun _ => ⟨fun _ => ⟨fun c => absurd c hv0, fun _ => ⟨_, _, _, es_X8_found, ee_X8_row_34 rfl⟩⟩, fun c => absurd hv c⟩, fun c => absurd rfl c⟩), m21 (ee_X9_row_21 ⟨fun c => absurd c n10, fun _ => ⟨fun _ => ee_X9_row_38 ⟨fun c => absurd c hv0, fun _ => ⟨_, _, _, es_X9_finding, ee_X9_row_47 rfl⟩⟩, fun c => absurd hv c⟩⟩), rq_fnd h 4⟩
      · exact .rd h (v := .inl (Int32.ofInt (-1000001))) (c13 (ee_X8_row_13 ⟨fun _ => ⟨fun c => absurd c hv, fun _ => rfl⟩, fun c => absurd rfl c⟩)) .rf (m21 (ee_X9_row_21 ⟨fun c => absurd c n10, fun _ => ⟨fun c => absurd c hv, fun _ => rfl⟩⟩)) .t0 rfl
    · exact .rd h (v := .inl (Int32.ofInt (-1000001))) (ee_X8_row_0 ⟨_, _, _, es_X8_isNoRow.v k1, ee_X8_row_4 ⟨fun _ => ⟨_, _, _, es_X8_isOutside.v i2, ee_X8_row_13 ⟨fun c => absurd c n10, fun _ => rfl⟩⟩, fun c => absurd rfl c⟩⟩) .rf (ee_X9_row_0 (ee_X9_row_5 ⟨_, _, _, es_X9_isRow.v k2, ee_X9_row_9 ⟨fun c => absurd c n10, fun _ => ⟨_, _, _, es_X9_in.v i1, ee_X9_row_21 ⟨fun _ => rfl, fun c => absurd rfl c⟩⟩⟩⟩)) .t0 rfl
  · exact .rd h (v := .inl (Int32.ofInt (-1000001))) (ee_X8_row_0 ⟨_, _, _, es_X8_isNoRow.v k1, ee_X8_row_4 ⟨fun c => absurd c n10, fun _ => rfl⟩⟩) .rf (ee_X9_row_0 (ee_X9_row_5 ⟨_, _, _, es_X9_isRow.v k2, ee_X9_row_9 ⟨fun _ => rfl, fun c => absurd rfl c⟩⟩)) .t0 rfl
end RQB
