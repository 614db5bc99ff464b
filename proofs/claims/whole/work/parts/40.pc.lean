/-! pair: copy -/
section RQCP
variable {sc : Nat × (Nat → Int32)} {d : Nat} {I I1 I2 : sx_I} {J J1 J2 : sx_J} {a b i j n k : Nat} {res : Option sx_V × sx_I × sx_J}
/-- items of the reference, copied from A on to B on; of so many those from lo on -/
def cp_r (I : sx_I) (A B lo hi : Nat) : sx_I := fun x y z => if x = 16 ∧ y = 2 ∧ B + lo ≤ z ∧ z < B + hi then I 16 2 (A + (z - B)) else I x y z
theorem cp_u {A B : Nat} (hne : ¬ (B ≤ A + k ∧ A + k < B + k)) : sx_uI (cp_r I A B 0 k) 16 2 (B + k) ((cp_r I A B 0 k) 16 2 (A + k)) = cp_r I A B 0 (k + 1) := by
  have e : (cp_r I A B 0 k) 16 2 (A + k) = I 16 2 (A + k) := if_neg (by omega)
  rw [e]
  funext x y z
  simp only [sx_uI, cp_r]
  by_cases h1 : x = 16 ∧ y = 2 ∧ z = B + k
  · rw [if_pos h1, if_pos (by omega), h1.2.2, show B + k - B = k by omega]
  · rw [if_neg h1]
    by_cases h2 : x = 16 ∧ y = 2 ∧ B + 0 ≤ z ∧ z < B + k
    · rw [if_pos h2, if_pos (by omega)]
    · rw [if_neg h2, if_neg (by omega)]
theorem cp_d {A B m : Nat} (hk : k < m) (hne : ¬ (B + (k + 1) ≤ A + k ∧ A + k < B + m)) : sx_uI (cp_r I A B (k + 1) m) 16 2 (B + k) ((cp_r I A B (k + 1) m) 16 2 (A + k)) = cp_r I A B k m := by
  have e : (cp_r I A B (k + 1) m) 16 2 (A + k) = I 16 2 (A + k) := if_neg (by omega)
  rw [e]
  funext x y z
  simp only [sx_uI, cp_r]
  by_cases h1 : x = 16 ∧ y = 2 ∧ z = B + k
  · rw [if_pos h1, if_pos (by omega), h1.2.2, show B + k - B = k by omega]
  · rw [if_neg h1]
    by_cases h2 : x = 16 ∧ y = 2 ∧ B + (k + 1) ≤ z ∧ z < B + m
    · rw [if_pos h2, if_pos (by omega)]
    · rw [if_neg h2, if_neg (by omega)]
theorem cp_st (ha : a < 8) (hb : b < 8) (hi : i + k < 40) (hj : j + k < 40) {x5 x6 x7 : Int32} {o8 : Option sx_V} (h : sx_E sc (d + 1) cd_X9_copy 143 [some (.inr (.inr (9, 0))), some (.inl (nI a)), some (.inl (nI i)), some (.inl (nI b)), some (.inl (nI j)), some (.inl x5), some (.inl x6), some (.inl (x7 + 1)), some (.inl (nI k))] [] (sx_uI I 16 2 (40 * b + j + k) (I 16 2 (40 * a + i + k))) J res) : sx_E sc (d + 1) cd_X9_copy 167 [some (.inr (.inr (9, 0))), some (.inl (nI a)), some (.inl (nI i)), some (.inl (nI b)), some (.inl (nI j)), some (.inl x5), some (.inl x6), some (.inl x7), o8] [.inl (nI k)] I J res := by
  have e1 : ((40 : Int32) * nI a + nI i) + nI k = nI (40 * a + i + k) := by rw [show (40 : Int32) * nI a + nI i = nI (40 * a + i) from sx_ix, nI_add]
  have e2 : ((40 : Int32) * nI b + nI j) + nI k = nI (40 * b + j + k) := by rw [show (40 : Int32) * nI b + nI j = nI (40 * b + j) from sx_ix, nI_add]
  refine ee_X9_copy_167 ?_
  rw [e1, e2, nI_clamp (by omega), nI_clamp (by omega)]
  exact ⟨sx_in_nI (by omega) (by omega), sx_in_nI (by omega) (by omega), ee_X9_copy_198 h⟩
theorem lo_cpU (ha : a < 8) (hb : b < 8) (hi : i + n ≤ 40) (hj : j + n ≤ 40) (hij : j ≤ i) (hk : res = (some (.inl (nI n)), cp_r I (40 * a + i) (40 * b + j) 0 n, J)) : ∀ (m k : Nat) (o8 : Option sx_V), k + m = n → sx_E sc (d + 1) cd_X9_copy 143 [some (.inr (.inr (9, 0))), some (.inl (nI a)), some (.inl (nI i)), some (.inl (nI b)), some (.inl (nI j)), some (.inl (nI n)), some (.inl 1), some (.inl (nI k)), o8] [] (cp_r I (40 * a + i) (40 * b + j) 0 k) J res := by
  intro m
  induction m with
  | zero =>
    intro k o8 h
    obtain rfl : k = n := by omega
    exact ee_X9_copy_143 ⟨fun _ => hk, fun c => absurd (nI_le (by omega) (by omega)) c⟩
  | succ m ih =>
    intro k o8 h
    refine ee_X9_copy_143 ⟨fun c => absurd c (nI_ge (by omega) (by omega)), fun _ => ⟨fun c => absurd c n10, fun _ => cp_st ha hb (by omega) (by omega) ?_⟩⟩
    rw [nI_1, cp_u (by omega)]
    exact ih (k + 1) _ (by omega)
theorem lo_cpD (ha : a < 8) (hb : b < 8) (hi : i + n ≤ 40) (hj : j + n ≤ 40) (hij : i < j) (hk : res = (some (.inl (nI n)), cp_r I (40 * a + i) (40 * b + j) 0 n, J)) : ∀ (m k : Nat) (o8 : Option sx_V), k + m = n → sx_E sc (d + 1) cd_X9_copy 143 [some (.inr (.inr (9, 0))), some (.inl (nI a)), some (.inl (nI i)), some (.inl (nI b)), some (.inl (nI j)), some (.inl (nI n)), some (.inl 0), some (.inl (nI k)), o8] [] (cp_r I (40 * a + i) (40 * b + j) m n) J res := by
  intro m
  induction m with
  | zero =>
    intro k o8 h
    obtain rfl : k = n := by omega
    exact ee_X9_copy_143 ⟨fun _ => hk, fun c => absurd (nI_le (by omega) (by omega)) c⟩
  | succ m ih =>
    intro k o8 h
    refine ee_X9_copy_143 ⟨fun c => absurd c (nI_ge (by omega) (by omega)), fun _ => ⟨fun _ => ?_, fun c => absurd rfl c⟩⟩
    have e : (nI n - 1) - nI k = nI m := by
      rw [show (1 : Int32) = nI 1 from rfl, pk_sub (by omega), pk_sub (by omega), show n - 1 - k = m by omega]
    rw [e]
    refine cp_st ha hb (by omega) (by omega) ?_
    rw [nI_1, cp_d (by omega) (by omega)]
    exact ih (k + 1) _ (by omega)
theorem cp_0 {A B : Nat} : cp_r I A B n n = I := by
  funext x y z; exact if_neg (by omega)
theorem pr_copy (h : rq_Rel I J) {x1 x2 x3 x4 x5 : Int32} : rq_pair sc (d + 20) cd_X8_copy cd_X9_copy [some (.inr (.inr (8, 0))), some (.inl x1), some (.inl x2), some (.inl x3), some (.inl x4), some (.inl x5), none, none] [some (.inr (.inr (9, 0))), some (.inl x1), some (.inl x2), some (.inl x3), some (.inl x4), some (.inl x5), none, none, none] I J := by
  rcases rq_rw I J (sx_uI I 9 0 0 0) J x1 with ⟨a, ha, rfl, k1, k2⟩ | ⟨k1, k2⟩
  · rcases rq_rw I J (sx_uI I 9 0 0 0) J x3 with ⟨b, hb, rfl, k3, k4⟩ | ⟨k3, k4⟩
    · have c31 : ∀ {res : Option sx_V × sx_I × sx_J}, sx_E sc (d + 20) cd_X8_copy 31 [some (.inr (.inr (8, 0))), some (.inl (nI a)), some (.inl x2), some (.inl (nI b)), some (.inl x4), some (.inl x5), some (.inr (.inr (4, a))), none] [.inr (.inr (4, b))] I J res → sx_E sc (d + 20) cd_X8_copy 0 [some (.inr (.inr (8, 0))), some (.inl (nI a)), some (.inl x2), some (.inl (nI b)), some (.inl x4), some (.inl x5), none, none] [] I J res := fun k => by
        refine ee_X8_copy_0 ⟨_, _, _, es_X8_isNoRow.v k1, ee_X8_copy_4 ⟨fun _ => ⟨_, _, _, es_X8_isNoRow.v k3, ee_X8_copy_11 ⟨fun _ => ⟨sx_in_nI ha (by omega), ?_⟩, fun c => absurd rfl c⟩⟩, fun c => absurd rfl c⟩⟩
        rw [nI_clamp (by omega)]
        refine ee_X8_copy_23 ⟨sx_in_nI hb (by omega), ?_⟩
        rw [nI_clamp (by omega)]; exact k
      have m27 : ∀ {I : sx_I} {res : Option sx_V × sx_I × sx_J}, sx_E sc (d + 20) cd_X9_copy 27 [some (.inr (.inr (9, 0))), some (.inl (nI a)), some (.inl x2), some (.inl (nI b)), some (.inl x4), some (.inl x5), none, none, none] [] (sx_uI (sx_uI I 9 0 0 0) 9 0 1 0) J res → sx_E sc (d + 20) cd_X9_copy 0 [some (.inr (.inr (9, 0))), some (.inl (nI a)), some (.inl x2), some (.inl (nI b)), some (.inl x4), some (.inl x5), none, none, none] [] I J res := fun k => ee_X9_copy_0 (ee_X9_copy_5 ⟨_, _, _, es_X9_isRow.v k2, ee_X9_copy_9 ⟨fun c => absurd c n10, fun _ => ⟨_, _, _, es_X9_isRow.v k4, ee_X9_copy_16 ⟨fun c => absurd c n10, fun _ => k⟩⟩⟩⟩)
      have ca : (nI a).toNatClampNeg = a := nI_clamp (by omega)
      have cb : (nI b).toNatClampNeg = b := nI_clamp (by omega)
      have sa : sx_in (nI a) 8 = true := sx_in_nI ha (by omega)
      have sb : sx_in (nI b) 8 = true := sx_in_nI hb (by omega)
      rcases rq_lane (J := J) h.1 ha with ⟨l1, l2, l3⟩ | ⟨l1, l2, l3, l4, l5, n, hn, l6, l7⟩
      · refine ⟨.inl (Int32.ofInt (-1000010) - 1), _, _, _, _, c31 (ee_X8_copy_31 ⟨_, _, _, es_X4_isMissing.v l3, ee_X8_copy_38 ⟨fun c => absurd c n10, fun _ => ee_X8_copy_49 ⟨_, _, _, es_X8_found, ee_X8_copy_54 rfl⟩⟩⟩), m27 (ee_X9_copy_27 ⟨sa, fun _ => ee_X9_copy_45 ⟨_, _, _, es_X9_finding, ee_X9_copy_50 rfl⟩, fun c => absurd ?_ c⟩), rq_fnd h 1⟩
        rw [ca]; show I 16 0 a < 0
        rw [l2]; decide
      · have m45 : ∀ {I : sx_I} {res : Option sx_V × sx_I × sx_J}, ¬ I 16 0 a < 0 → ((0 ≤ I 16 0 b → sx_in (nI a) 8 = true ∧ sx_in (nI b) 8 = true ∧ (I 16 0 a = I 16 0 b → (x2 < 0 → sx_E sc (d + 20) cd_X9_copy 121 [some (.inr (.inr (9, 0))), some (.inl (nI a)), some (.inl x2), some (.inl (nI b)), some (.inl x4), some (.inl x5), none, none, none] [] (sx_uI (sx_uI I 9 0 0 0) 9 0 1 0) J res) ∧ (¬ x2 < 0 → (x4 < 0 → sx_E sc (d + 20) cd_X9_copy 121 [some (.inr (.inr (9, 0))), some (.inl (nI a)), some (.inl x2), some (.inl (nI b)), some (.inl x4), some (.inl x5), none, none, none] [] (sx_uI (sx_uI I 9 0 0 0) 9 0 1 0) J res) ∧ (¬ x4 < 0 → (x5 < 0 → sx_E sc (d + 20) cd_X9_copy 121 [some (.inr (.inr (9, 0))), some (.inl (nI a)), some (.inl x2), some (.inl (nI b)), some (.inl x4), some (.inl x5), none, none, none] [] (sx_uI (sx_uI I 9 0 0 0) 9 0 1 0) J res) ∧ (¬ x5 < 0 → sx_in (nI a) 8 = true ∧ ((I 16 1 a).toInt64 < x2.toInt64 + x5.toInt64 → sx_E sc (d + 20) cd_X9_copy 121 [some (.inr (.inr (9, 0))), some (.inl (nI a)), some (.inl x2), some (.inl (nI b)), some (.inl x4), some (.inl x5), none, none, none] [] (sx_uI (sx_uI I 9 0 0 0) 9 0 1 0) J res) ∧ (¬ (I 16 1 a).toInt64 < x2.toInt64 + x5.toInt64 → sx_in (nI b) 8 = true ∧ (x4.toInt64 + x5.toInt64 ≤ (I 16 1 b).toInt64 → (x2 < x4 → sx_E sc (d + 20) cd_X9_copy 138 [some (.inr (.inr (9, 0))), some (.inl (nI a)), some (.inl x2), some (.inl (nI b)), some (.inl x4), some (.inl x5), none, none, none] [.inl 0] (sx_uI (sx_uI I 9 0 0 0) 9 0 1 0) J res) ∧ (¬ x2 < x4 → sx_E sc (d + 20) cd_X9_copy 138 [some (.inr (.inr (9, 0))), some (.inl (nI a)), some (.inl x2), some (.inl (nI b)), some (.inl x4), some (.inl x5), none, none, none] [.inl 1] (sx_uI (sx_uI I 9 0 0 0) 9 0 1 0) J res)) ∧ (¬ x4.toInt64 + x5.toInt64 ≤ (I 16 1 b).toInt64 → sx_E sc (d + 20) cd_X9_copy 121 [some (.inr (.inr (9, 0))), some (.inl (nI a)), some (.inl x2), some (.inl (nI b)), some (.inl x4), some (.inl x5), none, none, none] [] (sx_uI (sx_uI I 9 0 0 0) 9 0 1 0) J res)))))) ∧ (¬ I 16 0 a = I 16 0 b → ∃ (w : Int32) (I1 : sx_I) (J1 : sx_J), sx_E sc (d + 19) cd_X9_finding 0 [some (.inr (.inr (9, 0))), some (.inl (5 : Int32))] [] (sx_uI (sx_uI I 9 0 0 0) 9 0 1 0) J (some (.inl w), I1, J1) ∧ sx_E sc (d + 20) cd_X9_copy 71 [some (.inr (.inr (9, 0))), some (.inl (nI a)), some (.inl x2), some (.inl (nI b)), some (.inl x4), some (.inl x5), none, none, none] [.inl w] I1 J1 res)) ∧ (¬ 0 ≤ I 16 0 b → sx_E sc (d + 20) cd_X9_copy 45 [some (.inr (.inr (9, 0))), some (.inl (nI a)), some (.inl x2), some (.inl (nI b)), some (.inl x4), some (.inl x5), none, none, none] [] (sx_uI (sx_uI I 9 0 0 0) 9 0 1 0) J res)) → sx_E sc (d + 20) cd_X9_copy 0 [some (.inr (.inr (9, 0))), some (.inl (nI a)), some (.inl x2), some (.inl (nI b)), some (.inl x4), some (.inl x5), none, none, none] [] I J res := fun {I res} hh k => by
          refine m27 (ee_X9_copy_27 ?_)
          rw [ca, cb]
          exact ⟨sa, fun c => absurd c hh, fun _ => ⟨sb, k⟩⟩
        rcases rq_lane (J := J) h.1 hb with ⟨b1, b2, b3⟩ | ⟨b1, b2, b3, b4, b5, n2, hn2, b6, b7⟩
        · refine ⟨.inl (Int32.ofInt (-1000010) - 1), _, _, _, _, c31 (ee_X8_copy_31 ⟨_, _, _, es_X4_isMissing.v l1, ee_X8_copy_38 ⟨fun _ => ⟨_, _, _, es_X4_isMissing.v b3, ee_X8_copy_46 ⟨fun c => absurd c n10, fun _ => ee_X8_copy_49 ⟨_, _, _, es_X8_found, ee_X8_copy_54 rfl⟩⟩⟩, fun c => absurd rfl c⟩⟩), m45 (I := sx_uI I 8 0 10 1) l5 ⟨fun c => absurd (b2 ▸ (show 0 ≤ I 16 0 b from c)) m1lt, fun _ => ee_X9_copy_45 ⟨_, _, _, es_X9_finding, ee_X9_copy_50 rfl⟩⟩, rq_fnd h 1⟩
        · have c46 : ∀ {res : Option sx_V × sx_I × sx_J}, sx_E sc (d + 20) cd_X8_copy 46 [some (.inr (.inr (8, 0))), some (.inl (nI a)), some (.inl x2), some (.inl (nI b)), some (.inl x4), some (.inl x5), some (.inr (.inr (4, a))), some (.inr (.inr (4, b)))] [.inl 0] I J res → sx_E sc (d + 20) cd_X8_copy 0 [some (.inr (.inr (8, 0))), some (.inl (nI a)), some (.inl x2), some (.inl (nI b)), some (.inl x4), some (.inl x5), none, none] [] I J res := fun k => c31 (ee_X8_copy_31 ⟨_, _, _, es_X4_isMissing.v l1, ee_X8_copy_38 ⟨fun _ => ⟨_, _, _, es_X4_isMissing.v b1, k⟩, fun c => absurd rfl c⟩⟩)
          by_cases hl : I 4 a 0 = I 4 b 0
          · have hl2 : I 16 0 a = I 16 0 b := l2.trans (hl.trans b2.symm)
            -- no such place
            have bad : ((v_X4_spans I J a x2 x5 = 0 ∨ (v_X4_spans I J a x2 x5 = 1 ∧ v_X4_spans I J b x4 x5 = 0)) ∧ (x2 < 0 ∨ x4 < 0 ∨ x5 < 0 ∨ (∃ i j m, i < 2 ^ 31 ∧ j < 2 ^ 31 ∧ m < 2 ^ 31 ∧ x2 = nI i ∧ x4 = nI j ∧ x5 = nI m ∧ (n < i + m ∨ n2 < j + m)))) → rq_pair sc (d + 20) cd_X8_copy cd_X9_copy [some (.inr (.inr (8, 0))), some (.inl (nI a)), some (.inl x2), some (.inl (nI b)), some (.inl x4), some (.inl x5), none, none] [some (.inr (.inr (9, 0))), some (.inl (nI a)), some (.inl x2), some (.inl (nI b)), some (.inl x4), some (.inl x5), none, none, none] I J := fun ⟨hs, hx⟩ => by
              have c97 : sx_E sc (d + 20) cd_X8_copy 97 [some (.inr (.inr (8, 0))), some (.inl (nI a)), some (.inl x2), some (.inl (nI b)), some (.inl x4), some (.inl x5), some (.inr (.inr (4, a))), some (.inr (.inr (4, b)))] [] I J (some (.inl (Int32.ofInt (-1000010) - 2)), sx_uI I 8 0 10 2, J) := ee_X8_copy_97 ⟨_, _, _, es_X8_found, ee_X8_copy_102 rfl⟩
              have c8 : sx_E sc (d + 20) cd_X8_copy 0 [some (.inr (.inr (8, 0))), some (.inl (nI a)), some (.inl x2), some (.inl (nI b)), some (.inl x4), some (.inl x5), none, none] [] I J (some (.inl (Int32.ofInt (-1000010) - 2)), sx_uI I 8 0 10 2, J) := by
                rcases hs with hs | ⟨hs, hs2⟩
                · exact c46 (ee_X8_copy_46 ⟨fun _ => ⟨fun _ => ⟨_, _, _, es_X4_spans.v hs, ee_X8_copy_82 ⟨fun _ => c97, fun c => absurd rfl c⟩⟩, fun c => absurd hl c⟩, fun c => absurd rfl c⟩)
                · exact c46 (ee_X8_copy_46 ⟨fun _ => ⟨fun _ => ⟨_, _, _, es_X4_spans.v hs, ee_X8_copy_82 ⟨fun c => absurd c n10, fun _ => ⟨_, _, _, es_X4_spans.v hs2, ee_X8_copy_94 ⟨fun _ => c97, fun c => absurd rfl c⟩⟩⟩⟩, fun c => absurd hl c⟩, fun c => absurd rfl c⟩)
              have f2 : sx_E sc (d + 20) cd_X9_copy 121 [some (.inr (.inr (9, 0))), some (.inl (nI a)), some (.inl x2), some (.inl (nI b)), some (.inl x4), some (.inl x5), none, none, none] [] (sx_uI (sx_uI (sx_uI I 8 0 10 2) 9 0 0 0) 9 0 1 0) J (some (.inl (Int32.ofInt (-1000010) - 2)), sx_uI (sx_uI (sx_uI (sx_uI I 8 0 10 2) 9 0 0 0) 9 0 1 0) 9 0 1 2, J) := ee_X9_copy_121 ⟨_, _, _, es_X9_finding, ee_X9_copy_126 rfl⟩
              refine ⟨.inl (Int32.ofInt (-1000010) - 2), _, _, _, _, c8, m45 (I := sx_uI I 8 0 10 2) l5 ⟨fun _ => ⟨sa, sb, fun _ => ⟨fun _ => f2, fun n2' => ⟨fun _ => f2, fun n4 => ⟨fun _ => f2, fun n5 => ⟨sa, fun _ => f2, fun c1 => ⟨sb, fun c2 => ?_, fun _ => f2⟩⟩⟩⟩⟩, fun c => absurd hl2 c⟩, fun c => absurd b4 c⟩, rq_fnd h 2⟩
              exfalso
              rcases hx with hx | hx | hx | ⟨i, j, m, hi, hj, hm, rfl, rfl, rfl, hlt⟩
              · exact n2' hx
              · exact n4 hx
              · exact n5 hx
              · rw [show (sx_uI I 8 0 10 2) 16 1 a = nI n from l7, nI_l hi, nI_l hm, nI_l (by omega), lN_add, pk_lLT (by omega) (by omega)] at c1
                rw [show (sx_uI I 8 0 10 2) 16 1 b = nI n2 from b7, nI_l hj, nI_l hm, nI_l (by omega), lN_add, pk_lLE (by omega) (by omega)] at c2
                omega
            rcases c_spans (J := J) l6 hn x2 x5 with ⟨i, m, him, rfl, rfl, sp⟩ | ⟨sp, hsp⟩
            · rcases c_spans (J := J) b6 hn2 x4 (nI m) with ⟨j, m2, hjm, rfl, hmm, sp2⟩ | ⟨sp2, hsp2⟩
              · have hm2 : m2 = m := ((nI_eq (by omega) (by omega)).mp hmm).symm
                subst hm2
                let I1 : sx_I := sx_uI (sx_cp I a b i j m2) 8 0 10 0
                let I2 : sx_I := sx_uI (sx_uI I1 9 0 0 0) 9 0 1 0
                have e8 : sx_E sc (d + 20) cd_X8_copy 0 [some (.inr (.inr (8, 0))), some (.inl (nI a)), some (.inl (nI i)), some (.inl (nI b)), some (.inl (nI j)), some (.inl (nI m2)), none, none] [] I J (some (.inl (nI m2)), I1, J) := by
                  refine c46 (ee_X8_copy_46 ⟨fun _ => ⟨fun _ => ⟨_, _, _, es_X4_spans.v sp, ee_X8_copy_82 ⟨fun c => absurd c n10, fun _ => ⟨_, _, _, es_X4_spans.v sp2, ee_X8_copy_94 ⟨fun c => absurd c n10, fun _ => ?_⟩⟩⟩⟩, fun c => absurd hl c⟩, fun c => absurd rfl c⟩)
                  rw [nI_clamp (by omega), nI_clamp (by omega), nI_clamp (by omega)]
                  exact ⟨⟨nI_pos' (by omega), nI_pos' (by omega), nI_pos' (by omega), by omega, by omega, by decide⟩, ee_X8_copy_121 ⟨_, _, _, es_X8_foundNothing, ee_X8_copy_127 rfl⟩⟩
                have i16 : ∀ y z, I1 16 y z = I 16 y z := fun y z => (if_neg (by omega)).trans (if_neg (by omega))
                have e9 : sx_E sc (d + 20) cd_X9_copy 0 [some (.inr (.inr (9, 0))), some (.inl (nI a)), some (.inl (nI i)), some (.inl (nI b)), some (.inl (nI j)), some (.inl (nI m2)), none, none, none] [] I1 J (some (.inl (nI m2)), cp_r I2 (40 * a + i) (40 * b + j) 0 m2, J) := by
                  refine m45 (I := I1) (by rw [i16]; exact l5) ⟨fun _ => ⟨sa, sb, fun _ => ⟨fun c => absurd c (nI_pos (by omega)), fun _ => ⟨fun c => absurd c (nI_pos (by omega)), fun _ => ⟨fun c => absurd c (nI_pos (by omega)), fun _ => ⟨sa, fun c => absurd c ?_, fun _ => ⟨sb, fun _ => ⟨fun c => ?_, fun c => ?_⟩, fun c => absurd ?_ c⟩⟩⟩⟩⟩, fun c => absurd (by rw [i16, i16]; exact hl2) c⟩, fun c => absurd (by rw [i16]; exact b4) c⟩
                  · rw [i16, l7, nI_l (by omega), nI_l (by omega), nI_l (by omega), lN_add, pk_lLT (by omega) (by omega)]; omega
                  · have hij := (nI_ltI (by omega) (by omega)).mp c
                    have lp := lo_cpD (sc := sc) (d := d + 19) (I := I2) (J := J) ha hb (show i + m2 ≤ 40 by omega) (show j + m2 ≤ 40 by omega) hij rfl m2 0 none (by omega)
                    rw [cp_0] at lp
                    exact ee_X9_copy_138 lp
                  · have hij : j ≤ i := by
                      rcases Nat.lt_or_ge i j with q | q
                      · exact absurd (nI_lt q (by omega)) c
                      · exact q
                    have lp := lo_cpU (sc := sc) (d := d + 19) (I := I2) (J := J) ha hb (show i + m2 ≤ 40 by omega) (show j + m2 ≤ 40 by omega) hij rfl m2 0 none (by omega)
                    rw [cp_0] at lp
                    exact ee_X9_copy_138 lp
                  · rw [i16, b7, nI_l (by omega), nI_l (by omega), nI_l (by omega), lN_add, pk_lLE (by omega) (by omega)]; omega
                have s1 : rq_sm rq_cRF I J I1 J := ⟨fun x y z c => by
                  have c2 := c.2
                  unfold rq_cRF rq_cR rq_cF at c2
                  exact (if_neg (by omega)).trans (if_neg (by omega)), fun _ _ _ _ => rfl⟩
                have s2 : rq_sm rq_cRF I1 J I2 J := rq_same.t0.sm.tr (.uI (Or.inr (Or.inr ⟨rfl, rfl⟩)))
                have s3 : rq_sm rq_cRF I2 J (cp_r I2 (40 * a + i) (40 * b + j) 0 m2) J := ⟨fun x y z c => if_neg (fun q => c.2 (Or.inl (Or.inl ⟨q.1, by omega⟩))), fun _ _ _ _ => rfl⟩
                have q2 : ∀ y z, I2 16 y z = I 16 y z := fun y z => ((if_neg (by omega)).trans (if_neg (by omega))).trans (i16 y z)
                have q4 : ∀ y z, cp_r I2 (40 * a + i) (40 * b + j) 0 m2 4 y z = I 4 y z := fun y z => rfl
                have q22 : ∀ y z, cp_r I2 (40 * a + i) (40 * b + j) 0 m2 22 y z = sx_cp I a b i j m2 22 y z := fun y z => rfl
                refine ⟨.inl (nI m2), I1, J, _, J, e8, e9, h.rows ((s1.tr s2).tr s3) (rq_rows.up (r := b) h.1 (fun z hz hne => ?_) (fun z k hz hne hk => ?_) ⟨?_, Or.inr ⟨b3, n2, hn2, b6, ?_⟩, fun k hk => ?_⟩) ?_⟩
                · exact ⟨(if_neg (by omega)).trans (q2 _ _), (if_neg (by omega)).trans (q2 _ _), rfl, rfl⟩
                · refine ⟨(if_neg (by omega)).trans (q2 _ _), ?_⟩
                  rw [q22]; exact if_neg (fun w => hne w.2)
                · exact ((if_neg (by omega)).trans (q2 _ _)).trans b2
                · exact ((if_neg (by omega)).trans (q2 _ _)).trans b7
                · have e22 : sx_cp I a b i j m2 22 b k = va_cpy (I 22 a) (I 22 b) i j m2 k := if_pos ⟨rfl, rfl⟩
                  rw [q22, e22]
                  by_cases ck : j ≤ k ∧ k < j + m2
                  · rw [pk_cpy_in ck.1 ck.2, ← (h.1 a ha).2.2 _ (by omega)]
                    refine (if_pos (by omega)).trans ((q2 _ _).trans ?_)
                    rw [show 40 * a + i + (40 * b + k - (40 * b + j)) = 40 * a + (i + (k - j)) by omega]
                  · rw [pk_cpy_out (by omega), ← (h.1 b hb).2.2 k hk]
                    exact (if_neg (by omega)).trans (q2 _ _)
                · exact (if_neg (by omega)).trans ((if_neg (by omega)).trans ((if_neg (by omega)).trans ((if_pos ⟨rfl, rfl, rfl⟩).trans ((if_neg (by omega)).trans (if_pos ⟨rfl, rfl, rfl⟩)).symm)))
              · refine bad ⟨Or.inr ⟨sp, sp2⟩, ?_⟩
                rcases hsp2 with q | q | ⟨j, m2, hj, hm2, rfl, hmm, hlt⟩
                · exact Or.inr (Or.inl q)
                · exact Or.inr (Or.inr (Or.inl q))
                · have hm3 : m2 = m := ((nI_eq (by omega) (by omega)).mp hmm).symm
                  exact Or.inr (Or.inr (Or.inr ⟨i, j, m, by omega, hj, by omega, rfl, rfl, rfl, by omega⟩))
            · refine bad ⟨Or.inl sp, ?_⟩
              rcases hsp with q | q | ⟨i, m, hi, hm, rfl, rfl, hlt⟩
              · exact Or.inl q
              · exact Or.inr (Or.inr (Or.inl q))
              · by_cases q4 : x4 < 0
                · exact Or.inr (Or.inl q4)
                · obtain ⟨j, hj, rfl⟩ := nI_of q4
                  exact Or.inr (Or.inr (Or.inr ⟨i, j, m, hi, hj, hm, rfl, rfl, rfl, Or.inl hlt⟩))
          · have hl2 : ¬ I 16 0 a = I 16 0 b := fun q => hl (l2.symm.trans (q.trans b2))
            exact ⟨.inl (Int32.ofInt (-1000010) - 5), _, _, _, _, c46 (ee_X8_copy_46 ⟨fun _ => ⟨fun c => absurd c hl, fun _ => ⟨_, _, _, es_X8_found, ee_X8_copy_73 rfl⟩⟩, fun c => absurd rfl c⟩), m45 (I := sx_uI I 8 0 10 5) l5 ⟨fun _ => ⟨sa, sb, fun c => absurd c hl2, fun _ => ⟨_, _, _, es_X9_finding, ee_X9_copy_71 rfl⟩⟩, fun c => absurd b4 c⟩, rq_fnd h 5⟩
    · exact .rd h (v := .inl (Int32.ofInt (-1000001))) (ee_X8_copy_0 ⟨_, _, _, es_X8_isNoRow.v k1, ee_X8_copy_4 ⟨fun _ => ⟨_, _, _, es_X8_isNoRow.v k3, ee_X8_copy_11 ⟨fun c => absurd c n10, fun _ => rfl⟩⟩, fun c => absurd rfl c⟩⟩) .rf (ee_X9_copy_0 (ee_X9_copy_5 ⟨_, _, _, es_X9_isRow.v k2, ee_X9_copy_9 ⟨fun c => absurd c n10, fun _ => ⟨_, _, _, es_X9_isRow.v k4, ee_X9_copy_16 ⟨fun _ => rfl, fun c => absurd rfl c⟩⟩⟩⟩)) .t0 rfl
  · exact .rd h (v := .inl (Int32.ofInt (-1000001))) (ee_X8_copy_0 ⟨_, _, _, es_X8_isNoRow.v k1, ee_X8_copy_4 ⟨fun c => absurd c n10, fun _ => rfl⟩⟩) .rf (ee_X9_copy_0 (ee_X9_copy_5 ⟨_, _, _, es_X9_isRow.v k2, ee_X9_copy_9 ⟨fun _ => rfl, fun c => absurd rfl c⟩⟩)) .t0 rfl
end RQCP
