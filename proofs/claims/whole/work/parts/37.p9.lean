/-! pair: ask -/
def tc_I (I : sx_I) (l : List Int32) : sx_I := fun x y z => if x = 1 ∧ y = 0 ∧ z = 1 then nI l.length else if x = 10 ∧ y = 3 ∧ z < l.length then l[z]?.getD 0 else I x y z
def tm_I (I : sx_I) (l : List Int32) : sx_I := fun x y z => if x = 9 ∧ y = 0 ∧ z = 30 then nI l.length else if x = 16 ∧ y = 8 ∧ z < l.length then l[z]?.getD 0 else I x y z
section RQY
variable {sc : Nat × (Nat → Int32)} {d : Nat} {I I1 I2 : sx_I} {J J1 J2 : sx_J} {s L : Nat → Nat} {p k : Nat} {b : Int32} {l : List Int32} {res : Option sx_V × sx_I × sx_J}
theorem tc_b (hl : l.length < 16) : sx_uI (sx_uI (tc_I I l) 10 3 l.length b) 1 0 1 (nI (l.length + 1)) = tc_I I (l ++ [b]) := by
  funext x y z
  simp only [sx_uI, tc_I, List.length_append, List.length_cons, List.length_nil]
  by_cases h1 : x = 1 ∧ y = 0 ∧ z = 1
  · rw [if_pos h1, if_pos h1]
  · rw [if_neg h1, if_neg h1, if_neg h1]
    by_cases h2 : x = 10 ∧ y = 3 ∧ z = l.length
    · rw [if_pos h2, if_pos (by omega), h2.2.2, List.getElem?_append_right (Nat.le_refl _), Nat.sub_self]; rfl
    · rw [if_neg h2]
      by_cases h3 : x = 10 ∧ y = 3 ∧ z < l.length
      · rw [if_pos h3, if_pos (by omega), List.getElem?_append_left h3.2.2]
      · rw [if_neg h3, if_neg (by omega)]
theorem tm_b (hl : l.length < 16) : sx_uI (sx_uI (tm_I I l) 16 8 l.length b) 9 0 30 (nI (l.length + 1)) = tm_I I (l ++ [b]) := by
  funext x y z
  simp only [sx_uI, tm_I, List.length_append, List.length_cons, List.length_nil]
  by_cases h1 : x = 9 ∧ y = 0 ∧ z = 30
  · rw [if_pos h1, if_pos h1]
  · rw [if_neg h1, if_neg h1, if_neg h1]
    by_cases h2 : x = 16 ∧ y = 8 ∧ z = l.length
    · rw [if_pos h2, if_pos (by omega), h2.2.2, List.getElem?_append_right (Nat.le_refl _), Nat.sub_self]; rfl
    · rw [if_neg h2]
      by_cases h3 : x = 16 ∧ y = 8 ∧ z < l.length
      · rw [if_pos h3, if_pos (by omega), List.getElem?_append_left h3.2.2]
      · rw [if_neg h3, if_neg (by omega)]
theorem e_beginC (hl : l.length < 16) : sx_E sc d cd_X1_begin 0 [some (.inr (.inr (1, 0))), some (.inl b)] [] (tc_I I l) J (none, tc_I I (l ++ [b]), J) := by
  have e : (tc_I I l) 1 0 1 = nI l.length := rfl
  refine ee_X1_begin_0 ?_
  rw [e]
  refine ⟨fun c => absurd c (nI_pos (by omega)), fun _ => ⟨fun c => absurd c (nI_ge (b := 16) (by omega) (by omega)), fun _ => ⟨sx_in_nI (by omega) (by omega), ee_X1_begin_29 ?_⟩⟩⟩
  rw [nI_clamp (by omega), show (sx_uI (tc_I I l) 10 3 l.length b) 1 0 1 = nI l.length from rfl, nI_1, tc_b hl]
  exact ee_X1_begin_39 rfl
theorem e_beganM (hl : l.length < 16) : sx_E sc d cd_X9_began 0 [some (.inr (.inr (9, 0))), some (.inl b)] [] (tm_I I l) J (none, tm_I I (l ++ [b]), J) := by
  have e : (tm_I I l) 9 0 30 = nI l.length := rfl
  refine ee_X9_began_0 ?_
  rw [e]
  refine ⟨fun c => absurd c (nI_ge (b := 16) (by omega) (by omega)), fun _ => ⟨sx_in_nI (by omega) (by omega), ee_X9_began_19 ?_⟩⟩
  rw [nI_clamp (by omega), show (sx_uI (tm_I I l) 16 8 l.length b) 9 0 30 = nI l.length from rfl, nI_1, tm_b hl]
  exact ee_X9_began_29 rfl
theorem tc_C (hC : rq_C I J 0 s L) : rq_C (tc_I I l) J 0 s L := hC.fr (fun a k c => by
  unfold rq_cs at c
  exact (if_neg (by omega)).trans (if_neg (by omega))) (fun _ _ _ => rfl)
theorem tm_Q (hQ : rq_Qi I s) : rq_Qi (tm_I I l) s := fun k hk => hQ k hk
/-- a body begins -/
theorem g_st (hC : rq_C I J 0 s L) (hn : s 0 ≤ 6) (hp : p < s 0) (hl : l.length < 16) (hk : k ≤ 16) (h : sx_E sc (d + 1) cd_X1_give 29 [some (.inr (.inr (1, 0))), some (.inl b), some (.inr (.inr (5, 0))), some (.inl (nI p)), some (.inl (nI k)), some (.inl (nI (k + 1)))] [.inl b] (tc_I I (l ++ [b])) J res) : sx_E sc (d + 1) cd_X1_give 0 [some (.inr (.inr (1, 0))), some (.inl b), some (.inr (.inr (5, 0))), some (.inl (nI p)), some (.inl (nI k)), none] [] (tc_I I l) J res := by
  refine ee_X1_give_0 ⟨fun c => absurd c (nI_nlt (a := 16) (by omega) (by omega)), fun _ => ⟨_, _, _, es_X5_has.v (c_has (tc_C hC) hn hp), ee_X1_give_12 ⟨fun c => absurd c n10, fun _ => ⟨_, _, e_beginC hl, ee_X1_give_22 ?_⟩⟩⟩⟩
  rw [nI_1]; exact h
theorem g_10 (hC : rq_C I J 0 s L) (hn : s 0 ≤ 6) (hp : p < s 0) (hl : l.length < 16) (hk : k ≤ 16) : sx_E sc (d + 1) cd_X1_give 0 [some (.inr (.inr (1, 0))), some (.inl 10), some (.inr (.inr (5, 0))), some (.inl (nI p)), some (.inl (nI k)), none] [] (tc_I I l) J (some (.inl (nI (s (9 + 4 * p)))), tc_I I (l ++ [10]), J) := by
  refine g_st hC hn hp hl hk ?_
  apply ee_X1_give_29 <;> first | (intro c; exact absurd c (by decide)) | (intro _; refine ee_X1_give_104 ⟨rq_in6 hp hn, ?_⟩; rw [nI_clamp (by omega), ((tc_C (l := l ++ [10]) hC).2.2.2.2.2.2.2.2.2.2 p hp).2.1]) | (intros; contradiction)
theorem g_20 (hC : rq_C I J 0 s L) (hn : s 0 ≤ 6) (hp : p < s 0) (hl : l.length < 16) (hk : k ≤ 16) : sx_E sc (d + 1) cd_X1_give 0 [some (.inr (.inr (1, 0))), some (.inl 20), some (.inr (.inr (5, 0))), some (.inl (nI p)), some (.inl (nI k)), none] [] (tc_I I l) J (some (.inl (nI p)), tc_I I (l ++ [20]), J) := by
  refine g_st hC hn hp hl hk ?_
  apply ee_X1_give_29 <;> first | (intro c; exact absurd c (by decide)) | (intro _; exact ee_X1_give_170 rfl) | (intros; contradiction)
theorem g_13 (hC : rq_C I J 0 s L) (hn : s 0 ≤ 6) (hp : p < s 0) (hl : l.length < 15) (hk : k ≤ 15) : sx_E sc (d + 2) cd_X1_give 0 [some (.inr (.inr (1, 0))), some (.inl 13), some (.inr (.inr (5, 0))), some (.inl (nI p)), some (.inl (nI k)), none] [] (tc_I I l) J (some (.inl (nI (s (9 + 4 * p)) - 100)), tc_I I (l ++ [13] ++ [10]), J) := by
  refine g_st hC hn hp (by omega) (by omega) ?_
  apply ee_X1_give_29 <;> first | (intro c; exact absurd c (by decide)) | (intro _; exact ee_X1_give_143 ⟨_, _, _, g_10 hC hn hp (by simp only [List.length_append, List.length_cons, List.length_nil]; omega) (by omega), ee_X1_give_153 rfl⟩) | (intros; contradiction)
theorem g_14 (hC : rq_C I J 0 s L) (hn : s 0 ≤ 6) (hp : p < s 0) (hl : l.length < 14) (hk : k ≤ 14) : sx_E sc (d + 3) cd_X1_give 0 [some (.inr (.inr (1, 0))), some (.inl 14), some (.inr (.inr (5, 0))), some (.inl (nI p)), some (.inl (nI k)), none] [] (tc_I I l) J (some (.inl ((nI (s (9 + 4 * p)) - 100) * 2)), tc_I I (l ++ [14] ++ [13] ++ [10]), J) := by
  refine g_st hC hn hp (by omega) (by omega) ?_
  apply ee_X1_give_29 <;> first | (intro c; exact absurd c (by decide)) | (intro _; exact ee_X1_give_157 ⟨_, _, _, g_13 hC hn hp (by simp only [List.length_append, List.length_cons, List.length_nil]; omega) (by omega), ee_X1_give_167 rfl⟩) | (intros; contradiction)
theorem g_21 (hC : rq_C I J 0 s L) (hW : rq_W s) (hp : p < s 0) (hl : l.length < 15) (hk : k ≤ 15) : sx_E sc (d + 2) cd_X1_give 0 [some (.inr (.inr (1, 0))), some (.inl 21), some (.inr (.inr (5, 0))), some (.inl (nI p)), some (.inl (nI k)), none] [] (tc_I I l) J (some (.inl (nI p + nI (rq_b (rq_D s) p * rq_T s p))), tc_I I (l ++ [21] ++ [20]), J) := by
  have hn := hW.1
  refine g_st hC hn hp (by omega) (by omega) ?_
  apply ee_X1_give_29 <;> first | (intro c; exact absurd c (by decide)) | (intro _; exact ee_X1_give_172 ⟨_, _, _, g_20 hC hn hp (by simp only [List.length_append, List.length_cons, List.length_nil]; omega) (by omega), ee_X1_give_182 ⟨_, _, _, (es_X5_truthOf (fun _ => rq_in6 hp hn)).v (c_truthOf (tc_C hC) hn (rq_D_lt s) hW.2.1 hp (hW.kd hp)), ee_X1_give_187 rfl⟩⟩) | (intros; contradiction)
theorem g_22 (hC : rq_C I J 0 s L) (hW : rq_W s) (hp : p < s 0) (hl : l.length < 14) (hk : k ≤ 14) : sx_E sc (d + 3) cd_X1_give 0 [some (.inr (.inr (1, 0))), some (.inl 22), some (.inr (.inr (5, 0))), some (.inl (nI p)), some (.inl (nI k)), none] [] (tc_I I l) J (some (.inl (nI p + nI (rq_b (rq_D s) p * rq_T s p) - Int32.ofInt (1000))), tc_I I (l ++ [22] ++ [21] ++ [20]), J) := by
  have hn := hW.1
  refine g_st hC hn hp (by omega) (by omega) ?_
  apply ee_X1_give_29 <;> first | (intro c; exact absurd c (by decide)) | (intro _; exact ee_X1_give_189 ⟨_, _, _, g_21 hC hW hp (by simp only [List.length_append, List.length_cons, List.length_nil]; omega) (by omega), ee_X1_give_199 rfl⟩) | (intros; contradiction)
theorem g_24 (hC : rq_C I J 0 s L) (hW : rq_W s) (hp : p < s 0) (hl : l.length < 14) (hk : k ≤ 14) : sx_E sc (d + 3) cd_X1_give 0 [some (.inr (.inr (1, 0))), some (.inl 24), some (.inr (.inr (5, 0))), some (.inl (nI p)), some (.inl (nI k)), none] [] (tc_I I l) J (some (.inl ((nI p + nI (rq_b (rq_D s) p * rq_T s p)) * 2)), tc_I I (l ++ [24] ++ [21] ++ [20]), J) := by
  have hn := hW.1
  refine g_st hC hn hp (by omega) (by omega) ?_
  apply ee_X1_give_29 <;> first | (intro c; exact absurd c (by decide)) | (intro _; exact ee_X1_give_224 ⟨_, _, _, g_21 hC hW hp (by simp only [List.length_append, List.length_cons, List.length_nil]; omega) (by omega), ee_X1_give_234 rfl⟩) | (intros; contradiction)
/-- which body -/
theorem g_nb0 (hC : rq_C I J 0 s L) (hW : rq_W s) (hp : p < s 0) : sx_E sc (d + 1) cd_X1_nearestBody 0 [some (.inr (.inr (15, 0))), some (.inr (.inr (5, 0))), some (.inl (nI p)), none] [] (tc_I I l) J (some (.inl (sx_eT 0 (s (8 + 4 * p)))), tc_I I l, J) := by
  have hn := hW.1
  have hk := hW.kd hp
  have e := ((tc_C (l := l) hC).2.2.2.2.2.2.2.2.2.2 p hp).1
  refine ee_X1_nearestBody_0_0 ⟨_, _, _, es_X5_has.v (c_has (tc_C hC) hn hp), ee_X1_nearestBody_0_5 ⟨fun c => absurd c n10, fun _ => ⟨rq_in6 hp hn, ?_⟩⟩⟩
  rw [nI_clamp (by omega), e]
  refine ee_X1_nearestBody_0_18 ⟨fun c => absurd c (nI_pos (by omega)), fun _ => ⟨fun c => absurd c (nI_ge (b := 6) (by omega) (by omega)), fun _ => ⟨sx_in_nI (by omega) (by omega), ?_⟩⟩⟩
  rw [nI_clamp (by omega)]
theorem g_nb1 (hC : rq_C I J 0 s L) (hW : rq_W s) (hp : p < s 0) : sx_E sc (d + 1) cd_X1_nearestBody 0 [some (.inr (.inr (15, 1))), some (.inr (.inr (5, 0))), some (.inl (nI p)), none] [] (tc_I I l) J (some (.inl (sx_eT 1 (s (8 + 4 * p)))), tc_I I l, J) := by
  have hn := hW.1
  have hk := hW.kd hp
  have e := ((tc_C (l := l) hC).2.2.2.2.2.2.2.2.2.2 p hp).1
  refine ee_X1_nearestBody_1_0 ⟨_, _, _, es_X5_has.v (c_has (tc_C hC) hn hp), ee_X1_nearestBody_1_5 ⟨fun c => absurd c n10, fun _ => ⟨rq_in6 hp hn, ?_⟩⟩⟩
  rw [nI_clamp (by omega), e]
  refine ee_X1_nearestBody_1_18 ⟨fun c => absurd c (nI_pos (by omega)), fun _ => ⟨fun c => absurd c (nI_ge (b := 6) (by omega) (by omega)), fun _ => ⟨sx_in_nI (by omega) (by omega), ?_⟩⟩⟩
  rw [nI_clamp (by omega)]
def ak_W (s : Nat → Nat) (p : Nat) : Int32 := nI (s (9 + 4 * p))
def ak_T (s : Nat → Nat) (p : Nat) : Int32 := nI p + nI (rq_b (rq_D s) p * rq_T s p)
def ak_g (s : Nat → Nat) (p : Nat) : Int32 := if s (8 + 4 * p) = 4 then ak_W s p - 100 else (ak_W s p - 100) * 2
def ak_gl (s : Nat → Nat) (p : Nat) (l : List Int32) : List Int32 := if s (8 + 4 * p) = 4 then l ++ [13] ++ [10] else l ++ [14] ++ [13] ++ [10]
def ak_m (s : Nat → Nat) (p : Nat) : Int32 := if s (8 + 4 * p) = 1 then ak_T s p else if s (8 + 4 * p) = 2 then ak_T s p * 2 else if s (8 + 4 * p) = 3 then ak_T s p - Int32.ofInt (1000) else nI p - ak_g s p
def ak_ml (s : Nat → Nat) (p : Nat) (l : List Int32) : List Int32 := if s (8 + 4 * p) = 1 then l ++ [21] ++ [20] else if s (8 + 4 * p) = 2 then l ++ [24] ++ [21] ++ [20] else if s (8 + 4 * p) = 3 then l ++ [22] ++ [21] ++ [20] else ak_gl s p (l ++ [23] ++ [20])
def ak_z (s : Nat → Nat) (p : Nat) : Int32 := if s (8 + 4 * p) = 2 then -(ak_W s p + ak_m s p) else if s (8 + 4 * p) < 4 then ak_W s p + ak_m s p else ak_g s p
def ak_zl (s : Nat → Nat) (p : Nat) (l : List Int32) : List Int32 := if s (8 + 4 * p) = 2 then ak_ml s p (l ++ [12] ++ [11] ++ [10]) else if s (8 + 4 * p) < 4 then ak_ml s p (l ++ [11] ++ [10]) else ak_gl s p l
/-- the guests' size, in the class -/
theorem z_gC (hC : rq_C I J 0 s L) (hW : rq_W s) (hp : p < s 0) (h4 : 4 ≤ s (8 + 4 * p)) (hl : l.length < 14) (hk : k ≤ 14) : sx_E sc (d + 4) cd_X1_sizeOf 0 [some (.inr (.inr (1, 0))), some (.inr (.inr (5, 0))), some (.inl (nI p)), some (.inl (nI k))] [] (tc_I I l) J (some (.inl (ak_g s p)), tc_I I (ak_gl s p l), J) := by
  have hkd := hW.kd hp
  have hnb := g_nb0 (sc := sc) (d := d + 2) (l := l) hC hW hp
  rw [ak_g, ak_gl]
  by_cases c : s (8 + 4 * p) = 4
  · rw [c] at hnb ⊢
    exact ee_X1_sizeOf_0 ⟨_, _, _, hnb, ee_X1_sizeOf_9 ⟨_, _, _, g_13 hC hW.1 hp (by omega) (by omega), ee_X1_sizeOf_15 rfl⟩⟩
  · rw [show s (8 + 4 * p) = 5 by omega] at hnb ⊢
    exact ee_X1_sizeOf_0 ⟨_, _, _, hnb, ee_X1_sizeOf_9 ⟨_, _, _, g_14 hC hW.1 hp (by omega) (by omega), ee_X1_sizeOf_15 rfl⟩⟩
theorem z_mC (hC : rq_C I J 0 s L) (hW : rq_W s) (hp : p < s 0) (hl : l.length < 12) (hk : k ≤ 12) : sx_E sc (d + 6) cd_X1_markOf 0 [some (.inr (.inr (1, 0))), some (.inr (.inr (5, 0))), some (.inl (nI p)), some (.inl (nI k))] [] (tc_I I l) J (some (.inl (ak_m s p)), tc_I I (ak_ml s p l), J) := by
  have hkd := hW.2.2.2.2.2.2.2.2.2 p hp
  have hnb := g_nb1 (sc := sc) (d := d + 4) (l := l) hC hW hp
  have e : s (8 + 4 * p) = 1 ∨ s (8 + 4 * p) = 2 ∨ s (8 + 4 * p) = 3 ∨ 4 ≤ s (8 + 4 * p) := by omega
  rcases e with e | e | e | e
  · rw [e] at hnb; rw [ak_m, ak_ml, e]
    exact ee_X1_markOf_0 ⟨_, _, _, hnb, ee_X1_markOf_9 ⟨_, _, _, g_21 hC hW hp (by omega) (by omega), ee_X1_markOf_15 rfl⟩⟩
  · rw [e] at hnb; rw [ak_m, ak_ml, e]
    exact ee_X1_markOf_0 ⟨_, _, _, hnb, ee_X1_markOf_9 ⟨_, _, _, g_24 hC hW hp (by omega) (by omega), ee_X1_markOf_15 rfl⟩⟩
  · rw [e] at hnb; rw [ak_m, ak_ml, e]
    exact ee_X1_markOf_0 ⟨_, _, _, hnb, ee_X1_markOf_9 ⟨_, _, _, g_22 hC hW hp (by omega) (by omega), ee_X1_markOf_15 rfl⟩⟩
  · have e23 : sx_eT 1 (s (8 + 4 * p)) = 23 := by
      have e5 : s (8 + 4 * p) = 4 ∨ s (8 + 4 * p) = 5 := by omega
      rcases e5 with e5 | e5 <;> rw [e5] <;> rfl
    rw [e23] at hnb
    rw [ak_m, ak_ml, if_neg (by omega), if_neg (by omega), if_neg (by omega), if_neg (by omega), if_neg (by omega), if_neg (by omega)]
    refine ee_X1_markOf_0 ⟨_, _, _, hnb, ee_X1_markOf_9 ⟨_, _, _, g_st hC hW.1 hp (by omega) (by omega) ?_, ee_X1_markOf_15 rfl⟩⟩
    apply ee_X1_give_29 <;> first | (intro c; exact absurd c (by decide)) | (intro _; exact ee_X1_give_204 ⟨_, _, _, g_20 hC hW.1 hp (by simp only [List.length_append, List.length_cons, List.length_nil]; omega) (by omega), ee_X1_give_214 ⟨_, _, _, z_gC hC hW hp e (by simp only [List.length_append, List.length_cons, List.length_nil]; omega) (by omega), ee_X1_give_222 rfl⟩⟩) | (intros; contradiction)
theorem g_11 (hC : rq_C I J 0 s L) (hW : rq_W s) (hp : p < s 0) (hl : l.length < 10) (hk : k ≤ 10) : sx_E sc (d + 7) cd_X1_give 0 [some (.inr (.inr (1, 0))), some (.inl 11), some (.inr (.inr (5, 0))), some (.inl (nI p)), some (.inl (nI k)), none] [] (tc_I I l) J (some (.inl (ak_W s p + ak_m s p)), tc_I I (ak_ml s p (l ++ [11] ++ [10])), J) := by
  have hn := hW.1
  refine g_st hC hn hp (by omega) (by omega) ?_
  apply ee_X1_give_29 <;> first | (intro c; exact absurd c (by decide)) | (intro _; exact ee_X1_give_111 ⟨_, _, _, g_10 hC hn hp (by simp only [List.length_append, List.length_cons, List.length_nil]; omega) (by omega), ee_X1_give_121 ⟨_, _, _, z_mC hC hW hp (by simp only [List.length_append, List.length_cons, List.length_nil]; omega) (by omega), ee_X1_give_129 rfl⟩⟩) | (intros; contradiction)
theorem z_zC (hC : rq_C I J 0 s L) (hW : rq_W s) (hp : p < s 0) (hl : l.length < 8) (hk : k ≤ 8) : sx_E sc (d + 9) cd_X1_sizeOf 0 [some (.inr (.inr (1, 0))), some (.inr (.inr (5, 0))), some (.inl (nI p)), some (.inl (nI k))] [] (tc_I I l) J (some (.inl (ak_z s p)), tc_I I (ak_zl s p l), J) := by
  have hkd := hW.2.2.2.2.2.2.2.2.2 p hp
  have hnb := g_nb0 (sc := sc) (d := d + 7) (l := l) hC hW hp
  rw [ak_z, ak_zl]
  by_cases c2 : s (8 + 4 * p) = 2
  · rw [if_pos c2, if_pos c2]
    rw [show sx_eT 0 (s (8 + 4 * p)) = 12 by rw [c2]; rfl] at hnb
    refine ee_X1_sizeOf_0 ⟨_, _, _, hnb, ee_X1_sizeOf_9 ⟨_, _, _, g_st hC hW.1 hp (by omega) (by omega) ?_, ee_X1_sizeOf_15 rfl⟩⟩
    apply ee_X1_give_29 <;> first | (intro c; exact absurd c (by decide)) | (intro _; exact ee_X1_give_131 ⟨_, _, _, g_11 hC hW hp (by simp only [List.length_append, List.length_cons, List.length_nil]; omega) (by omega), ee_X1_give_141 rfl⟩) | (intros; contradiction)
  · rw [if_neg c2, if_neg c2]
    by_cases c4 : s (8 + 4 * p) < 4
    · rw [if_pos c4, if_pos c4]
      have e11 : sx_eT 0 (s (8 + 4 * p)) = 11 := by
        have e5 : s (8 + 4 * p) = 1 ∨ s (8 + 4 * p) = 3 := by omega
        rcases e5 with e5 | e5 <;> rw [e5] <;> rfl
      rw [e11] at hnb
      exact ee_X1_sizeOf_0 ⟨_, _, _, hnb, ee_X1_sizeOf_9 ⟨_, _, _, g_11 hC hW hp (by omega) (by omega), ee_X1_sizeOf_15 rfl⟩⟩
    · rw [if_neg c4, if_neg c4]
      exact z_gC hC hW hp (by omega) (by omega) (by omega)
/-- the same, in the reference -/
theorem y_g (hQ : rq_Qi I s) (hW : rq_W s) (hp : p < s 0) (h4 : 4 ≤ s (8 + 4 * p)) (hl : l.length < 13) : sx_E sc (d + 4) cd_X9_guestSize 0 [some (.inr (.inr (9, 0))), some (.inl (nI p)), none] [] (tm_I I l) J (some (.inl (ak_g s p)), tm_I I (ak_gl s p l), J) := by
  have w := hW.1
  have hkd := hW.kd hp
  have of0 : ∀ {d l}, sx_E sc d cd_X9_of 0 [some (.inr (.inr (9, 0))), some (.inl (nI p)), some (.inl 0)] [] (tm_I I l) J (some (.inl (nI (s (8 + 4 * p)))), tm_I I l, J) := fun {d l} => (es_X9_of (m_ofin (w := 0) (by omega) (by omega))).v (m_of0 (tm_Q hQ) (by omega))
  have of1 : ∀ {d l}, sx_E sc d cd_X9_of 0 [some (.inr (.inr (9, 0))), some (.inl (nI p)), some (.inl 1)] [] (tm_I I l) J (some (.inl (nI (s (9 + 4 * p)))), tm_I I l, J) := fun {d l} => (es_X9_of (m_ofin (w := 1) (by omega) (by omega))).v (m_of1 (tm_Q hQ) (by omega))
  have k5 : nI (s (8 + 4 * p)) = 5 ↔ s (8 + 4 * p) = 5 := nI_eq (b := 5) (by omega) (by omega)
  rw [ak_g, ak_gl]
  refine ee_X9_guestSize_0 ⟨_, _, _, of0, ?_⟩
  by_cases c : s (8 + 4 * p) = 4
  · rw [if_pos c, if_pos c]
    refine ee_X9_guestSize_6 ⟨fun c5 => absurd (k5.mp c5) (by omega), fun _ => ee_X9_guestSize_16 ⟨_, _, e_beganM (by omega), ee_X9_guestSize_22 ⟨_, _, _, ee_X9_plainSize_0 ⟨_, _, e_beganM (by simp only [List.length_append, List.length_cons, List.length_nil]; omega), ee_X9_plainSize_6 ⟨_, _, _, of1, ee_X9_plainSize_12 rfl⟩⟩, ee_X9_guestSize_27 ⟨_, _, _, of0, ee_X9_guestSize_37 ⟨fun c5 => absurd (k5.mp c5) (by omega), fun _ => rfl⟩⟩⟩⟩⟩
  · rw [if_neg c, if_neg c, Int32.mul_comm]
    have c5 : s (8 + 4 * p) = 5 := by omega
    refine ee_X9_guestSize_6 ⟨fun _ => ⟨_, _, e_beganM (by omega), ee_X9_guestSize_16 ⟨_, _, e_beganM (by simp only [List.length_append, List.length_cons, List.length_nil]; omega), ee_X9_guestSize_22 ⟨_, _, _, ee_X9_plainSize_0 ⟨_, _, e_beganM (by simp only [List.length_append, List.length_cons, List.length_nil]; omega), ee_X9_plainSize_6 ⟨_, _, _, of1, ee_X9_plainSize_12 rfl⟩⟩, ee_X9_guestSize_27 ⟨_, _, _, of0, ee_X9_guestSize_37 ⟨fun _ => rfl, fun c => absurd (k5.mpr c5) c⟩⟩⟩⟩⟩, fun c => absurd (k5.mpr c5) c⟩
theorem y_m (hQ : rq_Qi I s) (hW : rq_W s) (hp : p < s 0) (hl : l.length < 11) : sx_E sc (d + 6) cd_X9_markOf 0 [some (.inr (.inr (9, 0))), some (.inl (nI p)), none, none] [] (tm_I I l) J (some (.inl (ak_m s p)), tm_I I (ak_ml s p l), J) := by
  have w := hW.1
  have hkd := hW.2.2.2.2.2.2.2.2.2 p hp
  have hD := rq_64 (rq_D_lt s) w
  have of0 : ∀ {d l}, sx_E sc d cd_X9_of 0 [some (.inr (.inr (9, 0))), some (.inl (nI p)), some (.inl 0)] [] (tm_I I l) J (some (.inl (nI (s (8 + 4 * p)))), tm_I I l, J) := fun {d l} => (es_X9_of (m_ofin (w := 0) (by omega) (by omega))).v (m_of0 (tm_Q hQ) (by omega))
  have tr : ∀ {d l}, sx_E sc (d + 2) cd_X9_drawnTruth 0 [some (.inr (.inr (9, 0))), some (.inl (nI p))] [] (tm_I I l) J (some (.inl (nI (rq_b (rq_D s) p * rq_T s p))), tm_I I l, J) := fun {d l} => by
    have hq := tm_Q (l := l) hQ
    refine (es_X9_drawnTruth (hq.p6 w) (hq.p6 w) (fun _ => m_ofin (w := 0) (by omega) (by omega))).v ?_
    rw [v_X9_drawnTruth, m_dr hq hW, m_has hD (by omega), m_truthOf hq hW.2.1 (by omega) (hW.kd hp)]
    rcases rq_b01 (rq_D s) p with e | e <;> rw [e]
    · rw [Nat.zero_mul, if_pos nI_0]; rfl
    · rw [Nat.one_mul, if_neg nn1]
  have k1 : nI (s (8 + 4 * p)) = 1 ↔ s (8 + 4 * p) = 1 := nI_eq (b := 1) (by omega) (by omega)
  have k3 : nI (s (8 + 4 * p)) = 3 ↔ s (8 + 4 * p) = 3 := nI_eq (b := 3) (by omega) (by omega)
  have k4 : nI (s (8 + 4 * p)) < 4 ↔ s (8 + 4 * p) < 4 := nI_ltI (b := 4) (by omega) (by omega)
  refine ee_X9_markOf_0 ⟨_, _, _, of0, ee_X9_markOf_6 ⟨fun c4 => ?_, fun c4 => ?_⟩⟩
  · have c4 := k4.mp c4
    refine ⟨fun c1 => ?_, fun c1 => ⟨fun c3 => ?_, fun c3 => ?_⟩⟩
    · have c1' := k1.mp c1
      rw [ak_m, ak_ml, if_pos c1', if_pos c1']
      exact ee_X9_markOf_53 ⟨_, _, e_beganM (by omega), ee_X9_markOf_59 ⟨_, _, e_beganM (by simp only [List.length_append, List.length_cons, List.length_nil]; omega), ee_X9_markOf_65 ⟨_, _, _, tr, ee_X9_markOf_71 ⟨fun _ => rfl, fun c => absurd c1 c⟩⟩⟩⟩
    · have c3' := k3.mp c3
      rw [ak_m, ak_ml, if_neg (by omega), if_neg (by omega), if_pos c3', if_neg (by omega), if_neg (by omega), if_pos c3']
      exact ee_X9_markOf_50 ⟨_, _, e_beganM (by omega), ee_X9_markOf_53 ⟨_, _, e_beganM (by simp only [List.length_append, List.length_cons, List.length_nil]; omega), ee_X9_markOf_59 ⟨_, _, e_beganM (by simp only [List.length_append, List.length_cons, List.length_nil]; omega), ee_X9_markOf_65 ⟨_, _, _, tr, ee_X9_markOf_71 ⟨fun c => absurd c c1, fun _ => ⟨fun _ => rfl, fun c => absurd c3 c⟩⟩⟩⟩⟩⟩
    · have c2' : s (8 + 4 * p) = 2 := by
        have n1 : ¬ s (8 + 4 * p) = 1 := fun q => c1 (k1.mpr q)
        have n3 : ¬ s (8 + 4 * p) = 3 := fun q => c3 (k3.mpr q)
        omega
      rw [ak_m, ak_ml, if_neg (by omega), if_pos c2', if_neg (by omega), if_pos c2', Int32.mul_comm]
      exact ee_X9_markOf_50 ⟨_, _, e_beganM (by omega), ee_X9_markOf_53 ⟨_, _, e_beganM (by simp only [List.length_append, List.length_cons, List.length_nil]; omega), ee_X9_markOf_59 ⟨_, _, e_beganM (by simp only [List.length_append, List.length_cons, List.length_nil]; omega), ee_X9_markOf_65 ⟨_, _, _, tr, ee_X9_markOf_71 ⟨fun c => absurd c c1, fun _ => ⟨fun c => absurd c c3, fun _ => rfl⟩⟩⟩⟩⟩⟩
  · have c4' : 4 ≤ s (8 + 4 * p) := by
      have : ¬ s (8 + 4 * p) < 4 := fun q => c4 (k4.mpr q)
      omega
    rw [ak_m, ak_ml, if_neg (by omega), if_neg (by omega), if_neg (by omega), if_neg (by omega), if_neg (by omega), if_neg (by omega)]
    exact ⟨_, _, e_beganM (by omega), ee_X9_markOf_18 ⟨_, _, e_beganM (by simp only [List.length_append, List.length_cons, List.length_nil]; omega), ee_X9_markOf_24 ⟨_, _, _, y_g hQ hW hp c4' (by simp only [List.length_append, List.length_cons, List.length_nil]; omega), ee_X9_markOf_30 rfl⟩⟩⟩
theorem y_z (hQ : rq_Qi I s) (hW : rq_W s) (hp : p < s 0) (hl : l.length < 7) : sx_E sc (d + 8) cd_X9_sizeOf 0 [some (.inr (.inr (9, 0))), some (.inl (nI p)), none, none] [] (tm_I I l) J (some (.inl (ak_z s p)), tm_I I (ak_zl s p l), J) := by
  have w := hW.1
  have hkd := hW.2.2.2.2.2.2.2.2.2 p hp
  have of0 : ∀ {d l}, sx_E sc d cd_X9_of 0 [some (.inr (.inr (9, 0))), some (.inl (nI p)), some (.inl 0)] [] (tm_I I l) J (some (.inl (nI (s (8 + 4 * p)))), tm_I I l, J) := fun {d l} => (es_X9_of (m_ofin (w := 0) (by omega) (by omega))).v (m_of0 (tm_Q hQ) (by omega))
  have of1 : ∀ {d l}, sx_E sc d cd_X9_of 0 [some (.inr (.inr (9, 0))), some (.inl (nI p)), some (.inl 1)] [] (tm_I I l) J (some (.inl (nI (s (9 + 4 * p)))), tm_I I l, J) := fun {d l} => (es_X9_of (m_ofin (w := 1) (by omega) (by omega))).v (m_of1 (tm_Q hQ) (by omega))
  have k2 : nI (s (8 + 4 * p)) = 2 ↔ s (8 + 4 * p) = 2 := nI_eq (b := 2) (by omega) (by omega)
  have k4 : nI (s (8 + 4 * p)) < 4 ↔ s (8 + 4 * p) < 4 := nI_ltI (b := 4) (by omega) (by omega)
  rw [ak_z, ak_zl]
  refine ee_X9_sizeOf_0 ⟨_, _, _, of0, ee_X9_sizeOf_6 ⟨fun c4 => ⟨fun c2 => ?_, fun c2 => ?_⟩, fun c4 => ?_⟩⟩
  · have c2' := k2.mp c2
    rw [if_pos c2', if_pos c2']
    exact ⟨_, _, e_beganM (by omega), ee_X9_sizeOf_29 ⟨_, _, e_beganM (by simp only [List.length_append, List.length_cons, List.length_nil]; omega), ee_X9_sizeOf_35 ⟨_, _, _, ee_X9_plainSize_0 ⟨_, _, e_beganM (by simp only [List.length_append, List.length_cons, List.length_nil]; omega), ee_X9_plainSize_6 ⟨_, _, _, of1, ee_X9_plainSize_12 rfl⟩⟩, ee_X9_sizeOf_40 ⟨_, _, _, y_m hQ hW hp (by simp only [List.length_append, List.length_cons, List.length_nil]; omega), ee_X9_sizeOf_47 ⟨fun _ => rfl, fun c => absurd c2 c⟩⟩⟩⟩⟩
  · have c2' : ¬ s (8 + 4 * p) = 2 := fun q => c2 (k2.mpr q)
    rw [if_neg c2', if_neg c2', if_pos (k4.mp c4), if_pos (k4.mp c4)]
    exact ee_X9_sizeOf_29 ⟨_, _, e_beganM (by omega), ee_X9_sizeOf_35 ⟨_, _, _, ee_X9_plainSize_0 ⟨_, _, e_beganM (by simp only [List.length_append, List.length_cons, List.length_nil]; omega), ee_X9_plainSize_6 ⟨_, _, _, of1, ee_X9_plainSize_12 rfl⟩⟩, ee_X9_sizeOf_40 ⟨_, _, _, y_m hQ hW hp (by simp only [List.length_append, List.length_cons, List.length_nil]; omega), ee_X9_sizeOf_47 ⟨fun c => absurd c c2, fun _ => rfl⟩⟩⟩⟩
  · have c4' : ¬ s (8 + 4 * p) < 4 := fun q => c4 (k4.mpr q)
    have c2' : ¬ s (8 + 4 * p) = 2 := by omega
    rw [if_neg c2', if_neg c2', if_neg c4', if_neg c4']
    exact ⟨_, _, _, y_g hQ hW hp (by omega) (by omega), ee_X9_sizeOf_17 rfl⟩
theorem ak_len (p : Nat) : (ak_ml s p []).length ≤ 16 ∧ (ak_zl s p []).length ≤ 16 := by
  unfold ak_zl ak_ml ak_gl
  constructor <;> (repeat' split) <;> simp
theorem rq_Rel.asks (h : rq_Rel I J) (e : rq_sm rq_cA I J I1 J1) (hA : rq_asks I1) : rq_Rel I1 J1 := by
  refine h.but e (Or.inl fun a b k => ?_) (Or.inl fun a b k => ?_) (Or.inr hA) (Or.inl fun a b k => ?_) (Or.inl fun a b k => ?_) (Or.inl fun a b k => ?_) (Or.inl fun a b k => ?_)
  · unfold rq_cR rq_cA; omega
  · unfold rq_cT rq_cA; omega
  · unfold rq_cF rq_cA; omega
  · unfold rq_cN rq_cA rq_cs; omega
  · unfold rq_cI rq_cA rq_cs; omega
  · unfold rq_cG rq_cA rq_cs; omega
theorem pr_ask (h : rq_Rel I J) {x y : Int32} : rq_pair sc (d + 20) cd_X8_ask cd_X9_ask [some (.inr (.inr (8, 0))), some (.inl x), some (.inl y)] [some (.inr (.inr (9, 0))), some (.inl x), some (.inl y)] I J := by
  obtain ⟨s, L, hC, hQ, hW, hV⟩ := h.2.2.2.2.1
  have hq := hQ.qi.t0 (v := 0)
  have w := hW.1
  rcases rq_per x w with ⟨p, hp, rfl⟩ | hx
  · rcases m_inC (I := sx_uI I 9 0 0 0) (J := J) I J (x := y) (a := 0) (b := 1) (y := 0) (z := 1) (by decide) (by decide) with ⟨i1, i2, y1, y2⟩ | ⟨i1, i2⟩
    · have e0 : sx_uI I 1 0 1 0 = tc_I I [] := by
        funext x y z
        simp only [sx_uI, tc_I]
        by_cases c : x = 1 ∧ y = 0 ∧ z = 1
        · rw [if_pos c, if_pos c]; rfl
        · rw [if_neg c, if_neg c, if_neg (fun w => absurd w.2.2 (Nat.not_lt_zero z))]
      have e9 : ∀ I : sx_I, sx_uI I 9 0 30 0 = tm_I I [] := fun I => by
        funext x y z
        simp only [sx_uI, tm_I]
        by_cases c : x = 9 ∧ y = 0 ∧ z = 30
        · rw [if_pos c, if_pos c]; rfl
        · rw [if_neg c, if_neg c, if_neg (fun w => absurd w.2.2 (Nat.not_lt_zero z))]
      have fin : ∀ (l : List Int32) (v : Int32), l.length ≤ 16 → sx_E sc (d + 19) cd_X1_answer 5 [some (.inr (.inr (1, 0))), some (.inr (.inr (5, 0))), some (.inl (nI p)), some (.inl y)] [] (tc_I I []) J (some (.inl v), tc_I I l, J) → sx_E sc (d + 20) cd_X9_ask 31 [some (.inr (.inr (9, 0))), some (.inl (nI p)), some (.inl y)] [] (tm_I (sx_uI (tc_I I l) 9 0 0 0) []) J (some (.inl v), tm_I (sx_uI (tc_I I l) 9 0 0 0) l, J) → rq_pair sc (d + 20) cd_X8_ask cd_X9_ask [some (.inr (.inr (8, 0))), some (.inl (nI p)), some (.inl y)] [some (.inr (.inr (9, 0))), some (.inl (nI p)), some (.inl y)] I J := fun l v hl h1 h2 => by
        have hq1 : rq_Qi (sx_uI (tc_I I l) 9 0 0 0) s := fun k hk => hQ.qi k hk
        refine ⟨.inl v, tc_I I l, J, tm_I (sx_uI (tc_I I l) 9 0 0 0) l, J, ee_X8_ask_0 ⟨_, _, _, es_X5_has.v (c_has hC w hp), ee_X8_ask_8 ⟨fun c => absurd c n10, fun _ => ⟨_, _, _, es_X8_isOutside.v i2, ee_X8_ask_17 ⟨fun _ => ⟨_, _, _, ee_X1_answer_0 (by rw [e0]; exact h1), ee_X8_ask_36 rfl⟩, fun c => absurd rfl c⟩⟩⟩⟩, ee_X9_ask_0 (ee_X9_ask_5 ⟨_, _, _, es_X9_isPerson.v (m_isPerson hq1 w hp), ee_X9_ask_10 ⟨fun c => absurd c n10, fun _ => ⟨_, _, _, es_X9_in.v i1, ee_X9_ask_20 ⟨fun c => absurd c n10, fun _ => by rw [e9]; exact h2⟩⟩⟩⟩), ?_⟩
        have s1 : rq_sm rq_cA I J (tc_I I l) J := ⟨fun x y z c => by
          have c2 := c.2
          unfold rq_cA at c2
          exact (if_neg (by omega)).trans (if_neg (by omega)), fun _ _ _ _ => rfl⟩
        have s2 : ∀ I : sx_I, rq_sm rq_cA I J (tm_I I l) J := fun I => ⟨fun x y z c => by
          have c2 := c.2
          unfold rq_cA at c2
          exact (if_neg (by omega)).trans (if_neg (by omega)), fun _ _ _ _ => rfl⟩
        refine h.asks ((s1.tr rq_same.t0.sm).tr (s2 _)) ⟨l.length, hl, rfl, rfl, fun k hk => ?_⟩
        have a1 : tm_I (sx_uI (tc_I I l) 9 0 0 0) l 10 3 k = l[k]?.getD 0 := (if_neg (by omega)).trans ((if_neg (by omega)).trans ((if_neg (by omega)).trans ((if_neg (by omega)).trans (if_pos ⟨rfl, rfl, hk⟩))))
        have a2 : tm_I (sx_uI (tc_I I l) 9 0 0 0) l 16 8 k = l[k]?.getD 0 := (if_neg (by omega)).trans (if_pos ⟨rfl, rfl, hk⟩)
        rw [a1, a2]
      by_cases y0 : y = 0
      · refine fin (ak_zl s p []) (ak_z s p) (ak_len p).2 (ee_X1_answer_5 ⟨fun _ => ⟨_, _, _, z_zC (k := 0) hC hW hp (by decide) (by omega), ee_X1_answer_16 (ee_X1_answer_26 rfl)⟩, fun c => absurd y0 c⟩) (ee_X9_ask_31 ⟨fun _ => ⟨_, _, _, y_z (fun k hk => hQ.qi k hk) hW hp (by decide), ee_X9_ask_40 (ee_X9_ask_48 rfl)⟩, fun c => absurd y0 c⟩)
      · refine fin (ak_ml s p []) (ak_m s p) (ak_len p).1 (ee_X1_answer_5 ⟨fun c => absurd c y0, fun _ => ⟨_, _, _, z_mC (k := 0) hC hW hp (by decide) (by omega), ee_X1_answer_26 rfl⟩⟩) (ee_X9_ask_31 ⟨fun c => absurd c y0, fun _ => ⟨_, _, _, y_m (fun k hk => hQ.qi k hk) hW hp (by decide), ee_X9_ask_48 rfl⟩⟩)
    · exact .rd h (ee_X8_ask_0 ⟨_, _, _, es_X5_has.v (c_has hC w hp), ee_X8_ask_8 ⟨fun c => absurd c n10, fun _ => ⟨_, _, _, es_X8_isOutside.v i2, ee_X8_ask_17 ⟨fun c => absurd c n10, fun _ => rfl⟩⟩⟩⟩) .rf (ee_X9_ask_0 (ee_X9_ask_5 ⟨_, _, _, es_X9_isPerson.v (m_isPerson hq w hp), ee_X9_ask_10 ⟨fun c => absurd c n10, fun _ => ⟨_, _, _, es_X9_in.v i1, ee_X9_ask_20 ⟨fun _ => rfl, fun c => absurd rfl c⟩⟩⟩⟩)) .t0 rfl
  · exact .rd h (ee_X8_ask_0 ⟨_, _, _, es_X5_has.v (c_hasnt hC hx), ee_X8_ask_8 ⟨fun _ => rfl, fun c => absurd rfl c⟩⟩) .rf (ee_X9_ask_0 (ee_X9_ask_5 ⟨_, _, _, es_X9_isPerson.v (m_isntPerson hq w hx), ee_X9_ask_10 ⟨fun _ => rfl, fun c => absurd rfl c⟩⟩)) .t0 rfl
end RQY
