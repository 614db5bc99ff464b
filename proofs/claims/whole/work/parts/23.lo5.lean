/-! the likeliest of a set; Euclid on both sides; what is learned by a still sea -/
def lp_lik (I : sx_I) (J : sx_J) (r0 : Nat) (x1 : Int32) : Nat → Nat → Int32 → Int32
  | 0, _, b => b
  | m + 1, k, b => lp_lik I J r0 x1 m (k + 1) (if v_X9_has I J x1 (nI k) = 0 then b else if b = Int32.ofInt (-1000000) then nI k else if J 17 r0 k ≤ J 17 r0 b.toNatClampNeg then b else nI k)
def v_X9_likeliestOf (I : sx_I) (J : sx_J) (r0 : Nat) (x1 : Int32) : Int32 := lp_lik I J r0 x1 6 0 (Int32.ofInt (-1000000))
theorem lo_X9_likeliestOf {sc : Nat × (Nat → Int32)} {d r0 : Nat} {x1 : Int32} {I : sx_I} {J : sx_J} : ∀ (m k : Nat) (b : Int32), k + m = 6 → (b = Int32.ofInt (-1000000) ∨ sx_in b 6 = true) → sx_E sc (d + 1) cd_X9_likeliestOf 5 [some (.inr (.inr (17, r0))), some (.inl x1), some (.inl b), some (.inl (nI k))] [] I J (some (.inl (lp_lik I J r0 x1 m k b)), I, J) := by
  intro m
  induction m with
  | zero =>
    intro k b h hb
    exact ee_X9_likeliestOf_5 ⟨fun _ => rfl, fun c => absurd (nI_le (a := 6) (by omega) (by omega)) c⟩
  | succ m ih =>
    intro k b h hb
    rw [lp_lik]
    have hk : sx_in (nI k) 6 = true := sx_in_nI (by omega) (by omega)
    have t35 : sx_E sc (d + 1) cd_X9_likeliestOf 35 [some (.inr (.inr (17, r0))), some (.inl x1), some (.inl b), some (.inl (nI k))] [] I J (some (.inl (lp_lik I J r0 x1 m (k + 1) (nI k))), I, J) := by
      refine ee_X9_likeliestOf_35 (ee_X9_likeliestOf_40 ?_)
      rw [nI_1]
      exact ih (k + 1) (nI k) (by omega) (Or.inr hk)
    have t39 : sx_E sc (d + 1) cd_X9_likeliestOf 39 [some (.inr (.inr (17, r0))), some (.inl x1), some (.inl b), some (.inl (nI k))] [] I J (some (.inl (lp_lik I J r0 x1 m (k + 1) b)), I, J) := by
      refine ee_X9_likeliestOf_39 (ee_X9_likeliestOf_40 ?_)
      rw [nI_1]
      exact ih (k + 1) b (by omega) hb
    refine ee_X9_likeliestOf_5 ⟨fun c => absurd c (nI_ge (b := 6) (by omega) (by omega)), fun _ => ⟨_, _, _, es_X9_has, ee_X9_likeliestOf_16 ⟨fun c1 => ?_, fun c1 => ⟨fun c2 => ?_, fun c2 => ?_⟩⟩⟩⟩
    · rw [if_pos c1]; exact t39
    · rw [if_neg c1, if_pos c2]; exact t35
    · rw [if_neg c1, if_neg c2]
      have hb2 : sx_in b 6 = true := hb.elim (fun q => absurd q c2) id
      rw [nI_clamp (by omega)]
      refine ⟨sx_in_le hk (sx_eN17 r0), sx_in_le hb2 (sx_eN17 r0), fun c3 => ?_, fun c3 => ?_⟩
      · rw [if_pos c3]; exact t39
      · rw [if_neg c3]; exact t35
theorem es_X9_likeliestOf {sc : Nat × (Nat → Int32)} {d : Nat} {r0 : Nat} {x1 : Int32} {I : sx_I} {J : sx_J} : sx_E sc (d + 1) cd_X9_likeliestOf 0 [some (.inr (.inr (17, r0))), some (.inl x1), none, none] [] I J (some (.inl (v_X9_likeliestOf I J r0 x1)), I, J) := ee_X9_likeliestOf_0 (lo_X9_likeliestOf 6 0 _ rfl (Or.inl rfl))
/-- two longs that are no less than 0, not both 0 -/
def sx_gc (y z : Int64) : Prop := ∃ a b : Nat, a < 2 ^ 63 ∧ b < 2 ^ 63 ∧ y = lN a ∧ z = lN b ∧ 0 < Nat.gcd a b
theorem sx_lN0 {b : Nat} (hb : b < 2 ^ 63) : lN b = 0 ↔ b = 0 := by
  rw [show (0 : Int64) = lN 0 from rfl, pk_lEQ hb (by omega)]
def v_X9_part (I : sx_I) (J : sx_J) (y0 y2 : Int64) (x4 : Int32) : Int64 := (if x4 = 0 then y0 else y2) / lN (Nat.gcd y0.toInt.toNat y2.toInt.toNat)
theorem lo_X9_part {sc : Nat × (Nat → Int32)} {d : Nat} {y0 y2 : Int64} {x4 : Int32} {I : sx_I} {J : sx_J} : ∀ (b a : Nat) (o : Option sx_V), a < 2 ^ 63 → b < 2 ^ 63 → 0 < Nat.gcd a b → sx_E sc d cd_X9_part 6 [some (.inr (.inl y0)), none, some (.inr (.inl y2)), none, some (.inl x4), some (.inr (.inl (lN a))), none, some (.inr (.inl (lN b))), none, o, none] [] I J (some (.inr (.inl ((if x4 = 0 then y0 else y2) / lN (Nat.gcd a b)))), I, J) := by
  intro b
  induction b using Nat.strongRecOn with
  | ind b ih =>
    intro a o ha hb hg
    refine ee_X9_part_6 ⟨fun c => ?_, fun c => ?_⟩
    · have hb0 : b = 0 := (sx_lN0 hb).mp c
      subst hb0
      rw [Nat.gcd_zero_right] at hg ⊢
      have hne : ¬ lN a = 0 := fun q => absurd ((sx_lN0 ha).mp q) (by omega)
      exact ⟨fun c1 => ee_X9_part_41 ⟨hne, by rw [if_pos c1]⟩, fun c1 => ee_X9_part_41 ⟨hne, by rw [if_neg c1]⟩⟩
    · have hb0 : 0 < b := Nat.pos_of_ne_zero (fun q => c (by rw [q]; rfl))
      refine ⟨c, ?_⟩
      rw [pk_lRem ha hb0 hb]
      have hlt := Nat.mod_lt a hb0
      have e : Nat.gcd a b = Nat.gcd b (a % b) := by rw [Nat.gcd_comm a b, Nat.gcd_rec b a, Nat.gcd_comm]
      rw [e] at hg ⊢
      exact ih (a % b) hlt b _ hb (by omega) hg
theorem es_X9_part {sc : Nat × (Nat → Int32)} {d : Nat} {y0 y2 : Int64} {x4 : Int32} {I : sx_I} {J : sx_J} (g1 : sx_gc y0 y2) : sx_E sc d cd_X9_part 0 [some (.inr (.inl y0)), none, some (.inr (.inl y2)), none, some (.inl x4), none, none, none, none, none, none] [] I J (some (.inr (.inl (v_X9_part I J y0 y2 x4))), I, J) := by
  obtain ⟨a, b, ha, hb, rfl, rfl, hg⟩ := g1
  rw [v_X9_part, pk_lT ha, pk_lT hb, Int.toNat_natCast, Int.toNat_natCast]
  exact ee_X9_part_0 (lo_X9_part b a none ha hb hg)
def v_X8_commonPart (I : sx_I) (J : sx_J) (y0 y2 : Int64) : Int64 := lN (Nat.gcd y0.toInt.toNat y2.toInt.toNat)
theorem lo_X8_commonPart {sc : Nat × (Nat → Int32)} {d : Nat} {y0 y2 : Int64} {I : sx_I} {J : sx_J} : ∀ (w a b k : Nat) (o : Option sx_V), a < 2 ^ 63 → b < 2 ^ 63 → b < 2 ^ w → k + (2 * w + 1) ≤ 1000 → sx_E sc d cd_X8_commonPart 9 [some (.inr (.inl y0)), none, some (.inr (.inl y2)), none, some (.inr (.inl (lN a))), none, some (.inr (.inl (lN b))), none, some (.inl (nI k)), o, none] [] I J (some (.inr (.inl (lN (Nat.gcd a b)))), I, J) := by
  intro w
  induction w with
  | zero =>
    intro a b k o ha hb hw hk
    have hb0 : b = 0 := by omega
    subst hb0
    rw [Nat.gcd_zero_right]
    exact ee_X8_commonPart_9 ⟨fun _ => rfl, fun _ => ⟨fun _ => rfl, fun c => absurd rfl c⟩⟩
  | succ w ih =>
    intro a b k o ha hb hw hk
    refine ee_X8_commonPart_9 ⟨fun c => absurd c (nI_ge (b := 1000) (by omega) (by omega)), fun _ => ⟨fun c => ?_, fun c => ⟨c, ?_⟩⟩⟩
    · have hb0 : b = 0 := (sx_lN0 hb).mp c
      subst hb0
      rw [Nat.gcd_zero_right]
    · have hb0 : 0 < b := Nat.pos_of_ne_zero (fun q => c (by rw [q]; rfl))
      have hlt := Nat.mod_lt a hb0
      have e : Nat.gcd a b = Nat.gcd b (a % b) := by rw [Nat.gcd_comm a b, Nat.gcd_rec b a, Nat.gcd_comm]
      rw [pk_lRem ha hb0 hb, nI_1, e]
      refine ee_X8_commonPart_9 ⟨fun c => absurd c (nI_ge (b := 1000) (by omega) (by omega)), fun _ => ⟨fun c2 => ?_, fun c2 => ⟨c2, ?_⟩⟩⟩
      · have hr0 : a % b = 0 := (sx_lN0 (by omega)).mp c2
        rw [hr0, Nat.gcd_zero_right]
      · have hr0 : 0 < a % b := Nat.pos_of_ne_zero (fun q => c2 (by rw [q]; rfl))
        have hlt2 := Nat.mod_lt b hr0
        have e2 : Nat.gcd b (a % b) = Nat.gcd (a % b) (b % (a % b)) := by rw [Nat.gcd_comm b (a % b), Nat.gcd_rec (a % b) b, Nat.gcd_comm]
        rw [pk_lRem hb hr0 (by omega), nI_1, e2]
        have hhalf : b % (a % b) < 2 ^ w := by
          have h1 : b % (a % b) + (a % b) ≤ b := by
            have h2 := Nat.div_add_mod b (a % b)
            have h3 : 1 ≤ b / (a % b) := (Nat.one_le_div_iff hr0).mpr (by omega)
            have h4 : a % b ≤ a % b * (b / (a % b)) := Nat.le_mul_of_pos_right _ h3
            omega
          have h5 : 2 ^ (w + 1) = 2 * 2 ^ w := by rw [Nat.pow_succ, Nat.mul_comm]
          omega
        exact ih (a % b) (b % (a % b)) (k + 1 + 1) _ (by omega) (by omega) hhalf (by omega)
theorem es_X8_commonPart {sc : Nat × (Nat → Int32)} {d : Nat} {y0 y2 : Int64} {I : sx_I} {J : sx_J} (g1 : sx_gc y0 y2) : sx_E sc d cd_X8_commonPart 0 [some (.inr (.inl y0)), none, some (.inr (.inl y2)), none, none, none, none, none, none, none, none] [] I J (some (.inr (.inl (v_X8_commonPart I J y0 y2))), I, J) := by
  obtain ⟨a, b, ha, hb, rfl, rfl, hg⟩ := g1
  rw [v_X8_commonPart, pk_lT ha, pk_lT hb, Int.toNat_natCast, Int.toNat_natCast]
  exact ee_X8_commonPart_0 (lo_X8_commonPart 63 a b 0 none ha hb hb (by omega))
