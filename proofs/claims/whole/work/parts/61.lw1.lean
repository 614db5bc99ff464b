/-! what kind of answer a method gives, by its code alone -/
def sx_ZP (lg : Bool) (v : Option sx_V) : Prop := if lg = true then (∃ w : Int64, v = some (.inr (.inl w))) else (∃ w : Int32, v = some (.inl w))
def sx_Z (lg : Bool) (o : sx_R) : Prop := ∀ v I J, o = some (v, I, J) → sx_ZP lg v
def sx_oI (lg : Bool) (e : Nat × Instr × Nat) : Bool := match e.2.1 with
  | .return_ => false
  | .lreturn => lg
  | .ireturn => !lg
  | .areturn => !lg
  | _ => true
theorem sx_Z0 {lg : Bool} : sx_Z lg none := fun _ _ _ h => nomatch h
theorem sx_ZI {x : Int32} {I : sx_I} {J : sx_J} : sx_Z false (some (some (.inl x), I, J)) := fun v _ _ h => by
  cases h; exact ⟨x, rfl⟩
theorem sx_ZJ {x : Int64} {I : sx_I} {J : sx_J} : sx_Z true (some (some (.inr (.inl x)), I, J)) := fun v _ _ h => by
  cases h; exact ⟨x, rfl⟩
set_option maxHeartbeats 4000000 in
theorem sx_K_Z {lg : Bool} {sc : Nat × (Nat → Int32)} {cal : Nat → Bool → List sx_V → sx_I → sx_J → (Option sx_V → List sx_V → sx_I → sx_J → sx_R) → sx_R} {k : Nat → sx_L → List sx_V → sx_I → sx_J → sx_R} {pc nx : Nat} {r : Instr} {lv : sx_L} {st : List sx_V} {I : sx_I} {J : sx_J} (hk : ∀ a b c d e, sx_Z lg (k a b c d e)) (hc : ∀ mid vt st I J c, (∀ a b i j, sx_Z lg (c a b i j)) → sx_Z lg (cal mid vt st I J c)) (hr : sx_oI lg (pc, r, nx) = true) : sx_Z lg (sx_K2 sc cal k pc r nx lv st I J) := by
  unfold sx_K2
  split
  · repeat' split
    all_goals first | exact sx_Z0 | exact hk _ _ _ _ _
  · repeat' split
    all_goals first | exact sx_Z0 | exact hk _ _ _ _ _
  · repeat' split
    all_goals first | exact sx_Z0 | exact hk _ _ _ _ _
  · repeat' split
    all_goals first | exact sx_Z0 | exact hk _ _ _ _ _
  · unfold sx_K
    split
    all_goals (try unfold sx_b)
    all_goals (try unfold sx_bJ)
    all_goals (try unfold sx_u)
    all_goals (repeat' split)
    all_goals first | exact sx_Z0 | exact hk _ _ _ _ _ | exact hc _ _ _ _ _ _ (fun _ _ _ _ => hk _ _ _ _ _) | (cases lg; exact sx_ZI; exact nomatch (show false = true from hr)) | (cases lg; exact nomatch (show false = true from hr); exact sx_ZJ) | (cases lg <;> exact nomatch (show false = true from hr))
theorem sx_go_Z {lg : Bool} {sc : Nat × (Nat → Int32)} {cd : sx_C} (h : cd.all (sx_oI lg) = true) : ∀ (n d pc : Nat) (lv : sx_L) (st : List sx_V) (I : sx_I) (J : sx_J), sx_Z lg (sx_go sc n d cd pc lv st I J) := by
  intro n
  induction n with
  | zero => intro d pc lv st I J; exact sx_Z0
  | succ n ih =>
    intro d pc lv st I J
    rw [sx_go]
    split
    · exact sx_Z0
    · next e hf =>
      have hm := List.mem_of_find?_eq_some hf
      have ho := List.all_eq_true.mp h _ hm
      refine sx_K_Z (fun a b c d e => ih _ _ _ _ _ _) (fun mid vt st I J c hcc => ?_) ?_
      · cases d with
        | zero => exact sx_Z0
        | succ d1 =>
          show sx_Z lg (sx_cl sx_mt _ mid vt st I J c)
          unfold sx_cl
          repeat' split
          all_goals first | exact sx_Z0 | exact hcc _ _ _ _
      · obtain ⟨a, b, c⟩ := e
        exact ho
theorem sx_E.ty {lg : Bool} {sc : Nat × (Nat → Int32)} {d : Nat} {cd : sx_C} {pc : Nat} {lv : sx_L} {st : List sx_V} {I I1 : sx_I} {J J1 : sx_J} {v : Option sx_V} (h : sx_E sc d cd pc lv st I J (v, I1, J1)) (hok : cd.all (sx_oI lg) = true) : sx_ZP lg v := by
  obtain ⟨n0, hn⟩ := h
  exact sx_go_Z hok n0 d pc lv st I J v I1 J1 (hn n0 (Nat.le_refl _))
theorem rq_pair.int {sc : Nat × (Nat → Int32)} {d : Nat} {c8 c9 : sx_C} {lv8 lv9 : sx_L} {I : sx_I} {J : sx_J} (h : rq_pair sc d c8 c9 lv8 lv9 I J) (hok : c8.all (sx_oI false) = true) : ∃ (w : Int32) (I1 : sx_I) (J1 : sx_J) (I2 : sx_I) (J2 : sx_J), sx_E sc d c8 0 lv8 [] I J (some (.inl w), I1, J1) ∧ sx_E sc d c9 0 lv9 [] I1 J1 (some (.inl w), I2, J2) ∧ rq_Rel I2 J2 := by
  obtain ⟨v, I1, J1, I2, J2, h1, h2, h3⟩ := h
  obtain ⟨w, hw⟩ := h1.ty hok
  cases hw
  exact ⟨w, I1, J1, I2, J2, h1, h2, h3⟩
theorem rq_pair.lng {sc : Nat × (Nat → Int32)} {d : Nat} {c8 c9 : sx_C} {lv8 lv9 : sx_L} {I : sx_I} {J : sx_J} (h : rq_pair sc d c8 c9 lv8 lv9 I J) (hok : c8.all (sx_oI true) = true) : ∃ (w : Int64) (I1 : sx_I) (J1 : sx_J) (I2 : sx_I) (J2 : sx_J), sx_E sc d c8 0 lv8 [] I J (some (.inr (.inl w)), I1, J1) ∧ sx_E sc d c9 0 lv9 [] I1 J1 (some (.inr (.inl w)), I2, J2) ∧ rq_Rel I2 J2 := by
  obtain ⟨v, I1, J1, I2, J2, h1, h2, h3⟩ := h
  obtain ⟨w, hw⟩ := h1.ty hok
  cases hw
  exact ⟨w, I1, J1, I2, J2, h1, h2, h3⟩
