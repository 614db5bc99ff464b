/-- one step, under a name of its own -/
def sx_F (sc : Nat × (Nat → Int32)) (n d : Nat) (cd : sx_C) (pc : Nat) (lv : sx_L) (st : List sx_V) (I : sx_I) (J : sx_J) : sx_R := match cd.find? (fun e => e.1 == pc) with
  | none => none
  | some e => sx_K2 sc (fun mid vt st I J c => match d with
      | 0 => none
      | d1 + 1 => sx_cl sx_mt (fun cd1 lv1 I J => sx_go sc n d1 cd1 0 lv1 [] I J) mid vt st I J c) (fun pc lv st I J => sx_go sc n d cd pc lv st I J) pc e.2.1 e.2.2 lv st I J
theorem sx_F_eq (sc : Nat × (Nat → Int32)) (n d : Nat) (cd : sx_C) (pc : Nat) (lv : sx_L) (st : List sx_V) (I : sx_I) (J : sx_J) : sx_go sc (n + 1) d cd pc lv st I J = sx_F sc n d cd pc lv st I J := by
  rw [sx_go]; rfl
theorem sx_E.f1 {sc : Nat × (Nat → Int32)} {d : Nat} {cd cd1 : sx_C} {pc pc1 : Nat} {lv lv1 : sx_L} {st st1 : List sx_V} {I I1 : sx_I} {J J1 : sx_J} {res : Option sx_V × sx_I × sx_J} (h : ∀ n : Nat, sx_F sc n d cd pc lv st I J = sx_go sc n d cd1 pc1 lv1 st1 I1 J1) (h2 : sx_E sc d cd1 pc1 lv1 st1 I1 J1 res) : sx_E sc d cd pc lv st I J res := sx_E.mk 1 0 (fun n => (sx_F_eq sc n d cd pc lv st I J).trans (h n)) h2
