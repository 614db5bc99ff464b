theorem sx_all_cut {α : Type} {p : α → Bool} {l : List α} (n : Nat) (h1 : (l.take n).all p = true) (h2 : (l.drop n).all p = true) : l.all p = true := by
  rw [← List.take_append_drop n l, List.all_append, h1, h2]; rfl
theorem sx_cl_0 : ((cd_L_law.drop 0).take 40).all (sx_ck 10 true true cL_law) = true := by decide +kernel
theorem sx_cl_40 : ((cd_L_law.drop 40).take 40).all (sx_ck 10 true true cL_law) = true := by decide +kernel
theorem sx_cl_80 : ((cd_L_law.drop 80).take 40).all (sx_ck 10 true true cL_law) = true := by decide +kernel
theorem sx_cl_120 : ((cd_L_law.drop 120).take 40).all (sx_ck 10 true true cL_law) = true := by decide +kernel
theorem sx_cl_160 : ((cd_L_law.drop 160).take 40).all (sx_ck 10 true true cL_law) = true := by decide +kernel
theorem sx_cl_200 : ((cd_L_law.drop 200).take 40).all (sx_ck 10 true true cL_law) = true := by decide +kernel
theorem sx_cl_240 : ((cd_L_law.drop 240).take 40).all (sx_ck 10 true true cL_law) = true := by decide +kernel
theorem sx_cl_280 : ((cd_L_law.drop 280).take 40).all (sx_ck 10 true true cL_law) = true := by decide +kernel
theorem sx_cl_320 : ((cd_L_law.drop 320).take 40).all (sx_ck 10 true true cL_law) = true := by decide +kernel
