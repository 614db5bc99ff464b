theorem sx_all_cut {α : Type} {p : α → Bool} {l : List α} (n : Nat) (h1 : (l.take n).all p = true) (h2 : (l.drop n).all p = true) : l.all p = true := by
  rw [← List.take_append_drop n l, List.all_append, h1, h2]; rfl
theorem sx_tst1 : ((cd_X9_laySaved.drop 0).take 30).all (sx_ck 9 false false cX9_laySaved) = true := by decide +kernel
theorem sx_tst2 : ((cd_X9_laySaved.drop 190).take 37).all (sx_ck 9 false false cX9_laySaved) = true := by decide +kernel
