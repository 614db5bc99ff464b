theorem sx_ok_q3 : (List.range' 60 15).all sx_okm = true := by decide +kernel
theorem sx_ok_q4 : (List.range' 75 17).all sx_okm = true := by decide +kernel
theorem sx_ok_q5 : (List.range' 92 22).all sx_okm = true := by decide +kernel
