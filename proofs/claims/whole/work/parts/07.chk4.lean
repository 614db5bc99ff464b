theorem sx_ok_q9 : (List.range' 153 14).all sx_okm = true := by decide +kernel
theorem sx_ok_q10 : (List.range' 167 10).all sx_okm = true := by decide +kernel
theorem sx_ok_q11 : (List.range' 177 11).all sx_okm = true := by decide +kernel
