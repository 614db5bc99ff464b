theorem sx_ok_q6 : (List.range' 114 10).all sx_okm = true := by decide +kernel
theorem sx_ok_q7 : (List.range' 124 18).all sx_okm = true := by decide +kernel
theorem sx_ok_q8 : (List.range' 142 11).all sx_okm = true := by decide +kernel
