theorem sx_ok_q0 : (List.range' 0 16).all sx_okm = true := by decide +kernel
theorem sx_ok_q1 : (List.range' 16 18).all sx_okm = true := by decide +kernel
theorem sx_ok_q2 : (List.range' 34 26).all sx_okm = true := by decide +kernel
