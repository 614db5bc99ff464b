theorem sx_ok_q12 : (List.range' 188 8).all sx_okm = true := by decide +kernel
