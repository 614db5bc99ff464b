theorem sx_cl_360 : ((cd_L_law.drop 360).take 40).all (sx_ck 10 true true cL_law) = true := by decide +kernel
theorem sx_cl_400 : ((cd_L_law.drop 400).take 40).all (sx_ck 10 true true cL_law) = true := by decide +kernel
theorem sx_cl_440 : ((cd_L_law.drop 440).take 40).all (sx_ck 10 true true cL_law) = true := by decide +kernel
theorem sx_cl_480 : ((cd_L_law.drop 480).take 40).all (sx_ck 10 true true cL_law) = true := by decide +kernel
theorem sx_cl_520 : ((cd_L_law.drop 520).take 40).all (sx_ck 10 true true cL_law) = true := by decide +kernel
theorem sx_cl_560 : ((cd_L_law.drop 560).take 40).all (sx_ck 10 true true cL_law) = true := by decide +kernel
theorem sx_cl_600 : ((cd_L_law.drop 600).take 40).all (sx_ck 10 true true cL_law) = true := by decide +kernel
theorem sx_cl_640 : ((cd_L_law.drop 640).take 40).all (sx_ck 10 true true cL_law) = true := by decide +kernel
theorem sx_cl_680 : ((cd_L_law.drop 680).take 40).all (sx_ck 10 true true cL_law) = true := by decide +kernel
theorem sx_cl_720 : ((cd_L_law.drop 720).take 40).all (sx_ck 10 true true cL_law) = true := by decide +kernel
theorem sx_cm_720 : (cd_L_law.drop 720).all (sx_ck 10 true true cL_law) = true := by decide +kernel
theorem sx_cm_680 : (cd_L_law.drop 680).all (sx_ck 10 true true cL_law) = true := sx_all_cut 40 sx_cl_680 (by rw [List.drop_drop]; exact sx_cm_720)
theorem sx_cm_640 : (cd_L_law.drop 640).all (sx_ck 10 true true cL_law) = true := sx_all_cut 40 sx_cl_640 (by rw [List.drop_drop]; exact sx_cm_680)
theorem sx_cm_600 : (cd_L_law.drop 600).all (sx_ck 10 true true cL_law) = true := sx_all_cut 40 sx_cl_600 (by rw [List.drop_drop]; exact sx_cm_640)
theorem sx_cm_560 : (cd_L_law.drop 560).all (sx_ck 10 true true cL_law) = true := sx_all_cut 40 sx_cl_560 (by rw [List.drop_drop]; exact sx_cm_600)
theorem sx_cm_520 : (cd_L_law.drop 520).all (sx_ck 10 true true cL_law) = true := sx_all_cut 40 sx_cl_520 (by rw [List.drop_drop]; exact sx_cm_560)
theorem sx_cm_480 : (cd_L_law.drop 480).all (sx_ck 10 true true cL_law) = true := sx_all_cut 40 sx_cl_480 (by rw [List.drop_drop]; exact sx_cm_520)
theorem sx_cm_440 : (cd_L_law.drop 440).all (sx_ck 10 true true cL_law) = true := sx_all_cut 40 sx_cl_440 (by rw [List.drop_drop]; exact sx_cm_480)
theorem sx_cm_400 : (cd_L_law.drop 400).all (sx_ck 10 true true cL_law) = true := sx_all_cut 40 sx_cl_400 (by rw [List.drop_drop]; exact sx_cm_440)
theorem sx_cm_360 : (cd_L_law.drop 360).all (sx_ck 10 true true cL_law) = true := sx_all_cut 40 sx_cl_360 (by rw [List.drop_drop]; exact sx_cm_400)
theorem sx_cm_320 : (cd_L_law.drop 320).all (sx_ck 10 true true cL_law) = true := sx_all_cut 40 sx_cl_320 (by rw [List.drop_drop]; exact sx_cm_360)
theorem sx_cm_280 : (cd_L_law.drop 280).all (sx_ck 10 true true cL_law) = true := sx_all_cut 40 sx_cl_280 (by rw [List.drop_drop]; exact sx_cm_320)
theorem sx_cm_240 : (cd_L_law.drop 240).all (sx_ck 10 true true cL_law) = true := sx_all_cut 40 sx_cl_240 (by rw [List.drop_drop]; exact sx_cm_280)
theorem sx_cm_200 : (cd_L_law.drop 200).all (sx_ck 10 true true cL_law) = true := sx_all_cut 40 sx_cl_200 (by rw [List.drop_drop]; exact sx_cm_240)
theorem sx_cm_160 : (cd_L_law.drop 160).all (sx_ck 10 true true cL_law) = true := sx_all_cut 40 sx_cl_160 (by rw [List.drop_drop]; exact sx_cm_200)
theorem sx_cm_120 : (cd_L_law.drop 120).all (sx_ck 10 true true cL_law) = true := sx_all_cut 40 sx_cl_120 (by rw [List.drop_drop]; exact sx_cm_160)
theorem sx_cm_80 : (cd_L_law.drop 80).all (sx_ck 10 true true cL_law) = true := sx_all_cut 40 sx_cl_80 (by rw [List.drop_drop]; exact sx_cm_120)
theorem sx_cm_40 : (cd_L_law.drop 40).all (sx_ck 10 true true cL_law) = true := sx_all_cut 40 sx_cl_40 (by rw [List.drop_drop]; exact sx_cm_80)
theorem sx_cm_0 : (cd_L_law.drop 0).all (sx_ck 10 true true cL_law) = true := sx_all_cut 40 sx_cl_0 (by rw [List.drop_drop]; exact sx_cm_40)
theorem sx_c_law : cd_L_law.all (sx_ck 10 true true cL_law) = true := sx_cm_0
