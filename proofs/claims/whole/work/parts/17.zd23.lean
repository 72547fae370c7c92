theorem am_dL_0 : ((am_cd am_mL).take 20).all (am_okD1 (am_cc am_mL)) = true := by decide +kernel
theorem am_dL_1 : (((am_cd am_mL).drop 20).take 20).all (am_okD1 (am_cc am_mL)) = true := by decide +kernel
theorem am_dL_2 : ((((am_cd am_mL).drop 20).drop 20).take 20).all (am_okD1 (am_cc am_mL)) = true := by decide +kernel
theorem am_dL_3 : (((((am_cd am_mL).drop 20).drop 20).drop 20).take 20).all (am_okD1 (am_cc am_mL)) = true := by decide +kernel
theorem am_dL_4 : ((((((am_cd am_mL).drop 20).drop 20).drop 20).drop 20).take 20).all (am_okD1 (am_cc am_mL)) = true := by decide +kernel
theorem am_dL_5 : (((((((am_cd am_mL).drop 20).drop 20).drop 20).drop 20).drop 20).take 20).all (am_okD1 (am_cc am_mL)) = true := by decide +kernel
