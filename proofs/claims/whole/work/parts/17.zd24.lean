theorem am_dL_6 : ((((((((am_cd am_mL).drop 20).drop 20).drop 20).drop 20).drop 20).drop 20).take 20).all (am_okD1 (am_cc am_mL)) = true := by decide +kernel
theorem am_dL_7 : (((((((((am_cd am_mL).drop 20).drop 20).drop 20).drop 20).drop 20).drop 20).drop 20).take 20).all (am_okD1 (am_cc am_mL)) = true := by decide +kernel
theorem am_dL_8 : ((((((((((am_cd am_mL).drop 20).drop 20).drop 20).drop 20).drop 20).drop 20).drop 20).drop 20).take 20).all (am_okD1 (am_cc am_mL)) = true := by decide +kernel
theorem am_dL_9 : (((((((((((am_cd am_mL).drop 20).drop 20).drop 20).drop 20).drop 20).drop 20).drop 20).drop 20).drop 20).take 20).all (am_okD1 (am_cc am_mL)) = true := by decide +kernel
theorem am_dL_10 : ((((((((((((am_cd am_mL).drop 20).drop 20).drop 20).drop 20).drop 20).drop 20).drop 20).drop 20).drop 20).drop 20).take 20).all (am_okD1 (am_cc am_mL)) = true := by decide +kernel
theorem am_dL_11 : (((((((((((((am_cd am_mL).drop 20).drop 20).drop 20).drop 20).drop 20).drop 20).drop 20).drop 20).drop 20).drop 20).drop 20).take 20).all (am_okD1 (am_cc am_mL)) = true := by decide +kernel
