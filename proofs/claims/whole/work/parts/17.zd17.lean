theorem am_d209_0 : ((am_cd am_m209).take 20).all (am_okD1 (am_cc am_m209)) = true := by decide +kernel
theorem am_d209_1 : (((am_cd am_m209).drop 20).take 20).all (am_okD1 (am_cc am_m209)) = true := by decide +kernel
theorem am_d209_2 : ((((am_cd am_m209).drop 20).drop 20).take 20).all (am_okD1 (am_cc am_m209)) = true := by decide +kernel
theorem am_d209_3 : (((((am_cd am_m209).drop 20).drop 20).drop 20).take 20).all (am_okD1 (am_cc am_m209)) = true := by decide +kernel
theorem am_d209_4 : ((((((am_cd am_m209).drop 20).drop 20).drop 20).drop 20).take 20).all (am_okD1 (am_cc am_m209)) = true := by decide +kernel
theorem am_d209_5 : (((((((am_cd am_m209).drop 20).drop 20).drop 20).drop 20).drop 20).take 20).all (am_okD1 (am_cc am_m209)) = true := by decide +kernel
