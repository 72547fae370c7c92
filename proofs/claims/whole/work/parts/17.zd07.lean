theorem am_d181_0 : ((am_cd am_m181).take 20).all (am_okD1 (am_cc am_m181)) = true := by decide +kernel
theorem am_d181_1 : (((am_cd am_m181).drop 20).take 20).all (am_okD1 (am_cc am_m181)) = true := by decide +kernel
theorem am_d181_2 : ((((am_cd am_m181).drop 20).drop 20).take 20).all (am_okD1 (am_cc am_m181)) = true := by decide +kernel
theorem am_d181_3 : (((((am_cd am_m181).drop 20).drop 20).drop 20).take 20).all (am_okD1 (am_cc am_m181)) = true := by decide +kernel
theorem am_d181_4 : ((((((am_cd am_m181).drop 20).drop 20).drop 20).drop 20).take 20).all (am_okD1 (am_cc am_m181)) = true := by decide +kernel
theorem am_d181_5 : (((((((am_cd am_m181).drop 20).drop 20).drop 20).drop 20).drop 20).take 20).all (am_okD1 (am_cc am_m181)) = true := by decide +kernel
