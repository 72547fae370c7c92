theorem am_d181_6 : ((((((((am_cd am_m181).drop 20).drop 20).drop 20).drop 20).drop 20).drop 20).take 20).all (am_okD1 (am_cc am_m181)) = true := by decide +kernel
theorem am_d181_7 : (((((((((am_cd am_m181).drop 20).drop 20).drop 20).drop 20).drop 20).drop 20).drop 20).take 20).all (am_okD1 (am_cc am_m181)) = true := by decide +kernel
theorem am_d181_8 : ((((((((((am_cd am_m181).drop 20).drop 20).drop 20).drop 20).drop 20).drop 20).drop 20).drop 20).take 20).all (am_okD1 (am_cc am_m181)) = true := by decide +kernel
theorem am_d181_9 : (((((((((((am_cd am_m181).drop 20).drop 20).drop 20).drop 20).drop 20).drop 20).drop 20).drop 20).drop 20).take 20).all (am_okD1 (am_cc am_m181)) = true := by decide +kernel
theorem am_d181_10 : ((((((((((((am_cd am_m181).drop 20).drop 20).drop 20).drop 20).drop 20).drop 20).drop 20).drop 20).drop 20).drop 20).take 20).all (am_okD1 (am_cc am_m181)) = true := by decide +kernel
theorem am_d181_11 : (((((((((((((am_cd am_m181).drop 20).drop 20).drop 20).drop 20).drop 20).drop 20).drop 20).drop 20).drop 20).drop 20).drop 20).take 20).all (am_okD1 (am_cc am_m181)) = true := by decide +kernel
