theorem am_d195_0 : ((am_cd am_m195).take 20).all (am_okD1 (am_cc am_m195)) = true := by decide +kernel
theorem am_d195_1 : (((am_cd am_m195).drop 20).take 20).all (am_okD1 (am_cc am_m195)) = true := by decide +kernel
theorem am_d195_2 : ((((am_cd am_m195).drop 20).drop 20).take 20).all (am_okD1 (am_cc am_m195)) = true := by decide +kernel
theorem am_d195_3 : (((((am_cd am_m195).drop 20).drop 20).drop 20).take 20).all (am_okD1 (am_cc am_m195)) = true := by decide +kernel
theorem am_d195_4 : ((((((am_cd am_m195).drop 20).drop 20).drop 20).drop 20).take 20).all (am_okD1 (am_cc am_m195)) = true := by decide +kernel
theorem am_d195_5 : (((((((am_cd am_m195).drop 20).drop 20).drop 20).drop 20).drop 20).take 20).all (am_okD1 (am_cc am_m195)) = true := by decide +kernel
