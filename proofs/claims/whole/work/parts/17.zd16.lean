theorem am_d195_6 : ((((((((am_cd am_m195).drop 20).drop 20).drop 20).drop 20).drop 20).drop 20).take 20).all (am_okD1 (am_cc am_m195)) = true := by decide +kernel
theorem am_d195_e : ((((((((am_cd am_m195).drop 20).drop 20).drop 20).drop 20).drop 20).drop 20).drop 20).all (am_okD1 (am_cc am_m195)) = true := by decide +kernel
theorem am_d195 : am_okD am_m195 = true := (am_cutD 20 am_d195_0 (am_cutD 20 am_d195_1 (am_cutD 20 am_d195_2 (am_cutD 20 am_d195_3 (am_cutD 20 am_d195_4 (am_cutD 20 am_d195_5 (am_cutD 20 am_d195_6 am_d195_e)))))))
