theorem am_d209_6 : ((((((((am_cd am_m209).drop 20).drop 20).drop 20).drop 20).drop 20).drop 20).take 20).all (am_okD1 (am_cc am_m209)) = true := by decide +kernel
theorem am_d209_e : ((((((((am_cd am_m209).drop 20).drop 20).drop 20).drop 20).drop 20).drop 20).drop 20).all (am_okD1 (am_cc am_m209)) = true := by decide +kernel
theorem am_d209 : am_okD am_m209 = true := (am_cutD 20 am_d209_0 (am_cutD 20 am_d209_1 (am_cutD 20 am_d209_2 (am_cutD 20 am_d209_3 (am_cutD 20 am_d209_4 (am_cutD 20 am_d209_5 (am_cutD 20 am_d209_6 am_d209_e)))))))
