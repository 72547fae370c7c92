theorem am_d227_6 : ((((((((am_cd am_m227).drop 20).drop 20).drop 20).drop 20).drop 20).drop 20).take 20).all (am_okD1 (am_cc am_m227)) = true := by decide +kernel
theorem am_d227_7 : (((((((((am_cd am_m227).drop 20).drop 20).drop 20).drop 20).drop 20).drop 20).drop 20).take 20).all (am_okD1 (am_cc am_m227)) = true := by decide +kernel
theorem am_d227_8 : ((((((((((am_cd am_m227).drop 20).drop 20).drop 20).drop 20).drop 20).drop 20).drop 20).drop 20).take 20).all (am_okD1 (am_cc am_m227)) = true := by decide +kernel
theorem am_d227_9 : (((((((((((am_cd am_m227).drop 20).drop 20).drop 20).drop 20).drop 20).drop 20).drop 20).drop 20).drop 20).take 20).all (am_okD1 (am_cc am_m227)) = true := by decide +kernel
theorem am_d227_e : (((((((((((am_cd am_m227).drop 20).drop 20).drop 20).drop 20).drop 20).drop 20).drop 20).drop 20).drop 20).drop 20).all (am_okD1 (am_cc am_m227)) = true := by decide +kernel
theorem am_d227 : am_okD am_m227 = true := (am_cutD 20 am_d227_0 (am_cutD 20 am_d227_1 (am_cutD 20 am_d227_2 (am_cutD 20 am_d227_3 (am_cutD 20 am_d227_4 (am_cutD 20 am_d227_5 (am_cutD 20 am_d227_6 (am_cutD 20 am_d227_7 (am_cutD 20 am_d227_8 (am_cutD 20 am_d227_9 am_d227_e))))))))))
