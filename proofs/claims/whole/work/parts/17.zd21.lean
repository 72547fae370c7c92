theorem am_d227_0 : ((am_cd am_m227).take 20).all (am_okD1 (am_cc am_m227)) = true := by decide +kernel
theorem am_d227_1 : (((am_cd am_m227).drop 20).take 20).all (am_okD1 (am_cc am_m227)) = true := by decide +kernel
theorem am_d227_2 : ((((am_cd am_m227).drop 20).drop 20).take 20).all (am_okD1 (am_cc am_m227)) = true := by decide +kernel
theorem am_d227_3 : (((((am_cd am_m227).drop 20).drop 20).drop 20).take 20).all (am_okD1 (am_cc am_m227)) = true := by decide +kernel
theorem am_d227_4 : ((((((am_cd am_m227).drop 20).drop 20).drop 20).drop 20).take 20).all (am_okD1 (am_cc am_m227)) = true := by decide +kernel
theorem am_d227_5 : (((((((am_cd am_m227).drop 20).drop 20).drop 20).drop 20).drop 20).take 20).all (am_okD1 (am_cc am_m227)) = true := by decide +kernel
