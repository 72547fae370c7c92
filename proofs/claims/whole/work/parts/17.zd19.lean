theorem am_d218_0 : ((am_cd am_m218).take 20).all (am_okD1 (am_cc am_m218)) = true := by decide +kernel
theorem am_d218_1 : (((am_cd am_m218).drop 20).take 20).all (am_okD1 (am_cc am_m218)) = true := by decide +kernel
theorem am_d218_2 : ((((am_cd am_m218).drop 20).drop 20).take 20).all (am_okD1 (am_cc am_m218)) = true := by decide +kernel
theorem am_d218_3 : (((((am_cd am_m218).drop 20).drop 20).drop 20).take 20).all (am_okD1 (am_cc am_m218)) = true := by decide +kernel
theorem am_d218_4 : ((((((am_cd am_m218).drop 20).drop 20).drop 20).drop 20).take 20).all (am_okD1 (am_cc am_m218)) = true := by decide +kernel
theorem am_d218_5 : (((((((am_cd am_m218).drop 20).drop 20).drop 20).drop 20).drop 20).take 20).all (am_okD1 (am_cc am_m218)) = true := by decide +kernel
