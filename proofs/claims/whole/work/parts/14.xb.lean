set_option maxRecDepth 100000 in
theorem p_m0 (E : am_Env) : am_go E 0 1999 am_m181 25 (0, [(0, .ref 78)], [], p_h0) = some (41, [(0, .ref 78)], [.ref 81, .ref 81, .ref 78], p_h1) := by rfl
set_option maxRecDepth 100000 in
theorem p_m1 (E : am_Env) : am_go E 0 1999 am_m181 25 (41, [(0, .ref 78)], [.ref 81, .ref 81, .ref 78], p_h1) = some (74, [(0, .ref 78)], [.int 3, .ref 82, .ref 82, .ref 78], p_h2) := by rfl
set_option maxRecDepth 100000 in
theorem p_m2 (E : am_Env) : am_go E 0 1999 am_m181 25 (74, [(0, .ref 78)], [.int 3, .ref 82, .ref 82, .ref 78], p_h2) = some (110, [(0, .ref 78)], [.int 106, .int 0, .ref 84, .ref 84, .ref 78], p_h3) := by rfl
set_option maxRecDepth 100000 in
theorem p_m3 (E : am_Env) : am_go E 0 1999 am_m181 25 (110, [(0, .ref 78)], [.int 106, .int 0, .ref 84, .ref 84, .ref 78], p_h3) = some (143, [(0, .ref 78)], [.ref 85, .ref 78], p_h4) := by rfl
set_option maxRecDepth 100000 in
theorem p_m4 (E : am_Env) : am_go E 0 1999 am_m181 25 (143, [(0, .ref 78)], [.ref 85, .ref 78], p_h4) = some (176, [(0, .ref 78)], [.ref 86, .ref 86, .ref 78], p_h5) := by rfl
set_option maxRecDepth 100000 in
theorem p_m5 (E : am_Env) : am_go E 0 1999 am_m181 25 (176, [(0, .ref 78)], [.ref 86, .ref 86, .ref 78], p_h5) = some (209, [(0, .ref 78)], [.int 3, .ref 87, .ref 87, .ref 78], p_h6) := by rfl
set_option maxRecDepth 100000 in
theorem p_m6 (E : am_Env) : am_go E 0 1999 am_m181 25 (209, [(0, .ref 78)], [.int 3, .ref 87, .ref 87, .ref 78], p_h6) = some (243, [(0, .ref 78)], [.int 115, .int 4, .ref 88, .ref 88, .ref 78], p_h7) := by rfl
set_option maxRecDepth 100000 in
theorem p_m7 (E : am_Env) : am_go E 0 1999 am_m181 25 (243, [(0, .ref 78)], [.int 115, .int 4, .ref 88, .ref 88, .ref 78], p_h7) = some (277, [(0, .ref 78)], [.ref 89, .ref 78], p_h8) := by rfl
set_option maxRecDepth 100000 in
theorem p_m8 (E : am_Env) : am_go E 0 1999 am_m181 25 (277, [(0, .ref 78)], [.ref 89, .ref 78], p_h8) = some (310, [(0, .ref 78)], [.ref 90, .ref 90, .ref 78], p_h9) := by rfl
set_option maxRecDepth 100000 in
theorem p_m9 (E : am_Env) : am_go E 0 1999 am_m181 25 (310, [(0, .ref 78)], [.ref 90, .ref 90, .ref 78], p_h9) = some (345, [(0, .ref 78)], [.ref 78], p_h10) := by rfl
set_option maxRecDepth 100000 in
theorem p_m10 (E : am_Env) : am_go E 0 1999 am_m181 25 (345, [(0, .ref 78)], [.ref 78], p_h10) = some (379, [(0, .ref 78)], [.int 115, .int 0, .ref 93, .ref 93, .ref 78], p_h11) := by rfl
set_option maxRecDepth 100000 in
theorem p_m11 (E : am_Env) : am_go E 0 1999 am_m181 25 (379, [(0, .ref 78)], [.int 115, .int 0, .ref 93, .ref 93, .ref 78], p_h11) = some (413, [(0, .ref 78)], [.ref 94, .ref 78], p_h12) := by rfl
set_option maxRecDepth 100000 in
theorem p_m12 (E : am_Env) : am_go E 0 1999 am_m181 25 (413, [(0, .ref 78)], [.ref 94, .ref 78], p_h12) = some (446, [(0, .ref 78)], [.ref 95, .ref 95, .ref 78], p_h13) := by rfl
set_option maxRecDepth 100000 in
theorem p_m13 (E : am_Env) : am_go E 0 1999 am_m181 25 (446, [(0, .ref 78)], [.ref 95, .ref 95, .ref 78], p_h13) = some (481, [(0, .ref 78)], [.ref 78], p_h14) := by rfl
set_option maxRecDepth 100000 in
theorem p_m14 (E : am_Env) : am_go E 0 1999 am_m181 25 (481, [(0, .ref 78)], [.ref 78], p_h14) = some (515, [(0, .ref 78)], [.int 108, .int 1, .ref 98, .ref 98, .ref 78], p_h15) := by rfl
set_option maxRecDepth 100000 in
theorem p_m15 (E : am_Env) : am_go E 0 1999 am_m181 25 (515, [(0, .ref 78)], [.int 108, .int 1, .ref 98, .ref 98, .ref 78], p_h15) = some (550, [(0, .ref 78)], [.ref 100, .ref 78], p_h16) := by rfl
set_option maxRecDepth 100000 in
theorem p_m16 (E : am_Env) : am_go E 0 1999 am_m181 25 (550, [(0, .ref 78)], [.ref 100, .ref 78], p_h16) = some (592, [(0, .ref 78)], [], p_h17) := by rfl
set_option maxRecDepth 100000 in
theorem p_m17 (E : am_Env) : am_go E 0 1999 am_m181 25 (592, [(0, .ref 78)], [], p_h17) = some (641, [(0, .ref 78)], [.ref 78], p_h18) := by rfl
set_option maxRecDepth 100000 in
theorem p_m18 (E : am_Env) : am_go E 0 1999 am_m181 25 (641, [(0, .ref 78)], [.ref 78], p_h18) = some (695, [(0, .ref 78)], [.int 10000, .ref 78], p_h19) := by rfl
set_option maxRecDepth 100000 in
theorem p_m19 (E : am_Env) : am_go E 0 1999 am_m181 25 (695, [(0, .ref 78)], [.int 10000, .ref 78], p_h19) = some (740, [(0, .ref 78)], [.int 102, .int 0, .ref 119, .ref 119, .ref 78], p_h20) := by rfl
set_option maxRecDepth 100000 in
theorem p_m20 (E : am_Env) : am_go E 0 1999 am_m181 25 (740, [(0, .ref 78)], [.int 102, .int 0, .ref 119, .ref 119, .ref 78], p_h20) = some (773, [(0, .ref 78)], [.ref 120, .ref 78], p_h21) := by rfl
set_option maxRecDepth 100000 in
theorem p_m21 (E : am_Env) : am_go E 0 1999 am_m181 25 (773, [(0, .ref 78)], [.ref 120, .ref 78], p_h21) = some (806, [(0, .ref 78)], [.ref 121, .ref 121, .ref 78], p_h22) := by rfl
set_option maxRecDepth 100000 in
theorem p_m22 (E : am_Env) : am_go E 0 1999 am_m181 25 (806, [(0, .ref 78)], [.ref 121, .ref 121, .ref 78], p_h22) = some (839, [(0, .ref 78)], [.int 2, .ref 122, .ref 122, .ref 78], p_h23) := by rfl
set_option maxRecDepth 100000 in
theorem p_m23 (E : am_Env) : am_go E 0 1999 am_m181 25 (839, [(0, .ref 78)], [.int 2, .ref 122, .ref 122, .ref 78], p_h23) = some (873, [(0, .ref 78)], [.int 115, .int 2, .ref 123, .ref 123, .ref 78], p_h24) := by rfl
set_option maxRecDepth 100000 in
theorem p_m24 (E : am_Env) : am_go E 0 1999 am_m181 25 (873, [(0, .ref 78)], [.int 115, .int 2, .ref 123, .ref 123, .ref 78], p_h24) = some (906, [(0, .ref 78)], [.ref 124, .ref 78], p_h25) := by rfl
set_option maxRecDepth 100000 in
theorem p_m25 (E : am_Env) : am_go E 0 1999 am_m181 25 (906, [(0, .ref 78)], [.ref 124, .ref 78], p_h25) = some (941, [(0, .ref 78)], [.ref 126, .ref 126, .ref 78], p_h26) := by rfl
set_option maxRecDepth 100000 in
theorem p_m26 (E : am_Env) : am_go E 0 1999 am_m181 25 (941, [(0, .ref 78)], [.ref 126, .ref 126, .ref 78], p_h26) = some (976, [(0, .ref 78)], [.ref 78], p_h27) := by rfl
set_option maxRecDepth 100000 in
theorem p_m27 (E : am_Env) : am_go E 0 1999 am_m181 25 (976, [(0, .ref 78)], [.ref 78], p_h27) = some (1010, [(0, .ref 78)], [.int 105, .int 1, .ref 129, .ref 129, .ref 78], p_h28) := by rfl
set_option maxRecDepth 100000 in
theorem p_m28 (E : am_Env) : am_go E 0 1999 am_m181 25 (1010, [(0, .ref 78)], [.int 105, .int 1, .ref 129, .ref 129, .ref 78], p_h28) = some (1045, [(0, .ref 78)], [.ref 131, .ref 78], p_h29) := by rfl
set_option maxRecDepth 100000 in
theorem p_m29 (E : am_Env) : am_go E 0 1999 am_m181 25 (1045, [(0, .ref 78)], [.ref 131, .ref 78], p_h29) = some (1079, [(0, .ref 78)], [.ref 132, .ref 132, .ref 78], p_h30) := by rfl
set_option maxRecDepth 100000 in
theorem p_m30 (E : am_Env) : am_go E 0 1999 am_m181 25 (1079, [(0, .ref 78)], [.ref 132, .ref 132, .ref 78], p_h30) = some (1112, [(0, .ref 78)], [.int 0, .ref 133, .ref 133, .ref 78], p_h31) := by rfl
set_option maxRecDepth 100000 in
theorem p_m31 (E : am_Env) : am_go E 0 1999 am_m181 25 (1112, [(0, .ref 78)], [.int 0, .ref 133, .ref 133, .ref 78], p_h31) = some (1146, [(0, .ref 78)], [.int 119, .int 0, .ref 134, .ref 134, .ref 78], p_h32) := by rfl
set_option maxRecDepth 100000 in
theorem p_m32 (E : am_Env) : am_go E 0 1999 am_m181 25 (1146, [(0, .ref 78)], [.int 119, .int 0, .ref 134, .ref 134, .ref 78], p_h32) = some (1179, [(0, .ref 78)], [.ref 135, .ref 78], p_h33) := by rfl
set_option maxRecDepth 100000 in
theorem p_m33 (E : am_Env) : am_go E 0 1999 am_m181 25 (1179, [(0, .ref 78)], [.ref 135, .ref 78], p_h33) = some (1214, [(0, .ref 78)], [], p_h34) := by rfl
set_option maxRecDepth 100000 in
theorem p_m34 (E : am_Env) : am_go E 0 1999 am_m181 25 (1214, [(0, .ref 78)], [], p_h34) = some (1247, [(0, .ref 78)], [.ref 78], p_h35) := by rfl
set_option maxRecDepth 100000 in
theorem p_m35 (E : am_Env) : am_go E 0 1999 am_m181 15 (1247, [(0, .ref 78)], [.ref 78], p_h35) = some (1281, [(0, .ref 78)], [], p_h36) := by rfl
