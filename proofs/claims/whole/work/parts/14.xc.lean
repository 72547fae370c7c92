set_option maxRecDepth 100000 in
theorem p_ctm (E : am_Env) : am_ex E 1999 am_m181 (0, [(0, .ref 78)], [], p_h0) none p_h36 := (am_x_go 0 25 (p_m0 E) (am_x_go 0 25 (p_m1 E) (am_x_go 0 25 (p_m2 E) (am_x_go 0 25 (p_m3 E) (am_x_go 0 25 (p_m4 E) (am_x_go 0 25 (p_m5 E) (am_x_go 0 25 (p_m6 E) (am_x_go 0 25 (p_m7 E) (am_x_go 0 25 (p_m8 E) (am_x_go 0 25 (p_m9 E) (am_x_go 0 25 (p_m10 E) (am_x_go 0 25 (p_m11 E) (am_x_go 0 25 (p_m12 E) (am_x_go 0 25 (p_m13 E) (am_x_go 0 25 (p_m14 E) (am_x_go 0 25 (p_m15 E) (am_x_go 0 25 (p_m16 E) (am_x_go 0 25 (p_m17 E) (am_x_go 0 25 (p_m18 E) (am_x_go 0 25 (p_m19 E) (am_x_go 0 25 (p_m20 E) (am_x_go 0 25 (p_m21 E) (am_x_go 0 25 (p_m22 E) (am_x_go 0 25 (p_m23 E) (am_x_go 0 25 (p_m24 E) (am_x_go 0 25 (p_m25 E) (am_x_go 0 25 (p_m26 E) (am_x_go 0 25 (p_m27 E) (am_x_go 0 25 (p_m28 E) (am_x_go 0 25 (p_m29 E) (am_x_go 0 25 (p_m30 E) (am_x_go 0 25 (p_m31 E) (am_x_go 0 25 (p_m32 E) (am_x_go 0 25 (p_m33 E) (am_x_go 0 25 (p_m34 E) (am_x_go 0 15 (p_m35 E) (am_x_ret (i := .return_) (r := none) rfl rfl)))))))))))))))))))))))))))))))))))))
set_option maxRecDepth 100000 in
theorem p_pe : p_h36 = ph := by rfl
set_option maxRecDepth 100000 in
theorem p_b2 (E : am_Env) : am_go E 0 2000 am_mL 2 (8, [(1, .ref 0), (0, .ref 2000001)], [], ph.take 78) = some (12, [(1, .ref 0), (0, .ref 2000001)], [.ref 78, .ref 78], p_h0) := by rfl
set_option maxRecDepth 100000 in
theorem p_b3 (E : am_Env) : am_go E 0 2000 am_mL 3 (15, [(1, .ref 0), (0, .ref 2000001)], [.ref 78], ph) = some (18, [(3, .int 0), (2, .ref 78), (1, .ref 0), (0, .ref 2000001)], [], ph) := by rfl
set_option maxRecDepth 100000 in
theorem p_rc : am_rcv am_m181 [.ref 78] p_h0 = true := by rfl
set_option maxRecDepth 100000 in
theorem p_beg {E : am_Env} {r : Option Value} {hp1 : am_H} (k : am_ex E 2000 am_mL (18, [(3, .int 0), (2, .ref 78), (1, .ref 0), (0, .ref 2000001)], [], ph) r hp1) : am_ex E 2000 am_mL (0, [(0, .ref 2000001)], [], []) r hp1 := by
  refine am_x_go 1000 4 (p_ctx E) ?_
  refine am_x_go 0 2 (p_b2 E) ?_
  refine am_x_call (N := am_m181) [.ref 78] [.ref 78] rfl rfl rfl rfl rfl rfl (Nat.le_of_ble_eq_true rfl) (fun _ => p_rc) (Nat.le_of_ble_eq_true rfl) (p_ctm E) ?_
  rw [p_pe]
  exact am_x_go 0 3 (p_b3 E) k

