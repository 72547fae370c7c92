set_option maxRecDepth 100000 in
theorem p_out (xs : Nat → Int32) : am_k (am_E 6 xs) 2000 am_mL (967, [(3, .int 0), (2, .ref 78), (1, .ref 0), (0, .ref 2000001)], [], ph) (fun r _ => r = some (.int 1)) := by
  refine am_k_e 9 (C' := (974, [(3, .int 6), (2, .ref 78), (1, .ref 0), (0, .ref 2000001)], [.int 1], ph)) rfl ?_
  exact am_k_ret (r := some (.int 1)) rfl rfl rfl
set_option maxRecDepth 100000 in
theorem p_l0 (xs : Nat → Int32) : am_k (am_E 0 xs) 2000 am_mL (18, [(3, .int 0), (2, .ref 78), (1, .ref 0), (0, .ref 2000001)], [], ph) (fun r _ => r = some (.int 1)) := by
  refine am_k_e 7 (C' := (974, [(3, .int 0), (2, .ref 78), (1, .ref 0), (0, .ref 2000001)], [.int 1], ph)) rfl ?_
  exact am_k_ret (r := some (.int 1)) rfl rfl rfl
set_option maxRecDepth 100000 in
theorem p_l1 (xs : Nat → Int32) : am_k (am_E 1 xs) 2000 am_mL (18, [(3, .int 0), (2, .ref 78), (1, .ref 0), (0, .ref 2000001)], [], ph) (fun r _ => r = some (.int 1)) := by
  refine am_k_e 7 (C' := (974, [(3, .int 0), (2, .ref 78), (1, .ref 0), (0, .ref 2000001)], [.int 1], ph)) rfl ?_
  exact am_k_ret (r := some (.int 1)) rfl rfl rfl
set_option maxRecDepth 100000 in
theorem p_l2 (xs : Nat → Int32) : am_k (am_E 2 xs) 2000 am_mL (18, [(3, .int 0), (2, .ref 78), (1, .ref 0), (0, .ref 2000001)], [], ph) (fun r _ => r = some (.int 1)) := by
  refine am_k_e 7 (C' := (974, [(3, .int 0), (2, .ref 78), (1, .ref 0), (0, .ref 2000001)], [.int 1], ph)) rfl ?_
  exact am_k_ret (r := some (.int 1)) rfl rfl rfl
set_option maxRecDepth 100000 in
theorem p_l3 (xs : Nat → Int32) : am_k (am_E 3 xs) 2000 am_mL (18, [(3, .int 0), (2, .ref 78), (1, .ref 0), (0, .ref 2000001)], [], ph) (fun r _ => r = some (.int 1)) := by
  refine am_k_e 7 (C' := (974, [(3, .int 0), (2, .ref 78), (1, .ref 0), (0, .ref 2000001)], [.int 1], ph)) rfl ?_
  exact am_k_ret (r := some (.int 1)) rfl rfl rfl
set_option maxRecDepth 100000 in
theorem p_l4 (xs : Nat → Int32) : am_k (am_E 4 xs) 2000 am_mL (18, [(3, .int 0), (2, .ref 78), (1, .ref 0), (0, .ref 2000001)], [], ph) (fun r _ => r = some (.int 1)) := by
  refine am_k_e 7 (C' := (974, [(3, .int 0), (2, .ref 78), (1, .ref 0), (0, .ref 2000001)], [.int 1], ph)) rfl ?_
  exact am_k_ret (r := some (.int 1)) rfl rfl rfl
set_option maxRecDepth 100000 in
theorem p_l5 (xs : Nat → Int32) : am_k (am_E 5 xs) 2000 am_mL (18, [(3, .int 0), (2, .ref 78), (1, .ref 0), (0, .ref 2000001)], [], ph) (fun r _ => r = some (.int 1)) := by
  refine am_k_e 7 (C' := (974, [(3, .int 0), (2, .ref 78), (1, .ref 0), (0, .ref 2000001)], [.int 1], ph)) rfl ?_
  exact am_k_ret (r := some (.int 1)) rfl rfl rfl
set_option maxRecDepth 100000 in
theorem p_sw (xs : Nat → Int32) (j : Nat) (hj : j < 64) : am_k (am_E 6 xs) 2000 am_mL (33, [(3, .int 0), (2, .ref 78), (1, .ref 0), (0, .ref 2000001)], [.int (nI j)], ph) (fun r _ => r = some (.int 1)) := by
  match j, hj with
  | 0, _ => exact am_k_e 1 (C' := (184, [(3, .int 0), (2, .ref 78), (1, .ref 0), (0, .ref 2000001)], [], ph)) rfl (p_c0 xs)
  | 1, _ => exact am_k_e 1 (C' := (247, [(3, .int 0), (2, .ref 78), (1, .ref 0), (0, .ref 2000001)], [], ph)) rfl (p_c1 xs)
  | 2, _ => exact am_k_e 1 (C' := (270, [(3, .int 0), (2, .ref 78), (1, .ref 0), (0, .ref 2000001)], [], ph)) rfl (p_c2 xs)
  | 3, _ => exact am_k_e 1 (C' := (283, [(3, .int 0), (2, .ref 78), (1, .ref 0), (0, .ref 2000001)], [], ph)) rfl (p_c3 xs)
  | 4, _ => exact am_k_e 1 (C' := (306, [(3, .int 0), (2, .ref 78), (1, .ref 0), (0, .ref 2000001)], [], ph)) rfl (p_c4 xs)
  | 5, _ => exact am_k_e 1 (C' := (329, [(3, .int 0), (2, .ref 78), (1, .ref 0), (0, .ref 2000001)], [], ph)) rfl (p_c5 xs)
  | 6, _ => exact am_k_e 1 (C' := (372, [(3, .int 0), (2, .ref 78), (1, .ref 0), (0, .ref 2000001)], [], ph)) rfl (p_c6 xs)
  | 7, _ => exact am_k_e 1 (C' := (405, [(3, .int 0), (2, .ref 78), (1, .ref 0), (0, .ref 2000001)], [], ph)) rfl (p_c7 xs)
  | 8, _ => exact am_k_e 1 (C' := (438, [(3, .int 0), (2, .ref 78), (1, .ref 0), (0, .ref 2000001)], [], ph)) rfl (p_c8 xs)
  | 9, _ => exact am_k_e 1 (C' := (461, [(3, .int 0), (2, .ref 78), (1, .ref 0), (0, .ref 2000001)], [], ph)) rfl (p_c9 xs)
  | 10, _ => exact am_k_e 1 (C' := (484, [(3, .int 0), (2, .ref 78), (1, .ref 0), (0, .ref 2000001)], [], ph)) rfl (p_c10 xs)
  | 11, _ => exact am_k_e 1 (C' := (517, [(3, .int 0), (2, .ref 78), (1, .ref 0), (0, .ref 2000001)], [], ph)) rfl (p_c11 xs)
  | 12, _ => exact am_k_e 1 (C' := (530, [(3, .int 0), (2, .ref 78), (1, .ref 0), (0, .ref 2000001)], [], ph)) rfl (p_c12 xs)
  | 13, _ => exact am_k_e 1 (C' := (553, [(3, .int 0), (2, .ref 78), (1, .ref 0), (0, .ref 2000001)], [], ph)) rfl (p_c13 xs)
  | 14, _ => exact am_k_e 1 (C' := (586, [(3, .int 0), (2, .ref 78), (1, .ref 0), (0, .ref 2000001)], [], ph)) rfl (p_c14 xs)
  | 15, _ => exact am_k_e 1 (C' := (609, [(3, .int 0), (2, .ref 78), (1, .ref 0), (0, .ref 2000001)], [], ph)) rfl (p_c15 xs)
  | 16, _ => exact am_k_e 1 (C' := (622, [(3, .int 0), (2, .ref 78), (1, .ref 0), (0, .ref 2000001)], [], ph)) rfl (p_c16 xs)
  | 17, _ => exact am_k_e 1 (C' := (645, [(3, .int 0), (2, .ref 78), (1, .ref 0), (0, .ref 2000001)], [], ph)) rfl (p_c17 xs)
  | 18, _ => exact am_k_e 1 (C' := (658, [(3, .int 0), (2, .ref 78), (1, .ref 0), (0, .ref 2000001)], [], ph)) rfl (p_c18 xs)
  | 19, _ => exact am_k_e 1 (C' := (681, [(3, .int 0), (2, .ref 78), (1, .ref 0), (0, .ref 2000001)], [], ph)) rfl (p_c19 xs)
  | 20, _ => exact am_k_e 1 (C' := (704, [(3, .int 0), (2, .ref 78), (1, .ref 0), (0, .ref 2000001)], [], ph)) rfl (p_c20 xs)
  | 21, _ => exact am_k_e 1 (C' := (717, [(3, .int 0), (2, .ref 78), (1, .ref 0), (0, .ref 2000001)], [], ph)) rfl (p_c21 xs)
  | 22, _ => exact am_k_e 1 (C' := (740, [(3, .int 0), (2, .ref 78), (1, .ref 0), (0, .ref 2000001)], [], ph)) rfl (p_c22 xs)
  | 23, _ => exact am_k_e 1 (C' := (763, [(3, .int 0), (2, .ref 78), (1, .ref 0), (0, .ref 2000001)], [], ph)) rfl (p_c23 xs)
  | 24, _ => exact am_k_e 1 (C' := (786, [(3, .int 0), (2, .ref 78), (1, .ref 0), (0, .ref 2000001)], [], ph)) rfl (p_c24 xs)
  | 25, _ => exact am_k_e 1 (C' := (799, [(3, .int 0), (2, .ref 78), (1, .ref 0), (0, .ref 2000001)], [], ph)) rfl (p_c25 xs)
  | 26, _ => exact am_k_e 1 (C' := (822, [(3, .int 0), (2, .ref 78), (1, .ref 0), (0, .ref 2000001)], [], ph)) rfl (p_c26 xs)
  | 27, _ => exact am_k_e 1 (C' := (845, [(3, .int 0), (2, .ref 78), (1, .ref 0), (0, .ref 2000001)], [], ph)) rfl (p_c27 xs)
  | 28, _ => exact am_k_e 1 (C' := (858, [(3, .int 0), (2, .ref 78), (1, .ref 0), (0, .ref 2000001)], [], ph)) rfl (p_c28 xs)
  | 29, _ => exact am_k_e 1 (C' := (881, [(3, .int 0), (2, .ref 78), (1, .ref 0), (0, .ref 2000001)], [], ph)) rfl (p_c29 xs)
  | 30, _ => exact am_k_e 1 (C' := (895, [(3, .int 0), (2, .ref 78), (1, .ref 0), (0, .ref 2000001)], [], ph)) rfl (p_c30 xs)
  | 31, _ => exact am_k_e 1 (C' := (908, [(3, .int 0), (2, .ref 78), (1, .ref 0), (0, .ref 2000001)], [], ph)) rfl (p_c31 xs)
  | 32, _ => exact am_k_e 1 (C' := (931, [(3, .int 0), (2, .ref 78), (1, .ref 0), (0, .ref 2000001)], [], ph)) rfl (p_c32 xs)
  | 33, _ => exact am_k_e 1 (C' := (944, [(3, .int 0), (2, .ref 78), (1, .ref 0), (0, .ref 2000001)], [], ph)) rfl (p_c33 xs)
  | 34, _ => exact am_k_e 1 (C' := (967, [(3, .int 0), (2, .ref 78), (1, .ref 0), (0, .ref 2000001)], [], ph)) rfl (p_out xs)
  | 35, _ => exact am_k_e 1 (C' := (967, [(3, .int 0), (2, .ref 78), (1, .ref 0), (0, .ref 2000001)], [], ph)) rfl (p_out xs)
  | 36, _ => exact am_k_e 1 (C' := (967, [(3, .int 0), (2, .ref 78), (1, .ref 0), (0, .ref 2000001)], [], ph)) rfl (p_out xs)
  | 37, _ => exact am_k_e 1 (C' := (967, [(3, .int 0), (2, .ref 78), (1, .ref 0), (0, .ref 2000001)], [], ph)) rfl (p_out xs)
  | 38, _ => exact am_k_e 1 (C' := (967, [(3, .int 0), (2, .ref 78), (1, .ref 0), (0, .ref 2000001)], [], ph)) rfl (p_out xs)
  | 39, _ => exact am_k_e 1 (C' := (967, [(3, .int 0), (2, .ref 78), (1, .ref 0), (0, .ref 2000001)], [], ph)) rfl (p_out xs)
  | 40, _ => exact am_k_e 1 (C' := (967, [(3, .int 0), (2, .ref 78), (1, .ref 0), (0, .ref 2000001)], [], ph)) rfl (p_out xs)
  | 41, _ => exact am_k_e 1 (C' := (967, [(3, .int 0), (2, .ref 78), (1, .ref 0), (0, .ref 2000001)], [], ph)) rfl (p_out xs)
  | 42, _ => exact am_k_e 1 (C' := (967, [(3, .int 0), (2, .ref 78), (1, .ref 0), (0, .ref 2000001)], [], ph)) rfl (p_out xs)
  | 43, _ => exact am_k_e 1 (C' := (967, [(3, .int 0), (2, .ref 78), (1, .ref 0), (0, .ref 2000001)], [], ph)) rfl (p_out xs)
  | 44, _ => exact am_k_e 1 (C' := (967, [(3, .int 0), (2, .ref 78), (1, .ref 0), (0, .ref 2000001)], [], ph)) rfl (p_out xs)
  | 45, _ => exact am_k_e 1 (C' := (967, [(3, .int 0), (2, .ref 78), (1, .ref 0), (0, .ref 2000001)], [], ph)) rfl (p_out xs)
  | 46, _ => exact am_k_e 1 (C' := (967, [(3, .int 0), (2, .ref 78), (1, .ref 0), (0, .ref 2000001)], [], ph)) rfl (p_out xs)
  | 47, _ => exact am_k_e 1 (C' := (967, [(3, .int 0), (2, .ref 78), (1, .ref 0), (0, .ref 2000001)], [], ph)) rfl (p_out xs)
  | 48, _ => exact am_k_e 1 (C' := (967, [(3, .int 0), (2, .ref 78), (1, .ref 0), (0, .ref 2000001)], [], ph)) rfl (p_out xs)
  | 49, _ => exact am_k_e 1 (C' := (967, [(3, .int 0), (2, .ref 78), (1, .ref 0), (0, .ref 2000001)], [], ph)) rfl (p_out xs)
  | 50, _ => exact am_k_e 1 (C' := (967, [(3, .int 0), (2, .ref 78), (1, .ref 0), (0, .ref 2000001)], [], ph)) rfl (p_out xs)
  | 51, _ => exact am_k_e 1 (C' := (967, [(3, .int 0), (2, .ref 78), (1, .ref 0), (0, .ref 2000001)], [], ph)) rfl (p_out xs)
  | 52, _ => exact am_k_e 1 (C' := (967, [(3, .int 0), (2, .ref 78), (1, .ref 0), (0, .ref 2000001)], [], ph)) rfl (p_out xs)
  | 53, _ => exact am_k_e 1 (C' := (967, [(3, .int 0), (2, .ref 78), (1, .ref 0), (0, .ref 2000001)], [], ph)) rfl (p_out xs)
  | 54, _ => exact am_k_e 1 (C' := (967, [(3, .int 0), (2, .ref 78), (1, .ref 0), (0, .ref 2000001)], [], ph)) rfl (p_out xs)
  | 55, _ => exact am_k_e 1 (C' := (967, [(3, .int 0), (2, .ref 78), (1, .ref 0), (0, .ref 2000001)], [], ph)) rfl (p_out xs)
  | 56, _ => exact am_k_e 1 (C' := (967, [(3, .int 0), (2, .ref 78), (1, .ref 0), (0, .ref 2000001)], [], ph)) rfl (p_out xs)
  | 57, _ => exact am_k_e 1 (C' := (967, [(3, .int 0), (2, .ref 78), (1, .ref 0), (0, .ref 2000001)], [], ph)) rfl (p_out xs)
  | 58, _ => exact am_k_e 1 (C' := (967, [(3, .int 0), (2, .ref 78), (1, .ref 0), (0, .ref 2000001)], [], ph)) rfl (p_out xs)
  | 59, _ => exact am_k_e 1 (C' := (967, [(3, .int 0), (2, .ref 78), (1, .ref 0), (0, .ref 2000001)], [], ph)) rfl (p_out xs)
  | 60, _ => exact am_k_e 1 (C' := (967, [(3, .int 0), (2, .ref 78), (1, .ref 0), (0, .ref 2000001)], [], ph)) rfl (p_out xs)
  | 61, _ => exact am_k_e 1 (C' := (967, [(3, .int 0), (2, .ref 78), (1, .ref 0), (0, .ref 2000001)], [], ph)) rfl (p_out xs)
  | 62, _ => exact am_k_e 1 (C' := (967, [(3, .int 0), (2, .ref 78), (1, .ref 0), (0, .ref 2000001)], [], ph)) rfl (p_out xs)
  | 63, _ => exact am_k_e 1 (C' := (967, [(3, .int 0), (2, .ref 78), (1, .ref 0), (0, .ref 2000001)], [], ph)) rfl (p_out xs)
  | j + 64, hj => omega
set_option maxRecDepth 100000 in
theorem p_l6 (xs : Nat → Int32) : am_k (am_E 6 xs) 2000 am_mL (18, [(3, .int 0), (2, .ref 78), (1, .ref 0), (0, .ref 2000001)], [], ph) (fun r _ => r = some (.int 1)) := by
  obtain ⟨a0, hx0⟩ : ∃ a, xs 0 = a := ⟨_, rfl⟩
  refine am_k_e 8 (C' := (29, [(3, .int 0), (2, .ref 78), (1, .ref 0), (0, .ref 2000001)], [.int 0, .ref 2000001], ph)) rfl ?_
  refine am_k_sld (v := a0) rfl (by decide) rfl rfl hx0 ?_
  refine am_k_e 2 (C' := (33, [(3, .int 0), (2, .ref 78), (1, .ref 0), (0, .ref 2000001)], [.int (a0 &&& 63)], ph)) rfl ?_
  obtain ⟨j, hj, e⟩ := pk_andE a0 (m := 63) 6 (by decide)
  rw [e]
  exact p_sw xs j hj
theorem p_all (L : Nat) (hL : L ≤ 6) (xs : Nat → Int32) : am_k (am_E L xs) 2000 am_mL (18, [(3, .int 0), (2, .ref 78), (1, .ref 0), (0, .ref 2000001)], [], ph) (fun r _ => r = some (.int 1)) := by
  match L, hL with
  | 0, _ => exact p_l0 xs
  | 1, _ => exact p_l1 xs
  | 2, _ => exact p_l2 xs
  | 3, _ => exact p_l3 xs
  | 4, _ => exact p_l4 xs
  | 5, _ => exact p_l5 xs
  | 6, _ => exact p_l6 xs
  | L + 7, hL => omega
set_option maxRecDepth 100000 in
theorem p_size : ph.length ≤ room_1.cells ∧ am_sz ph ≤ room_1.slots := by decide +kernel
theorem whole_start {p : Program} {e : Env} {s : State} {m : MethodId} {below : List Frame} {meth : Method} {c : Code} (l : Launch) {b L : Nat} {xs : Nat → Int32} (hL : L ≤ 6) (C0 : lw_At p s m meth c b L xs) : W p l e room_1 s m #[Value.ref b] below meth c s.heap [] 0 0 (lw_Z below #[Value.ref b] s) (entryFrame m ([Value.ref b] : List Value).toArray 4) := by
  obtain ⟨r, hp1, ⟨⟨fu, h1⟩, h2, h3⟩, rfl⟩ := p_all L hL xs
  obtain ⟨f2, h4⟩ := p_beg (E := am_E L xs) (r := some (.int 1)) (hp1 := hp1) ⟨fu, h1⟩
  exact am_start am_okM am_dL l C0 h4 (by rw [h2]; exact p_size.1) (by rw [h3]; exact p_size.2)
