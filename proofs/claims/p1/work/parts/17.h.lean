def hc11_0 : am_H := ((ph.set 1 (.inr (8, [.ref 2, .int 0]))).set 16 (.inr (4, [.ref 17, .int 0])))
def hc11_1 : am_H := (((ph.set 1 (.inr (8, [.ref 2, .int 0]))).set 16 (.inr (4, [.ref 17, .int 0]))).set 62 (.inl (0, 2500, .inl (upd (fun _ => 0) 0 64))))
def hc11_2 : am_H := ((((ph.set 1 (.inr (8, [.ref 2, .int 0]))).set 16 (.inr (4, [.ref 17, .int 0]))).set 44 (.inl (0, 3, .inl (upd (fun _ => 0) 0 0)))).set 62 (.inl (0, 2500, .inl (upd (fun _ => 0) 0 64))))
def hc11_3 : am_H := ((((ph.set 1 (.inr (8, [.ref 2, .int 0]))).set 16 (.inr (4, [.ref 17, .int 0]))).set 44 (.inl (0, 3, .inl (upd (upd (fun _ => 0) 0 0) 1 0)))).set 62 (.inl (0, 2500, .inl (upd (fun _ => 0) 0 64))))
def hc11_4 : am_H := ((((ph.set 1 (.inr (8, [.ref 2, .int 0]))).set 16 (.inr (4, [.ref 17, .int 0]))).set 44 (.inl (0, 3, .inl (upd (upd (upd (fun _ => 0) 0 0) 1 0) 2 0)))).set 62 (.inl (0, 2500, .inl (upd (fun _ => 0) 0 64))))
def hc11_5 : am_H := (((((ph.set 0 (.inr (11, [.ref 1, .ref 3, .ref 4, .ref 6, .ref 11, .ref 16, .ref 18, .ref 21, .ref 44, .ref 45, .ref 46, .ref 47, .ref 48, .ref 63, .int 1, .int 0, .int 0, .long 1]))).set 1 (.inr (8, [.ref 2, .int 0]))).set 16 (.inr (4, [.ref 17, .int 0]))).set 44 (.inl (0, 3, .inl (upd (upd (upd (fun _ => 0) 0 0) 1 0) 2 0)))).set 62 (.inl (0, 2500, .inl (upd (fun _ => 0) 0 64))))
def hc11_6 : am_H := ((((((ph.set 0 (.inr (11, [.ref 1, .ref 3, .ref 4, .ref 6, .ref 11, .ref 16, .ref 18, .ref 21, .ref 44, .ref 45, .ref 46, .ref 47, .ref 48, .ref 63, .int 1, .int 0, .int 0, .long 1]))).set 1 (.inr (8, [.ref 2, .int 0]))).set 16 (.inr (4, [.ref 17, .int 0]))).set 44 (.inl (0, 3, .inl (upd (upd (upd (fun _ => 0) 0 0) 1 0) 2 0)))).set 62 (.inl (0, 2500, .inl (upd (fun _ => 0) 0 64)))).set 78 (.inr (12, [.ref 79, .int 0, .int 0, .int 0, .int 0, .int 0, .int 0, .int 0, .int (-1), .ref 80, .ref 81, .ref 82, .ref 83, .ref 84, .ref 85, .ref 86, .ref 87, .ref 88, .ref 89, .ref 90, .ref 91, .ref 92, .ref 93, .ref 94, .ref 95, .ref 96, .ref 97, .ref 98, .ref 99, .ref 100, .int 0, .ref 101, .ref 102, .ref 103, .ref 104, .ref 105, .ref 106, .ref 107, .ref 108, .ref 109, .int 0, .int 0, .int 0, .ref 110, .ref 111, .ref 112, .int 0, .int 0, .int 0, .int 0, .int 0, .ref 113, .ref 114, .ref 115, .ref 116, .int 0, .int (-1), .int (-1), .int 0, .ref 117, .ref 118, .int 0, .int 0, .long 1, .ref 119, .ref 120, .ref 121, .ref 122, .ref 123, .ref 124, .ref 125, .ref 126, .ref 127, .ref 128, .ref 129, .ref 130, .ref 131, .ref 132, .ref 133, .ref 134, .ref 135, .ref 136, .ref 137, .ref 138, .int 0, .ref 139, .int 0, .int 0, .int 0, .ref 140, .int 0, .long 0, .int 0, .ref 141, .int 0])))
def hc11_7 : am_H := (((((((ph.set 0 (.inr (11, [.ref 1, .ref 3, .ref 4, .ref 6, .ref 11, .ref 16, .ref 18, .ref 21, .ref 44, .ref 45, .ref 46, .ref 47, .ref 48, .ref 63, .int 1, .int 0, .int 0, .long 1]))).set 1 (.inr (8, [.ref 2, .int 0]))).set 16 (.inr (4, [.ref 17, .int 0]))).set 44 (.inl (0, 3, .inl (upd (upd (upd (fun _ => 0) 0 0) 1 0) 2 0)))).set 62 (.inl (0, 2500, .inl (upd (fun _ => 0) 0 64)))).set 78 (.inr (12, [.ref 79, .int 0, .int 0, .int 0, .int 0, .int 0, .int 0, .int 0, .int (-1), .ref 80, .ref 81, .ref 82, .ref 83, .ref 84, .ref 85, .ref 86, .ref 87, .ref 88, .ref 89, .ref 90, .ref 91, .ref 92, .ref 93, .ref 94, .ref 95, .ref 96, .ref 97, .ref 98, .ref 99, .ref 100, .int 0, .ref 101, .ref 102, .ref 103, .ref 104, .ref 105, .ref 106, .ref 107, .ref 108, .ref 109, .int 0, .int 0, .int 0, .ref 110, .ref 111, .ref 112, .int 0, .int 0, .int 0, .int 0, .int 0, .ref 113, .ref 114, .ref 115, .ref 116, .int 0, .int (-1), .int (-1), .int 0, .ref 117, .ref 118, .int 0, .int 0, .long 1, .ref 119, .ref 120, .ref 121, .ref 122, .ref 123, .ref 124, .ref 125, .ref 126, .ref 127, .ref 128, .ref 129, .ref 130, .ref 131, .ref 132, .ref 133, .ref 134, .ref 135, .ref 136, .ref 137, .ref 138, .int 0, .ref 139, .int 0, .int 0, .int 0, .ref 140, .int 0, .long 0, .int 0, .ref 141, .int 0]))).set 111 (.inl (0, 127, .inl (fun j => if j < 127 then (fun _ => 0) j else (fun _ => 0) j))))
def hc11_8 : am_H := (((((((ph.set 0 (.inr (11, [.ref 1, .ref 3, .ref 4, .ref 6, .ref 11, .ref 16, .ref 18, .ref 21, .ref 44, .ref 45, .ref 46, .ref 47, .ref 48, .ref 63, .int 1, .int 0, .int 0, .long 1]))).set 1 (.inr (8, [.ref 2, .int 0]))).set 16 (.inr (4, [.ref 17, .int 0]))).set 44 (.inl (0, 3, .inl (upd (upd (upd (fun _ => 0) 0 0) 1 0) 2 0)))).set 62 (.inl (0, 2500, .inl (upd (fun _ => 0) 0 64)))).set 78 (.inr (12, [.ref 79, .int 0, .int 0, .int 0, .int 0, .int 0, .int 0, .int 0, .int (-1), .ref 80, .ref 81, .ref 82, .ref 83, .ref 84, .ref 85, .ref 86, .ref 87, .ref 88, .ref 89, .ref 90, .ref 91, .ref 92, .ref 93, .ref 94, .ref 95, .ref 96, .ref 97, .ref 98, .ref 99, .ref 100, .int 0, .ref 101, .ref 102, .ref 103, .ref 104, .ref 105, .ref 106, .ref 107, .ref 108, .ref 109, .int 0, .int 0, .int 0, .ref 110, .ref 111, .ref 112, .int 0, .int 1, .int 0, .int 0, .int 0, .ref 113, .ref 114, .ref 115, .ref 116, .int 0, .int (-1), .int (-1), .int 0, .ref 117, .ref 118, .int 0, .int 0, .long 1, .ref 119, .ref 120, .ref 121, .ref 122, .ref 123, .ref 124, .ref 125, .ref 126, .ref 127, .ref 128, .ref 129, .ref 130, .ref 131, .ref 132, .ref 133, .ref 134, .ref 135, .ref 136, .ref 137, .ref 138, .int 0, .ref 139, .int 0, .int 0, .int 0, .ref 140, .int 0, .long 0, .int 0, .ref 141, .int 0]))).set 111 (.inl (0, 127, .inl (fun j => if j < 127 then (fun _ => 0) j else (fun _ => 0) j))))
def hc11_9 : am_H := ((((((((ph.set 0 (.inr (11, [.ref 1, .ref 3, .ref 4, .ref 6, .ref 11, .ref 16, .ref 18, .ref 21, .ref 44, .ref 45, .ref 46, .ref 47, .ref 48, .ref 63, .int 1, .int 0, .int 0, .long 1]))).set 1 (.inr (8, [.ref 2, .int 0]))).set 16 (.inr (4, [.ref 17, .int 0]))).set 44 (.inl (0, 3, .inl (upd (upd (upd (fun _ => 0) 0 0) 1 0) 2 0)))).set 62 (.inl (0, 2500, .inl (upd (fun _ => 0) 0 64)))).set 78 (.inr (12, [.ref 79, .int 0, .int 0, .int 0, .int 0, .int 0, .int 0, .int 0, .int (-1), .ref 80, .ref 81, .ref 82, .ref 83, .ref 84, .ref 85, .ref 86, .ref 87, .ref 88, .ref 89, .ref 90, .ref 91, .ref 92, .ref 93, .ref 94, .ref 95, .ref 96, .ref 97, .ref 98, .ref 99, .ref 100, .int 0, .ref 101, .ref 102, .ref 103, .ref 104, .ref 105, .ref 106, .ref 107, .ref 108, .ref 109, .int 0, .int 0, .int 0, .ref 110, .ref 111, .ref 112, .int 0, .int 1, .int 0, .int 0, .int 0, .ref 113, .ref 114, .ref 115, .ref 116, .int 0, .int (-1), .int (-1), .int 0, .ref 117, .ref 118, .int 0, .int 0, .long 1, .ref 119, .ref 120, .ref 121, .ref 122, .ref 123, .ref 124, .ref 125, .ref 126, .ref 127, .ref 128, .ref 129, .ref 130, .ref 131, .ref 132, .ref 133, .ref 134, .ref 135, .ref 136, .ref 137, .ref 138, .int 0, .ref 139, .int 0, .int 0, .int 0, .ref 140, .int 0, .long 0, .int 0, .ref 141, .int 0]))).set 110 (.inl (0, 127, .inl (fun j => if j < 127 then (fun j => if j < 127 then (fun _ => 0) j else (fun _ => 0) j) j else (fun _ => 0) j)))).set 111 (.inl (0, 127, .inl (fun j => if j < 127 then (fun _ => 0) j else (fun _ => 0) j))))
set_option maxHeartbeats 40000000 in
set_option maxRecDepth 100000 in
theorem p_c11 (xs : Nat → Int32) : am_k (am_E 6 xs) 2000 am_mL (517, [(3, .int 0), (2, .ref 78), (1, .ref 0), (0, .ref 2000001)], [], ph) (fun r _ => r = some (.int 1)) := by
  obtain ⟨a1, hx1⟩ : ∃ a, xs 1 = a := ⟨_, rfl⟩
  obtain ⟨a2, hx2⟩ : ∃ a, xs 2 = a := ⟨_, rfl⟩
  obtain ⟨a3, hx3⟩ : ∃ a, xs 3 = a := ⟨_, rfl⟩
  obtain ⟨a4, hx4⟩ : ∃ a, xs 4 = a := ⟨_, rfl⟩
  obtain ⟨a5, hx5⟩ : ∃ a, xs 5 = a := ⟨_, rfl⟩
  refine am_k_e 1 (C' := (518, [(3, .int 0), (2, .ref 78), (1, .ref 0), (0, .ref 2000001)], [.ref 0], ph)) rfl ?_
  refine am_k_call [.ref 0] [] rfl rfl rfl rfl rfl rfl (Nat.le_of_ble_eq_true rfl) (fun _ => rfl) (Nat.le_of_ble_eq_true rfl) ?_
  refine am_k_e 3 (C' := (5, [(0, .ref 0)], [.ref 0, .ref 16], ph)) rfl ?_
  refine am_k_e 3 (C' := (12, [(0, .ref 0)], [.ref 48, .ref 1, .ref 16], ph)) rfl ?_
  refine am_k_call [.ref 16, .ref 1, .ref 48] [] rfl rfl rfl rfl rfl rfl (Nat.le_of_ble_eq_true rfl) (fun _ => rfl) (Nat.le_of_ble_eq_true rfl) ?_
  refine am_k_e 3 (C' := (5, [(0, .ref 16), (1, .ref 1), (2, .ref 48)], [], (ph.set 16 (.inr (4, [.ref 17, .int 0]))))) rfl ?_
  refine am_k_e 1 (C' := (6, [(0, .ref 16), (1, .ref 1), (2, .ref 48)], [.ref 1], (ph.set 16 (.inr (4, [.ref 17, .int 0]))))) rfl ?_
  refine am_k_call [.ref 1] [] rfl rfl rfl rfl rfl rfl (Nat.le_of_ble_eq_true rfl) (fun _ => rfl) (Nat.le_of_ble_eq_true rfl) ?_
  refine am_k_e 2 (C' := (4, [(0, .ref 1)], [.int 0], (ph.set 16 (.inr (4, [.ref 17, .int 0]))))) rfl ?_
  refine am_k_ret (r := some (.int 0)) rfl rfl ?_
  refine am_k_e 3 (C' := (15, [(0, .ref 16), (1, .ref 1), (2, .ref 48)], [.int 1], (ph.set 16 (.inr (4, [.ref 17, .int 0]))))) rfl ?_
  refine am_k_e 3 (C' := (21, [(3, .int 1), (0, .ref 16), (1, .ref 1), (2, .ref 48)], [.int 0], (ph.set 16 (.inr (4, [.ref 17, .int 0]))))) rfl ?_
  refine am_k_e 3 (C' := (26, [(4, .int 0), (3, .int 1), (0, .ref 16), (1, .ref 1), (2, .ref 48)], [.ref 1, .int 0], (ph.set 16 (.inr (4, [.ref 17, .int 0]))))) rfl ?_
  refine am_k_call [.ref 1] [.int 0] rfl rfl rfl rfl rfl rfl (Nat.le_of_ble_eq_true rfl) (fun _ => rfl) (Nat.le_of_ble_eq_true rfl) ?_
  refine am_k_e 2 (C' := (4, [(0, .ref 1)], [.int 0], (ph.set 16 (.inr (4, [.ref 17, .int 0]))))) rfl ?_
  refine am_k_ret (r := some (.int 0)) rfl rfl ?_
  refine am_k_e 3 (C' := (96, [(4, .int 0), (3, .int 1), (0, .ref 16), (1, .ref 1), (2, .ref 48)], [.int 0, .ref 1], (ph.set 16 (.inr (4, [.ref 17, .int 0]))))) rfl ?_
  refine am_k_call [.ref 1, .int 0] [] rfl rfl rfl rfl rfl rfl (Nat.le_of_ble_eq_true rfl) (fun _ => rfl) (Nat.le_of_ble_eq_true rfl) ?_
  refine am_k_e 3 (C' := (3, [(0, .ref 1), (1, .int 0)], [.int 0, .int 0, .ref 1], (ph.set 16 (.inr (4, [.ref 17, .int 0]))))) rfl ?_
  refine am_k_e 2 (C' := (7, [(0, .ref 1), (1, .int 0)], [.int 0, .int 0, .int 0, .ref 1], (ph.set 16 (.inr (4, [.ref 17, .int 0]))))) rfl ?_
  refine am_k_call [.int 0, .int 0] [.int 0, .ref 1] rfl rfl rfl rfl rfl rfl (Nat.le_of_ble_eq_true rfl) (fun z => by cases z) (Nat.le_of_ble_eq_true rfl) ?_
  refine am_k_e 3 (C' := (5, [(0, .int 0), (1, .int 0)], [], (ph.set 16 (.inr (4, [.ref 17, .int 0]))))) rfl ?_
  refine am_k_e 2 (C' := (10, [(0, .int 0), (1, .int 0)], [.int 0], (ph.set 16 (.inr (4, [.ref 17, .int 0]))))) rfl ?_
  refine am_k_ret (r := some (.int 0)) rfl rfl ?_
  refine am_k_call [.int 0, .int 0] [.ref 1] rfl rfl rfl rfl rfl rfl (Nat.le_of_ble_eq_true rfl) (fun z => by cases z) (Nat.le_of_ble_eq_true rfl) ?_
  refine am_k_e 3 (C' := (5, [(0, .int 0), (1, .int 0)], [], (ph.set 16 (.inr (4, [.ref 17, .int 0]))))) rfl ?_
  refine am_k_e 2 (C' := (10, [(0, .int 0), (1, .int 0)], [.int 0], (ph.set 16 (.inr (4, [.ref 17, .int 0]))))) rfl ?_
  refine am_k_ret (r := some (.int 0)) rfl rfl ?_
  refine am_k_e 1 (C' := (16, [(0, .ref 1), (1, .int 0)], [], hc11_0)) rfl ?_
  refine am_k_ret (r := none) rfl rfl ?_
  refine am_k_e 1 (C' := (100, [(4, .int 0), (3, .int 1), (0, .ref 16), (1, .ref 1), (2, .ref 48)], [.int 1], hc11_0)) rfl ?_
  refine am_k_ret (r := some (.int 1)) rfl rfl ?_
  refine am_k_e 3 (C' := (28, [(0, .ref 0)], [.ref 21], hc11_0)) rfl ?_
  refine am_k_call [.ref 21] [] rfl rfl rfl rfl rfl rfl (Nat.le_of_ble_eq_true rfl) (fun _ => rfl) (Nat.le_of_ble_eq_true rfl) ?_
  refine am_k_e 3 (C' := (5, [(0, .ref 21)], [.int 0, .ref 22], hc11_0)) rfl ?_
  refine am_k_call [.ref 22, .int 0] [] rfl rfl rfl rfl rfl rfl (Nat.le_of_ble_eq_true rfl) (fun z => by cases z) (Nat.le_of_ble_eq_true rfl) ?_
  refine am_k_e 3 (C' := (5, [(0, .ref 22), (1, .int 0)], [.int 0], hc11_0)) rfl ?_
  refine am_k_e 3 (C' := (10, [(0, .ref 22), (1, .int 0)], [], hc11_0)) rfl ?_
  refine am_k_e 3 (C' := (13, [(0, .ref 22), (1, .int 0)], [.int 0], hc11_0)) rfl ?_
  refine am_k_e 1 (C' := (17, [(0, .ref 22), (1, .int 0)], [.int 0], hc11_0)) rfl ?_
  refine am_k_ret (r := some (.int 0)) rfl rfl ?_
  refine am_k_ret (r := some (.int 0)) rfl rfl ?_
  refine am_k_e 3 (C' := (34, [(2, .int 0), (1, .int 0), (0, .ref 0)], [], hc11_0)) rfl ?_
  refine am_k_e 3 (C' := (37, [(3, .int 0), (2, .int 0), (1, .int 0), (0, .ref 0)], [.int 0], hc11_0)) rfl ?_
  refine am_k_e 2 (C' := (41, [(3, .int 0), (2, .int 0), (1, .int 0), (0, .ref 0)], [.ref 16, .int 0], hc11_0)) rfl ?_
  refine am_k_call [.ref 16] [.int 0] rfl rfl rfl rfl rfl rfl (Nat.le_of_ble_eq_true rfl) (fun _ => rfl) (Nat.le_of_ble_eq_true rfl) ?_
  refine am_k_e 2 (C' := (4, [(0, .ref 16)], [.int 0], hc11_0)) rfl ?_
  refine am_k_ret (r := some (.int 0)) rfl rfl ?_
  refine am_k_e 3 (C' := (123, [(3, .int 0), (2, .int 0), (1, .int 0), (0, .ref 0)], [.ref 44], hc11_0)) rfl ?_
  refine am_k_e 3 (C' := (128, [(3, .int 0), (2, .int 0), (1, .int 0), (0, .ref 0)], [.ref 48, .int 0, .ref 44], hc11_0)) rfl ?_
  refine am_k_e 1 (C' := (129, [(3, .int 0), (2, .int 0), (1, .int 0), (0, .ref 0)], [.int 0, .ref 48, .int 0, .ref 44], hc11_0)) rfl ?_
  refine am_k_call [.ref 48, .int 0] [.int 0, .ref 44] rfl rfl rfl rfl rfl rfl (Nat.le_of_ble_eq_true rfl) (fun _ => rfl) (Nat.le_of_ble_eq_true rfl) ?_
  refine am_k_e 3 (C' := (4, [(0, .ref 48), (1, .int 0)], [.int 3, .int 0, .int 8], hc11_0)) rfl ?_
  refine am_k_e 3 (C' := (7, [(2, .int 0), (0, .ref 48), (1, .int 0)], [], hc11_0)) rfl ?_
  refine am_k_e 3 (C' := (12, [(2, .int 0), (0, .ref 48), (1, .int 0)], [.int 0, .ref 62], hc11_0)) rfl ?_
  refine am_k_e 2 (C' := (14, [(2, .int 0), (0, .ref 48), (1, .int 0)], [.int 0, .ref 62], hc11_0)) rfl ?_
  refine am_k_call [.ref 62, .int 0] [] rfl rfl rfl rfl rfl rfl (Nat.le_of_ble_eq_true rfl) (fun z => by cases z) (Nat.le_of_ble_eq_true rfl) ?_
  refine am_k_e 3 (C' := (5, [(0, .ref 62), (1, .int 0)], [.int 0], hc11_0)) rfl ?_
  refine am_k_e 3 (C' := (10, [(0, .ref 62), (1, .int 0)], [], hc11_0)) rfl ?_
  refine am_k_e 3 (C' := (13, [(0, .ref 62), (1, .int 0)], [.int 0], hc11_0)) rfl ?_
  refine am_k_e 1 (C' := (17, [(0, .ref 62), (1, .int 0)], [.int 0], hc11_0)) rfl ?_
  refine am_k_ret (r := some (.int 0)) rfl rfl ?_
  refine am_k_e 3 (C' := (22, [(2, .int 0), (0, .ref 48), (1, .int 0)], [.int 255, .int 0], hc11_0)) rfl ?_
  refine am_k_e 3 (C' := (25, [(3, .int 0), (2, .int 0), (0, .ref 48), (1, .int 0)], [.int 0], hc11_0)) rfl ?_
  refine am_k_e 3 (C' := (31, [(3, .int 64), (2, .int 0), (0, .ref 48), (1, .int 0)], [], hc11_0)) rfl ?_
  refine am_k_e 3 (C' := (36, [(4, .int 0), (3, .int 64), (2, .int 0), (0, .ref 48), (1, .int 0)], [.int 0], hc11_0)) rfl ?_
  refine am_k_e 2 (C' := (38, [(4, .int 0), (3, .int 64), (2, .int 0), (0, .ref 48), (1, .int 0)], [.int 2, .ref 48, .int 0], hc11_0)) rfl ?_
  refine am_k_call [.ref 48, .int 2] [.int 0] rfl rfl rfl rfl rfl rfl (Nat.le_of_ble_eq_true rfl) (fun _ => rfl) (Nat.le_of_ble_eq_true rfl) ?_
  refine am_k_e 3 (C' := (5, [(0, .ref 48), (1, .int 2)], [.int 2, .ref 52], hc11_0)) rfl ?_
  refine am_k_call [.ref 52, .int 2] [] rfl rfl rfl rfl rfl rfl (Nat.le_of_ble_eq_true rfl) (fun z => by cases z) (Nat.le_of_ble_eq_true rfl) ?_
  refine am_k_e 3 (C' := (5, [(0, .ref 52), (1, .int 2)], [.int 2], hc11_0)) rfl ?_
  refine am_k_e 3 (C' := (10, [(0, .ref 52), (1, .int 2)], [], hc11_0)) rfl ?_
  refine am_k_e 3 (C' := (13, [(0, .ref 52), (1, .int 2)], [.int 0], hc11_0)) rfl ?_
  refine am_k_e 1 (C' := (17, [(0, .ref 52), (1, .int 2)], [.int 0], hc11_0)) rfl ?_
  refine am_k_ret (r := some (.int 0)) rfl rfl ?_
  refine am_k_ret (r := some (.int 0)) rfl rfl ?_
  refine am_k_e 3 (C' := (92, [(4, .int 0), (3, .int 64), (2, .int 0), (0, .ref 48), (1, .int 0)], [.ref 62], hc11_0)) rfl ?_
  refine am_k_e 3 (C' := (95, [(4, .int 0), (3, .int 64), (2, .int 0), (0, .ref 48), (1, .int 0)], [.int 0, .ref 62], hc11_0)) rfl ?_
  refine am_k_e 3 (C' := (100, [(4, .int 0), (3, .int 64), (2, .int 0), (0, .ref 48), (1, .int 0)], [.int 0, .ref 62, .int 0, .ref 62], hc11_0)) rfl ?_
  refine am_k_e 2 (C' := (102, [(4, .int 0), (3, .int 64), (2, .int 0), (0, .ref 48), (1, .int 0)], [.int 0, .ref 62, .int 0, .ref 62], hc11_0)) rfl ?_
  refine am_k_call [.ref 62, .int 0] [.int 0, .ref 62] rfl rfl rfl rfl rfl rfl (Nat.le_of_ble_eq_true rfl) (fun z => by cases z) (Nat.le_of_ble_eq_true rfl) ?_
  refine am_k_e 3 (C' := (5, [(0, .ref 62), (1, .int 0)], [.int 0], hc11_0)) rfl ?_
  refine am_k_e 3 (C' := (10, [(0, .ref 62), (1, .int 0)], [], hc11_0)) rfl ?_
  refine am_k_e 3 (C' := (13, [(0, .ref 62), (1, .int 0)], [.int 0], hc11_0)) rfl ?_
  refine am_k_e 1 (C' := (17, [(0, .ref 62), (1, .int 0)], [.int 0], hc11_0)) rfl ?_
  refine am_k_ret (r := some (.int 0)) rfl rfl ?_
  refine am_k_e 3 (C' := (108, [(4, .int 0), (3, .int 64), (2, .int 0), (0, .ref 48), (1, .int 0)], [.int 64, .int 0, .int 0, .ref 62], hc11_0)) rfl ?_
  refine am_k_e 1 (C' := (109, [(4, .int 0), (3, .int 64), (2, .int 0), (0, .ref 48), (1, .int 0)], [.int 64, .int 0, .ref 62], hc11_0)) rfl ?_
  refine am_k_call [.ref 62, .int 0, .int 64] [] rfl rfl rfl rfl rfl rfl (Nat.le_of_ble_eq_true rfl) (fun z => by cases z) (Nat.le_of_ble_eq_true rfl) ?_
  refine am_k_e 3 (C' := (5, [(0, .ref 62), (1, .int 0), (2, .int 64)], [.int 0], hc11_0)) rfl ?_
  refine am_k_e 3 (C' := (10, [(0, .ref 62), (1, .int 0), (2, .int 64)], [], hc11_0)) rfl ?_
  refine am_k_e 3 (C' := (13, [(0, .ref 62), (1, .int 0), (2, .int 64)], [.int 64, .int 0, .ref 62], hc11_0)) rfl ?_
  refine am_k_e 1 (C' := (14, [(0, .ref 62), (1, .int 0), (2, .int 64)], [], hc11_1)) rfl ?_
  refine am_k_ret (r := none) rfl rfl ?_
  refine am_k_e 3 (C' := (116, [(4, .int 0), (3, .int 64), (2, .int 0), (0, .ref 48), (1, .int 0)], [.int 0], hc11_1)) rfl ?_
  refine am_k_ret (r := some (.int 0)) rfl rfl ?_
  refine am_k_call [.ref 44, .int 0, .int 0] [] rfl rfl rfl rfl rfl rfl (Nat.le_of_ble_eq_true rfl) (fun z => by cases z) (Nat.le_of_ble_eq_true rfl) ?_
  refine am_k_e 3 (C' := (5, [(0, .ref 44), (1, .int 0), (2, .int 0)], [.int 0], hc11_1)) rfl ?_
  refine am_k_e 3 (C' := (10, [(0, .ref 44), (1, .int 0), (2, .int 0)], [], hc11_1)) rfl ?_
  refine am_k_e 3 (C' := (13, [(0, .ref 44), (1, .int 0), (2, .int 0)], [.int 0, .int 0, .ref 44], hc11_1)) rfl ?_
  refine am_k_e 1 (C' := (14, [(0, .ref 44), (1, .int 0), (2, .int 0)], [], hc11_2)) rfl ?_
  refine am_k_ret (r := none) rfl rfl ?_
  refine am_k_e 3 (C' := (140, [(3, .int 0), (2, .int 0), (1, .int 0), (0, .ref 0)], [.int 1, .ref 44], hc11_2)) rfl ?_
  refine am_k_e 3 (C' := (145, [(3, .int 0), (2, .int 0), (1, .int 0), (0, .ref 0)], [.int 0, .ref 48, .int 1, .ref 44], hc11_2)) rfl ?_
  refine am_k_call [.ref 48, .int 0] [.int 1, .ref 44] rfl rfl rfl rfl rfl rfl (Nat.le_of_ble_eq_true rfl) (fun _ => rfl) (Nat.le_of_ble_eq_true rfl) ?_
  refine am_k_e 3 (C' := (7, [(0, .ref 48), (1, .int 0)], [], hc11_2)) rfl ?_
  refine am_k_e 3 (C' := (12, [(0, .ref 48), (1, .int 0)], [.int 1, .int 0], hc11_2)) rfl ?_
  refine am_k_e 2 (C' := (17, [(0, .ref 48), (1, .int 0)], [.int 0], hc11_2)) rfl ?_
  refine am_k_ret (r := some (.int 0)) rfl rfl ?_
  refine am_k_call [.ref 44, .int 1, .int 0] [] rfl rfl rfl rfl rfl rfl (Nat.le_of_ble_eq_true rfl) (fun z => by cases z) (Nat.le_of_ble_eq_true rfl) ?_
  refine am_k_e 3 (C' := (5, [(0, .ref 44), (1, .int 1), (2, .int 0)], [.int 1], hc11_2)) rfl ?_
  refine am_k_e 3 (C' := (10, [(0, .ref 44), (1, .int 1), (2, .int 0)], [], hc11_2)) rfl ?_
  refine am_k_e 3 (C' := (13, [(0, .ref 44), (1, .int 1), (2, .int 0)], [.int 0, .int 1, .ref 44], hc11_2)) rfl ?_
  refine am_k_e 1 (C' := (14, [(0, .ref 44), (1, .int 1), (2, .int 0)], [], hc11_3)) rfl ?_
  refine am_k_ret (r := none) rfl rfl ?_
  refine am_k_e 3 (C' := (156, [(3, .int 0), (2, .int 0), (1, .int 0), (0, .ref 0)], [.int 2, .ref 44], hc11_3)) rfl ?_
  refine am_k_e 1 (C' := (157, [(3, .int 0), (2, .int 0), (1, .int 0), (0, .ref 0)], [.int 0, .int 2, .ref 44], hc11_3)) rfl ?_
  refine am_k_call [.ref 44, .int 2, .int 0] [] rfl rfl rfl rfl rfl rfl (Nat.le_of_ble_eq_true rfl) (fun z => by cases z) (Nat.le_of_ble_eq_true rfl) ?_
  refine am_k_e 3 (C' := (5, [(0, .ref 44), (1, .int 2), (2, .int 0)], [.int 2], hc11_3)) rfl ?_
  refine am_k_e 3 (C' := (10, [(0, .ref 44), (1, .int 2), (2, .int 0)], [], hc11_3)) rfl ?_
  refine am_k_e 3 (C' := (13, [(0, .ref 44), (1, .int 2), (2, .int 0)], [.int 0, .int 2, .ref 44], hc11_3)) rfl ?_
  refine am_k_e 1 (C' := (14, [(0, .ref 44), (1, .int 2), (2, .int 0)], [], hc11_4)) rfl ?_
  refine am_k_ret (r := none) rfl rfl ?_
  refine am_k_e 3 (C' := (165, [(3, .int 0), (2, .int 0), (1, .int 0), (0, .ref 0)], [], hc11_5)) rfl ?_
  refine am_k_e 1 (C' := (166, [(3, .int 0), (2, .int 0), (1, .int 0), (0, .ref 0)], [.int 0], hc11_5)) rfl ?_
  refine am_k_ret (r := some (.int 0)) rfl rfl ?_
  refine am_k_e 1 (C' := (522, [(3, .int 0), (2, .ref 78), (1, .ref 0), (0, .ref 2000001)], [.ref 78, .int 0], hc11_5)) rfl ?_
  refine am_k_call [.ref 78] [.int 0] rfl rfl rfl rfl rfl rfl (Nat.le_of_ble_eq_true rfl) (fun _ => rfl) (Nat.le_of_ble_eq_true rfl) ?_
  refine am_k_e 2 (C' := (2, [(0, .ref 78)], [.int 0, .ref 78], hc11_5)) rfl ?_
  refine am_k_call [.ref 78, .int 0] [] rfl rfl rfl rfl rfl rfl (Nat.le_of_ble_eq_true rfl) (fun _ => rfl) (Nat.le_of_ble_eq_true rfl) ?_
  refine am_k_e 3 (C' := (5, [(2, .int 0), (0, .ref 78), (1, .int 0)], [], hc11_5)) rfl ?_
  refine am_k_e 3 (C' := (10, [(2, .int 0), (0, .ref 78), (1, .int 0)], [], hc11_6)) rfl ?_
  refine am_k_e 3 (C' := (13, [(2, .int 0), (0, .ref 78), (1, .int 0)], [.int 0, .long 0], hc11_6)) rfl ?_
  refine am_k_e 2 (C' := (17, [(2, .int 0), (0, .ref 78), (1, .int 0)], [.long 20, .long 0, .long 0], hc11_6)) rfl ?_
  refine am_k_call [.long 0, .long 0, .long 20] [] rfl rfl rfl rfl rfl rfl (Nat.le_of_ble_eq_true rfl) (fun z => by cases z) (Nat.le_of_ble_eq_true rfl) ?_
  refine am_k_e 3 (C' := (3, [(0, .long 0), (2, .long 0), (4, .long 20)], [.int 0], hc11_6)) rfl ?_
  refine am_k_e 3 (C' := (9, [(0, .long 0), (2, .long 0), (4, .long 20)], [.long 20, .long 0], hc11_6)) rfl ?_
  refine am_k_e 3 (C' := (14, [(0, .long 0), (2, .long 0), (4, .long 20)], [.int 1], hc11_6)) rfl ?_
  refine am_k_e 1 (C' := (18, [(0, .long 0), (2, .long 0), (4, .long 20)], [.int 1], hc11_6)) rfl ?_
  refine am_k_ret (r := some (.int 1)) rfl rfl ?_
  refine am_k_e 3 (C' := (27, [(3, .int 0), (2, .int 0), (0, .ref 78), (1, .int 0)], [], hc11_6)) rfl ?_
  refine am_k_e 3 (C' := (64, [(3, .int 0), (2, .int 0), (0, .ref 78), (1, .int 0)], [], hc11_6)) rfl ?_
  refine am_k_e 3 (C' := (67, [(3, .int 0), (2, .int 0), (0, .ref 78), (1, .int 0)], [.int 0], hc11_6)) rfl ?_
  refine am_k_e 3 (C' := (90, [(3, .int 0), (2, .int 0), (0, .ref 78), (1, .int 0)], [.ref 78], hc11_6)) rfl ?_
  refine am_k_e 3 (C' := (95, [(3, .int 0), (2, .int 0), (0, .ref 78), (1, .int 0)], [.int 1], hc11_6)) rfl ?_
  refine am_k_ret (r := some (.int 1)) rfl rfl ?_
  refine am_k_e 2 (C' := (15, [(0, .ref 78)], [.ref 78], hc11_6)) rfl ?_
  refine am_k_call [.ref 78] [] rfl rfl rfl rfl rfl rfl (Nat.le_of_ble_eq_true rfl) (fun _ => rfl) (Nat.le_of_ble_eq_true rfl) ?_
  refine k_puts (o := 78) (a := 110) (b := 111) (f := fun _ => 0) (g := fun _ => 0) (by decide) (by decide) (by decide) (by decide) (by decide) rfl rfl rfl rfl rfl ?_
  refine am_k_e 3 (C' := (23, [(0, .ref 78)], [], hc11_7)) rfl ?_
  refine am_k_e 3 (C' := (26, [(1, .int 0), (0, .ref 78)], [.int 0], hc11_7)) rfl ?_
  refine am_k_e 3 (C' := (87, [(1, .int 0), (0, .ref 78)], [], hc11_7)) rfl ?_
  refine am_k_e 2 (C' := (89, [(1, .int 0), (0, .ref 78)], [.ref 78, .ref 78], hc11_7)) rfl ?_
  refine am_k_call [.ref 78] [.ref 78] rfl rfl rfl rfl rfl rfl (Nat.le_of_ble_eq_true rfl) (fun _ => rfl) (Nat.le_of_ble_eq_true rfl) ?_
  refine am_k_e 3 (C' := (3, [(1, .int 0), (0, .ref 78)], [.int 0], hc11_7)) rfl ?_
  refine am_k_e 3 (C' := (6, [(2, .int 0), (1, .int 0), (0, .ref 78)], [.ref 78, .int 0], hc11_7)) rfl ?_
  refine am_k_call [.ref 78] [.int 0] rfl rfl rfl rfl rfl rfl (Nat.le_of_ble_eq_true rfl) (fun _ => rfl) (Nat.le_of_ble_eq_true rfl) ?_
  refine am_k_e 3 (C' := (6, [(0, .ref 78)], [.int 6, .ref 101], hc11_7)) rfl ?_
  refine am_k_e 1 (C' := (7, [(0, .ref 78)], [.int 0], hc11_7)) rfl ?_
  refine am_k_ret (r := some (.int 0)) rfl rfl ?_
  refine am_k_e 2 (C' := (33, [(2, .int 0), (1, .int 0), (0, .ref 78)], [.int 0], hc11_7)) rfl ?_
  refine am_k_ret (r := some (.int 0)) rfl rfl ?_
  refine am_k_e 3 (C' := (97, [(1, .int 0), (0, .ref 78)], [.ref 78, .ref 78], hc11_7)) rfl ?_
  refine am_k_call [.ref 78] [.ref 78] rfl rfl rfl rfl rfl rfl (Nat.le_of_ble_eq_true rfl) (fun _ => rfl) (Nat.le_of_ble_eq_true rfl) ?_
  refine am_k_e 3 (C' := (5, [(0, .ref 78)], [.int 5, .ref 110], hc11_7)) rfl ?_
  refine am_k_e 1 (C' := (6, [(0, .ref 78)], [.int 0], hc11_7)) rfl ?_
  refine am_k_ret (r := some (.int 0)) rfl rfl ?_
  refine am_k_e 3 (C' := (105, [(1, .int 0), (0, .ref 78)], [.int 1, .ref 78], hc11_7)) rfl ?_
  refine am_k_e 2 (C' := (109, [(1, .int 0), (0, .ref 78)], [.ref 78], hc11_8)) rfl ?_
  refine am_k_call [.ref 78] [] rfl rfl rfl rfl rfl rfl (Nat.le_of_ble_eq_true rfl) (fun _ => rfl) (Nat.le_of_ble_eq_true rfl) ?_
  refine k_takes (o := 78) (a := 111) (b := 110) (f := fun j => if j < 127 then (fun _ => 0) j else (fun _ => 0) j) (g := fun _ => 0) (by decide) (by decide) (by decide) (by decide) (by decide) rfl rfl rfl rfl rfl ?_
  refine am_k_e 1 (C' := (113, [(1, .int 0), (0, .ref 78)], [.int 0], hc11_9)) rfl ?_
  refine am_k_ret (r := some (.int 0)) rfl rfl ?_
  refine am_k_e 3 (C' := (18, [(3, .int 6), (2, .ref 78), (1, .ref 0), (0, .ref 2000001)], [], hc11_9)) rfl ?_
  refine am_k_e 3 (C' := (21, [(3, .int 6), (2, .ref 78), (1, .ref 0), (0, .ref 2000001)], [.int 6, .int 6], hc11_9)) rfl ?_
  refine am_k_e 3 (C' := (973, [(3, .int 6), (2, .ref 78), (1, .ref 0), (0, .ref 2000001)], [], hc11_9)) rfl ?_
  refine am_k_e 1 (C' := (974, [(3, .int 6), (2, .ref 78), (1, .ref 0), (0, .ref 2000001)], [.int 1], hc11_9)) rfl ?_
  exact am_k_ret (r := some (.int 1)) rfl rfl rfl
