def hc15_0 : am_H := (ph.set 11 (.inr (6, [.ref 12, .ref 13, .ref 14, .ref 15, .int 0, .int 0, .int 0])))
def hc15_1 : am_H := ((ph.set 11 (.inr (6, [.ref 12, .ref 13, .ref 14, .ref 15, .int 0, .int 0, .int 0]))).set 12 (.inl (0, 313, .inl (fun j => if j < 313 then 0 else (fun _ => 0) j))))
def hc15_2 : am_H := ((ph.set 11 (.inr (6, [.ref 12, .ref 13, .ref 14, .ref 15, .int 0, .int 0, .int 0]))).set 12 (.inl (0, 313, .inl (upd (fun j => if j < 313 then 0 else (fun _ => 0) j) 0 1))))
def hc15_3 : am_H := (((ph.set 11 (.inr (6, [.ref 12, .ref 13, .ref 14, .ref 15, .int 0, .int 0, .int 0]))).set 12 (.inl (0, 313, .inl (upd (fun j => if j < 313 then 0 else (fun _ => 0) j) 0 1)))).set 13 (.inl (0, 1296, .inl (upd (fun _ => 0) 0 0))))
def hc15_4 : am_H := ((((ph.set 11 (.inr (6, [.ref 12, .ref 13, .ref 14, .ref 15, .int 0, .int 0, .int 0]))).set 12 (.inl (0, 313, .inl (upd (fun j => if j < 313 then 0 else (fun _ => 0) j) 0 1)))).set 13 (.inl (0, 1296, .inl (upd (fun _ => 0) 0 0)))).set 14 (.inl (0, 1296, .inl (upd (fun _ => 0) 0 (-1)))))
def hc15_5 : am_H := (((((ph.set 11 (.inr (6, [.ref 12, .ref 13, .ref 14, .ref 15, .int 0, .int 0, .int 0]))).set 12 (.inl (0, 313, .inl (upd (fun j => if j < 313 then 0 else (fun _ => 0) j) 0 1)))).set 13 (.inl (0, 1296, .inl (upd (fun _ => 0) 0 0)))).set 14 (.inl (0, 1296, .inl (upd (fun _ => 0) 0 (-1))))).set 15 (.inl (0, 1296, .inl (upd (fun _ => 0) 0 (-1)))))
def hc15_6 : am_H := (((((ph.set 11 (.inr (6, [.ref 12, .ref 13, .ref 14, .ref 15, .int 1, .int 0, .int 0]))).set 12 (.inl (0, 313, .inl (upd (fun j => if j < 313 then 0 else (fun _ => 0) j) 0 1)))).set 13 (.inl (0, 1296, .inl (upd (fun _ => 0) 0 0)))).set 14 (.inl (0, 1296, .inl (upd (fun _ => 0) 0 (-1))))).set 15 (.inl (0, 1296, .inl (upd (fun _ => 0) 0 (-1)))))
def hc15_7 : am_H := ((((((ph.set 11 (.inr (6, [.ref 12, .ref 13, .ref 14, .ref 15, .int 1, .int 0, .int 0]))).set 12 (.inl (0, 313, .inl (upd (fun j => if j < 313 then 0 else (fun _ => 0) j) 0 1)))).set 13 (.inl (0, 1296, .inl (upd (fun _ => 0) 0 0)))).set 14 (.inl (0, 1296, .inl (upd (fun _ => 0) 0 (-1))))).set 15 (.inl (0, 1296, .inl (upd (fun _ => 0) 0 (-1))))).set 113 (.inl (0, 10000, .inl (fun j => if j < 10000 then -1 else (fun _ => 0) j))))
def hc15_8 : am_H := ((((((((ph.set 11 (.inr (6, [.ref 12, .ref 13, .ref 14, .ref 15, .int 1, .int 0, .int 0]))).set 12 (.inl (0, 313, .inl (upd (fun j => if j < 313 then 0 else (fun _ => 0) j) 0 1)))).set 13 (.inl (0, 1296, .inl (upd (fun _ => 0) 0 0)))).set 14 (.inl (0, 1296, .inl (upd (fun _ => 0) 0 (-1))))).set 15 (.inl (0, 1296, .inl (upd (fun _ => 0) 0 (-1))))).set 78 (.inr (12, [.ref 79, .int 0, .int 0, .int 0, .int 0, .int 0, .int 0, .int 0, .int (-1), .ref 80, .ref 81, .ref 82, .ref 83, .ref 84, .ref 85, .ref 86, .ref 87, .ref 88, .ref 89, .ref 90, .ref 91, .ref 92, .ref 93, .ref 94, .ref 95, .ref 96, .ref 97, .ref 98, .ref 99, .ref 100, .int 0, .ref 101, .ref 102, .ref 103, .ref 104, .ref 105, .ref 106, .ref 107, .ref 108, .ref 109, .int 0, .int 0, .int 0, .ref 110, .ref 111, .ref 112, .int 0, .int 0, .int 0, .int 0, .int 0, .ref 113, .ref 114, .ref 115, .ref 116, .int 1, .int (-1), .int (-1), .int 0, .ref 117, .ref 118, .int 0, .int 0, .long 1, .ref 119, .ref 120, .ref 121, .ref 122, .ref 123, .ref 124, .ref 125, .ref 126, .ref 127, .ref 128, .ref 129, .ref 130, .ref 131, .ref 132, .ref 133, .ref 134, .ref 135, .ref 136, .ref 137, .ref 138, .int 0, .ref 139, .int 0, .int 0, .int 0, .ref 140, .int 0, .long 0, .int 0, .ref 141, .int 0]))).set 113 (.inl (0, 10000, .inl (upd (fun j => if j < 10000 then -1 else (fun _ => 0) j) 0 0)))).set 116 (.inl (0, 10000, .inl (upd (fun _ => 0) 0 0))))
def hc15_9 : am_H := (((((((((ph.set 11 (.inr (6, [.ref 12, .ref 13, .ref 14, .ref 15, .int 1, .int 0, .int 0]))).set 12 (.inl (0, 313, .inl (upd (fun j => if j < 313 then 0 else (fun _ => 0) j) 0 1)))).set 13 (.inl (0, 1296, .inl (upd (fun _ => 0) 0 0)))).set 14 (.inl (0, 1296, .inl (upd (fun _ => 0) 0 (-1))))).set 15 (.inl (0, 1296, .inl (upd (fun _ => 0) 0 (-1))))).set 78 (.inr (12, [.ref 79, .int 0, .int 0, .int 0, .int 0, .int 0, .int 0, .int 0, .int (-1), .ref 80, .ref 81, .ref 82, .ref 83, .ref 84, .ref 85, .ref 86, .ref 87, .ref 88, .ref 89, .ref 90, .ref 91, .ref 92, .ref 93, .ref 94, .ref 95, .ref 96, .ref 97, .ref 98, .ref 99, .ref 100, .int 0, .ref 101, .ref 102, .ref 103, .ref 104, .ref 105, .ref 106, .ref 107, .ref 108, .ref 109, .int 0, .int 0, .int 0, .ref 110, .ref 111, .ref 112, .int 0, .int 0, .int 0, .int 0, .int 0, .ref 113, .ref 114, .ref 115, .ref 116, .int 1, .int (-1), .int (-1), .int 0, .ref 117, .ref 118, .int 0, .int 0, .long 1, .ref 119, .ref 120, .ref 121, .ref 122, .ref 123, .ref 124, .ref 125, .ref 126, .ref 127, .ref 128, .ref 129, .ref 130, .ref 131, .ref 132, .ref 133, .ref 134, .ref 135, .ref 136, .ref 137, .ref 138, .int 0, .ref 139, .int 0, .int 0, .int 0, .ref 140, .int 0, .long 0, .int 0, .ref 141, .int 0]))).set 110 (.inl (0, 127, .inl (upd (fun _ => 0) 5 0)))).set 113 (.inl (0, 10000, .inl (upd (fun j => if j < 10000 then -1 else (fun _ => 0) j) 0 0)))).set 116 (.inl (0, 10000, .inl (upd (fun _ => 0) 0 0))))
def hc15_10 : am_H := (((((((((ph.set 11 (.inr (6, [.ref 12, .ref 13, .ref 14, .ref 15, .int 1, .int 0, .int 0]))).set 12 (.inl (0, 313, .inl (upd (fun j => if j < 313 then 0 else (fun _ => 0) j) 0 1)))).set 13 (.inl (0, 1296, .inl (upd (fun _ => 0) 0 0)))).set 14 (.inl (0, 1296, .inl (upd (fun _ => 0) 0 (-1))))).set 15 (.inl (0, 1296, .inl (upd (fun _ => 0) 0 (-1))))).set 78 (.inr (12, [.ref 79, .int 0, .int 0, .int 0, .int 0, .int 0, .int 0, .int 0, .int (-1), .ref 80, .ref 81, .ref 82, .ref 83, .ref 84, .ref 85, .ref 86, .ref 87, .ref 88, .ref 89, .ref 90, .ref 91, .ref 92, .ref 93, .ref 94, .ref 95, .ref 96, .ref 97, .ref 98, .ref 99, .ref 100, .int 0, .ref 101, .ref 102, .ref 103, .ref 104, .ref 105, .ref 106, .ref 107, .ref 108, .ref 109, .int 0, .int 0, .int 0, .ref 110, .ref 111, .ref 112, .int 0, .int 0, .int 0, .int 0, .int 0, .ref 113, .ref 114, .ref 115, .ref 116, .int 1, .int (-1), .int (-1), .int 0, .ref 117, .ref 118, .int 0, .int 0, .long 1, .ref 119, .ref 120, .ref 121, .ref 122, .ref 123, .ref 124, .ref 125, .ref 126, .ref 127, .ref 128, .ref 129, .ref 130, .ref 131, .ref 132, .ref 133, .ref 134, .ref 135, .ref 136, .ref 137, .ref 138, .int 0, .ref 139, .int 0, .int 0, .int 0, .ref 140, .int 0, .long 0, .int 0, .ref 141, .int 0]))).set 110 (.inl (0, 127, .inl (upd (upd (fun _ => 0) 5 0) 5 0)))).set 113 (.inl (0, 10000, .inl (upd (fun j => if j < 10000 then -1 else (fun _ => 0) j) 0 0)))).set 116 (.inl (0, 10000, .inl (upd (fun _ => 0) 0 0))))
set_option maxHeartbeats 40000000 in
set_option maxRecDepth 100000 in
theorem p_c15 (xs : Nat → Int32) : am_k (am_E 6 xs) 2000 am_mL (609, [(3, .int 0), (2, .ref 78), (1, .ref 0), (0, .ref 2000001)], [], ph) (fun r _ => r = some (.int 1)) := by
  obtain ⟨a1, hx1⟩ : ∃ a, xs 1 = a := ⟨_, rfl⟩
  obtain ⟨a2, hx2⟩ : ∃ a, xs 2 = a := ⟨_, rfl⟩
  obtain ⟨a3, hx3⟩ : ∃ a, xs 3 = a := ⟨_, rfl⟩
  obtain ⟨a4, hx4⟩ : ∃ a, xs 4 = a := ⟨_, rfl⟩
  obtain ⟨a5, hx5⟩ : ∃ a, xs 5 = a := ⟨_, rfl⟩
  refine am_k_e 1 (C' := (610, [(3, .int 0), (2, .ref 78), (1, .ref 0), (0, .ref 2000001)], [.ref 0], ph)) rfl ?_
  refine am_k_call [.ref 0] [] rfl rfl rfl rfl rfl rfl (Nat.le_of_ble_eq_true rfl) (fun _ => rfl) (Nat.le_of_ble_eq_true rfl) ?_
  refine am_k_e 2 (C' := (4, [(0, .ref 0)], [.ref 11], ph)) rfl ?_
  refine am_k_call [.ref 11] [] rfl rfl rfl rfl rfl rfl (Nat.le_of_ble_eq_true rfl) (fun _ => rfl) (Nat.le_of_ble_eq_true rfl) ?_
  refine am_k_e 3 (C' := (5, [(0, .ref 11)], [], hc15_0)) rfl ?_
  refine am_k_ret (r := none) rfl rfl ?_
  refine am_k_e 6 (C' := (19, [(0, .ref 0)], [.ref 21, .ref 48, .ref 11], hc15_0)) rfl ?_
  refine am_k_call [.ref 21] [.ref 48, .ref 11] rfl rfl rfl rfl rfl rfl (Nat.le_of_ble_eq_true rfl) (fun _ => rfl) (Nat.le_of_ble_eq_true rfl) ?_
  refine am_k_e 3 (C' := (5, [(0, .ref 21)], [.int 0, .ref 22], hc15_0)) rfl ?_
  refine am_k_call [.ref 22, .int 0] [] rfl rfl rfl rfl rfl rfl (Nat.le_of_ble_eq_true rfl) (fun z => by cases z) (Nat.le_of_ble_eq_true rfl) ?_
  refine am_k_e 10 (C' := (17, [(0, .ref 22), (1, .int 0)], [.int 0], hc15_0)) rfl ?_
  refine am_k_ret (r := some (.int 0)) rfl rfl ?_
  refine am_k_ret (r := some (.int 0)) rfl rfl ?_
  refine am_k_e 3 (C' := (27, [(0, .ref 0)], [.int 1, .ref 48, .int 0, .ref 48, .ref 11], hc15_0)) rfl ?_
  refine am_k_call [.ref 48, .int 1] [.int 0, .ref 48, .ref 11] rfl rfl rfl rfl rfl rfl (Nat.le_of_ble_eq_true rfl) (fun _ => rfl) (Nat.le_of_ble_eq_true rfl) ?_
  refine am_k_e 3 (C' := (3, [(0, .ref 48), (1, .int 1)], [.int 1, .ref 48, .int 1], hc15_0)) rfl ?_
  refine am_k_call [.ref 48, .int 1] [.int 1] rfl rfl rfl rfl rfl rfl (Nat.le_of_ble_eq_true rfl) (fun _ => rfl) (Nat.le_of_ble_eq_true rfl) ?_
  refine am_k_e 3 (C' := (5, [(0, .ref 48), (1, .int 1)], [.int 1, .ref 52], hc15_0)) rfl ?_
  refine am_k_call [.ref 52, .int 1] [] rfl rfl rfl rfl rfl rfl (Nat.le_of_ble_eq_true rfl) (fun z => by cases z) (Nat.le_of_ble_eq_true rfl) ?_
  refine am_k_e 10 (C' := (17, [(0, .ref 52), (1, .int 1)], [.int 0], hc15_0)) rfl ?_
  refine am_k_ret (r := some (.int 0)) rfl rfl ?_
  refine am_k_ret (r := some (.int 0)) rfl rfl ?_
  refine am_k_e 3 (C' := (9, [(0, .ref 48), (1, .int 1)], [.int 0], hc15_0)) rfl ?_
  refine am_k_ret (r := some (.int 0)) rfl rfl ?_
  refine am_k_call [.ref 11, .ref 48, .int 0, .int 0] [] rfl rfl rfl rfl rfl rfl (Nat.le_of_ble_eq_true rfl) (fun _ => rfl) (Nat.le_of_ble_eq_true rfl) ?_
  refine am_k_e 3 (C' := (5, [(0, .ref 11), (1, .ref 48), (2, .int 0), (3, .int 0)], [.int 0, .ref 12], hc15_0)) rfl ?_
  refine am_k_call [.ref 12, .int 0] [] rfl rfl rfl rfl rfl rfl (Nat.le_of_ble_eq_true rfl) (fun z => by cases z) (Nat.le_of_ble_eq_true rfl) ?_
  refine k_fill (n := 313) (f := fun _ => 0) (by decide) (by decide) rfl ?_
  refine am_k_e 7 (C' := (17, [(0, .ref 11), (1, .ref 48), (2, .int 0), (3, .int 0)], [.int (-1), .int (-1), .int 0, .ref 11], hc15_1)) rfl ?_
  refine am_k_call [.ref 11, .int 0, .int (-1), .int (-1)] [] rfl rfl rfl rfl rfl rfl (Nat.le_of_ble_eq_true rfl) (fun _ => rfl) (Nat.le_of_ble_eq_true rfl) ?_
  refine am_k_e 11 (C' := (16, [(4, .int 1), (0, .ref 11), (1, .int 0), (2, .int (-1)), (3, .int (-1))], [.int 0, .ref 12], hc15_1)) rfl ?_
  refine am_k_call [.ref 12, .int 0] [] rfl rfl rfl rfl rfl rfl (Nat.le_of_ble_eq_true rfl) (fun z => by cases z) (Nat.le_of_ble_eq_true rfl) ?_
  refine am_k_e 10 (C' := (17, [(0, .ref 12), (1, .int 0)], [.int 0], hc15_1)) rfl ?_
  refine am_k_ret (r := some (.int 0)) rfl rfl ?_
  refine am_k_e 17 (C' := (52, [(4, .int 1), (0, .ref 11), (1, .int 0), (2, .int (-1)), (3, .int (-1))], [.int 0, .ref 12, .int 0, .ref 12], hc15_1)) rfl ?_
  refine am_k_call [.ref 12, .int 0] [.int 0, .ref 12] rfl rfl rfl rfl rfl rfl (Nat.le_of_ble_eq_true rfl) (fun z => by cases z) (Nat.le_of_ble_eq_true rfl) ?_
  refine am_k_e 10 (C' := (17, [(0, .ref 12), (1, .int 0)], [.int 0], hc15_1)) rfl ?_
  refine am_k_ret (r := some (.int 0)) rfl rfl ?_
  refine am_k_e 2 (C' := (58, [(4, .int 1), (0, .ref 11), (1, .int 0), (2, .int (-1)), (3, .int (-1))], [.int 1, .int 0, .ref 12], hc15_1)) rfl ?_
  refine am_k_call [.ref 12, .int 0, .int 1] [] rfl rfl rfl rfl rfl rfl (Nat.le_of_ble_eq_true rfl) (fun z => by cases z) (Nat.le_of_ble_eq_true rfl) ?_
  refine am_k_e 10 (C' := (14, [(0, .ref 12), (1, .int 0), (2, .int 1)], [], hc15_2)) rfl ?_
  refine am_k_ret (r := none) rfl rfl ?_
  refine am_k_e 5 (C' := (70, [(4, .int 1), (0, .ref 11), (1, .int 0), (2, .int (-1)), (3, .int (-1))], [.int 0, .int 0, .ref 13], hc15_2)) rfl ?_
  refine am_k_call [.ref 13, .int 0, .int 0] [] rfl rfl rfl rfl rfl rfl (Nat.le_of_ble_eq_true rfl) (fun z => by cases z) (Nat.le_of_ble_eq_true rfl) ?_
  refine am_k_e 10 (C' := (14, [(0, .ref 13), (1, .int 0), (2, .int 0)], [], hc15_3)) rfl ?_
  refine am_k_ret (r := none) rfl rfl ?_
  refine am_k_e 5 (C' := (82, [(4, .int 1), (0, .ref 11), (1, .int 0), (2, .int (-1)), (3, .int (-1))], [.int (-1), .int 0, .ref 14], hc15_3)) rfl ?_
  refine am_k_call [.ref 14, .int 0, .int (-1)] [] rfl rfl rfl rfl rfl rfl (Nat.le_of_ble_eq_true rfl) (fun z => by cases z) (Nat.le_of_ble_eq_true rfl) ?_
  refine am_k_e 10 (C' := (14, [(0, .ref 14), (1, .int 0), (2, .int (-1))], [], hc15_4)) rfl ?_
  refine am_k_ret (r := none) rfl rfl ?_
  refine am_k_e 5 (C' := (94, [(4, .int 1), (0, .ref 11), (1, .int 0), (2, .int (-1)), (3, .int (-1))], [.int (-1), .int 0, .ref 15], hc15_4)) rfl ?_
  refine am_k_call [.ref 15, .int 0, .int (-1)] [] rfl rfl rfl rfl rfl rfl (Nat.le_of_ble_eq_true rfl) (fun z => by cases z) (Nat.le_of_ble_eq_true rfl) ?_
  refine am_k_e 10 (C' := (14, [(0, .ref 15), (1, .int 0), (2, .int (-1))], [], hc15_5)) rfl ?_
  refine am_k_ret (r := none) rfl rfl ?_
  refine am_k_e 6 (C' := (107, [(4, .int 1), (0, .ref 11), (1, .int 0), (2, .int (-1)), (3, .int (-1))], [], hc15_6)) rfl ?_
  refine am_k_ret (r := none) rfl rfl ?_
  refine am_k_e 12 (C' := (46, [(4, .int 0), (0, .ref 11), (1, .ref 48), (2, .int 0), (3, .int 0)], [.int 0, .ref 13], hc15_6)) rfl ?_
  refine am_k_call [.ref 13, .int 0] [] rfl rfl rfl rfl rfl rfl (Nat.le_of_ble_eq_true rfl) (fun z => by cases z) (Nat.le_of_ble_eq_true rfl) ?_
  refine am_k_e 10 (C' := (17, [(0, .ref 13), (1, .int 0)], [.int 0], hc15_6)) rfl ?_
  refine am_k_ret (r := some (.int 0)) rfl rfl ?_
  refine am_k_e 4 (C' := (55, [(5, .int 0), (4, .int 0), (0, .ref 11), (1, .ref 48), (2, .int 0), (3, .int 0)], [.int 0, .ref 48, .ref 11], hc15_6)) rfl ?_
  refine am_k_call [.ref 11, .ref 48, .int 0] [] rfl rfl rfl rfl rfl rfl (Nat.le_of_ble_eq_true rfl) (fun _ => rfl) (Nat.le_of_ble_eq_true rfl) ?_
  refine am_k_e 4 (C' := (88, [(0, .ref 11), (1, .ref 48), (2, .int 0)], [.int 0], hc15_6)) rfl ?_
  refine am_k_ret (r := some (.int 0)) rfl rfl ?_
  refine am_k_e 6 (C' := (71, [(6, .int 0), (5, .int 0), (4, .int 0), (0, .ref 11), (1, .ref 48), (2, .int 0), (3, .int 0)], [.int 1, .ref 48, .int 0], hc15_6)) rfl ?_
  refine am_k_call [.ref 48, .int 1] [.int 0] rfl rfl rfl rfl rfl rfl (Nat.le_of_ble_eq_true rfl) (fun _ => rfl) (Nat.le_of_ble_eq_true rfl) ?_
  refine am_k_e 3 (C' := (5, [(0, .ref 48), (1, .int 1)], [.int 1, .ref 52], hc15_6)) rfl ?_
  refine am_k_call [.ref 52, .int 1] [] rfl rfl rfl rfl rfl rfl (Nat.le_of_ble_eq_true rfl) (fun z => by cases z) (Nat.le_of_ble_eq_true rfl) ?_
  refine am_k_e 10 (C' := (17, [(0, .ref 52), (1, .int 1)], [.int 0], hc15_6)) rfl ?_
  refine am_k_ret (r := some (.int 0)) rfl rfl ?_
  refine am_k_ret (r := some (.int 0)) rfl rfl ?_
  refine am_k_e 8 (C' := (127, [(4, .int 1), (6, .int 0), (5, .int 0), (0, .ref 11), (1, .ref 48), (2, .int 0), (3, .int 0)], [.int (-1)], hc15_6)) rfl ?_
  refine am_k_ret (r := some (.int (-1))) rfl rfl ?_
  refine am_k_e 3 (C' := (38, [(0, .ref 0)], [.ref 11], hc15_6)) rfl ?_
  refine am_k_call [.ref 11] [] rfl rfl rfl rfl rfl rfl (Nat.le_of_ble_eq_true rfl) (fun _ => rfl) (Nat.le_of_ble_eq_true rfl) ?_
  refine am_k_e 2 (C' := (4, [(0, .ref 11)], [.int 1], hc15_6)) rfl ?_
  refine am_k_ret (r := some (.int 1)) rfl rfl ?_
  refine am_k_ret (r := some (.int 1)) rfl rfl ?_
  refine am_k_e 1 (C' := (614, [(3, .int 0), (2, .ref 78), (1, .ref 0), (0, .ref 2000001)], [.ref 78, .int 1], hc15_6)) rfl ?_
  refine am_k_call [.ref 78] [.int 1] rfl rfl rfl rfl rfl rfl (Nat.le_of_ble_eq_true rfl) (fun _ => rfl) (Nat.le_of_ble_eq_true rfl) ?_
  refine am_k_e 4 (C' := (4, [(0, .ref 78)], [.int 0, .int 3, .int 0, .ref 78], hc15_6)) rfl ?_
  refine am_k_call [.ref 78, .int 0, .int 3, .int 0] [] rfl rfl rfl rfl rfl rfl (Nat.le_of_ble_eq_true rfl) (fun _ => rfl) (Nat.le_of_ble_eq_true rfl) ?_
  refine k_seek (a := 113) (f := fun _ => 0) (by decide) (by decide) (by decide) rfl rfl rfl ?_
  refine am_k_e 1 (C' := (26, [(4, .int 10000), (0, .ref 78), (1, .int 0), (2, .int 3), (3, .int 0)], [.ref 78], hc15_7)) rfl ?_
  refine am_k_call [.ref 78] [] rfl rfl rfl rfl rfl rfl (Nat.le_of_ble_eq_true rfl) (fun _ => rfl) (Nat.le_of_ble_eq_true rfl) ?_
  refine am_k_e 3 (C' := (3, [(1, .int 0), (0, .ref 78)], [.ref 78], hc15_7)) rfl ?_
  refine am_k_call [.ref 78] [] rfl rfl rfl rfl rfl rfl (Nat.le_of_ble_eq_true rfl) (fun _ => rfl) (Nat.le_of_ble_eq_true rfl) ?_
  refine am_k_e 4 (C' := (6, [(0, .ref 78)], [.int 0], hc15_7)) rfl ?_
  refine am_k_ret (r := some (.int 0)) rfl rfl ?_
  refine am_k_e 7 (C' := (35, [(2, .int (-1)), (1, .int 0), (0, .ref 78)], [.ref 78, .int 0], hc15_7)) rfl ?_
  refine am_k_call [.ref 78] [.int 0] rfl rfl rfl rfl rfl rfl (Nat.le_of_ble_eq_true rfl) (fun _ => rfl) (Nat.le_of_ble_eq_true rfl) ?_
  refine am_k_e 6 (C' := (6, [(2, .int 0), (1, .int 1), (0, .ref 78)], [.ref 78, .int 0], hc15_7)) rfl ?_
  refine am_k_call [.ref 78] [.int 0] rfl rfl rfl rfl rfl rfl (Nat.le_of_ble_eq_true rfl) (fun _ => rfl) (Nat.le_of_ble_eq_true rfl) ?_
  refine am_k_e 4 (C' := (6, [(0, .ref 78)], [.int 0], hc15_7)) rfl ?_
  refine am_k_ret (r := some (.int 0)) rfl rfl ?_
  refine am_k_e 2 (C' := (27, [(2, .int 0), (1, .int 1), (0, .ref 78)], [.int 1], hc15_7)) rfl ?_
  refine am_k_ret (r := some (.int 1)) rfl rfl ?_
  refine am_k_e 1 (C' := (39, [(2, .int (-1)), (1, .int 0), (0, .ref 78)], [.ref 78, .int 1, .int 0], hc15_7)) rfl ?_
  refine am_k_call [.ref 78] [.int 1, .int 0] rfl rfl rfl rfl rfl rfl (Nat.le_of_ble_eq_true rfl) (fun _ => rfl) (Nat.le_of_ble_eq_true rfl) ?_
  refine am_k_e 4 (C' := (6, [(0, .ref 78)], [.int 0], hc15_7)) rfl ?_
  refine am_k_ret (r := some (.int 0)) rfl rfl ?_
  refine am_k_e 2 (C' := (44, [(2, .int (-1)), (1, .int 0), (0, .ref 78)], [.int 0], hc15_7)) rfl ?_
  refine am_k_ret (r := some (.int 0)) rfl rfl ?_
  refine am_k_e 30 (C' := (81, [(6, .int 0), (5, .int (-1)), (4, .int 0), (0, .ref 78), (1, .int 0), (2, .int 3), (3, .int 0)], [.int 0, .ref 78], hc15_8)) rfl ?_
  refine am_k_call [.ref 78, .int 0] [] rfl rfl rfl rfl rfl rfl (Nat.le_of_ble_eq_true rfl) (fun _ => rfl) (Nat.le_of_ble_eq_true rfl) ?_
  refine am_k_e 2 (C' := (2, [(0, .ref 78), (1, .int 0)], [.ref 78, .int 0], hc15_8)) rfl ?_
  refine am_k_call [.ref 78] [.int 0] rfl rfl rfl rfl rfl rfl (Nat.le_of_ble_eq_true rfl) (fun _ => rfl) (Nat.le_of_ble_eq_true rfl) ?_
  refine am_k_e 6 (C' := (6, [(2, .int 0), (1, .int 1), (0, .ref 78)], [.ref 78, .int 0], hc15_8)) rfl ?_
  refine am_k_call [.ref 78] [.int 0] rfl rfl rfl rfl rfl rfl (Nat.le_of_ble_eq_true rfl) (fun _ => rfl) (Nat.le_of_ble_eq_true rfl) ?_
  refine am_k_e 4 (C' := (6, [(0, .ref 78)], [.int 0], hc15_8)) rfl ?_
  refine am_k_ret (r := some (.int 0)) rfl rfl ?_
  refine am_k_e 2 (C' := (27, [(2, .int 0), (1, .int 1), (0, .ref 78)], [.int 1], hc15_8)) rfl ?_
  refine am_k_ret (r := some (.int 1)) rfl rfl ?_
  refine am_k_e 6 (C' := (11, [(3, .int 0), (2, .int 0), (0, .ref 78), (1, .int 0)], [.ref 78, .int 0], hc15_8)) rfl ?_
  refine am_k_call [.ref 78] [.int 0] rfl rfl rfl rfl rfl rfl (Nat.le_of_ble_eq_true rfl) (fun _ => rfl) (Nat.le_of_ble_eq_true rfl) ?_
  refine am_k_e 4 (C' := (6, [(0, .ref 78)], [.int 0], hc15_8)) rfl ?_
  refine am_k_ret (r := some (.int 0)) rfl rfl ?_
  refine am_k_e 6 (C' := (53, [(3, .int 0), (2, .int 0), (0, .ref 78), (1, .int 0)], [.ref 78, .int 0, .int 5, .ref 110], hc15_8)) rfl ?_
  refine am_k_call [.ref 78] [.int 0, .int 5, .ref 110] rfl rfl rfl rfl rfl rfl (Nat.le_of_ble_eq_true rfl) (fun _ => rfl) (Nat.le_of_ble_eq_true rfl) ?_
  refine am_k_e 6 (C' := (6, [(2, .int 0), (1, .int 1), (0, .ref 78)], [.ref 78, .int 0], hc15_8)) rfl ?_
  refine am_k_call [.ref 78] [.int 0] rfl rfl rfl rfl rfl rfl (Nat.le_of_ble_eq_true rfl) (fun _ => rfl) (Nat.le_of_ble_eq_true rfl) ?_
  refine am_k_e 4 (C' := (6, [(0, .ref 78)], [.int 0], hc15_8)) rfl ?_
  refine am_k_ret (r := some (.int 0)) rfl rfl ?_
  refine am_k_e 2 (C' := (27, [(2, .int 0), (1, .int 1), (0, .ref 78)], [.int 1], hc15_8)) rfl ?_
  refine am_k_ret (r := some (.int 1)) rfl rfl ?_
  refine am_k_e 2 (C' := (58, [(3, .int 0), (2, .int 0), (0, .ref 78), (1, .int 0)], [], hc15_9)) rfl ?_
  refine am_k_ret (r := none) rfl rfl ?_
  refine am_k_e 3 (C' := (87, [(6, .int 0), (5, .int (-1)), (4, .int 0), (0, .ref 78), (1, .int 0), (2, .int 3), (3, .int 0)], [.int 0, .int 3, .ref 78], hc15_9)) rfl ?_
  refine am_k_call [.ref 78, .int 3, .int 0] [] rfl rfl rfl rfl rfl rfl (Nat.le_of_ble_eq_true rfl) (fun _ => rfl) (Nat.le_of_ble_eq_true rfl) ?_
  refine am_k_e 3 (C' := (65, [(0, .ref 78), (1, .int 3), (2, .int 0)], [.int 0], hc15_9)) rfl ?_
  refine am_k_ret (r := some (.int 0)) rfl rfl ?_
  refine am_k_e 5 (C' := (108, [(7, .int 0), (6, .int 0), (5, .int (-1)), (4, .int 0), (0, .ref 78), (1, .int 0), (2, .int 3), (3, .int 0)], [.ref 78, .int 0], hc15_9)) rfl ?_
  refine am_k_call [.ref 78] [.int 0] rfl rfl rfl rfl rfl rfl (Nat.le_of_ble_eq_true rfl) (fun _ => rfl) (Nat.le_of_ble_eq_true rfl) ?_
  refine am_k_e 4 (C' := (6, [(0, .ref 78)], [.int 0], hc15_9)) rfl ?_
  refine am_k_ret (r := some (.int 0)) rfl rfl ?_
  refine am_k_e 9 (C' := (187, [(6, .int 1), (7, .int 0), (5, .int (-1)), (4, .int 0), (0, .ref 78), (1, .int 0), (2, .int 3), (3, .int 0)], [.int 0, .ref 78], hc15_9)) rfl ?_
  refine am_k_call [.ref 78, .int 0] [] rfl rfl rfl rfl rfl rfl (Nat.le_of_ble_eq_true rfl) (fun _ => rfl) (Nat.le_of_ble_eq_true rfl) ?_
  refine am_k_e 2 (C' := (2, [(0, .ref 78), (1, .int 0)], [.ref 78, .int 0], hc15_9)) rfl ?_
  refine am_k_call [.ref 78] [.int 0] rfl rfl rfl rfl rfl rfl (Nat.le_of_ble_eq_true rfl) (fun _ => rfl) (Nat.le_of_ble_eq_true rfl) ?_
  refine am_k_e 6 (C' := (6, [(2, .int 0), (1, .int 1), (0, .ref 78)], [.ref 78, .int 0], hc15_9)) rfl ?_
  refine am_k_call [.ref 78] [.int 0] rfl rfl rfl rfl rfl rfl (Nat.le_of_ble_eq_true rfl) (fun _ => rfl) (Nat.le_of_ble_eq_true rfl) ?_
  refine am_k_e 4 (C' := (6, [(0, .ref 78)], [.int 0], hc15_9)) rfl ?_
  refine am_k_ret (r := some (.int 0)) rfl rfl ?_
  refine am_k_e 2 (C' := (27, [(2, .int 0), (1, .int 1), (0, .ref 78)], [.int 1], hc15_9)) rfl ?_
  refine am_k_ret (r := some (.int 1)) rfl rfl ?_
  refine am_k_e 6 (C' := (11, [(3, .int 0), (2, .int 0), (0, .ref 78), (1, .int 0)], [.ref 78, .int 0], hc15_9)) rfl ?_
  refine am_k_call [.ref 78] [.int 0] rfl rfl rfl rfl rfl rfl (Nat.le_of_ble_eq_true rfl) (fun _ => rfl) (Nat.le_of_ble_eq_true rfl) ?_
  refine am_k_e 4 (C' := (6, [(0, .ref 78)], [.int 0], hc15_9)) rfl ?_
  refine am_k_ret (r := some (.int 0)) rfl rfl ?_
  refine am_k_e 6 (C' := (53, [(3, .int 0), (2, .int 0), (0, .ref 78), (1, .int 0)], [.ref 78, .int 0, .int 5, .ref 110], hc15_9)) rfl ?_
  refine am_k_call [.ref 78] [.int 0, .int 5, .ref 110] rfl rfl rfl rfl rfl rfl (Nat.le_of_ble_eq_true rfl) (fun _ => rfl) (Nat.le_of_ble_eq_true rfl) ?_
  refine am_k_e 6 (C' := (6, [(2, .int 0), (1, .int 1), (0, .ref 78)], [.ref 78, .int 0], hc15_9)) rfl ?_
  refine am_k_call [.ref 78] [.int 0] rfl rfl rfl rfl rfl rfl (Nat.le_of_ble_eq_true rfl) (fun _ => rfl) (Nat.le_of_ble_eq_true rfl) ?_
  refine am_k_e 4 (C' := (6, [(0, .ref 78)], [.int 0], hc15_9)) rfl ?_
  refine am_k_ret (r := some (.int 0)) rfl rfl ?_
  refine am_k_e 2 (C' := (27, [(2, .int 0), (1, .int 1), (0, .ref 78)], [.int 1], hc15_9)) rfl ?_
  refine am_k_ret (r := some (.int 1)) rfl rfl ?_
  refine am_k_e 2 (C' := (58, [(3, .int 0), (2, .int 0), (0, .ref 78), (1, .int 0)], [], hc15_10)) rfl ?_
  refine am_k_ret (r := none) rfl rfl ?_
  refine am_k_e 1 (C' := (192, [(6, .int 1), (7, .int 0), (5, .int (-1)), (4, .int 0), (0, .ref 78), (1, .int 0), (2, .int 3), (3, .int 0)], [.int (-1)], hc15_10)) rfl ?_
  refine am_k_ret (r := some (.int (-1))) rfl rfl ?_
  refine am_k_e 3 (C' := (12, [(0, .ref 78)], [.int 1], hc15_10)) rfl ?_
  refine am_k_ret (r := some (.int 1)) rfl rfl ?_
  refine am_k_e 10 (C' := (974, [(3, .int 6), (2, .ref 78), (1, .ref 0), (0, .ref 2000001)], [.int 1], hc15_10)) rfl ?_
  exact am_k_ret (r := some (.int 1)) rfl rfl rfl

set_option maxHeartbeats 40000000 in
set_option maxRecDepth 100000 in
theorem p_c16 (xs : Nat → Int32) : am_k (am_E 6 xs) 2000 am_mL (622, [(3, .int 0), (2, .ref 78), (1, .ref 0), (0, .ref 2000001)], [], ph) (fun r _ => r = some (.int 1)) := by
  obtain ⟨a1, hx1⟩ : ∃ a, xs 1 = a := ⟨_, rfl⟩
  obtain ⟨a2, hx2⟩ : ∃ a, xs 2 = a := ⟨_, rfl⟩
  obtain ⟨a3, hx3⟩ : ∃ a, xs 3 = a := ⟨_, rfl⟩
  obtain ⟨a4, hx4⟩ : ∃ a, xs 4 = a := ⟨_, rfl⟩
  obtain ⟨a5, hx5⟩ : ∃ a, xs 5 = a := ⟨_, rfl⟩
  refine am_k_e 5 (C' := (627, [(3, .int 0), (2, .ref 78), (1, .ref 0), (0, .ref 2000001)], [.int 1, .ref 2000001, .ref 0], ph)) rfl ?_
  refine am_k_sld (v := a1) rfl (by decide) rfl rfl hx1 ?_
  refine am_k_call [.ref 0, .int a1] [] rfl rfl rfl rfl rfl rfl (Nat.le_of_ble_eq_true rfl) (fun _ => rfl) (Nat.le_of_ble_eq_true rfl) ?_
  refine am_k_e 3 (C' := (5, [(0, .ref 0), (1, .int a1)], [.int a1, .ref 48], ph)) rfl ?_
  refine am_k_call [.ref 48, .int a1] [] rfl rfl rfl rfl rfl rfl (Nat.le_of_ble_eq_true rfl) (fun _ => rfl) (Nat.le_of_ble_eq_true rfl) ?_
  refine am_k_e 1 (C' := (1, [(0, .ref 48), (1, .int a1)], [.int a1], ph)) rfl ?_
  refine am_k_if rfl rfl (fun q1 => ?_) (fun q1 => ?_)
  · have h1 : a1.toInt < (0 : Int) := ccT_lt q1
    refine am_k_e 1 (C' := (18, [(0, .ref 48), (1, .int a1)], [.int 0], ph)) rfl ?_
    refine am_k_ret (r := some (.int 0)) rfl rfl ?_
    refine am_k_e 2 (C' := (32, [(0, .ref 0), (1, .int a1)], [.int (-1)], ph)) rfl ?_
    refine am_k_ret (r := some (.int (-1))) rfl rfl ?_
    refine am_k_e 5 (C' := (636, [(3, .int 0), (2, .ref 78), (1, .ref 0), (0, .ref 2000001)], [.int 1, .ref 2000001, .ref 78, .int (-1)], ph)) rfl ?_
    refine am_k_sld (v := a1) rfl (by decide) rfl rfl hx1 ?_
    refine am_k_call [.ref 78, .int a1] [.int (-1)] rfl rfl rfl rfl rfl rfl (Nat.le_of_ble_eq_true rfl) (fun _ => rfl) (Nat.le_of_ble_eq_true rfl) ?_
    refine am_k_e 2 (C' := (2, [(0, .ref 78), (1, .int a1)], [.int a1, .ref 78], ph)) rfl ?_
    refine am_k_call [.ref 78, .int a1] [] rfl rfl rfl rfl rfl rfl (Nat.le_of_ble_eq_true rfl) (fun _ => rfl) (Nat.le_of_ble_eq_true rfl) ?_
    refine am_k_e 5 (C' := (5, [(0, .ref 78), (1, .int a1)], [.ref 78, .int 1, .long 0, .long (a1.toInt64)], ph)) rfl ?_
    refine am_k_call [.ref 78] [.int 1, .long 0, .long (a1.toInt64)] rfl rfl rfl rfl rfl rfl (Nat.le_of_ble_eq_true rfl) (fun _ => rfl) (Nat.le_of_ble_eq_true rfl) ?_
    refine am_k_e 4 (C' := (7, [(0, .ref 78)], [.int 0], ph)) rfl ?_
    refine am_k_ret (r := some (.int 0)) rfl rfl ?_
    refine am_k_e 4 (C' := (12, [(0, .ref 78), (1, .int a1)], [.long 0, .long 0, .long (a1.toInt64)], ph)) rfl ?_
    refine am_k_call [.long (a1.toInt64), .long 0, .long 0] [] rfl rfl rfl rfl rfl rfl (Nat.le_of_ble_eq_true rfl) (fun z => by cases z) (Nat.le_of_ble_eq_true rfl) ?_
    refine am_k_e 3 (C' := (3, [(0, .long (a1.toInt64)), (2, .long 0), (4, .long 0)], [.int (lg_cmp (a1.toInt64) 0)], ph)) rfl ?_
    refine am_k_ifT rfl rfl (lgpT_lt (show a1.toInt < (0 : Int) by omega)) ?_
    refine am_k_e 1 (C' := (18, [(0, .long (a1.toInt64)), (2, .long 0), (4, .long 0)], [.int 0], ph)) rfl ?_
    refine am_k_ret (r := some (.int 0)) rfl rfl ?_
    refine am_k_ret (r := some (.int 0)) rfl rfl ?_
    refine am_k_e 2 (C' := (18, [(0, .ref 78), (1, .int a1)], [.int (-1)], ph)) rfl ?_
    refine am_k_ret (r := some (.int (-1))) rfl rfl ?_
    refine am_k_e 10 (C' := (974, [(3, .int 6), (2, .ref 78), (1, .ref 0), (0, .ref 2000001)], [.int 1], ph)) rfl ?_
    exact am_k_ret (r := some (.int 1)) rfl rfl rfl
  · have h1 : (0 : Int) ≤ a1.toInt := ccF_lt q1
    refine am_k_e 3 (C' := (7, [(0, .ref 48), (1, .int a1)], [.int 2, .ref 48, .int a1], ph)) rfl ?_
    refine am_k_call [.ref 48, .int 2] [.int a1] rfl rfl rfl rfl rfl rfl (Nat.le_of_ble_eq_true rfl) (fun _ => rfl) (Nat.le_of_ble_eq_true rfl) ?_
    refine am_k_e 3 (C' := (3, [(0, .ref 48), (1, .int 2)], [.int 2, .ref 48, .int 1], ph)) rfl ?_
    refine am_k_call [.ref 48, .int 2] [.int 1] rfl rfl rfl rfl rfl rfl (Nat.le_of_ble_eq_true rfl) (fun _ => rfl) (Nat.le_of_ble_eq_true rfl) ?_
    refine am_k_e 3 (C' := (5, [(0, .ref 48), (1, .int 2)], [.int 2, .ref 52], ph)) rfl ?_
    refine am_k_call [.ref 52, .int 2] [] rfl rfl rfl rfl rfl rfl (Nat.le_of_ble_eq_true rfl) (fun z => by cases z) (Nat.le_of_ble_eq_true rfl) ?_
    refine am_k_e 10 (C' := (17, [(0, .ref 52), (1, .int 2)], [.int 0], ph)) rfl ?_
    refine am_k_ret (r := some (.int 0)) rfl rfl ?_
    refine am_k_ret (r := some (.int 0)) rfl rfl ?_
    refine am_k_e 3 (C' := (9, [(0, .ref 48), (1, .int 2)], [.int 0], ph)) rfl ?_
    refine am_k_ret (r := some (.int 0)) rfl rfl ?_
    refine am_k_icmp rfl rfl (fun q2 => ?_) (fun q2 => ?_)
    · have h2 : (0 : Int) < a1.toInt := ccT_gt q2
      refine am_k_e 1 (C' := (18, [(0, .ref 48), (1, .int a1)], [.int 0], ph)) rfl ?_
      refine am_k_ret (r := some (.int 0)) rfl rfl ?_
      refine am_k_e 2 (C' := (32, [(0, .ref 0), (1, .int a1)], [.int (-1)], ph)) rfl ?_
      refine am_k_ret (r := some (.int (-1))) rfl rfl ?_
      refine am_k_e 5 (C' := (636, [(3, .int 0), (2, .ref 78), (1, .ref 0), (0, .ref 2000001)], [.int 1, .ref 2000001, .ref 78, .int (-1)], ph)) rfl ?_
      refine am_k_sld (v := a1) rfl (by decide) rfl rfl hx1 ?_
      refine am_k_call [.ref 78, .int a1] [.int (-1)] rfl rfl rfl rfl rfl rfl (Nat.le_of_ble_eq_true rfl) (fun _ => rfl) (Nat.le_of_ble_eq_true rfl) ?_
      refine am_k_e 2 (C' := (2, [(0, .ref 78), (1, .int a1)], [.int a1, .ref 78], ph)) rfl ?_
      refine am_k_call [.ref 78, .int a1] [] rfl rfl rfl rfl rfl rfl (Nat.le_of_ble_eq_true rfl) (fun _ => rfl) (Nat.le_of_ble_eq_true rfl) ?_
      refine am_k_e 5 (C' := (5, [(0, .ref 78), (1, .int a1)], [.ref 78, .int 1, .long 0, .long (a1.toInt64)], ph)) rfl ?_
      refine am_k_call [.ref 78] [.int 1, .long 0, .long (a1.toInt64)] rfl rfl rfl rfl rfl rfl (Nat.le_of_ble_eq_true rfl) (fun _ => rfl) (Nat.le_of_ble_eq_true rfl) ?_
      refine am_k_e 4 (C' := (7, [(0, .ref 78)], [.int 0], ph)) rfl ?_
      refine am_k_ret (r := some (.int 0)) rfl rfl ?_
      refine am_k_e 4 (C' := (12, [(0, .ref 78), (1, .int a1)], [.long 0, .long 0, .long (a1.toInt64)], ph)) rfl ?_
      refine am_k_call [.long (a1.toInt64), .long 0, .long 0] [] rfl rfl rfl rfl rfl rfl (Nat.le_of_ble_eq_true rfl) (fun z => by cases z) (Nat.le_of_ble_eq_true rfl) ?_
      refine am_k_e 3 (C' := (3, [(0, .long (a1.toInt64)), (2, .long 0), (4, .long 0)], [.int (lg_cmp (a1.toInt64) 0)], ph)) rfl ?_
      refine am_k_ifF rfl rfl (lgpF_lt (show (0 : Int) ≤ a1.toInt by omega)) ?_
      refine am_k_e 3 (C' := (10, [(0, .long (a1.toInt64)), (2, .long 0), (4, .long 0)], [.int (lg_cmp (a1.toInt64) 0)], ph)) rfl ?_
      refine am_k_ifT rfl rfl (lgpT_gt (show (0 : Int) < a1.toInt by omega)) ?_
      refine am_k_e 1 (C' := (18, [(0, .long (a1.toInt64)), (2, .long 0), (4, .long 0)], [.int 0], ph)) rfl ?_
      refine am_k_ret (r := some (.int 0)) rfl rfl ?_
      refine am_k_ret (r := some (.int 0)) rfl rfl ?_
      refine am_k_e 2 (C' := (18, [(0, .ref 78), (1, .int a1)], [.int (-1)], ph)) rfl ?_
      refine am_k_ret (r := some (.int (-1))) rfl rfl ?_
      refine am_k_e 10 (C' := (974, [(3, .int 6), (2, .ref 78), (1, .ref 0), (0, .ref 2000001)], [.int 1], ph)) rfl ?_
      exact am_k_ret (r := some (.int 1)) rfl rfl rfl
    · have h2 : a1.toInt ≤ (0 : Int) := ccF_gt q2
      obtain rfl : a1 = 0 := Int32.toInt_inj.mp (show a1.toInt = (0 : Int) by omega)
      refine am_k_e 2 (C' := (18, [(0, .ref 48), (1, .int 0)], [.int 1], ph)) rfl ?_
      refine am_k_ret (r := some (.int 1)) rfl rfl ?_
      refine am_k_e 5 (C' := (19, [(0, .ref 0), (1, .int 0)], [.ref 21, .ref 48], ph)) rfl ?_
      refine am_k_call [.ref 21] [.ref 48] rfl rfl rfl rfl rfl rfl (Nat.le_of_ble_eq_true rfl) (fun _ => rfl) (Nat.le_of_ble_eq_true rfl) ?_
      refine am_k_e 3 (C' := (5, [(0, .ref 21)], [.int 0, .ref 22], ph)) rfl ?_
      refine am_k_call [.ref 22, .int 0] [] rfl rfl rfl rfl rfl rfl (Nat.le_of_ble_eq_true rfl) (fun z => by cases z) (Nat.le_of_ble_eq_true rfl) ?_
      refine am_k_e 10 (C' := (17, [(0, .ref 22), (1, .int 0)], [.int 0], ph)) rfl ?_
      refine am_k_ret (r := some (.int 0)) rfl rfl ?_
      refine am_k_ret (r := some (.int 0)) rfl rfl ?_
      refine am_k_call [.ref 48, .int 0] [] rfl rfl rfl rfl rfl rfl (Nat.le_of_ble_eq_true rfl) (fun _ => rfl) (Nat.le_of_ble_eq_true rfl) ?_
      refine am_k_e 11 (C' := (14, [(2, .int 0), (0, .ref 48), (1, .int 0)], [.int 0, .ref 62], ph)) rfl ?_
      refine am_k_call [.ref 62, .int 0] [] rfl rfl rfl rfl rfl rfl (Nat.le_of_ble_eq_true rfl) (fun z => by cases z) (Nat.le_of_ble_eq_true rfl) ?_
      refine am_k_e 10 (C' := (17, [(0, .ref 62), (1, .int 0)], [.int 0], ph)) rfl ?_
      refine am_k_ret (r := some (.int 0)) rfl rfl ?_
      refine am_k_e 14 (C' := (38, [(4, .int 0), (3, .int 64), (2, .int 0), (0, .ref 48), (1, .int 0)], [.int 2, .ref 48, .int 0], ph)) rfl ?_
      refine am_k_call [.ref 48, .int 2] [.int 0] rfl rfl rfl rfl rfl rfl (Nat.le_of_ble_eq_true rfl) (fun _ => rfl) (Nat.le_of_ble_eq_true rfl) ?_
      refine am_k_e 3 (C' := (5, [(0, .ref 48), (1, .int 2)], [.int 2, .ref 52], ph)) rfl ?_
      refine am_k_call [.ref 52, .int 2] [] rfl rfl rfl rfl rfl rfl (Nat.le_of_ble_eq_true rfl) (fun z => by cases z) (Nat.le_of_ble_eq_true rfl) ?_
      refine am_k_e 10 (C' := (17, [(0, .ref 52), (1, .int 2)], [.int 0], ph)) rfl ?_
      refine am_k_ret (r := some (.int 0)) rfl rfl ?_
      refine am_k_ret (r := some (.int 0)) rfl rfl ?_
      refine am_k_e 11 (C' := (102, [(4, .int 0), (3, .int 64), (2, .int 0), (0, .ref 48), (1, .int 0)], [.int 0, .ref 62, .int 0, .ref 62], ph)) rfl ?_
      refine am_k_call [.ref 62, .int 0] [.int 0, .ref 62] rfl rfl rfl rfl rfl rfl (Nat.le_of_ble_eq_true rfl) (fun z => by cases z) (Nat.le_of_ble_eq_true rfl) ?_
      refine am_k_e 10 (C' := (17, [(0, .ref 62), (1, .int 0)], [.int 0], ph)) rfl ?_
      refine am_k_ret (r := some (.int 0)) rfl rfl ?_
      refine am_k_e 4 (C' := (109, [(4, .int 0), (3, .int 64), (2, .int 0), (0, .ref 48), (1, .int 0)], [.int 64, .int 0, .ref 62], ph)) rfl ?_
      refine am_k_call [.ref 62, .int 0, .int 64] [] rfl rfl rfl rfl rfl rfl (Nat.le_of_ble_eq_true rfl) (fun z => by cases z) (Nat.le_of_ble_eq_true rfl) ?_
      refine am_k_e 10 (C' := (14, [(0, .ref 62), (1, .int 0), (2, .int 64)], [], (ph.set 62 (.inl (0, 2500, .inl (upd (fun _ => 0) 0 64)))))) rfl ?_
      refine am_k_ret (r := none) rfl rfl ?_
      refine am_k_e 3 (C' := (116, [(4, .int 0), (3, .int 64), (2, .int 0), (0, .ref 48), (1, .int 0)], [.int 0], (ph.set 62 (.inl (0, 2500, .inl (upd (fun _ => 0) 0 64)))))) rfl ?_
      refine am_k_ret (r := some (.int 0)) rfl rfl ?_
      refine am_k_e 5 (C' := (32, [(0, .ref 0), (1, .int 0)], [.int (-1)], (ph.set 62 (.inl (0, 2500, .inl (upd (fun _ => 0) 0 64)))))) rfl ?_
      refine am_k_ret (r := some (.int (-1))) rfl rfl ?_
      refine am_k_e 5 (C' := (636, [(3, .int 0), (2, .ref 78), (1, .ref 0), (0, .ref 2000001)], [.int 1, .ref 2000001, .ref 78, .int (-1)], (ph.set 62 (.inl (0, 2500, .inl (upd (fun _ => 0) 0 64)))))) rfl ?_
      refine am_k_sld (v := 0) rfl (by decide) rfl rfl hx1 ?_
      refine am_k_call [.ref 78, .int 0] [.int (-1)] rfl rfl rfl rfl rfl rfl (Nat.le_of_ble_eq_true rfl) (fun _ => rfl) (Nat.le_of_ble_eq_true rfl) ?_
      refine am_k_e 2 (C' := (2, [(0, .ref 78), (1, .int 0)], [.int 0, .ref 78], (ph.set 62 (.inl (0, 2500, .inl (upd (fun _ => 0) 0 64)))))) rfl ?_
      refine am_k_call [.ref 78, .int 0] [] rfl rfl rfl rfl rfl rfl (Nat.le_of_ble_eq_true rfl) (fun _ => rfl) (Nat.le_of_ble_eq_true rfl) ?_
      refine am_k_e 5 (C' := (5, [(0, .ref 78), (1, .int 0)], [.ref 78, .int 1, .long 0, .long 0], (ph.set 62 (.inl (0, 2500, .inl (upd (fun _ => 0) 0 64)))))) rfl ?_
      refine am_k_call [.ref 78] [.int 1, .long 0, .long 0] rfl rfl rfl rfl rfl rfl (Nat.le_of_ble_eq_true rfl) (fun _ => rfl) (Nat.le_of_ble_eq_true rfl) ?_
      refine am_k_e 4 (C' := (7, [(0, .ref 78)], [.int 0], (ph.set 62 (.inl (0, 2500, .inl (upd (fun _ => 0) 0 64)))))) rfl ?_
      refine am_k_ret (r := some (.int 0)) rfl rfl ?_
      refine am_k_e 4 (C' := (12, [(0, .ref 78), (1, .int 0)], [.long 0, .long 0, .long 0], (ph.set 62 (.inl (0, 2500, .inl (upd (fun _ => 0) 0 64)))))) rfl ?_
      refine am_k_call [.long 0, .long 0, .long 0] [] rfl rfl rfl rfl rfl rfl (Nat.le_of_ble_eq_true rfl) (fun z => by cases z) (Nat.le_of_ble_eq_true rfl) ?_
      refine am_k_e 10 (C' := (18, [(0, .long 0), (2, .long 0), (4, .long 0)], [.int 1], (ph.set 62 (.inl (0, 2500, .inl (upd (fun _ => 0) 0 64)))))) rfl ?_
      refine am_k_ret (r := some (.int 1)) rfl rfl ?_
      refine am_k_ret (r := some (.int 1)) rfl rfl ?_
      refine am_k_e 4 (C' := (11, [(0, .ref 78), (1, .int 0)], [.int 0, .int 1, .ref 78], (ph.set 62 (.inl (0, 2500, .inl (upd (fun _ => 0) 0 64)))))) rfl ?_
      refine am_k_call [.ref 78, .int 1, .int 0] [] rfl rfl rfl rfl rfl rfl (Nat.le_of_ble_eq_true rfl) (fun _ => rfl) (Nat.le_of_ble_eq_true rfl) ?_
      refine am_k_e 4 (C' := (44, [(0, .ref 78), (1, .int 1), (2, .int 0)], [.ref 78, .int 0], (ph.set 62 (.inl (0, 2500, .inl (upd (fun _ => 0) 0 64)))))) rfl ?_
      refine am_k_call [.ref 78] [.int 0] rfl rfl rfl rfl rfl rfl (Nat.le_of_ble_eq_true rfl) (fun _ => rfl) (Nat.le_of_ble_eq_true rfl) ?_
      refine am_k_e 6 (C' := (6, [(2, .int 0), (1, .int 0), (0, .ref 78)], [.ref 78, .int 0], (ph.set 62 (.inl (0, 2500, .inl (upd (fun _ => 0) 0 64)))))) rfl ?_
      refine am_k_call [.ref 78] [.int 0] rfl rfl rfl rfl rfl rfl (Nat.le_of_ble_eq_true rfl) (fun _ => rfl) (Nat.le_of_ble_eq_true rfl) ?_
      refine am_k_e 4 (C' := (7, [(0, .ref 78)], [.int 0], (ph.set 62 (.inl (0, 2500, .inl (upd (fun _ => 0) 0 64)))))) rfl ?_
      refine am_k_ret (r := some (.int 0)) rfl rfl ?_
      refine am_k_e 2 (C' := (33, [(2, .int 0), (1, .int 0), (0, .ref 78)], [.int 0], (ph.set 62 (.inl (0, 2500, .inl (upd (fun _ => 0) 0 64)))))) rfl ?_
      refine am_k_ret (r := some (.int 0)) rfl rfl ?_
      refine am_k_e 6 (C' := (58, [(0, .ref 78), (1, .int 1), (2, .int 0)], [.int 1], (ph.set 62 (.inl (0, 2500, .inl (upd (fun _ => 0) 0 64)))))) rfl ?_
      refine am_k_ret (r := some (.int 1)) rfl rfl ?_
      refine am_k_e 2 (C' := (18, [(0, .ref 78), (1, .int 0)], [.int (-1)], (ph.set 62 (.inl (0, 2500, .inl (upd (fun _ => 0) 0 64)))))) rfl ?_
      refine am_k_ret (r := some (.int (-1))) rfl rfl ?_
      refine am_k_e 10 (C' := (974, [(3, .int 6), (2, .ref 78), (1, .ref 0), (0, .ref 2000001)], [.int 1], (ph.set 62 (.inl (0, 2500, .inl (upd (fun _ => 0) 0 64)))))) rfl ?_
      exact am_k_ret (r := some (.int 1)) rfl rfl rfl

def hc17_0 : am_H := ((ph.set 1 (.inr (8, [.ref 2, .int 0]))).set 16 (.inr (4, [.ref 17, .int 0])))
def hc17_1 : am_H := (((ph.set 1 (.inr (8, [.ref 2, .int 0]))).set 16 (.inr (4, [.ref 17, .int 0]))).set 78 (.inr (12, [.ref 79, .int 0, .int 0, .int 0, .int 0, .int 0, .int 0, .int 0, .int (-1), .ref 80, .ref 81, .ref 82, .ref 83, .ref 84, .ref 85, .ref 86, .ref 87, .ref 88, .ref 89, .ref 90, .ref 91, .ref 92, .ref 93, .ref 94, .ref 95, .ref 96, .ref 97, .ref 98, .ref 99, .ref 100, .int 0, .ref 101, .ref 102, .ref 103, .ref 104, .ref 105, .ref 106, .ref 107, .ref 108, .ref 109, .int 0, .int 0, .int 0, .ref 110, .ref 111, .ref 112, .int 0, .int 0, .int 0, .int 0, .int 0, .ref 113, .ref 114, .ref 115, .ref 116, .int 0, .int (-1), .int (-1), .int 0, .ref 117, .ref 118, .int 0, .int 0, .long 1, .ref 119, .ref 120, .ref 121, .ref 122, .ref 123, .ref 124, .ref 125, .ref 126, .ref 127, .ref 128, .ref 129, .ref 130, .ref 131, .ref 132, .ref 133, .ref 134, .ref 135, .ref 136, .ref 137, .ref 138, .int 0, .ref 139, .int 0, .int 0, .int 0, .ref 140, .int 0, .long 0, .int 0, .ref 141, .int 0])))
set_option maxHeartbeats 40000000 in
set_option maxRecDepth 100000 in
theorem p_c17 (xs : Nat → Int32) : am_k (am_E 6 xs) 2000 am_mL (645, [(3, .int 0), (2, .ref 78), (1, .ref 0), (0, .ref 2000001)], [], ph) (fun r _ => r = some (.int 1)) := by
  obtain ⟨a1, hx1⟩ : ∃ a, xs 1 = a := ⟨_, rfl⟩
  obtain ⟨a2, hx2⟩ : ∃ a, xs 2 = a := ⟨_, rfl⟩
  obtain ⟨a3, hx3⟩ : ∃ a, xs 3 = a := ⟨_, rfl⟩
  obtain ⟨a4, hx4⟩ : ∃ a, xs 4 = a := ⟨_, rfl⟩
  obtain ⟨a5, hx5⟩ : ∃ a, xs 5 = a := ⟨_, rfl⟩
  refine am_k_e 1 (C' := (646, [(3, .int 0), (2, .ref 78), (1, .ref 0), (0, .ref 2000001)], [.ref 0], ph)) rfl ?_
  refine am_k_call [.ref 0] [] rfl rfl rfl rfl rfl rfl (Nat.le_of_ble_eq_true rfl) (fun _ => rfl) (Nat.le_of_ble_eq_true rfl) ?_
  refine am_k_e 6 (C' := (12, [(0, .ref 0)], [.ref 48, .ref 1, .ref 16], ph)) rfl ?_
  refine am_k_call [.ref 16, .ref 1, .ref 48] [] rfl rfl rfl rfl rfl rfl (Nat.le_of_ble_eq_true rfl) (fun _ => rfl) (Nat.le_of_ble_eq_true rfl) ?_
  refine am_k_e 4 (C' := (6, [(0, .ref 16), (1, .ref 1), (2, .ref 48)], [.ref 1], (ph.set 16 (.inr (4, [.ref 17, .int 0]))))) rfl ?_
  refine am_k_call [.ref 1] [] rfl rfl rfl rfl rfl rfl (Nat.le_of_ble_eq_true rfl) (fun _ => rfl) (Nat.le_of_ble_eq_true rfl) ?_
  refine am_k_e 2 (C' := (4, [(0, .ref 1)], [.int 0], (ph.set 16 (.inr (4, [.ref 17, .int 0]))))) rfl ?_
  refine am_k_ret (r := some (.int 0)) rfl rfl ?_
  refine am_k_e 9 (C' := (26, [(4, .int 0), (3, .int 1), (0, .ref 16), (1, .ref 1), (2, .ref 48)], [.ref 1, .int 0], (ph.set 16 (.inr (4, [.ref 17, .int 0]))))) rfl ?_
  refine am_k_call [.ref 1] [.int 0] rfl rfl rfl rfl rfl rfl (Nat.le_of_ble_eq_true rfl) (fun _ => rfl) (Nat.le_of_ble_eq_true rfl) ?_
  refine am_k_e 2 (C' := (4, [(0, .ref 1)], [.int 0], (ph.set 16 (.inr (4, [.ref 17, .int 0]))))) rfl ?_
  refine am_k_ret (r := some (.int 0)) rfl rfl ?_
  refine am_k_e 3 (C' := (96, [(4, .int 0), (3, .int 1), (0, .ref 16), (1, .ref 1), (2, .ref 48)], [.int 0, .ref 1], (ph.set 16 (.inr (4, [.ref 17, .int 0]))))) rfl ?_
  refine am_k_call [.ref 1, .int 0] [] rfl rfl rfl rfl rfl rfl (Nat.le_of_ble_eq_true rfl) (fun _ => rfl) (Nat.le_of_ble_eq_true rfl) ?_
  refine am_k_e 5 (C' := (7, [(0, .ref 1), (1, .int 0)], [.int 0, .int 0, .int 0, .ref 1], (ph.set 16 (.inr (4, [.ref 17, .int 0]))))) rfl ?_
  refine am_k_call [.int 0, .int 0] [.int 0, .ref 1] rfl rfl rfl rfl rfl rfl (Nat.le_of_ble_eq_true rfl) (fun z => by cases z) (Nat.le_of_ble_eq_true rfl) ?_
  refine am_k_e 5 (C' := (10, [(0, .int 0), (1, .int 0)], [.int 0], (ph.set 16 (.inr (4, [.ref 17, .int 0]))))) rfl ?_
  refine am_k_ret (r := some (.int 0)) rfl rfl ?_
  refine am_k_call [.int 0, .int 0] [.ref 1] rfl rfl rfl rfl rfl rfl (Nat.le_of_ble_eq_true rfl) (fun z => by cases z) (Nat.le_of_ble_eq_true rfl) ?_
  refine am_k_e 5 (C' := (10, [(0, .int 0), (1, .int 0)], [.int 0], (ph.set 16 (.inr (4, [.ref 17, .int 0]))))) rfl ?_
  refine am_k_ret (r := some (.int 0)) rfl rfl ?_
  refine am_k_e 1 (C' := (16, [(0, .ref 1), (1, .int 0)], [], hc17_0)) rfl ?_
  refine am_k_ret (r := none) rfl rfl ?_
  refine am_k_e 1 (C' := (100, [(4, .int 0), (3, .int 1), (0, .ref 16), (1, .ref 1), (2, .ref 48)], [.int 1], hc17_0)) rfl ?_
  refine am_k_ret (r := some (.int 1)) rfl rfl ?_
  refine am_k_e 4 (C' := (29, [(0, .ref 0)], [.int 3, .ref 48], hc17_0)) rfl ?_
  refine am_k_call [.ref 48, .int 3] [] rfl rfl rfl rfl rfl rfl (Nat.le_of_ble_eq_true rfl) (fun _ => rfl) (Nat.le_of_ble_eq_true rfl) ?_
  refine am_k_e 3 (C' := (3, [(0, .ref 48), (1, .int 3)], [.int 3, .ref 48, .int 1], hc17_0)) rfl ?_
  refine am_k_call [.ref 48, .int 3] [.int 1] rfl rfl rfl rfl rfl rfl (Nat.le_of_ble_eq_true rfl) (fun _ => rfl) (Nat.le_of_ble_eq_true rfl) ?_
  refine am_k_e 3 (C' := (5, [(0, .ref 48), (1, .int 3)], [.int 3, .ref 52], hc17_0)) rfl ?_
  refine am_k_call [.ref 52, .int 3] [] rfl rfl rfl rfl rfl rfl (Nat.le_of_ble_eq_true rfl) (fun z => by cases z) (Nat.le_of_ble_eq_true rfl) ?_
  refine am_k_e 10 (C' := (17, [(0, .ref 52), (1, .int 3)], [.int 0], hc17_0)) rfl ?_
  refine am_k_ret (r := some (.int 0)) rfl rfl ?_
  refine am_k_ret (r := some (.int 0)) rfl rfl ?_
  refine am_k_e 3 (C' := (9, [(0, .ref 48), (1, .int 3)], [.int 0], hc17_0)) rfl ?_
  refine am_k_ret (r := some (.int 0)) rfl rfl ?_
  refine am_k_e 12 (C' := (48, [(3, .int 0), (2, .int 0), (1, .int 0), (0, .ref 0)], [.int 0], hc17_0)) rfl ?_
  refine am_k_call [.int 0] [] rfl rfl rfl rfl rfl rfl (Nat.le_of_ble_eq_true rfl) (fun z => by cases z) (Nat.le_of_ble_eq_true rfl) ?_
  refine am_k_e 40 (C' := (51, [(0, .int 0)], [.int 63, .int 0], hc17_0)) rfl ?_
  refine am_k_e 1 (C' := (52, [(0, .int 0)], [.int 0], hc17_0)) rfl ?_
  refine am_k_ret (r := some (.int 0)) rfl rfl ?_
  refine am_k_e 7 (C' := (64, [(3, .int 0), (2, .int 0), (1, .int 0), (0, .ref 0)], [.int 0, .ref 48, .ref 16], hc17_0)) rfl ?_
  refine am_k_call [.ref 16, .ref 48, .int 0] [] rfl rfl rfl rfl rfl rfl (Nat.le_of_ble_eq_true rfl) (fun _ => rfl) (Nat.le_of_ble_eq_true rfl) ?_
  refine am_k_e 9 (C' := (87, [(4, .int 0), (3, .int 0), (0, .ref 16), (1, .ref 48), (2, .int 0)], [.int 1], hc17_0)) rfl ?_
  refine am_k_ret (r := some (.int 1)) rfl rfl ?_
  refine am_k_e 2 (C' := (71, [(3, .int 0), (2, .int 0), (1, .int 0), (0, .ref 0)], [.int 0], hc17_0)) rfl ?_
  refine am_k_ret (r := some (.int 0)) rfl rfl ?_
  refine am_k_e 1 (C' := (650, [(3, .int 0), (2, .ref 78), (1, .ref 0), (0, .ref 2000001)], [.ref 78, .int 0], hc17_0)) rfl ?_
  refine am_k_call [.ref 78] [.int 0] rfl rfl rfl rfl rfl rfl (Nat.le_of_ble_eq_true rfl) (fun _ => rfl) (Nat.le_of_ble_eq_true rfl) ?_
  refine am_k_e 2 (C' := (2, [(0, .ref 78)], [.int 0, .ref 78], hc17_0)) rfl ?_
  refine am_k_call [.ref 78, .int 0] [] rfl rfl rfl rfl rfl rfl (Nat.le_of_ble_eq_true rfl) (fun _ => rfl) (Nat.le_of_ble_eq_true rfl) ?_
  refine am_k_e 11 (C' := (17, [(2, .int 0), (0, .ref 78), (1, .int 0)], [.long 20, .long 0, .long 0], hc17_1)) rfl ?_
  refine am_k_call [.long 0, .long 0, .long 20] [] rfl rfl rfl rfl rfl rfl (Nat.le_of_ble_eq_true rfl) (fun z => by cases z) (Nat.le_of_ble_eq_true rfl) ?_
  refine am_k_e 10 (C' := (18, [(0, .long 0), (2, .long 0), (4, .long 20)], [.int 1], hc17_1)) rfl ?_
  refine am_k_ret (r := some (.int 1)) rfl rfl ?_
  refine am_k_e 15 (C' := (95, [(3, .int 0), (2, .int 0), (0, .ref 78), (1, .int 0)], [.int 1], hc17_1)) rfl ?_
  refine am_k_ret (r := some (.int 1)) rfl rfl ?_
  refine am_k_e 8 (C' := (21, [(2, .int 0), (1, .int (-1)), (0, .ref 78)], [.ref 78, .int 1, .int 0], hc17_1)) rfl ?_
  refine am_k_call [.ref 78] [.int 1, .int 0] rfl rfl rfl rfl rfl rfl (Nat.le_of_ble_eq_true rfl) (fun _ => rfl) (Nat.le_of_ble_eq_true rfl) ?_
  refine am_k_e 4 (C' := (7, [(0, .ref 78)], [.int 0], hc17_1)) rfl ?_
  refine am_k_ret (r := some (.int 0)) rfl rfl ?_
  refine am_k_e 7 (C' := (49, [(2, .int 0), (1, .int (-1)), (0, .ref 78)], [.int 0, .ref 78], hc17_1)) rfl ?_
  refine am_k_call [.ref 78, .int 0] [] rfl rfl rfl rfl rfl rfl (Nat.le_of_ble_eq_true rfl) (fun _ => rfl) (Nat.le_of_ble_eq_true rfl) ?_
  refine am_k_e 9 (C' := (97, [(3, .int 0), (2, .int 0), (0, .ref 78), (1, .int 0)], [.int 1], hc17_1)) rfl ?_
  refine am_k_ret (r := some (.int 1)) rfl rfl ?_
  refine am_k_e 8 (C' := (21, [(2, .int 1), (1, .int 0), (0, .ref 78)], [.ref 78, .int 1, .int 1], hc17_1)) rfl ?_
  refine am_k_call [.ref 78] [.int 1, .int 1] rfl rfl rfl rfl rfl rfl (Nat.le_of_ble_eq_true rfl) (fun _ => rfl) (Nat.le_of_ble_eq_true rfl) ?_
  refine am_k_e 4 (C' := (7, [(0, .ref 78)], [.int 0], hc17_1)) rfl ?_
  refine am_k_ret (r := some (.int 0)) rfl rfl ?_
  refine am_k_e 3 (C' := (64, [(2, .int 1), (1, .int 0), (0, .ref 78)], [.int 0], hc17_1)) rfl ?_
  refine am_k_ret (r := some (.int 0)) rfl rfl ?_
  refine am_k_e 10 (C' := (974, [(3, .int 6), (2, .ref 78), (1, .ref 0), (0, .ref 2000001)], [.int 1], hc17_1)) rfl ?_
  exact am_k_ret (r := some (.int 1)) rfl rfl rfl

def hc18_0 : am_H := ((ph.set 1 (.inr (8, [.ref 2, .int 0]))).set 16 (.inr (4, [.ref 17, .int 0])))
def hc18_1 : am_H := (((ph.set 1 (.inr (8, [.ref 2, .int 0]))).set 16 (.inr (4, [.ref 17, .int 0]))).set 47 (.inl (0, 6, .inl (upd (fun _ => 0) 1 1))))
def hc18_2 : am_H := ((((ph.set 1 (.inr (8, [.ref 2, .int 0]))).set 16 (.inr (4, [.ref 17, .int 0]))).set 47 (.inl (0, 6, .inl (upd (fun _ => 0) 1 1)))).set 78 (.inr (12, [.ref 79, .int 0, .int 0, .int 0, .int 0, .int 0, .int 0, .int 0, .int (-1), .ref 80, .ref 81, .ref 82, .ref 83, .ref 84, .ref 85, .ref 86, .ref 87, .ref 88, .ref 89, .ref 90, .ref 91, .ref 92, .ref 93, .ref 94, .ref 95, .ref 96, .ref 97, .ref 98, .ref 99, .ref 100, .int 0, .ref 101, .ref 102, .ref 103, .ref 104, .ref 105, .ref 106, .ref 107, .ref 108, .ref 109, .int 0, .int 0, .int 0, .ref 110, .ref 111, .ref 112, .int 0, .int 0, .int 0, .int 0, .int 0, .ref 113, .ref 114, .ref 115, .ref 116, .int 0, .int (-1), .int (-1), .int 0, .ref 117, .ref 118, .int 0, .int 0, .long 1, .ref 119, .ref 120, .ref 121, .ref 122, .ref 123, .ref 124, .ref 125, .ref 126, .ref 127, .ref 128, .ref 129, .ref 130, .ref 131, .ref 132, .ref 133, .ref 134, .ref 135, .ref 136, .ref 137, .ref 138, .int 0, .ref 139, .int 0, .int 0, .int 0, .ref 140, .int 0, .long 0, .int 0, .ref 141, .int 0])))
def hc18_3 : am_H := (((((ph.set 1 (.inr (8, [.ref 2, .int 0]))).set 16 (.inr (4, [.ref 17, .int 0]))).set 47 (.inl (0, 6, .inl (upd (fun _ => 0) 1 1)))).set 78 (.inr (12, [.ref 79, .int 0, .int 0, .int 0, .int 0, .int 0, .int 0, .int 0, .int (-1), .ref 80, .ref 81, .ref 82, .ref 83, .ref 84, .ref 85, .ref 86, .ref 87, .ref 88, .ref 89, .ref 90, .ref 91, .ref 92, .ref 93, .ref 94, .ref 95, .ref 96, .ref 97, .ref 98, .ref 99, .ref 100, .int 0, .ref 101, .ref 102, .ref 103, .ref 104, .ref 105, .ref 106, .ref 107, .ref 108, .ref 109, .int 0, .int 0, .int 0, .ref 110, .ref 111, .ref 112, .int 0, .int 0, .int 0, .int 0, .int 0, .ref 113, .ref 114, .ref 115, .ref 116, .int 0, .int (-1), .int (-1), .int 0, .ref 117, .ref 118, .int 0, .int 0, .long 1, .ref 119, .ref 120, .ref 121, .ref 122, .ref 123, .ref 124, .ref 125, .ref 126, .ref 127, .ref 128, .ref 129, .ref 130, .ref 131, .ref 132, .ref 133, .ref 134, .ref 135, .ref 136, .ref 137, .ref 138, .int 0, .ref 139, .int 0, .int 0, .int 0, .ref 140, .int 0, .long 0, .int 0, .ref 141, .int 0]))).set 80 (.inl (0, 6, .inl (upd (fun _ => 0) 1 1))))
def hc18_4 : am_H := (((ph.set 0 (.inr (11, [.ref 1, .ref 3, .ref 4, .ref 6, .ref 11, .ref 16, .ref 18, .ref 21, .ref 44, .ref 45, .ref 46, .ref 47, .ref 48, .ref 63, .int 0, .int 0, .int 0, .long 1]))).set 1 (.inr (8, [.ref 2, .int 0]))).set 16 (.inr (4, [.ref 17, .int 0])))
def hc18_5 : am_H := ((((ph.set 0 (.inr (11, [.ref 1, .ref 3, .ref 4, .ref 6, .ref 11, .ref 16, .ref 18, .ref 21, .ref 44, .ref 45, .ref 46, .ref 47, .ref 48, .ref 63, .int 0, .int 0, .int 0, .long 1]))).set 1 (.inr (8, [.ref 2, .int 0]))).set 16 (.inr (4, [.ref 17, .int 0]))).set 78 (.inr (12, [.ref 79, .int 0, .int 0, .int 0, .int 0, .int 0, .int 0, .int 0, .int (-1), .ref 80, .ref 81, .ref 82, .ref 83, .ref 84, .ref 85, .ref 86, .ref 87, .ref 88, .ref 89, .ref 90, .ref 91, .ref 92, .ref 93, .ref 94, .ref 95, .ref 96, .ref 97, .ref 98, .ref 99, .ref 100, .int 0, .ref 101, .ref 102, .ref 103, .ref 104, .ref 105, .ref 106, .ref 107, .ref 108, .ref 109, .int 0, .int 0, .int 0, .ref 110, .ref 111, .ref 112, .int 0, .int 0, .int 0, .int 0, .int 0, .ref 113, .ref 114, .ref 115, .ref 116, .int 0, .int (-1), .int (-1), .int 0, .ref 117, .ref 118, .int 0, .int 0, .long 1, .ref 119, .ref 120, .ref 121, .ref 122, .ref 123, .ref 124, .ref 125, .ref 126, .ref 127, .ref 128, .ref 129, .ref 130, .ref 131, .ref 132, .ref 133, .ref 134, .ref 135, .ref 136, .ref 137, .ref 138, .int 0, .ref 139, .int 0, .int 0, .int 0, .ref 140, .int 0, .long 0, .int 0, .ref 141, .int 0])))
set_option maxHeartbeats 40000000 in
set_option maxRecDepth 100000 in
theorem p_c18 (xs : Nat → Int32) : am_k (am_E 6 xs) 2000 am_mL (658, [(3, .int 0), (2, .ref 78), (1, .ref 0), (0, .ref 2000001)], [], ph) (fun r _ => r = some (.int 1)) := by
  obtain ⟨a1, hx1⟩ : ∃ a, xs 1 = a := ⟨_, rfl⟩
  obtain ⟨a2, hx2⟩ : ∃ a, xs 2 = a := ⟨_, rfl⟩
  obtain ⟨a3, hx3⟩ : ∃ a, xs 3 = a := ⟨_, rfl⟩
  obtain ⟨a4, hx4⟩ : ∃ a, xs 4 = a := ⟨_, rfl⟩
  obtain ⟨a5, hx5⟩ : ∃ a, xs 5 = a := ⟨_, rfl⟩
  refine am_k_e 5 (C' := (663, [(3, .int 0), (2, .ref 78), (1, .ref 0), (0, .ref 2000001)], [.int 1, .ref 2000001, .ref 0], ph)) rfl ?_
  refine am_k_sld (v := a1) rfl (by decide) rfl rfl hx1 ?_
  refine am_k_call [.ref 0, .int a1] [] rfl rfl rfl rfl rfl rfl (Nat.le_of_ble_eq_true rfl) (fun _ => rfl) (Nat.le_of_ble_eq_true rfl) ?_
  refine am_k_e 6 (C' := (12, [(0, .ref 0), (1, .int a1)], [.ref 48, .ref 1, .ref 16], ph)) rfl ?_
  refine am_k_call [.ref 16, .ref 1, .ref 48] [] rfl rfl rfl rfl rfl rfl (Nat.le_of_ble_eq_true rfl) (fun _ => rfl) (Nat.le_of_ble_eq_true rfl) ?_
  refine am_k_e 4 (C' := (6, [(0, .ref 16), (1, .ref 1), (2, .ref 48)], [.ref 1], (ph.set 16 (.inr (4, [.ref 17, .int 0]))))) rfl ?_
  refine am_k_call [.ref 1] [] rfl rfl rfl rfl rfl rfl (Nat.le_of_ble_eq_true rfl) (fun _ => rfl) (Nat.le_of_ble_eq_true rfl) ?_
  refine am_k_e 2 (C' := (4, [(0, .ref 1)], [.int 0], (ph.set 16 (.inr (4, [.ref 17, .int 0]))))) rfl ?_
  refine am_k_ret (r := some (.int 0)) rfl rfl ?_
  refine am_k_e 9 (C' := (26, [(4, .int 0), (3, .int 1), (0, .ref 16), (1, .ref 1), (2, .ref 48)], [.ref 1, .int 0], (ph.set 16 (.inr (4, [.ref 17, .int 0]))))) rfl ?_
  refine am_k_call [.ref 1] [.int 0] rfl rfl rfl rfl rfl rfl (Nat.le_of_ble_eq_true rfl) (fun _ => rfl) (Nat.le_of_ble_eq_true rfl) ?_
  refine am_k_e 2 (C' := (4, [(0, .ref 1)], [.int 0], (ph.set 16 (.inr (4, [.ref 17, .int 0]))))) rfl ?_
  refine am_k_ret (r := some (.int 0)) rfl rfl ?_
  refine am_k_e 3 (C' := (96, [(4, .int 0), (3, .int 1), (0, .ref 16), (1, .ref 1), (2, .ref 48)], [.int 0, .ref 1], (ph.set 16 (.inr (4, [.ref 17, .int 0]))))) rfl ?_
  refine am_k_call [.ref 1, .int 0] [] rfl rfl rfl rfl rfl rfl (Nat.le_of_ble_eq_true rfl) (fun _ => rfl) (Nat.le_of_ble_eq_true rfl) ?_
  refine am_k_e 5 (C' := (7, [(0, .ref 1), (1, .int 0)], [.int 0, .int 0, .int 0, .ref 1], (ph.set 16 (.inr (4, [.ref 17, .int 0]))))) rfl ?_
  refine am_k_call [.int 0, .int 0] [.int 0, .ref 1] rfl rfl rfl rfl rfl rfl (Nat.le_of_ble_eq_true rfl) (fun z => by cases z) (Nat.le_of_ble_eq_true rfl) ?_
  refine am_k_e 5 (C' := (10, [(0, .int 0), (1, .int 0)], [.int 0], (ph.set 16 (.inr (4, [.ref 17, .int 0]))))) rfl ?_
  refine am_k_ret (r := some (.int 0)) rfl rfl ?_
  refine am_k_call [.int 0, .int 0] [.ref 1] rfl rfl rfl rfl rfl rfl (Nat.le_of_ble_eq_true rfl) (fun z => by cases z) (Nat.le_of_ble_eq_true rfl) ?_
  refine am_k_e 5 (C' := (10, [(0, .int 0), (1, .int 0)], [.int 0], (ph.set 16 (.inr (4, [.ref 17, .int 0]))))) rfl ?_
  refine am_k_ret (r := some (.int 0)) rfl rfl ?_
  refine am_k_e 1 (C' := (16, [(0, .ref 1), (1, .int 0)], [], hc18_0)) rfl ?_
  refine am_k_ret (r := none) rfl rfl ?_
  refine am_k_e 1 (C' := (100, [(4, .int 0), (3, .int 1), (0, .ref 16), (1, .ref 1), (2, .ref 48)], [.int 1], hc18_0)) rfl ?_
  refine am_k_ret (r := some (.int 1)) rfl rfl ?_
  refine am_k_e 4 (C' := (23, [(0, .ref 0), (1, .int a1)], [.int a1, .ref 48], hc18_0)) rfl ?_
  refine am_k_call [.ref 48, .int a1] [] rfl rfl rfl rfl rfl rfl (Nat.le_of_ble_eq_true rfl) (fun _ => rfl) (Nat.le_of_ble_eq_true rfl) ?_
  refine am_k_e 1 (C' := (1, [(0, .ref 48), (1, .int a1)], [.int a1], hc18_0)) rfl ?_
  refine am_k_if rfl rfl (fun q1 => ?_) (fun q1 => ?_)
  · have h1 : a1.toInt < (0 : Int) := ccT_lt q1
    refine am_k_e 1 (C' := (18, [(0, .ref 48), (1, .int a1)], [.int 0], hc18_0)) rfl ?_
    refine am_k_ret (r := some (.int 0)) rfl rfl ?_
    refine am_k_e 3 (C' := (31, [(0, .ref 0), (1, .int a1)], [.int 1, .ref 0], hc18_0)) rfl ?_
    refine am_k_call [.ref 0, .int 1] [] rfl rfl rfl rfl rfl rfl (Nat.le_of_ble_eq_true rfl) (fun _ => rfl) (Nat.le_of_ble_eq_true rfl) ?_
    refine am_k_e 6 (C' := (10, [(0, .ref 0), (1, .int 1)], [.int 1, .ref 47, .int 1, .ref 47], hc18_0)) rfl ?_
    refine am_k_call [.ref 47, .int 1] [.int 1, .ref 47] rfl rfl rfl rfl rfl rfl (Nat.le_of_ble_eq_true rfl) (fun z => by cases z) (Nat.le_of_ble_eq_true rfl) ?_
    refine am_k_e 10 (C' := (17, [(0, .ref 47), (1, .int 1)], [.int 0], hc18_0)) rfl ?_
    refine am_k_ret (r := some (.int 0)) rfl rfl ?_
    refine am_k_e 2 (C' := (15, [(0, .ref 0), (1, .int 1)], [.int 1, .int 1, .ref 47], hc18_0)) rfl ?_
    refine am_k_call [.ref 47, .int 1, .int 1] [] rfl rfl rfl rfl rfl rfl (Nat.le_of_ble_eq_true rfl) (fun z => by cases z) (Nat.le_of_ble_eq_true rfl) ?_
    refine am_k_e 10 (C' := (14, [(0, .ref 47), (1, .int 1), (2, .int 1)], [], hc18_1)) rfl ?_
    refine am_k_ret (r := none) rfl rfl ?_
    refine am_k_e 1 (C' := (19, [(0, .ref 0), (1, .int 1)], [.int (-1)], hc18_1)) rfl ?_
    refine am_k_ret (r := some (.int (-1))) rfl rfl ?_
    refine am_k_ret (r := some (.int (-1))) rfl rfl ?_
    refine am_k_e 5 (C' := (672, [(3, .int 0), (2, .ref 78), (1, .ref 0), (0, .ref 2000001)], [.int 1, .ref 2000001, .ref 78, .int (-1)], hc18_1)) rfl ?_
    refine am_k_sld (v := a1) rfl (by decide) rfl rfl hx1 ?_
    refine am_k_call [.ref 78, .int a1] [.int (-1)] rfl rfl rfl rfl rfl rfl (Nat.le_of_ble_eq_true rfl) (fun _ => rfl) (Nat.le_of_ble_eq_true rfl) ?_
    refine am_k_e 2 (C' := (2, [(0, .ref 78), (1, .int a1)], [.int 0, .ref 78], hc18_1)) rfl ?_
    refine am_k_call [.ref 78, .int 0] [] rfl rfl rfl rfl rfl rfl (Nat.le_of_ble_eq_true rfl) (fun _ => rfl) (Nat.le_of_ble_eq_true rfl) ?_
    refine am_k_e 11 (C' := (17, [(2, .int 0), (0, .ref 78), (1, .int 0)], [.long 20, .long 0, .long 0], hc18_2)) rfl ?_
    refine am_k_call [.long 0, .long 0, .long 20] [] rfl rfl rfl rfl rfl rfl (Nat.le_of_ble_eq_true rfl) (fun z => by cases z) (Nat.le_of_ble_eq_true rfl) ?_
    refine am_k_e 10 (C' := (18, [(0, .long 0), (2, .long 0), (4, .long 20)], [.int 1], hc18_2)) rfl ?_
    refine am_k_ret (r := some (.int 1)) rfl rfl ?_
    refine am_k_e 15 (C' := (95, [(3, .int 0), (2, .int 0), (0, .ref 78), (1, .int 0)], [.int 1], hc18_2)) rfl ?_
    refine am_k_ret (r := some (.int 1)) rfl rfl ?_
    refine am_k_e 3 (C' := (10, [(0, .ref 78), (1, .int a1)], [.int a1, .ref 78], hc18_2)) rfl ?_
    refine am_k_call [.ref 78, .int a1] [] rfl rfl rfl rfl rfl rfl (Nat.le_of_ble_eq_true rfl) (fun _ => rfl) (Nat.le_of_ble_eq_true rfl) ?_
    refine am_k_e 5 (C' := (5, [(0, .ref 78), (1, .int a1)], [.ref 78, .int 1, .long 0, .long (a1.toInt64)], hc18_2)) rfl ?_
    refine am_k_call [.ref 78] [.int 1, .long 0, .long (a1.toInt64)] rfl rfl rfl rfl rfl rfl (Nat.le_of_ble_eq_true rfl) (fun _ => rfl) (Nat.le_of_ble_eq_true rfl) ?_
    refine am_k_e 4 (C' := (7, [(0, .ref 78)], [.int 0], hc18_2)) rfl ?_
    refine am_k_ret (r := some (.int 0)) rfl rfl ?_
    refine am_k_e 4 (C' := (12, [(0, .ref 78), (1, .int a1)], [.long 0, .long 0, .long (a1.toInt64)], hc18_2)) rfl ?_
    refine am_k_call [.long (a1.toInt64), .long 0, .long 0] [] rfl rfl rfl rfl rfl rfl (Nat.le_of_ble_eq_true rfl) (fun z => by cases z) (Nat.le_of_ble_eq_true rfl) ?_
    refine am_k_e 3 (C' := (3, [(0, .long (a1.toInt64)), (2, .long 0), (4, .long 0)], [.int (lg_cmp (a1.toInt64) 0)], hc18_2)) rfl ?_
    refine am_k_ifT rfl rfl (lgpT_lt (show a1.toInt < (0 : Int) by omega)) ?_
    refine am_k_e 1 (C' := (18, [(0, .long (a1.toInt64)), (2, .long 0), (4, .long 0)], [.int 0], hc18_2)) rfl ?_
    refine am_k_ret (r := some (.int 0)) rfl rfl ?_
    refine am_k_ret (r := some (.int 0)) rfl rfl ?_
    refine am_k_e 3 (C' := (18, [(0, .ref 78), (1, .int a1)], [.int 1, .ref 78], hc18_2)) rfl ?_
    refine am_k_call [.ref 78, .int 1] [] rfl rfl rfl rfl rfl rfl (Nat.le_of_ble_eq_true rfl) (fun _ => rfl) (Nat.le_of_ble_eq_true rfl) ?_
    refine am_k_e 9 (C' := (11, [(0, .ref 78), (1, .int 1)], [.int (-1)], hc18_3)) rfl ?_
    refine am_k_ret (r := some (.int (-1))) rfl rfl ?_
    refine am_k_ret (r := some (.int (-1))) rfl rfl ?_
    refine am_k_e 10 (C' := (974, [(3, .int 6), (2, .ref 78), (1, .ref 0), (0, .ref 2000001)], [.int 1], hc18_3)) rfl ?_
    exact am_k_ret (r := some (.int 1)) rfl rfl rfl
  · have h1 : (0 : Int) ≤ a1.toInt := ccF_lt q1
    refine am_k_e 3 (C' := (7, [(0, .ref 48), (1, .int a1)], [.int 2, .ref 48, .int a1], hc18_0)) rfl ?_
    refine am_k_call [.ref 48, .int 2] [.int a1] rfl rfl rfl rfl rfl rfl (Nat.le_of_ble_eq_true rfl) (fun _ => rfl) (Nat.le_of_ble_eq_true rfl) ?_
    refine am_k_e 3 (C' := (3, [(0, .ref 48), (1, .int 2)], [.int 2, .ref 48, .int 1], hc18_0)) rfl ?_
    refine am_k_call [.ref 48, .int 2] [.int 1] rfl rfl rfl rfl rfl rfl (Nat.le_of_ble_eq_true rfl) (fun _ => rfl) (Nat.le_of_ble_eq_true rfl) ?_
    refine am_k_e 3 (C' := (5, [(0, .ref 48), (1, .int 2)], [.int 2, .ref 52], hc18_0)) rfl ?_
    refine am_k_call [.ref 52, .int 2] [] rfl rfl rfl rfl rfl rfl (Nat.le_of_ble_eq_true rfl) (fun z => by cases z) (Nat.le_of_ble_eq_true rfl) ?_
    refine am_k_e 10 (C' := (17, [(0, .ref 52), (1, .int 2)], [.int 0], hc18_0)) rfl ?_
    refine am_k_ret (r := some (.int 0)) rfl rfl ?_
    refine am_k_ret (r := some (.int 0)) rfl rfl ?_
    refine am_k_e 3 (C' := (9, [(0, .ref 48), (1, .int 2)], [.int 0], hc18_0)) rfl ?_
    refine am_k_ret (r := some (.int 0)) rfl rfl ?_
    refine am_k_icmp rfl rfl (fun q2 => ?_) (fun q2 => ?_)
    · have h2 : (0 : Int) < a1.toInt := ccT_gt q2
      refine am_k_e 1 (C' := (18, [(0, .ref 48), (1, .int a1)], [.int 0], hc18_0)) rfl ?_
      refine am_k_ret (r := some (.int 0)) rfl rfl ?_
      refine am_k_e 3 (C' := (31, [(0, .ref 0), (1, .int a1)], [.int 1, .ref 0], hc18_0)) rfl ?_
      refine am_k_call [.ref 0, .int 1] [] rfl rfl rfl rfl rfl rfl (Nat.le_of_ble_eq_true rfl) (fun _ => rfl) (Nat.le_of_ble_eq_true rfl) ?_
      refine am_k_e 6 (C' := (10, [(0, .ref 0), (1, .int 1)], [.int 1, .ref 47, .int 1, .ref 47], hc18_0)) rfl ?_
      refine am_k_call [.ref 47, .int 1] [.int 1, .ref 47] rfl rfl rfl rfl rfl rfl (Nat.le_of_ble_eq_true rfl) (fun z => by cases z) (Nat.le_of_ble_eq_true rfl) ?_
      refine am_k_e 10 (C' := (17, [(0, .ref 47), (1, .int 1)], [.int 0], hc18_0)) rfl ?_
      refine am_k_ret (r := some (.int 0)) rfl rfl ?_
      refine am_k_e 2 (C' := (15, [(0, .ref 0), (1, .int 1)], [.int 1, .int 1, .ref 47], hc18_0)) rfl ?_
      refine am_k_call [.ref 47, .int 1, .int 1] [] rfl rfl rfl rfl rfl rfl (Nat.le_of_ble_eq_true rfl) (fun z => by cases z) (Nat.le_of_ble_eq_true rfl) ?_
      refine am_k_e 10 (C' := (14, [(0, .ref 47), (1, .int 1), (2, .int 1)], [], hc18_1)) rfl ?_
      refine am_k_ret (r := none) rfl rfl ?_
      refine am_k_e 1 (C' := (19, [(0, .ref 0), (1, .int 1)], [.int (-1)], hc18_1)) rfl ?_
      refine am_k_ret (r := some (.int (-1))) rfl rfl ?_
      refine am_k_ret (r := some (.int (-1))) rfl rfl ?_
      refine am_k_e 5 (C' := (672, [(3, .int 0), (2, .ref 78), (1, .ref 0), (0, .ref 2000001)], [.int 1, .ref 2000001, .ref 78, .int (-1)], hc18_1)) rfl ?_
      refine am_k_sld (v := a1) rfl (by decide) rfl rfl hx1 ?_
      refine am_k_call [.ref 78, .int a1] [.int (-1)] rfl rfl rfl rfl rfl rfl (Nat.le_of_ble_eq_true rfl) (fun _ => rfl) (Nat.le_of_ble_eq_true rfl) ?_
      refine am_k_e 2 (C' := (2, [(0, .ref 78), (1, .int a1)], [.int 0, .ref 78], hc18_1)) rfl ?_
      refine am_k_call [.ref 78, .int 0] [] rfl rfl rfl rfl rfl rfl (Nat.le_of_ble_eq_true rfl) (fun _ => rfl) (Nat.le_of_ble_eq_true rfl) ?_
      refine am_k_e 11 (C' := (17, [(2, .int 0), (0, .ref 78), (1, .int 0)], [.long 20, .long 0, .long 0], hc18_2)) rfl ?_
      refine am_k_call [.long 0, .long 0, .long 20] [] rfl rfl rfl rfl rfl rfl (Nat.le_of_ble_eq_true rfl) (fun z => by cases z) (Nat.le_of_ble_eq_true rfl) ?_
      refine am_k_e 10 (C' := (18, [(0, .long 0), (2, .long 0), (4, .long 20)], [.int 1], hc18_2)) rfl ?_
      refine am_k_ret (r := some (.int 1)) rfl rfl ?_
      refine am_k_e 15 (C' := (95, [(3, .int 0), (2, .int 0), (0, .ref 78), (1, .int 0)], [.int 1], hc18_2)) rfl ?_
      refine am_k_ret (r := some (.int 1)) rfl rfl ?_
      refine am_k_e 3 (C' := (10, [(0, .ref 78), (1, .int a1)], [.int a1, .ref 78], hc18_2)) rfl ?_
      refine am_k_call [.ref 78, .int a1] [] rfl rfl rfl rfl rfl rfl (Nat.le_of_ble_eq_true rfl) (fun _ => rfl) (Nat.le_of_ble_eq_true rfl) ?_
      refine am_k_e 5 (C' := (5, [(0, .ref 78), (1, .int a1)], [.ref 78, .int 1, .long 0, .long (a1.toInt64)], hc18_2)) rfl ?_
      refine am_k_call [.ref 78] [.int 1, .long 0, .long (a1.toInt64)] rfl rfl rfl rfl rfl rfl (Nat.le_of_ble_eq_true rfl) (fun _ => rfl) (Nat.le_of_ble_eq_true rfl) ?_
      refine am_k_e 4 (C' := (7, [(0, .ref 78)], [.int 0], hc18_2)) rfl ?_
      refine am_k_ret (r := some (.int 0)) rfl rfl ?_
      refine am_k_e 4 (C' := (12, [(0, .ref 78), (1, .int a1)], [.long 0, .long 0, .long (a1.toInt64)], hc18_2)) rfl ?_
      refine am_k_call [.long (a1.toInt64), .long 0, .long 0] [] rfl rfl rfl rfl rfl rfl (Nat.le_of_ble_eq_true rfl) (fun z => by cases z) (Nat.le_of_ble_eq_true rfl) ?_
      refine am_k_e 3 (C' := (3, [(0, .long (a1.toInt64)), (2, .long 0), (4, .long 0)], [.int (lg_cmp (a1.toInt64) 0)], hc18_2)) rfl ?_
      refine am_k_ifF rfl rfl (lgpF_lt (show (0 : Int) ≤ a1.toInt by omega)) ?_
      refine am_k_e 3 (C' := (10, [(0, .long (a1.toInt64)), (2, .long 0), (4, .long 0)], [.int (lg_cmp (a1.toInt64) 0)], hc18_2)) rfl ?_
      refine am_k_ifT rfl rfl (lgpT_gt (show (0 : Int) < a1.toInt by omega)) ?_
      refine am_k_e 1 (C' := (18, [(0, .long (a1.toInt64)), (2, .long 0), (4, .long 0)], [.int 0], hc18_2)) rfl ?_
      refine am_k_ret (r := some (.int 0)) rfl rfl ?_
      refine am_k_ret (r := some (.int 0)) rfl rfl ?_
      refine am_k_e 3 (C' := (18, [(0, .ref 78), (1, .int a1)], [.int 1, .ref 78], hc18_2)) rfl ?_
      refine am_k_call [.ref 78, .int 1] [] rfl rfl rfl rfl rfl rfl (Nat.le_of_ble_eq_true rfl) (fun _ => rfl) (Nat.le_of_ble_eq_true rfl) ?_
      refine am_k_e 9 (C' := (11, [(0, .ref 78), (1, .int 1)], [.int (-1)], hc18_3)) rfl ?_
      refine am_k_ret (r := some (.int (-1))) rfl rfl ?_
      refine am_k_ret (r := some (.int (-1))) rfl rfl ?_
      refine am_k_e 10 (C' := (974, [(3, .int 6), (2, .ref 78), (1, .ref 0), (0, .ref 2000001)], [.int 1], hc18_3)) rfl ?_
      exact am_k_ret (r := some (.int 1)) rfl rfl rfl
    · have h2 : a1.toInt ≤ (0 : Int) := ccF_gt q2
      obtain rfl : a1 = 0 := Int32.toInt_inj.mp (show a1.toInt = (0 : Int) by omega)
      refine am_k_e 2 (C' := (18, [(0, .ref 48), (1, .int 0)], [.int 1], hc18_0)) rfl ?_
      refine am_k_ret (r := some (.int 1)) rfl rfl ?_
      refine am_k_e 11 (C' := (49, [(3, .int 0), (2, .int 0), (0, .ref 0), (1, .int 0)], [.ref 16, .int 0], hc18_4)) rfl ?_
      refine am_k_call [.ref 16] [.int 0] rfl rfl rfl rfl rfl rfl (Nat.le_of_ble_eq_true rfl) (fun _ => rfl) (Nat.le_of_ble_eq_true rfl) ?_
      refine am_k_e 2 (C' := (4, [(0, .ref 16)], [.int 0], hc18_4)) rfl ?_
      refine am_k_ret (r := some (.int 0)) rfl rfl ?_
      refine am_k_e 2 (C' := (112, [(3, .int 0), (2, .int 0), (0, .ref 0), (1, .int 0)], [.int 0], hc18_4)) rfl ?_
      refine am_k_ret (r := some (.int 0)) rfl rfl ?_
      refine am_k_e 5 (C' := (672, [(3, .int 0), (2, .ref 78), (1, .ref 0), (0, .ref 2000001)], [.int 1, .ref 2000001, .ref 78, .int 0], hc18_4)) rfl ?_
      refine am_k_sld (v := 0) rfl (by decide) rfl rfl hx1 ?_
      refine am_k_call [.ref 78, .int 0] [.int 0] rfl rfl rfl rfl rfl rfl (Nat.le_of_ble_eq_true rfl) (fun _ => rfl) (Nat.le_of_ble_eq_true rfl) ?_
      refine am_k_e 2 (C' := (2, [(0, .ref 78), (1, .int 0)], [.int 0, .ref 78], hc18_4)) rfl ?_
      refine am_k_call [.ref 78, .int 0] [] rfl rfl rfl rfl rfl rfl (Nat.le_of_ble_eq_true rfl) (fun _ => rfl) (Nat.le_of_ble_eq_true rfl) ?_
      refine am_k_e 11 (C' := (17, [(2, .int 0), (0, .ref 78), (1, .int 0)], [.long 20, .long 0, .long 0], hc18_5)) rfl ?_
      refine am_k_call [.long 0, .long 0, .long 20] [] rfl rfl rfl rfl rfl rfl (Nat.le_of_ble_eq_true rfl) (fun z => by cases z) (Nat.le_of_ble_eq_true rfl) ?_
      refine am_k_e 10 (C' := (18, [(0, .long 0), (2, .long 0), (4, .long 20)], [.int 1], hc18_5)) rfl ?_
      refine am_k_ret (r := some (.int 1)) rfl rfl ?_
      refine am_k_e 15 (C' := (95, [(3, .int 0), (2, .int 0), (0, .ref 78), (1, .int 0)], [.int 1], hc18_5)) rfl ?_
      refine am_k_ret (r := some (.int 1)) rfl rfl ?_
      refine am_k_e 3 (C' := (10, [(0, .ref 78), (1, .int 0)], [.int 0, .ref 78], hc18_5)) rfl ?_
      refine am_k_call [.ref 78, .int 0] [] rfl rfl rfl rfl rfl rfl (Nat.le_of_ble_eq_true rfl) (fun _ => rfl) (Nat.le_of_ble_eq_true rfl) ?_
      refine am_k_e 5 (C' := (5, [(0, .ref 78), (1, .int 0)], [.ref 78, .int 1, .long 0, .long 0], hc18_5)) rfl ?_
      refine am_k_call [.ref 78] [.int 1, .long 0, .long 0] rfl rfl rfl rfl rfl rfl (Nat.le_of_ble_eq_true rfl) (fun _ => rfl) (Nat.le_of_ble_eq_true rfl) ?_
      refine am_k_e 4 (C' := (7, [(0, .ref 78)], [.int 0], hc18_5)) rfl ?_
      refine am_k_ret (r := some (.int 0)) rfl rfl ?_
      refine am_k_e 4 (C' := (12, [(0, .ref 78), (1, .int 0)], [.long 0, .long 0, .long 0], hc18_5)) rfl ?_
      refine am_k_call [.long 0, .long 0, .long 0] [] rfl rfl rfl rfl rfl rfl (Nat.le_of_ble_eq_true rfl) (fun z => by cases z) (Nat.le_of_ble_eq_true rfl) ?_
      refine am_k_e 10 (C' := (18, [(0, .long 0), (2, .long 0), (4, .long 0)], [.int 1], hc18_5)) rfl ?_
      refine am_k_ret (r := some (.int 1)) rfl rfl ?_
      refine am_k_ret (r := some (.int 1)) rfl rfl ?_
      refine am_k_e 16 (C' := (130, [(3, .int 0), (2, .int 0), (0, .ref 78), (1, .int 0)], [.int 0], hc18_5)) rfl ?_
      refine am_k_ret (r := some (.int 0)) rfl rfl ?_
      refine am_k_e 10 (C' := (974, [(3, .int 6), (2, .ref 78), (1, .ref 0), (0, .ref 2000001)], [.int 1], hc18_5)) rfl ?_
      exact am_k_ret (r := some (.int 1)) rfl rfl rfl
