def hc24_0 : am_H := ((ph.set 1 (.inr (8, [.ref 2, .int 0]))).set 16 (.inr (4, [.ref 17, .int 0])))
def hc24_1 : am_H := (((ph.set 1 (.inr (8, [.ref 2, .int 0]))).set 16 (.inr (4, [.ref 17, .int 0]))).set 47 (.inl (0, 6, .inl (upd (fun _ => 0) 2 1))))
def hc24_2 : am_H := ((((ph.set 1 (.inr (8, [.ref 2, .int 0]))).set 16 (.inr (4, [.ref 17, .int 0]))).set 47 (.inl (0, 6, .inl (upd (fun _ => 0) 2 1)))).set 78 (.inr (12, [.ref 79, .int 0, .int 0, .int 0, .int 0, .int 0, .int 0, .int 0, .int (-1), .ref 80, .ref 81, .ref 82, .ref 83, .ref 84, .ref 85, .ref 86, .ref 87, .ref 88, .ref 89, .ref 90, .ref 91, .ref 92, .ref 93, .ref 94, .ref 95, .ref 96, .ref 97, .ref 98, .ref 99, .ref 100, .int 0, .ref 101, .ref 102, .ref 103, .ref 104, .ref 105, .ref 106, .ref 107, .ref 108, .ref 109, .int 0, .int 0, .int 0, .ref 110, .ref 111, .ref 112, .int 0, .int 0, .int 0, .int 0, .int 0, .ref 113, .ref 114, .ref 115, .ref 116, .int 0, .int (-1), .int (-1), .int 0, .ref 117, .ref 118, .int 0, .int 0, .long 1, .ref 119, .ref 120, .ref 121, .ref 122, .ref 123, .ref 124, .ref 125, .ref 126, .ref 127, .ref 128, .ref 129, .ref 130, .ref 131, .ref 132, .ref 133, .ref 134, .ref 135, .ref 136, .ref 137, .ref 138, .int 0, .ref 139, .int 0, .int 0, .int 0, .ref 140, .int 0, .long 0, .int 0, .ref 141, .int 0])))
def hc24_3 : am_H := (((((ph.set 1 (.inr (8, [.ref 2, .int 0]))).set 16 (.inr (4, [.ref 17, .int 0]))).set 47 (.inl (0, 6, .inl (upd (fun _ => 0) 2 1)))).set 78 (.inr (12, [.ref 79, .int 0, .int 0, .int 0, .int 0, .int 0, .int 0, .int 0, .int (-1), .ref 80, .ref 81, .ref 82, .ref 83, .ref 84, .ref 85, .ref 86, .ref 87, .ref 88, .ref 89, .ref 90, .ref 91, .ref 92, .ref 93, .ref 94, .ref 95, .ref 96, .ref 97, .ref 98, .ref 99, .ref 100, .int 0, .ref 101, .ref 102, .ref 103, .ref 104, .ref 105, .ref 106, .ref 107, .ref 108, .ref 109, .int 0, .int 0, .int 0, .ref 110, .ref 111, .ref 112, .int 0, .int 0, .int 0, .int 0, .int 0, .ref 113, .ref 114, .ref 115, .ref 116, .int 0, .int (-1), .int (-1), .int 0, .ref 117, .ref 118, .int 0, .int 0, .long 1, .ref 119, .ref 120, .ref 121, .ref 122, .ref 123, .ref 124, .ref 125, .ref 126, .ref 127, .ref 128, .ref 129, .ref 130, .ref 131, .ref 132, .ref 133, .ref 134, .ref 135, .ref 136, .ref 137, .ref 138, .int 0, .ref 139, .int 0, .int 0, .int 0, .ref 140, .int 0, .long 0, .int 0, .ref 141, .int 0]))).set 80 (.inl (0, 6, .inl (upd (fun _ => 0) 2 1))))
set_option maxHeartbeats 40000000 in
set_option maxRecDepth 100000 in
theorem p_c24 (xs : Nat → Int32) : am_k (am_E 6 xs) 2000 am_mL (786, [(3, .int 0), (2, .ref 78), (1, .ref 0), (0, .ref 2000001)], [], ph) (fun r _ => r = some (.int 1)) := by
  obtain ⟨a1, hx1⟩ : ∃ a, xs 1 = a := ⟨_, rfl⟩
  obtain ⟨a2, hx2⟩ : ∃ a, xs 2 = a := ⟨_, rfl⟩
  obtain ⟨a3, hx3⟩ : ∃ a, xs 3 = a := ⟨_, rfl⟩
  obtain ⟨a4, hx4⟩ : ∃ a, xs 4 = a := ⟨_, rfl⟩
  obtain ⟨a5, hx5⟩ : ∃ a, xs 5 = a := ⟨_, rfl⟩
  refine am_k_e 1 (C' := (787, [(3, .int 0), (2, .ref 78), (1, .ref 0), (0, .ref 2000001)], [.ref 0], ph)) rfl ?_
  refine am_k_call [.ref 0] [] rfl rfl rfl rfl rfl rfl (Nat.le_of_ble_eq_true rfl) (fun _ => rfl) (Nat.le_of_ble_eq_true rfl) ?_
  refine am_k_e 6 (C' := (12, [(0, .ref 0)], [.ref 48, .ref 1, .ref 16], ph)) rfl ?_
  refine am_k_call [.ref 16, .ref 1, .ref 48] [] rfl rfl rfl rfl rfl rfl (Nat.le_of_ble_eq_true rfl) (fun _ => rfl) (Nat.le_of_ble_eq_true rfl) ?_
  refine am_k_e 4 (C' := (6, [(0, .ref 16), (1, .ref 1), (2, .ref 48)], [.ref 1], (ph.set 16 (.inr (4, [.ref 17, .int 0]))))) rfl ?_
  refine am_k_call [.ref 1] [] rfl rfl rfl rfl rfl rfl (Nat.le_of_ble_eq_true rfl) (fun _ => rfl) (Nat.le_of_ble_eq_true rfl) ?_
  refine am_k_e 2 (C' := (4, [(0, .ref 1)], [.int 0], (ph.set 16 (.inr (4, [.ref 17, .int 0]))))) rfl ?_
  refine am_k_ret (r := some (.int 0)) rfl rfl ?_
  refine am_k_e 9 (C' := (26, [(4, .int 0), (3, .int 1), (0, .ref 16), (1, .ref 1), (2, .ref 48)], [.ref 1, .int 0], (ph.set 16 (.inr (4, [.ref 17, .int 0]))))) rfl ?_
  refine am_k_call [.ref 1] [.int 0] rfl rfl rfl rfl rfl rfl (Nat.le_of_ble_eq_true rfl) (fun _ => rfl) (Nat.le_of_ble_eq_true rfl) ?_
  refine am_k_e 2 (C' := (4, [(0, .ref 1)], [.int 0], (ph.set 16 (.inr (4, [.ref 17, .int 0]))))) rfl ?_
  refine am_k_ret (r := some (.int 0)) rfl rfl ?_
  refine am_k_e 3 (C' := (96, [(4, .int 0), (3, .int 1), (0, .ref 16), (1, .ref 1), (2, .ref 48)], [.int 0, .ref 1], (ph.set 16 (.inr (4, [.ref 17, .int 0]))))) rfl ?_
  refine am_k_call [.ref 1, .int 0] [] rfl rfl rfl rfl rfl rfl (Nat.le_of_ble_eq_true rfl) (fun _ => rfl) (Nat.le_of_ble_eq_true rfl) ?_
  refine am_k_e 5 (C' := (7, [(0, .ref 1), (1, .int 0)], [.int 0, .int 0, .int 0, .ref 1], (ph.set 16 (.inr (4, [.ref 17, .int 0]))))) rfl ?_
  refine am_k_call [.int 0, .int 0] [.int 0, .ref 1] rfl rfl rfl rfl rfl rfl (Nat.le_of_ble_eq_true rfl) (fun z => by cases z) (Nat.le_of_ble_eq_true rfl) ?_
  refine am_k_e 5 (C' := (10, [(0, .int 0), (1, .int 0)], [.int 0], (ph.set 16 (.inr (4, [.ref 17, .int 0]))))) rfl ?_
  refine am_k_ret (r := some (.int 0)) rfl rfl ?_
  refine am_k_call [.int 0, .int 0] [.ref 1] rfl rfl rfl rfl rfl rfl (Nat.le_of_ble_eq_true rfl) (fun z => by cases z) (Nat.le_of_ble_eq_true rfl) ?_
  refine am_k_e 5 (C' := (10, [(0, .int 0), (1, .int 0)], [.int 0], (ph.set 16 (.inr (4, [.ref 17, .int 0]))))) rfl ?_
  refine am_k_ret (r := some (.int 0)) rfl rfl ?_
  refine am_k_e 1 (C' := (16, [(0, .ref 1), (1, .int 0)], [], hc24_0)) rfl ?_
  refine am_k_ret (r := none) rfl rfl ?_
  refine am_k_e 1 (C' := (100, [(4, .int 0), (3, .int 1), (0, .ref 16), (1, .ref 1), (2, .ref 48)], [.int 1], hc24_0)) rfl ?_
  refine am_k_ret (r := some (.int 1)) rfl rfl ?_
  refine am_k_e 3 (C' := (22, [(0, .ref 0)], [.ref 16], hc24_0)) rfl ?_
  refine am_k_call [.ref 16] [] rfl rfl rfl rfl rfl rfl (Nat.le_of_ble_eq_true rfl) (fun _ => rfl) (Nat.le_of_ble_eq_true rfl) ?_
  refine am_k_e 2 (C' := (4, [(0, .ref 16)], [.int 0], hc24_0)) rfl ?_
  refine am_k_ret (r := some (.int 0)) rfl rfl ?_
  refine am_k_e 3 (C' := (30, [(0, .ref 0)], [.int 2, .ref 0], hc24_0)) rfl ?_
  refine am_k_call [.ref 0, .int 2] [] rfl rfl rfl rfl rfl rfl (Nat.le_of_ble_eq_true rfl) (fun _ => rfl) (Nat.le_of_ble_eq_true rfl) ?_
  refine am_k_e 6 (C' := (10, [(0, .ref 0), (1, .int 2)], [.int 2, .ref 47, .int 2, .ref 47], hc24_0)) rfl ?_
  refine am_k_call [.ref 47, .int 2] [.int 2, .ref 47] rfl rfl rfl rfl rfl rfl (Nat.le_of_ble_eq_true rfl) (fun z => by cases z) (Nat.le_of_ble_eq_true rfl) ?_
  refine am_k_e 10 (C' := (17, [(0, .ref 47), (1, .int 2)], [.int 0], hc24_0)) rfl ?_
  refine am_k_ret (r := some (.int 0)) rfl rfl ?_
  refine am_k_e 2 (C' := (15, [(0, .ref 0), (1, .int 2)], [.int 1, .int 2, .ref 47], hc24_0)) rfl ?_
  refine am_k_call [.ref 47, .int 2, .int 1] [] rfl rfl rfl rfl rfl rfl (Nat.le_of_ble_eq_true rfl) (fun z => by cases z) (Nat.le_of_ble_eq_true rfl) ?_
  refine am_k_e 10 (C' := (14, [(0, .ref 47), (1, .int 2), (2, .int 1)], [], hc24_1)) rfl ?_
  refine am_k_ret (r := none) rfl rfl ?_
  refine am_k_e 1 (C' := (19, [(0, .ref 0), (1, .int 2)], [.int (-1)], hc24_1)) rfl ?_
  refine am_k_ret (r := some (.int (-1))) rfl rfl ?_
  refine am_k_ret (r := some (.int (-1))) rfl rfl ?_
  refine am_k_e 1 (C' := (791, [(3, .int 0), (2, .ref 78), (1, .ref 0), (0, .ref 2000001)], [.ref 78, .int (-1)], hc24_1)) rfl ?_
  refine am_k_call [.ref 78] [.int (-1)] rfl rfl rfl rfl rfl rfl (Nat.le_of_ble_eq_true rfl) (fun _ => rfl) (Nat.le_of_ble_eq_true rfl) ?_
  refine am_k_e 2 (C' := (2, [(0, .ref 78)], [.int 1, .ref 78], hc24_1)) rfl ?_
  refine am_k_call [.ref 78, .int 1] [] rfl rfl rfl rfl rfl rfl (Nat.le_of_ble_eq_true rfl) (fun _ => rfl) (Nat.le_of_ble_eq_true rfl) ?_
  refine am_k_e 11 (C' := (17, [(2, .int 0), (0, .ref 78), (1, .int 1)], [.long 20, .long 1, .long 0], hc24_2)) rfl ?_
  refine am_k_call [.long 0, .long 1, .long 20] [] rfl rfl rfl rfl rfl rfl (Nat.le_of_ble_eq_true rfl) (fun z => by cases z) (Nat.le_of_ble_eq_true rfl) ?_
  refine am_k_e 5 (C' := (18, [(0, .long 0), (2, .long 1), (4, .long 20)], [.int 0], hc24_2)) rfl ?_
  refine am_k_ret (r := some (.int 0)) rfl rfl ?_
  refine am_k_e 2 (C' := (24, [(2, .int 0), (0, .ref 78), (1, .int 1)], [.int 0], hc24_2)) rfl ?_
  refine am_k_ret (r := some (.int 0)) rfl rfl ?_
  refine am_k_e 3 (C' := (10, [(0, .ref 78)], [.int 2, .ref 78], hc24_2)) rfl ?_
  refine am_k_call [.ref 78, .int 2] [] rfl rfl rfl rfl rfl rfl (Nat.le_of_ble_eq_true rfl) (fun _ => rfl) (Nat.le_of_ble_eq_true rfl) ?_
  refine am_k_e 9 (C' := (11, [(0, .ref 78), (1, .int 2)], [.int (-1)], hc24_3)) rfl ?_
  refine am_k_ret (r := some (.int (-1))) rfl rfl ?_
  refine am_k_ret (r := some (.int (-1))) rfl rfl ?_
  refine am_k_e 10 (C' := (974, [(3, .int 6), (2, .ref 78), (1, .ref 0), (0, .ref 2000001)], [.int 1], hc24_3)) rfl ?_
  exact am_k_ret (r := some (.int 1)) rfl rfl rfl

def hc25_0 : am_H := ((ph.set 47 (.inl (0, 6, .inl (upd (fun _ => 0) 3 1)))).set 80 (.inl (0, 6, .inl (upd (fun _ => 0) 3 1))))
set_option maxHeartbeats 40000000 in
set_option maxRecDepth 100000 in
theorem p_c25 (xs : Nat → Int32) : am_k (am_E 6 xs) 2000 am_mL (799, [(3, .int 0), (2, .ref 78), (1, .ref 0), (0, .ref 2000001)], [], ph) (fun r _ => r = some (.int 1)) := by
  obtain ⟨a1, hx1⟩ : ∃ a, xs 1 = a := ⟨_, rfl⟩
  obtain ⟨a2, hx2⟩ : ∃ a, xs 2 = a := ⟨_, rfl⟩
  obtain ⟨a3, hx3⟩ : ∃ a, xs 3 = a := ⟨_, rfl⟩
  obtain ⟨a4, hx4⟩ : ∃ a, xs 4 = a := ⟨_, rfl⟩
  obtain ⟨a5, hx5⟩ : ∃ a, xs 5 = a := ⟨_, rfl⟩
  refine am_k_e 5 (C' := (804, [(3, .int 0), (2, .ref 78), (1, .ref 0), (0, .ref 2000001)], [.int 1, .ref 2000001, .ref 0], ph)) rfl ?_
  refine am_k_sld (v := a1) rfl (by decide) rfl rfl hx1 ?_
  refine am_k_call [.ref 0, .int a1] [] rfl rfl rfl rfl rfl rfl (Nat.le_of_ble_eq_true rfl) (fun _ => rfl) (Nat.le_of_ble_eq_true rfl) ?_
  refine am_k_e 2 (C' := (4, [(0, .ref 0), (1, .int a1)], [.ref 21], ph)) rfl ?_
  refine am_k_call [.ref 21] [] rfl rfl rfl rfl rfl rfl (Nat.le_of_ble_eq_true rfl) (fun _ => rfl) (Nat.le_of_ble_eq_true rfl) ?_
  refine am_k_e 3 (C' := (5, [(0, .ref 21)], [.int 0, .ref 22], ph)) rfl ?_
  refine am_k_call [.ref 22, .int 0] [] rfl rfl rfl rfl rfl rfl (Nat.le_of_ble_eq_true rfl) (fun z => by cases z) (Nat.le_of_ble_eq_true rfl) ?_
  refine am_k_e 10 (C' := (17, [(0, .ref 22), (1, .int 0)], [.int 0], ph)) rfl ?_
  refine am_k_ret (r := some (.int 0)) rfl rfl ?_
  refine am_k_ret (r := some (.int 0)) rfl rfl ?_
  refine am_k_e 5 (C' := (14, [(2, .int 0), (0, .ref 0), (1, .int a1)], [.int a1, .int 0, .ref 48], ph)) rfl ?_
  refine am_k_call [.ref 48, .int 0, .int a1] [] rfl rfl rfl rfl rfl rfl (Nat.le_of_ble_eq_true rfl) (fun _ => rfl) (Nat.le_of_ble_eq_true rfl) ?_
  refine am_k_e 6 (C' := (10, [(0, .ref 48), (1, .int 0), (2, .int a1)], [.int a1], ph)) rfl ?_
  refine am_k_if rfl rfl (fun q1 => ?_) (fun q1 => ?_)
  · have h1 : a1.toInt < (0 : Int) := ccT_lt q1
    refine am_k_e 1 (C' := (30, [(0, .ref 48), (1, .int 0), (2, .int a1)], [.int 0], ph)) rfl ?_
    refine am_k_ret (r := some (.int 0)) rfl rfl ?_
    refine am_k_e 3 (C' := (34, [(2, .int 0), (0, .ref 0), (1, .int a1)], [.int 3, .ref 0], ph)) rfl ?_
    refine am_k_call [.ref 0, .int 3] [] rfl rfl rfl rfl rfl rfl (Nat.le_of_ble_eq_true rfl) (fun _ => rfl) (Nat.le_of_ble_eq_true rfl) ?_
    refine am_k_e 6 (C' := (10, [(0, .ref 0), (1, .int 3)], [.int 3, .ref 47, .int 3, .ref 47], ph)) rfl ?_
    refine am_k_call [.ref 47, .int 3] [.int 3, .ref 47] rfl rfl rfl rfl rfl rfl (Nat.le_of_ble_eq_true rfl) (fun z => by cases z) (Nat.le_of_ble_eq_true rfl) ?_
    refine am_k_e 10 (C' := (17, [(0, .ref 47), (1, .int 3)], [.int 0], ph)) rfl ?_
    refine am_k_ret (r := some (.int 0)) rfl rfl ?_
    refine am_k_e 2 (C' := (15, [(0, .ref 0), (1, .int 3)], [.int 1, .int 3, .ref 47], ph)) rfl ?_
    refine am_k_call [.ref 47, .int 3, .int 1] [] rfl rfl rfl rfl rfl rfl (Nat.le_of_ble_eq_true rfl) (fun z => by cases z) (Nat.le_of_ble_eq_true rfl) ?_
    refine am_k_e 10 (C' := (14, [(0, .ref 47), (1, .int 3), (2, .int 1)], [], (ph.set 47 (.inl (0, 6, .inl (upd (fun _ => 0) 3 1)))))) rfl ?_
    refine am_k_ret (r := none) rfl rfl ?_
    refine am_k_e 1 (C' := (19, [(0, .ref 0), (1, .int 3)], [.int (-1)], (ph.set 47 (.inl (0, 6, .inl (upd (fun _ => 0) 3 1)))))) rfl ?_
    refine am_k_ret (r := some (.int (-1))) rfl rfl ?_
    refine am_k_e 2 (C' := (39, [(2, .int 0), (0, .ref 0), (1, .int a1)], [.int 0], (ph.set 47 (.inl (0, 6, .inl (upd (fun _ => 0) 3 1)))))) rfl ?_
    refine am_k_ret (r := some (.int 0)) rfl rfl ?_
    refine am_k_e 5 (C' := (813, [(3, .int 0), (2, .ref 78), (1, .ref 0), (0, .ref 2000001)], [.int 1, .ref 2000001, .ref 78, .int 0], (ph.set 47 (.inl (0, 6, .inl (upd (fun _ => 0) 3 1)))))) rfl ?_
    refine am_k_sld (v := a1) rfl (by decide) rfl rfl hx1 ?_
    refine am_k_call [.ref 78, .int a1] [.int 0] rfl rfl rfl rfl rfl rfl (Nat.le_of_ble_eq_true rfl) (fun _ => rfl) (Nat.le_of_ble_eq_true rfl) ?_
    refine am_k_e 2 (C' := (2, [(0, .ref 78), (1, .int a1)], [.int a1, .ref 78], (ph.set 47 (.inl (0, 6, .inl (upd (fun _ => 0) 3 1)))))) rfl ?_
    refine am_k_call [.ref 78, .int a1] [] rfl rfl rfl rfl rfl rfl (Nat.le_of_ble_eq_true rfl) (fun _ => rfl) (Nat.le_of_ble_eq_true rfl) ?_
    refine am_k_e 4 (C' := (4, [(0, .ref 78), (1, .int a1)], [.ref 78, .long 0, .long (a1.toInt64)], (ph.set 47 (.inl (0, 6, .inl (upd (fun _ => 0) 3 1)))))) rfl ?_
    refine am_k_call [.ref 78] [.long 0, .long (a1.toInt64)] rfl rfl rfl rfl rfl rfl (Nat.le_of_ble_eq_true rfl) (fun _ => rfl) (Nat.le_of_ble_eq_true rfl) ?_
    refine am_k_e 4 (C' := (6, [(0, .ref 78)], [.int 0], (ph.set 47 (.inl (0, 6, .inl (upd (fun _ => 0) 3 1)))))) rfl ?_
    refine am_k_ret (r := some (.int 0)) rfl rfl ?_
    refine am_k_e 3 (C' := (10, [(0, .ref 78), (1, .int a1)], [.long (-1), .long 0, .long (a1.toInt64)], (ph.set 47 (.inl (0, 6, .inl (upd (fun _ => 0) 3 1)))))) rfl ?_
    refine am_k_call [.long (a1.toInt64), .long 0, .long (-1)] [] rfl rfl rfl rfl rfl rfl (Nat.le_of_ble_eq_true rfl) (fun z => by cases z) (Nat.le_of_ble_eq_true rfl) ?_
    refine am_k_e 3 (C' := (3, [(0, .long (a1.toInt64)), (2, .long 0), (4, .long (-1))], [.int (lg_cmp (a1.toInt64) 0)], (ph.set 47 (.inl (0, 6, .inl (upd (fun _ => 0) 3 1)))))) rfl ?_
    refine am_k_ifT rfl rfl (lgpT_lt (show a1.toInt < (0 : Int) by omega)) ?_
    refine am_k_e 1 (C' := (18, [(0, .long (a1.toInt64)), (2, .long 0), (4, .long (-1))], [.int 0], (ph.set 47 (.inl (0, 6, .inl (upd (fun _ => 0) 3 1)))))) rfl ?_
    refine am_k_ret (r := some (.int 0)) rfl rfl ?_
    refine am_k_ret (r := some (.int 0)) rfl rfl ?_
    refine am_k_e 10 (C' := (27, [(0, .ref 78), (1, .int a1)], [.int 0], hc25_0)) rfl ?_
    refine am_k_ret (r := some (.int 0)) rfl rfl ?_
    refine am_k_e 10 (C' := (974, [(3, .int 6), (2, .ref 78), (1, .ref 0), (0, .ref 2000001)], [.int 1], hc25_0)) rfl ?_
    exact am_k_ret (r := some (.int 1)) rfl rfl rfl
  · have h1 : (0 : Int) ≤ a1.toInt := ccF_lt q1
    refine am_k_e 4 (C' := (19, [(0, .ref 48), (1, .int 0), (2, .int a1)], [.int 0, .ref 52, .int a1], ph)) rfl ?_
    refine am_k_call [.ref 52, .int 0] [.int a1] rfl rfl rfl rfl rfl rfl (Nat.le_of_ble_eq_true rfl) (fun z => by cases z) (Nat.le_of_ble_eq_true rfl) ?_
    refine am_k_e 10 (C' := (17, [(0, .ref 52), (1, .int 0)], [.int 0], ph)) rfl ?_
    refine am_k_ret (r := some (.int 0)) rfl rfl ?_
    refine am_k_icmpT rfl rfl (ccpT (fun z => by have z1 : a1.toInt < (0 : Int) := ccF_ge z; omega)) ?_
    refine am_k_e 1 (C' := (30, [(0, .ref 48), (1, .int 0), (2, .int a1)], [.int 0], ph)) rfl ?_
    refine am_k_ret (r := some (.int 0)) rfl rfl ?_
    refine am_k_e 3 (C' := (34, [(2, .int 0), (0, .ref 0), (1, .int a1)], [.int 3, .ref 0], ph)) rfl ?_
    refine am_k_call [.ref 0, .int 3] [] rfl rfl rfl rfl rfl rfl (Nat.le_of_ble_eq_true rfl) (fun _ => rfl) (Nat.le_of_ble_eq_true rfl) ?_
    refine am_k_e 6 (C' := (10, [(0, .ref 0), (1, .int 3)], [.int 3, .ref 47, .int 3, .ref 47], ph)) rfl ?_
    refine am_k_call [.ref 47, .int 3] [.int 3, .ref 47] rfl rfl rfl rfl rfl rfl (Nat.le_of_ble_eq_true rfl) (fun z => by cases z) (Nat.le_of_ble_eq_true rfl) ?_
    refine am_k_e 10 (C' := (17, [(0, .ref 47), (1, .int 3)], [.int 0], ph)) rfl ?_
    refine am_k_ret (r := some (.int 0)) rfl rfl ?_
    refine am_k_e 2 (C' := (15, [(0, .ref 0), (1, .int 3)], [.int 1, .int 3, .ref 47], ph)) rfl ?_
    refine am_k_call [.ref 47, .int 3, .int 1] [] rfl rfl rfl rfl rfl rfl (Nat.le_of_ble_eq_true rfl) (fun z => by cases z) (Nat.le_of_ble_eq_true rfl) ?_
    refine am_k_e 10 (C' := (14, [(0, .ref 47), (1, .int 3), (2, .int 1)], [], (ph.set 47 (.inl (0, 6, .inl (upd (fun _ => 0) 3 1)))))) rfl ?_
    refine am_k_ret (r := none) rfl rfl ?_
    refine am_k_e 1 (C' := (19, [(0, .ref 0), (1, .int 3)], [.int (-1)], (ph.set 47 (.inl (0, 6, .inl (upd (fun _ => 0) 3 1)))))) rfl ?_
    refine am_k_ret (r := some (.int (-1))) rfl rfl ?_
    refine am_k_e 2 (C' := (39, [(2, .int 0), (0, .ref 0), (1, .int a1)], [.int 0], (ph.set 47 (.inl (0, 6, .inl (upd (fun _ => 0) 3 1)))))) rfl ?_
    refine am_k_ret (r := some (.int 0)) rfl rfl ?_
    refine am_k_e 5 (C' := (813, [(3, .int 0), (2, .ref 78), (1, .ref 0), (0, .ref 2000001)], [.int 1, .ref 2000001, .ref 78, .int 0], (ph.set 47 (.inl (0, 6, .inl (upd (fun _ => 0) 3 1)))))) rfl ?_
    refine am_k_sld (v := a1) rfl (by decide) rfl rfl hx1 ?_
    refine am_k_call [.ref 78, .int a1] [.int 0] rfl rfl rfl rfl rfl rfl (Nat.le_of_ble_eq_true rfl) (fun _ => rfl) (Nat.le_of_ble_eq_true rfl) ?_
    refine am_k_e 2 (C' := (2, [(0, .ref 78), (1, .int a1)], [.int a1, .ref 78], (ph.set 47 (.inl (0, 6, .inl (upd (fun _ => 0) 3 1)))))) rfl ?_
    refine am_k_call [.ref 78, .int a1] [] rfl rfl rfl rfl rfl rfl (Nat.le_of_ble_eq_true rfl) (fun _ => rfl) (Nat.le_of_ble_eq_true rfl) ?_
    refine am_k_e 4 (C' := (4, [(0, .ref 78), (1, .int a1)], [.ref 78, .long 0, .long (a1.toInt64)], (ph.set 47 (.inl (0, 6, .inl (upd (fun _ => 0) 3 1)))))) rfl ?_
    refine am_k_call [.ref 78] [.long 0, .long (a1.toInt64)] rfl rfl rfl rfl rfl rfl (Nat.le_of_ble_eq_true rfl) (fun _ => rfl) (Nat.le_of_ble_eq_true rfl) ?_
    refine am_k_e 4 (C' := (6, [(0, .ref 78)], [.int 0], (ph.set 47 (.inl (0, 6, .inl (upd (fun _ => 0) 3 1)))))) rfl ?_
    refine am_k_ret (r := some (.int 0)) rfl rfl ?_
    refine am_k_e 3 (C' := (10, [(0, .ref 78), (1, .int a1)], [.long (-1), .long 0, .long (a1.toInt64)], (ph.set 47 (.inl (0, 6, .inl (upd (fun _ => 0) 3 1)))))) rfl ?_
    refine am_k_call [.long (a1.toInt64), .long 0, .long (-1)] [] rfl rfl rfl rfl rfl rfl (Nat.le_of_ble_eq_true rfl) (fun z => by cases z) (Nat.le_of_ble_eq_true rfl) ?_
    refine am_k_e 3 (C' := (3, [(0, .long (a1.toInt64)), (2, .long 0), (4, .long (-1))], [.int (lg_cmp (a1.toInt64) 0)], (ph.set 47 (.inl (0, 6, .inl (upd (fun _ => 0) 3 1)))))) rfl ?_
    refine am_k_ifF rfl rfl (lgpF_lt (show (0 : Int) ≤ a1.toInt by omega)) ?_
    refine am_k_e 3 (C' := (10, [(0, .long (a1.toInt64)), (2, .long 0), (4, .long (-1))], [.int (lg_cmp (a1.toInt64) (-1))], (ph.set 47 (.inl (0, 6, .inl (upd (fun _ => 0) 3 1)))))) rfl ?_
    refine am_k_ifT rfl rfl (lgpT_gt (show (-1 : Int) < a1.toInt by omega)) ?_
    refine am_k_e 1 (C' := (18, [(0, .long (a1.toInt64)), (2, .long 0), (4, .long (-1))], [.int 0], (ph.set 47 (.inl (0, 6, .inl (upd (fun _ => 0) 3 1)))))) rfl ?_
    refine am_k_ret (r := some (.int 0)) rfl rfl ?_
    refine am_k_ret (r := some (.int 0)) rfl rfl ?_
    refine am_k_e 10 (C' := (27, [(0, .ref 78), (1, .int a1)], [.int 0], hc25_0)) rfl ?_
    refine am_k_ret (r := some (.int 0)) rfl rfl ?_
    refine am_k_e 10 (C' := (974, [(3, .int 6), (2, .ref 78), (1, .ref 0), (0, .ref 2000001)], [.int 1], hc25_0)) rfl ?_
    exact am_k_ret (r := some (.int 1)) rfl rfl rfl

def hc26_0 : am_H := ((ph.set 47 (.inl (0, 6, .inl (upd (fun _ => 0) 3 1)))).set 80 (.inl (0, 6, .inl (upd (fun _ => 0) 3 1))))
set_option maxHeartbeats 40000000 in
set_option maxRecDepth 100000 in
theorem p_c26 (xs : Nat → Int32) : am_k (am_E 6 xs) 2000 am_mL (822, [(3, .int 0), (2, .ref 78), (1, .ref 0), (0, .ref 2000001)], [], ph) (fun r _ => r = some (.int 1)) := by
  obtain ⟨a1, hx1⟩ : ∃ a, xs 1 = a := ⟨_, rfl⟩
  obtain ⟨a2, hx2⟩ : ∃ a, xs 2 = a := ⟨_, rfl⟩
  obtain ⟨a3, hx3⟩ : ∃ a, xs 3 = a := ⟨_, rfl⟩
  obtain ⟨a4, hx4⟩ : ∃ a, xs 4 = a := ⟨_, rfl⟩
  obtain ⟨a5, hx5⟩ : ∃ a, xs 5 = a := ⟨_, rfl⟩
  refine am_k_e 5 (C' := (827, [(3, .int 0), (2, .ref 78), (1, .ref 0), (0, .ref 2000001)], [.int 1, .ref 2000001, .ref 0], ph)) rfl ?_
  refine am_k_sld (v := a1) rfl (by decide) rfl rfl hx1 ?_
  refine am_k_call [.ref 0, .int a1] [] rfl rfl rfl rfl rfl rfl (Nat.le_of_ble_eq_true rfl) (fun _ => rfl) (Nat.le_of_ble_eq_true rfl) ?_
  refine am_k_e 2 (C' := (2, [(0, .ref 0), (1, .int a1)], [.int 1, .int a1], ph)) rfl ?_
  refine am_k_icmp rfl rfl (fun q1 => ?_) (fun q1 => ?_)
  · have h1 : a1.toInt < (1 : Int) := ccT_lt q1
    refine am_k_e 2 (C' := (24, [(0, .ref 0), (1, .int a1)], [.int 3, .ref 0], ph)) rfl ?_
    refine am_k_call [.ref 0, .int 3] [] rfl rfl rfl rfl rfl rfl (Nat.le_of_ble_eq_true rfl) (fun _ => rfl) (Nat.le_of_ble_eq_true rfl) ?_
    refine am_k_e 6 (C' := (10, [(0, .ref 0), (1, .int 3)], [.int 3, .ref 47, .int 3, .ref 47], ph)) rfl ?_
    refine am_k_call [.ref 47, .int 3] [.int 3, .ref 47] rfl rfl rfl rfl rfl rfl (Nat.le_of_ble_eq_true rfl) (fun z => by cases z) (Nat.le_of_ble_eq_true rfl) ?_
    refine am_k_e 10 (C' := (17, [(0, .ref 47), (1, .int 3)], [.int 0], ph)) rfl ?_
    refine am_k_ret (r := some (.int 0)) rfl rfl ?_
    refine am_k_e 2 (C' := (15, [(0, .ref 0), (1, .int 3)], [.int 1, .int 3, .ref 47], ph)) rfl ?_
    refine am_k_call [.ref 47, .int 3, .int 1] [] rfl rfl rfl rfl rfl rfl (Nat.le_of_ble_eq_true rfl) (fun z => by cases z) (Nat.le_of_ble_eq_true rfl) ?_
    refine am_k_e 10 (C' := (14, [(0, .ref 47), (1, .int 3), (2, .int 1)], [], (ph.set 47 (.inl (0, 6, .inl (upd (fun _ => 0) 3 1)))))) rfl ?_
    refine am_k_ret (r := none) rfl rfl ?_
    refine am_k_e 1 (C' := (19, [(0, .ref 0), (1, .int 3)], [.int (-1)], (ph.set 47 (.inl (0, 6, .inl (upd (fun _ => 0) 3 1)))))) rfl ?_
    refine am_k_ret (r := some (.int (-1))) rfl rfl ?_
    refine am_k_ret (r := some (.int (-1))) rfl rfl ?_
    refine am_k_e 5 (C' := (836, [(3, .int 0), (2, .ref 78), (1, .ref 0), (0, .ref 2000001)], [.int 1, .ref 2000001, .ref 78, .int (-1)], (ph.set 47 (.inl (0, 6, .inl (upd (fun _ => 0) 3 1)))))) rfl ?_
    refine am_k_sld (v := a1) rfl (by decide) rfl rfl hx1 ?_
    refine am_k_call [.ref 78, .int a1] [.int (-1)] rfl rfl rfl rfl rfl rfl (Nat.le_of_ble_eq_true rfl) (fun _ => rfl) (Nat.le_of_ble_eq_true rfl) ?_
    refine am_k_e 4 (C' := (6, [(0, .ref 78), (1, .int a1)], [.long 50, .long 1, .long (a1.toInt64)], (ph.set 47 (.inl (0, 6, .inl (upd (fun _ => 0) 3 1)))))) rfl ?_
    refine am_k_call [.long (a1.toInt64), .long 1, .long 50] [] rfl rfl rfl rfl rfl rfl (Nat.le_of_ble_eq_true rfl) (fun z => by cases z) (Nat.le_of_ble_eq_true rfl) ?_
    refine am_k_e 3 (C' := (3, [(0, .long (a1.toInt64)), (2, .long 1), (4, .long 50)], [.int (lg_cmp (a1.toInt64) 1)], (ph.set 47 (.inl (0, 6, .inl (upd (fun _ => 0) 3 1)))))) rfl ?_
    refine am_k_ifT rfl rfl (lgpT_lt (show a1.toInt < (1 : Int) by omega)) ?_
    refine am_k_e 1 (C' := (18, [(0, .long (a1.toInt64)), (2, .long 1), (4, .long 50)], [.int 0], (ph.set 47 (.inl (0, 6, .inl (upd (fun _ => 0) 3 1)))))) rfl ?_
    refine am_k_ret (r := some (.int 0)) rfl rfl ?_
    refine am_k_e 3 (C' := (21, [(0, .ref 78), (1, .int a1)], [.int 3, .ref 78], (ph.set 47 (.inl (0, 6, .inl (upd (fun _ => 0) 3 1)))))) rfl ?_
    refine am_k_call [.ref 78, .int 3] [] rfl rfl rfl rfl rfl rfl (Nat.le_of_ble_eq_true rfl) (fun _ => rfl) (Nat.le_of_ble_eq_true rfl) ?_
    refine am_k_e 9 (C' := (11, [(0, .ref 78), (1, .int 3)], [.int (-1)], hc26_0)) rfl ?_
    refine am_k_ret (r := some (.int (-1))) rfl rfl ?_
    refine am_k_ret (r := some (.int (-1))) rfl rfl ?_
    refine am_k_e 10 (C' := (974, [(3, .int 6), (2, .ref 78), (1, .ref 0), (0, .ref 2000001)], [.int 1], hc26_0)) rfl ?_
    exact am_k_ret (r := some (.int 1)) rfl rfl rfl
  · have h1 : (1 : Int) ≤ a1.toInt := ccF_lt q1
    refine am_k_e 2 (C' := (8, [(0, .ref 0), (1, .int a1)], [.int 50, .int a1], ph)) rfl ?_
    refine am_k_icmp rfl rfl (fun q2 => ?_) (fun q2 => ?_)
    · have h2 : (50 : Int) < a1.toInt := ccT_gt q2
      refine am_k_e 2 (C' := (24, [(0, .ref 0), (1, .int a1)], [.int 3, .ref 0], ph)) rfl ?_
      refine am_k_call [.ref 0, .int 3] [] rfl rfl rfl rfl rfl rfl (Nat.le_of_ble_eq_true rfl) (fun _ => rfl) (Nat.le_of_ble_eq_true rfl) ?_
      refine am_k_e 6 (C' := (10, [(0, .ref 0), (1, .int 3)], [.int 3, .ref 47, .int 3, .ref 47], ph)) rfl ?_
      refine am_k_call [.ref 47, .int 3] [.int 3, .ref 47] rfl rfl rfl rfl rfl rfl (Nat.le_of_ble_eq_true rfl) (fun z => by cases z) (Nat.le_of_ble_eq_true rfl) ?_
      refine am_k_e 10 (C' := (17, [(0, .ref 47), (1, .int 3)], [.int 0], ph)) rfl ?_
      refine am_k_ret (r := some (.int 0)) rfl rfl ?_
      refine am_k_e 2 (C' := (15, [(0, .ref 0), (1, .int 3)], [.int 1, .int 3, .ref 47], ph)) rfl ?_
      refine am_k_call [.ref 47, .int 3, .int 1] [] rfl rfl rfl rfl rfl rfl (Nat.le_of_ble_eq_true rfl) (fun z => by cases z) (Nat.le_of_ble_eq_true rfl) ?_
      refine am_k_e 10 (C' := (14, [(0, .ref 47), (1, .int 3), (2, .int 1)], [], (ph.set 47 (.inl (0, 6, .inl (upd (fun _ => 0) 3 1)))))) rfl ?_
      refine am_k_ret (r := none) rfl rfl ?_
      refine am_k_e 1 (C' := (19, [(0, .ref 0), (1, .int 3)], [.int (-1)], (ph.set 47 (.inl (0, 6, .inl (upd (fun _ => 0) 3 1)))))) rfl ?_
      refine am_k_ret (r := some (.int (-1))) rfl rfl ?_
      refine am_k_ret (r := some (.int (-1))) rfl rfl ?_
      refine am_k_e 5 (C' := (836, [(3, .int 0), (2, .ref 78), (1, .ref 0), (0, .ref 2000001)], [.int 1, .ref 2000001, .ref 78, .int (-1)], (ph.set 47 (.inl (0, 6, .inl (upd (fun _ => 0) 3 1)))))) rfl ?_
      refine am_k_sld (v := a1) rfl (by decide) rfl rfl hx1 ?_
      refine am_k_call [.ref 78, .int a1] [.int (-1)] rfl rfl rfl rfl rfl rfl (Nat.le_of_ble_eq_true rfl) (fun _ => rfl) (Nat.le_of_ble_eq_true rfl) ?_
      refine am_k_e 4 (C' := (6, [(0, .ref 78), (1, .int a1)], [.long 50, .long 1, .long (a1.toInt64)], (ph.set 47 (.inl (0, 6, .inl (upd (fun _ => 0) 3 1)))))) rfl ?_
      refine am_k_call [.long (a1.toInt64), .long 1, .long 50] [] rfl rfl rfl rfl rfl rfl (Nat.le_of_ble_eq_true rfl) (fun z => by cases z) (Nat.le_of_ble_eq_true rfl) ?_
      refine am_k_e 3 (C' := (3, [(0, .long (a1.toInt64)), (2, .long 1), (4, .long 50)], [.int (lg_cmp (a1.toInt64) 1)], (ph.set 47 (.inl (0, 6, .inl (upd (fun _ => 0) 3 1)))))) rfl ?_
      refine am_k_ifF rfl rfl (lgpF_lt (show (1 : Int) ≤ a1.toInt by omega)) ?_
      refine am_k_e 3 (C' := (10, [(0, .long (a1.toInt64)), (2, .long 1), (4, .long 50)], [.int (lg_cmp (a1.toInt64) 50)], (ph.set 47 (.inl (0, 6, .inl (upd (fun _ => 0) 3 1)))))) rfl ?_
      refine am_k_ifT rfl rfl (lgpT_gt (show (50 : Int) < a1.toInt by omega)) ?_
      refine am_k_e 1 (C' := (18, [(0, .long (a1.toInt64)), (2, .long 1), (4, .long 50)], [.int 0], (ph.set 47 (.inl (0, 6, .inl (upd (fun _ => 0) 3 1)))))) rfl ?_
      refine am_k_ret (r := some (.int 0)) rfl rfl ?_
      refine am_k_e 3 (C' := (21, [(0, .ref 78), (1, .int a1)], [.int 3, .ref 78], (ph.set 47 (.inl (0, 6, .inl (upd (fun _ => 0) 3 1)))))) rfl ?_
      refine am_k_call [.ref 78, .int 3] [] rfl rfl rfl rfl rfl rfl (Nat.le_of_ble_eq_true rfl) (fun _ => rfl) (Nat.le_of_ble_eq_true rfl) ?_
      refine am_k_e 9 (C' := (11, [(0, .ref 78), (1, .int 3)], [.int (-1)], hc26_0)) rfl ?_
      refine am_k_ret (r := some (.int (-1))) rfl rfl ?_
      refine am_k_ret (r := some (.int (-1))) rfl rfl ?_
      refine am_k_e 10 (C' := (974, [(3, .int 6), (2, .ref 78), (1, .ref 0), (0, .ref 2000001)], [.int 1], hc26_0)) rfl ?_
      exact am_k_ret (r := some (.int 1)) rfl rfl rfl
    · have h2 : a1.toInt ≤ (50 : Int) := ccF_gt q2
      refine am_k_e 3 (C' := (16, [(0, .ref 0), (1, .int a1)], [.int 1, .ref 48], ph)) rfl ?_
      refine am_k_call [.ref 48, .int 1] [] rfl rfl rfl rfl rfl rfl (Nat.le_of_ble_eq_true rfl) (fun _ => rfl) (Nat.le_of_ble_eq_true rfl) ?_
      refine am_k_e 3 (C' := (5, [(0, .ref 48), (1, .int 1)], [.int 1, .ref 52], ph)) rfl ?_
      refine am_k_call [.ref 52, .int 1] [] rfl rfl rfl rfl rfl rfl (Nat.le_of_ble_eq_true rfl) (fun z => by cases z) (Nat.le_of_ble_eq_true rfl) ?_
      refine am_k_e 10 (C' := (17, [(0, .ref 52), (1, .int 1)], [.int 0], ph)) rfl ?_
      refine am_k_ret (r := some (.int 0)) rfl rfl ?_
      refine am_k_ret (r := some (.int 0)) rfl rfl ?_
      refine am_k_e 3 (C' := (24, [(0, .ref 0), (1, .int a1)], [.int 3, .ref 0], ph)) rfl ?_
      refine am_k_call [.ref 0, .int 3] [] rfl rfl rfl rfl rfl rfl (Nat.le_of_ble_eq_true rfl) (fun _ => rfl) (Nat.le_of_ble_eq_true rfl) ?_
      refine am_k_e 6 (C' := (10, [(0, .ref 0), (1, .int 3)], [.int 3, .ref 47, .int 3, .ref 47], ph)) rfl ?_
      refine am_k_call [.ref 47, .int 3] [.int 3, .ref 47] rfl rfl rfl rfl rfl rfl (Nat.le_of_ble_eq_true rfl) (fun z => by cases z) (Nat.le_of_ble_eq_true rfl) ?_
      refine am_k_e 10 (C' := (17, [(0, .ref 47), (1, .int 3)], [.int 0], ph)) rfl ?_
      refine am_k_ret (r := some (.int 0)) rfl rfl ?_
      refine am_k_e 2 (C' := (15, [(0, .ref 0), (1, .int 3)], [.int 1, .int 3, .ref 47], ph)) rfl ?_
      refine am_k_call [.ref 47, .int 3, .int 1] [] rfl rfl rfl rfl rfl rfl (Nat.le_of_ble_eq_true rfl) (fun z => by cases z) (Nat.le_of_ble_eq_true rfl) ?_
      refine am_k_e 10 (C' := (14, [(0, .ref 47), (1, .int 3), (2, .int 1)], [], (ph.set 47 (.inl (0, 6, .inl (upd (fun _ => 0) 3 1)))))) rfl ?_
      refine am_k_ret (r := none) rfl rfl ?_
      refine am_k_e 1 (C' := (19, [(0, .ref 0), (1, .int 3)], [.int (-1)], (ph.set 47 (.inl (0, 6, .inl (upd (fun _ => 0) 3 1)))))) rfl ?_
      refine am_k_ret (r := some (.int (-1))) rfl rfl ?_
      refine am_k_ret (r := some (.int (-1))) rfl rfl ?_
      refine am_k_e 5 (C' := (836, [(3, .int 0), (2, .ref 78), (1, .ref 0), (0, .ref 2000001)], [.int 1, .ref 2000001, .ref 78, .int (-1)], (ph.set 47 (.inl (0, 6, .inl (upd (fun _ => 0) 3 1)))))) rfl ?_
      refine am_k_sld (v := a1) rfl (by decide) rfl rfl hx1 ?_
      refine am_k_call [.ref 78, .int a1] [.int (-1)] rfl rfl rfl rfl rfl rfl (Nat.le_of_ble_eq_true rfl) (fun _ => rfl) (Nat.le_of_ble_eq_true rfl) ?_
      refine am_k_e 4 (C' := (6, [(0, .ref 78), (1, .int a1)], [.long 50, .long 1, .long (a1.toInt64)], (ph.set 47 (.inl (0, 6, .inl (upd (fun _ => 0) 3 1)))))) rfl ?_
      refine am_k_call [.long (a1.toInt64), .long 1, .long 50] [] rfl rfl rfl rfl rfl rfl (Nat.le_of_ble_eq_true rfl) (fun z => by cases z) (Nat.le_of_ble_eq_true rfl) ?_
      refine am_k_e 3 (C' := (3, [(0, .long (a1.toInt64)), (2, .long 1), (4, .long 50)], [.int (lg_cmp (a1.toInt64) 1)], (ph.set 47 (.inl (0, 6, .inl (upd (fun _ => 0) 3 1)))))) rfl ?_
      refine am_k_ifF rfl rfl (lgpF_lt (show (1 : Int) ≤ a1.toInt by omega)) ?_
      refine am_k_e 3 (C' := (10, [(0, .long (a1.toInt64)), (2, .long 1), (4, .long 50)], [.int (lg_cmp (a1.toInt64) 50)], (ph.set 47 (.inl (0, 6, .inl (upd (fun _ => 0) 3 1)))))) rfl ?_
      refine am_k_ifF rfl rfl (lgpF_gt (show a1.toInt ≤ (50 : Int) by omega)) ?_
      refine am_k_e 2 (C' := (18, [(0, .long (a1.toInt64)), (2, .long 1), (4, .long 50)], [.int 1], (ph.set 47 (.inl (0, 6, .inl (upd (fun _ => 0) 3 1)))))) rfl ?_
      refine am_k_ret (r := some (.int 1)) rfl rfl ?_
      refine am_k_e 2 (C' := (13, [(0, .ref 78), (1, .int a1)], [.ref 78], (ph.set 47 (.inl (0, 6, .inl (upd (fun _ => 0) 3 1)))))) rfl ?_
      refine am_k_call [.ref 78] [] rfl rfl rfl rfl rfl rfl (Nat.le_of_ble_eq_true rfl) (fun _ => rfl) (Nat.le_of_ble_eq_true rfl) ?_
      refine am_k_e 4 (C' := (6, [(0, .ref 78)], [.int 0], (ph.set 47 (.inl (0, 6, .inl (upd (fun _ => 0) 3 1)))))) rfl ?_
      refine am_k_ret (r := some (.int 0)) rfl rfl ?_
      refine am_k_e 3 (C' := (21, [(0, .ref 78), (1, .int a1)], [.int 3, .ref 78], (ph.set 47 (.inl (0, 6, .inl (upd (fun _ => 0) 3 1)))))) rfl ?_
      refine am_k_call [.ref 78, .int 3] [] rfl rfl rfl rfl rfl rfl (Nat.le_of_ble_eq_true rfl) (fun _ => rfl) (Nat.le_of_ble_eq_true rfl) ?_
      refine am_k_e 9 (C' := (11, [(0, .ref 78), (1, .int 3)], [.int (-1)], hc26_0)) rfl ?_
      refine am_k_ret (r := some (.int (-1))) rfl rfl ?_
      refine am_k_ret (r := some (.int (-1))) rfl rfl ?_
      refine am_k_e 10 (C' := (974, [(3, .int 6), (2, .ref 78), (1, .ref 0), (0, .ref 2000001)], [.int 1], hc26_0)) rfl ?_
      exact am_k_ret (r := some (.int 1)) rfl rfl rfl

def hc29_0 : am_H := (ph.set 3 (.inr (10, [.ref 1, .int 3, .int 0, .int 0, .int 0, .int (-1)])))
def hc29_1 : am_H := (ph.set 3 (.inr (10, [.ref 1, .int 0, .int 0, .int 0, .int 0, .int (-1)])))
def hc29_2 : am_H := ((ph.set 3 (.inr (10, [.ref 1, .int 0, .int 0, .int 0, .int 0, .int (-1)]))).set 7 (.inr (0, [.ref 8, .ref 9, .int 0, .int 0])))
def hc29_3 : am_H := (((ph.set 3 (.inr (10, [.ref 1, .int 0, .int 0, .int 0, .int 0, .int (-1)]))).set 6 (.inr (5, [.ref 3, .ref 10, .ref 7, .int (-1)]))).set 7 (.inr (0, [.ref 8, .ref 9, .int 0, .int 0])))
def hc29_4 : am_H := (((ph.set 3 (.inr (10, [.ref 1, .int 0, .int 0, .int 0, .int 1, .int 0]))).set 6 (.inr (5, [.ref 3, .ref 10, .ref 7, .int (-1)]))).set 7 (.inr (0, [.ref 8, .ref 9, .int 0, .int 0])))
def hc29_5 : am_H := ((((ph.set 1 (.inr (8, [.ref 2, .int 0]))).set 3 (.inr (10, [.ref 1, .int 0, .int 0, .int 0, .int 1, .int 0]))).set 6 (.inr (5, [.ref 3, .ref 10, .ref 7, .int (-1)]))).set 7 (.inr (0, [.ref 8, .ref 9, .int 0, .int 0])))
def hc29_6 : am_H := (((((ph.set 1 (.inr (8, [.ref 2, .int 0]))).set 3 (.inr (10, [.ref 1, .int 0, .int 0, .int 0, .int 1, .int 0]))).set 6 (.inr (5, [.ref 3, .ref 10, .ref 7, .int (-1)]))).set 7 (.inr (0, [.ref 8, .ref 9, .int 0, .int 0]))).set 78 (.inr (12, [.ref 79, .int 0, .int 0, .int 0, .int (-1), .int 0, .int (-1), .int 0, .int (-1), .ref 80, .ref 81, .ref 82, .ref 83, .ref 84, .ref 85, .ref 86, .ref 87, .ref 88, .ref 89, .ref 90, .ref 91, .ref 92, .ref 93, .ref 94, .ref 95, .ref 96, .ref 97, .ref 98, .ref 99, .ref 100, .int 0, .ref 101, .ref 102, .ref 103, .ref 104, .ref 105, .ref 106, .ref 107, .ref 108, .ref 109, .int 0, .int 0, .int 0, .ref 110, .ref 111, .ref 112, .int 0, .int 0, .int 0, .int 0, .int 0, .ref 113, .ref 114, .ref 115, .ref 116, .int 0, .int (-1), .int (-1), .int 0, .ref 117, .ref 118, .int 0, .int 0, .long 1, .ref 119, .ref 120, .ref 121, .ref 122, .ref 123, .ref 124, .ref 125, .ref 126, .ref 127, .ref 128, .ref 129, .ref 130, .ref 131, .ref 132, .ref 133, .ref 134, .ref 135, .ref 136, .ref 137, .ref 138, .int 0, .ref 139, .int 0, .int 0, .int 0, .ref 140, .int 0, .long 0, .int 0, .ref 141, .int 0])))
def hc29_7 : am_H := (((((ph.set 1 (.inr (8, [.ref 2, .int 0]))).set 3 (.inr (10, [.ref 1, .int 0, .int 0, .int 0, .int 1, .int 0]))).set 6 (.inr (5, [.ref 3, .ref 10, .ref 7, .int (-1)]))).set 7 (.inr (0, [.ref 8, .ref 9, .int 0, .int 0]))).set 78 (.inr (12, [.ref 79, .int 0, .int 0, .int 0, .int (-1), .int 1, .int 0, .int 0, .int (-1), .ref 80, .ref 81, .ref 82, .ref 83, .ref 84, .ref 85, .ref 86, .ref 87, .ref 88, .ref 89, .ref 90, .ref 91, .ref 92, .ref 93, .ref 94, .ref 95, .ref 96, .ref 97, .ref 98, .ref 99, .ref 100, .int 0, .ref 101, .ref 102, .ref 103, .ref 104, .ref 105, .ref 106, .ref 107, .ref 108, .ref 109, .int 0, .int 0, .int 0, .ref 110, .ref 111, .ref 112, .int 0, .int 0, .int 0, .int 0, .int 0, .ref 113, .ref 114, .ref 115, .ref 116, .int 0, .int (-1), .int (-1), .int 0, .ref 117, .ref 118, .int 0, .int 0, .long 1, .ref 119, .ref 120, .ref 121, .ref 122, .ref 123, .ref 124, .ref 125, .ref 126, .ref 127, .ref 128, .ref 129, .ref 130, .ref 131, .ref 132, .ref 133, .ref 134, .ref 135, .ref 136, .ref 137, .ref 138, .int 0, .ref 139, .int 0, .int 0, .int 0, .ref 140, .int 0, .long 0, .int 0, .ref 141, .int 0])))
def hc29_8 : am_H := (((((ph.set 1 (.inr (8, [.ref 2, .int 0]))).set 3 (.inr (10, [.ref 1, .int 0, .int 0, .int 0, .int 1, .int 0]))).set 6 (.inr (5, [.ref 3, .ref 10, .ref 7, .int (-1)]))).set 7 (.inr (0, [.ref 8, .ref 9, .int 0, .int 0]))).set 78 (.inr (12, [.ref 79, .int 0, .int 0, .int 0, .int (-1), .int 1, .int 0, .int 1, .int 0, .ref 80, .ref 81, .ref 82, .ref 83, .ref 84, .ref 85, .ref 86, .ref 87, .ref 88, .ref 89, .ref 90, .ref 91, .ref 92, .ref 93, .ref 94, .ref 95, .ref 96, .ref 97, .ref 98, .ref 99, .ref 100, .int 0, .ref 101, .ref 102, .ref 103, .ref 104, .ref 105, .ref 106, .ref 107, .ref 108, .ref 109, .int 0, .int 0, .int 0, .ref 110, .ref 111, .ref 112, .int 0, .int 0, .int 0, .int 0, .int 0, .ref 113, .ref 114, .ref 115, .ref 116, .int 0, .int (-1), .int (-1), .int 0, .ref 117, .ref 118, .int 0, .int 0, .long 1, .ref 119, .ref 120, .ref 121, .ref 122, .ref 123, .ref 124, .ref 125, .ref 126, .ref 127, .ref 128, .ref 129, .ref 130, .ref 131, .ref 132, .ref 133, .ref 134, .ref 135, .ref 136, .ref 137, .ref 138, .int 0, .ref 139, .int 0, .int 0, .int 0, .ref 140, .int 0, .long 0, .int 0, .ref 141, .int 0])))
set_option maxHeartbeats 40000000 in
set_option maxRecDepth 100000 in
theorem p_c29 (xs : Nat → Int32) : am_k (am_E 6 xs) 2000 am_mL (881, [(3, .int 0), (2, .ref 78), (1, .ref 0), (0, .ref 2000001)], [], ph) (fun r _ => r = some (.int 1)) := by
  obtain ⟨a1, hx1⟩ : ∃ a, xs 1 = a := ⟨_, rfl⟩
  obtain ⟨a2, hx2⟩ : ∃ a, xs 2 = a := ⟨_, rfl⟩
  obtain ⟨a3, hx3⟩ : ∃ a, xs 3 = a := ⟨_, rfl⟩
  obtain ⟨a4, hx4⟩ : ∃ a, xs 4 = a := ⟨_, rfl⟩
  obtain ⟨a5, hx5⟩ : ∃ a, xs 5 = a := ⟨_, rfl⟩
  refine am_k_e 1 (C' := (882, [(3, .int 0), (2, .ref 78), (1, .ref 0), (0, .ref 2000001)], [.ref 0], ph)) rfl ?_
  refine am_k_call [.ref 0] [] rfl rfl rfl rfl rfl rfl (Nat.le_of_ble_eq_true rfl) (fun _ => rfl) (Nat.le_of_ble_eq_true rfl) ?_
  refine am_k_e 2 (C' := (4, [(0, .ref 0)], [.ref 6], ph)) rfl ?_
  refine am_k_call [.ref 6] [] rfl rfl rfl rfl rfl rfl (Nat.le_of_ble_eq_true rfl) (fun _ => rfl) (Nat.le_of_ble_eq_true rfl) ?_
  refine am_k_e 2 (C' := (4, [(0, .ref 6)], [.ref 3], ph)) rfl ?_
  refine am_k_call [.ref 3] [] rfl rfl rfl rfl rfl rfl (Nat.le_of_ble_eq_true rfl) (fun _ => rfl) (Nat.le_of_ble_eq_true rfl) ?_
  refine am_k_e 13 (C' := (21, [(0, .ref 3)], [.ref 3], hc29_0)) rfl ?_
  refine am_k_call [.ref 3] [] rfl rfl rfl rfl rfl rfl (Nat.le_of_ble_eq_true rfl) (fun _ => rfl) (Nat.le_of_ble_eq_true rfl) ?_
  refine am_k_e 23 (C' := (48, [(2, .int 0), (1, .int 0), (0, .ref 3)], [.ref 1, .int 0], hc29_0)) rfl ?_
  refine am_k_call [.ref 1] [.int 0] rfl rfl rfl rfl rfl rfl (Nat.le_of_ble_eq_true rfl) (fun _ => rfl) (Nat.le_of_ble_eq_true rfl) ?_
  refine am_k_e 2 (C' := (4, [(0, .ref 1)], [.int 0], hc29_0)) rfl ?_
  refine am_k_ret (r := some (.int 0)) rfl rfl ?_
  refine am_k_e 6 (C' := (93, [(2, .int 0), (1, .int 0), (0, .ref 3)], [.int 0, .ref 1, .ref 3], hc29_0)) rfl ?_
  refine am_k_call [.ref 1, .int 0] [.ref 3] rfl rfl rfl rfl rfl rfl (Nat.le_of_ble_eq_true rfl) (fun _ => rfl) (Nat.le_of_ble_eq_true rfl) ?_
  refine am_k_e 7 (C' := (31, [(0, .ref 1), (1, .int 0)], [.int (-1)], hc29_0)) rfl ?_
  refine am_k_ret (r := some (.int (-1))) rfl rfl ?_
  refine am_k_call [.int (-1)] [.ref 3] rfl rfl rfl rfl rfl rfl (Nat.le_of_ble_eq_true rfl) (fun z => by cases z) (Nat.le_of_ble_eq_true rfl) ?_
  refine am_k_e 4 (C' := (6, [(0, .int (-1))], [.int 0], hc29_0)) rfl ?_
  refine am_k_ret (r := some (.int 0)) rfl rfl ?_
  refine am_k_e 19 (C' := (223, [(2, .int 0), (1, .int 0), (0, .ref 3)], [], hc29_1)) rfl ?_
  refine am_k_ret (r := none) rfl rfl ?_
  refine am_k_ret (r := none) rfl rfl ?_
  refine am_k_e 2 (C' := (11, [(0, .ref 6)], [.ref 7], hc29_1)) rfl ?_
  refine am_k_call [.ref 7] [] rfl rfl rfl rfl rfl rfl (Nat.le_of_ble_eq_true rfl) (fun _ => rfl) (Nat.le_of_ble_eq_true rfl) ?_
  refine am_k_e 3 (C' := (5, [(0, .ref 7)], [], hc29_2)) rfl ?_
  refine am_k_ret (r := none) rfl rfl ?_
  refine am_k_e 2 (C' := (16, [(0, .ref 6)], [.ref 6, .ref 6], hc29_2)) rfl ?_
  refine am_k_call [.ref 6] [.ref 6] rfl rfl rfl rfl rfl rfl (Nat.le_of_ble_eq_true rfl) (fun _ => rfl) (Nat.le_of_ble_eq_true rfl) ?_
  refine am_k_e 3 (C' := (6, [(0, .ref 6)], [.ref 1000050, .ref 3], hc29_2)) rfl ?_
  refine am_k_call [.ref 3, .ref 1000050] [] rfl rfl rfl rfl rfl rfl (Nat.le_of_ble_eq_true rfl) (fun _ => rfl) (Nat.le_of_ble_eq_true rfl) ?_
  refine am_k_e 2 (C' := (2, [(0, .ref 3), (1, .ref 1000050)], [.ref 1000050, .ref 3], hc29_2)) rfl ?_
  refine am_k_call [.ref 3, .ref 1000050] [] rfl rfl rfl rfl rfl rfl (Nat.le_of_ble_eq_true rfl) (fun _ => rfl) (Nat.le_of_ble_eq_true rfl) ?_
  refine am_k_e 10 (C' := (34, [(3, .int 0), (2, .int 0), (0, .ref 3), (1, .ref 1000050)], [.ref 1000050, .int 0], hc29_2)) rfl ?_
  refine am_k_call [.ref 1000050] [.int 0] rfl rfl rfl rfl rfl rfl (Nat.le_of_ble_eq_true rfl) (fun _ => rfl) (Nat.le_of_ble_eq_true rfl) ?_
  refine am_k_e 4 (C' := (6, [(0, .ref 1000050)], [.ref 1000050, .int 5], hc29_2)) rfl ?_
  refine am_k_call [.ref 1000050] [.int 5] rfl rfl rfl rfl rfl rfl (Nat.le_of_ble_eq_true rfl) (fun _ => rfl) (Nat.le_of_ble_eq_true rfl) ?_
  refine am_k_e 5 (C' := (14, [(0, .ref 1000050)], [.int 0], hc29_2)) rfl ?_
  refine am_k_ret (r := some (.int 0)) rfl rfl ?_
  refine am_k_e 1 (C' := (10, [(0, .ref 1000050)], [.int 5], hc29_2)) rfl ?_
  refine am_k_ret (r := some (.int 5)) rfl rfl ?_
  refine am_k_e 4 (C' := (78, [(3, .int 0), (2, .int 0), (0, .ref 3), (1, .ref 1000050)], [.int 0], hc29_2)) rfl ?_
  refine am_k_ret (r := some (.int 0)) rfl rfl ?_
  refine am_k_e 4 (C' := (15, [(2, .int 0), (0, .ref 3), (1, .ref 1000050)], [.int 0], hc29_2)) rfl ?_
  refine am_k_ret (r := some (.int 0)) rfl rfl ?_
  refine am_k_e 4 (C' := (20, [(0, .ref 6)], [.ref 1000052, .ref 3], hc29_2)) rfl ?_
  refine am_k_call [.ref 3, .ref 1000052] [] rfl rfl rfl rfl rfl rfl (Nat.le_of_ble_eq_true rfl) (fun _ => rfl) (Nat.le_of_ble_eq_true rfl) ?_
  refine am_k_e 2 (C' := (2, [(0, .ref 3), (1, .ref 1000052)], [.ref 1000052, .ref 3], hc29_2)) rfl ?_
  refine am_k_call [.ref 3, .ref 1000052] [] rfl rfl rfl rfl rfl rfl (Nat.le_of_ble_eq_true rfl) (fun _ => rfl) (Nat.le_of_ble_eq_true rfl) ?_
  refine am_k_e 10 (C' := (34, [(3, .int 0), (2, .int 0), (0, .ref 3), (1, .ref 1000052)], [.ref 1000052, .int 0], hc29_2)) rfl ?_
  refine am_k_call [.ref 1000052] [.int 0] rfl rfl rfl rfl rfl rfl (Nat.le_of_ble_eq_true rfl) (fun _ => rfl) (Nat.le_of_ble_eq_true rfl) ?_
  refine am_k_e 4 (C' := (6, [(0, .ref 1000052)], [.ref 1000052, .int 4], hc29_2)) rfl ?_
  refine am_k_call [.ref 1000052] [.int 4] rfl rfl rfl rfl rfl rfl (Nat.le_of_ble_eq_true rfl) (fun _ => rfl) (Nat.le_of_ble_eq_true rfl) ?_
  refine am_k_e 5 (C' := (14, [(0, .ref 1000052)], [.int 0], hc29_2)) rfl ?_
  refine am_k_ret (r := some (.int 0)) rfl rfl ?_
  refine am_k_e 1 (C' := (10, [(0, .ref 1000052)], [.int 4], hc29_2)) rfl ?_
  refine am_k_ret (r := some (.int 4)) rfl rfl ?_
  refine am_k_e 4 (C' := (78, [(3, .int 0), (2, .int 0), (0, .ref 3), (1, .ref 1000052)], [.int 0], hc29_2)) rfl ?_
  refine am_k_ret (r := some (.int 0)) rfl rfl ?_
  refine am_k_e 4 (C' := (15, [(2, .int 0), (0, .ref 3), (1, .ref 1000052)], [.int 0], hc29_2)) rfl ?_
  refine am_k_ret (r := some (.int 0)) rfl rfl ?_
  refine am_k_e 4 (C' := (34, [(0, .ref 6)], [.ref 1000054, .ref 3], hc29_2)) rfl ?_
  refine am_k_call [.ref 3, .ref 1000054] [] rfl rfl rfl rfl rfl rfl (Nat.le_of_ble_eq_true rfl) (fun _ => rfl) (Nat.le_of_ble_eq_true rfl) ?_
  refine am_k_e 2 (C' := (2, [(0, .ref 3), (1, .ref 1000054)], [.ref 1000054, .ref 3], hc29_2)) rfl ?_
  refine am_k_call [.ref 3, .ref 1000054] [] rfl rfl rfl rfl rfl rfl (Nat.le_of_ble_eq_true rfl) (fun _ => rfl) (Nat.le_of_ble_eq_true rfl) ?_
  refine am_k_e 10 (C' := (34, [(3, .int 0), (2, .int 0), (0, .ref 3), (1, .ref 1000054)], [.ref 1000054, .int 0], hc29_2)) rfl ?_
  refine am_k_call [.ref 1000054] [.int 0] rfl rfl rfl rfl rfl rfl (Nat.le_of_ble_eq_true rfl) (fun _ => rfl) (Nat.le_of_ble_eq_true rfl) ?_
  refine am_k_e 4 (C' := (6, [(0, .ref 1000054)], [.ref 1000054, .int 5], hc29_2)) rfl ?_
  refine am_k_call [.ref 1000054] [.int 5] rfl rfl rfl rfl rfl rfl (Nat.le_of_ble_eq_true rfl) (fun _ => rfl) (Nat.le_of_ble_eq_true rfl) ?_
  refine am_k_e 5 (C' := (14, [(0, .ref 1000054)], [.int 0], hc29_2)) rfl ?_
  refine am_k_ret (r := some (.int 0)) rfl rfl ?_
  refine am_k_e 1 (C' := (10, [(0, .ref 1000054)], [.int 5], hc29_2)) rfl ?_
  refine am_k_ret (r := some (.int 5)) rfl rfl ?_
  refine am_k_e 4 (C' := (78, [(3, .int 0), (2, .int 0), (0, .ref 3), (1, .ref 1000054)], [.int 0], hc29_2)) rfl ?_
  refine am_k_ret (r := some (.int 0)) rfl rfl ?_
  refine am_k_e 4 (C' := (15, [(2, .int 0), (0, .ref 3), (1, .ref 1000054)], [.int 0], hc29_2)) rfl ?_
  refine am_k_ret (r := some (.int 0)) rfl rfl ?_
  refine am_k_e 4 (C' := (48, [(0, .ref 6)], [.ref 1000056, .ref 3], hc29_2)) rfl ?_
  refine am_k_call [.ref 3, .ref 1000056] [] rfl rfl rfl rfl rfl rfl (Nat.le_of_ble_eq_true rfl) (fun _ => rfl) (Nat.le_of_ble_eq_true rfl) ?_
  refine am_k_e 2 (C' := (2, [(0, .ref 3), (1, .ref 1000056)], [.ref 1000056, .ref 3], hc29_2)) rfl ?_
  refine am_k_call [.ref 3, .ref 1000056] [] rfl rfl rfl rfl rfl rfl (Nat.le_of_ble_eq_true rfl) (fun _ => rfl) (Nat.le_of_ble_eq_true rfl) ?_
  refine am_k_e 10 (C' := (34, [(3, .int 0), (2, .int 0), (0, .ref 3), (1, .ref 1000056)], [.ref 1000056, .int 0], hc29_2)) rfl ?_
  refine am_k_call [.ref 1000056] [.int 0] rfl rfl rfl rfl rfl rfl (Nat.le_of_ble_eq_true rfl) (fun _ => rfl) (Nat.le_of_ble_eq_true rfl) ?_
  refine am_k_e 4 (C' := (6, [(0, .ref 1000056)], [.ref 1000056, .int 5], hc29_2)) rfl ?_
  refine am_k_call [.ref 1000056] [.int 5] rfl rfl rfl rfl rfl rfl (Nat.le_of_ble_eq_true rfl) (fun _ => rfl) (Nat.le_of_ble_eq_true rfl) ?_
  refine am_k_e 5 (C' := (14, [(0, .ref 1000056)], [.int 0], hc29_2)) rfl ?_
  refine am_k_ret (r := some (.int 0)) rfl rfl ?_
  refine am_k_e 1 (C' := (10, [(0, .ref 1000056)], [.int 5], hc29_2)) rfl ?_
  refine am_k_ret (r := some (.int 5)) rfl rfl ?_
  refine am_k_e 4 (C' := (78, [(3, .int 0), (2, .int 0), (0, .ref 3), (1, .ref 1000056)], [.int 0], hc29_2)) rfl ?_
  refine am_k_ret (r := some (.int 0)) rfl rfl ?_
  refine am_k_e 4 (C' := (15, [(2, .int 0), (0, .ref 3), (1, .ref 1000056)], [.int 0], hc29_2)) rfl ?_
  refine am_k_ret (r := some (.int 0)) rfl rfl ?_
  refine am_k_e 4 (C' := (62, [(0, .ref 6)], [.ref 1000058, .ref 3], hc29_2)) rfl ?_
  refine am_k_call [.ref 3, .ref 1000058] [] rfl rfl rfl rfl rfl rfl (Nat.le_of_ble_eq_true rfl) (fun _ => rfl) (Nat.le_of_ble_eq_true rfl) ?_
  refine am_k_e 2 (C' := (2, [(0, .ref 3), (1, .ref 1000058)], [.ref 1000058, .ref 3], hc29_2)) rfl ?_
  refine am_k_call [.ref 3, .ref 1000058] [] rfl rfl rfl rfl rfl rfl (Nat.le_of_ble_eq_true rfl) (fun _ => rfl) (Nat.le_of_ble_eq_true rfl) ?_
  refine am_k_e 10 (C' := (34, [(3, .int 0), (2, .int 0), (0, .ref 3), (1, .ref 1000058)], [.ref 1000058, .int 0], hc29_2)) rfl ?_
  refine am_k_call [.ref 1000058] [.int 0] rfl rfl rfl rfl rfl rfl (Nat.le_of_ble_eq_true rfl) (fun _ => rfl) (Nat.le_of_ble_eq_true rfl) ?_
  refine am_k_e 4 (C' := (6, [(0, .ref 1000058)], [.ref 1000058, .int 4], hc29_2)) rfl ?_
  refine am_k_call [.ref 1000058] [.int 4] rfl rfl rfl rfl rfl rfl (Nat.le_of_ble_eq_true rfl) (fun _ => rfl) (Nat.le_of_ble_eq_true rfl) ?_
  refine am_k_e 5 (C' := (14, [(0, .ref 1000058)], [.int 0], hc29_2)) rfl ?_
  refine am_k_ret (r := some (.int 0)) rfl rfl ?_
  refine am_k_e 1 (C' := (10, [(0, .ref 1000058)], [.int 4], hc29_2)) rfl ?_
  refine am_k_ret (r := some (.int 4)) rfl rfl ?_
  refine am_k_e 4 (C' := (78, [(3, .int 0), (2, .int 0), (0, .ref 3), (1, .ref 1000058)], [.int 0], hc29_2)) rfl ?_
  refine am_k_ret (r := some (.int 0)) rfl rfl ?_
  refine am_k_e 4 (C' := (15, [(2, .int 0), (0, .ref 3), (1, .ref 1000058)], [.int 0], hc29_2)) rfl ?_
  refine am_k_ret (r := some (.int 0)) rfl rfl ?_
  refine am_k_e 4 (C' := (76, [(0, .ref 6)], [.ref 1000060, .ref 3], hc29_2)) rfl ?_
  refine am_k_call [.ref 3, .ref 1000060] [] rfl rfl rfl rfl rfl rfl (Nat.le_of_ble_eq_true rfl) (fun _ => rfl) (Nat.le_of_ble_eq_true rfl) ?_
  refine am_k_e 2 (C' := (2, [(0, .ref 3), (1, .ref 1000060)], [.ref 1000060, .ref 3], hc29_2)) rfl ?_
  refine am_k_call [.ref 3, .ref 1000060] [] rfl rfl rfl rfl rfl rfl (Nat.le_of_ble_eq_true rfl) (fun _ => rfl) (Nat.le_of_ble_eq_true rfl) ?_
  refine am_k_e 10 (C' := (34, [(3, .int 0), (2, .int 0), (0, .ref 3), (1, .ref 1000060)], [.ref 1000060, .int 0], hc29_2)) rfl ?_
  refine am_k_call [.ref 1000060] [.int 0] rfl rfl rfl rfl rfl rfl (Nat.le_of_ble_eq_true rfl) (fun _ => rfl) (Nat.le_of_ble_eq_true rfl) ?_
  refine am_k_e 4 (C' := (6, [(0, .ref 1000060)], [.ref 1000060, .int 5], hc29_2)) rfl ?_
  refine am_k_call [.ref 1000060] [.int 5] rfl rfl rfl rfl rfl rfl (Nat.le_of_ble_eq_true rfl) (fun _ => rfl) (Nat.le_of_ble_eq_true rfl) ?_
  refine am_k_e 5 (C' := (14, [(0, .ref 1000060)], [.int 0], hc29_2)) rfl ?_
  refine am_k_ret (r := some (.int 0)) rfl rfl ?_
  refine am_k_e 1 (C' := (10, [(0, .ref 1000060)], [.int 5], hc29_2)) rfl ?_
  refine am_k_ret (r := some (.int 5)) rfl rfl ?_
  refine am_k_e 4 (C' := (78, [(3, .int 0), (2, .int 0), (0, .ref 3), (1, .ref 1000060)], [.int 0], hc29_2)) rfl ?_
  refine am_k_ret (r := some (.int 0)) rfl rfl ?_
  refine am_k_e 4 (C' := (15, [(2, .int 0), (0, .ref 3), (1, .ref 1000060)], [.int 0], hc29_2)) rfl ?_
  refine am_k_ret (r := some (.int 0)) rfl rfl ?_
  refine am_k_e 2 (C' := (87, [(0, .ref 6)], [.int (-1)], hc29_2)) rfl ?_
  refine am_k_ret (r := some (.int (-1))) rfl rfl ?_
  refine am_k_e 8 (C' := (35, [(0, .ref 6)], [.int 1, .ref 3], hc29_3)) rfl ?_
  refine am_k_call [.ref 3, .int 1] [] rfl rfl rfl rfl rfl rfl (Nat.le_of_ble_eq_true rfl) (fun _ => rfl) (Nat.le_of_ble_eq_true rfl) ?_
  refine am_k_e 4 (C' := (6, [(0, .ref 3), (1, .int 1)], [.int 0, .int 1, .ref 3], hc29_3)) rfl ?_
  refine am_k_call [.ref 3, .int 1, .int 0] [] rfl rfl rfl rfl rfl rfl (Nat.le_of_ble_eq_true rfl) (fun _ => rfl) (Nat.le_of_ble_eq_true rfl) ?_
  refine am_k_e 12 (C' := (22, [(0, .ref 3), (1, .int 1), (2, .int 0)], [], hc29_4)) rfl ?_
  refine am_k_ret (r := none) rfl rfl ?_
  refine am_k_ret (r := none) rfl rfl ?_
  refine am_k_e 3 (C' := (80, [(0, .ref 6)], [.ref 3], hc29_4)) rfl ?_
  refine am_k_call [.ref 3] [] rfl rfl rfl rfl rfl rfl (Nat.le_of_ble_eq_true rfl) (fun _ => rfl) (Nat.le_of_ble_eq_true rfl) ?_
  refine am_k_e 5 (C' := (12, [(0, .ref 3)], [.int 1], hc29_4)) rfl ?_
  refine am_k_ret (r := some (.int 1)) rfl rfl ?_
  refine am_k_e 3 (C' := (98, [(0, .ref 6)], [.ref 3], hc29_4)) rfl ?_
  refine am_k_call [.ref 3] [] rfl rfl rfl rfl rfl rfl (Nat.le_of_ble_eq_true rfl) (fun _ => rfl) (Nat.le_of_ble_eq_true rfl) ?_
  refine am_k_e 2 (C' := (4, [(0, .ref 3)], [.int 1], hc29_4)) rfl ?_
  refine am_k_ret (r := some (.int 1)) rfl rfl ?_
  refine am_k_e 2 (C' := (109, [(0, .ref 6)], [.int 0], hc29_4)) rfl ?_
  refine am_k_ret (r := some (.int 0)) rfl rfl ?_
  refine am_k_e 4 (C' := (13, [(1, .int 0), (0, .ref 0)], [.int 0, .ref 1], hc29_4)) rfl ?_
  refine am_k_call [.ref 1, .int 0] [] rfl rfl rfl rfl rfl rfl (Nat.le_of_ble_eq_true rfl) (fun _ => rfl) (Nat.le_of_ble_eq_true rfl) ?_
  refine am_k_e 5 (C' := (7, [(0, .ref 1), (1, .int 0)], [.int 0, .int 0, .int 0, .ref 1], hc29_4)) rfl ?_
  refine am_k_call [.int 0, .int 0] [.int 0, .ref 1] rfl rfl rfl rfl rfl rfl (Nat.le_of_ble_eq_true rfl) (fun z => by cases z) (Nat.le_of_ble_eq_true rfl) ?_
  refine am_k_e 5 (C' := (10, [(0, .int 0), (1, .int 0)], [.int 0], hc29_4)) rfl ?_
  refine am_k_ret (r := some (.int 0)) rfl rfl ?_
  refine am_k_call [.int 0, .int 0] [.ref 1] rfl rfl rfl rfl rfl rfl (Nat.le_of_ble_eq_true rfl) (fun z => by cases z) (Nat.le_of_ble_eq_true rfl) ?_
  refine am_k_e 5 (C' := (10, [(0, .int 0), (1, .int 0)], [.int 0], hc29_4)) rfl ?_
  refine am_k_ret (r := some (.int 0)) rfl rfl ?_
  refine am_k_e 1 (C' := (16, [(0, .ref 1), (1, .int 0)], [], hc29_5)) rfl ?_
  refine am_k_ret (r := none) rfl rfl ?_
  refine am_k_e 3 (C' := (44, [(1, .int 0), (0, .ref 0)], [.long (-1000000000000000)], hc29_5)) rfl ?_
  refine am_k_ret (r := some (.long (-1000000000000000))) rfl rfl ?_
  refine am_k_e 1 (C' := (886, [(3, .int 0), (2, .ref 78), (1, .ref 0), (0, .ref 2000001)], [.ref 78, .long (-1000000000000000)], hc29_5)) rfl ?_
  refine am_k_call [.ref 78] [.long (-1000000000000000)] rfl rfl rfl rfl rfl rfl (Nat.le_of_ble_eq_true rfl) (fun _ => rfl) (Nat.le_of_ble_eq_true rfl) ?_
  refine am_k_e 35 (C' := (59, [(0, .ref 78)], [.ref 78], hc29_6)) rfl ?_
  refine am_k_call [.ref 78] [] rfl rfl rfl rfl rfl rfl (Nat.le_of_ble_eq_true rfl) (fun _ => rfl) (Nat.le_of_ble_eq_true rfl) ?_
  refine am_k_e 3 (C' := (5, [(0, .ref 78)], [.ref 119, .ref 78], hc29_6)) rfl ?_
  refine am_k_call [.ref 78, .ref 119] [] rfl rfl rfl rfl rfl rfl (Nat.le_of_ble_eq_true rfl) (fun _ => rfl) (Nat.le_of_ble_eq_true rfl) ?_
  refine am_k_e 2 (C' := (2, [(0, .ref 78), (1, .ref 119)], [.ref 119, .ref 78], hc29_6)) rfl ?_
  refine am_k_call [.ref 78, .ref 119] [] rfl rfl rfl rfl rfl rfl (Nat.le_of_ble_eq_true rfl) (fun _ => rfl) (Nat.le_of_ble_eq_true rfl) ?_
  refine am_k_e 4 (C' := (8, [(0, .ref 78), (1, .ref 119)], [.ref 78], hc29_6)) rfl ?_
  refine am_k_call [.ref 78] [] rfl rfl rfl rfl rfl rfl (Nat.le_of_ble_eq_true rfl) (fun _ => rfl) (Nat.le_of_ble_eq_true rfl) ?_
  refine am_k_e 11 (C' := (76, [(0, .ref 78)], [.int (-1)], hc29_6)) rfl ?_
  refine am_k_ret (r := some (.int (-1))) rfl rfl ?_
  refine am_k_call [.int (-1)] [] rfl rfl rfl rfl rfl rfl (Nat.le_of_ble_eq_true rfl) (fun z => by cases z) (Nat.le_of_ble_eq_true rfl) ?_
  refine am_k_e 4 (C' := (17, [(0, .int (-1))], [.int 0], hc29_6)) rfl ?_
  refine am_k_ret (r := some (.int 0)) rfl rfl ?_
  refine am_k_e 2 (C' := (29, [(0, .ref 78), (1, .ref 119)], [.int 0], hc29_6)) rfl ?_
  refine am_k_ret (r := some (.int 0)) rfl rfl ?_
  refine am_k_e 2 (C' := (9, [(0, .ref 78), (1, .ref 119)], [.int 0], hc29_6)) rfl ?_
  refine am_k_ret (r := some (.int 0)) rfl rfl ?_
  refine am_k_e 4 (C' := (20, [(0, .ref 78)], [.ref 120, .ref 78], hc29_6)) rfl ?_
  refine am_k_call [.ref 78, .ref 120] [] rfl rfl rfl rfl rfl rfl (Nat.le_of_ble_eq_true rfl) (fun _ => rfl) (Nat.le_of_ble_eq_true rfl) ?_
  refine am_k_e 2 (C' := (2, [(0, .ref 78), (1, .ref 120)], [.ref 120, .ref 78], hc29_6)) rfl ?_
  refine am_k_call [.ref 78, .ref 120] [] rfl rfl rfl rfl rfl rfl (Nat.le_of_ble_eq_true rfl) (fun _ => rfl) (Nat.le_of_ble_eq_true rfl) ?_
  refine am_k_e 4 (C' := (8, [(0, .ref 78), (1, .ref 120)], [.ref 78], hc29_6)) rfl ?_
  refine am_k_call [.ref 78] [] rfl rfl rfl rfl rfl rfl (Nat.le_of_ble_eq_true rfl) (fun _ => rfl) (Nat.le_of_ble_eq_true rfl) ?_
  refine am_k_e 11 (C' := (76, [(0, .ref 78)], [.int (-1)], hc29_6)) rfl ?_
  refine am_k_ret (r := some (.int (-1))) rfl rfl ?_
  refine am_k_call [.int (-1)] [] rfl rfl rfl rfl rfl rfl (Nat.le_of_ble_eq_true rfl) (fun z => by cases z) (Nat.le_of_ble_eq_true rfl) ?_
  refine am_k_e 4 (C' := (17, [(0, .int (-1))], [.int 0], hc29_6)) rfl ?_
  refine am_k_ret (r := some (.int 0)) rfl rfl ?_
  refine am_k_e 2 (C' := (29, [(0, .ref 78), (1, .ref 120)], [.int 0], hc29_6)) rfl ?_
  refine am_k_ret (r := some (.int 0)) rfl rfl ?_
  refine am_k_e 2 (C' := (9, [(0, .ref 78), (1, .ref 120)], [.int 0], hc29_6)) rfl ?_
  refine am_k_ret (r := some (.int 0)) rfl rfl ?_
  refine am_k_e 4 (C' := (35, [(0, .ref 78)], [.ref 121, .ref 78], hc29_6)) rfl ?_
  refine am_k_call [.ref 78, .ref 121] [] rfl rfl rfl rfl rfl rfl (Nat.le_of_ble_eq_true rfl) (fun _ => rfl) (Nat.le_of_ble_eq_true rfl) ?_
  refine am_k_e 2 (C' := (2, [(0, .ref 78), (1, .ref 121)], [.ref 121, .ref 78], hc29_6)) rfl ?_
  refine am_k_call [.ref 78, .ref 121] [] rfl rfl rfl rfl rfl rfl (Nat.le_of_ble_eq_true rfl) (fun _ => rfl) (Nat.le_of_ble_eq_true rfl) ?_
  refine am_k_e 4 (C' := (8, [(0, .ref 78), (1, .ref 121)], [.ref 78], hc29_6)) rfl ?_
  refine am_k_call [.ref 78] [] rfl rfl rfl rfl rfl rfl (Nat.le_of_ble_eq_true rfl) (fun _ => rfl) (Nat.le_of_ble_eq_true rfl) ?_
  refine am_k_e 11 (C' := (76, [(0, .ref 78)], [.int (-1)], hc29_6)) rfl ?_
  refine am_k_ret (r := some (.int (-1))) rfl rfl ?_
  refine am_k_call [.int (-1)] [] rfl rfl rfl rfl rfl rfl (Nat.le_of_ble_eq_true rfl) (fun z => by cases z) (Nat.le_of_ble_eq_true rfl) ?_
  refine am_k_e 4 (C' := (17, [(0, .int (-1))], [.int 0], hc29_6)) rfl ?_
  refine am_k_ret (r := some (.int 0)) rfl rfl ?_
  refine am_k_e 2 (C' := (29, [(0, .ref 78), (1, .ref 121)], [.int 0], hc29_6)) rfl ?_
  refine am_k_ret (r := some (.int 0)) rfl rfl ?_
  refine am_k_e 2 (C' := (9, [(0, .ref 78), (1, .ref 121)], [.int 0], hc29_6)) rfl ?_
  refine am_k_ret (r := some (.int 0)) rfl rfl ?_
  refine am_k_e 4 (C' := (50, [(0, .ref 78)], [.ref 122, .ref 78], hc29_6)) rfl ?_
  refine am_k_call [.ref 78, .ref 122] [] rfl rfl rfl rfl rfl rfl (Nat.le_of_ble_eq_true rfl) (fun _ => rfl) (Nat.le_of_ble_eq_true rfl) ?_
  refine am_k_e 2 (C' := (2, [(0, .ref 78), (1, .ref 122)], [.ref 122, .ref 78], hc29_6)) rfl ?_
  refine am_k_call [.ref 78, .ref 122] [] rfl rfl rfl rfl rfl rfl (Nat.le_of_ble_eq_true rfl) (fun _ => rfl) (Nat.le_of_ble_eq_true rfl) ?_
  refine am_k_e 4 (C' := (8, [(0, .ref 78), (1, .ref 122)], [.ref 78], hc29_6)) rfl ?_
  refine am_k_call [.ref 78] [] rfl rfl rfl rfl rfl rfl (Nat.le_of_ble_eq_true rfl) (fun _ => rfl) (Nat.le_of_ble_eq_true rfl) ?_
  refine am_k_e 11 (C' := (76, [(0, .ref 78)], [.int (-1)], hc29_6)) rfl ?_
  refine am_k_ret (r := some (.int (-1))) rfl rfl ?_
  refine am_k_call [.int (-1)] [] rfl rfl rfl rfl rfl rfl (Nat.le_of_ble_eq_true rfl) (fun z => by cases z) (Nat.le_of_ble_eq_true rfl) ?_
  refine am_k_e 4 (C' := (17, [(0, .int (-1))], [.int 0], hc29_6)) rfl ?_
  refine am_k_ret (r := some (.int 0)) rfl rfl ?_
  refine am_k_e 2 (C' := (29, [(0, .ref 78), (1, .ref 122)], [.int 0], hc29_6)) rfl ?_
  refine am_k_ret (r := some (.int 0)) rfl rfl ?_
  refine am_k_e 2 (C' := (9, [(0, .ref 78), (1, .ref 122)], [.int 0], hc29_6)) rfl ?_
  refine am_k_ret (r := some (.int 0)) rfl rfl ?_
  refine am_k_e 4 (C' := (65, [(0, .ref 78)], [.ref 123, .ref 78], hc29_6)) rfl ?_
  refine am_k_call [.ref 78, .ref 123] [] rfl rfl rfl rfl rfl rfl (Nat.le_of_ble_eq_true rfl) (fun _ => rfl) (Nat.le_of_ble_eq_true rfl) ?_
  refine am_k_e 2 (C' := (2, [(0, .ref 78), (1, .ref 123)], [.ref 123, .ref 78], hc29_6)) rfl ?_
  refine am_k_call [.ref 78, .ref 123] [] rfl rfl rfl rfl rfl rfl (Nat.le_of_ble_eq_true rfl) (fun _ => rfl) (Nat.le_of_ble_eq_true rfl) ?_
  refine am_k_e 4 (C' := (8, [(0, .ref 78), (1, .ref 123)], [.ref 78], hc29_6)) rfl ?_
  refine am_k_call [.ref 78] [] rfl rfl rfl rfl rfl rfl (Nat.le_of_ble_eq_true rfl) (fun _ => rfl) (Nat.le_of_ble_eq_true rfl) ?_
  refine am_k_e 11 (C' := (76, [(0, .ref 78)], [.int (-1)], hc29_6)) rfl ?_
  refine am_k_ret (r := some (.int (-1))) rfl rfl ?_
  refine am_k_call [.int (-1)] [] rfl rfl rfl rfl rfl rfl (Nat.le_of_ble_eq_true rfl) (fun z => by cases z) (Nat.le_of_ble_eq_true rfl) ?_
  refine am_k_e 4 (C' := (17, [(0, .int (-1))], [.int 0], hc29_6)) rfl ?_
  refine am_k_ret (r := some (.int 0)) rfl rfl ?_
  refine am_k_e 2 (C' := (29, [(0, .ref 78), (1, .ref 123)], [.int 0], hc29_6)) rfl ?_
  refine am_k_ret (r := some (.int 0)) rfl rfl ?_
  refine am_k_e 2 (C' := (9, [(0, .ref 78), (1, .ref 123)], [.int 0], hc29_6)) rfl ?_
  refine am_k_ret (r := some (.int 0)) rfl rfl ?_
  refine am_k_e 9 (C' := (87, [(1, .int 5), (0, .ref 78)], [.ref 124, .ref 78], hc29_6)) rfl ?_
  refine am_k_call [.ref 78, .ref 124] [] rfl rfl rfl rfl rfl rfl (Nat.le_of_ble_eq_true rfl) (fun _ => rfl) (Nat.le_of_ble_eq_true rfl) ?_
  refine am_k_e 5 (C' := (9, [(0, .ref 78), (1, .ref 124)], [.ref 124, .ref 78], hc29_6)) rfl ?_
  refine am_k_call [.ref 78, .ref 124] [] rfl rfl rfl rfl rfl rfl (Nat.le_of_ble_eq_true rfl) (fun _ => rfl) (Nat.le_of_ble_eq_true rfl) ?_
  refine am_k_e 2 (C' := (2, [(0, .ref 78), (1, .ref 124)], [.ref 124, .ref 78], hc29_6)) rfl ?_
  refine am_k_call [.ref 78, .ref 124] [] rfl rfl rfl rfl rfl rfl (Nat.le_of_ble_eq_true rfl) (fun _ => rfl) (Nat.le_of_ble_eq_true rfl) ?_
  refine am_k_e 4 (C' := (8, [(0, .ref 78), (1, .ref 124)], [.ref 78], hc29_6)) rfl ?_
  refine am_k_call [.ref 78] [] rfl rfl rfl rfl rfl rfl (Nat.le_of_ble_eq_true rfl) (fun _ => rfl) (Nat.le_of_ble_eq_true rfl) ?_
  refine am_k_e 11 (C' := (76, [(0, .ref 78)], [.int (-1)], hc29_6)) rfl ?_
  refine am_k_ret (r := some (.int (-1))) rfl rfl ?_
  refine am_k_call [.int (-1)] [] rfl rfl rfl rfl rfl rfl (Nat.le_of_ble_eq_true rfl) (fun z => by cases z) (Nat.le_of_ble_eq_true rfl) ?_
  refine am_k_e 4 (C' := (17, [(0, .int (-1))], [.int 0], hc29_6)) rfl ?_
  refine am_k_ret (r := some (.int 0)) rfl rfl ?_
  refine am_k_e 2 (C' := (29, [(0, .ref 78), (1, .ref 124)], [.int 0], hc29_6)) rfl ?_
  refine am_k_ret (r := some (.int 0)) rfl rfl ?_
  refine am_k_e 2 (C' := (9, [(0, .ref 78), (1, .ref 124)], [.int 0], hc29_6)) rfl ?_
  refine am_k_ret (r := some (.int 0)) rfl rfl ?_
  refine am_k_e 5 (C' := (21, [(0, .ref 78), (1, .ref 124)], [.int 0, .int 1, .ref 78], hc29_6)) rfl ?_
  refine am_k_call [.ref 78, .int 1, .int 0] [] rfl rfl rfl rfl rfl rfl (Nat.le_of_ble_eq_true rfl) (fun _ => rfl) (Nat.le_of_ble_eq_true rfl) ?_
  refine am_k_e 9 (C' := (18, [(0, .ref 78), (1, .int 1), (2, .int 0)], [], hc29_7)) rfl ?_
  refine am_k_ret (r := none) rfl rfl ?_
  refine am_k_ret (r := none) rfl rfl ?_
  refine am_k_e 1 (C' := (91, [(1, .int 5), (0, .ref 78)], [.int 5], hc29_7)) rfl ?_
  refine am_k_ret (r := some (.int 5)) rfl rfl ?_
  refine am_k_e 22 (C' := (143, [(1, .int 5), (0, .ref 78)], [.long (-1000000000000000)], hc29_8)) rfl ?_
  refine am_k_ret (r := some (.long (-1000000000000000))) rfl rfl ?_
  refine am_k_e 11 (C' := (974, [(3, .int 6), (2, .ref 78), (1, .ref 0), (0, .ref 2000001)], [.int 1], hc29_8)) rfl ?_
  exact am_k_ret (r := some (.int 1)) rfl rfl rfl

def hc30_0 : am_H := (ph.set 46 (.inl (0, 11, .inl (upd (upd (fun _ => 0) 0 0) 1 0))))
def hc30_1 : am_H := (ph.set 46 (.inl (0, 11, .inl (upd (upd (upd (fun _ => 0) 0 0) 1 0) 2 99))))
def hc30_2 : am_H := ((ph.set 0 (.inr (11, [.ref 1, .ref 3, .ref 4, .ref 6, .ref 11, .ref 16, .ref 18, .ref 21, .ref 44, .ref 45, .ref 46, .ref 47, .ref 48, .ref 63, .int 0, .int 0, .int 3, .long 1]))).set 46 (.inl (0, 11, .inl (upd (upd (upd (fun _ => 0) 0 0) 1 0) 2 99))))
def hc30_3 : am_H := (((ph.set 0 (.inr (11, [.ref 1, .ref 3, .ref 4, .ref 6, .ref 11, .ref 16, .ref 18, .ref 21, .ref 44, .ref 45, .ref 46, .ref 47, .ref 48, .ref 63, .int 0, .int 0, .int 3, .long 1]))).set 46 (.inl (0, 11, .inl (upd (upd (upd (fun _ => 0) 0 0) 1 0) 2 99)))).set 78 (.inr (12, [.ref 79, .int 0, .int 0, .int 0, .int 0, .int 0, .int 0, .int 0, .int (-1), .ref 80, .ref 81, .ref 82, .ref 83, .ref 84, .ref 85, .ref 86, .ref 87, .ref 88, .ref 89, .ref 90, .ref 91, .ref 92, .ref 93, .ref 94, .ref 95, .ref 96, .ref 97, .ref 98, .ref 99, .ref 100, .int 0, .ref 101, .ref 102, .ref 103, .ref 104, .ref 105, .ref 106, .ref 107, .ref 108, .ref 109, .int 0, .int 0, .int 0, .ref 110, .ref 111, .ref 112, .int 0, .int 0, .int 0, .int 0, .int 0, .ref 113, .ref 114, .ref 115, .ref 116, .int 0, .int (-1), .int (-1), .int 0, .ref 117, .ref 118, .int 0, .int 0, .long 1, .ref 119, .ref 120, .ref 121, .ref 122, .ref 123, .ref 124, .ref 125, .ref 126, .ref 127, .ref 128, .ref 129, .ref 130, .ref 131, .ref 132, .ref 133, .ref 134, .ref 135, .ref 136, .ref 137, .ref 138, .int 0, .ref 139, .int 0, .int 0, .int 0, .ref 140, .int 0, .long 0, .int 0, .ref 141, .int 0])))
def hc30_4 : am_H := ((((ph.set 0 (.inr (11, [.ref 1, .ref 3, .ref 4, .ref 6, .ref 11, .ref 16, .ref 18, .ref 21, .ref 44, .ref 45, .ref 46, .ref 47, .ref 48, .ref 63, .int 0, .int 0, .int 3, .long 1]))).set 46 (.inl (0, 11, .inl (upd (upd (upd (fun _ => 0) 0 0) 1 0) 2 99)))).set 78 (.inr (12, [.ref 79, .int 0, .int 0, .int 0, .int 0, .int 0, .int 0, .int 0, .int (-1), .ref 80, .ref 81, .ref 82, .ref 83, .ref 84, .ref 85, .ref 86, .ref 87, .ref 88, .ref 89, .ref 90, .ref 91, .ref 92, .ref 93, .ref 94, .ref 95, .ref 96, .ref 97, .ref 98, .ref 99, .ref 100, .int 0, .ref 101, .ref 102, .ref 103, .ref 104, .ref 105, .ref 106, .ref 107, .ref 108, .ref 109, .int 0, .int 0, .int 0, .ref 110, .ref 111, .ref 112, .int 0, .int 0, .int 0, .int 0, .int 0, .ref 113, .ref 114, .ref 115, .ref 116, .int 0, .int (-1), .int (-1), .int 0, .ref 117, .ref 118, .int 0, .int 0, .long 1, .ref 119, .ref 120, .ref 121, .ref 122, .ref 123, .ref 124, .ref 125, .ref 126, .ref 127, .ref 128, .ref 129, .ref 130, .ref 131, .ref 132, .ref 133, .ref 134, .ref 135, .ref 136, .ref 137, .ref 138, .int 0, .ref 139, .int 0, .int 0, .int 0, .ref 140, .int 0, .long 0, .int 0, .ref 141, .int 1]))).set 141 (.inl (0, 11, .inl (upd (fun _ => 0) 0 0))))
def hc30_5 : am_H := ((((ph.set 0 (.inr (11, [.ref 1, .ref 3, .ref 4, .ref 6, .ref 11, .ref 16, .ref 18, .ref 21, .ref 44, .ref 45, .ref 46, .ref 47, .ref 48, .ref 63, .int 0, .int 0, .int 3, .long 1]))).set 46 (.inl (0, 11, .inl (upd (upd (upd (fun _ => 0) 0 0) 1 0) 2 99)))).set 78 (.inr (12, [.ref 79, .int 0, .int 0, .int 0, .int 0, .int 0, .int 0, .int 0, .int (-1), .ref 80, .ref 81, .ref 82, .ref 83, .ref 84, .ref 85, .ref 86, .ref 87, .ref 88, .ref 89, .ref 90, .ref 91, .ref 92, .ref 93, .ref 94, .ref 95, .ref 96, .ref 97, .ref 98, .ref 99, .ref 100, .int 0, .ref 101, .ref 102, .ref 103, .ref 104, .ref 105, .ref 106, .ref 107, .ref 108, .ref 109, .int 0, .int 0, .int 0, .ref 110, .ref 111, .ref 112, .int 0, .int 0, .int 0, .int 0, .int 0, .ref 113, .ref 114, .ref 115, .ref 116, .int 0, .int (-1), .int (-1), .int 0, .ref 117, .ref 118, .int 0, .int 0, .long 1, .ref 119, .ref 120, .ref 121, .ref 122, .ref 123, .ref 124, .ref 125, .ref 126, .ref 127, .ref 128, .ref 129, .ref 130, .ref 131, .ref 132, .ref 133, .ref 134, .ref 135, .ref 136, .ref 137, .ref 138, .int 0, .ref 139, .int 0, .int 0, .int 0, .ref 140, .int 0, .long 0, .int 0, .ref 141, .int 2]))).set 141 (.inl (0, 11, .inl (upd (upd (fun _ => 0) 0 0) 1 0))))
def hc30_6 : am_H := ((((ph.set 0 (.inr (11, [.ref 1, .ref 3, .ref 4, .ref 6, .ref 11, .ref 16, .ref 18, .ref 21, .ref 44, .ref 45, .ref 46, .ref 47, .ref 48, .ref 63, .int 0, .int 0, .int 3, .long 1]))).set 46 (.inl (0, 11, .inl (upd (upd (upd (fun _ => 0) 0 0) 1 0) 2 99)))).set 78 (.inr (12, [.ref 79, .int 0, .int 0, .int 0, .int 0, .int 0, .int 0, .int 0, .int (-1), .ref 80, .ref 81, .ref 82, .ref 83, .ref 84, .ref 85, .ref 86, .ref 87, .ref 88, .ref 89, .ref 90, .ref 91, .ref 92, .ref 93, .ref 94, .ref 95, .ref 96, .ref 97, .ref 98, .ref 99, .ref 100, .int 0, .ref 101, .ref 102, .ref 103, .ref 104, .ref 105, .ref 106, .ref 107, .ref 108, .ref 109, .int 0, .int 0, .int 0, .ref 110, .ref 111, .ref 112, .int 0, .int 0, .int 0, .int 0, .int 0, .ref 113, .ref 114, .ref 115, .ref 116, .int 0, .int (-1), .int (-1), .int 0, .ref 117, .ref 118, .int 0, .int 0, .long 1, .ref 119, .ref 120, .ref 121, .ref 122, .ref 123, .ref 124, .ref 125, .ref 126, .ref 127, .ref 128, .ref 129, .ref 130, .ref 131, .ref 132, .ref 133, .ref 134, .ref 135, .ref 136, .ref 137, .ref 138, .int 0, .ref 139, .int 0, .int 0, .int 0, .ref 140, .int 0, .long 0, .int 0, .ref 141, .int 3]))).set 141 (.inl (0, 11, .inl (upd (upd (upd (fun _ => 0) 0 0) 1 0) 2 99))))
set_option maxHeartbeats 40000000 in
set_option maxRecDepth 100000 in
theorem p_c30 (xs : Nat → Int32) : am_k (am_E 6 xs) 2000 am_mL (895, [(3, .int 0), (2, .ref 78), (1, .ref 0), (0, .ref 2000001)], [], ph) (fun r _ => r = some (.int 1)) := by
  obtain ⟨a1, hx1⟩ : ∃ a, xs 1 = a := ⟨_, rfl⟩
  obtain ⟨a2, hx2⟩ : ∃ a, xs 2 = a := ⟨_, rfl⟩
  obtain ⟨a3, hx3⟩ : ∃ a, xs 3 = a := ⟨_, rfl⟩
  obtain ⟨a4, hx4⟩ : ∃ a, xs 4 = a := ⟨_, rfl⟩
  obtain ⟨a5, hx5⟩ : ∃ a, xs 5 = a := ⟨_, rfl⟩
  refine am_k_e 1 (C' := (896, [(3, .int 0), (2, .ref 78), (1, .ref 0), (0, .ref 2000001)], [.ref 0], ph)) rfl ?_
  refine am_k_call [.ref 0] [] rfl rfl rfl rfl rfl rfl (Nat.le_of_ble_eq_true rfl) (fun _ => rfl) (Nat.le_of_ble_eq_true rfl) ?_
  refine am_k_e 8 (C' := (14, [(1, .int 1), (0, .ref 0)], [.ref 21, .int 0, .ref 46], ph)) rfl ?_
  refine am_k_call [.ref 21] [.int 0, .ref 46] rfl rfl rfl rfl rfl rfl (Nat.le_of_ble_eq_true rfl) (fun _ => rfl) (Nat.le_of_ble_eq_true rfl) ?_
  refine am_k_e 3 (C' := (5, [(0, .ref 21)], [.int 1, .ref 22], ph)) rfl ?_
  refine am_k_call [.ref 22, .int 1] [] rfl rfl rfl rfl rfl rfl (Nat.le_of_ble_eq_true rfl) (fun z => by cases z) (Nat.le_of_ble_eq_true rfl) ?_
  refine am_k_e 10 (C' := (17, [(0, .ref 22), (1, .int 1)], [.int 0], ph)) rfl ?_
  refine am_k_ret (r := some (.int 0)) rfl rfl ?_
  refine am_k_ret (r := some (.int 0)) rfl rfl ?_
  refine am_k_e 2 (C' := (21, [(1, .int 1), (0, .ref 0)], [.int 0, .int 0, .ref 46], ph)) rfl ?_
  refine am_k_call [.ref 46, .int 0, .int 0] [] rfl rfl rfl rfl rfl rfl (Nat.le_of_ble_eq_true rfl) (fun z => by cases z) (Nat.le_of_ble_eq_true rfl) ?_
  refine am_k_e 10 (C' := (14, [(0, .ref 46), (1, .int 0), (2, .int 0)], [], (ph.set 46 (.inl (0, 11, .inl (upd (fun _ => 0) 0 0)))))) rfl ?_
  refine am_k_ret (r := none) rfl rfl ?_
  refine am_k_e 6 (C' := (36, [(1, .int 2), (0, .ref 0)], [.ref 21, .int 1, .ref 46], (ph.set 46 (.inl (0, 11, .inl (upd (fun _ => 0) 0 0)))))) rfl ?_
  refine am_k_call [.ref 21] [.int 1, .ref 46] rfl rfl rfl rfl rfl rfl (Nat.le_of_ble_eq_true rfl) (fun _ => rfl) (Nat.le_of_ble_eq_true rfl) ?_
  refine am_k_e 3 (C' := (5, [(0, .ref 21)], [.int 1, .ref 22], (ph.set 46 (.inl (0, 11, .inl (upd (fun _ => 0) 0 0)))))) rfl ?_
  refine am_k_call [.ref 22, .int 1] [] rfl rfl rfl rfl rfl rfl (Nat.le_of_ble_eq_true rfl) (fun z => by cases z) (Nat.le_of_ble_eq_true rfl) ?_
  refine am_k_e 10 (C' := (17, [(0, .ref 22), (1, .int 1)], [.int 0], (ph.set 46 (.inl (0, 11, .inl (upd (fun _ => 0) 0 0)))))) rfl ?_
  refine am_k_ret (r := some (.int 0)) rfl rfl ?_
  refine am_k_ret (r := some (.int 0)) rfl rfl ?_
  refine am_k_e 2 (C' := (43, [(1, .int 2), (0, .ref 0)], [.int 0, .int 1, .ref 46], (ph.set 46 (.inl (0, 11, .inl (upd (fun _ => 0) 0 0)))))) rfl ?_
  refine am_k_call [.ref 46, .int 1, .int 0] [] rfl rfl rfl rfl rfl rfl (Nat.le_of_ble_eq_true rfl) (fun z => by cases z) (Nat.le_of_ble_eq_true rfl) ?_
  refine am_k_e 10 (C' := (14, [(0, .ref 46), (1, .int 1), (2, .int 0)], [], hc30_0)) rfl ?_
  refine am_k_ret (r := none) rfl rfl ?_
  refine am_k_e 6 (C' := (54, [(2, .int 0), (1, .int 2), (0, .ref 0)], [.int 0, .ref 48, .int 0], hc30_0)) rfl ?_
  refine am_k_call [.ref 48, .int 0] [.int 0] rfl rfl rfl rfl rfl rfl (Nat.le_of_ble_eq_true rfl) (fun _ => rfl) (Nat.le_of_ble_eq_true rfl) ?_
  refine am_k_e 3 (C' := (5, [(0, .ref 48), (1, .int 0)], [.int 0, .ref 52], hc30_0)) rfl ?_
  refine am_k_call [.ref 52, .int 0] [] rfl rfl rfl rfl rfl rfl (Nat.le_of_ble_eq_true rfl) (fun z => by cases z) (Nat.le_of_ble_eq_true rfl) ?_
  refine am_k_e 10 (C' := (17, [(0, .ref 52), (1, .int 0)], [.int 0], hc30_0)) rfl ?_
  refine am_k_ret (r := some (.int 0)) rfl rfl ?_
  refine am_k_ret (r := some (.int 0)) rfl rfl ?_
  refine am_k_e 12 (C' := (142, [(3, .int 0), (2, .int 11), (1, .int 2), (0, .ref 0)], [.int 0, .ref 46, .int 11], hc30_0)) rfl ?_
  refine am_k_call [.ref 46, .int 0] [.int 11] rfl rfl rfl rfl rfl rfl (Nat.le_of_ble_eq_true rfl) (fun z => by cases z) (Nat.le_of_ble_eq_true rfl) ?_
  refine am_k_e 10 (C' := (17, [(0, .ref 46), (1, .int 0)], [.int 0], hc30_0)) rfl ?_
  refine am_k_ret (r := some (.int 0)) rfl rfl ?_
  refine am_k_call [.int 11, .int 0] [] rfl rfl rfl rfl rfl rfl (Nat.le_of_ble_eq_true rfl) (fun z => by cases z) (Nat.le_of_ble_eq_true rfl) ?_
  refine am_k_e 7 (C' := (9, [(0, .int 11), (1, .int 0)], [.int 33], hc30_0)) rfl ?_
  refine am_k_ret (r := some (.int 33)) rfl rfl ?_
  refine am_k_e 10 (C' := (142, [(3, .int 1), (2, .int 33), (1, .int 2), (0, .ref 0)], [.int 1, .ref 46, .int 33], hc30_0)) rfl ?_
  refine am_k_call [.ref 46, .int 1] [.int 33] rfl rfl rfl rfl rfl rfl (Nat.le_of_ble_eq_true rfl) (fun z => by cases z) (Nat.le_of_ble_eq_true rfl) ?_
  refine am_k_e 10 (C' := (17, [(0, .ref 46), (1, .int 1)], [.int 0], hc30_0)) rfl ?_
  refine am_k_ret (r := some (.int 0)) rfl rfl ?_
  refine am_k_call [.int 33, .int 0] [] rfl rfl rfl rfl rfl rfl (Nat.le_of_ble_eq_true rfl) (fun z => by cases z) (Nat.le_of_ble_eq_true rfl) ?_
  refine am_k_e 7 (C' := (9, [(0, .int 33), (1, .int 0)], [.int 99], hc30_0)) rfl ?_
  refine am_k_ret (r := some (.int 99)) rfl rfl ?_
  refine am_k_e 11 (C' := (164, [(1, .int 3), (3, .int 2), (2, .int 99), (0, .ref 0)], [.int 99, .int 2, .ref 46], hc30_0)) rfl ?_
  refine am_k_call [.ref 46, .int 2, .int 99] [] rfl rfl rfl rfl rfl rfl (Nat.le_of_ble_eq_true rfl) (fun z => by cases z) (Nat.le_of_ble_eq_true rfl) ?_
  refine am_k_e 10 (C' := (14, [(0, .ref 46), (1, .int 2), (2, .int 99)], [], hc30_1)) rfl ?_
  refine am_k_ret (r := none) rfl rfl ?_
  refine am_k_e 4 (C' := (173, [(1, .int 3), (3, .int 2), (2, .int 99), (0, .ref 0)], [.int 3], hc30_2)) rfl ?_
  refine am_k_ret (r := some (.int 3)) rfl rfl ?_
  refine am_k_e 1 (C' := (900, [(3, .int 0), (2, .ref 78), (1, .ref 0), (0, .ref 2000001)], [.ref 78, .int 3], hc30_2)) rfl ?_
  refine am_k_call [.ref 78] [.int 3] rfl rfl rfl rfl rfl rfl (Nat.le_of_ble_eq_true rfl) (fun _ => rfl) (Nat.le_of_ble_eq_true rfl) ?_
  refine am_k_e 10 (C' := (16, [(0, .ref 78)], [.int 0, .ref 78], hc30_3)) rfl ?_
  refine am_k_call [.ref 78, .int 0] [] rfl rfl rfl rfl rfl rfl (Nat.le_of_ble_eq_true rfl) (fun _ => rfl) (Nat.le_of_ble_eq_true rfl) ?_
  refine am_k_e 12 (C' := (20, [(0, .ref 78), (1, .int 0)], [], hc30_4)) rfl ?_
  refine am_k_ret (r := none) rfl rfl ?_
  refine am_k_e 7 (C' := (30, [(0, .ref 78)], [.int 0, .ref 78], hc30_4)) rfl ?_
  refine am_k_call [.ref 78, .int 0] [] rfl rfl rfl rfl rfl rfl (Nat.le_of_ble_eq_true rfl) (fun _ => rfl) (Nat.le_of_ble_eq_true rfl) ?_
  refine am_k_e 12 (C' := (20, [(0, .ref 78), (1, .int 0)], [], hc30_5)) rfl ?_
  refine am_k_ret (r := none) rfl rfl ?_
  refine am_k_e 4 (C' := (37, [(1, .int 0), (0, .ref 78)], [.ref 78, .int 0], hc30_5)) rfl ?_
  refine am_k_call [.ref 78] [.int 0] rfl rfl rfl rfl rfl rfl (Nat.le_of_ble_eq_true rfl) (fun _ => rfl) (Nat.le_of_ble_eq_true rfl) ?_
  refine am_k_e 4 (C' := (6, [(0, .ref 78)], [.int 0], hc30_5)) rfl ?_
  refine am_k_ret (r := some (.int 0)) rfl rfl ?_
  refine am_k_e 6 (C' := (84, [(1, .int 0), (0, .ref 78)], [.int 2, .ref 141, .ref 78], hc30_5)) rfl ?_
  refine am_k_call [.ref 141, .int 2] [.ref 78] rfl rfl rfl rfl rfl rfl (Nat.le_of_ble_eq_true rfl) (fun z => by cases z) (Nat.le_of_ble_eq_true rfl) ?_
  refine am_k_e 38 (C' := (29, [(3, .int 2), (2, .int 99), (0, .ref 141), (1, .int 2)], [.int 99], hc30_5)) rfl ?_
  refine am_k_ret (r := some (.int 99)) rfl rfl ?_
  refine am_k_call [.ref 78, .int 99] [] rfl rfl rfl rfl rfl rfl (Nat.le_of_ble_eq_true rfl) (fun _ => rfl) (Nat.le_of_ble_eq_true rfl) ?_
  refine am_k_e 12 (C' := (20, [(0, .ref 78), (1, .int 99)], [], hc30_6)) rfl ?_
  refine am_k_ret (r := none) rfl rfl ?_
  refine am_k_e 2 (C' := (94, [(1, .int 0), (0, .ref 78)], [.int 3], hc30_6)) rfl ?_
  refine am_k_ret (r := some (.int 3)) rfl rfl ?_
  refine am_k_e 10 (C' := (974, [(3, .int 6), (2, .ref 78), (1, .ref 0), (0, .ref 2000001)], [.int 1], hc30_6)) rfl ?_
  exact am_k_ret (r := some (.int 1)) rfl rfl rfl

def hc32_0 : am_H := ((ph.set 1 (.inr (8, [.ref 2, .int 0]))).set 47 (.inl (0, 6, .inl (upd (fun _ => 0) 5 1))))
def hc32_1 : am_H := (((ph.set 1 (.inr (8, [.ref 2, .int 0]))).set 47 (.inl (0, 6, .inl (upd (fun _ => 0) 5 1)))).set 78 (.inr (12, [.ref 79, .int 0, .int 0, .int 0, .int 0, .int 0, .int 0, .int 0, .int (-1), .ref 80, .ref 81, .ref 82, .ref 83, .ref 84, .ref 85, .ref 86, .ref 87, .ref 88, .ref 89, .ref 90, .ref 91, .ref 92, .ref 93, .ref 94, .ref 95, .ref 96, .ref 97, .ref 98, .ref 99, .ref 100, .int 0, .ref 101, .ref 102, .ref 103, .ref 104, .ref 105, .ref 106, .ref 107, .ref 108, .ref 109, .int 0, .int 0, .int 0, .ref 110, .ref 111, .ref 112, .int 0, .int 0, .int 0, .int 0, .int 0, .ref 113, .ref 114, .ref 115, .ref 116, .int 0, .int (-1), .int (-1), .int 0, .ref 117, .ref 118, .int 0, .int 0, .long 1, .ref 119, .ref 120, .ref 121, .ref 122, .ref 123, .ref 124, .ref 125, .ref 126, .ref 127, .ref 128, .ref 129, .ref 130, .ref 131, .ref 132, .ref 133, .ref 134, .ref 135, .ref 136, .ref 137, .ref 138, .int 0, .ref 139, .int 0, .int 0, .int 0, .ref 140, .int 0, .long 0, .int 0, .ref 141, .int 0])))
def hc32_2 : am_H := ((((ph.set 1 (.inr (8, [.ref 2, .int 0]))).set 47 (.inl (0, 6, .inl (upd (fun _ => 0) 5 1)))).set 78 (.inr (12, [.ref 79, .int 0, .int 0, .int 0, .int 0, .int 0, .int 0, .int 0, .int (-1), .ref 80, .ref 81, .ref 82, .ref 83, .ref 84, .ref 85, .ref 86, .ref 87, .ref 88, .ref 89, .ref 90, .ref 91, .ref 92, .ref 93, .ref 94, .ref 95, .ref 96, .ref 97, .ref 98, .ref 99, .ref 100, .int 0, .ref 101, .ref 102, .ref 103, .ref 104, .ref 105, .ref 106, .ref 107, .ref 108, .ref 109, .int 0, .int 0, .int 0, .ref 110, .ref 111, .ref 112, .int 0, .int 0, .int 0, .int 0, .int 0, .ref 113, .ref 114, .ref 115, .ref 116, .int 0, .int (-1), .int (-1), .int 0, .ref 117, .ref 118, .int 0, .int 0, .long 1, .ref 119, .ref 120, .ref 121, .ref 122, .ref 123, .ref 124, .ref 125, .ref 126, .ref 127, .ref 128, .ref 129, .ref 130, .ref 131, .ref 132, .ref 133, .ref 134, .ref 135, .ref 136, .ref 137, .ref 138, .int 0, .ref 139, .int 0, .int 0, .int 0, .ref 140, .int 0, .long 0, .int 0, .ref 141, .int 0]))).set 80 (.inl (0, 6, .inl (upd (fun _ => 0) 5 1))))
set_option maxHeartbeats 40000000 in
set_option maxRecDepth 100000 in
theorem p_c32 (xs : Nat → Int32) : am_k (am_E 6 xs) 2000 am_mL (931, [(3, .int 0), (2, .ref 78), (1, .ref 0), (0, .ref 2000001)], [], ph) (fun r _ => r = some (.int 1)) := by
  obtain ⟨a1, hx1⟩ : ∃ a, xs 1 = a := ⟨_, rfl⟩
  obtain ⟨a2, hx2⟩ : ∃ a, xs 2 = a := ⟨_, rfl⟩
  obtain ⟨a3, hx3⟩ : ∃ a, xs 3 = a := ⟨_, rfl⟩
  obtain ⟨a4, hx4⟩ : ∃ a, xs 4 = a := ⟨_, rfl⟩
  obtain ⟨a5, hx5⟩ : ∃ a, xs 5 = a := ⟨_, rfl⟩
  refine am_k_e 1 (C' := (932, [(3, .int 0), (2, .ref 78), (1, .ref 0), (0, .ref 2000001)], [.ref 0], ph)) rfl ?_
  refine am_k_call [.ref 0] [] rfl rfl rfl rfl rfl rfl (Nat.le_of_ble_eq_true rfl) (fun _ => rfl) (Nat.le_of_ble_eq_true rfl) ?_
  refine am_k_e 1 (C' := (1, [(0, .ref 0)], [.ref 0], ph)) rfl ?_
  refine am_k_call [.ref 0] [] rfl rfl rfl rfl rfl rfl (Nat.le_of_ble_eq_true rfl) (fun _ => rfl) (Nat.le_of_ble_eq_true rfl) ?_
  refine am_k_e 5 (C' := (7, [(0, .ref 0)], [.int 0, .ref 48, .int 2, .int 3], ph)) rfl ?_
  refine am_k_call [.ref 48, .int 0] [.int 2, .int 3] rfl rfl rfl rfl rfl rfl (Nat.le_of_ble_eq_true rfl) (fun _ => rfl) (Nat.le_of_ble_eq_true rfl) ?_
  refine am_k_e 3 (C' := (5, [(0, .ref 48), (1, .int 0)], [.int 0, .ref 52], ph)) rfl ?_
  refine am_k_call [.ref 52, .int 0] [] rfl rfl rfl rfl rfl rfl (Nat.le_of_ble_eq_true rfl) (fun z => by cases z) (Nat.le_of_ble_eq_true rfl) ?_
  refine am_k_e 10 (C' := (17, [(0, .ref 52), (1, .int 0)], [.int 0], ph)) rfl ?_
  refine am_k_ret (r := some (.int 0)) rfl rfl ?_
  refine am_k_ret (r := some (.int 0)) rfl rfl ?_
  refine am_k_e 5 (C' := (17, [(1, .int 3), (0, .ref 0)], [.ref 1], ph)) rfl ?_
  refine am_k_call [.ref 1] [] rfl rfl rfl rfl rfl rfl (Nat.le_of_ble_eq_true rfl) (fun _ => rfl) (Nat.le_of_ble_eq_true rfl) ?_
  refine am_k_e 2 (C' := (4, [(0, .ref 1)], [.int 0], ph)) rfl ?_
  refine am_k_ret (r := some (.int 0)) rfl rfl ?_
  refine am_k_e 3 (C' := (25, [(1, .int 3), (0, .ref 0)], [.int (-1)], ph)) rfl ?_
  refine am_k_ret (r := some (.int (-1))) rfl rfl ?_
  refine am_k_e 5 (C' := (13, [(1, .int (-1)), (0, .ref 0)], [.int 0, .ref 1, .int 256], ph)) rfl ?_
  refine am_k_call [.ref 1, .int 0] [.int 256] rfl rfl rfl rfl rfl rfl (Nat.le_of_ble_eq_true rfl) (fun _ => rfl) (Nat.le_of_ble_eq_true rfl) ?_
  refine am_k_e 7 (C' := (31, [(0, .ref 1), (1, .int 0)], [.int (-1)], ph)) rfl ?_
  refine am_k_ret (r := some (.int (-1))) rfl rfl ?_
  refine am_k_e 4 (C' := (22, [(1, .int (-1)), (0, .ref 0)], [.int 1, .ref 1, .int (-256)], ph)) rfl ?_
  refine am_k_call [.ref 1, .int 1] [.int (-256)] rfl rfl rfl rfl rfl rfl (Nat.le_of_ble_eq_true rfl) (fun _ => rfl) (Nat.le_of_ble_eq_true rfl) ?_
  refine am_k_e 7 (C' := (31, [(0, .ref 1), (1, .int 1)], [.int (-1)], ph)) rfl ?_
  refine am_k_ret (r := some (.int (-1))) rfl rfl ?_
  refine am_k_e 5 (C' := (32, [(2, .int (-257)), (1, .int (-1)), (0, .ref 0)], [.int 0, .ref 1], ph)) rfl ?_
  refine am_k_call [.ref 1, .int 0] [] rfl rfl rfl rfl rfl rfl (Nat.le_of_ble_eq_true rfl) (fun _ => rfl) (Nat.le_of_ble_eq_true rfl) ?_
  refine am_k_e 5 (C' := (7, [(0, .ref 1), (1, .int 0)], [.int 0, .int 0, .int 0, .ref 1], ph)) rfl ?_
  refine am_k_call [.int 0, .int 0] [.int 0, .ref 1] rfl rfl rfl rfl rfl rfl (Nat.le_of_ble_eq_true rfl) (fun z => by cases z) (Nat.le_of_ble_eq_true rfl) ?_
  refine am_k_e 5 (C' := (10, [(0, .int 0), (1, .int 0)], [.int 0], ph)) rfl ?_
  refine am_k_ret (r := some (.int 0)) rfl rfl ?_
  refine am_k_call [.int 0, .int 0] [.ref 1] rfl rfl rfl rfl rfl rfl (Nat.le_of_ble_eq_true rfl) (fun z => by cases z) (Nat.le_of_ble_eq_true rfl) ?_
  refine am_k_e 5 (C' := (10, [(0, .int 0), (1, .int 0)], [.int 0], ph)) rfl ?_
  refine am_k_ret (r := some (.int 0)) rfl rfl ?_
  refine am_k_e 1 (C' := (16, [(0, .ref 1), (1, .int 0)], [], (ph.set 1 (.inr (8, [.ref 2, .int 0]))))) rfl ?_
  refine am_k_ret (r := none) rfl rfl ?_
  refine am_k_e 5 (C' := (49, [(2, .int (-257)), (1, .int (-1)), (0, .ref 0)], [.int 5, .ref 0], (ph.set 1 (.inr (8, [.ref 2, .int 0]))))) rfl ?_
  refine am_k_call [.ref 0, .int 5] [] rfl rfl rfl rfl rfl rfl (Nat.le_of_ble_eq_true rfl) (fun _ => rfl) (Nat.le_of_ble_eq_true rfl) ?_
  refine am_k_e 6 (C' := (10, [(0, .ref 0), (1, .int 5)], [.int 5, .ref 47, .int 5, .ref 47], (ph.set 1 (.inr (8, [.ref 2, .int 0]))))) rfl ?_
  refine am_k_call [.ref 47, .int 5] [.int 5, .ref 47] rfl rfl rfl rfl rfl rfl (Nat.le_of_ble_eq_true rfl) (fun z => by cases z) (Nat.le_of_ble_eq_true rfl) ?_
  refine am_k_e 10 (C' := (17, [(0, .ref 47), (1, .int 5)], [.int 0], (ph.set 1 (.inr (8, [.ref 2, .int 0]))))) rfl ?_
  refine am_k_ret (r := some (.int 0)) rfl rfl ?_
  refine am_k_e 2 (C' := (15, [(0, .ref 0), (1, .int 5)], [.int 1, .int 5, .ref 47], (ph.set 1 (.inr (8, [.ref 2, .int 0]))))) rfl ?_
  refine am_k_call [.ref 47, .int 5, .int 1] [] rfl rfl rfl rfl rfl rfl (Nat.le_of_ble_eq_true rfl) (fun z => by cases z) (Nat.le_of_ble_eq_true rfl) ?_
  refine am_k_e 10 (C' := (14, [(0, .ref 47), (1, .int 5), (2, .int 1)], [], hc32_0)) rfl ?_
  refine am_k_ret (r := none) rfl rfl ?_
  refine am_k_e 1 (C' := (19, [(0, .ref 0), (1, .int 5)], [.int (-1)], hc32_0)) rfl ?_
  refine am_k_ret (r := some (.int (-1))) rfl rfl ?_
  refine am_k_e 2 (C' := (54, [(2, .int (-257)), (1, .int (-1)), (0, .ref 0)], [.int 0], hc32_0)) rfl ?_
  refine am_k_ret (r := some (.int 0)) rfl rfl ?_
  refine am_k_e 1 (C' := (936, [(3, .int 0), (2, .ref 78), (1, .ref 0), (0, .ref 2000001)], [.ref 78, .int 0], hc32_0)) rfl ?_
  refine am_k_call [.ref 78] [.int 0] rfl rfl rfl rfl rfl rfl (Nat.le_of_ble_eq_true rfl) (fun _ => rfl) (Nat.le_of_ble_eq_true rfl) ?_
  refine am_k_e 8 (C' := (12, [(1, .int 0), (0, .ref 78)], [.int 0, .ref 78], hc32_1)) rfl ?_
  refine am_k_call [.ref 78, .int 0] [] rfl rfl rfl rfl rfl rfl (Nat.le_of_ble_eq_true rfl) (fun _ => rfl) (Nat.le_of_ble_eq_true rfl) ?_
  refine am_k_e 4 (C' := (4, [(0, .ref 78), (1, .int 0)], [.ref 78, .int 2, .int 3, .int 0], hc32_1)) rfl ?_
  refine am_k_call [.ref 78] [.int 2, .int 3, .int 0] rfl rfl rfl rfl rfl rfl (Nat.le_of_ble_eq_true rfl) (fun _ => rfl) (Nat.le_of_ble_eq_true rfl) ?_
  refine am_k_e 4 (C' := (6, [(0, .ref 78)], [.int 0], hc32_1)) rfl ?_
  refine am_k_ret (r := some (.int 0)) rfl rfl ?_
  refine am_k_e 4 (C' := (57, [(0, .ref 78), (1, .int 0)], [.int 0], hc32_1)) rfl ?_
  refine am_k_ret (r := some (.int 0)) rfl rfl ?_
  refine am_k_e 10 (C' := (29, [(1, .int 0), (0, .ref 78)], [.int 0], hc32_2)) rfl ?_
  refine am_k_ret (r := some (.int 0)) rfl rfl ?_
  refine am_k_e 10 (C' := (974, [(3, .int 6), (2, .ref 78), (1, .ref 0), (0, .ref 2000001)], [.int 1], hc32_2)) rfl ?_
  exact am_k_ret (r := some (.int 1)) rfl rfl rfl
