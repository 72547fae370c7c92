def hc1_0 : am_H := ((ph.set 47 (.inl (0, 6, .inl (upd (fun _ => 0) 0 1)))).set 80 (.inl (0, 6, .inl (upd (fun _ => 0) 0 1))))
def hc1_1 : am_H := ((ph.set 1 (.inr (8, [.ref 2, .int 0]))).set 78 (.inr (12, [.ref 79, .int 0, .int 0, .int 0, .int 0, .int 0, .int 0, .int 0, .int (-1), .ref 80, .ref 81, .ref 82, .ref 83, .ref 84, .ref 85, .ref 86, .ref 87, .ref 88, .ref 89, .ref 90, .ref 91, .ref 92, .ref 93, .ref 94, .ref 95, .ref 96, .ref 97, .ref 98, .ref 99, .ref 100, .int 0, .ref 101, .ref 102, .ref 103, .ref 104, .ref 105, .ref 106, .ref 107, .ref 108, .ref 109, .int 0, .int 0, .int 0, .ref 110, .ref 111, .ref 112, .int 0, .int 0, .int 0, .int 0, .int 0, .ref 113, .ref 114, .ref 115, .ref 116, .int 0, .int (-1), .int (-1), .int 0, .ref 117, .ref 118, .int 0, .int 0, .long 1, .ref 119, .ref 120, .ref 121, .ref 122, .ref 123, .ref 124, .ref 125, .ref 126, .ref 127, .ref 128, .ref 129, .ref 130, .ref 131, .ref 132, .ref 133, .ref 134, .ref 135, .ref 136, .ref 137, .ref 138, .int 0, .ref 139, .int 0, .int 0, .int 0, .ref 140, .int 0, .long 0, .int 0, .ref 141, .int 0])))
set_option maxHeartbeats 40000000 in
set_option maxRecDepth 100000 in
theorem p_c1 (xs : Nat → Int32) : am_k (am_E 6 xs) 2000 am_mL (247, [(3, .int 0), (2, .ref 78), (1, .ref 0), (0, .ref 2000001)], [], ph) (fun r _ => r = some (.int 1)) := by
  obtain ⟨a1, hx1⟩ : ∃ a, xs 1 = a := ⟨_, rfl⟩
  obtain ⟨a2, hx2⟩ : ∃ a, xs 2 = a := ⟨_, rfl⟩
  obtain ⟨a3, hx3⟩ : ∃ a, xs 3 = a := ⟨_, rfl⟩
  obtain ⟨a4, hx4⟩ : ∃ a, xs 4 = a := ⟨_, rfl⟩
  obtain ⟨a5, hx5⟩ : ∃ a, xs 5 = a := ⟨_, rfl⟩
  refine am_k_e 5 (C' := (252, [(3, .int 0), (2, .ref 78), (1, .ref 0), (0, .ref 2000001)], [.int 1, .ref 2000001, .ref 0], ph)) rfl ?_
  refine am_k_sld (v := a1) rfl (by decide) rfl rfl hx1 ?_
  refine am_k_call [.ref 0, .int a1] [] rfl rfl rfl rfl rfl rfl (Nat.le_of_ble_eq_true rfl) (fun _ => rfl) (Nat.le_of_ble_eq_true rfl) ?_
  refine am_k_e 1 (C' := (1, [(0, .ref 0), (1, .int a1)], [.int a1], ph)) rfl ?_
  refine am_k_if rfl rfl (fun q1 => ?_) (fun q1 => ?_)
  · have h1 : a1.toInt < (0 : Int) := ccT_lt q1
    refine am_k_e 2 (C' := (17, [(0, .ref 0), (1, .int a1)], [.int 0, .ref 0], ph)) rfl ?_
    refine am_k_call [.ref 0, .int 0] [] rfl rfl rfl rfl rfl rfl (Nat.le_of_ble_eq_true rfl) (fun _ => rfl) (Nat.le_of_ble_eq_true rfl) ?_
    refine am_k_e 6 (C' := (10, [(0, .ref 0), (1, .int 0)], [.int 0, .ref 47, .int 0, .ref 47], ph)) rfl ?_
    refine am_k_call [.ref 47, .int 0] [.int 0, .ref 47] rfl rfl rfl rfl rfl rfl (Nat.le_of_ble_eq_true rfl) (fun z => by cases z) (Nat.le_of_ble_eq_true rfl) ?_
    refine am_k_e 10 (C' := (17, [(0, .ref 47), (1, .int 0)], [.int 0], ph)) rfl ?_
    refine am_k_ret (r := some (.int 0)) rfl rfl ?_
    refine am_k_e 2 (C' := (15, [(0, .ref 0), (1, .int 0)], [.int 1, .int 0, .ref 47], ph)) rfl ?_
    refine am_k_call [.ref 47, .int 0, .int 1] [] rfl rfl rfl rfl rfl rfl (Nat.le_of_ble_eq_true rfl) (fun z => by cases z) (Nat.le_of_ble_eq_true rfl) ?_
    refine am_k_e 10 (C' := (14, [(0, .ref 47), (1, .int 0), (2, .int 1)], [], (ph.set 47 (.inl (0, 6, .inl (upd (fun _ => 0) 0 1)))))) rfl ?_
    refine am_k_ret (r := none) rfl rfl ?_
    refine am_k_e 1 (C' := (19, [(0, .ref 0), (1, .int 0)], [.int (-1)], (ph.set 47 (.inl (0, 6, .inl (upd (fun _ => 0) 0 1)))))) rfl ?_
    refine am_k_ret (r := some (.int (-1))) rfl rfl ?_
    refine am_k_e 2 (C' := (22, [(0, .ref 0), (1, .int a1)], [.int 0], (ph.set 47 (.inl (0, 6, .inl (upd (fun _ => 0) 0 1)))))) rfl ?_
    refine am_k_ret (r := some (.int 0)) rfl rfl ?_
    refine am_k_e 5 (C' := (261, [(3, .int 0), (2, .ref 78), (1, .ref 0), (0, .ref 2000001)], [.int 1, .ref 2000001, .ref 78, .int 0], (ph.set 47 (.inl (0, 6, .inl (upd (fun _ => 0) 0 1)))))) rfl ?_
    refine am_k_sld (v := a1) rfl (by decide) rfl rfl hx1 ?_
    refine am_k_call [.ref 78, .int a1] [.int 0] rfl rfl rfl rfl rfl rfl (Nat.le_of_ble_eq_true rfl) (fun _ => rfl) (Nat.le_of_ble_eq_true rfl) ?_
    refine am_k_e 1 (C' := (1, [(0, .ref 78), (1, .int a1)], [.int a1], (ph.set 47 (.inl (0, 6, .inl (upd (fun _ => 0) 0 1)))))) rfl ?_
    refine am_k_ifT rfl rfl (ccpT (fun z => by have z1 : (0 : Int) ≤ a1.toInt := ccF_lt z; omega)) ?_
    refine am_k_e 9 (C' := (23, [(0, .ref 78), (1, .int a1)], [.int 0], hc1_0)) rfl ?_
    refine am_k_ret (r := some (.int 0)) rfl rfl ?_
    refine am_k_e 10 (C' := (974, [(3, .int 6), (2, .ref 78), (1, .ref 0), (0, .ref 2000001)], [.int 1], hc1_0)) rfl ?_
    exact am_k_ret (r := some (.int 1)) rfl rfl rfl
  · have h1 : (0 : Int) ≤ a1.toInt := ccF_lt q1
    refine am_k_e 3 (C' := (9, [(0, .ref 0), (1, .int a1)], [.ref 1, .int a1], ph)) rfl ?_
    refine am_k_call [.ref 1] [.int a1] rfl rfl rfl rfl rfl rfl (Nat.le_of_ble_eq_true rfl) (fun _ => rfl) (Nat.le_of_ble_eq_true rfl) ?_
    refine am_k_e 2 (C' := (4, [(0, .ref 1)], [.int 0], ph)) rfl ?_
    refine am_k_ret (r := some (.int 0)) rfl rfl ?_
    refine am_k_icmp rfl rfl (fun q2 => ?_) (fun q2 => ?_)
    · have h2 : a1.toInt ≤ (0 : Int) := ccT_le q2
      obtain rfl : a1 = 0 := Int32.toInt_inj.mp (show a1.toInt = (0 : Int) by omega)
      refine am_k_e 3 (C' := (28, [(0, .ref 0), (1, .int 0)], [.int 0, .ref 1], ph)) rfl ?_
      refine am_k_call [.ref 1, .int 0] [] rfl rfl rfl rfl rfl rfl (Nat.le_of_ble_eq_true rfl) (fun _ => rfl) (Nat.le_of_ble_eq_true rfl) ?_
      refine am_k_e 5 (C' := (7, [(0, .ref 1), (1, .int 0)], [.int 0, .int 0, .int 0, .ref 1], ph)) rfl ?_
      refine am_k_call [.int 0, .int 0] [.int 0, .ref 1] rfl rfl rfl rfl rfl rfl (Nat.le_of_ble_eq_true rfl) (fun z => by cases z) (Nat.le_of_ble_eq_true rfl) ?_
      refine am_k_e 5 (C' := (10, [(0, .int 0), (1, .int 0)], [.int 0], ph)) rfl ?_
      refine am_k_ret (r := some (.int 0)) rfl rfl ?_
      refine am_k_call [.int 0, .int 0] [.ref 1] rfl rfl rfl rfl rfl rfl (Nat.le_of_ble_eq_true rfl) (fun z => by cases z) (Nat.le_of_ble_eq_true rfl) ?_
      refine am_k_e 5 (C' := (10, [(0, .int 0), (1, .int 0)], [.int 0], ph)) rfl ?_
      refine am_k_ret (r := some (.int 0)) rfl rfl ?_
      refine am_k_e 1 (C' := (16, [(0, .ref 1), (1, .int 0)], [], (ph.set 1 (.inr (8, [.ref 2, .int 0]))))) rfl ?_
      refine am_k_ret (r := none) rfl rfl ?_
      refine am_k_e 1 (C' := (32, [(0, .ref 0), (1, .int 0)], [.int 1], (ph.set 1 (.inr (8, [.ref 2, .int 0]))))) rfl ?_
      refine am_k_ret (r := some (.int 1)) rfl rfl ?_
      refine am_k_e 5 (C' := (261, [(3, .int 0), (2, .ref 78), (1, .ref 0), (0, .ref 2000001)], [.int 1, .ref 2000001, .ref 78, .int 1], (ph.set 1 (.inr (8, [.ref 2, .int 0]))))) rfl ?_
      refine am_k_sld (v := 0) rfl (by decide) rfl rfl hx1 ?_
      refine am_k_call [.ref 78, .int 0] [.int 1] rfl rfl rfl rfl rfl rfl (Nat.le_of_ble_eq_true rfl) (fun _ => rfl) (Nat.le_of_ble_eq_true rfl) ?_
      refine am_k_e 10 (C' := (30, [(0, .ref 78), (1, .int 0)], [.int 1], hc1_1)) rfl ?_
      refine am_k_ret (r := some (.int 1)) rfl rfl ?_
      refine am_k_e 10 (C' := (974, [(3, .int 6), (2, .ref 78), (1, .ref 0), (0, .ref 2000001)], [.int 1], hc1_1)) rfl ?_
      exact am_k_ret (r := some (.int 1)) rfl rfl rfl
    · have h2 : (0 : Int) < a1.toInt := ccF_le q2
      refine am_k_e 2 (C' := (17, [(0, .ref 0), (1, .int a1)], [.int 0, .ref 0], ph)) rfl ?_
      refine am_k_call [.ref 0, .int 0] [] rfl rfl rfl rfl rfl rfl (Nat.le_of_ble_eq_true rfl) (fun _ => rfl) (Nat.le_of_ble_eq_true rfl) ?_
      refine am_k_e 6 (C' := (10, [(0, .ref 0), (1, .int 0)], [.int 0, .ref 47, .int 0, .ref 47], ph)) rfl ?_
      refine am_k_call [.ref 47, .int 0] [.int 0, .ref 47] rfl rfl rfl rfl rfl rfl (Nat.le_of_ble_eq_true rfl) (fun z => by cases z) (Nat.le_of_ble_eq_true rfl) ?_
      refine am_k_e 10 (C' := (17, [(0, .ref 47), (1, .int 0)], [.int 0], ph)) rfl ?_
      refine am_k_ret (r := some (.int 0)) rfl rfl ?_
      refine am_k_e 2 (C' := (15, [(0, .ref 0), (1, .int 0)], [.int 1, .int 0, .ref 47], ph)) rfl ?_
      refine am_k_call [.ref 47, .int 0, .int 1] [] rfl rfl rfl rfl rfl rfl (Nat.le_of_ble_eq_true rfl) (fun z => by cases z) (Nat.le_of_ble_eq_true rfl) ?_
      refine am_k_e 10 (C' := (14, [(0, .ref 47), (1, .int 0), (2, .int 1)], [], (ph.set 47 (.inl (0, 6, .inl (upd (fun _ => 0) 0 1)))))) rfl ?_
      refine am_k_ret (r := none) rfl rfl ?_
      refine am_k_e 1 (C' := (19, [(0, .ref 0), (1, .int 0)], [.int (-1)], (ph.set 47 (.inl (0, 6, .inl (upd (fun _ => 0) 0 1)))))) rfl ?_
      refine am_k_ret (r := some (.int (-1))) rfl rfl ?_
      refine am_k_e 2 (C' := (22, [(0, .ref 0), (1, .int a1)], [.int 0], (ph.set 47 (.inl (0, 6, .inl (upd (fun _ => 0) 0 1)))))) rfl ?_
      refine am_k_ret (r := some (.int 0)) rfl rfl ?_
      refine am_k_e 5 (C' := (261, [(3, .int 0), (2, .ref 78), (1, .ref 0), (0, .ref 2000001)], [.int 1, .ref 2000001, .ref 78, .int 0], (ph.set 47 (.inl (0, 6, .inl (upd (fun _ => 0) 0 1)))))) rfl ?_
      refine am_k_sld (v := a1) rfl (by decide) rfl rfl hx1 ?_
      refine am_k_call [.ref 78, .int a1] [.int 0] rfl rfl rfl rfl rfl rfl (Nat.le_of_ble_eq_true rfl) (fun _ => rfl) (Nat.le_of_ble_eq_true rfl) ?_
      refine am_k_e 1 (C' := (1, [(0, .ref 78), (1, .int a1)], [.int a1], (ph.set 47 (.inl (0, 6, .inl (upd (fun _ => 0) 0 1)))))) rfl ?_
      refine am_k_ifF rfl rfl (ccpF (fun z => by have z1 : a1.toInt < (0 : Int) := ccT_lt z; omega)) ?_
      refine am_k_e 3 (C' := (9, [(0, .ref 78), (1, .int a1)], [.int 0, .int a1], (ph.set 47 (.inl (0, 6, .inl (upd (fun _ => 0) 0 1)))))) rfl ?_
      refine am_k_icmpF rfl rfl (ccpF (fun z => by have z1 : a1.toInt ≤ (0 : Int) := ccT_le z; omega)) ?_
      refine am_k_e 9 (C' := (23, [(0, .ref 78), (1, .int a1)], [.int 0], hc1_0)) rfl ?_
      refine am_k_ret (r := some (.int 0)) rfl rfl ?_
      refine am_k_e 10 (C' := (974, [(3, .int 6), (2, .ref 78), (1, .ref 0), (0, .ref 2000001)], [.int 1], hc1_0)) rfl ?_
      exact am_k_ret (r := some (.int 1)) rfl rfl rfl

set_option maxHeartbeats 40000000 in
set_option maxRecDepth 100000 in
theorem p_c3 (xs : Nat → Int32) : am_k (am_E 6 xs) 2000 am_mL (283, [(3, .int 0), (2, .ref 78), (1, .ref 0), (0, .ref 2000001)], [], ph) (fun r _ => r = some (.int 1)) := by
  obtain ⟨a1, hx1⟩ : ∃ a, xs 1 = a := ⟨_, rfl⟩
  obtain ⟨a2, hx2⟩ : ∃ a, xs 2 = a := ⟨_, rfl⟩
  obtain ⟨a3, hx3⟩ : ∃ a, xs 3 = a := ⟨_, rfl⟩
  obtain ⟨a4, hx4⟩ : ∃ a, xs 4 = a := ⟨_, rfl⟩
  obtain ⟨a5, hx5⟩ : ∃ a, xs 5 = a := ⟨_, rfl⟩
  refine am_k_e 5 (C' := (288, [(3, .int 0), (2, .ref 78), (1, .ref 0), (0, .ref 2000001)], [.int 1, .ref 2000001, .ref 0], ph)) rfl ?_
  refine am_k_sld (v := a1) rfl (by decide) rfl rfl hx1 ?_
  refine am_k_call [.ref 0, .int a1] [] rfl rfl rfl rfl rfl rfl (Nat.le_of_ble_eq_true rfl) (fun _ => rfl) (Nat.le_of_ble_eq_true rfl) ?_
  refine am_k_e 1 (C' := (1, [(0, .ref 0), (1, .int a1)], [.int a1], ph)) rfl ?_
  refine am_k_if rfl rfl (fun q1 => ?_) (fun q1 => ?_)
  · have h1 : ¬ a1.toInt = (0 : Int) := ccT_ne q1
    refine am_k_e 2 (C' := (14, [(0, .ref 0), (1, .int a1)], [.int 1, .int a1], ph)) rfl ?_
    refine am_k_icmp rfl rfl (fun q2 => ?_) (fun q2 => ?_)
    · have h2 : ¬ a1.toInt = (1 : Int) := ccT_ne q2
      refine am_k_e 1 (C' := (28, [(0, .ref 0), (1, .int a1)], [.int (-1)], ph)) rfl ?_
      refine am_k_ret (r := some (.int (-1))) rfl rfl ?_
      refine am_k_e 5 (C' := (297, [(3, .int 0), (2, .ref 78), (1, .ref 0), (0, .ref 2000001)], [.int 1, .ref 2000001, .ref 78, .int (-1)], ph)) rfl ?_
      refine am_k_sld (v := a1) rfl (by decide) rfl rfl hx1 ?_
      refine am_k_call [.ref 78, .int a1] [.int (-1)] rfl rfl rfl rfl rfl rfl (Nat.le_of_ble_eq_true rfl) (fun _ => rfl) (Nat.le_of_ble_eq_true rfl) ?_
      refine am_k_e 1 (C' := (1, [(0, .ref 78), (1, .int a1)], [.int a1], ph)) rfl ?_
      refine am_k_ifT rfl rfl (ccpT (fun z => by have z1 : a1.toInt = (0 : Int) := ccF_ne z; omega)) ?_
      refine am_k_e 2 (C' := (13, [(0, .ref 78), (1, .int a1)], [.int 1, .int a1], ph)) rfl ?_
      refine am_k_icmpT rfl rfl (ccpT (fun z => by have z1 : a1.toInt = (1 : Int) := ccF_ne z; omega)) ?_
      refine am_k_e 1 (C' := (24, [(0, .ref 78), (1, .int a1)], [.int (-1)], ph)) rfl ?_
      refine am_k_ret (r := some (.int (-1))) rfl rfl ?_
      refine am_k_e 10 (C' := (974, [(3, .int 6), (2, .ref 78), (1, .ref 0), (0, .ref 2000001)], [.int 1], ph)) rfl ?_
      exact am_k_ret (r := some (.int 1)) rfl rfl rfl
    · have h2 : a1.toInt = (1 : Int) := ccF_ne q2
      obtain rfl : a1 = 1 := Int32.toInt_inj.mp (show a1.toInt = (1 : Int) by omega)
      refine am_k_e 2 (C' := (21, [(0, .ref 0), (1, .int 1)], [.ref 3], ph)) rfl ?_
      refine am_k_call [.ref 3] [] rfl rfl rfl rfl rfl rfl (Nat.le_of_ble_eq_true rfl) (fun _ => rfl) (Nat.le_of_ble_eq_true rfl) ?_
      refine am_k_e 2 (C' := (4, [(0, .ref 3)], [.int (-1)], ph)) rfl ?_
      refine am_k_ret (r := some (.int (-1))) rfl rfl ?_
      refine am_k_e 1 (C' := (28, [(0, .ref 0), (1, .int 1)], [.int (-1)], ph)) rfl ?_
      refine am_k_ret (r := some (.int (-1))) rfl rfl ?_
      refine am_k_e 5 (C' := (297, [(3, .int 0), (2, .ref 78), (1, .ref 0), (0, .ref 2000001)], [.int 1, .ref 2000001, .ref 78, .int (-1)], ph)) rfl ?_
      refine am_k_sld (v := 1) rfl (by decide) rfl rfl hx1 ?_
      refine am_k_call [.ref 78, .int 1] [.int (-1)] rfl rfl rfl rfl rfl rfl (Nat.le_of_ble_eq_true rfl) (fun _ => rfl) (Nat.le_of_ble_eq_true rfl) ?_
      refine am_k_e 8 (C' := (24, [(0, .ref 78), (1, .int 1)], [.int (-1)], ph)) rfl ?_
      refine am_k_ret (r := some (.int (-1))) rfl rfl ?_
      refine am_k_e 10 (C' := (974, [(3, .int 6), (2, .ref 78), (1, .ref 0), (0, .ref 2000001)], [.int 1], ph)) rfl ?_
      exact am_k_ret (r := some (.int 1)) rfl rfl rfl
  · have h1 : a1.toInt = (0 : Int) := ccF_ne q1
    obtain rfl : a1 = 0 := Int32.toInt_inj.mp (show a1.toInt = (0 : Int) by omega)
    refine am_k_e 2 (C' := (8, [(0, .ref 0), (1, .int 0)], [.ref 3], ph)) rfl ?_
    refine am_k_call [.ref 3] [] rfl rfl rfl rfl rfl rfl (Nat.le_of_ble_eq_true rfl) (fun _ => rfl) (Nat.le_of_ble_eq_true rfl) ?_
    refine am_k_e 2 (C' := (4, [(0, .ref 3)], [.int 0], ph)) rfl ?_
    refine am_k_ret (r := some (.int 0)) rfl rfl ?_
    refine am_k_ret (r := some (.int 0)) rfl rfl ?_
    refine am_k_e 5 (C' := (297, [(3, .int 0), (2, .ref 78), (1, .ref 0), (0, .ref 2000001)], [.int 1, .ref 2000001, .ref 78, .int 0], ph)) rfl ?_
    refine am_k_sld (v := 0) rfl (by decide) rfl rfl hx1 ?_
    refine am_k_call [.ref 78, .int 0] [.int 0] rfl rfl rfl rfl rfl rfl (Nat.le_of_ble_eq_true rfl) (fun _ => rfl) (Nat.le_of_ble_eq_true rfl) ?_
    refine am_k_e 5 (C' := (24, [(0, .ref 78), (1, .int 0)], [.int 0], ph)) rfl ?_
    refine am_k_ret (r := some (.int 0)) rfl rfl ?_
    refine am_k_e 10 (C' := (974, [(3, .int 6), (2, .ref 78), (1, .ref 0), (0, .ref 2000001)], [.int 1], ph)) rfl ?_
    exact am_k_ret (r := some (.int 1)) rfl rfl rfl

set_option maxHeartbeats 40000000 in
set_option maxRecDepth 100000 in
theorem p_c4 (xs : Nat → Int32) : am_k (am_E 6 xs) 2000 am_mL (306, [(3, .int 0), (2, .ref 78), (1, .ref 0), (0, .ref 2000001)], [], ph) (fun r _ => r = some (.int 1)) := by
  obtain ⟨a1, hx1⟩ : ∃ a, xs 1 = a := ⟨_, rfl⟩
  obtain ⟨a2, hx2⟩ : ∃ a, xs 2 = a := ⟨_, rfl⟩
  obtain ⟨a3, hx3⟩ : ∃ a, xs 3 = a := ⟨_, rfl⟩
  obtain ⟨a4, hx4⟩ : ∃ a, xs 4 = a := ⟨_, rfl⟩
  obtain ⟨a5, hx5⟩ : ∃ a, xs 5 = a := ⟨_, rfl⟩
  refine am_k_e 5 (C' := (311, [(3, .int 0), (2, .ref 78), (1, .ref 0), (0, .ref 2000001)], [.int 1, .ref 2000001, .ref 0], ph)) rfl ?_
  refine am_k_sld (v := a1) rfl (by decide) rfl rfl hx1 ?_
  refine am_k_call [.ref 0, .int a1] [] rfl rfl rfl rfl rfl rfl (Nat.le_of_ble_eq_true rfl) (fun _ => rfl) (Nat.le_of_ble_eq_true rfl) ?_
  refine am_k_e 1 (C' := (1, [(0, .ref 0), (1, .int a1)], [.int a1], ph)) rfl ?_
  rcases (show a1.toInt = (0 : Int) ∨ a1.toInt = (1 : Int) ∨ a1.toInt = (2 : Int) ∨ a1.toInt = (3 : Int) ∨ a1.toInt = (4 : Int) ∨ a1.toInt = (5 : Int) ∨ a1.toInt = (6 : Int) ∨ a1.toInt = (7 : Int) ∨ a1.toInt = (8 : Int) ∨ a1.toInt = (9 : Int) ∨ a1.toInt = (10 : Int) ∨ a1.toInt < (0 : Int) ∨ (10 : Int) < a1.toInt by omega) with z1 | z1 | z1 | z1 | z1 | z1 | z1 | z1 | z1 | z1 | z1 | z1 | z1
  · obtain rfl : a1 = 0 := Int32.toInt_inj.mp (show a1.toInt = (0 : Int) by omega)
    refine am_k_e 4 (C' := (65, [(0, .ref 0), (1, .int 0)], [.int 0, .ref 48], ph)) rfl ?_
    refine am_k_call [.ref 48, .int 0] [] rfl rfl rfl rfl rfl rfl (Nat.le_of_ble_eq_true rfl) (fun _ => rfl) (Nat.le_of_ble_eq_true rfl) ?_
    refine am_k_e 3 (C' := (5, [(0, .ref 48), (1, .int 0)], [.int 0, .ref 52], ph)) rfl ?_
    refine am_k_call [.ref 52, .int 0] [] rfl rfl rfl rfl rfl rfl (Nat.le_of_ble_eq_true rfl) (fun z => by cases z) (Nat.le_of_ble_eq_true rfl) ?_
    refine am_k_e 10 (C' := (17, [(0, .ref 52), (1, .int 0)], [.int 0], ph)) rfl ?_
    refine am_k_ret (r := some (.int 0)) rfl rfl ?_
    refine am_k_ret (r := some (.int 0)) rfl rfl ?_
    refine am_k_ret (r := some (.int 0)) rfl rfl ?_
    refine am_k_e 5 (C' := (320, [(3, .int 0), (2, .ref 78), (1, .ref 0), (0, .ref 2000001)], [.int 1, .ref 2000001, .ref 78, .int 0], ph)) rfl ?_
    refine am_k_sld (v := 0) rfl (by decide) rfl rfl hx1 ?_
    refine am_k_call [.ref 78, .int 0] [.int 0] rfl rfl rfl rfl rfl rfl (Nat.le_of_ble_eq_true rfl) (fun _ => rfl) (Nat.le_of_ble_eq_true rfl) ?_
    refine am_k_e 8 (C' := (68, [(0, .ref 78), (1, .int 0)], [.int 0], ph)) rfl ?_
    refine am_k_ret (r := some (.int 0)) rfl rfl ?_
    refine am_k_e 10 (C' := (974, [(3, .int 6), (2, .ref 78), (1, .ref 0), (0, .ref 2000001)], [.int 1], ph)) rfl ?_
    exact am_k_ret (r := some (.int 1)) rfl rfl rfl
  · obtain rfl : a1 = 1 := Int32.toInt_inj.mp (show a1.toInt = (1 : Int) by omega)
    refine am_k_e 4 (C' := (65, [(0, .ref 0), (1, .int 1)], [.int 1, .ref 48], ph)) rfl ?_
    refine am_k_call [.ref 48, .int 1] [] rfl rfl rfl rfl rfl rfl (Nat.le_of_ble_eq_true rfl) (fun _ => rfl) (Nat.le_of_ble_eq_true rfl) ?_
    refine am_k_e 3 (C' := (5, [(0, .ref 48), (1, .int 1)], [.int 1, .ref 52], ph)) rfl ?_
    refine am_k_call [.ref 52, .int 1] [] rfl rfl rfl rfl rfl rfl (Nat.le_of_ble_eq_true rfl) (fun z => by cases z) (Nat.le_of_ble_eq_true rfl) ?_
    refine am_k_e 10 (C' := (17, [(0, .ref 52), (1, .int 1)], [.int 0], ph)) rfl ?_
    refine am_k_ret (r := some (.int 0)) rfl rfl ?_
    refine am_k_ret (r := some (.int 0)) rfl rfl ?_
    refine am_k_ret (r := some (.int 0)) rfl rfl ?_
    refine am_k_e 5 (C' := (320, [(3, .int 0), (2, .ref 78), (1, .ref 0), (0, .ref 2000001)], [.int 1, .ref 2000001, .ref 78, .int 0], ph)) rfl ?_
    refine am_k_sld (v := 1) rfl (by decide) rfl rfl hx1 ?_
    refine am_k_call [.ref 78, .int 1] [.int 0] rfl rfl rfl rfl rfl rfl (Nat.le_of_ble_eq_true rfl) (fun _ => rfl) (Nat.le_of_ble_eq_true rfl) ?_
    refine am_k_e 8 (C' := (68, [(0, .ref 78), (1, .int 1)], [.int 0], ph)) rfl ?_
    refine am_k_ret (r := some (.int 0)) rfl rfl ?_
    refine am_k_e 10 (C' := (974, [(3, .int 6), (2, .ref 78), (1, .ref 0), (0, .ref 2000001)], [.int 1], ph)) rfl ?_
    exact am_k_ret (r := some (.int 1)) rfl rfl rfl
  · obtain rfl : a1 = 2 := Int32.toInt_inj.mp (show a1.toInt = (2 : Int) by omega)
    refine am_k_e 4 (C' := (65, [(0, .ref 0), (1, .int 2)], [.int 2, .ref 48], ph)) rfl ?_
    refine am_k_call [.ref 48, .int 2] [] rfl rfl rfl rfl rfl rfl (Nat.le_of_ble_eq_true rfl) (fun _ => rfl) (Nat.le_of_ble_eq_true rfl) ?_
    refine am_k_e 3 (C' := (5, [(0, .ref 48), (1, .int 2)], [.int 2, .ref 52], ph)) rfl ?_
    refine am_k_call [.ref 52, .int 2] [] rfl rfl rfl rfl rfl rfl (Nat.le_of_ble_eq_true rfl) (fun z => by cases z) (Nat.le_of_ble_eq_true rfl) ?_
    refine am_k_e 10 (C' := (17, [(0, .ref 52), (1, .int 2)], [.int 0], ph)) rfl ?_
    refine am_k_ret (r := some (.int 0)) rfl rfl ?_
    refine am_k_ret (r := some (.int 0)) rfl rfl ?_
    refine am_k_ret (r := some (.int 0)) rfl rfl ?_
    refine am_k_e 5 (C' := (320, [(3, .int 0), (2, .ref 78), (1, .ref 0), (0, .ref 2000001)], [.int 1, .ref 2000001, .ref 78, .int 0], ph)) rfl ?_
    refine am_k_sld (v := 2) rfl (by decide) rfl rfl hx1 ?_
    refine am_k_call [.ref 78, .int 2] [.int 0] rfl rfl rfl rfl rfl rfl (Nat.le_of_ble_eq_true rfl) (fun _ => rfl) (Nat.le_of_ble_eq_true rfl) ?_
    refine am_k_e 8 (C' := (68, [(0, .ref 78), (1, .int 2)], [.int 0], ph)) rfl ?_
    refine am_k_ret (r := some (.int 0)) rfl rfl ?_
    refine am_k_e 10 (C' := (974, [(3, .int 6), (2, .ref 78), (1, .ref 0), (0, .ref 2000001)], [.int 1], ph)) rfl ?_
    exact am_k_ret (r := some (.int 1)) rfl rfl rfl
  · obtain rfl : a1 = 3 := Int32.toInt_inj.mp (show a1.toInt = (3 : Int) by omega)
    refine am_k_e 4 (C' := (65, [(0, .ref 0), (1, .int 3)], [.int 3, .ref 48], ph)) rfl ?_
    refine am_k_call [.ref 48, .int 3] [] rfl rfl rfl rfl rfl rfl (Nat.le_of_ble_eq_true rfl) (fun _ => rfl) (Nat.le_of_ble_eq_true rfl) ?_
    refine am_k_e 3 (C' := (5, [(0, .ref 48), (1, .int 3)], [.int 3, .ref 52], ph)) rfl ?_
    refine am_k_call [.ref 52, .int 3] [] rfl rfl rfl rfl rfl rfl (Nat.le_of_ble_eq_true rfl) (fun z => by cases z) (Nat.le_of_ble_eq_true rfl) ?_
    refine am_k_e 10 (C' := (17, [(0, .ref 52), (1, .int 3)], [.int 0], ph)) rfl ?_
    refine am_k_ret (r := some (.int 0)) rfl rfl ?_
    refine am_k_ret (r := some (.int 0)) rfl rfl ?_
    refine am_k_ret (r := some (.int 0)) rfl rfl ?_
    refine am_k_e 5 (C' := (320, [(3, .int 0), (2, .ref 78), (1, .ref 0), (0, .ref 2000001)], [.int 1, .ref 2000001, .ref 78, .int 0], ph)) rfl ?_
    refine am_k_sld (v := 3) rfl (by decide) rfl rfl hx1 ?_
    refine am_k_call [.ref 78, .int 3] [.int 0] rfl rfl rfl rfl rfl rfl (Nat.le_of_ble_eq_true rfl) (fun _ => rfl) (Nat.le_of_ble_eq_true rfl) ?_
    refine am_k_e 8 (C' := (68, [(0, .ref 78), (1, .int 3)], [.int 0], ph)) rfl ?_
    refine am_k_ret (r := some (.int 0)) rfl rfl ?_
    refine am_k_e 10 (C' := (974, [(3, .int 6), (2, .ref 78), (1, .ref 0), (0, .ref 2000001)], [.int 1], ph)) rfl ?_
    exact am_k_ret (r := some (.int 1)) rfl rfl rfl
  · obtain rfl : a1 = 4 := Int32.toInt_inj.mp (show a1.toInt = (4 : Int) by omega)
    refine am_k_e 3 (C' := (73, [(0, .ref 0), (1, .int 4)], [.ref 48], ph)) rfl ?_
    refine am_k_call [.ref 48] [] rfl rfl rfl rfl rfl rfl (Nat.le_of_ble_eq_true rfl) (fun _ => rfl) (Nat.le_of_ble_eq_true rfl) ?_
    refine am_k_e 2 (C' := (4, [(0, .ref 48)], [.int 0], ph)) rfl ?_
    refine am_k_ret (r := some (.int 0)) rfl rfl ?_
    refine am_k_ret (r := some (.int 0)) rfl rfl ?_
    refine am_k_e 5 (C' := (320, [(3, .int 0), (2, .ref 78), (1, .ref 0), (0, .ref 2000001)], [.int 1, .ref 2000001, .ref 78, .int 0], ph)) rfl ?_
    refine am_k_sld (v := 4) rfl (by decide) rfl rfl hx1 ?_
    refine am_k_call [.ref 78, .int 4] [.int 0] rfl rfl rfl rfl rfl rfl (Nat.le_of_ble_eq_true rfl) (fun _ => rfl) (Nat.le_of_ble_eq_true rfl) ?_
    refine am_k_e 6 (C' := (75, [(0, .ref 78), (1, .int 4)], [.int 0], ph)) rfl ?_
    refine am_k_ret (r := some (.int 0)) rfl rfl ?_
    refine am_k_e 10 (C' := (974, [(3, .int 6), (2, .ref 78), (1, .ref 0), (0, .ref 2000001)], [.int 1], ph)) rfl ?_
    exact am_k_ret (r := some (.int 1)) rfl rfl rfl
  · obtain rfl : a1 = 5 := Int32.toInt_inj.mp (show a1.toInt = (5 : Int) by omega)
    refine am_k_e 3 (C' := (81, [(0, .ref 0), (1, .int 5)], [.ref 21], ph)) rfl ?_
    refine am_k_call [.ref 21] [] rfl rfl rfl rfl rfl rfl (Nat.le_of_ble_eq_true rfl) (fun _ => rfl) (Nat.le_of_ble_eq_true rfl) ?_
    refine am_k_e 3 (C' := (5, [(0, .ref 21)], [.int 1, .ref 22], ph)) rfl ?_
    refine am_k_call [.ref 22, .int 1] [] rfl rfl rfl rfl rfl rfl (Nat.le_of_ble_eq_true rfl) (fun z => by cases z) (Nat.le_of_ble_eq_true rfl) ?_
    refine am_k_e 10 (C' := (17, [(0, .ref 22), (1, .int 1)], [.int 0], ph)) rfl ?_
    refine am_k_ret (r := some (.int 0)) rfl rfl ?_
    refine am_k_ret (r := some (.int 0)) rfl rfl ?_
    refine am_k_ret (r := some (.int 0)) rfl rfl ?_
    refine am_k_e 5 (C' := (320, [(3, .int 0), (2, .ref 78), (1, .ref 0), (0, .ref 2000001)], [.int 1, .ref 2000001, .ref 78, .int 0], ph)) rfl ?_
    refine am_k_sld (v := 5) rfl (by decide) rfl rfl hx1 ?_
    refine am_k_call [.ref 78, .int 5] [.int 0] rfl rfl rfl rfl rfl rfl (Nat.le_of_ble_eq_true rfl) (fun _ => rfl) (Nat.le_of_ble_eq_true rfl) ?_
    refine am_k_e 6 (C' := (82, [(0, .ref 78), (1, .int 5)], [.int 0], ph)) rfl ?_
    refine am_k_ret (r := some (.int 0)) rfl rfl ?_
    refine am_k_e 10 (C' := (974, [(3, .int 6), (2, .ref 78), (1, .ref 0), (0, .ref 2000001)], [.int 1], ph)) rfl ?_
    exact am_k_ret (r := some (.int 1)) rfl rfl rfl
  · obtain rfl : a1 = 6 := Int32.toInt_inj.mp (show a1.toInt = (6 : Int) by omega)
    refine am_k_e 5 (C' := (93, [(0, .ref 0), (1, .int 6)], [.ref 21, .ref 48], ph)) rfl ?_
    refine am_k_call [.ref 21] [.ref 48] rfl rfl rfl rfl rfl rfl (Nat.le_of_ble_eq_true rfl) (fun _ => rfl) (Nat.le_of_ble_eq_true rfl) ?_
    refine am_k_e 3 (C' := (5, [(0, .ref 21)], [.int 0, .ref 22], ph)) rfl ?_
    refine am_k_call [.ref 22, .int 0] [] rfl rfl rfl rfl rfl rfl (Nat.le_of_ble_eq_true rfl) (fun z => by cases z) (Nat.le_of_ble_eq_true rfl) ?_
    refine am_k_e 10 (C' := (17, [(0, .ref 22), (1, .int 0)], [.int 0], ph)) rfl ?_
    refine am_k_ret (r := some (.int 0)) rfl rfl ?_
    refine am_k_ret (r := some (.int 0)) rfl rfl ?_
    refine am_k_call [.ref 48, .int 0] [] rfl rfl rfl rfl rfl rfl (Nat.le_of_ble_eq_true rfl) (fun _ => rfl) (Nat.le_of_ble_eq_true rfl) ?_
    refine am_k_e 8 (C' := (17, [(0, .ref 48), (1, .int 0)], [.int 0], ph)) rfl ?_
    refine am_k_ret (r := some (.int 0)) rfl rfl ?_
    refine am_k_ret (r := some (.int 0)) rfl rfl ?_
    refine am_k_e 5 (C' := (320, [(3, .int 0), (2, .ref 78), (1, .ref 0), (0, .ref 2000001)], [.int 1, .ref 2000001, .ref 78, .int 0], ph)) rfl ?_
    refine am_k_sld (v := 6) rfl (by decide) rfl rfl hx1 ?_
    refine am_k_call [.ref 78, .int 6] [.int 0] rfl rfl rfl rfl rfl rfl (Nat.le_of_ble_eq_true rfl) (fun _ => rfl) (Nat.le_of_ble_eq_true rfl) ?_
    refine am_k_e 3 (C' := (84, [(0, .ref 78), (1, .int 6)], [.ref 78], ph)) rfl ?_
    refine am_k_call [.ref 78] [] rfl rfl rfl rfl rfl rfl (Nat.le_of_ble_eq_true rfl) (fun _ => rfl) (Nat.le_of_ble_eq_true rfl) ?_
    refine am_k_e 4 (C' := (6, [(0, .ref 78)], [.int 0], ph)) rfl ?_
    refine am_k_ret (r := some (.int 0)) rfl rfl ?_
    refine am_k_ret (r := some (.int 0)) rfl rfl ?_
    refine am_k_e 10 (C' := (974, [(3, .int 6), (2, .ref 78), (1, .ref 0), (0, .ref 2000001)], [.int 1], ph)) rfl ?_
    exact am_k_ret (r := some (.int 1)) rfl rfl rfl
  · obtain rfl : a1 = 7 := Int32.toInt_inj.mp (show a1.toInt = (7 : Int) by omega)
    refine am_k_e 5 (C' := (108, [(0, .ref 0), (1, .int 7)], [.ref 21, .ref 48], ph)) rfl ?_
    refine am_k_call [.ref 21] [.ref 48] rfl rfl rfl rfl rfl rfl (Nat.le_of_ble_eq_true rfl) (fun _ => rfl) (Nat.le_of_ble_eq_true rfl) ?_
    refine am_k_e 3 (C' := (5, [(0, .ref 21)], [.int 0, .ref 22], ph)) rfl ?_
    refine am_k_call [.ref 22, .int 0] [] rfl rfl rfl rfl rfl rfl (Nat.le_of_ble_eq_true rfl) (fun z => by cases z) (Nat.le_of_ble_eq_true rfl) ?_
    refine am_k_e 10 (C' := (17, [(0, .ref 22), (1, .int 0)], [.int 0], ph)) rfl ?_
    refine am_k_ret (r := some (.int 0)) rfl rfl ?_
    refine am_k_ret (r := some (.int 0)) rfl rfl ?_
    refine am_k_call [.ref 48, .int 0] [] rfl rfl rfl rfl rfl rfl (Nat.le_of_ble_eq_true rfl) (fun _ => rfl) (Nat.le_of_ble_eq_true rfl) ?_
    refine am_k_e 11 (C' := (14, [(2, .int 0), (0, .ref 48), (1, .int 0)], [.int 0, .ref 62], ph)) rfl ?_
    refine am_k_call [.ref 62, .int 0] [] rfl rfl rfl rfl rfl rfl (Nat.le_of_ble_eq_true rfl) (fun z => by cases z) (Nat.le_of_ble_eq_true rfl) ?_
    refine am_k_e 10 (C' := (17, [(0, .ref 62), (1, .int 0)], [.int 0], ph)) rfl ?_
    refine am_k_ret (r := some (.int 0)) rfl rfl ?_
    refine am_k_e 14 (C' := (38, [(4, .int 0), (3, .int 64), (2, .int 0), (0, .ref 48), (1, .int 0)], [.int 2, .ref 48, .int 0], ph)) rfl ?_
    refine am_k_call [.ref 48, .int 2] [.int 0] rfl rfl rfl rfl rfl rfl (Nat.le_of_ble_eq_true rfl) (fun _ => rfl) (Nat.le_of_ble_eq_true rfl) ?_
    refine am_k_e 3 (C' := (5, [(0, .ref 48), (1, .int 2)], [.int 2, .ref 52], ph)) rfl ?_
    refine am_k_call [.ref 52, .int 2] [] rfl rfl rfl rfl rfl rfl (Nat.le_of_ble_eq_true rfl) (fun z => by cases z) (Nat.le_of_ble_eq_true rfl) ?_
    refine am_k_e 10 (C' := (17, [(0, .ref 52), (1, .int 2)], [.int 0], ph)) rfl ?_
    refine am_k_ret (r := some (.int 0)) rfl rfl ?_
    refine am_k_ret (r := some (.int 0)) rfl rfl ?_
    refine am_k_e 11 (C' := (102, [(4, .int 0), (3, .int 64), (2, .int 0), (0, .ref 48), (1, .int 0)], [.int 0, .ref 62, .int 0, .ref 62], ph)) rfl ?_
    refine am_k_call [.ref 62, .int 0] [.int 0, .ref 62] rfl rfl rfl rfl rfl rfl (Nat.le_of_ble_eq_true rfl) (fun z => by cases z) (Nat.le_of_ble_eq_true rfl) ?_
    refine am_k_e 10 (C' := (17, [(0, .ref 62), (1, .int 0)], [.int 0], ph)) rfl ?_
    refine am_k_ret (r := some (.int 0)) rfl rfl ?_
    refine am_k_e 4 (C' := (109, [(4, .int 0), (3, .int 64), (2, .int 0), (0, .ref 48), (1, .int 0)], [.int 64, .int 0, .ref 62], ph)) rfl ?_
    refine am_k_call [.ref 62, .int 0, .int 64] [] rfl rfl rfl rfl rfl rfl (Nat.le_of_ble_eq_true rfl) (fun z => by cases z) (Nat.le_of_ble_eq_true rfl) ?_
    refine am_k_e 10 (C' := (14, [(0, .ref 62), (1, .int 0), (2, .int 64)], [], (ph.set 62 (.inl (0, 2500, .inl (upd (fun _ => 0) 0 64)))))) rfl ?_
    refine am_k_ret (r := none) rfl rfl ?_
    refine am_k_e 3 (C' := (116, [(4, .int 0), (3, .int 64), (2, .int 0), (0, .ref 48), (1, .int 0)], [.int 0], (ph.set 62 (.inl (0, 2500, .inl (upd (fun _ => 0) 0 64)))))) rfl ?_
    refine am_k_ret (r := some (.int 0)) rfl rfl ?_
    refine am_k_ret (r := some (.int 0)) rfl rfl ?_
    refine am_k_e 5 (C' := (320, [(3, .int 0), (2, .ref 78), (1, .ref 0), (0, .ref 2000001)], [.int 1, .ref 2000001, .ref 78, .int 0], (ph.set 62 (.inl (0, 2500, .inl (upd (fun _ => 0) 0 64)))))) rfl ?_
    refine am_k_sld (v := 7) rfl (by decide) rfl rfl hx1 ?_
    refine am_k_call [.ref 78, .int 7] [.int 0] rfl rfl rfl rfl rfl rfl (Nat.le_of_ble_eq_true rfl) (fun _ => rfl) (Nat.le_of_ble_eq_true rfl) ?_
    refine am_k_e 3 (C' := (89, [(0, .ref 78), (1, .int 7)], [.ref 78], (ph.set 62 (.inl (0, 2500, .inl (upd (fun _ => 0) 0 64)))))) rfl ?_
    refine am_k_call [.ref 78] [] rfl rfl rfl rfl rfl rfl (Nat.le_of_ble_eq_true rfl) (fun _ => rfl) (Nat.le_of_ble_eq_true rfl) ?_
    refine am_k_e 6 (C' := (6, [(2, .int 0), (1, .int 0), (0, .ref 78)], [.ref 78, .int 0], (ph.set 62 (.inl (0, 2500, .inl (upd (fun _ => 0) 0 64)))))) rfl ?_
    refine am_k_call [.ref 78] [.int 0] rfl rfl rfl rfl rfl rfl (Nat.le_of_ble_eq_true rfl) (fun _ => rfl) (Nat.le_of_ble_eq_true rfl) ?_
    refine am_k_e 4 (C' := (7, [(0, .ref 78)], [.int 0], (ph.set 62 (.inl (0, 2500, .inl (upd (fun _ => 0) 0 64)))))) rfl ?_
    refine am_k_ret (r := some (.int 0)) rfl rfl ?_
    refine am_k_e 2 (C' := (33, [(2, .int 0), (1, .int 0), (0, .ref 78)], [.int 0], (ph.set 62 (.inl (0, 2500, .inl (upd (fun _ => 0) 0 64)))))) rfl ?_
    refine am_k_ret (r := some (.int 0)) rfl rfl ?_
    refine am_k_ret (r := some (.int 0)) rfl rfl ?_
    refine am_k_e 10 (C' := (974, [(3, .int 6), (2, .ref 78), (1, .ref 0), (0, .ref 2000001)], [.int 1], (ph.set 62 (.inl (0, 2500, .inl (upd (fun _ => 0) 0 64)))))) rfl ?_
    exact am_k_ret (r := some (.int 1)) rfl rfl rfl
  · obtain rfl : a1 = 8 := Int32.toInt_inj.mp (show a1.toInt = (8 : Int) by omega)
    refine am_k_e 3 (C' := (119, [(0, .ref 0), (1, .int 8)], [.ref 21], ph)) rfl ?_
    refine am_k_call [.ref 21] [] rfl rfl rfl rfl rfl rfl (Nat.le_of_ble_eq_true rfl) (fun _ => rfl) (Nat.le_of_ble_eq_true rfl) ?_
    refine am_k_e 3 (C' := (5, [(0, .ref 21)], [.int 2, .ref 22], ph)) rfl ?_
    refine am_k_call [.ref 22, .int 2] [] rfl rfl rfl rfl rfl rfl (Nat.le_of_ble_eq_true rfl) (fun z => by cases z) (Nat.le_of_ble_eq_true rfl) ?_
    refine am_k_e 10 (C' := (17, [(0, .ref 22), (1, .int 2)], [.int 0], ph)) rfl ?_
    refine am_k_ret (r := some (.int 0)) rfl rfl ?_
    refine am_k_ret (r := some (.int 0)) rfl rfl ?_
    refine am_k_ret (r := some (.int 0)) rfl rfl ?_
    refine am_k_e 5 (C' := (320, [(3, .int 0), (2, .ref 78), (1, .ref 0), (0, .ref 2000001)], [.int 1, .ref 2000001, .ref 78, .int 0], ph)) rfl ?_
    refine am_k_sld (v := 8) rfl (by decide) rfl rfl hx1 ?_
    refine am_k_call [.ref 78, .int 8] [.int 0] rfl rfl rfl rfl rfl rfl (Nat.le_of_ble_eq_true rfl) (fun _ => rfl) (Nat.le_of_ble_eq_true rfl) ?_
    refine am_k_e 6 (C' := (100, [(0, .ref 78), (1, .int 8)], [.int 0], ph)) rfl ?_
    refine am_k_ret (r := some (.int 0)) rfl rfl ?_
    refine am_k_e 10 (C' := (974, [(3, .int 6), (2, .ref 78), (1, .ref 0), (0, .ref 2000001)], [.int 1], ph)) rfl ?_
    exact am_k_ret (r := some (.int 1)) rfl rfl rfl
  · obtain rfl : a1 = 9 := Int32.toInt_inj.mp (show a1.toInt = (9 : Int) by omega)
    refine am_k_e 3 (C' := (127, [(0, .ref 0), (1, .int 9)], [.ref 18], ph)) rfl ?_
    refine am_k_call [.ref 18] [] rfl rfl rfl rfl rfl rfl (Nat.le_of_ble_eq_true rfl) (fun _ => rfl) (Nat.le_of_ble_eq_true rfl) ?_
    refine am_k_e 2 (C' := (4, [(0, .ref 18)], [.int 0], ph)) rfl ?_
    refine am_k_ret (r := some (.int 0)) rfl rfl ?_
    refine am_k_ret (r := some (.int 0)) rfl rfl ?_
    refine am_k_e 5 (C' := (320, [(3, .int 0), (2, .ref 78), (1, .ref 0), (0, .ref 2000001)], [.int 1, .ref 2000001, .ref 78, .int 0], ph)) rfl ?_
    refine am_k_sld (v := 9) rfl (by decide) rfl rfl hx1 ?_
    refine am_k_call [.ref 78, .int 9] [.int 0] rfl rfl rfl rfl rfl rfl (Nat.le_of_ble_eq_true rfl) (fun _ => rfl) (Nat.le_of_ble_eq_true rfl) ?_
    refine am_k_e 4 (C' := (105, [(0, .ref 78), (1, .int 9)], [.int 0], ph)) rfl ?_
    refine am_k_ret (r := some (.int 0)) rfl rfl ?_
    refine am_k_e 10 (C' := (974, [(3, .int 6), (2, .ref 78), (1, .ref 0), (0, .ref 2000001)], [.int 1], ph)) rfl ?_
    exact am_k_ret (r := some (.int 1)) rfl rfl rfl
  · obtain rfl : a1 = 10 := Int32.toInt_inj.mp (show a1.toInt = (10 : Int) by omega)
    refine am_k_e 3 (C' := (135, [(0, .ref 0), (1, .int 10)], [.ref 21], ph)) rfl ?_
    refine am_k_call [.ref 21] [] rfl rfl rfl rfl rfl rfl (Nat.le_of_ble_eq_true rfl) (fun _ => rfl) (Nat.le_of_ble_eq_true rfl) ?_
    refine am_k_e 2 (C' := (4, [(0, .ref 21)], [.int 0], ph)) rfl ?_
    refine am_k_ret (r := some (.int 0)) rfl rfl ?_
    refine am_k_ret (r := some (.int 0)) rfl rfl ?_
    refine am_k_e 5 (C' := (320, [(3, .int 0), (2, .ref 78), (1, .ref 0), (0, .ref 2000001)], [.int 1, .ref 2000001, .ref 78, .int 0], ph)) rfl ?_
    refine am_k_sld (v := 10) rfl (by decide) rfl rfl hx1 ?_
    refine am_k_call [.ref 78, .int 10] [.int 0] rfl rfl rfl rfl rfl rfl (Nat.le_of_ble_eq_true rfl) (fun _ => rfl) (Nat.le_of_ble_eq_true rfl) ?_
    refine am_k_e 4 (C' := (110, [(0, .ref 78), (1, .int 10)], [.int 0], ph)) rfl ?_
    refine am_k_ret (r := some (.int 0)) rfl rfl ?_
    refine am_k_e 10 (C' := (974, [(3, .int 6), (2, .ref 78), (1, .ref 0), (0, .ref 2000001)], [.int 1], ph)) rfl ?_
    exact am_k_ret (r := some (.int 1)) rfl rfl rfl
  · refine am_k_swO rfl rfl (Or.inl z1) ?_
    refine am_k_e 1 (C' := (140, [(0, .ref 0), (1, .int a1)], [.int (-1)], ph)) rfl ?_
    refine am_k_ret (r := some (.int (-1))) rfl rfl ?_
    refine am_k_e 5 (C' := (320, [(3, .int 0), (2, .ref 78), (1, .ref 0), (0, .ref 2000001)], [.int 1, .ref 2000001, .ref 78, .int (-1)], ph)) rfl ?_
    refine am_k_sld (v := a1) rfl (by decide) rfl rfl hx1 ?_
    refine am_k_call [.ref 78, .int a1] [.int (-1)] rfl rfl rfl rfl rfl rfl (Nat.le_of_ble_eq_true rfl) (fun _ => rfl) (Nat.le_of_ble_eq_true rfl) ?_
    refine am_k_e 1 (C' := (1, [(0, .ref 78), (1, .int a1)], [.int a1], ph)) rfl ?_
    rcases (show a1.toInt < (0 : Int) by omega) with z2
    · refine am_k_swO rfl rfl (Or.inl z2) ?_
      refine am_k_e 1 (C' := (112, [(0, .ref 78), (1, .int a1)], [.int (-1)], ph)) rfl ?_
      refine am_k_ret (r := some (.int (-1))) rfl rfl ?_
      refine am_k_e 10 (C' := (974, [(3, .int 6), (2, .ref 78), (1, .ref 0), (0, .ref 2000001)], [.int 1], ph)) rfl ?_
      exact am_k_ret (r := some (.int 1)) rfl rfl rfl
  · refine am_k_swO rfl rfl (Or.inr z1) ?_
    refine am_k_e 1 (C' := (140, [(0, .ref 0), (1, .int a1)], [.int (-1)], ph)) rfl ?_
    refine am_k_ret (r := some (.int (-1))) rfl rfl ?_
    refine am_k_e 5 (C' := (320, [(3, .int 0), (2, .ref 78), (1, .ref 0), (0, .ref 2000001)], [.int 1, .ref 2000001, .ref 78, .int (-1)], ph)) rfl ?_
    refine am_k_sld (v := a1) rfl (by decide) rfl rfl hx1 ?_
    refine am_k_call [.ref 78, .int a1] [.int (-1)] rfl rfl rfl rfl rfl rfl (Nat.le_of_ble_eq_true rfl) (fun _ => rfl) (Nat.le_of_ble_eq_true rfl) ?_
    refine am_k_e 1 (C' := (1, [(0, .ref 78), (1, .int a1)], [.int a1], ph)) rfl ?_
    rcases (show (10 : Int) < a1.toInt by omega) with z2
    · refine am_k_swO rfl rfl (Or.inr z2) ?_
      refine am_k_e 1 (C' := (112, [(0, .ref 78), (1, .int a1)], [.int (-1)], ph)) rfl ?_
      refine am_k_ret (r := some (.int (-1))) rfl rfl ?_
      refine am_k_e 10 (C' := (974, [(3, .int 6), (2, .ref 78), (1, .ref 0), (0, .ref 2000001)], [.int 1], ph)) rfl ?_
      exact am_k_ret (r := some (.int 1)) rfl rfl rfl

set_option maxHeartbeats 40000000 in
set_option maxRecDepth 100000 in
theorem p_c6 (xs : Nat → Int32) : am_k (am_E 6 xs) 2000 am_mL (372, [(3, .int 0), (2, .ref 78), (1, .ref 0), (0, .ref 2000001)], [], ph) (fun r _ => r = some (.int 1)) := by
  obtain ⟨a1, hx1⟩ : ∃ a, xs 1 = a := ⟨_, rfl⟩
  obtain ⟨a2, hx2⟩ : ∃ a, xs 2 = a := ⟨_, rfl⟩
  obtain ⟨a3, hx3⟩ : ∃ a, xs 3 = a := ⟨_, rfl⟩
  obtain ⟨a4, hx4⟩ : ∃ a, xs 4 = a := ⟨_, rfl⟩
  obtain ⟨a5, hx5⟩ : ∃ a, xs 5 = a := ⟨_, rfl⟩
  refine am_k_e 5 (C' := (377, [(3, .int 0), (2, .ref 78), (1, .ref 0), (0, .ref 2000001)], [.int 1, .ref 2000001, .ref 0], ph)) rfl ?_
  refine am_k_sld (v := a1) rfl (by decide) rfl rfl hx1 ?_
  refine am_k_e 4 (C' := (382, [(3, .int 0), (2, .ref 78), (1, .ref 0), (0, .ref 2000001)], [.int 2, .ref 2000001, .int a1, .ref 0], ph)) rfl ?_
  refine am_k_sld (v := a2) rfl (by decide) rfl rfl hx2 ?_
  refine am_k_call [.ref 0, .int a1, .int a2] [] rfl rfl rfl rfl rfl rfl (Nat.le_of_ble_eq_true rfl) (fun _ => rfl) (Nat.le_of_ble_eq_true rfl) ?_
  refine am_k_e 4 (C' := (6, [(0, .ref 0), (1, .int a1), (2, .int a2)], [.int a1, .int 0, .ref 48], ph)) rfl ?_
  refine am_k_call [.ref 48, .int 0, .int a1] [] rfl rfl rfl rfl rfl rfl (Nat.le_of_ble_eq_true rfl) (fun _ => rfl) (Nat.le_of_ble_eq_true rfl) ?_
  refine am_k_e 6 (C' := (10, [(0, .ref 48), (1, .int 0), (2, .int a1)], [.int a1], ph)) rfl ?_
  refine am_k_if rfl rfl (fun q1 => ?_) (fun q1 => ?_)
  · have h1 : a1.toInt < (0 : Int) := ccT_lt q1
    refine am_k_e 1 (C' := (30, [(0, .ref 48), (1, .int 0), (2, .int a1)], [.int 0], ph)) rfl ?_
    refine am_k_ret (r := some (.int 0)) rfl rfl ?_
    refine am_k_e 2 (C' := (13, [(0, .ref 0), (1, .int a1), (2, .int a2)], [.int (-1)], ph)) rfl ?_
    refine am_k_ret (r := some (.int (-1))) rfl rfl ?_
    refine am_k_e 5 (C' := (391, [(3, .int 0), (2, .ref 78), (1, .ref 0), (0, .ref 2000001)], [.int 1, .ref 2000001, .ref 78, .int (-1)], ph)) rfl ?_
    refine am_k_sld (v := a1) rfl (by decide) rfl rfl hx1 ?_
    refine am_k_e 4 (C' := (396, [(3, .int 0), (2, .ref 78), (1, .ref 0), (0, .ref 2000001)], [.int 2, .ref 2000001, .int a1, .ref 78, .int (-1)], ph)) rfl ?_
    refine am_k_sld (v := a2) rfl (by decide) rfl rfl hx2 ?_
    refine am_k_call [.ref 78, .int a1, .int a2] [.int (-1)] rfl rfl rfl rfl rfl rfl (Nat.le_of_ble_eq_true rfl) (fun _ => rfl) (Nat.le_of_ble_eq_true rfl) ?_
    refine am_k_e 2 (C' := (2, [(0, .ref 78), (1, .int a1), (2, .int a2)], [.int a1, .ref 78], ph)) rfl ?_
    refine am_k_call [.ref 78, .int a1] [] rfl rfl rfl rfl rfl rfl (Nat.le_of_ble_eq_true rfl) (fun _ => rfl) (Nat.le_of_ble_eq_true rfl) ?_
    refine am_k_e 4 (C' := (4, [(0, .ref 78), (1, .int a1)], [.ref 78, .long 0, .long (a1.toInt64)], ph)) rfl ?_
    refine am_k_call [.ref 78] [.long 0, .long (a1.toInt64)] rfl rfl rfl rfl rfl rfl (Nat.le_of_ble_eq_true rfl) (fun _ => rfl) (Nat.le_of_ble_eq_true rfl) ?_
    refine am_k_e 4 (C' := (6, [(0, .ref 78)], [.int 0], ph)) rfl ?_
    refine am_k_ret (r := some (.int 0)) rfl rfl ?_
    refine am_k_e 3 (C' := (10, [(0, .ref 78), (1, .int a1)], [.long (-1), .long 0, .long (a1.toInt64)], ph)) rfl ?_
    refine am_k_call [.long (a1.toInt64), .long 0, .long (-1)] [] rfl rfl rfl rfl rfl rfl (Nat.le_of_ble_eq_true rfl) (fun z => by cases z) (Nat.le_of_ble_eq_true rfl) ?_
    refine am_k_e 3 (C' := (3, [(0, .long (a1.toInt64)), (2, .long 0), (4, .long (-1))], [.int (lg_cmp (a1.toInt64) 0)], ph)) rfl ?_
    refine am_k_ifT rfl rfl (lgpT_lt (show a1.toInt < (0 : Int) by omega)) ?_
    refine am_k_e 1 (C' := (18, [(0, .long (a1.toInt64)), (2, .long 0), (4, .long (-1))], [.int 0], ph)) rfl ?_
    refine am_k_ret (r := some (.int 0)) rfl rfl ?_
    refine am_k_ret (r := some (.int 0)) rfl rfl ?_
    refine am_k_e 2 (C' := (9, [(0, .ref 78), (1, .int a1), (2, .int a2)], [.int (-1)], ph)) rfl ?_
    refine am_k_ret (r := some (.int (-1))) rfl rfl ?_
    refine am_k_e 10 (C' := (974, [(3, .int 6), (2, .ref 78), (1, .ref 0), (0, .ref 2000001)], [.int 1], ph)) rfl ?_
    exact am_k_ret (r := some (.int 1)) rfl rfl rfl
  · have h1 : (0 : Int) ≤ a1.toInt := ccF_lt q1
    refine am_k_e 4 (C' := (19, [(0, .ref 48), (1, .int 0), (2, .int a1)], [.int 0, .ref 52, .int a1], ph)) rfl ?_
    refine am_k_call [.ref 52, .int 0] [.int a1] rfl rfl rfl rfl rfl rfl (Nat.le_of_ble_eq_true rfl) (fun z => by cases z) (Nat.le_of_ble_eq_true rfl) ?_
    refine am_k_e 10 (C' := (17, [(0, .ref 52), (1, .int 0)], [.int 0], ph)) rfl ?_
    refine am_k_ret (r := some (.int 0)) rfl rfl ?_
    refine am_k_icmpT rfl rfl (ccpT (fun z => by have z1 : a1.toInt < (0 : Int) := ccF_ge z; omega)) ?_
    refine am_k_e 1 (C' := (30, [(0, .ref 48), (1, .int 0), (2, .int a1)], [.int 0], ph)) rfl ?_
    refine am_k_ret (r := some (.int 0)) rfl rfl ?_
    refine am_k_e 2 (C' := (13, [(0, .ref 0), (1, .int a1), (2, .int a2)], [.int (-1)], ph)) rfl ?_
    refine am_k_ret (r := some (.int (-1))) rfl rfl ?_
    refine am_k_e 5 (C' := (391, [(3, .int 0), (2, .ref 78), (1, .ref 0), (0, .ref 2000001)], [.int 1, .ref 2000001, .ref 78, .int (-1)], ph)) rfl ?_
    refine am_k_sld (v := a1) rfl (by decide) rfl rfl hx1 ?_
    refine am_k_e 4 (C' := (396, [(3, .int 0), (2, .ref 78), (1, .ref 0), (0, .ref 2000001)], [.int 2, .ref 2000001, .int a1, .ref 78, .int (-1)], ph)) rfl ?_
    refine am_k_sld (v := a2) rfl (by decide) rfl rfl hx2 ?_
    refine am_k_call [.ref 78, .int a1, .int a2] [.int (-1)] rfl rfl rfl rfl rfl rfl (Nat.le_of_ble_eq_true rfl) (fun _ => rfl) (Nat.le_of_ble_eq_true rfl) ?_
    refine am_k_e 2 (C' := (2, [(0, .ref 78), (1, .int a1), (2, .int a2)], [.int a1, .ref 78], ph)) rfl ?_
    refine am_k_call [.ref 78, .int a1] [] rfl rfl rfl rfl rfl rfl (Nat.le_of_ble_eq_true rfl) (fun _ => rfl) (Nat.le_of_ble_eq_true rfl) ?_
    refine am_k_e 4 (C' := (4, [(0, .ref 78), (1, .int a1)], [.ref 78, .long 0, .long (a1.toInt64)], ph)) rfl ?_
    refine am_k_call [.ref 78] [.long 0, .long (a1.toInt64)] rfl rfl rfl rfl rfl rfl (Nat.le_of_ble_eq_true rfl) (fun _ => rfl) (Nat.le_of_ble_eq_true rfl) ?_
    refine am_k_e 4 (C' := (6, [(0, .ref 78)], [.int 0], ph)) rfl ?_
    refine am_k_ret (r := some (.int 0)) rfl rfl ?_
    refine am_k_e 3 (C' := (10, [(0, .ref 78), (1, .int a1)], [.long (-1), .long 0, .long (a1.toInt64)], ph)) rfl ?_
    refine am_k_call [.long (a1.toInt64), .long 0, .long (-1)] [] rfl rfl rfl rfl rfl rfl (Nat.le_of_ble_eq_true rfl) (fun z => by cases z) (Nat.le_of_ble_eq_true rfl) ?_
    refine am_k_e 3 (C' := (3, [(0, .long (a1.toInt64)), (2, .long 0), (4, .long (-1))], [.int (lg_cmp (a1.toInt64) 0)], ph)) rfl ?_
    refine am_k_ifF rfl rfl (lgpF_lt (show (0 : Int) ≤ a1.toInt by omega)) ?_
    refine am_k_e 3 (C' := (10, [(0, .long (a1.toInt64)), (2, .long 0), (4, .long (-1))], [.int (lg_cmp (a1.toInt64) (-1))], ph)) rfl ?_
    refine am_k_ifT rfl rfl (lgpT_gt (show (-1 : Int) < a1.toInt by omega)) ?_
    refine am_k_e 1 (C' := (18, [(0, .long (a1.toInt64)), (2, .long 0), (4, .long (-1))], [.int 0], ph)) rfl ?_
    refine am_k_ret (r := some (.int 0)) rfl rfl ?_
    refine am_k_ret (r := some (.int 0)) rfl rfl ?_
    refine am_k_e 2 (C' := (9, [(0, .ref 78), (1, .int a1), (2, .int a2)], [.int (-1)], ph)) rfl ?_
    refine am_k_ret (r := some (.int (-1))) rfl rfl ?_
    refine am_k_e 10 (C' := (974, [(3, .int 6), (2, .ref 78), (1, .ref 0), (0, .ref 2000001)], [.int 1], ph)) rfl ?_
    exact am_k_ret (r := some (.int 1)) rfl rfl rfl

set_option maxHeartbeats 40000000 in
set_option maxRecDepth 100000 in
theorem p_c7 (xs : Nat → Int32) : am_k (am_E 6 xs) 2000 am_mL (405, [(3, .int 0), (2, .ref 78), (1, .ref 0), (0, .ref 2000001)], [], ph) (fun r _ => r = some (.int 1)) := by
  obtain ⟨a1, hx1⟩ : ∃ a, xs 1 = a := ⟨_, rfl⟩
  obtain ⟨a2, hx2⟩ : ∃ a, xs 2 = a := ⟨_, rfl⟩
  obtain ⟨a3, hx3⟩ : ∃ a, xs 3 = a := ⟨_, rfl⟩
  obtain ⟨a4, hx4⟩ : ∃ a, xs 4 = a := ⟨_, rfl⟩
  obtain ⟨a5, hx5⟩ : ∃ a, xs 5 = a := ⟨_, rfl⟩
  refine am_k_e 5 (C' := (410, [(3, .int 0), (2, .ref 78), (1, .ref 0), (0, .ref 2000001)], [.int 1, .ref 2000001, .ref 0], ph)) rfl ?_
  refine am_k_sld (v := a1) rfl (by decide) rfl rfl hx1 ?_
  refine am_k_e 4 (C' := (415, [(3, .int 0), (2, .ref 78), (1, .ref 0), (0, .ref 2000001)], [.int 2, .ref 2000001, .int a1, .ref 0], ph)) rfl ?_
  refine am_k_sld (v := a2) rfl (by decide) rfl rfl hx2 ?_
  refine am_k_call [.ref 0, .int a1, .int a2] [] rfl rfl rfl rfl rfl rfl (Nat.le_of_ble_eq_true rfl) (fun _ => rfl) (Nat.le_of_ble_eq_true rfl) ?_
  refine am_k_e 4 (C' := (6, [(0, .ref 0), (1, .int a1), (2, .int a2)], [.int a1, .int 1, .ref 48], ph)) rfl ?_
  refine am_k_call [.ref 48, .int 1, .int a1] [] rfl rfl rfl rfl rfl rfl (Nat.le_of_ble_eq_true rfl) (fun _ => rfl) (Nat.le_of_ble_eq_true rfl) ?_
  refine am_k_e 6 (C' := (10, [(0, .ref 48), (1, .int 1), (2, .int a1)], [.int a1], ph)) rfl ?_
  refine am_k_if rfl rfl (fun q1 => ?_) (fun q1 => ?_)
  · have h1 : a1.toInt < (0 : Int) := ccT_lt q1
    refine am_k_e 1 (C' := (30, [(0, .ref 48), (1, .int 1), (2, .int a1)], [.int 0], ph)) rfl ?_
    refine am_k_ret (r := some (.int 0)) rfl rfl ?_
    refine am_k_e 2 (C' := (13, [(0, .ref 0), (1, .int a1), (2, .int a2)], [.int (-1)], ph)) rfl ?_
    refine am_k_ret (r := some (.int (-1))) rfl rfl ?_
    refine am_k_e 5 (C' := (424, [(3, .int 0), (2, .ref 78), (1, .ref 0), (0, .ref 2000001)], [.int 1, .ref 2000001, .ref 78, .int (-1)], ph)) rfl ?_
    refine am_k_sld (v := a1) rfl (by decide) rfl rfl hx1 ?_
    refine am_k_e 4 (C' := (429, [(3, .int 0), (2, .ref 78), (1, .ref 0), (0, .ref 2000001)], [.int 2, .ref 2000001, .int a1, .ref 78, .int (-1)], ph)) rfl ?_
    refine am_k_sld (v := a2) rfl (by decide) rfl rfl hx2 ?_
    refine am_k_call [.ref 78, .int a1, .int a2] [.int (-1)] rfl rfl rfl rfl rfl rfl (Nat.le_of_ble_eq_true rfl) (fun _ => rfl) (Nat.le_of_ble_eq_true rfl) ?_
    refine am_k_e 2 (C' := (2, [(0, .ref 78), (1, .int a1), (2, .int a2)], [.int a1, .ref 78], ph)) rfl ?_
    refine am_k_call [.ref 78, .int a1] [] rfl rfl rfl rfl rfl rfl (Nat.le_of_ble_eq_true rfl) (fun _ => rfl) (Nat.le_of_ble_eq_true rfl) ?_
    refine am_k_e 4 (C' := (4, [(0, .ref 78), (1, .int a1)], [.ref 78, .long 0, .long (a1.toInt64)], ph)) rfl ?_
    refine am_k_call [.ref 78] [.long 0, .long (a1.toInt64)] rfl rfl rfl rfl rfl rfl (Nat.le_of_ble_eq_true rfl) (fun _ => rfl) (Nat.le_of_ble_eq_true rfl) ?_
    refine am_k_e 4 (C' := (6, [(0, .ref 78)], [.int 0], ph)) rfl ?_
    refine am_k_ret (r := some (.int 0)) rfl rfl ?_
    refine am_k_e 3 (C' := (10, [(0, .ref 78), (1, .int a1)], [.long (-1), .long 0, .long (a1.toInt64)], ph)) rfl ?_
    refine am_k_call [.long (a1.toInt64), .long 0, .long (-1)] [] rfl rfl rfl rfl rfl rfl (Nat.le_of_ble_eq_true rfl) (fun z => by cases z) (Nat.le_of_ble_eq_true rfl) ?_
    refine am_k_e 3 (C' := (3, [(0, .long (a1.toInt64)), (2, .long 0), (4, .long (-1))], [.int (lg_cmp (a1.toInt64) 0)], ph)) rfl ?_
    refine am_k_ifT rfl rfl (lgpT_lt (show a1.toInt < (0 : Int) by omega)) ?_
    refine am_k_e 1 (C' := (18, [(0, .long (a1.toInt64)), (2, .long 0), (4, .long (-1))], [.int 0], ph)) rfl ?_
    refine am_k_ret (r := some (.int 0)) rfl rfl ?_
    refine am_k_ret (r := some (.int 0)) rfl rfl ?_
    refine am_k_e 2 (C' := (9, [(0, .ref 78), (1, .int a1), (2, .int a2)], [.int (-1)], ph)) rfl ?_
    refine am_k_ret (r := some (.int (-1))) rfl rfl ?_
    refine am_k_e 10 (C' := (974, [(3, .int 6), (2, .ref 78), (1, .ref 0), (0, .ref 2000001)], [.int 1], ph)) rfl ?_
    exact am_k_ret (r := some (.int 1)) rfl rfl rfl
  · have h1 : (0 : Int) ≤ a1.toInt := ccF_lt q1
    refine am_k_e 4 (C' := (19, [(0, .ref 48), (1, .int 1), (2, .int a1)], [.int 1, .ref 52, .int a1], ph)) rfl ?_
    refine am_k_call [.ref 52, .int 1] [.int a1] rfl rfl rfl rfl rfl rfl (Nat.le_of_ble_eq_true rfl) (fun z => by cases z) (Nat.le_of_ble_eq_true rfl) ?_
    refine am_k_e 10 (C' := (17, [(0, .ref 52), (1, .int 1)], [.int 0], ph)) rfl ?_
    refine am_k_ret (r := some (.int 0)) rfl rfl ?_
    refine am_k_icmpT rfl rfl (ccpT (fun z => by have z1 : a1.toInt < (0 : Int) := ccF_ge z; omega)) ?_
    refine am_k_e 1 (C' := (30, [(0, .ref 48), (1, .int 1), (2, .int a1)], [.int 0], ph)) rfl ?_
    refine am_k_ret (r := some (.int 0)) rfl rfl ?_
    refine am_k_e 2 (C' := (13, [(0, .ref 0), (1, .int a1), (2, .int a2)], [.int (-1)], ph)) rfl ?_
    refine am_k_ret (r := some (.int (-1))) rfl rfl ?_
    refine am_k_e 5 (C' := (424, [(3, .int 0), (2, .ref 78), (1, .ref 0), (0, .ref 2000001)], [.int 1, .ref 2000001, .ref 78, .int (-1)], ph)) rfl ?_
    refine am_k_sld (v := a1) rfl (by decide) rfl rfl hx1 ?_
    refine am_k_e 4 (C' := (429, [(3, .int 0), (2, .ref 78), (1, .ref 0), (0, .ref 2000001)], [.int 2, .ref 2000001, .int a1, .ref 78, .int (-1)], ph)) rfl ?_
    refine am_k_sld (v := a2) rfl (by decide) rfl rfl hx2 ?_
    refine am_k_call [.ref 78, .int a1, .int a2] [.int (-1)] rfl rfl rfl rfl rfl rfl (Nat.le_of_ble_eq_true rfl) (fun _ => rfl) (Nat.le_of_ble_eq_true rfl) ?_
    refine am_k_e 2 (C' := (2, [(0, .ref 78), (1, .int a1), (2, .int a2)], [.int a1, .ref 78], ph)) rfl ?_
    refine am_k_call [.ref 78, .int a1] [] rfl rfl rfl rfl rfl rfl (Nat.le_of_ble_eq_true rfl) (fun _ => rfl) (Nat.le_of_ble_eq_true rfl) ?_
    refine am_k_e 4 (C' := (4, [(0, .ref 78), (1, .int a1)], [.ref 78, .long 0, .long (a1.toInt64)], ph)) rfl ?_
    refine am_k_call [.ref 78] [.long 0, .long (a1.toInt64)] rfl rfl rfl rfl rfl rfl (Nat.le_of_ble_eq_true rfl) (fun _ => rfl) (Nat.le_of_ble_eq_true rfl) ?_
    refine am_k_e 4 (C' := (6, [(0, .ref 78)], [.int 0], ph)) rfl ?_
    refine am_k_ret (r := some (.int 0)) rfl rfl ?_
    refine am_k_e 3 (C' := (10, [(0, .ref 78), (1, .int a1)], [.long (-1), .long 0, .long (a1.toInt64)], ph)) rfl ?_
    refine am_k_call [.long (a1.toInt64), .long 0, .long (-1)] [] rfl rfl rfl rfl rfl rfl (Nat.le_of_ble_eq_true rfl) (fun z => by cases z) (Nat.le_of_ble_eq_true rfl) ?_
    refine am_k_e 3 (C' := (3, [(0, .long (a1.toInt64)), (2, .long 0), (4, .long (-1))], [.int (lg_cmp (a1.toInt64) 0)], ph)) rfl ?_
    refine am_k_ifF rfl rfl (lgpF_lt (show (0 : Int) ≤ a1.toInt by omega)) ?_
    refine am_k_e 3 (C' := (10, [(0, .long (a1.toInt64)), (2, .long 0), (4, .long (-1))], [.int (lg_cmp (a1.toInt64) (-1))], ph)) rfl ?_
    refine am_k_ifT rfl rfl (lgpT_gt (show (-1 : Int) < a1.toInt by omega)) ?_
    refine am_k_e 1 (C' := (18, [(0, .long (a1.toInt64)), (2, .long 0), (4, .long (-1))], [.int 0], ph)) rfl ?_
    refine am_k_ret (r := some (.int 0)) rfl rfl ?_
    refine am_k_ret (r := some (.int 0)) rfl rfl ?_
    refine am_k_e 2 (C' := (9, [(0, .ref 78), (1, .int a1), (2, .int a2)], [.int (-1)], ph)) rfl ?_
    refine am_k_ret (r := some (.int (-1))) rfl rfl ?_
    refine am_k_e 10 (C' := (974, [(3, .int 6), (2, .ref 78), (1, .ref 0), (0, .ref 2000001)], [.int 1], ph)) rfl ?_
    exact am_k_ret (r := some (.int 1)) rfl rfl rfl

set_option maxHeartbeats 40000000 in
set_option maxRecDepth 100000 in
theorem p_c8 (xs : Nat → Int32) : am_k (am_E 6 xs) 2000 am_mL (438, [(3, .int 0), (2, .ref 78), (1, .ref 0), (0, .ref 2000001)], [], ph) (fun r _ => r = some (.int 1)) := by
  obtain ⟨a1, hx1⟩ : ∃ a, xs 1 = a := ⟨_, rfl⟩
  obtain ⟨a2, hx2⟩ : ∃ a, xs 2 = a := ⟨_, rfl⟩
  obtain ⟨a3, hx3⟩ : ∃ a, xs 3 = a := ⟨_, rfl⟩
  obtain ⟨a4, hx4⟩ : ∃ a, xs 4 = a := ⟨_, rfl⟩
  obtain ⟨a5, hx5⟩ : ∃ a, xs 5 = a := ⟨_, rfl⟩
  refine am_k_e 5 (C' := (443, [(3, .int 0), (2, .ref 78), (1, .ref 0), (0, .ref 2000001)], [.int 1, .ref 2000001, .ref 0], ph)) rfl ?_
  refine am_k_sld (v := a1) rfl (by decide) rfl rfl hx1 ?_
  refine am_k_call [.ref 0, .int a1] [] rfl rfl rfl rfl rfl rfl (Nat.le_of_ble_eq_true rfl) (fun _ => rfl) (Nat.le_of_ble_eq_true rfl) ?_
  refine am_k_e 4 (C' := (6, [(0, .ref 0), (1, .int a1)], [.int a1, .int 2, .ref 48], ph)) rfl ?_
  refine am_k_call [.ref 48, .int 2, .int a1] [] rfl rfl rfl rfl rfl rfl (Nat.le_of_ble_eq_true rfl) (fun _ => rfl) (Nat.le_of_ble_eq_true rfl) ?_
  refine am_k_e 6 (C' := (10, [(0, .ref 48), (1, .int 2), (2, .int a1)], [.int a1], ph)) rfl ?_
  refine am_k_if rfl rfl (fun q1 => ?_) (fun q1 => ?_)
  · have h1 : a1.toInt < (0 : Int) := ccT_lt q1
    refine am_k_e 1 (C' := (30, [(0, .ref 48), (1, .int 2), (2, .int a1)], [.int 0], ph)) rfl ?_
    refine am_k_ret (r := some (.int 0)) rfl rfl ?_
    refine am_k_e 2 (C' := (34, [(0, .ref 0), (1, .int a1)], [.int (-1)], ph)) rfl ?_
    refine am_k_ret (r := some (.int (-1))) rfl rfl ?_
    refine am_k_e 5 (C' := (452, [(3, .int 0), (2, .ref 78), (1, .ref 0), (0, .ref 2000001)], [.int 1, .ref 2000001, .ref 78, .int (-1)], ph)) rfl ?_
    refine am_k_sld (v := a1) rfl (by decide) rfl rfl hx1 ?_
    refine am_k_call [.ref 78, .int a1] [.int (-1)] rfl rfl rfl rfl rfl rfl (Nat.le_of_ble_eq_true rfl) (fun _ => rfl) (Nat.le_of_ble_eq_true rfl) ?_
    refine am_k_e 4 (C' := (4, [(0, .ref 78), (1, .int a1)], [.ref 78, .long 0, .long (a1.toInt64)], ph)) rfl ?_
    refine am_k_call [.ref 78] [.long 0, .long (a1.toInt64)] rfl rfl rfl rfl rfl rfl (Nat.le_of_ble_eq_true rfl) (fun _ => rfl) (Nat.le_of_ble_eq_true rfl) ?_
    refine am_k_e 4 (C' := (7, [(0, .ref 78)], [.int 0], ph)) rfl ?_
    refine am_k_ret (r := some (.int 0)) rfl rfl ?_
    refine am_k_e 3 (C' := (10, [(0, .ref 78), (1, .int a1)], [.long (-1), .long 0, .long (a1.toInt64)], ph)) rfl ?_
    refine am_k_call [.long (a1.toInt64), .long 0, .long (-1)] [] rfl rfl rfl rfl rfl rfl (Nat.le_of_ble_eq_true rfl) (fun z => by cases z) (Nat.le_of_ble_eq_true rfl) ?_
    refine am_k_e 3 (C' := (3, [(0, .long (a1.toInt64)), (2, .long 0), (4, .long (-1))], [.int (lg_cmp (a1.toInt64) 0)], ph)) rfl ?_
    refine am_k_ifT rfl rfl (lgpT_lt (show a1.toInt < (0 : Int) by omega)) ?_
    refine am_k_e 1 (C' := (18, [(0, .long (a1.toInt64)), (2, .long 0), (4, .long (-1))], [.int 0], ph)) rfl ?_
    refine am_k_ret (r := some (.int 0)) rfl rfl ?_
    refine am_k_e 2 (C' := (33, [(0, .ref 78), (1, .int a1)], [.int (-1)], ph)) rfl ?_
    refine am_k_ret (r := some (.int (-1))) rfl rfl ?_
    refine am_k_e 10 (C' := (974, [(3, .int 6), (2, .ref 78), (1, .ref 0), (0, .ref 2000001)], [.int 1], ph)) rfl ?_
    exact am_k_ret (r := some (.int 1)) rfl rfl rfl
  · have h1 : (0 : Int) ≤ a1.toInt := ccF_lt q1
    refine am_k_e 4 (C' := (19, [(0, .ref 48), (1, .int 2), (2, .int a1)], [.int 2, .ref 52, .int a1], ph)) rfl ?_
    refine am_k_call [.ref 52, .int 2] [.int a1] rfl rfl rfl rfl rfl rfl (Nat.le_of_ble_eq_true rfl) (fun z => by cases z) (Nat.le_of_ble_eq_true rfl) ?_
    refine am_k_e 10 (C' := (17, [(0, .ref 52), (1, .int 2)], [.int 0], ph)) rfl ?_
    refine am_k_ret (r := some (.int 0)) rfl rfl ?_
    refine am_k_icmpT rfl rfl (ccpT (fun z => by have z1 : a1.toInt < (0 : Int) := ccF_ge z; omega)) ?_
    refine am_k_e 1 (C' := (30, [(0, .ref 48), (1, .int 2), (2, .int a1)], [.int 0], ph)) rfl ?_
    refine am_k_ret (r := some (.int 0)) rfl rfl ?_
    refine am_k_e 2 (C' := (34, [(0, .ref 0), (1, .int a1)], [.int (-1)], ph)) rfl ?_
    refine am_k_ret (r := some (.int (-1))) rfl rfl ?_
    refine am_k_e 5 (C' := (452, [(3, .int 0), (2, .ref 78), (1, .ref 0), (0, .ref 2000001)], [.int 1, .ref 2000001, .ref 78, .int (-1)], ph)) rfl ?_
    refine am_k_sld (v := a1) rfl (by decide) rfl rfl hx1 ?_
    refine am_k_call [.ref 78, .int a1] [.int (-1)] rfl rfl rfl rfl rfl rfl (Nat.le_of_ble_eq_true rfl) (fun _ => rfl) (Nat.le_of_ble_eq_true rfl) ?_
    refine am_k_e 4 (C' := (4, [(0, .ref 78), (1, .int a1)], [.ref 78, .long 0, .long (a1.toInt64)], ph)) rfl ?_
    refine am_k_call [.ref 78] [.long 0, .long (a1.toInt64)] rfl rfl rfl rfl rfl rfl (Nat.le_of_ble_eq_true rfl) (fun _ => rfl) (Nat.le_of_ble_eq_true rfl) ?_
    refine am_k_e 4 (C' := (7, [(0, .ref 78)], [.int 0], ph)) rfl ?_
    refine am_k_ret (r := some (.int 0)) rfl rfl ?_
    refine am_k_e 3 (C' := (10, [(0, .ref 78), (1, .int a1)], [.long (-1), .long 0, .long (a1.toInt64)], ph)) rfl ?_
    refine am_k_call [.long (a1.toInt64), .long 0, .long (-1)] [] rfl rfl rfl rfl rfl rfl (Nat.le_of_ble_eq_true rfl) (fun z => by cases z) (Nat.le_of_ble_eq_true rfl) ?_
    refine am_k_e 3 (C' := (3, [(0, .long (a1.toInt64)), (2, .long 0), (4, .long (-1))], [.int (lg_cmp (a1.toInt64) 0)], ph)) rfl ?_
    refine am_k_ifF rfl rfl (lgpF_lt (show (0 : Int) ≤ a1.toInt by omega)) ?_
    refine am_k_e 3 (C' := (10, [(0, .long (a1.toInt64)), (2, .long 0), (4, .long (-1))], [.int (lg_cmp (a1.toInt64) (-1))], ph)) rfl ?_
    refine am_k_ifT rfl rfl (lgpT_gt (show (-1 : Int) < a1.toInt by omega)) ?_
    refine am_k_e 1 (C' := (18, [(0, .long (a1.toInt64)), (2, .long 0), (4, .long (-1))], [.int 0], ph)) rfl ?_
    refine am_k_ret (r := some (.int 0)) rfl rfl ?_
    refine am_k_e 2 (C' := (33, [(0, .ref 78), (1, .int a1)], [.int (-1)], ph)) rfl ?_
    refine am_k_ret (r := some (.int (-1))) rfl rfl ?_
    refine am_k_e 10 (C' := (974, [(3, .int 6), (2, .ref 78), (1, .ref 0), (0, .ref 2000001)], [.int 1], ph)) rfl ?_
    exact am_k_ret (r := some (.int 1)) rfl rfl rfl

set_option maxHeartbeats 40000000 in
set_option maxRecDepth 100000 in
theorem p_c9 (xs : Nat → Int32) : am_k (am_E 6 xs) 2000 am_mL (461, [(3, .int 0), (2, .ref 78), (1, .ref 0), (0, .ref 2000001)], [], ph) (fun r _ => r = some (.int 1)) := by
  obtain ⟨a1, hx1⟩ : ∃ a, xs 1 = a := ⟨_, rfl⟩
  obtain ⟨a2, hx2⟩ : ∃ a, xs 2 = a := ⟨_, rfl⟩
  obtain ⟨a3, hx3⟩ : ∃ a, xs 3 = a := ⟨_, rfl⟩
  obtain ⟨a4, hx4⟩ : ∃ a, xs 4 = a := ⟨_, rfl⟩
  obtain ⟨a5, hx5⟩ : ∃ a, xs 5 = a := ⟨_, rfl⟩
  refine am_k_e 5 (C' := (466, [(3, .int 0), (2, .ref 78), (1, .ref 0), (0, .ref 2000001)], [.int 1, .ref 2000001, .ref 0], ph)) rfl ?_
  refine am_k_sld (v := a1) rfl (by decide) rfl rfl hx1 ?_
  refine am_k_call [.ref 0, .int a1] [] rfl rfl rfl rfl rfl rfl (Nat.le_of_ble_eq_true rfl) (fun _ => rfl) (Nat.le_of_ble_eq_true rfl) ?_
  refine am_k_e 4 (C' := (6, [(0, .ref 0), (1, .int a1)], [.int a1, .int 3, .ref 48], ph)) rfl ?_
  refine am_k_call [.ref 48, .int 3, .int a1] [] rfl rfl rfl rfl rfl rfl (Nat.le_of_ble_eq_true rfl) (fun _ => rfl) (Nat.le_of_ble_eq_true rfl) ?_
  refine am_k_e 6 (C' := (10, [(0, .ref 48), (1, .int 3), (2, .int a1)], [.int a1], ph)) rfl ?_
  refine am_k_if rfl rfl (fun q1 => ?_) (fun q1 => ?_)
  · have h1 : a1.toInt < (0 : Int) := ccT_lt q1
    refine am_k_e 1 (C' := (30, [(0, .ref 48), (1, .int 3), (2, .int a1)], [.int 0], ph)) rfl ?_
    refine am_k_ret (r := some (.int 0)) rfl rfl ?_
    refine am_k_e 2 (C' := (24, [(0, .ref 0), (1, .int a1)], [.int (-1)], ph)) rfl ?_
    refine am_k_ret (r := some (.int (-1))) rfl rfl ?_
    refine am_k_e 5 (C' := (475, [(3, .int 0), (2, .ref 78), (1, .ref 0), (0, .ref 2000001)], [.int 1, .ref 2000001, .ref 78, .int (-1)], ph)) rfl ?_
    refine am_k_sld (v := a1) rfl (by decide) rfl rfl hx1 ?_
    refine am_k_call [.ref 78, .int a1] [.int (-1)] rfl rfl rfl rfl rfl rfl (Nat.le_of_ble_eq_true rfl) (fun _ => rfl) (Nat.le_of_ble_eq_true rfl) ?_
    refine am_k_e 4 (C' := (4, [(0, .ref 78), (1, .int a1)], [.ref 78, .long 0, .long (a1.toInt64)], ph)) rfl ?_
    refine am_k_call [.ref 78] [.long 0, .long (a1.toInt64)] rfl rfl rfl rfl rfl rfl (Nat.le_of_ble_eq_true rfl) (fun _ => rfl) (Nat.le_of_ble_eq_true rfl) ?_
    refine am_k_e 4 (C' := (7, [(0, .ref 78)], [.int 0], ph)) rfl ?_
    refine am_k_ret (r := some (.int 0)) rfl rfl ?_
    refine am_k_e 3 (C' := (10, [(0, .ref 78), (1, .int a1)], [.long (-1), .long 0, .long (a1.toInt64)], ph)) rfl ?_
    refine am_k_call [.long (a1.toInt64), .long 0, .long (-1)] [] rfl rfl rfl rfl rfl rfl (Nat.le_of_ble_eq_true rfl) (fun z => by cases z) (Nat.le_of_ble_eq_true rfl) ?_
    refine am_k_e 3 (C' := (3, [(0, .long (a1.toInt64)), (2, .long 0), (4, .long (-1))], [.int (lg_cmp (a1.toInt64) 0)], ph)) rfl ?_
    refine am_k_ifT rfl rfl (lgpT_lt (show a1.toInt < (0 : Int) by omega)) ?_
    refine am_k_e 1 (C' := (18, [(0, .long (a1.toInt64)), (2, .long 0), (4, .long (-1))], [.int 0], ph)) rfl ?_
    refine am_k_ret (r := some (.int 0)) rfl rfl ?_
    refine am_k_e 2 (C' := (28, [(0, .ref 78), (1, .int a1)], [.int (-1)], ph)) rfl ?_
    refine am_k_ret (r := some (.int (-1))) rfl rfl ?_
    refine am_k_e 10 (C' := (974, [(3, .int 6), (2, .ref 78), (1, .ref 0), (0, .ref 2000001)], [.int 1], ph)) rfl ?_
    exact am_k_ret (r := some (.int 1)) rfl rfl rfl
  · have h1 : (0 : Int) ≤ a1.toInt := ccF_lt q1
    refine am_k_e 4 (C' := (19, [(0, .ref 48), (1, .int 3), (2, .int a1)], [.int 3, .ref 52, .int a1], ph)) rfl ?_
    refine am_k_call [.ref 52, .int 3] [.int a1] rfl rfl rfl rfl rfl rfl (Nat.le_of_ble_eq_true rfl) (fun z => by cases z) (Nat.le_of_ble_eq_true rfl) ?_
    refine am_k_e 10 (C' := (17, [(0, .ref 52), (1, .int 3)], [.int 0], ph)) rfl ?_
    refine am_k_ret (r := some (.int 0)) rfl rfl ?_
    refine am_k_icmpT rfl rfl (ccpT (fun z => by have z1 : a1.toInt < (0 : Int) := ccF_ge z; omega)) ?_
    refine am_k_e 1 (C' := (30, [(0, .ref 48), (1, .int 3), (2, .int a1)], [.int 0], ph)) rfl ?_
    refine am_k_ret (r := some (.int 0)) rfl rfl ?_
    refine am_k_e 2 (C' := (24, [(0, .ref 0), (1, .int a1)], [.int (-1)], ph)) rfl ?_
    refine am_k_ret (r := some (.int (-1))) rfl rfl ?_
    refine am_k_e 5 (C' := (475, [(3, .int 0), (2, .ref 78), (1, .ref 0), (0, .ref 2000001)], [.int 1, .ref 2000001, .ref 78, .int (-1)], ph)) rfl ?_
    refine am_k_sld (v := a1) rfl (by decide) rfl rfl hx1 ?_
    refine am_k_call [.ref 78, .int a1] [.int (-1)] rfl rfl rfl rfl rfl rfl (Nat.le_of_ble_eq_true rfl) (fun _ => rfl) (Nat.le_of_ble_eq_true rfl) ?_
    refine am_k_e 4 (C' := (4, [(0, .ref 78), (1, .int a1)], [.ref 78, .long 0, .long (a1.toInt64)], ph)) rfl ?_
    refine am_k_call [.ref 78] [.long 0, .long (a1.toInt64)] rfl rfl rfl rfl rfl rfl (Nat.le_of_ble_eq_true rfl) (fun _ => rfl) (Nat.le_of_ble_eq_true rfl) ?_
    refine am_k_e 4 (C' := (7, [(0, .ref 78)], [.int 0], ph)) rfl ?_
    refine am_k_ret (r := some (.int 0)) rfl rfl ?_
    refine am_k_e 3 (C' := (10, [(0, .ref 78), (1, .int a1)], [.long (-1), .long 0, .long (a1.toInt64)], ph)) rfl ?_
    refine am_k_call [.long (a1.toInt64), .long 0, .long (-1)] [] rfl rfl rfl rfl rfl rfl (Nat.le_of_ble_eq_true rfl) (fun z => by cases z) (Nat.le_of_ble_eq_true rfl) ?_
    refine am_k_e 3 (C' := (3, [(0, .long (a1.toInt64)), (2, .long 0), (4, .long (-1))], [.int (lg_cmp (a1.toInt64) 0)], ph)) rfl ?_
    refine am_k_ifF rfl rfl (lgpF_lt (show (0 : Int) ≤ a1.toInt by omega)) ?_
    refine am_k_e 3 (C' := (10, [(0, .long (a1.toInt64)), (2, .long 0), (4, .long (-1))], [.int (lg_cmp (a1.toInt64) (-1))], ph)) rfl ?_
    refine am_k_ifT rfl rfl (lgpT_gt (show (-1 : Int) < a1.toInt by omega)) ?_
    refine am_k_e 1 (C' := (18, [(0, .long (a1.toInt64)), (2, .long 0), (4, .long (-1))], [.int 0], ph)) rfl ?_
    refine am_k_ret (r := some (.int 0)) rfl rfl ?_
    refine am_k_e 2 (C' := (28, [(0, .ref 78), (1, .int a1)], [.int (-1)], ph)) rfl ?_
    refine am_k_ret (r := some (.int (-1))) rfl rfl ?_
    refine am_k_e 10 (C' := (974, [(3, .int 6), (2, .ref 78), (1, .ref 0), (0, .ref 2000001)], [.int 1], ph)) rfl ?_
    exact am_k_ret (r := some (.int 1)) rfl rfl rfl

set_option maxHeartbeats 40000000 in
set_option maxRecDepth 100000 in
theorem p_c10 (xs : Nat → Int32) : am_k (am_E 6 xs) 2000 am_mL (484, [(3, .int 0), (2, .ref 78), (1, .ref 0), (0, .ref 2000001)], [], ph) (fun r _ => r = some (.int 1)) := by
  obtain ⟨a1, hx1⟩ : ∃ a, xs 1 = a := ⟨_, rfl⟩
  obtain ⟨a2, hx2⟩ : ∃ a, xs 2 = a := ⟨_, rfl⟩
  obtain ⟨a3, hx3⟩ : ∃ a, xs 3 = a := ⟨_, rfl⟩
  obtain ⟨a4, hx4⟩ : ∃ a, xs 4 = a := ⟨_, rfl⟩
  obtain ⟨a5, hx5⟩ : ∃ a, xs 5 = a := ⟨_, rfl⟩
  refine am_k_e 5 (C' := (489, [(3, .int 0), (2, .ref 78), (1, .ref 0), (0, .ref 2000001)], [.int 1, .ref 2000001, .ref 0], ph)) rfl ?_
  refine am_k_sld (v := a1) rfl (by decide) rfl rfl hx1 ?_
  refine am_k_e 4 (C' := (494, [(3, .int 0), (2, .ref 78), (1, .ref 0), (0, .ref 2000001)], [.int 2, .ref 2000001, .int a1, .ref 0], ph)) rfl ?_
  refine am_k_sld (v := a2) rfl (by decide) rfl rfl hx2 ?_
  refine am_k_call [.ref 0, .int a1, .int a2] [] rfl rfl rfl rfl rfl rfl (Nat.le_of_ble_eq_true rfl) (fun _ => rfl) (Nat.le_of_ble_eq_true rfl) ?_
  refine am_k_e 4 (C' := (6, [(0, .ref 0), (1, .int a1), (2, .int a2)], [.int a2, .int a1, .ref 21], ph)) rfl ?_
  refine am_k_call [.ref 21, .int a1, .int a2] [] rfl rfl rfl rfl rfl rfl (Nat.le_of_ble_eq_true rfl) (fun _ => rfl) (Nat.le_of_ble_eq_true rfl) ?_
  refine am_k_e 1 (C' := (1, [(0, .ref 21), (1, .int a1), (2, .int a2)], [.int a1], ph)) rfl ?_
  refine am_k_if rfl rfl (fun q1 => ?_) (fun q1 => ?_)
  · have h1 : a1.toInt < (0 : Int) := ccT_lt q1
    refine am_k_e 1 (C' := (13, [(0, .ref 21), (1, .int a1), (2, .int a2)], [.int (-1)], ph)) rfl ?_
    refine am_k_ret (r := some (.int (-1))) rfl rfl ?_
    refine am_k_ret (r := some (.int (-1))) rfl rfl ?_
    refine am_k_e 5 (C' := (503, [(3, .int 0), (2, .ref 78), (1, .ref 0), (0, .ref 2000001)], [.int 1, .ref 2000001, .ref 78, .int (-1)], ph)) rfl ?_
    refine am_k_sld (v := a1) rfl (by decide) rfl rfl hx1 ?_
    refine am_k_e 4 (C' := (508, [(3, .int 0), (2, .ref 78), (1, .ref 0), (0, .ref 2000001)], [.int 2, .ref 2000001, .int a1, .ref 78, .int (-1)], ph)) rfl ?_
    refine am_k_sld (v := a2) rfl (by decide) rfl rfl hx2 ?_
    refine am_k_call [.ref 78, .int a1, .int a2] [.int (-1)] rfl rfl rfl rfl rfl rfl (Nat.le_of_ble_eq_true rfl) (fun _ => rfl) (Nat.le_of_ble_eq_true rfl) ?_
    refine am_k_e 10 (C' := (13, [(0, .ref 78), (1, .int a1), (2, .int a2)], [.long (-1), .long 0, .long (a1.toInt64)], ph)) rfl ?_
    refine am_k_call [.long (a1.toInt64), .long 0, .long (-1)] [] rfl rfl rfl rfl rfl rfl (Nat.le_of_ble_eq_true rfl) (fun z => by cases z) (Nat.le_of_ble_eq_true rfl) ?_
    refine am_k_e 3 (C' := (3, [(0, .long (a1.toInt64)), (2, .long 0), (4, .long (-1))], [.int (lg_cmp (a1.toInt64) 0)], ph)) rfl ?_
    refine am_k_ifT rfl rfl (lgpT_lt (show a1.toInt < (0 : Int) by omega)) ?_
    refine am_k_e 1 (C' := (18, [(0, .long (a1.toInt64)), (2, .long 0), (4, .long (-1))], [.int 0], ph)) rfl ?_
    refine am_k_ret (r := some (.int 0)) rfl rfl ?_
    refine am_k_e 2 (C' := (48, [(0, .ref 78), (1, .int a1), (2, .int a2)], [.int (-1)], ph)) rfl ?_
    refine am_k_ret (r := some (.int (-1))) rfl rfl ?_
    refine am_k_e 10 (C' := (974, [(3, .int 6), (2, .ref 78), (1, .ref 0), (0, .ref 2000001)], [.int 1], ph)) rfl ?_
    exact am_k_ret (r := some (.int 1)) rfl rfl rfl
  · have h1 : (0 : Int) ≤ a1.toInt := ccF_lt q1
    refine am_k_e 2 (C' := (6, [(0, .ref 21), (1, .int a1), (2, .int a2)], [.ref 21, .int a1], ph)) rfl ?_
    refine am_k_call [.ref 21] [.int a1] rfl rfl rfl rfl rfl rfl (Nat.le_of_ble_eq_true rfl) (fun _ => rfl) (Nat.le_of_ble_eq_true rfl) ?_
    refine am_k_e 3 (C' := (5, [(0, .ref 21)], [.int 2, .ref 22], ph)) rfl ?_
    refine am_k_call [.ref 22, .int 2] [] rfl rfl rfl rfl rfl rfl (Nat.le_of_ble_eq_true rfl) (fun z => by cases z) (Nat.le_of_ble_eq_true rfl) ?_
    refine am_k_e 10 (C' := (17, [(0, .ref 22), (1, .int 2)], [.int 0], ph)) rfl ?_
    refine am_k_ret (r := some (.int 0)) rfl rfl ?_
    refine am_k_ret (r := some (.int 0)) rfl rfl ?_
    refine am_k_icmpF rfl rfl (ccpF (fun z => by have z1 : a1.toInt < (0 : Int) := ccT_lt z; omega)) ?_
    refine am_k_e 1 (C' := (13, [(0, .ref 21), (1, .int a1), (2, .int a2)], [.int (-1)], ph)) rfl ?_
    refine am_k_ret (r := some (.int (-1))) rfl rfl ?_
    refine am_k_ret (r := some (.int (-1))) rfl rfl ?_
    refine am_k_e 5 (C' := (503, [(3, .int 0), (2, .ref 78), (1, .ref 0), (0, .ref 2000001)], [.int 1, .ref 2000001, .ref 78, .int (-1)], ph)) rfl ?_
    refine am_k_sld (v := a1) rfl (by decide) rfl rfl hx1 ?_
    refine am_k_e 4 (C' := (508, [(3, .int 0), (2, .ref 78), (1, .ref 0), (0, .ref 2000001)], [.int 2, .ref 2000001, .int a1, .ref 78, .int (-1)], ph)) rfl ?_
    refine am_k_sld (v := a2) rfl (by decide) rfl rfl hx2 ?_
    refine am_k_call [.ref 78, .int a1, .int a2] [.int (-1)] rfl rfl rfl rfl rfl rfl (Nat.le_of_ble_eq_true rfl) (fun _ => rfl) (Nat.le_of_ble_eq_true rfl) ?_
    refine am_k_e 10 (C' := (13, [(0, .ref 78), (1, .int a1), (2, .int a2)], [.long (-1), .long 0, .long (a1.toInt64)], ph)) rfl ?_
    refine am_k_call [.long (a1.toInt64), .long 0, .long (-1)] [] rfl rfl rfl rfl rfl rfl (Nat.le_of_ble_eq_true rfl) (fun z => by cases z) (Nat.le_of_ble_eq_true rfl) ?_
    refine am_k_e 3 (C' := (3, [(0, .long (a1.toInt64)), (2, .long 0), (4, .long (-1))], [.int (lg_cmp (a1.toInt64) 0)], ph)) rfl ?_
    refine am_k_ifF rfl rfl (lgpF_lt (show (0 : Int) ≤ a1.toInt by omega)) ?_
    refine am_k_e 3 (C' := (10, [(0, .long (a1.toInt64)), (2, .long 0), (4, .long (-1))], [.int (lg_cmp (a1.toInt64) (-1))], ph)) rfl ?_
    refine am_k_ifT rfl rfl (lgpT_gt (show (-1 : Int) < a1.toInt by omega)) ?_
    refine am_k_e 1 (C' := (18, [(0, .long (a1.toInt64)), (2, .long 0), (4, .long (-1))], [.int 0], ph)) rfl ?_
    refine am_k_ret (r := some (.int 0)) rfl rfl ?_
    refine am_k_e 2 (C' := (48, [(0, .ref 78), (1, .int a1), (2, .int a2)], [.int (-1)], ph)) rfl ?_
    refine am_k_ret (r := some (.int (-1))) rfl rfl ?_
    refine am_k_e 10 (C' := (974, [(3, .int 6), (2, .ref 78), (1, .ref 0), (0, .ref 2000001)], [.int 1], ph)) rfl ?_
    exact am_k_ret (r := some (.int 1)) rfl rfl rfl

set_option maxHeartbeats 40000000 in
set_option maxRecDepth 100000 in
theorem p_c12 (xs : Nat → Int32) : am_k (am_E 6 xs) 2000 am_mL (530, [(3, .int 0), (2, .ref 78), (1, .ref 0), (0, .ref 2000001)], [], ph) (fun r _ => r = some (.int 1)) := by
  obtain ⟨a1, hx1⟩ : ∃ a, xs 1 = a := ⟨_, rfl⟩
  obtain ⟨a2, hx2⟩ : ∃ a, xs 2 = a := ⟨_, rfl⟩
  obtain ⟨a3, hx3⟩ : ∃ a, xs 3 = a := ⟨_, rfl⟩
  obtain ⟨a4, hx4⟩ : ∃ a, xs 4 = a := ⟨_, rfl⟩
  obtain ⟨a5, hx5⟩ : ∃ a, xs 5 = a := ⟨_, rfl⟩
  refine am_k_e 5 (C' := (535, [(3, .int 0), (2, .ref 78), (1, .ref 0), (0, .ref 2000001)], [.int 1, .ref 2000001, .ref 0], ph)) rfl ?_
  refine am_k_sld (v := a1) rfl (by decide) rfl rfl hx1 ?_
  refine am_k_call [.ref 0, .int a1] [] rfl rfl rfl rfl rfl rfl (Nat.le_of_ble_eq_true rfl) (fun _ => rfl) (Nat.le_of_ble_eq_true rfl) ?_
  refine am_k_e 4 (C' := (28, [(0, .ref 0), (1, .int a1)], [.int (-1)], ph)) rfl ?_
  refine am_k_ret (r := some (.int (-1))) rfl rfl ?_
  refine am_k_e 5 (C' := (544, [(3, .int 0), (2, .ref 78), (1, .ref 0), (0, .ref 2000001)], [.int 1, .ref 2000001, .ref 78, .int (-1)], ph)) rfl ?_
  refine am_k_sld (v := a1) rfl (by decide) rfl rfl hx1 ?_
  refine am_k_call [.ref 78, .int a1] [.int (-1)] rfl rfl rfl rfl rfl rfl (Nat.le_of_ble_eq_true rfl) (fun _ => rfl) (Nat.le_of_ble_eq_true rfl) ?_
  refine am_k_e 4 (C' := (8, [(0, .ref 78), (1, .int a1)], [.int (-1)], ph)) rfl ?_
  refine am_k_ret (r := some (.int (-1))) rfl rfl ?_
  refine am_k_e 10 (C' := (974, [(3, .int 6), (2, .ref 78), (1, .ref 0), (0, .ref 2000001)], [.int 1], ph)) rfl ?_
  exact am_k_ret (r := some (.int 1)) rfl rfl rfl
