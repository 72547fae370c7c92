set_option maxHeartbeats 40000000 in
set_option maxRecDepth 100000 in
theorem p_c19 (xs : Nat → Int32) : am_k (am_E 6 xs) 2000 am_mL (681, [(3, .int 0), (2, .ref 78), (1, .ref 0), (0, .ref 2000001)], [], ph) (fun r _ => r = some (.int 1)) := by
  obtain ⟨a1, hx1⟩ : ∃ a, xs 1 = a := ⟨_, rfl⟩
  obtain ⟨a2, hx2⟩ : ∃ a, xs 2 = a := ⟨_, rfl⟩
  obtain ⟨a3, hx3⟩ : ∃ a, xs 3 = a := ⟨_, rfl⟩
  obtain ⟨a4, hx4⟩ : ∃ a, xs 4 = a := ⟨_, rfl⟩
  obtain ⟨a5, hx5⟩ : ∃ a, xs 5 = a := ⟨_, rfl⟩
  refine am_k_e 5 (C' := (686, [(3, .int 0), (2, .ref 78), (1, .ref 0), (0, .ref 2000001)], [.int 1, .ref 2000001, .ref 0], ph)) rfl ?_
  refine am_k_sld (v := a1) rfl (by decide) rfl rfl hx1 ?_
  refine am_k_call [.ref 0, .int a1] [] rfl rfl rfl rfl rfl rfl (Nat.le_of_ble_eq_true rfl) (fun _ => rfl) (Nat.le_of_ble_eq_true rfl) ?_
  refine am_k_e 4 (C' := (28, [(0, .ref 0), (1, .int a1)], [.int (-1)], ph)) rfl ?_
  refine am_k_ret (r := some (.int (-1))) rfl rfl ?_
  refine am_k_e 5 (C' := (695, [(3, .int 0), (2, .ref 78), (1, .ref 0), (0, .ref 2000001)], [.int 1, .ref 2000001, .ref 78, .int (-1)], ph)) rfl ?_
  refine am_k_sld (v := a1) rfl (by decide) rfl rfl hx1 ?_
  refine am_k_call [.ref 78, .int a1] [.int (-1)] rfl rfl rfl rfl rfl rfl (Nat.le_of_ble_eq_true rfl) (fun _ => rfl) (Nat.le_of_ble_eq_true rfl) ?_
  refine am_k_e 1 (C' := (1, [(0, .ref 78), (1, .int a1)], [.int a1], ph)) rfl ?_
  refine am_k_if rfl rfl (fun q1 => ?_) (fun q1 => ?_)
  · have h1 : ¬ a1.toInt = (0 : Int) := ccT_ne q1
    refine am_k_e 2 (C' := (13, [(0, .ref 78), (1, .int a1)], [.int 1, .int a1], ph)) rfl ?_
    refine am_k_icmp rfl rfl (fun q2 => ?_) (fun q2 => ?_)
    · have h2 : ¬ a1.toInt = (1 : Int) := ccT_ne q2
      refine am_k_e 1 (C' := (24, [(0, .ref 78), (1, .int a1)], [.int (-1)], ph)) rfl ?_
      refine am_k_ret (r := some (.int (-1))) rfl rfl ?_
      refine am_k_e 10 (C' := (974, [(3, .int 6), (2, .ref 78), (1, .ref 0), (0, .ref 2000001)], [.int 1], ph)) rfl ?_
      exact am_k_ret (r := some (.int 1)) rfl rfl rfl
    · have h2 : a1.toInt = (1 : Int) := ccF_ne q2
      obtain rfl : a1 = 1 := Int32.toInt_inj.mp (show a1.toInt = (1 : Int) by omega)
      refine am_k_e 3 (C' := (24, [(0, .ref 78), (1, .int 1)], [.int (-1)], ph)) rfl ?_
      refine am_k_ret (r := some (.int (-1))) rfl rfl ?_
      refine am_k_e 10 (C' := (974, [(3, .int 6), (2, .ref 78), (1, .ref 0), (0, .ref 2000001)], [.int 1], ph)) rfl ?_
      exact am_k_ret (r := some (.int 1)) rfl rfl rfl
  · have h1 : a1.toInt = (0 : Int) := ccF_ne q1
    obtain rfl : a1 = 0 := Int32.toInt_inj.mp (show a1.toInt = (0 : Int) by omega)
    refine am_k_e 3 (C' := (24, [(0, .ref 78), (1, .int 0)], [.int (-1)], ph)) rfl ?_
    refine am_k_ret (r := some (.int (-1))) rfl rfl ?_
    refine am_k_e 10 (C' := (974, [(3, .int 6), (2, .ref 78), (1, .ref 0), (0, .ref 2000001)], [.int 1], ph)) rfl ?_
    exact am_k_ret (r := some (.int 1)) rfl rfl rfl

def hc20_0 : am_H := ((ph.set 1 (.inr (8, [.ref 2, .int 0]))).set 18 (.inr (3, [.ref 19, .ref 20, .int 0])))
def hc20_1 : am_H := (((ph.set 1 (.inr (8, [.ref 2, .int 0]))).set 18 (.inr (3, [.ref 19, .ref 20, .int 0]))).set 47 (.inl (0, 6, .inl (upd (fun _ => 0) 1 1))))
def hc20_2 : am_H := ((((ph.set 1 (.inr (8, [.ref 2, .int 0]))).set 18 (.inr (3, [.ref 19, .ref 20, .int 0]))).set 47 (.inl (0, 6, .inl (upd (fun _ => 0) 1 1)))).set 78 (.inr (12, [.ref 79, .int 0, .int 0, .int 0, .int 0, .int 0, .int 0, .int 0, .int (-1), .ref 80, .ref 81, .ref 82, .ref 83, .ref 84, .ref 85, .ref 86, .ref 87, .ref 88, .ref 89, .ref 90, .ref 91, .ref 92, .ref 93, .ref 94, .ref 95, .ref 96, .ref 97, .ref 98, .ref 99, .ref 100, .int 0, .ref 101, .ref 102, .ref 103, .ref 104, .ref 105, .ref 106, .ref 107, .ref 108, .ref 109, .int 0, .int 0, .int 0, .ref 110, .ref 111, .ref 112, .int 0, .int 0, .int 0, .int 0, .int 0, .ref 113, .ref 114, .ref 115, .ref 116, .int 0, .int (-1), .int (-1), .int 0, .ref 117, .ref 118, .int 0, .int 0, .long 1, .ref 119, .ref 120, .ref 121, .ref 122, .ref 123, .ref 124, .ref 125, .ref 126, .ref 127, .ref 128, .ref 129, .ref 130, .ref 131, .ref 132, .ref 133, .ref 134, .ref 135, .ref 136, .ref 137, .ref 138, .int 0, .ref 139, .int 0, .int 0, .int 0, .ref 140, .int 0, .long 0, .int 0, .ref 141, .int 0])))
def hc20_3 : am_H := (((((ph.set 1 (.inr (8, [.ref 2, .int 0]))).set 18 (.inr (3, [.ref 19, .ref 20, .int 0]))).set 47 (.inl (0, 6, .inl (upd (fun _ => 0) 1 1)))).set 78 (.inr (12, [.ref 79, .int 0, .int 0, .int 0, .int 0, .int 0, .int 0, .int 0, .int (-1), .ref 80, .ref 81, .ref 82, .ref 83, .ref 84, .ref 85, .ref 86, .ref 87, .ref 88, .ref 89, .ref 90, .ref 91, .ref 92, .ref 93, .ref 94, .ref 95, .ref 96, .ref 97, .ref 98, .ref 99, .ref 100, .int 0, .ref 101, .ref 102, .ref 103, .ref 104, .ref 105, .ref 106, .ref 107, .ref 108, .ref 109, .int 0, .int 0, .int 0, .ref 110, .ref 111, .ref 112, .int 0, .int 0, .int 0, .int 0, .int 0, .ref 113, .ref 114, .ref 115, .ref 116, .int 0, .int (-1), .int (-1), .int 0, .ref 117, .ref 118, .int 0, .int 0, .long 1, .ref 119, .ref 120, .ref 121, .ref 122, .ref 123, .ref 124, .ref 125, .ref 126, .ref 127, .ref 128, .ref 129, .ref 130, .ref 131, .ref 132, .ref 133, .ref 134, .ref 135, .ref 136, .ref 137, .ref 138, .int 0, .ref 139, .int 0, .int 0, .int 0, .ref 140, .int 0, .long 0, .int 0, .ref 141, .int 0]))).set 80 (.inl (0, 6, .inl (upd (fun _ => 0) 1 1))))
set_option maxHeartbeats 40000000 in
set_option maxRecDepth 100000 in
theorem p_c20 (xs : Nat → Int32) : am_k (am_E 6 xs) 2000 am_mL (704, [(3, .int 0), (2, .ref 78), (1, .ref 0), (0, .ref 2000001)], [], ph) (fun r _ => r = some (.int 1)) := by
  obtain ⟨a1, hx1⟩ : ∃ a, xs 1 = a := ⟨_, rfl⟩
  obtain ⟨a2, hx2⟩ : ∃ a, xs 2 = a := ⟨_, rfl⟩
  obtain ⟨a3, hx3⟩ : ∃ a, xs 3 = a := ⟨_, rfl⟩
  obtain ⟨a4, hx4⟩ : ∃ a, xs 4 = a := ⟨_, rfl⟩
  obtain ⟨a5, hx5⟩ : ∃ a, xs 5 = a := ⟨_, rfl⟩
  refine am_k_e 1 (C' := (705, [(3, .int 0), (2, .ref 78), (1, .ref 0), (0, .ref 2000001)], [.ref 0], ph)) rfl ?_
  refine am_k_call [.ref 0] [] rfl rfl rfl rfl rfl rfl (Nat.le_of_ble_eq_true rfl) (fun _ => rfl) (Nat.le_of_ble_eq_true rfl) ?_
  refine am_k_e 6 (C' := (12, [(0, .ref 0)], [.ref 48, .ref 1, .ref 18], ph)) rfl ?_
  refine am_k_call [.ref 18, .ref 1, .ref 48] [] rfl rfl rfl rfl rfl rfl (Nat.le_of_ble_eq_true rfl) (fun _ => rfl) (Nat.le_of_ble_eq_true rfl) ?_
  refine am_k_e 1 (C' := (1, [(0, .ref 18), (1, .ref 1), (2, .ref 48)], [.ref 1], ph)) rfl ?_
  refine am_k_call [.ref 1] [] rfl rfl rfl rfl rfl rfl (Nat.le_of_ble_eq_true rfl) (fun _ => rfl) (Nat.le_of_ble_eq_true rfl) ?_
  refine am_k_e 2 (C' := (4, [(0, .ref 1)], [.int 0], ph)) rfl ?_
  refine am_k_ret (r := some (.int 0)) rfl rfl ?_
  refine am_k_e 26 (C' := (180, [(5, .int 0), (4, .int 0), (3, .int 0), (0, .ref 18), (1, .ref 1), (2, .ref 48)], [.int 0, .ref 1], (ph.set 18 (.inr (3, [.ref 19, .ref 20, .int 0]))))) rfl ?_
  refine am_k_call [.ref 1, .int 0] [] rfl rfl rfl rfl rfl rfl (Nat.le_of_ble_eq_true rfl) (fun _ => rfl) (Nat.le_of_ble_eq_true rfl) ?_
  refine am_k_e 5 (C' := (7, [(0, .ref 1), (1, .int 0)], [.int 0, .int 0, .int 0, .ref 1], (ph.set 18 (.inr (3, [.ref 19, .ref 20, .int 0]))))) rfl ?_
  refine am_k_call [.int 0, .int 0] [.int 0, .ref 1] rfl rfl rfl rfl rfl rfl (Nat.le_of_ble_eq_true rfl) (fun z => by cases z) (Nat.le_of_ble_eq_true rfl) ?_
  refine am_k_e 5 (C' := (10, [(0, .int 0), (1, .int 0)], [.int 0], (ph.set 18 (.inr (3, [.ref 19, .ref 20, .int 0]))))) rfl ?_
  refine am_k_ret (r := some (.int 0)) rfl rfl ?_
  refine am_k_call [.int 0, .int 0] [.ref 1] rfl rfl rfl rfl rfl rfl (Nat.le_of_ble_eq_true rfl) (fun z => by cases z) (Nat.le_of_ble_eq_true rfl) ?_
  refine am_k_e 5 (C' := (10, [(0, .int 0), (1, .int 0)], [.int 0], (ph.set 18 (.inr (3, [.ref 19, .ref 20, .int 0]))))) rfl ?_
  refine am_k_ret (r := some (.int 0)) rfl rfl ?_
  refine am_k_e 1 (C' := (16, [(0, .ref 1), (1, .int 0)], [], hc20_0)) rfl ?_
  refine am_k_ret (r := none) rfl rfl ?_
  refine am_k_e 1 (C' := (185, [(5, .int 0), (4, .int 0), (3, .int 0), (0, .ref 18), (1, .ref 1), (2, .ref 48)], [.int 0], hc20_0)) rfl ?_
  refine am_k_ret (r := some (.int 0)) rfl rfl ?_
  refine am_k_e 3 (C' := (30, [(0, .ref 0)], [.int 1, .ref 0], hc20_0)) rfl ?_
  refine am_k_call [.ref 0, .int 1] [] rfl rfl rfl rfl rfl rfl (Nat.le_of_ble_eq_true rfl) (fun _ => rfl) (Nat.le_of_ble_eq_true rfl) ?_
  refine am_k_e 6 (C' := (10, [(0, .ref 0), (1, .int 1)], [.int 1, .ref 47, .int 1, .ref 47], hc20_0)) rfl ?_
  refine am_k_call [.ref 47, .int 1] [.int 1, .ref 47] rfl rfl rfl rfl rfl rfl (Nat.le_of_ble_eq_true rfl) (fun z => by cases z) (Nat.le_of_ble_eq_true rfl) ?_
  refine am_k_e 10 (C' := (17, [(0, .ref 47), (1, .int 1)], [.int 0], hc20_0)) rfl ?_
  refine am_k_ret (r := some (.int 0)) rfl rfl ?_
  refine am_k_e 2 (C' := (15, [(0, .ref 0), (1, .int 1)], [.int 1, .int 1, .ref 47], hc20_0)) rfl ?_
  refine am_k_call [.ref 47, .int 1, .int 1] [] rfl rfl rfl rfl rfl rfl (Nat.le_of_ble_eq_true rfl) (fun z => by cases z) (Nat.le_of_ble_eq_true rfl) ?_
  refine am_k_e 10 (C' := (14, [(0, .ref 47), (1, .int 1), (2, .int 1)], [], hc20_1)) rfl ?_
  refine am_k_ret (r := none) rfl rfl ?_
  refine am_k_e 1 (C' := (19, [(0, .ref 0), (1, .int 1)], [.int (-1)], hc20_1)) rfl ?_
  refine am_k_ret (r := some (.int (-1))) rfl rfl ?_
  refine am_k_ret (r := some (.int (-1))) rfl rfl ?_
  refine am_k_e 1 (C' := (709, [(3, .int 0), (2, .ref 78), (1, .ref 0), (0, .ref 2000001)], [.ref 78, .int (-1)], hc20_1)) rfl ?_
  refine am_k_call [.ref 78] [.int (-1)] rfl rfl rfl rfl rfl rfl (Nat.le_of_ble_eq_true rfl) (fun _ => rfl) (Nat.le_of_ble_eq_true rfl) ?_
  refine am_k_e 19 (C' := (102, [(3, .int 0), (2, .int 0), (1, .int 0), (0, .ref 78)], [.int 1, .ref 78], hc20_2)) rfl ?_
  refine am_k_call [.ref 78, .int 1] [] rfl rfl rfl rfl rfl rfl (Nat.le_of_ble_eq_true rfl) (fun _ => rfl) (Nat.le_of_ble_eq_true rfl) ?_
  refine am_k_e 9 (C' := (11, [(0, .ref 78), (1, .int 1)], [.int (-1)], hc20_3)) rfl ?_
  refine am_k_ret (r := some (.int (-1))) rfl rfl ?_
  refine am_k_ret (r := some (.int (-1))) rfl rfl ?_
  refine am_k_e 10 (C' := (974, [(3, .int 6), (2, .ref 78), (1, .ref 0), (0, .ref 2000001)], [.int 1], hc20_3)) rfl ?_
  exact am_k_ret (r := some (.int 1)) rfl rfl rfl

set_option maxHeartbeats 40000000 in
set_option maxRecDepth 100000 in
theorem p_c21 (xs : Nat → Int32) : am_k (am_E 6 xs) 2000 am_mL (717, [(3, .int 0), (2, .ref 78), (1, .ref 0), (0, .ref 2000001)], [], ph) (fun r _ => r = some (.int 1)) := by
  obtain ⟨a1, hx1⟩ : ∃ a, xs 1 = a := ⟨_, rfl⟩
  obtain ⟨a2, hx2⟩ : ∃ a, xs 2 = a := ⟨_, rfl⟩
  obtain ⟨a3, hx3⟩ : ∃ a, xs 3 = a := ⟨_, rfl⟩
  obtain ⟨a4, hx4⟩ : ∃ a, xs 4 = a := ⟨_, rfl⟩
  obtain ⟨a5, hx5⟩ : ∃ a, xs 5 = a := ⟨_, rfl⟩
  refine am_k_e 5 (C' := (722, [(3, .int 0), (2, .ref 78), (1, .ref 0), (0, .ref 2000001)], [.int 1, .ref 2000001, .ref 0], ph)) rfl ?_
  refine am_k_sld (v := a1) rfl (by decide) rfl rfl hx1 ?_
  refine am_k_call [.ref 0, .int a1] [] rfl rfl rfl rfl rfl rfl (Nat.le_of_ble_eq_true rfl) (fun _ => rfl) (Nat.le_of_ble_eq_true rfl) ?_
  refine am_k_e 2 (C' := (4, [(0, .ref 0), (1, .int a1)], [.ref 18], ph)) rfl ?_
  refine am_k_call [.ref 18] [] rfl rfl rfl rfl rfl rfl (Nat.le_of_ble_eq_true rfl) (fun _ => rfl) (Nat.le_of_ble_eq_true rfl) ?_
  refine am_k_e 2 (C' := (4, [(0, .ref 18)], [.int 0], ph)) rfl ?_
  refine am_k_ret (r := some (.int 0)) rfl rfl ?_
  refine am_k_e 2 (C' := (20, [(0, .ref 0), (1, .int a1)], [.int (-1)], ph)) rfl ?_
  refine am_k_ret (r := some (.int (-1))) rfl rfl ?_
  refine am_k_e 5 (C' := (731, [(3, .int 0), (2, .ref 78), (1, .ref 0), (0, .ref 2000001)], [.int 1, .ref 2000001, .ref 78, .int (-1)], ph)) rfl ?_
  refine am_k_sld (v := a1) rfl (by decide) rfl rfl hx1 ?_
  refine am_k_call [.ref 78, .int a1] [.int (-1)] rfl rfl rfl rfl rfl rfl (Nat.le_of_ble_eq_true rfl) (fun _ => rfl) (Nat.le_of_ble_eq_true rfl) ?_
  refine am_k_e 4 (C' := (20, [(0, .ref 78), (1, .int a1)], [.int (-1)], ph)) rfl ?_
  refine am_k_ret (r := some (.int (-1))) rfl rfl ?_
  refine am_k_e 10 (C' := (974, [(3, .int 6), (2, .ref 78), (1, .ref 0), (0, .ref 2000001)], [.int 1], ph)) rfl ?_
  exact am_k_ret (r := some (.int 1)) rfl rfl rfl

set_option maxHeartbeats 40000000 in
set_option maxRecDepth 100000 in
theorem p_c22 (xs : Nat → Int32) : am_k (am_E 6 xs) 2000 am_mL (740, [(3, .int 0), (2, .ref 78), (1, .ref 0), (0, .ref 2000001)], [], ph) (fun r _ => r = some (.int 1)) := by
  obtain ⟨a1, hx1⟩ : ∃ a, xs 1 = a := ⟨_, rfl⟩
  obtain ⟨a2, hx2⟩ : ∃ a, xs 2 = a := ⟨_, rfl⟩
  obtain ⟨a3, hx3⟩ : ∃ a, xs 3 = a := ⟨_, rfl⟩
  obtain ⟨a4, hx4⟩ : ∃ a, xs 4 = a := ⟨_, rfl⟩
  obtain ⟨a5, hx5⟩ : ∃ a, xs 5 = a := ⟨_, rfl⟩
  refine am_k_e 5 (C' := (745, [(3, .int 0), (2, .ref 78), (1, .ref 0), (0, .ref 2000001)], [.int 1, .ref 2000001, .ref 0], ph)) rfl ?_
  refine am_k_sld (v := a1) rfl (by decide) rfl rfl hx1 ?_
  refine am_k_call [.ref 0, .int a1] [] rfl rfl rfl rfl rfl rfl (Nat.le_of_ble_eq_true rfl) (fun _ => rfl) (Nat.le_of_ble_eq_true rfl) ?_
  refine am_k_e 4 (C' := (6, [(0, .ref 0), (1, .int a1)], [.int a1, .int 2, .ref 48], ph)) rfl ?_
  refine am_k_call [.ref 48, .int 2, .int a1] [] rfl rfl rfl rfl rfl rfl (Nat.le_of_ble_eq_true rfl) (fun _ => rfl) (Nat.le_of_ble_eq_true rfl) ?_
  refine am_k_e 6 (C' := (10, [(0, .ref 48), (1, .int 2), (2, .int a1)], [.int a1], ph)) rfl ?_
  refine am_k_if rfl rfl (fun q1 => ?_) (fun q1 => ?_)
  · have h1 : a1.toInt < (0 : Int) := ccT_lt q1
    refine am_k_e 1 (C' := (30, [(0, .ref 48), (1, .int 2), (2, .int a1)], [.int 0], ph)) rfl ?_
    refine am_k_ret (r := some (.int 0)) rfl rfl ?_
    refine am_k_e 2 (C' := (13, [(0, .ref 0), (1, .int a1)], [.int (-1)], ph)) rfl ?_
    refine am_k_ret (r := some (.int (-1))) rfl rfl ?_
    refine am_k_e 5 (C' := (754, [(3, .int 0), (2, .ref 78), (1, .ref 0), (0, .ref 2000001)], [.int 1, .ref 2000001, .ref 78, .int (-1)], ph)) rfl ?_
    refine am_k_sld (v := a1) rfl (by decide) rfl rfl hx1 ?_
    refine am_k_call [.ref 78, .int a1] [.int (-1)] rfl rfl rfl rfl rfl rfl (Nat.le_of_ble_eq_true rfl) (fun _ => rfl) (Nat.le_of_ble_eq_true rfl) ?_
    refine am_k_e 4 (C' := (4, [(0, .ref 78), (1, .int a1)], [.ref 78, .long 0, .long (a1.toInt64)], ph)) rfl ?_
    refine am_k_call [.ref 78] [.long 0, .long (a1.toInt64)] rfl rfl rfl rfl rfl rfl (Nat.le_of_ble_eq_true rfl) (fun _ => rfl) (Nat.le_of_ble_eq_true rfl) ?_
    refine am_k_e 4 (C' := (7, [(0, .ref 78)], [.int 0], ph)) rfl ?_
    refine am_k_ret (r := some (.int 0)) rfl rfl ?_
    refine am_k_e 3 (C' := (10, [(0, .ref 78), (1, .int a1)], [.long (-1), .long 0, .long (a1.toInt64)], ph)) rfl ?_
    refine am_k_call [.long (a1.toInt64), .long 0, .long (-1)] [] rfl rfl rfl rfl rfl rfl (Nat.le_of_ble_eq_true rfl) (fun z => by cases z) (Nat.le_of_ble_eq_true rfl) ?_
    refine am_k_e 3 (C' := (3, [(0, .long (a1.toInt64)), (2, .long 0), (4, .long (-1))], [.int (lg_cmp (a1.toInt64) 0)], ph)) rfl ?_
    refine am_k_ifT rfl rfl (lgpT_lt (show a1.toInt < (0 : Int) by omega)) ?_
    refine am_k_e 1 (C' := (18, [(0, .long (a1.toInt64)), (2, .long 0), (4, .long (-1))], [.int 0], ph)) rfl ?_
    refine am_k_ret (r := some (.int 0)) rfl rfl ?_
    refine am_k_e 2 (C' := (17, [(0, .ref 78), (1, .int a1)], [.int (-1)], ph)) rfl ?_
    refine am_k_ret (r := some (.int (-1))) rfl rfl ?_
    refine am_k_e 10 (C' := (974, [(3, .int 6), (2, .ref 78), (1, .ref 0), (0, .ref 2000001)], [.int 1], ph)) rfl ?_
    exact am_k_ret (r := some (.int 1)) rfl rfl rfl
  · have h1 : (0 : Int) ≤ a1.toInt := ccF_lt q1
    refine am_k_e 4 (C' := (19, [(0, .ref 48), (1, .int 2), (2, .int a1)], [.int 2, .ref 52, .int a1], ph)) rfl ?_
    refine am_k_call [.ref 52, .int 2] [.int a1] rfl rfl rfl rfl rfl rfl (Nat.le_of_ble_eq_true rfl) (fun z => by cases z) (Nat.le_of_ble_eq_true rfl) ?_
    refine am_k_e 10 (C' := (17, [(0, .ref 52), (1, .int 2)], [.int 0], ph)) rfl ?_
    refine am_k_ret (r := some (.int 0)) rfl rfl ?_
    refine am_k_icmpT rfl rfl (ccpT (fun z => by have z1 : a1.toInt < (0 : Int) := ccF_ge z; omega)) ?_
    refine am_k_e 1 (C' := (30, [(0, .ref 48), (1, .int 2), (2, .int a1)], [.int 0], ph)) rfl ?_
    refine am_k_ret (r := some (.int 0)) rfl rfl ?_
    refine am_k_e 2 (C' := (13, [(0, .ref 0), (1, .int a1)], [.int (-1)], ph)) rfl ?_
    refine am_k_ret (r := some (.int (-1))) rfl rfl ?_
    refine am_k_e 5 (C' := (754, [(3, .int 0), (2, .ref 78), (1, .ref 0), (0, .ref 2000001)], [.int 1, .ref 2000001, .ref 78, .int (-1)], ph)) rfl ?_
    refine am_k_sld (v := a1) rfl (by decide) rfl rfl hx1 ?_
    refine am_k_call [.ref 78, .int a1] [.int (-1)] rfl rfl rfl rfl rfl rfl (Nat.le_of_ble_eq_true rfl) (fun _ => rfl) (Nat.le_of_ble_eq_true rfl) ?_
    refine am_k_e 4 (C' := (4, [(0, .ref 78), (1, .int a1)], [.ref 78, .long 0, .long (a1.toInt64)], ph)) rfl ?_
    refine am_k_call [.ref 78] [.long 0, .long (a1.toInt64)] rfl rfl rfl rfl rfl rfl (Nat.le_of_ble_eq_true rfl) (fun _ => rfl) (Nat.le_of_ble_eq_true rfl) ?_
    refine am_k_e 4 (C' := (7, [(0, .ref 78)], [.int 0], ph)) rfl ?_
    refine am_k_ret (r := some (.int 0)) rfl rfl ?_
    refine am_k_e 3 (C' := (10, [(0, .ref 78), (1, .int a1)], [.long (-1), .long 0, .long (a1.toInt64)], ph)) rfl ?_
    refine am_k_call [.long (a1.toInt64), .long 0, .long (-1)] [] rfl rfl rfl rfl rfl rfl (Nat.le_of_ble_eq_true rfl) (fun z => by cases z) (Nat.le_of_ble_eq_true rfl) ?_
    refine am_k_e 3 (C' := (3, [(0, .long (a1.toInt64)), (2, .long 0), (4, .long (-1))], [.int (lg_cmp (a1.toInt64) 0)], ph)) rfl ?_
    refine am_k_ifF rfl rfl (lgpF_lt (show (0 : Int) ≤ a1.toInt by omega)) ?_
    refine am_k_e 3 (C' := (10, [(0, .long (a1.toInt64)), (2, .long 0), (4, .long (-1))], [.int (lg_cmp (a1.toInt64) (-1))], ph)) rfl ?_
    refine am_k_ifT rfl rfl (lgpT_gt (show (-1 : Int) < a1.toInt by omega)) ?_
    refine am_k_e 1 (C' := (18, [(0, .long (a1.toInt64)), (2, .long 0), (4, .long (-1))], [.int 0], ph)) rfl ?_
    refine am_k_ret (r := some (.int 0)) rfl rfl ?_
    refine am_k_e 2 (C' := (17, [(0, .ref 78), (1, .int a1)], [.int (-1)], ph)) rfl ?_
    refine am_k_ret (r := some (.int (-1))) rfl rfl ?_
    refine am_k_e 10 (C' := (974, [(3, .int 6), (2, .ref 78), (1, .ref 0), (0, .ref 2000001)], [.int 1], ph)) rfl ?_
    exact am_k_ret (r := some (.int 1)) rfl rfl rfl

def hc27_0 : am_H := ((ph.set 47 (.inl (0, 6, .inl (upd (fun _ => 0) 4 1)))).set 80 (.inl (0, 6, .inl (upd (fun _ => 0) 4 1))))
set_option maxHeartbeats 40000000 in
set_option maxRecDepth 100000 in
theorem p_c27 (xs : Nat → Int32) : am_k (am_E 6 xs) 2000 am_mL (845, [(3, .int 0), (2, .ref 78), (1, .ref 0), (0, .ref 2000001)], [], ph) (fun r _ => r = some (.int 1)) := by
  obtain ⟨a1, hx1⟩ : ∃ a, xs 1 = a := ⟨_, rfl⟩
  obtain ⟨a2, hx2⟩ : ∃ a, xs 2 = a := ⟨_, rfl⟩
  obtain ⟨a3, hx3⟩ : ∃ a, xs 3 = a := ⟨_, rfl⟩
  obtain ⟨a4, hx4⟩ : ∃ a, xs 4 = a := ⟨_, rfl⟩
  obtain ⟨a5, hx5⟩ : ∃ a, xs 5 = a := ⟨_, rfl⟩
  refine am_k_e 1 (C' := (846, [(3, .int 0), (2, .ref 78), (1, .ref 0), (0, .ref 2000001)], [.ref 0], ph)) rfl ?_
  refine am_k_call [.ref 0] [] rfl rfl rfl rfl rfl rfl (Nat.le_of_ble_eq_true rfl) (fun _ => rfl) (Nat.le_of_ble_eq_true rfl) ?_
  refine am_k_e 2 (C' := (4, [(0, .ref 0)], [.ref 21], ph)) rfl ?_
  refine am_k_call [.ref 21] [] rfl rfl rfl rfl rfl rfl (Nat.le_of_ble_eq_true rfl) (fun _ => rfl) (Nat.le_of_ble_eq_true rfl) ?_
  refine am_k_e 4 (C' := (8, [(0, .ref 21)], [.int 0], ph)) rfl ?_
  refine am_k_ret (r := some (.int 0)) rfl rfl ?_
  refine am_k_e 3 (C' := (12, [(0, .ref 0)], [.int 4, .ref 0], ph)) rfl ?_
  refine am_k_call [.ref 0, .int 4] [] rfl rfl rfl rfl rfl rfl (Nat.le_of_ble_eq_true rfl) (fun _ => rfl) (Nat.le_of_ble_eq_true rfl) ?_
  refine am_k_e 6 (C' := (10, [(0, .ref 0), (1, .int 4)], [.int 4, .ref 47, .int 4, .ref 47], ph)) rfl ?_
  refine am_k_call [.ref 47, .int 4] [.int 4, .ref 47] rfl rfl rfl rfl rfl rfl (Nat.le_of_ble_eq_true rfl) (fun z => by cases z) (Nat.le_of_ble_eq_true rfl) ?_
  refine am_k_e 10 (C' := (17, [(0, .ref 47), (1, .int 4)], [.int 0], ph)) rfl ?_
  refine am_k_ret (r := some (.int 0)) rfl rfl ?_
  refine am_k_e 2 (C' := (15, [(0, .ref 0), (1, .int 4)], [.int 1, .int 4, .ref 47], ph)) rfl ?_
  refine am_k_call [.ref 47, .int 4, .int 1] [] rfl rfl rfl rfl rfl rfl (Nat.le_of_ble_eq_true rfl) (fun z => by cases z) (Nat.le_of_ble_eq_true rfl) ?_
  refine am_k_e 10 (C' := (14, [(0, .ref 47), (1, .int 4), (2, .int 1)], [], (ph.set 47 (.inl (0, 6, .inl (upd (fun _ => 0) 4 1)))))) rfl ?_
  refine am_k_ret (r := none) rfl rfl ?_
  refine am_k_e 1 (C' := (19, [(0, .ref 0), (1, .int 4)], [.int (-1)], (ph.set 47 (.inl (0, 6, .inl (upd (fun _ => 0) 4 1)))))) rfl ?_
  refine am_k_ret (r := some (.int (-1))) rfl rfl ?_
  refine am_k_e 2 (C' := (17, [(0, .ref 0)], [.int 0], (ph.set 47 (.inl (0, 6, .inl (upd (fun _ => 0) 4 1)))))) rfl ?_
  refine am_k_ret (r := some (.int 0)) rfl rfl ?_
  refine am_k_e 1 (C' := (850, [(3, .int 0), (2, .ref 78), (1, .ref 0), (0, .ref 2000001)], [.ref 78, .int 0], (ph.set 47 (.inl (0, 6, .inl (upd (fun _ => 0) 4 1)))))) rfl ?_
  refine am_k_call [.ref 78] [.int 0] rfl rfl rfl rfl rfl rfl (Nat.le_of_ble_eq_true rfl) (fun _ => rfl) (Nat.le_of_ble_eq_true rfl) ?_
  refine am_k_e 12 (C' := (18, [(0, .ref 78)], [.int 0], hc27_0)) rfl ?_
  refine am_k_ret (r := some (.int 0)) rfl rfl ?_
  refine am_k_e 10 (C' := (974, [(3, .int 6), (2, .ref 78), (1, .ref 0), (0, .ref 2000001)], [.int 1], hc27_0)) rfl ?_
  exact am_k_ret (r := some (.int 1)) rfl rfl rfl

def hc28_0 (a1 : Int32) : am_H := (ph.set 0 (.inr (11, [.ref 1, .ref 3, .ref 4, .ref 6, .ref 11, .ref 16, .ref 18, .ref 21, .ref 44, .ref 45, .ref 46, .ref 47, .ref 48, .ref 63, .int 0, .int 0, .int 0, .long (a1.toInt64)])))
def hc28_1 (a1 : Int32) : am_H := ((ph.set 0 (.inr (11, [.ref 1, .ref 3, .ref 4, .ref 6, .ref 11, .ref 16, .ref 18, .ref 21, .ref 44, .ref 45, .ref 46, .ref 47, .ref 48, .ref 63, .int 0, .int 0, .int 0, .long (a1.toInt64)]))).set 78 (.inr (12, [.ref 79, .int 0, .int 0, .int 0, .int 0, .int 0, .int 0, .int 0, .int (-1), .ref 80, .ref 81, .ref 82, .ref 83, .ref 84, .ref 85, .ref 86, .ref 87, .ref 88, .ref 89, .ref 90, .ref 91, .ref 92, .ref 93, .ref 94, .ref 95, .ref 96, .ref 97, .ref 98, .ref 99, .ref 100, .int 0, .ref 101, .ref 102, .ref 103, .ref 104, .ref 105, .ref 106, .ref 107, .ref 108, .ref 109, .int 0, .int 0, .int 0, .ref 110, .ref 111, .ref 112, .int 0, .int 0, .int 0, .int 0, .int 0, .ref 113, .ref 114, .ref 115, .ref 116, .int 0, .int (-1), .int (-1), .int 0, .ref 117, .ref 118, .int 0, .int 0, .long (a1.toInt64), .ref 119, .ref 120, .ref 121, .ref 122, .ref 123, .ref 124, .ref 125, .ref 126, .ref 127, .ref 128, .ref 129, .ref 130, .ref 131, .ref 132, .ref 133, .ref 134, .ref 135, .ref 136, .ref 137, .ref 138, .int 0, .ref 139, .int 0, .int 0, .int 0, .ref 140, .int 0, .long 0, .int 0, .ref 141, .int 0])))
def hc28_2 : am_H := ((ph.set 47 (.inl (0, 6, .inl (upd (fun _ => 0) 5 1)))).set 80 (.inl (0, 6, .inl (upd (fun _ => 0) 5 1))))
set_option maxHeartbeats 40000000 in
set_option maxRecDepth 100000 in
theorem p_c28 (xs : Nat → Int32) : am_k (am_E 6 xs) 2000 am_mL (858, [(3, .int 0), (2, .ref 78), (1, .ref 0), (0, .ref 2000001)], [], ph) (fun r _ => r = some (.int 1)) := by
  obtain ⟨a1, hx1⟩ : ∃ a, xs 1 = a := ⟨_, rfl⟩
  obtain ⟨a2, hx2⟩ : ∃ a, xs 2 = a := ⟨_, rfl⟩
  obtain ⟨a3, hx3⟩ : ∃ a, xs 3 = a := ⟨_, rfl⟩
  obtain ⟨a4, hx4⟩ : ∃ a, xs 4 = a := ⟨_, rfl⟩
  obtain ⟨a5, hx5⟩ : ∃ a, xs 5 = a := ⟨_, rfl⟩
  refine am_k_e 5 (C' := (863, [(3, .int 0), (2, .ref 78), (1, .ref 0), (0, .ref 2000001)], [.int 1, .ref 2000001, .ref 0], ph)) rfl ?_
  refine am_k_sld (v := a1) rfl (by decide) rfl rfl hx1 ?_
  refine am_k_call [.ref 0, .int a1] [] rfl rfl rfl rfl rfl rfl (Nat.le_of_ble_eq_true rfl) (fun _ => rfl) (Nat.le_of_ble_eq_true rfl) ?_
  refine am_k_e 1 (C' := (1, [(0, .ref 0), (1, .int a1)], [.int a1], ph)) rfl ?_
  refine am_k_if rfl rfl (fun q1 => ?_) (fun q1 => ?_)
  · have h1 : (0 : Int) ≤ a1.toInt := ccT_ge q1
    refine am_k_e 5 (C' := (19, [(0, .ref 0), (1, .int a1)], [.int 1], (hc28_0 a1))) rfl ?_
    refine am_k_ret (r := some (.int 1)) rfl rfl ?_
    refine am_k_e 5 (C' := (872, [(3, .int 0), (2, .ref 78), (1, .ref 0), (0, .ref 2000001)], [.int 1, .ref 2000001, .ref 78, .int 1], (hc28_0 a1))) rfl ?_
    refine am_k_sld (v := a1) rfl (by decide) rfl rfl hx1 ?_
    refine am_k_call [.ref 78, .int a1] [.int 1] rfl rfl rfl rfl rfl rfl (Nat.le_of_ble_eq_true rfl) (fun _ => rfl) (Nat.le_of_ble_eq_true rfl) ?_
    refine am_k_e 1 (C' := (1, [(0, .ref 78), (1, .int a1)], [.int a1], (hc28_0 a1))) rfl ?_
    refine am_k_ifT rfl rfl (ccpT (fun z => by have z1 : a1.toInt < (0 : Int) := ccF_ge z; omega)) ?_
    refine am_k_e 5 (C' := (23, [(0, .ref 78), (1, .int a1)], [.int 1], (hc28_1 a1))) rfl ?_
    refine am_k_ret (r := some (.int 1)) rfl rfl ?_
    refine am_k_e 10 (C' := (974, [(3, .int 6), (2, .ref 78), (1, .ref 0), (0, .ref 2000001)], [.int 1], (hc28_1 a1))) rfl ?_
    exact am_k_ret (r := some (.int 1)) rfl rfl rfl
  · have h1 : a1.toInt < (0 : Int) := ccF_ge q1
    refine am_k_e 2 (C' := (6, [(0, .ref 0), (1, .int a1)], [.int 5, .ref 0], ph)) rfl ?_
    refine am_k_call [.ref 0, .int 5] [] rfl rfl rfl rfl rfl rfl (Nat.le_of_ble_eq_true rfl) (fun _ => rfl) (Nat.le_of_ble_eq_true rfl) ?_
    refine am_k_e 6 (C' := (10, [(0, .ref 0), (1, .int 5)], [.int 5, .ref 47, .int 5, .ref 47], ph)) rfl ?_
    refine am_k_call [.ref 47, .int 5] [.int 5, .ref 47] rfl rfl rfl rfl rfl rfl (Nat.le_of_ble_eq_true rfl) (fun z => by cases z) (Nat.le_of_ble_eq_true rfl) ?_
    refine am_k_e 10 (C' := (17, [(0, .ref 47), (1, .int 5)], [.int 0], ph)) rfl ?_
    refine am_k_ret (r := some (.int 0)) rfl rfl ?_
    refine am_k_e 2 (C' := (15, [(0, .ref 0), (1, .int 5)], [.int 1, .int 5, .ref 47], ph)) rfl ?_
    refine am_k_call [.ref 47, .int 5, .int 1] [] rfl rfl rfl rfl rfl rfl (Nat.le_of_ble_eq_true rfl) (fun z => by cases z) (Nat.le_of_ble_eq_true rfl) ?_
    refine am_k_e 10 (C' := (14, [(0, .ref 47), (1, .int 5), (2, .int 1)], [], (ph.set 47 (.inl (0, 6, .inl (upd (fun _ => 0) 5 1)))))) rfl ?_
    refine am_k_ret (r := none) rfl rfl ?_
    refine am_k_e 1 (C' := (19, [(0, .ref 0), (1, .int 5)], [.int (-1)], (ph.set 47 (.inl (0, 6, .inl (upd (fun _ => 0) 5 1)))))) rfl ?_
    refine am_k_ret (r := some (.int (-1))) rfl rfl ?_
    refine am_k_e 2 (C' := (11, [(0, .ref 0), (1, .int a1)], [.int 0], (ph.set 47 (.inl (0, 6, .inl (upd (fun _ => 0) 5 1)))))) rfl ?_
    refine am_k_ret (r := some (.int 0)) rfl rfl ?_
    refine am_k_e 5 (C' := (872, [(3, .int 0), (2, .ref 78), (1, .ref 0), (0, .ref 2000001)], [.int 1, .ref 2000001, .ref 78, .int 0], (ph.set 47 (.inl (0, 6, .inl (upd (fun _ => 0) 5 1)))))) rfl ?_
    refine am_k_sld (v := a1) rfl (by decide) rfl rfl hx1 ?_
    refine am_k_call [.ref 78, .int a1] [.int 0] rfl rfl rfl rfl rfl rfl (Nat.le_of_ble_eq_true rfl) (fun _ => rfl) (Nat.le_of_ble_eq_true rfl) ?_
    refine am_k_e 1 (C' := (1, [(0, .ref 78), (1, .int a1)], [.int a1], (ph.set 47 (.inl (0, 6, .inl (upd (fun _ => 0) 5 1)))))) rfl ?_
    refine am_k_ifF rfl rfl (ccpF (fun z => by have z1 : (0 : Int) ≤ a1.toInt := ccT_ge z; omega)) ?_
    refine am_k_e 9 (C' := (15, [(0, .ref 78), (1, .int a1)], [.int 0], hc28_2)) rfl ?_
    refine am_k_ret (r := some (.int 0)) rfl rfl ?_
    refine am_k_e 10 (C' := (974, [(3, .int 6), (2, .ref 78), (1, .ref 0), (0, .ref 2000001)], [.int 1], hc28_2)) rfl ?_
    exact am_k_ret (r := some (.int 1)) rfl rfl rfl

set_option maxHeartbeats 40000000 in
set_option maxRecDepth 100000 in
theorem p_c31 (xs : Nat → Int32) : am_k (am_E 6 xs) 2000 am_mL (908, [(3, .int 0), (2, .ref 78), (1, .ref 0), (0, .ref 2000001)], [], ph) (fun r _ => r = some (.int 1)) := by
  obtain ⟨a1, hx1⟩ : ∃ a, xs 1 = a := ⟨_, rfl⟩
  obtain ⟨a2, hx2⟩ : ∃ a, xs 2 = a := ⟨_, rfl⟩
  obtain ⟨a3, hx3⟩ : ∃ a, xs 3 = a := ⟨_, rfl⟩
  obtain ⟨a4, hx4⟩ : ∃ a, xs 4 = a := ⟨_, rfl⟩
  obtain ⟨a5, hx5⟩ : ∃ a, xs 5 = a := ⟨_, rfl⟩
  refine am_k_e 5 (C' := (913, [(3, .int 0), (2, .ref 78), (1, .ref 0), (0, .ref 2000001)], [.int 1, .ref 2000001, .ref 0], ph)) rfl ?_
  refine am_k_sld (v := a1) rfl (by decide) rfl rfl hx1 ?_
  refine am_k_call [.ref 0, .int a1] [] rfl rfl rfl rfl rfl rfl (Nat.le_of_ble_eq_true rfl) (fun _ => rfl) (Nat.le_of_ble_eq_true rfl) ?_
  refine am_k_e 1 (C' := (1, [(0, .ref 0), (1, .int a1)], [.int a1], ph)) rfl ?_
  refine am_k_if rfl rfl (fun q1 => ?_) (fun q1 => ?_)
  · have h1 : a1.toInt < (0 : Int) := ccT_lt q1
    refine am_k_e 1 (C' := (24, [(0, .ref 0), (1, .int a1)], [.int (-1)], ph)) rfl ?_
    refine am_k_ret (r := some (.int (-1))) rfl rfl ?_
    refine am_k_e 5 (C' := (922, [(3, .int 0), (2, .ref 78), (1, .ref 0), (0, .ref 2000001)], [.int 1, .ref 2000001, .ref 78, .int (-1)], ph)) rfl ?_
    refine am_k_sld (v := a1) rfl (by decide) rfl rfl hx1 ?_
    refine am_k_call [.ref 78, .int a1] [.int (-1)] rfl rfl rfl rfl rfl rfl (Nat.le_of_ble_eq_true rfl) (fun _ => rfl) (Nat.le_of_ble_eq_true rfl) ?_
    refine am_k_e 1 (C' := (1, [(0, .ref 78), (1, .int a1)], [.int a1], ph)) rfl ?_
    refine am_k_ifT rfl rfl (ccpT (fun z => by have z1 : (0 : Int) ≤ a1.toInt := ccF_lt z; omega)) ?_
    refine am_k_e 1 (C' := (22, [(0, .ref 78), (1, .int a1)], [.int (-1)], ph)) rfl ?_
    refine am_k_ret (r := some (.int (-1))) rfl rfl ?_
    refine am_k_e 10 (C' := (974, [(3, .int 6), (2, .ref 78), (1, .ref 0), (0, .ref 2000001)], [.int 1], ph)) rfl ?_
    exact am_k_ret (r := some (.int 1)) rfl rfl rfl
  · have h1 : (0 : Int) ≤ a1.toInt := ccF_lt q1
    refine am_k_e 3 (C' := (9, [(0, .ref 0), (1, .int a1)], [.int 0, .int a1], ph)) rfl ?_
    refine am_k_icmpT rfl rfl (ccpT (fun z => by have z1 : a1.toInt < (0 : Int) := ccF_ge z; omega)) ?_
    refine am_k_e 1 (C' := (24, [(0, .ref 0), (1, .int a1)], [.int (-1)], ph)) rfl ?_
    refine am_k_ret (r := some (.int (-1))) rfl rfl ?_
    refine am_k_e 5 (C' := (922, [(3, .int 0), (2, .ref 78), (1, .ref 0), (0, .ref 2000001)], [.int 1, .ref 2000001, .ref 78, .int (-1)], ph)) rfl ?_
    refine am_k_sld (v := a1) rfl (by decide) rfl rfl hx1 ?_
    refine am_k_call [.ref 78, .int a1] [.int (-1)] rfl rfl rfl rfl rfl rfl (Nat.le_of_ble_eq_true rfl) (fun _ => rfl) (Nat.le_of_ble_eq_true rfl) ?_
    refine am_k_e 1 (C' := (1, [(0, .ref 78), (1, .int a1)], [.int a1], ph)) rfl ?_
    refine am_k_ifF rfl rfl (ccpF (fun z => by have z1 : a1.toInt < (0 : Int) := ccT_lt z; omega)) ?_
    refine am_k_e 3 (C' := (9, [(0, .ref 78), (1, .int a1)], [.int 0, .int a1], ph)) rfl ?_
    refine am_k_icmpT rfl rfl (ccpT (fun z => by have z1 : a1.toInt < (0 : Int) := ccF_ge z; omega)) ?_
    refine am_k_e 1 (C' := (22, [(0, .ref 78), (1, .int a1)], [.int (-1)], ph)) rfl ?_
    refine am_k_ret (r := some (.int (-1))) rfl rfl ?_
    refine am_k_e 10 (C' := (974, [(3, .int 6), (2, .ref 78), (1, .ref 0), (0, .ref 2000001)], [.int 1], ph)) rfl ?_
    exact am_k_ret (r := some (.int 1)) rfl rfl rfl

set_option maxHeartbeats 40000000 in
set_option maxRecDepth 100000 in
theorem p_c5 (xs : Nat → Int32) : am_k (am_E 6 xs) 2000 am_mL (329, [(3, .int 0), (2, .ref 78), (1, .ref 0), (0, .ref 2000001)], [], ph) (fun r _ => r = some (.int 1)) := by
  obtain ⟨a1, hx1⟩ : ∃ a, xs 1 = a := ⟨_, rfl⟩
  obtain ⟨a2, hx2⟩ : ∃ a, xs 2 = a := ⟨_, rfl⟩
  obtain ⟨a3, hx3⟩ : ∃ a, xs 3 = a := ⟨_, rfl⟩
  obtain ⟨a4, hx4⟩ : ∃ a, xs 4 = a := ⟨_, rfl⟩
  obtain ⟨a5, hx5⟩ : ∃ a, xs 5 = a := ⟨_, rfl⟩
  refine am_k_e 5 (C' := (334, [(3, .int 0), (2, .ref 78), (1, .ref 0), (0, .ref 2000001)], [.int 1, .ref 2000001, .ref 0], ph)) rfl ?_
  refine am_k_sld (v := a1) rfl (by decide) rfl rfl hx1 ?_
  refine am_k_e 4 (C' := (339, [(3, .int 0), (2, .ref 78), (1, .ref 0), (0, .ref 2000001)], [.int 2, .ref 2000001, .int a1, .ref 0], ph)) rfl ?_
  refine am_k_sld (v := a2) rfl (by decide) rfl rfl hx2 ?_
  refine am_k_e 4 (C' := (344, [(3, .int 0), (2, .ref 78), (1, .ref 0), (0, .ref 2000001)], [.int 3, .ref 2000001, .int a2, .int a1, .ref 0], ph)) rfl ?_
  refine am_k_sld (v := a3) rfl (by decide) rfl rfl hx3 ?_
  refine am_k_call [.ref 0, .int a1, .int a2, .int a3] [] rfl rfl rfl rfl rfl rfl (Nat.le_of_ble_eq_true rfl) (fun _ => rfl) (Nat.le_of_ble_eq_true rfl) ?_
  refine am_k_e 4 (C' := (6, [(0, .ref 0), (1, .int a1), (2, .int a2), (3, .int a3)], [.int a2, .int a1, .ref 48], ph)) rfl ?_
  refine am_k_call [.ref 48, .int a1, .int a2] [] rfl rfl rfl rfl rfl rfl (Nat.le_of_ble_eq_true rfl) (fun _ => rfl) (Nat.le_of_ble_eq_true rfl) ?_
  refine am_k_e 1 (C' := (1, [(0, .ref 48), (1, .int a1), (2, .int a2)], [.int a1], ph)) rfl ?_
  refine am_k_if rfl rfl (fun q1 => ?_) (fun q1 => ?_)
  · have h1 : a1.toInt < (0 : Int) := ccT_lt q1
    refine am_k_e 1 (C' := (30, [(0, .ref 48), (1, .int a1), (2, .int a2)], [.int 0], ph)) rfl ?_
    refine am_k_ret (r := some (.int 0)) rfl rfl ?_
    refine am_k_e 2 (C' := (23, [(0, .ref 0), (1, .int a1), (2, .int a2), (3, .int a3)], [.int (-1)], ph)) rfl ?_
    refine am_k_ret (r := some (.int (-1))) rfl rfl ?_
    refine am_k_e 5 (C' := (353, [(3, .int 0), (2, .ref 78), (1, .ref 0), (0, .ref 2000001)], [.int 1, .ref 2000001, .ref 78, .int (-1)], ph)) rfl ?_
    refine am_k_sld (v := a1) rfl (by decide) rfl rfl hx1 ?_
    refine am_k_e 4 (C' := (358, [(3, .int 0), (2, .ref 78), (1, .ref 0), (0, .ref 2000001)], [.int 2, .ref 2000001, .int a1, .ref 78, .int (-1)], ph)) rfl ?_
    refine am_k_sld (v := a2) rfl (by decide) rfl rfl hx2 ?_
    refine am_k_e 4 (C' := (363, [(3, .int 0), (2, .ref 78), (1, .ref 0), (0, .ref 2000001)], [.int 3, .ref 2000001, .int a2, .int a1, .ref 78, .int (-1)], ph)) rfl ?_
    refine am_k_sld (v := a3) rfl (by decide) rfl rfl hx3 ?_
    refine am_k_call [.ref 78, .int a1, .int a2, .int a3] [.int (-1)] rfl rfl rfl rfl rfl rfl (Nat.le_of_ble_eq_true rfl) (fun _ => rfl) (Nat.le_of_ble_eq_true rfl) ?_
    refine am_k_e 4 (C' := (6, [(0, .ref 78), (1, .int a1), (2, .int a2), (3, .int a3)], [.long 3, .long 0, .long (a1.toInt64)], ph)) rfl ?_
    refine am_k_call [.long (a1.toInt64), .long 0, .long 3] [] rfl rfl rfl rfl rfl rfl (Nat.le_of_ble_eq_true rfl) (fun z => by cases z) (Nat.le_of_ble_eq_true rfl) ?_
    refine am_k_e 3 (C' := (3, [(0, .long (a1.toInt64)), (2, .long 0), (4, .long 3)], [.int (lg_cmp (a1.toInt64) 0)], ph)) rfl ?_
    refine am_k_ifT rfl rfl (lgpT_lt (show a1.toInt < (0 : Int) by omega)) ?_
    refine am_k_e 1 (C' := (18, [(0, .long (a1.toInt64)), (2, .long 0), (4, .long 3)], [.int 0], ph)) rfl ?_
    refine am_k_ret (r := some (.int 0)) rfl rfl ?_
    refine am_k_e 2 (C' := (45, [(0, .ref 78), (1, .int a1), (2, .int a2), (3, .int a3)], [.int (-1)], ph)) rfl ?_
    refine am_k_ret (r := some (.int (-1))) rfl rfl ?_
    refine am_k_e 10 (C' := (974, [(3, .int 6), (2, .ref 78), (1, .ref 0), (0, .ref 2000001)], [.int 1], ph)) rfl ?_
    exact am_k_ret (r := some (.int 1)) rfl rfl rfl
  · have h1 : (0 : Int) ≤ a1.toInt := ccF_lt q1
    refine am_k_e 2 (C' := (6, [(0, .ref 48), (1, .int a1), (2, .int a2)], [.int 4, .int a1], ph)) rfl ?_
    refine am_k_icmp rfl rfl (fun q2 => ?_) (fun q2 => ?_)
    · have h2 : (4 : Int) ≤ a1.toInt := ccT_ge q2
      refine am_k_e 1 (C' := (30, [(0, .ref 48), (1, .int a1), (2, .int a2)], [.int 0], ph)) rfl ?_
      refine am_k_ret (r := some (.int 0)) rfl rfl ?_
      refine am_k_e 2 (C' := (23, [(0, .ref 0), (1, .int a1), (2, .int a2), (3, .int a3)], [.int (-1)], ph)) rfl ?_
      refine am_k_ret (r := some (.int (-1))) rfl rfl ?_
      refine am_k_e 5 (C' := (353, [(3, .int 0), (2, .ref 78), (1, .ref 0), (0, .ref 2000001)], [.int 1, .ref 2000001, .ref 78, .int (-1)], ph)) rfl ?_
      refine am_k_sld (v := a1) rfl (by decide) rfl rfl hx1 ?_
      refine am_k_e 4 (C' := (358, [(3, .int 0), (2, .ref 78), (1, .ref 0), (0, .ref 2000001)], [.int 2, .ref 2000001, .int a1, .ref 78, .int (-1)], ph)) rfl ?_
      refine am_k_sld (v := a2) rfl (by decide) rfl rfl hx2 ?_
      refine am_k_e 4 (C' := (363, [(3, .int 0), (2, .ref 78), (1, .ref 0), (0, .ref 2000001)], [.int 3, .ref 2000001, .int a2, .int a1, .ref 78, .int (-1)], ph)) rfl ?_
      refine am_k_sld (v := a3) rfl (by decide) rfl rfl hx3 ?_
      refine am_k_call [.ref 78, .int a1, .int a2, .int a3] [.int (-1)] rfl rfl rfl rfl rfl rfl (Nat.le_of_ble_eq_true rfl) (fun _ => rfl) (Nat.le_of_ble_eq_true rfl) ?_
      refine am_k_e 4 (C' := (6, [(0, .ref 78), (1, .int a1), (2, .int a2), (3, .int a3)], [.long 3, .long 0, .long (a1.toInt64)], ph)) rfl ?_
      refine am_k_call [.long (a1.toInt64), .long 0, .long 3] [] rfl rfl rfl rfl rfl rfl (Nat.le_of_ble_eq_true rfl) (fun z => by cases z) (Nat.le_of_ble_eq_true rfl) ?_
      refine am_k_e 3 (C' := (3, [(0, .long (a1.toInt64)), (2, .long 0), (4, .long 3)], [.int (lg_cmp (a1.toInt64) 0)], ph)) rfl ?_
      refine am_k_ifF rfl rfl (lgpF_lt (show (0 : Int) ≤ a1.toInt by omega)) ?_
      refine am_k_e 3 (C' := (10, [(0, .long (a1.toInt64)), (2, .long 0), (4, .long 3)], [.int (lg_cmp (a1.toInt64) 3)], ph)) rfl ?_
      refine am_k_ifT rfl rfl (lgpT_gt (show (3 : Int) < a1.toInt by omega)) ?_
      refine am_k_e 1 (C' := (18, [(0, .long (a1.toInt64)), (2, .long 0), (4, .long 3)], [.int 0], ph)) rfl ?_
      refine am_k_ret (r := some (.int 0)) rfl rfl ?_
      refine am_k_e 2 (C' := (45, [(0, .ref 78), (1, .int a1), (2, .int a2), (3, .int a3)], [.int (-1)], ph)) rfl ?_
      refine am_k_ret (r := some (.int (-1))) rfl rfl ?_
      refine am_k_e 10 (C' := (974, [(3, .int 6), (2, .ref 78), (1, .ref 0), (0, .ref 2000001)], [.int 1], ph)) rfl ?_
      exact am_k_ret (r := some (.int 1)) rfl rfl rfl
    · have h2 : a1.toInt < (4 : Int) := ccF_ge q2
      refine am_k_e 1 (C' := (10, [(0, .ref 48), (1, .int a1), (2, .int a2)], [.int a2], ph)) rfl ?_
      refine am_k_if rfl rfl (fun q3 => ?_) (fun q3 => ?_)
      · have h3 : a2.toInt < (0 : Int) := ccT_lt q3
        refine am_k_e 1 (C' := (30, [(0, .ref 48), (1, .int a1), (2, .int a2)], [.int 0], ph)) rfl ?_
        refine am_k_ret (r := some (.int 0)) rfl rfl ?_
        refine am_k_e 2 (C' := (23, [(0, .ref 0), (1, .int a1), (2, .int a2), (3, .int a3)], [.int (-1)], ph)) rfl ?_
        refine am_k_ret (r := some (.int (-1))) rfl rfl ?_
        refine am_k_e 5 (C' := (353, [(3, .int 0), (2, .ref 78), (1, .ref 0), (0, .ref 2000001)], [.int 1, .ref 2000001, .ref 78, .int (-1)], ph)) rfl ?_
        refine am_k_sld (v := a1) rfl (by decide) rfl rfl hx1 ?_
        refine am_k_e 4 (C' := (358, [(3, .int 0), (2, .ref 78), (1, .ref 0), (0, .ref 2000001)], [.int 2, .ref 2000001, .int a1, .ref 78, .int (-1)], ph)) rfl ?_
        refine am_k_sld (v := a2) rfl (by decide) rfl rfl hx2 ?_
        refine am_k_e 4 (C' := (363, [(3, .int 0), (2, .ref 78), (1, .ref 0), (0, .ref 2000001)], [.int 3, .ref 2000001, .int a2, .int a1, .ref 78, .int (-1)], ph)) rfl ?_
        refine am_k_sld (v := a3) rfl (by decide) rfl rfl hx3 ?_
        refine am_k_call [.ref 78, .int a1, .int a2, .int a3] [.int (-1)] rfl rfl rfl rfl rfl rfl (Nat.le_of_ble_eq_true rfl) (fun _ => rfl) (Nat.le_of_ble_eq_true rfl) ?_
        refine am_k_e 4 (C' := (6, [(0, .ref 78), (1, .int a1), (2, .int a2), (3, .int a3)], [.long 3, .long 0, .long (a1.toInt64)], ph)) rfl ?_
        refine am_k_call [.long (a1.toInt64), .long 0, .long 3] [] rfl rfl rfl rfl rfl rfl (Nat.le_of_ble_eq_true rfl) (fun z => by cases z) (Nat.le_of_ble_eq_true rfl) ?_
        refine am_k_e 3 (C' := (3, [(0, .long (a1.toInt64)), (2, .long 0), (4, .long 3)], [.int (lg_cmp (a1.toInt64) 0)], ph)) rfl ?_
        refine am_k_ifF rfl rfl (lgpF_lt (show (0 : Int) ≤ a1.toInt by omega)) ?_
        refine am_k_e 3 (C' := (10, [(0, .long (a1.toInt64)), (2, .long 0), (4, .long 3)], [.int (lg_cmp (a1.toInt64) 3)], ph)) rfl ?_
        refine am_k_ifF rfl rfl (lgpF_gt (show a1.toInt ≤ (3 : Int) by omega)) ?_
        refine am_k_e 2 (C' := (18, [(0, .long (a1.toInt64)), (2, .long 0), (4, .long 3)], [.int 1], ph)) rfl ?_
        refine am_k_ret (r := some (.int 1)) rfl rfl ?_
        refine am_k_e 9 (C' := (22, [(0, .ref 78), (1, .int a1), (2, .int a2), (3, .int a3)], [.int (4 + a1), .ref 101, .long 0, .long (a2.toInt64)], ph)) rfl ?_
        rcases (show a1.toInt = (0 : Int) ∨ a1.toInt = (1 : Int) ∨ a1.toInt = (2 : Int) ∨ a1.toInt = (3 : Int) by omega) with z4 | z4 | z4 | z4
        · obtain rfl : a1 = 0 := Int32.toInt_inj.mp (show a1.toInt = (0 : Int) by omega)
          refine am_k_e 4 (C' := (26, [(0, .ref 78), (1, .int 0), (2, .int a2), (3, .int a3)], [.long (-1), .long 0, .long (a2.toInt64)], ph)) rfl ?_
          refine am_k_call [.long (a2.toInt64), .long 0, .long (-1)] [] rfl rfl rfl rfl rfl rfl (Nat.le_of_ble_eq_true rfl) (fun z => by cases z) (Nat.le_of_ble_eq_true rfl) ?_
          refine am_k_e 3 (C' := (3, [(0, .long (a2.toInt64)), (2, .long 0), (4, .long (-1))], [.int (lg_cmp (a2.toInt64) 0)], ph)) rfl ?_
          refine am_k_ifT rfl rfl (lgpT_lt (show a2.toInt < (0 : Int) by omega)) ?_
          refine am_k_e 1 (C' := (18, [(0, .long (a2.toInt64)), (2, .long 0), (4, .long (-1))], [.int 0], ph)) rfl ?_
          refine am_k_ret (r := some (.int 0)) rfl rfl ?_
          refine am_k_e 2 (C' := (45, [(0, .ref 78), (1, .int 0), (2, .int a2), (3, .int a3)], [.int (-1)], ph)) rfl ?_
          refine am_k_ret (r := some (.int (-1))) rfl rfl ?_
          refine am_k_e 10 (C' := (974, [(3, .int 6), (2, .ref 78), (1, .ref 0), (0, .ref 2000001)], [.int 1], ph)) rfl ?_
          exact am_k_ret (r := some (.int 1)) rfl rfl rfl
        · obtain rfl : a1 = 1 := Int32.toInt_inj.mp (show a1.toInt = (1 : Int) by omega)
          refine am_k_e 4 (C' := (26, [(0, .ref 78), (1, .int 1), (2, .int a2), (3, .int a3)], [.long (-1), .long 0, .long (a2.toInt64)], ph)) rfl ?_
          refine am_k_call [.long (a2.toInt64), .long 0, .long (-1)] [] rfl rfl rfl rfl rfl rfl (Nat.le_of_ble_eq_true rfl) (fun z => by cases z) (Nat.le_of_ble_eq_true rfl) ?_
          refine am_k_e 3 (C' := (3, [(0, .long (a2.toInt64)), (2, .long 0), (4, .long (-1))], [.int (lg_cmp (a2.toInt64) 0)], ph)) rfl ?_
          refine am_k_ifT rfl rfl (lgpT_lt (show a2.toInt < (0 : Int) by omega)) ?_
          refine am_k_e 1 (C' := (18, [(0, .long (a2.toInt64)), (2, .long 0), (4, .long (-1))], [.int 0], ph)) rfl ?_
          refine am_k_ret (r := some (.int 0)) rfl rfl ?_
          refine am_k_e 2 (C' := (45, [(0, .ref 78), (1, .int 1), (2, .int a2), (3, .int a3)], [.int (-1)], ph)) rfl ?_
          refine am_k_ret (r := some (.int (-1))) rfl rfl ?_
          refine am_k_e 10 (C' := (974, [(3, .int 6), (2, .ref 78), (1, .ref 0), (0, .ref 2000001)], [.int 1], ph)) rfl ?_
          exact am_k_ret (r := some (.int 1)) rfl rfl rfl
        · obtain rfl : a1 = 2 := Int32.toInt_inj.mp (show a1.toInt = (2 : Int) by omega)
          refine am_k_e 4 (C' := (26, [(0, .ref 78), (1, .int 2), (2, .int a2), (3, .int a3)], [.long (-1), .long 0, .long (a2.toInt64)], ph)) rfl ?_
          refine am_k_call [.long (a2.toInt64), .long 0, .long (-1)] [] rfl rfl rfl rfl rfl rfl (Nat.le_of_ble_eq_true rfl) (fun z => by cases z) (Nat.le_of_ble_eq_true rfl) ?_
          refine am_k_e 3 (C' := (3, [(0, .long (a2.toInt64)), (2, .long 0), (4, .long (-1))], [.int (lg_cmp (a2.toInt64) 0)], ph)) rfl ?_
          refine am_k_ifT rfl rfl (lgpT_lt (show a2.toInt < (0 : Int) by omega)) ?_
          refine am_k_e 1 (C' := (18, [(0, .long (a2.toInt64)), (2, .long 0), (4, .long (-1))], [.int 0], ph)) rfl ?_
          refine am_k_ret (r := some (.int 0)) rfl rfl ?_
          refine am_k_e 2 (C' := (45, [(0, .ref 78), (1, .int 2), (2, .int a2), (3, .int a3)], [.int (-1)], ph)) rfl ?_
          refine am_k_ret (r := some (.int (-1))) rfl rfl ?_
          refine am_k_e 10 (C' := (974, [(3, .int 6), (2, .ref 78), (1, .ref 0), (0, .ref 2000001)], [.int 1], ph)) rfl ?_
          exact am_k_ret (r := some (.int 1)) rfl rfl rfl
        · obtain rfl : a1 = 3 := Int32.toInt_inj.mp (show a1.toInt = (3 : Int) by omega)
          refine am_k_e 4 (C' := (26, [(0, .ref 78), (1, .int 3), (2, .int a2), (3, .int a3)], [.long (-1), .long 0, .long (a2.toInt64)], ph)) rfl ?_
          refine am_k_call [.long (a2.toInt64), .long 0, .long (-1)] [] rfl rfl rfl rfl rfl rfl (Nat.le_of_ble_eq_true rfl) (fun z => by cases z) (Nat.le_of_ble_eq_true rfl) ?_
          refine am_k_e 3 (C' := (3, [(0, .long (a2.toInt64)), (2, .long 0), (4, .long (-1))], [.int (lg_cmp (a2.toInt64) 0)], ph)) rfl ?_
          refine am_k_ifT rfl rfl (lgpT_lt (show a2.toInt < (0 : Int) by omega)) ?_
          refine am_k_e 1 (C' := (18, [(0, .long (a2.toInt64)), (2, .long 0), (4, .long (-1))], [.int 0], ph)) rfl ?_
          refine am_k_ret (r := some (.int 0)) rfl rfl ?_
          refine am_k_e 2 (C' := (45, [(0, .ref 78), (1, .int 3), (2, .int a2), (3, .int a3)], [.int (-1)], ph)) rfl ?_
          refine am_k_ret (r := some (.int (-1))) rfl rfl ?_
          refine am_k_e 10 (C' := (974, [(3, .int 6), (2, .ref 78), (1, .ref 0), (0, .ref 2000001)], [.int 1], ph)) rfl ?_
          exact am_k_ret (r := some (.int 1)) rfl rfl rfl
      · have h3 : (0 : Int) ≤ a2.toInt := ccF_lt q3
        refine am_k_e 4 (C' := (19, [(0, .ref 48), (1, .int a1), (2, .int a2)], [.int a1, .ref 52, .int a2], ph)) rfl ?_
        refine am_k_call [.ref 52, .int a1] [.int a2] rfl rfl rfl rfl rfl rfl (Nat.le_of_ble_eq_true rfl) (fun z => by cases z) (Nat.le_of_ble_eq_true rfl) ?_
        refine am_k_e 1 (C' := (1, [(0, .ref 52), (1, .int a1)], [.int a1], ph)) rfl ?_
        refine am_k_ifF rfl rfl (ccpF (fun z => by have z1 : a1.toInt < (0 : Int) := ccT_lt z; omega)) ?_
        refine am_k_e 3 (C' := (7, [(0, .ref 52), (1, .int a1)], [.int 4, .int a1], ph)) rfl ?_
        refine am_k_icmpF rfl rfl (ccpF (fun z => by have z1 : (4 : Int) ≤ a1.toInt := ccT_ge z; omega)) ?_
        refine am_k_e 2 (C' := (12, [(0, .ref 52), (1, .int a1)], [.int a1, .ref 52], ph)) rfl ?_
        rcases (show a1.toInt = (0 : Int) ∨ a1.toInt = (1 : Int) ∨ a1.toInt = (2 : Int) ∨ a1.toInt = (3 : Int) by omega) with z4 | z4 | z4 | z4
        · obtain rfl : a1 = 0 := Int32.toInt_inj.mp (show a1.toInt = (0 : Int) by omega)
          refine am_k_e 2 (C' := (17, [(0, .ref 52), (1, .int 0)], [.int 0], ph)) rfl ?_
          refine am_k_ret (r := some (.int 0)) rfl rfl ?_
          refine am_k_icmpT rfl rfl (ccpT (fun z => by have z1 : a2.toInt < (0 : Int) := ccF_ge z; omega)) ?_
          refine am_k_e 1 (C' := (30, [(0, .ref 48), (1, .int 0), (2, .int a2)], [.int 0], ph)) rfl ?_
          refine am_k_ret (r := some (.int 0)) rfl rfl ?_
          refine am_k_e 2 (C' := (23, [(0, .ref 0), (1, .int 0), (2, .int a2), (3, .int a3)], [.int (-1)], ph)) rfl ?_
          refine am_k_ret (r := some (.int (-1))) rfl rfl ?_
          refine am_k_e 5 (C' := (353, [(3, .int 0), (2, .ref 78), (1, .ref 0), (0, .ref 2000001)], [.int 1, .ref 2000001, .ref 78, .int (-1)], ph)) rfl ?_
          refine am_k_sld (v := 0) rfl (by decide) rfl rfl hx1 ?_
          refine am_k_e 4 (C' := (358, [(3, .int 0), (2, .ref 78), (1, .ref 0), (0, .ref 2000001)], [.int 2, .ref 2000001, .int 0, .ref 78, .int (-1)], ph)) rfl ?_
          refine am_k_sld (v := a2) rfl (by decide) rfl rfl hx2 ?_
          refine am_k_e 4 (C' := (363, [(3, .int 0), (2, .ref 78), (1, .ref 0), (0, .ref 2000001)], [.int 3, .ref 2000001, .int a2, .int 0, .ref 78, .int (-1)], ph)) rfl ?_
          refine am_k_sld (v := a3) rfl (by decide) rfl rfl hx3 ?_
          refine am_k_call [.ref 78, .int 0, .int a2, .int a3] [.int (-1)] rfl rfl rfl rfl rfl rfl (Nat.le_of_ble_eq_true rfl) (fun _ => rfl) (Nat.le_of_ble_eq_true rfl) ?_
          refine am_k_e 4 (C' := (6, [(0, .ref 78), (1, .int 0), (2, .int a2), (3, .int a3)], [.long 3, .long 0, .long 0], ph)) rfl ?_
          refine am_k_call [.long 0, .long 0, .long 3] [] rfl rfl rfl rfl rfl rfl (Nat.le_of_ble_eq_true rfl) (fun z => by cases z) (Nat.le_of_ble_eq_true rfl) ?_
          refine am_k_e 10 (C' := (18, [(0, .long 0), (2, .long 0), (4, .long 3)], [.int 1], ph)) rfl ?_
          refine am_k_ret (r := some (.int 1)) rfl rfl ?_
          refine am_k_e 13 (C' := (26, [(0, .ref 78), (1, .int 0), (2, .int a2), (3, .int a3)], [.long (-1), .long 0, .long (a2.toInt64)], ph)) rfl ?_
          refine am_k_call [.long (a2.toInt64), .long 0, .long (-1)] [] rfl rfl rfl rfl rfl rfl (Nat.le_of_ble_eq_true rfl) (fun z => by cases z) (Nat.le_of_ble_eq_true rfl) ?_
          refine am_k_e 3 (C' := (3, [(0, .long (a2.toInt64)), (2, .long 0), (4, .long (-1))], [.int (lg_cmp (a2.toInt64) 0)], ph)) rfl ?_
          refine am_k_ifF rfl rfl (lgpF_lt (show (0 : Int) ≤ a2.toInt by omega)) ?_
          refine am_k_e 3 (C' := (10, [(0, .long (a2.toInt64)), (2, .long 0), (4, .long (-1))], [.int (lg_cmp (a2.toInt64) (-1))], ph)) rfl ?_
          refine am_k_ifT rfl rfl (lgpT_gt (show (-1 : Int) < a2.toInt by omega)) ?_
          refine am_k_e 1 (C' := (18, [(0, .long (a2.toInt64)), (2, .long 0), (4, .long (-1))], [.int 0], ph)) rfl ?_
          refine am_k_ret (r := some (.int 0)) rfl rfl ?_
          refine am_k_e 2 (C' := (45, [(0, .ref 78), (1, .int 0), (2, .int a2), (3, .int a3)], [.int (-1)], ph)) rfl ?_
          refine am_k_ret (r := some (.int (-1))) rfl rfl ?_
          refine am_k_e 10 (C' := (974, [(3, .int 6), (2, .ref 78), (1, .ref 0), (0, .ref 2000001)], [.int 1], ph)) rfl ?_
          exact am_k_ret (r := some (.int 1)) rfl rfl rfl
        · obtain rfl : a1 = 1 := Int32.toInt_inj.mp (show a1.toInt = (1 : Int) by omega)
          refine am_k_e 2 (C' := (17, [(0, .ref 52), (1, .int 1)], [.int 0], ph)) rfl ?_
          refine am_k_ret (r := some (.int 0)) rfl rfl ?_
          refine am_k_icmpT rfl rfl (ccpT (fun z => by have z1 : a2.toInt < (0 : Int) := ccF_ge z; omega)) ?_
          refine am_k_e 1 (C' := (30, [(0, .ref 48), (1, .int 1), (2, .int a2)], [.int 0], ph)) rfl ?_
          refine am_k_ret (r := some (.int 0)) rfl rfl ?_
          refine am_k_e 2 (C' := (23, [(0, .ref 0), (1, .int 1), (2, .int a2), (3, .int a3)], [.int (-1)], ph)) rfl ?_
          refine am_k_ret (r := some (.int (-1))) rfl rfl ?_
          refine am_k_e 5 (C' := (353, [(3, .int 0), (2, .ref 78), (1, .ref 0), (0, .ref 2000001)], [.int 1, .ref 2000001, .ref 78, .int (-1)], ph)) rfl ?_
          refine am_k_sld (v := 1) rfl (by decide) rfl rfl hx1 ?_
          refine am_k_e 4 (C' := (358, [(3, .int 0), (2, .ref 78), (1, .ref 0), (0, .ref 2000001)], [.int 2, .ref 2000001, .int 1, .ref 78, .int (-1)], ph)) rfl ?_
          refine am_k_sld (v := a2) rfl (by decide) rfl rfl hx2 ?_
          refine am_k_e 4 (C' := (363, [(3, .int 0), (2, .ref 78), (1, .ref 0), (0, .ref 2000001)], [.int 3, .ref 2000001, .int a2, .int 1, .ref 78, .int (-1)], ph)) rfl ?_
          refine am_k_sld (v := a3) rfl (by decide) rfl rfl hx3 ?_
          refine am_k_call [.ref 78, .int 1, .int a2, .int a3] [.int (-1)] rfl rfl rfl rfl rfl rfl (Nat.le_of_ble_eq_true rfl) (fun _ => rfl) (Nat.le_of_ble_eq_true rfl) ?_
          refine am_k_e 4 (C' := (6, [(0, .ref 78), (1, .int 1), (2, .int a2), (3, .int a3)], [.long 3, .long 0, .long 1], ph)) rfl ?_
          refine am_k_call [.long 1, .long 0, .long 3] [] rfl rfl rfl rfl rfl rfl (Nat.le_of_ble_eq_true rfl) (fun z => by cases z) (Nat.le_of_ble_eq_true rfl) ?_
          refine am_k_e 10 (C' := (18, [(0, .long 1), (2, .long 0), (4, .long 3)], [.int 1], ph)) rfl ?_
          refine am_k_ret (r := some (.int 1)) rfl rfl ?_
          refine am_k_e 13 (C' := (26, [(0, .ref 78), (1, .int 1), (2, .int a2), (3, .int a3)], [.long (-1), .long 0, .long (a2.toInt64)], ph)) rfl ?_
          refine am_k_call [.long (a2.toInt64), .long 0, .long (-1)] [] rfl rfl rfl rfl rfl rfl (Nat.le_of_ble_eq_true rfl) (fun z => by cases z) (Nat.le_of_ble_eq_true rfl) ?_
          refine am_k_e 3 (C' := (3, [(0, .long (a2.toInt64)), (2, .long 0), (4, .long (-1))], [.int (lg_cmp (a2.toInt64) 0)], ph)) rfl ?_
          refine am_k_ifF rfl rfl (lgpF_lt (show (0 : Int) ≤ a2.toInt by omega)) ?_
          refine am_k_e 3 (C' := (10, [(0, .long (a2.toInt64)), (2, .long 0), (4, .long (-1))], [.int (lg_cmp (a2.toInt64) (-1))], ph)) rfl ?_
          refine am_k_ifT rfl rfl (lgpT_gt (show (-1 : Int) < a2.toInt by omega)) ?_
          refine am_k_e 1 (C' := (18, [(0, .long (a2.toInt64)), (2, .long 0), (4, .long (-1))], [.int 0], ph)) rfl ?_
          refine am_k_ret (r := some (.int 0)) rfl rfl ?_
          refine am_k_e 2 (C' := (45, [(0, .ref 78), (1, .int 1), (2, .int a2), (3, .int a3)], [.int (-1)], ph)) rfl ?_
          refine am_k_ret (r := some (.int (-1))) rfl rfl ?_
          refine am_k_e 10 (C' := (974, [(3, .int 6), (2, .ref 78), (1, .ref 0), (0, .ref 2000001)], [.int 1], ph)) rfl ?_
          exact am_k_ret (r := some (.int 1)) rfl rfl rfl
        · obtain rfl : a1 = 2 := Int32.toInt_inj.mp (show a1.toInt = (2 : Int) by omega)
          refine am_k_e 2 (C' := (17, [(0, .ref 52), (1, .int 2)], [.int 0], ph)) rfl ?_
          refine am_k_ret (r := some (.int 0)) rfl rfl ?_
          refine am_k_icmpT rfl rfl (ccpT (fun z => by have z1 : a2.toInt < (0 : Int) := ccF_ge z; omega)) ?_
          refine am_k_e 1 (C' := (30, [(0, .ref 48), (1, .int 2), (2, .int a2)], [.int 0], ph)) rfl ?_
          refine am_k_ret (r := some (.int 0)) rfl rfl ?_
          refine am_k_e 2 (C' := (23, [(0, .ref 0), (1, .int 2), (2, .int a2), (3, .int a3)], [.int (-1)], ph)) rfl ?_
          refine am_k_ret (r := some (.int (-1))) rfl rfl ?_
          refine am_k_e 5 (C' := (353, [(3, .int 0), (2, .ref 78), (1, .ref 0), (0, .ref 2000001)], [.int 1, .ref 2000001, .ref 78, .int (-1)], ph)) rfl ?_
          refine am_k_sld (v := 2) rfl (by decide) rfl rfl hx1 ?_
          refine am_k_e 4 (C' := (358, [(3, .int 0), (2, .ref 78), (1, .ref 0), (0, .ref 2000001)], [.int 2, .ref 2000001, .int 2, .ref 78, .int (-1)], ph)) rfl ?_
          refine am_k_sld (v := a2) rfl (by decide) rfl rfl hx2 ?_
          refine am_k_e 4 (C' := (363, [(3, .int 0), (2, .ref 78), (1, .ref 0), (0, .ref 2000001)], [.int 3, .ref 2000001, .int a2, .int 2, .ref 78, .int (-1)], ph)) rfl ?_
          refine am_k_sld (v := a3) rfl (by decide) rfl rfl hx3 ?_
          refine am_k_call [.ref 78, .int 2, .int a2, .int a3] [.int (-1)] rfl rfl rfl rfl rfl rfl (Nat.le_of_ble_eq_true rfl) (fun _ => rfl) (Nat.le_of_ble_eq_true rfl) ?_
          refine am_k_e 4 (C' := (6, [(0, .ref 78), (1, .int 2), (2, .int a2), (3, .int a3)], [.long 3, .long 0, .long 2], ph)) rfl ?_
          refine am_k_call [.long 2, .long 0, .long 3] [] rfl rfl rfl rfl rfl rfl (Nat.le_of_ble_eq_true rfl) (fun z => by cases z) (Nat.le_of_ble_eq_true rfl) ?_
          refine am_k_e 10 (C' := (18, [(0, .long 2), (2, .long 0), (4, .long 3)], [.int 1], ph)) rfl ?_
          refine am_k_ret (r := some (.int 1)) rfl rfl ?_
          refine am_k_e 13 (C' := (26, [(0, .ref 78), (1, .int 2), (2, .int a2), (3, .int a3)], [.long (-1), .long 0, .long (a2.toInt64)], ph)) rfl ?_
          refine am_k_call [.long (a2.toInt64), .long 0, .long (-1)] [] rfl rfl rfl rfl rfl rfl (Nat.le_of_ble_eq_true rfl) (fun z => by cases z) (Nat.le_of_ble_eq_true rfl) ?_
          refine am_k_e 3 (C' := (3, [(0, .long (a2.toInt64)), (2, .long 0), (4, .long (-1))], [.int (lg_cmp (a2.toInt64) 0)], ph)) rfl ?_
          refine am_k_ifF rfl rfl (lgpF_lt (show (0 : Int) ≤ a2.toInt by omega)) ?_
          refine am_k_e 3 (C' := (10, [(0, .long (a2.toInt64)), (2, .long 0), (4, .long (-1))], [.int (lg_cmp (a2.toInt64) (-1))], ph)) rfl ?_
          refine am_k_ifT rfl rfl (lgpT_gt (show (-1 : Int) < a2.toInt by omega)) ?_
          refine am_k_e 1 (C' := (18, [(0, .long (a2.toInt64)), (2, .long 0), (4, .long (-1))], [.int 0], ph)) rfl ?_
          refine am_k_ret (r := some (.int 0)) rfl rfl ?_
          refine am_k_e 2 (C' := (45, [(0, .ref 78), (1, .int 2), (2, .int a2), (3, .int a3)], [.int (-1)], ph)) rfl ?_
          refine am_k_ret (r := some (.int (-1))) rfl rfl ?_
          refine am_k_e 10 (C' := (974, [(3, .int 6), (2, .ref 78), (1, .ref 0), (0, .ref 2000001)], [.int 1], ph)) rfl ?_
          exact am_k_ret (r := some (.int 1)) rfl rfl rfl
        · obtain rfl : a1 = 3 := Int32.toInt_inj.mp (show a1.toInt = (3 : Int) by omega)
          refine am_k_e 2 (C' := (17, [(0, .ref 52), (1, .int 3)], [.int 0], ph)) rfl ?_
          refine am_k_ret (r := some (.int 0)) rfl rfl ?_
          refine am_k_icmpT rfl rfl (ccpT (fun z => by have z1 : a2.toInt < (0 : Int) := ccF_ge z; omega)) ?_
          refine am_k_e 1 (C' := (30, [(0, .ref 48), (1, .int 3), (2, .int a2)], [.int 0], ph)) rfl ?_
          refine am_k_ret (r := some (.int 0)) rfl rfl ?_
          refine am_k_e 2 (C' := (23, [(0, .ref 0), (1, .int 3), (2, .int a2), (3, .int a3)], [.int (-1)], ph)) rfl ?_
          refine am_k_ret (r := some (.int (-1))) rfl rfl ?_
          refine am_k_e 5 (C' := (353, [(3, .int 0), (2, .ref 78), (1, .ref 0), (0, .ref 2000001)], [.int 1, .ref 2000001, .ref 78, .int (-1)], ph)) rfl ?_
          refine am_k_sld (v := 3) rfl (by decide) rfl rfl hx1 ?_
          refine am_k_e 4 (C' := (358, [(3, .int 0), (2, .ref 78), (1, .ref 0), (0, .ref 2000001)], [.int 2, .ref 2000001, .int 3, .ref 78, .int (-1)], ph)) rfl ?_
          refine am_k_sld (v := a2) rfl (by decide) rfl rfl hx2 ?_
          refine am_k_e 4 (C' := (363, [(3, .int 0), (2, .ref 78), (1, .ref 0), (0, .ref 2000001)], [.int 3, .ref 2000001, .int a2, .int 3, .ref 78, .int (-1)], ph)) rfl ?_
          refine am_k_sld (v := a3) rfl (by decide) rfl rfl hx3 ?_
          refine am_k_call [.ref 78, .int 3, .int a2, .int a3] [.int (-1)] rfl rfl rfl rfl rfl rfl (Nat.le_of_ble_eq_true rfl) (fun _ => rfl) (Nat.le_of_ble_eq_true rfl) ?_
          refine am_k_e 4 (C' := (6, [(0, .ref 78), (1, .int 3), (2, .int a2), (3, .int a3)], [.long 3, .long 0, .long 3], ph)) rfl ?_
          refine am_k_call [.long 3, .long 0, .long 3] [] rfl rfl rfl rfl rfl rfl (Nat.le_of_ble_eq_true rfl) (fun z => by cases z) (Nat.le_of_ble_eq_true rfl) ?_
          refine am_k_e 10 (C' := (18, [(0, .long 3), (2, .long 0), (4, .long 3)], [.int 1], ph)) rfl ?_
          refine am_k_ret (r := some (.int 1)) rfl rfl ?_
          refine am_k_e 13 (C' := (26, [(0, .ref 78), (1, .int 3), (2, .int a2), (3, .int a3)], [.long (-1), .long 0, .long (a2.toInt64)], ph)) rfl ?_
          refine am_k_call [.long (a2.toInt64), .long 0, .long (-1)] [] rfl rfl rfl rfl rfl rfl (Nat.le_of_ble_eq_true rfl) (fun z => by cases z) (Nat.le_of_ble_eq_true rfl) ?_
          refine am_k_e 3 (C' := (3, [(0, .long (a2.toInt64)), (2, .long 0), (4, .long (-1))], [.int (lg_cmp (a2.toInt64) 0)], ph)) rfl ?_
          refine am_k_ifF rfl rfl (lgpF_lt (show (0 : Int) ≤ a2.toInt by omega)) ?_
          refine am_k_e 3 (C' := (10, [(0, .long (a2.toInt64)), (2, .long 0), (4, .long (-1))], [.int (lg_cmp (a2.toInt64) (-1))], ph)) rfl ?_
          refine am_k_ifT rfl rfl (lgpT_gt (show (-1 : Int) < a2.toInt by omega)) ?_
          refine am_k_e 1 (C' := (18, [(0, .long (a2.toInt64)), (2, .long 0), (4, .long (-1))], [.int 0], ph)) rfl ?_
          refine am_k_ret (r := some (.int 0)) rfl rfl ?_
          refine am_k_e 2 (C' := (45, [(0, .ref 78), (1, .int 3), (2, .int a2), (3, .int a3)], [.int (-1)], ph)) rfl ?_
          refine am_k_ret (r := some (.int (-1))) rfl rfl ?_
          refine am_k_e 10 (C' := (974, [(3, .int 6), (2, .ref 78), (1, .ref 0), (0, .ref 2000001)], [.int 1], ph)) rfl ?_
          exact am_k_ret (r := some (.int 1)) rfl rfl rfl

set_option maxHeartbeats 40000000 in
set_option maxRecDepth 100000 in
theorem p_c33 (xs : Nat → Int32) : am_k (am_E 6 xs) 2000 am_mL (944, [(3, .int 0), (2, .ref 78), (1, .ref 0), (0, .ref 2000001)], [], ph) (fun r _ => r = some (.int 1)) := by
  obtain ⟨a1, hx1⟩ : ∃ a, xs 1 = a := ⟨_, rfl⟩
  obtain ⟨a2, hx2⟩ : ∃ a, xs 2 = a := ⟨_, rfl⟩
  obtain ⟨a3, hx3⟩ : ∃ a, xs 3 = a := ⟨_, rfl⟩
  obtain ⟨a4, hx4⟩ : ∃ a, xs 4 = a := ⟨_, rfl⟩
  obtain ⟨a5, hx5⟩ : ∃ a, xs 5 = a := ⟨_, rfl⟩
  refine am_k_e 5 (C' := (949, [(3, .int 0), (2, .ref 78), (1, .ref 0), (0, .ref 2000001)], [.int 1, .ref 2000001, .ref 0], ph)) rfl ?_
  refine am_k_sld (v := a1) rfl (by decide) rfl rfl hx1 ?_
  refine am_k_call [.ref 0, .int a1] [] rfl rfl rfl rfl rfl rfl (Nat.le_of_ble_eq_true rfl) (fun _ => rfl) (Nat.le_of_ble_eq_true rfl) ?_
  refine am_k_e 1 (C' := (1, [(0, .ref 0), (1, .int a1)], [.int a1], ph)) rfl ?_
  refine am_k_if rfl rfl (fun q1 => ?_) (fun q1 => ?_)
  · have h1 : a1.toInt < (0 : Int) := ccT_lt q1
    refine am_k_e 1 (C' := (25, [(0, .ref 0), (1, .int a1)], [.int (-1)], ph)) rfl ?_
    refine am_k_ret (r := some (.int (-1))) rfl rfl ?_
    refine am_k_e 5 (C' := (958, [(3, .int 0), (2, .ref 78), (1, .ref 0), (0, .ref 2000001)], [.int 1, .ref 2000001, .ref 78, .int (-1)], ph)) rfl ?_
    refine am_k_sld (v := a1) rfl (by decide) rfl rfl hx1 ?_
    refine am_k_call [.ref 78, .int a1] [.int (-1)] rfl rfl rfl rfl rfl rfl (Nat.le_of_ble_eq_true rfl) (fun _ => rfl) (Nat.le_of_ble_eq_true rfl) ?_
    refine am_k_e 4 (C' := (6, [(0, .ref 78), (1, .int a1)], [.long 5, .long 0, .long (a1.toInt64)], ph)) rfl ?_
    refine am_k_call [.long (a1.toInt64), .long 0, .long 5] [] rfl rfl rfl rfl rfl rfl (Nat.le_of_ble_eq_true rfl) (fun z => by cases z) (Nat.le_of_ble_eq_true rfl) ?_
    refine am_k_e 3 (C' := (3, [(0, .long (a1.toInt64)), (2, .long 0), (4, .long 5)], [.int (lg_cmp (a1.toInt64) 0)], ph)) rfl ?_
    refine am_k_ifT rfl rfl (lgpT_lt (show a1.toInt < (0 : Int) by omega)) ?_
    refine am_k_e 1 (C' := (18, [(0, .long (a1.toInt64)), (2, .long 0), (4, .long 5)], [.int 0], ph)) rfl ?_
    refine am_k_ret (r := some (.int 0)) rfl rfl ?_
    refine am_k_e 2 (C' := (22, [(0, .ref 78), (1, .int a1)], [.int (-1)], ph)) rfl ?_
    refine am_k_ret (r := some (.int (-1))) rfl rfl ?_
    refine am_k_e 10 (C' := (974, [(3, .int 6), (2, .ref 78), (1, .ref 0), (0, .ref 2000001)], [.int 1], ph)) rfl ?_
    exact am_k_ret (r := some (.int 1)) rfl rfl rfl
  · have h1 : (0 : Int) ≤ a1.toInt := ccF_lt q1
    refine am_k_e 4 (C' := (10, [(0, .ref 0), (1, .int a1)], [.int 6, .int a1], ph)) rfl ?_
    refine am_k_icmp rfl rfl (fun q2 => ?_) (fun q2 => ?_)
    · have h2 : (6 : Int) ≤ a1.toInt := ccT_ge q2
      refine am_k_e 1 (C' := (25, [(0, .ref 0), (1, .int a1)], [.int (-1)], ph)) rfl ?_
      refine am_k_ret (r := some (.int (-1))) rfl rfl ?_
      refine am_k_e 5 (C' := (958, [(3, .int 0), (2, .ref 78), (1, .ref 0), (0, .ref 2000001)], [.int 1, .ref 2000001, .ref 78, .int (-1)], ph)) rfl ?_
      refine am_k_sld (v := a1) rfl (by decide) rfl rfl hx1 ?_
      refine am_k_call [.ref 78, .int a1] [.int (-1)] rfl rfl rfl rfl rfl rfl (Nat.le_of_ble_eq_true rfl) (fun _ => rfl) (Nat.le_of_ble_eq_true rfl) ?_
      refine am_k_e 4 (C' := (6, [(0, .ref 78), (1, .int a1)], [.long 5, .long 0, .long (a1.toInt64)], ph)) rfl ?_
      refine am_k_call [.long (a1.toInt64), .long 0, .long 5] [] rfl rfl rfl rfl rfl rfl (Nat.le_of_ble_eq_true rfl) (fun z => by cases z) (Nat.le_of_ble_eq_true rfl) ?_
      refine am_k_e 3 (C' := (3, [(0, .long (a1.toInt64)), (2, .long 0), (4, .long 5)], [.int (lg_cmp (a1.toInt64) 0)], ph)) rfl ?_
      refine am_k_ifF rfl rfl (lgpF_lt (show (0 : Int) ≤ a1.toInt by omega)) ?_
      refine am_k_e 3 (C' := (10, [(0, .long (a1.toInt64)), (2, .long 0), (4, .long 5)], [.int (lg_cmp (a1.toInt64) 5)], ph)) rfl ?_
      refine am_k_ifT rfl rfl (lgpT_gt (show (5 : Int) < a1.toInt by omega)) ?_
      refine am_k_e 1 (C' := (18, [(0, .long (a1.toInt64)), (2, .long 0), (4, .long 5)], [.int 0], ph)) rfl ?_
      refine am_k_ret (r := some (.int 0)) rfl rfl ?_
      refine am_k_e 2 (C' := (22, [(0, .ref 78), (1, .int a1)], [.int (-1)], ph)) rfl ?_
      refine am_k_ret (r := some (.int (-1))) rfl rfl ?_
      refine am_k_e 10 (C' := (974, [(3, .int 6), (2, .ref 78), (1, .ref 0), (0, .ref 2000001)], [.int 1], ph)) rfl ?_
      exact am_k_ret (r := some (.int 1)) rfl rfl rfl
    · have h2 : a1.toInt < (6 : Int) := ccF_ge q2
      refine am_k_e 3 (C' := (18, [(0, .ref 0), (1, .int a1)], [.int a1, .ref 47], ph)) rfl ?_
      refine am_k_call [.ref 47, .int a1] [] rfl rfl rfl rfl rfl rfl (Nat.le_of_ble_eq_true rfl) (fun z => by cases z) (Nat.le_of_ble_eq_true rfl) ?_
      refine am_k_e 1 (C' := (1, [(0, .ref 47), (1, .int a1)], [.int a1], ph)) rfl ?_
      refine am_k_ifF rfl rfl (ccpF (fun z => by have z1 : a1.toInt < (0 : Int) := ccT_lt z; omega)) ?_
      refine am_k_e 3 (C' := (7, [(0, .ref 47), (1, .int a1)], [.int 6, .int a1], ph)) rfl ?_
      refine am_k_icmpF rfl rfl (ccpF (fun z => by have z1 : (6 : Int) ≤ a1.toInt := ccT_ge z; omega)) ?_
      refine am_k_e 2 (C' := (12, [(0, .ref 47), (1, .int a1)], [.int a1, .ref 47], ph)) rfl ?_
      rcases (show a1.toInt = (0 : Int) ∨ a1.toInt = (1 : Int) ∨ a1.toInt = (2 : Int) ∨ a1.toInt = (3 : Int) ∨ a1.toInt = (4 : Int) ∨ a1.toInt = (5 : Int) by omega) with z3 | z3 | z3 | z3 | z3 | z3
      · obtain rfl : a1 = 0 := Int32.toInt_inj.mp (show a1.toInt = (0 : Int) by omega)
        refine am_k_e 2 (C' := (17, [(0, .ref 47), (1, .int 0)], [.int 0], ph)) rfl ?_
        refine am_k_ret (r := some (.int 0)) rfl rfl ?_
        refine am_k_e 1 (C' := (25, [(0, .ref 0), (1, .int 0)], [.int 0], ph)) rfl ?_
        refine am_k_ret (r := some (.int 0)) rfl rfl ?_
        refine am_k_e 5 (C' := (958, [(3, .int 0), (2, .ref 78), (1, .ref 0), (0, .ref 2000001)], [.int 1, .ref 2000001, .ref 78, .int 0], ph)) rfl ?_
        refine am_k_sld (v := 0) rfl (by decide) rfl rfl hx1 ?_
        refine am_k_call [.ref 78, .int 0] [.int 0] rfl rfl rfl rfl rfl rfl (Nat.le_of_ble_eq_true rfl) (fun _ => rfl) (Nat.le_of_ble_eq_true rfl) ?_
        refine am_k_e 4 (C' := (6, [(0, .ref 78), (1, .int 0)], [.long 5, .long 0, .long 0], ph)) rfl ?_
        refine am_k_call [.long 0, .long 0, .long 5] [] rfl rfl rfl rfl rfl rfl (Nat.le_of_ble_eq_true rfl) (fun z => by cases z) (Nat.le_of_ble_eq_true rfl) ?_
        refine am_k_e 10 (C' := (18, [(0, .long 0), (2, .long 0), (4, .long 5)], [.int 1], ph)) rfl ?_
        refine am_k_ret (r := some (.int 1)) rfl rfl ?_
        refine am_k_e 6 (C' := (22, [(0, .ref 78), (1, .int 0)], [.int 0], ph)) rfl ?_
        refine am_k_ret (r := some (.int 0)) rfl rfl ?_
        refine am_k_e 10 (C' := (974, [(3, .int 6), (2, .ref 78), (1, .ref 0), (0, .ref 2000001)], [.int 1], ph)) rfl ?_
        exact am_k_ret (r := some (.int 1)) rfl rfl rfl
      · obtain rfl : a1 = 1 := Int32.toInt_inj.mp (show a1.toInt = (1 : Int) by omega)
        refine am_k_e 2 (C' := (17, [(0, .ref 47), (1, .int 1)], [.int 0], ph)) rfl ?_
        refine am_k_ret (r := some (.int 0)) rfl rfl ?_
        refine am_k_e 1 (C' := (25, [(0, .ref 0), (1, .int 1)], [.int 0], ph)) rfl ?_
        refine am_k_ret (r := some (.int 0)) rfl rfl ?_
        refine am_k_e 5 (C' := (958, [(3, .int 0), (2, .ref 78), (1, .ref 0), (0, .ref 2000001)], [.int 1, .ref 2000001, .ref 78, .int 0], ph)) rfl ?_
        refine am_k_sld (v := 1) rfl (by decide) rfl rfl hx1 ?_
        refine am_k_call [.ref 78, .int 1] [.int 0] rfl rfl rfl rfl rfl rfl (Nat.le_of_ble_eq_true rfl) (fun _ => rfl) (Nat.le_of_ble_eq_true rfl) ?_
        refine am_k_e 4 (C' := (6, [(0, .ref 78), (1, .int 1)], [.long 5, .long 0, .long 1], ph)) rfl ?_
        refine am_k_call [.long 1, .long 0, .long 5] [] rfl rfl rfl rfl rfl rfl (Nat.le_of_ble_eq_true rfl) (fun z => by cases z) (Nat.le_of_ble_eq_true rfl) ?_
        refine am_k_e 10 (C' := (18, [(0, .long 1), (2, .long 0), (4, .long 5)], [.int 1], ph)) rfl ?_
        refine am_k_ret (r := some (.int 1)) rfl rfl ?_
        refine am_k_e 6 (C' := (22, [(0, .ref 78), (1, .int 1)], [.int 0], ph)) rfl ?_
        refine am_k_ret (r := some (.int 0)) rfl rfl ?_
        refine am_k_e 10 (C' := (974, [(3, .int 6), (2, .ref 78), (1, .ref 0), (0, .ref 2000001)], [.int 1], ph)) rfl ?_
        exact am_k_ret (r := some (.int 1)) rfl rfl rfl
      · obtain rfl : a1 = 2 := Int32.toInt_inj.mp (show a1.toInt = (2 : Int) by omega)
        refine am_k_e 2 (C' := (17, [(0, .ref 47), (1, .int 2)], [.int 0], ph)) rfl ?_
        refine am_k_ret (r := some (.int 0)) rfl rfl ?_
        refine am_k_e 1 (C' := (25, [(0, .ref 0), (1, .int 2)], [.int 0], ph)) rfl ?_
        refine am_k_ret (r := some (.int 0)) rfl rfl ?_
        refine am_k_e 5 (C' := (958, [(3, .int 0), (2, .ref 78), (1, .ref 0), (0, .ref 2000001)], [.int 1, .ref 2000001, .ref 78, .int 0], ph)) rfl ?_
        refine am_k_sld (v := 2) rfl (by decide) rfl rfl hx1 ?_
        refine am_k_call [.ref 78, .int 2] [.int 0] rfl rfl rfl rfl rfl rfl (Nat.le_of_ble_eq_true rfl) (fun _ => rfl) (Nat.le_of_ble_eq_true rfl) ?_
        refine am_k_e 4 (C' := (6, [(0, .ref 78), (1, .int 2)], [.long 5, .long 0, .long 2], ph)) rfl ?_
        refine am_k_call [.long 2, .long 0, .long 5] [] rfl rfl rfl rfl rfl rfl (Nat.le_of_ble_eq_true rfl) (fun z => by cases z) (Nat.le_of_ble_eq_true rfl) ?_
        refine am_k_e 10 (C' := (18, [(0, .long 2), (2, .long 0), (4, .long 5)], [.int 1], ph)) rfl ?_
        refine am_k_ret (r := some (.int 1)) rfl rfl ?_
        refine am_k_e 6 (C' := (22, [(0, .ref 78), (1, .int 2)], [.int 0], ph)) rfl ?_
        refine am_k_ret (r := some (.int 0)) rfl rfl ?_
        refine am_k_e 10 (C' := (974, [(3, .int 6), (2, .ref 78), (1, .ref 0), (0, .ref 2000001)], [.int 1], ph)) rfl ?_
        exact am_k_ret (r := some (.int 1)) rfl rfl rfl
      · obtain rfl : a1 = 3 := Int32.toInt_inj.mp (show a1.toInt = (3 : Int) by omega)
        refine am_k_e 2 (C' := (17, [(0, .ref 47), (1, .int 3)], [.int 0], ph)) rfl ?_
        refine am_k_ret (r := some (.int 0)) rfl rfl ?_
        refine am_k_e 1 (C' := (25, [(0, .ref 0), (1, .int 3)], [.int 0], ph)) rfl ?_
        refine am_k_ret (r := some (.int 0)) rfl rfl ?_
        refine am_k_e 5 (C' := (958, [(3, .int 0), (2, .ref 78), (1, .ref 0), (0, .ref 2000001)], [.int 1, .ref 2000001, .ref 78, .int 0], ph)) rfl ?_
        refine am_k_sld (v := 3) rfl (by decide) rfl rfl hx1 ?_
        refine am_k_call [.ref 78, .int 3] [.int 0] rfl rfl rfl rfl rfl rfl (Nat.le_of_ble_eq_true rfl) (fun _ => rfl) (Nat.le_of_ble_eq_true rfl) ?_
        refine am_k_e 4 (C' := (6, [(0, .ref 78), (1, .int 3)], [.long 5, .long 0, .long 3], ph)) rfl ?_
        refine am_k_call [.long 3, .long 0, .long 5] [] rfl rfl rfl rfl rfl rfl (Nat.le_of_ble_eq_true rfl) (fun z => by cases z) (Nat.le_of_ble_eq_true rfl) ?_
        refine am_k_e 10 (C' := (18, [(0, .long 3), (2, .long 0), (4, .long 5)], [.int 1], ph)) rfl ?_
        refine am_k_ret (r := some (.int 1)) rfl rfl ?_
        refine am_k_e 6 (C' := (22, [(0, .ref 78), (1, .int 3)], [.int 0], ph)) rfl ?_
        refine am_k_ret (r := some (.int 0)) rfl rfl ?_
        refine am_k_e 10 (C' := (974, [(3, .int 6), (2, .ref 78), (1, .ref 0), (0, .ref 2000001)], [.int 1], ph)) rfl ?_
        exact am_k_ret (r := some (.int 1)) rfl rfl rfl
      · obtain rfl : a1 = 4 := Int32.toInt_inj.mp (show a1.toInt = (4 : Int) by omega)
        refine am_k_e 2 (C' := (17, [(0, .ref 47), (1, .int 4)], [.int 0], ph)) rfl ?_
        refine am_k_ret (r := some (.int 0)) rfl rfl ?_
        refine am_k_e 1 (C' := (25, [(0, .ref 0), (1, .int 4)], [.int 0], ph)) rfl ?_
        refine am_k_ret (r := some (.int 0)) rfl rfl ?_
        refine am_k_e 5 (C' := (958, [(3, .int 0), (2, .ref 78), (1, .ref 0), (0, .ref 2000001)], [.int 1, .ref 2000001, .ref 78, .int 0], ph)) rfl ?_
        refine am_k_sld (v := 4) rfl (by decide) rfl rfl hx1 ?_
        refine am_k_call [.ref 78, .int 4] [.int 0] rfl rfl rfl rfl rfl rfl (Nat.le_of_ble_eq_true rfl) (fun _ => rfl) (Nat.le_of_ble_eq_true rfl) ?_
        refine am_k_e 4 (C' := (6, [(0, .ref 78), (1, .int 4)], [.long 5, .long 0, .long 4], ph)) rfl ?_
        refine am_k_call [.long 4, .long 0, .long 5] [] rfl rfl rfl rfl rfl rfl (Nat.le_of_ble_eq_true rfl) (fun z => by cases z) (Nat.le_of_ble_eq_true rfl) ?_
        refine am_k_e 10 (C' := (18, [(0, .long 4), (2, .long 0), (4, .long 5)], [.int 1], ph)) rfl ?_
        refine am_k_ret (r := some (.int 1)) rfl rfl ?_
        refine am_k_e 6 (C' := (22, [(0, .ref 78), (1, .int 4)], [.int 0], ph)) rfl ?_
        refine am_k_ret (r := some (.int 0)) rfl rfl ?_
        refine am_k_e 10 (C' := (974, [(3, .int 6), (2, .ref 78), (1, .ref 0), (0, .ref 2000001)], [.int 1], ph)) rfl ?_
        exact am_k_ret (r := some (.int 1)) rfl rfl rfl
      · obtain rfl : a1 = 5 := Int32.toInt_inj.mp (show a1.toInt = (5 : Int) by omega)
        refine am_k_e 2 (C' := (17, [(0, .ref 47), (1, .int 5)], [.int 0], ph)) rfl ?_
        refine am_k_ret (r := some (.int 0)) rfl rfl ?_
        refine am_k_e 1 (C' := (25, [(0, .ref 0), (1, .int 5)], [.int 0], ph)) rfl ?_
        refine am_k_ret (r := some (.int 0)) rfl rfl ?_
        refine am_k_e 5 (C' := (958, [(3, .int 0), (2, .ref 78), (1, .ref 0), (0, .ref 2000001)], [.int 1, .ref 2000001, .ref 78, .int 0], ph)) rfl ?_
        refine am_k_sld (v := 5) rfl (by decide) rfl rfl hx1 ?_
        refine am_k_call [.ref 78, .int 5] [.int 0] rfl rfl rfl rfl rfl rfl (Nat.le_of_ble_eq_true rfl) (fun _ => rfl) (Nat.le_of_ble_eq_true rfl) ?_
        refine am_k_e 4 (C' := (6, [(0, .ref 78), (1, .int 5)], [.long 5, .long 0, .long 5], ph)) rfl ?_
        refine am_k_call [.long 5, .long 0, .long 5] [] rfl rfl rfl rfl rfl rfl (Nat.le_of_ble_eq_true rfl) (fun z => by cases z) (Nat.le_of_ble_eq_true rfl) ?_
        refine am_k_e 10 (C' := (18, [(0, .long 5), (2, .long 0), (4, .long 5)], [.int 1], ph)) rfl ?_
        refine am_k_ret (r := some (.int 1)) rfl rfl ?_
        refine am_k_e 6 (C' := (22, [(0, .ref 78), (1, .int 5)], [.int 0], ph)) rfl ?_
        refine am_k_ret (r := some (.int 0)) rfl rfl ?_
        refine am_k_e 10 (C' := (974, [(3, .int 6), (2, .ref 78), (1, .ref 0), (0, .ref 2000001)], [.int 1], ph)) rfl ?_
        exact am_k_ret (r := some (.int 1)) rfl rfl rfl
