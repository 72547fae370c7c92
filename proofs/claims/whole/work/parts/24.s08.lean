section S08
variable {L : Nat} {xs : Nat → Int32} {bz : Bool}
theorem s_r_judged {d : Nat} {v1 : Int} {m : xm} (hd : 0 ≤ d) : xw (am_E L xs bz) d am_m264 1 0 [(0, .ref 78), (1, .int (i32 v1))] [] m (r_judged v1 m) := by
  unfold r_judged
  refine w_aload_n rfl rfl ?_
  refine w_gfi rfl rfl (Nat.le_of_ble_eq_true rfl) rfl rfl ?_
  refine w_if_ne (tg := 9) rfl rfl (w32_ld _ _ _) ?_ ?_
  · refine w_iload_n rfl rfl ?_
    refine w_if_ne (tg := 20) rfl rfl rfl ?_ ?_
    · refine w_iload_n rfl rfl ?_
      refine w_iconst rfl ?_
      refine w_icmp_ne (tg := 32) rfl rfl rfl rfl ?_ ?_
      · refine w_iload_n rfl rfl ?_
        refine w_iconst rfl ?_
        refine w_icmp_ne (tg := 44) rfl rfl rfl rfl ?_ ?_
        · refine w_iconst rfl ?_
          exact w_retv rfl rfl
        · refine w_aload_n rfl rfl ?_
          refine w_gfi rfl rfl (Nat.le_of_ble_eq_true rfl) rfl rfl ?_
          refine w_goto (tg := 45) rfl rfl ?_
          exact w_retv rfl rfl
      · refine w_aload_n rfl rfl ?_
        refine w_gfi rfl rfl (Nat.le_of_ble_eq_true rfl) rfl rfl ?_
        refine w_goto (tg := 45) rfl rfl ?_
        exact w_retv rfl rfl
    · refine w_aload_n rfl rfl ?_
      refine w_gfi rfl rfl (Nat.le_of_ble_eq_true rfl) rfl rfl ?_
      refine w_goto (tg := 45) rfl rfl ?_
      exact w_retv rfl rfl
  · refine w_iconst rfl ?_
    exact w_retv rfl rfl
theorem s_r_areDoors {d : Nat} {v1 : Int} {m : xm} (hd : 1 ≤ d) : xw (am_E L xs bz) d am_m266 1 0 [(0, .ref 78), (1, .int (i32 v1))] [] m (r_areDoors v1 m) := by
  unfold r_areDoors
  refine w_iload_n rfl rfl ?_
  refine w_i2l (x' := w32 v1) rfl rfl ?_
  refine w_lconst (z := 0) rfl rfl ?_
  refine w_iconst rfl ?_
  refine w_aload_n rfl rfl ?_
  show xw _ _ _ _ 5 _ _ _ _
  refine w_call1 [.ref 78] [.int (i32 1), .long (i64 0), .long (i64 (w32 v1))] (by omega) rfl rfl rfl rfl rfl rfl (Nat.le_of_ble_eq_true rfl) (fun _ => xrc_ok rfl) (Nat.le_of_ble_eq_true rfl) rfl rfl (s_r_doorMany (by omega)) (fun r1 m2 => ?_)
  refine w_ishl rfl ?_
  refine w_iconst rfl ?_
  refine w_isub rfl ?_
  refine w_i2l (x' := w32 ((shl 1 r1) - 1)) rfl rfl ?_
  refine w_call1 [.long (i64 (w32 v1)), .long (i64 0), .long (i64 (w32 ((shl 1 r1) - 1)))] [] (by omega) rfl rfl rfl rfl rfl rfl (Nat.le_of_ble_eq_true rfl) (fun z => by cases z) (Nat.le_of_ble_eq_true rfl) rfl rfl (s_r_isIn (by omega)) (fun r3 m4 => ?_)
  show xw _ _ _ _ 15 _ _ _ _
  exact w_retb rfl rfl
theorem s_r_wardWays_4 {d : Nat} (hd : 1 ≤ d) : ∀ (n : Nat) {v1 : Int} {v2 : Int} {m : xm}, xw (am_E L xs bz) d am_m269 1 4 [(0, .ref 78), (1, .int (i32 v1)), (2, .int (i32 v2))] [] m (r_wardWays_4 n v1 v2 m) := by
  intro n
  induction n with
  | zero => intros; exact w_none
  | succ n ih =>
    intro v1 v2 m
    have hk4 := fun (v1 v2 : Int) (m : xm) => @ih v1 v2 m
    unfold r_wardWays_4
    refine w_iload_n rfl rfl ?_
    refine w_aload_n rfl rfl ?_
    refine w_call1 [.ref 78] [.int (i32 v2)] (by omega) rfl rfl rfl rfl rfl rfl (Nat.le_of_ble_eq_true rfl) (fun _ => xrc_ok rfl) (Nat.le_of_ble_eq_true rfl) rfl rfl (s_r_lockMany (by omega)) (fun r1 m2 => ?_)
    refine w_icmp_ge (tg := 26) rfl rfl rfl rfl ?_ ?_
    · refine w_iload_n rfl rfl ?_
      exact w_retv rfl rfl
    · refine w_iload_n rfl rfl ?_
      refine w_aload_n rfl rfl ?_
      refine w_iload_n rfl rfl ?_
      refine w_call1 [.ref 78, .int (i32 v2)] [.int (i32 v1)] (by omega) rfl rfl rfl rfl rfl rfl (Nat.le_of_ble_eq_true rfl) (fun _ => xrc_ok rfl) (Nat.le_of_ble_eq_true rfl) rfl rfl (s_r_wardsOf (by omega)) (fun r3 m4 => ?_)
      refine w_imul rfl ?_
      show xw _ _ _ _ 19 _ _ _ _
      refine w_letI (fun x5 => ?_)
      refine w_istore_n (lsd := [(1, .int (i32 x5)), (0, .ref 78), (2, .int (i32 v2))]) rfl (Nat.le_of_ble_eq_true rfl) rfl ?_
      refine w_iinc (lsd := [(2, .int (i32 (v2 + 1))), (1, .int (i32 x5)), (0, .ref 78)]) rfl (Nat.le_of_ble_eq_true rfl) rfl rfl ?_
      refine w_goto (tg := 4) rfl rfl ?_
      exact w_weak [(0, .ref 78), (1, .int (i32 x5)), (2, .int (i32 (v2 + 1)))] rfl ⟨rfl, rfl, rfl, trivial⟩ (hk4 x5 (v2 + 1) m4)
theorem s_r_wardWays {d : Nat} {m : xm} (hd : 1 ≤ d) : xw (am_E L xs bz) d am_m269 1 0 [(0, .ref 78)] [] m (r_wardWays m) := by
  unfold r_wardWays
  refine w_iconst rfl ?_
  refine w_istore_n (lsd := [(1, .int (i32 1)), (0, .ref 78)]) rfl (Nat.le_of_ble_eq_true rfl) rfl ?_
  refine w_iconst rfl ?_
  refine w_istore_n (lsd := [(2, .int (i32 0)), (1, .int (i32 1)), (0, .ref 78)]) rfl (Nat.le_of_ble_eq_true rfl) rfl ?_
  exact w_weak [(0, .ref 78), (1, .int (i32 1)), (2, .int (i32 0))] rfl ⟨rfl, rfl, rfl, trivial⟩ (s_r_wardWays_4 (by omega) _)
theorem s_r_stateNow_33 {d : Nat} (hd : 2 ≤ d) {v1 : Int} {m : xm} : xw (am_E L xs bz) d am_m268 1 33 [(0, .ref 78), (1, .int (i32 v1))] [] m (r_stateNow_33 v1 m) := by
  unfold r_stateNow_33
  refine w_iload_n rfl rfl ?_
  refine w_aload_n rfl rfl ?_
  refine w_call1 [.ref 78] [.int (i32 v1)] (by omega) rfl rfl rfl rfl rfl rfl (Nat.le_of_ble_eq_true rfl) (fun _ => xrc_ok rfl) (Nat.le_of_ble_eq_true rfl) rfl rfl (s_r_wardWays (by omega)) (fun r1 m2 => ?_)
  refine w_aload_n rfl rfl ?_
  refine w_call1 [.ref 78] [.int (i32 r1), .int (i32 v1)] (by omega) rfl rfl rfl rfl rfl rfl (Nat.le_of_ble_eq_true rfl) (fun _ => xrc_ok rfl) (Nat.le_of_ble_eq_true rfl) rfl rfl (s_r_jammedNow (by omega)) (fun r3 m4 => ?_)
  show xw _ _ _ _ 42 _ _ _ _
  refine w_imul rfl ?_
  refine w_iadd rfl ?_
  exact w_retv rfl rfl
theorem s_r_stateNow_9 {d : Nat} (hd : 2 ≤ d) : ∀ (n : Nat) {v1 : Int} {v2 : Int} {m : xm}, xw (am_E L xs bz) d am_m268 1 9 [(0, .ref 78), (1, .int (i32 v1)), (2, .int (i32 v2))] [] m (r_stateNow_9 n v1 v2 m) := by
  intro n
  induction n with
  | zero => intros; exact w_none
  | succ n ih =>
    intro v1 v2 m
    have hk9 := fun (v1 v2 : Int) (m : xm) => @ih v1 v2 m
    unfold r_stateNow_9
    refine w_iload_n rfl rfl ?_
    refine w_if_lt (tg := 33) rfl rfl rfl ?_ ?_
    · exact w_weak [(0, .ref 78), (1, .int (i32 v1))] rfl ⟨rfl, rfl, trivial⟩ (s_r_stateNow_33 (by omega))
    · refine w_iload_n rfl rfl ?_
      refine w_aload_n rfl rfl ?_
      refine w_iload_n rfl rfl ?_
      refine w_call1 [.ref 78, .int (i32 v2)] [.int (i32 v1)] (by omega) rfl rfl rfl rfl rfl rfl (Nat.le_of_ble_eq_true rfl) (fun _ => xrc_ok rfl) (Nat.le_of_ble_eq_true rfl) rfl rfl (s_r_wardsOf (by omega)) (fun r1 m2 => ?_)
      refine w_imul rfl ?_
      show xw _ _ _ _ 20 _ _ _ _
      refine w_aload_n rfl rfl ?_
      refine w_iload_n rfl rfl ?_
      refine w_call1 [.ref 78, .int (i32 v2)] [.int (i32 (v1 * r1))] (by omega) rfl rfl rfl rfl rfl rfl (Nat.le_of_ble_eq_true rfl) (fun _ => xrc_ok rfl) (Nat.le_of_ble_eq_true rfl) rfl rfl (s_r_wardNow (by omega)) (fun r3 m4 => ?_)
      refine w_iadd rfl ?_
      refine w_letI (fun x5 => ?_)
      refine w_istore_n (lsd := [(1, .int (i32 x5)), (0, .ref 78), (2, .int (i32 v2))]) rfl (Nat.le_of_ble_eq_true rfl) rfl ?_
      refine w_iinc (lsd := [(2, .int (i32 (v2 + (-1)))), (1, .int (i32 x5)), (0, .ref 78)]) rfl (Nat.le_of_ble_eq_true rfl) rfl rfl ?_
      show xw _ _ _ _ 30 _ _ _ _
      refine w_goto (tg := 9) rfl rfl ?_
      exact w_weak [(0, .ref 78), (1, .int (i32 x5)), (2, .int (i32 (v2 + (-1))))] rfl ⟨rfl, rfl, rfl, trivial⟩ (hk9 x5 (v2 + (-1)) m4)
theorem s_r_stateNow {d : Nat} {m : xm} (hd : 2 ≤ d) : xw (am_E L xs bz) d am_m268 1 0 [(0, .ref 78)] [] m (r_stateNow m) := by
  unfold r_stateNow
  refine w_iconst rfl ?_
  refine w_istore_n (lsd := [(1, .int (i32 0)), (0, .ref 78)]) rfl (Nat.le_of_ble_eq_true rfl) rfl ?_
  refine w_aload_n rfl rfl ?_
  refine w_call1 [.ref 78] [] (by omega) rfl rfl rfl rfl rfl rfl (Nat.le_of_ble_eq_true rfl) (fun _ => xrc_ok rfl) (Nat.le_of_ble_eq_true rfl) rfl rfl (s_r_lockMany (by omega)) (fun r1 m2 => ?_)
  refine w_iconst rfl ?_
  show xw _ _ _ _ 7 _ _ _ _
  refine w_isub rfl ?_
  refine w_letI (fun x3 => ?_)
  refine w_istore_n (lsd := [(2, .int (i32 x3)), (1, .int (i32 0)), (0, .ref 78)]) rfl (Nat.le_of_ble_eq_true rfl) rfl ?_
  exact w_weak [(0, .ref 78), (1, .int (i32 0)), (2, .int (i32 x3))] rfl ⟨rfl, rfl, rfl, trivial⟩ (s_r_stateNow_9 (by omega) _)
theorem s_r_isState_46 {d : Nat} (hd : 2 ≤ d) {v1 : Int} {m : xm} : xw (am_E L xs bz) d am_m270 0 46 [(0, .ref 78), (1, .int (i32 v1))] [] m (r_isState_46 v1 m) := by
  unfold r_isState_46
  refine w_aload_n rfl rfl ?_
  refine w_gfr (r := 110) rfl rfl (Nat.le_of_ble_eq_true rfl) rfl rfl ?_
  refine w_iconst rfl ?_
  refine w_iload_n rfl rfl ?_
  refine w_aload_n rfl rfl ?_
  show xw _ _ _ _ 53 _ _ _ _
  refine w_call1 [.ref 78] [.int (i32 v1), .int (i32 5), .ref 110] (by omega) rfl rfl rfl rfl rfl rfl (Nat.le_of_ble_eq_true rfl) (fun _ => xrc_ok rfl) (Nat.le_of_ble_eq_true rfl) rfl rfl (s_r_wardWays (by omega)) (fun r1 m2 => ?_)
  refine w_idiv rfl rfl ?_
  refine w_iastore rfl rfl (fun m3 => ?_)
  exact w_retv (x := 0) rfl rfl
theorem s_r_isState_9 {d : Nat} (hd : 2 ≤ d) : ∀ (n : Nat) {v1 : Int} {v2 : Int} {v3 : Int} {m : xm}, xw (am_E L xs bz) d am_m270 0 9 [(0, .ref 78), (1, .int (i32 v1)), (2, .int (i32 v2)), (3, .int (i32 v3))] [] m (r_isState_9 n v1 v2 v3 m) := by
  intro n
  induction n with
  | zero => intros; exact w_none
  | succ n ih =>
    intro v1 v2 v3 m
    have hk9 := fun (v1 v2 v3 : Int) (m : xm) => @ih v1 v2 v3 m
    unfold r_isState_9
    refine w_iload_n rfl rfl ?_
    refine w_aload_n rfl rfl ?_
    refine w_call1 [.ref 78] [.int (i32 v3)] (by omega) rfl rfl rfl rfl rfl rfl (Nat.le_of_ble_eq_true rfl) (fun _ => xrc_ok rfl) (Nat.le_of_ble_eq_true rfl) rfl rfl (s_r_lockMany (by omega)) (fun r1 m2 => ?_)
    refine w_icmp_ge (tg := 46) rfl rfl rfl rfl ?_ ?_
    · exact w_weak [(0, .ref 78), (1, .int (i32 v1))] rfl ⟨rfl, rfl, trivial⟩ (s_r_isState_46 (by omega))
    · refine w_aload_n rfl rfl ?_
      refine w_gfr (r := 110) rfl rfl (Nat.le_of_ble_eq_true rfl) rfl rfl ?_
      refine w_iconst rfl ?_
      refine w_iload_n rfl rfl ?_
      refine w_iadd rfl ?_
      show xw _ _ _ _ 24 _ _ _ _
      refine w_iload_n rfl rfl ?_
      refine w_aload_n rfl rfl ?_
      refine w_iload_n rfl rfl ?_
      refine w_call1 [.ref 78, .int (i32 v3)] [.int (i32 v2), .int (i32 (1 + v3)), .ref 110] (by omega) rfl rfl rfl rfl rfl rfl (Nat.le_of_ble_eq_true rfl) (fun _ => xrc_ok rfl) (Nat.le_of_ble_eq_true rfl) rfl rfl (s_r_wardsOf (by omega)) (fun r3 m4 => ?_)
      refine w_irem rfl rfl ?_
      refine w_iastore rfl rfl (fun m5 => ?_)
      show xw _ _ _ _ 32 _ _ _ _
      refine w_iload_n rfl rfl ?_
      refine w_aload_n rfl rfl ?_
      refine w_iload_n rfl rfl ?_
      refine w_call1 [.ref 78, .int (i32 v3)] [.int (i32 v2)] (by omega) rfl rfl rfl rfl rfl rfl (Nat.le_of_ble_eq_true rfl) (fun _ => xrc_ok rfl) (Nat.le_of_ble_eq_true rfl) rfl rfl (s_r_wardsOf (by omega)) (fun r6 m7 => ?_)
      refine w_idiv rfl rfl ?_
      refine w_letI (fun x8 => ?_)
      refine w_istore_n (lsd := [(2, .int (i32 x8)), (0, .ref 78), (1, .int (i32 v1)), (3, .int (i32 v3))]) rfl (Nat.le_of_ble_eq_true rfl) rfl ?_
      show xw _ _ _ _ 40 _ _ _ _
      refine w_iinc (lsd := [(3, .int (i32 (v3 + 1))), (2, .int (i32 x8)), (0, .ref 78), (1, .int (i32 v1))]) rfl (Nat.le_of_ble_eq_true rfl) rfl rfl ?_
      refine w_goto (tg := 9) rfl rfl ?_
      exact w_weak [(0, .ref 78), (1, .int (i32 v1)), (2, .int (i32 x8)), (3, .int (i32 (v3 + 1)))] rfl ⟨rfl, rfl, rfl, rfl, trivial⟩ (hk9 v1 x8 (v3 + 1) m7)
theorem s_r_isState {d : Nat} {v1 : Int} {m : xm} (hd : 2 ≤ d) : xw (am_E L xs bz) d am_m270 0 0 [(0, .ref 78), (1, .int (i32 v1))] [] m (r_isState v1 m) := by
  unfold r_isState
  refine w_iload_n rfl rfl ?_
  refine w_aload_n rfl rfl ?_
  refine w_call1 [.ref 78] [.int (i32 v1)] (by omega) rfl rfl rfl rfl rfl rfl (Nat.le_of_ble_eq_true rfl) (fun _ => xrc_ok rfl) (Nat.le_of_ble_eq_true rfl) rfl rfl (s_r_wardWays (by omega)) (fun r1 m2 => ?_)
  refine w_irem rfl rfl ?_
  refine w_letI (fun x3 => ?_)
  refine w_istore_n (lsd := [(2, .int (i32 x3)), (0, .ref 78), (1, .int (i32 v1))]) rfl (Nat.le_of_ble_eq_true rfl) rfl ?_
  show xw _ _ _ _ 7 _ _ _ _
  refine w_iconst rfl ?_
  refine w_istore_n (lsd := [(3, .int (i32 0)), (2, .int (i32 x3)), (0, .ref 78), (1, .int (i32 v1))]) rfl (Nat.le_of_ble_eq_true rfl) rfl ?_
  exact w_weak [(0, .ref 78), (1, .int (i32 v1)), (2, .int (i32 x3)), (3, .int (i32 0))] rfl ⟨rfl, rfl, rfl, rfl, trivial⟩ (s_r_isState_9 (by omega) _)
theorem s_r_isAsTold_37 {d : Nat} (hd : 1 ≤ d) {m : xm} : xw (am_E L xs bz) d am_m272 1 37 [(0, .ref 78)] [] m (r_isAsTold_37 m) := by
  unfold r_isAsTold_37
  refine w_aload_n rfl rfl ?_
  refine w_call1 [.ref 78] [] (by omega) rfl rfl rfl rfl rfl rfl (Nat.le_of_ble_eq_true rfl) (fun _ => xrc_ok rfl) (Nat.le_of_ble_eq_true rfl) rfl rfl (s_r_jammedNow (by omega)) (fun r1 m2 => ?_)
  refine w_if_ne (tg := 48) rfl rfl rfl ?_ ?_
  · refine w_iconst rfl ?_
    exact w_retv rfl rfl
  · refine w_iconst rfl ?_
    refine w_goto (tg := 49) rfl rfl ?_
    exact w_retv rfl rfl
theorem s_r_isAsTold_2 {d : Nat} (hd : 1 ≤ d) : ∀ (n : Nat) {v1 : Int} {m : xm}, xw (am_E L xs bz) d am_m272 1 2 [(0, .ref 78), (1, .int (i32 v1))] [] m (r_isAsTold_2 n v1 m) := by
  intro n
  induction n with
  | zero => intros; exact w_none
  | succ n ih =>
    intro v1 m
    have hk2 := fun (v1 : Int) (m : xm) => @ih v1 m
    unfold r_isAsTold_2
    refine w_iload_n rfl rfl ?_
    refine w_aload_n rfl rfl ?_
    refine w_call1 [.ref 78] [.int (i32 v1)] (by omega) rfl rfl rfl rfl rfl rfl (Nat.le_of_ble_eq_true rfl) (fun _ => xrc_ok rfl) (Nat.le_of_ble_eq_true rfl) rfl rfl (s_r_lockMany (by omega)) (fun r1 m2 => ?_)
    refine w_icmp_ge (tg := 37) rfl rfl rfl rfl ?_ ?_
    · exact w_weak [(0, .ref 78)] rfl ⟨rfl, trivial⟩ (s_r_isAsTold_37 (by omega))
    · refine w_aload_n rfl rfl ?_
      refine w_iload_n rfl rfl ?_
      refine w_call1 [.ref 78, .int (i32 v1)] [] (by omega) rfl rfl rfl rfl rfl rfl (Nat.le_of_ble_eq_true rfl) (fun _ => xrc_ok rfl) (Nat.le_of_ble_eq_true rfl) rfl rfl (s_r_wardNow (by omega)) (fun r3 m4 => ?_)
      refine w_aload_n rfl rfl ?_
      refine w_gfr (r := 103) rfl rfl (Nat.le_of_ble_eq_true rfl) rfl rfl ?_
      show xw _ _ _ _ 19 _ _ _ _
      refine w_bipush rfl rfl ?_
      refine w_iconst rfl ?_
      refine w_iload_n rfl rfl ?_
      refine w_imul rfl ?_
      refine w_iadd rfl ?_
      refine w_iaload rfl rfl (fun x5 => ?_)
      show xw _ _ _ _ 26 _ _ _ _
      refine w_icmp_eq (tg := 31) rfl rfl rfl rfl ?_ ?_
      · refine w_iinc (lsd := [(1, .int (i32 (v1 + 1))), (0, .ref 78)]) rfl (Nat.le_of_ble_eq_true rfl) rfl rfl ?_
        refine w_goto (tg := 2) rfl rfl ?_
        exact w_weak [(0, .ref 78), (1, .int (i32 (v1 + 1)))] rfl ⟨rfl, rfl, trivial⟩ (hk2 (v1 + 1) m4)
      · refine w_iconst rfl ?_
        exact w_retv rfl rfl
theorem s_r_isAsTold {d : Nat} {m : xm} (hd : 1 ≤ d) : xw (am_E L xs bz) d am_m272 1 0 [(0, .ref 78)] [] m (r_isAsTold m) := by
  unfold r_isAsTold
  refine w_iconst rfl ?_
  refine w_istore_n (lsd := [(1, .int (i32 0)), (0, .ref 78)]) rfl (Nat.le_of_ble_eq_true rfl) rfl ?_
  exact w_weak [(0, .ref 78), (1, .int (i32 0))] rfl ⟨rfl, rfl, trivial⟩ (s_r_isAsTold_2 (by omega) _)
theorem s_r_isThere {d : Nat} {v1 : Int} {v2 : Int} {m : xm} (hd : 5 ≤ d) : xw (am_E L xs bz) d am_m271 1 0 [(0, .ref 78), (1, .int (i32 v1)), (2, .int (i32 v2))] [] m (r_isThere v1 v2 m) := by
  unfold r_isThere
  refine w_iload_n rfl rfl ?_
  refine w_tsw (t0 := 64) (fs := [27, 41, 58]) rfl rfl rfl rfl rfl ?_ ?_
  · refine w_iconst rfl ?_
    exact w_retv rfl rfl
  · refine ⟨⟨28, rfl, ?_⟩, ⟨42, rfl, ?_⟩, ⟨59, rfl, ?_⟩, trivial⟩
    · refine w_aload_n rfl rfl ?_
      refine w_call1 [.ref 78] [] (by omega) rfl rfl rfl rfl rfl rfl (Nat.le_of_ble_eq_true rfl) (fun _ => xrc_ok rfl) (Nat.le_of_ble_eq_true rfl) rfl rfl (s_r_openNow (by omega)) (fun r1 m2 => ?_)
      refine w_iload_n rfl rfl ?_
      refine w_icmp_ne (tg := 40) rfl rfl rfl rfl ?_ ?_
      · refine w_iconst rfl ?_
        exact w_retv rfl rfl
      · refine w_iconst rfl ?_
        refine w_goto (tg := 41) rfl rfl ?_
        exact w_retv rfl rfl
    · refine w_iload_n rfl rfl ?_
      refine w_aload_n rfl rfl ?_
      refine w_call1 [.ref 78] [.int (i32 v2)] (by omega) rfl rfl rfl rfl rfl rfl (Nat.le_of_ble_eq_true rfl) (fun _ => xrc_ok rfl) (Nat.le_of_ble_eq_true rfl) rfl rfl (s_r_openNow (by omega)) (fun r3 m4 => ?_)
      refine w_iconst rfl ?_
      refine w_ixor rfl ?_
      show xw _ _ _ _ 49 _ _ _ _
      refine w_iand rfl ?_
      refine w_if_ne (tg := 57) rfl rfl (w32_of _) ?_ ?_
      · refine w_iconst rfl ?_
        exact w_retv rfl rfl
      · refine w_iconst rfl ?_
        refine w_goto (tg := 58) rfl rfl ?_
        exact w_retv rfl rfl
    · refine w_aload_n rfl rfl ?_
      refine w_call1 [.ref 78] [] (by omega) rfl rfl rfl rfl rfl rfl (Nat.le_of_ble_eq_true rfl) (fun _ => xrc_ok rfl) (Nat.le_of_ble_eq_true rfl) rfl rfl (s_r_isAsTold (by omega)) (fun r5 m6 => ?_)
      exact w_retb rfl rfl
theorem s_r_comesTo {d : Nat} {v1 : Int} {v2 : Int} {m : xm} (hd : 3 ≤ d) : xw (am_E L xs bz) d am_m273 0 0 [(0, .ref 78), (1, .int (i32 v1)), (2, .int (i32 v2))] [] m (r_comesTo v1 v2 m) := by
  unfold r_comesTo
  refine w_aload_n rfl rfl ?_
  refine w_call1 [.ref 78] [] (by omega) rfl rfl rfl rfl rfl rfl (Nat.le_of_ble_eq_true rfl) (fun _ => xrc_ok rfl) (Nat.le_of_ble_eq_true rfl) rfl rfl (s_r_stateNow (by omega)) (fun r1 m2 => ?_)
  refine w_istore_n (lsd := [(3, .int (i32 r1)), (0, .ref 78), (1, .int (i32 v1)), (2, .int (i32 v2))]) rfl (Nat.le_of_ble_eq_true rfl) rfl ?_
  refine w_aload_n rfl rfl ?_
  refine w_gfr (r := 113) rfl rfl (Nat.le_of_ble_eq_true rfl) rfl rfl ?_
  show xw _ _ _ _ 9 _ _ _ _
  refine w_iload_n rfl rfl ?_
  refine w_iaload rfl rfl (fun x3 => ?_)
  refine w_iconst rfl ?_
  refine w_icmp_eq (tg := 16) rfl rfl rfl rfl ?_ ?_
  · refine w_aload_n rfl rfl ?_
    refine w_gfr (r := 113) rfl rfl (Nat.le_of_ble_eq_true rfl) rfl rfl ?_
    refine w_iload_n rfl rfl ?_
    refine w_aload_n rfl rfl ?_
    refine w_gfr (r := 113) rfl rfl (Nat.le_of_ble_eq_true rfl) rfl rfl ?_
    show xw _ _ _ _ 25 _ _ _ _
    refine w_iload_n rfl rfl ?_
    refine w_iaload rfl rfl (fun x4 => ?_)
    refine w_iconst rfl ?_
    refine w_iadd rfl ?_
    refine w_iastore rfl rfl (fun m5 => ?_)
    refine w_aload_n rfl rfl ?_
    show xw _ _ _ _ 31 _ _ _ _
    refine w_gfr (r := 114) rfl rfl (Nat.le_of_ble_eq_true rfl) rfl rfl ?_
    refine w_iload_n rfl rfl ?_
    refine w_iload_n rfl rfl ?_
    refine w_iastore rfl rfl (fun m6 => ?_)
    refine w_aload_n rfl rfl ?_
    refine w_gfr (r := 115) rfl rfl (Nat.le_of_ble_eq_true rfl) rfl rfl ?_
    show xw _ _ _ _ 41 _ _ _ _
    refine w_iload_n rfl rfl ?_
    refine w_iload_n rfl rfl ?_
    refine w_iastore rfl rfl (fun m7 => ?_)
    refine w_aload_n rfl rfl ?_
    refine w_gfr (r := 116) rfl rfl (Nat.le_of_ble_eq_true rfl) rfl rfl ?_
    refine w_aload_n rfl rfl ?_
    show xw _ _ _ _ 49 _ _ _ _
    refine w_gfi rfl rfl (Nat.le_of_ble_eq_true rfl) rfl rfl ?_
    refine w_iload_n rfl rfl ?_
    refine w_iastore rfl rfl (fun m8 => ?_)
    refine w_aload_n rfl rfl ?_
    refine w_dup rfl rfl ?_
    refine w_gfi rfl rfl (Nat.le_of_ble_eq_true rfl) rfl rfl ?_
    show xw _ _ _ _ 59 _ _ _ _
    refine w_iconst rfl ?_
    refine w_iadd rfl ?_
    refine w_pfi rfl rfl (Nat.le_of_ble_eq_true rfl) rfl rfl rfl (fun m9 => ?_)
    exact w_retv (x := 0) rfl rfl
  · exact w_retv (x := 0) rfl rfl
theorem s_r_seeks_184 {d : Nat} (hd : 6 ≤ d) {v4 : Int} {v5 : Int} {m : xm} : xw (am_E L xs bz) d am_m267 1 184 [(0, .ref 78), (4, .int (i32 v4)), (5, .int (i32 v5))] [] m (r_seeks_184 v4 v5 m) := by
  unfold r_seeks_184
  refine w_aload_n rfl rfl ?_
  refine w_iload rfl rfl ?_
  refine w_call0 [.ref 78, .int (i32 v4)] [] (by omega) rfl rfl rfl rfl rfl rfl (Nat.le_of_ble_eq_true rfl) (fun _ => xrc_ok rfl) (Nat.le_of_ble_eq_true rfl) rfl rfl (s_r_isState (by omega)) (fun r1 m2 => ?_)
  refine w_iload rfl rfl ?_
  exact w_retv rfl rfl
theorem s_r_seeks_178 {d : Nat} {k58 : Int → Int → Int → Int → Int → Int → xm → xr} (hd : 6 ≤ d) (hk58 : ∀ (v1 v2 v3 v4 v5 v6 : Int) (m : xm), xw (am_E L xs bz) d am_m267 1 58 [(0, .ref 78), (1, .int (i32 v1)), (2, .int (i32 v2)), (3, .int (i32 v3)), (4, .int (i32 v4)), (5, .int (i32 v5)), (6, .int (i32 v6))] [] m (k58 v1 v2 v3 v4 v5 v6 m)) {v1 : Int} {v2 : Int} {v3 : Int} {v4 : Int} {v5 : Int} {v6 : Int} {m : xm} : xw (am_E L xs bz) d am_m267 1 178 [(0, .ref 78), (1, .int (i32 v1)), (2, .int (i32 v2)), (3, .int (i32 v3)), (4, .int (i32 v4)), (5, .int (i32 v5)), (6, .int (i32 v6))] [] m (r_seeks_178 k58 v1 v2 v3 v4 v5 v6 m) := by
  unfold r_seeks_178
  refine w_iinc (lsd := [(6, .int (i32 (v6 + 1))), (0, .ref 78), (1, .int (i32 v1)), (2, .int (i32 v2)), (3, .int (i32 v3)), (4, .int (i32 v4)), (5, .int (i32 v5))]) rfl (Nat.le_of_ble_eq_true rfl) rfl rfl ?_
  refine w_goto (tg := 58) rfl rfl ?_
  exact w_weak [(0, .ref 78), (1, .int (i32 v1)), (2, .int (i32 v2)), (3, .int (i32 v3)), (4, .int (i32 v4)), (5, .int (i32 v5)), (6, .int (i32 (v6 + 1)))] rfl ⟨rfl, rfl, rfl, rfl, rfl, rfl, rfl, trivial⟩ (hk58 v1 v2 v3 v4 v5 (v6 + 1) m)
theorem s_r_seeks_172 {d : Nat} {k58 : Int → Int → Int → Int → Int → Int → xm → xr} {k105 : Int → Int → Int → Int → Int → Int → Int → xm → xr} (hd : 6 ≤ d) (hk58 : ∀ (v1 v2 v3 v4 v5 v6 : Int) (m : xm), xw (am_E L xs bz) d am_m267 1 58 [(0, .ref 78), (1, .int (i32 v1)), (2, .int (i32 v2)), (3, .int (i32 v3)), (4, .int (i32 v4)), (5, .int (i32 v5)), (6, .int (i32 v6))] [] m (k58 v1 v2 v3 v4 v5 v6 m)) (hk105 : ∀ (v1 v2 v3 v4 v5 v6 v7 : Int) (m : xm), xw (am_E L xs bz) d am_m267 1 105 [(0, .ref 78), (1, .int (i32 v1)), (2, .int (i32 v2)), (3, .int (i32 v3)), (4, .int (i32 v4)), (5, .int (i32 v5)), (6, .int (i32 v6)), (7, .int (i32 v7))] [] m (k105 v1 v2 v3 v4 v5 v6 v7 m)) {v1 : Int} {v2 : Int} {v3 : Int} {v4 : Int} {v5 : Int} {v6 : Int} {v7 : Int} {m : xm} : xw (am_E L xs bz) d am_m267 1 172 [(0, .ref 78), (1, .int (i32 v1)), (2, .int (i32 v2)), (3, .int (i32 v3)), (4, .int (i32 v4)), (5, .int (i32 v5)), (6, .int (i32 v6)), (7, .int (i32 v7))] [] m (r_seeks_172 k58 k105 v1 v2 v3 v4 v5 v6 v7 m) := by
  unfold r_seeks_172
  refine w_iinc (lsd := [(7, .int (i32 (v7 + 1))), (0, .ref 78), (1, .int (i32 v1)), (2, .int (i32 v2)), (3, .int (i32 v3)), (4, .int (i32 v4)), (5, .int (i32 v5)), (6, .int (i32 v6))]) rfl (Nat.le_of_ble_eq_true rfl) rfl rfl ?_
  refine w_goto (tg := 105) rfl rfl ?_
  exact w_weak [(0, .ref 78), (1, .int (i32 v1)), (2, .int (i32 v2)), (3, .int (i32 v3)), (4, .int (i32 v4)), (5, .int (i32 v5)), (6, .int (i32 v6)), (7, .int (i32 (v7 + 1)))] rfl ⟨rfl, rfl, rfl, rfl, rfl, rfl, rfl, rfl, trivial⟩ (hk105 v1 v2 v3 v4 v5 v6 (v7 + 1) m)
theorem s_r_seeks_105 {d : Nat} {k58 : Int → Int → Int → Int → Int → Int → xm → xr} (hd : 6 ≤ d) (hk58 : ∀ (v1 v2 v3 v4 v5 v6 : Int) (m : xm), xw (am_E L xs bz) d am_m267 1 58 [(0, .ref 78), (1, .int (i32 v1)), (2, .int (i32 v2)), (3, .int (i32 v3)), (4, .int (i32 v4)), (5, .int (i32 v5)), (6, .int (i32 v6))] [] m (k58 v1 v2 v3 v4 v5 v6 m)) : ∀ (n : Nat) {v1 : Int} {v2 : Int} {v3 : Int} {v4 : Int} {v5 : Int} {v6 : Int} {v7 : Int} {m : xm}, xw (am_E L xs bz) d am_m267 1 105 [(0, .ref 78), (1, .int (i32 v1)), (2, .int (i32 v2)), (3, .int (i32 v3)), (4, .int (i32 v4)), (5, .int (i32 v5)), (6, .int (i32 v6)), (7, .int (i32 v7))] [] m (r_seeks_105 k58 n v1 v2 v3 v4 v5 v6 v7 m) := by
  intro n
  induction n with
  | zero => intros; exact w_none
  | succ n ih =>
    intro v1 v2 v3 v4 v5 v6 v7 m
    have hk105 := fun (v1 v2 v3 v4 v5 v6 v7 : Int) (m : xm) => @ih v1 v2 v3 v4 v5 v6 v7 m
    unfold r_seeks_105
    refine w_iload rfl rfl ?_
    refine w_aload_n rfl rfl ?_
    refine w_call1 [.ref 78] [.int (i32 v7)] (by omega) rfl rfl rfl rfl rfl rfl (Nat.le_of_ble_eq_true rfl) (fun _ => xrc_ok rfl) (Nat.le_of_ble_eq_true rfl) rfl rfl (s_r_noteMany (by omega)) (fun r1 m2 => ?_)
    refine w_icmp_ge (tg := 178) rfl rfl rfl rfl ?_ ?_
    · exact w_weak [(0, .ref 78), (1, .int (i32 v1)), (2, .int (i32 v2)), (3, .int (i32 v3)), (4, .int (i32 v4)), (5, .int (i32 v5)), (6, .int (i32 v6))] rfl ⟨rfl, rfl, rfl, rfl, rfl, rfl, rfl, trivial⟩ (s_r_seeks_178 (by omega) hk58)
    · refine w_iload rfl rfl ?_
      refine w_iconst rfl ?_
      refine w_icmp_ne (tg := 178) rfl rfl rfl rfl ?_ ?_
      · exact w_weak [(0, .ref 78), (1, .int (i32 v1)), (2, .int (i32 v2)), (3, .int (i32 v3)), (4, .int (i32 v4)), (5, .int (i32 v5)), (6, .int (i32 v6))] rfl ⟨rfl, rfl, rfl, rfl, rfl, rfl, rfl, trivial⟩ (s_r_seeks_178 (by omega) hk58)
      · refine w_iload_n rfl rfl ?_
        refine w_iload rfl rfl ?_
        refine w_ishr rfl ?_
        refine w_iconst rfl ?_
        refine w_iand rfl ?_
        show xw _ _ _ _ 126 _ _ _ _
        refine w_iconst rfl ?_
        refine w_icmp_eq (tg := 172) rfl rfl (w32_of _) rfl ?_ ?_
        · exact w_weak [(0, .ref 78), (1, .int (i32 v1)), (2, .int (i32 v2)), (3, .int (i32 v3)), (4, .int (i32 v4)), (5, .int (i32 v5)), (6, .int (i32 v6)), (7, .int (i32 v7))] rfl ⟨rfl, rfl, rfl, rfl, rfl, rfl, rfl, rfl, trivial⟩ (s_r_seeks_172 (by omega) hk58 hk105)
        · refine w_aload_n rfl rfl ?_
          refine w_iload rfl rfl ?_
          refine w_call1 [.ref 78, .int (i32 v7)] [] (by omega) rfl rfl rfl rfl rfl rfl (Nat.le_of_ble_eq_true rfl) (fun _ => xrc_ok rfl) (Nat.le_of_ble_eq_true rfl) rfl rfl (s_r_canPlay (by omega)) (fun r3 m4 => ?_)
          refine w_if_ne (tg := 142) rfl rfl rfl ?_ ?_
          · refine w_aload_n rfl rfl ?_
            refine w_iload rfl rfl ?_
            refine w_call0 [.ref 78, .int (i32 v7)] [] (by omega) rfl rfl rfl rfl rfl rfl (Nat.le_of_ble_eq_true rfl) (fun _ => xrc_ok rfl) (Nat.le_of_ble_eq_true rfl) rfl rfl (s_r_turns (by omega)) (fun r5 m6 => ?_)
            refine w_aload_n rfl rfl ?_
            refine w_aload_n rfl rfl ?_
            show xw _ _ _ _ 150 _ _ _ _
            refine w_gfr (r := 116) rfl rfl (Nat.le_of_ble_eq_true rfl) rfl rfl ?_
            refine w_iload rfl rfl ?_
            refine w_iaload rfl rfl (fun x7 => ?_)
            refine w_iload rfl rfl ?_
            refine w_call0 [.ref 78, .int (i32 x7), .int (i32 v7)] [] (by omega) rfl rfl rfl rfl rfl rfl (Nat.le_of_ble_eq_true rfl) (fun _ => xrc_ok rfl) (Nat.le_of_ble_eq_true rfl) rfl rfl (s_r_comesTo (by omega)) (fun r8 m9 => ?_)
            refine w_aload_n rfl rfl ?_
            show xw _ _ _ _ 162 _ _ _ _
            refine w_aload_n rfl rfl ?_
            refine w_gfr (r := 116) rfl rfl (Nat.le_of_ble_eq_true rfl) rfl rfl ?_
            refine w_iload rfl rfl ?_
            refine w_iaload rfl rfl (fun x10 => ?_)
            refine w_call0 [.ref 78, .int (i32 x10)] [] (by omega) rfl rfl rfl rfl rfl rfl (Nat.le_of_ble_eq_true rfl) (fun _ => xrc_ok rfl) (Nat.le_of_ble_eq_true rfl) rfl rfl (s_r_isState (by omega)) (fun r11 m12 => ?_)
            exact w_weak [(0, .ref 78), (1, .int (i32 v1)), (2, .int (i32 v2)), (3, .int (i32 v3)), (4, .int (i32 v4)), (5, .int (i32 v5)), (6, .int (i32 v6)), (7, .int (i32 v7))] rfl ⟨rfl, rfl, rfl, rfl, rfl, rfl, rfl, rfl, trivial⟩ (s_r_seeks_172 (by omega) hk58 hk105)
          · refine w_goto (tg := 172) rfl rfl ?_
            exact w_weak [(0, .ref 78), (1, .int (i32 v1)), (2, .int (i32 v2)), (3, .int (i32 v3)), (4, .int (i32 v4)), (5, .int (i32 v5)), (6, .int (i32 v6)), (7, .int (i32 v7))] rfl ⟨rfl, rfl, rfl, rfl, rfl, rfl, rfl, rfl, trivial⟩ (s_r_seeks_172 (by omega) hk58 hk105)
theorem s_r_seeks_102 {d : Nat} {k58 : Int → Int → Int → Int → Int → Int → xm → xr} (hd : 6 ≤ d) (hk58 : ∀ (v1 v2 v3 v4 v5 v6 : Int) (m : xm), xw (am_E L xs bz) d am_m267 1 58 [(0, .ref 78), (1, .int (i32 v1)), (2, .int (i32 v2)), (3, .int (i32 v3)), (4, .int (i32 v4)), (5, .int (i32 v5)), (6, .int (i32 v6))] [] m (k58 v1 v2 v3 v4 v5 v6 m)) {v1 : Int} {v2 : Int} {v3 : Int} {v4 : Int} {v5 : Int} {v6 : Int} {m : xm} : xw (am_E L xs bz) d am_m267 1 102 [(0, .ref 78), (1, .int (i32 v1)), (2, .int (i32 v2)), (3, .int (i32 v3)), (4, .int (i32 v4)), (5, .int (i32 v5)), (6, .int (i32 v6))] [] m (r_seeks_102 k58 v1 v2 v3 v4 v5 v6 m) := by
  unfold r_seeks_102
  refine w_iconst rfl ?_
  refine w_istore (lsd := [(7, .int (i32 0)), (0, .ref 78), (1, .int (i32 v1)), (2, .int (i32 v2)), (3, .int (i32 v3)), (4, .int (i32 v4)), (5, .int (i32 v5)), (6, .int (i32 v6))]) rfl (Nat.le_of_ble_eq_true rfl) rfl ?_
  exact w_weak [(0, .ref 78), (1, .int (i32 v1)), (2, .int (i32 v2)), (3, .int (i32 v3)), (4, .int (i32 v4)), (5, .int (i32 v5)), (6, .int (i32 v6)), (7, .int (i32 0))] rfl ⟨rfl, rfl, rfl, rfl, rfl, rfl, rfl, rfl, trivial⟩ (s_r_seeks_105 (by omega) hk58 _)
theorem s_r_seeks_58 {d : Nat} (hd : 6 ≤ d) : ∀ (n : Nat) {v1 : Int} {v2 : Int} {v3 : Int} {v4 : Int} {v5 : Int} {v6 : Int} {m : xm}, xw (am_E L xs bz) d am_m267 1 58 [(0, .ref 78), (1, .int (i32 v1)), (2, .int (i32 v2)), (3, .int (i32 v3)), (4, .int (i32 v4)), (5, .int (i32 v5)), (6, .int (i32 v6))] [] m (r_seeks_58 n v1 v2 v3 v4 v5 v6 m) := by
  intro n
  induction n with
  | zero => intros; exact w_none
  | succ n ih =>
    intro v1 v2 v3 v4 v5 v6 m
    have hk58 := fun (v1 v2 v3 v4 v5 v6 : Int) (m : xm) => @ih v1 v2 v3 v4 v5 v6 m
    unfold r_seeks_58
    refine w_iload rfl rfl ?_
    refine w_aload_n rfl rfl ?_
    refine w_gfi rfl rfl (Nat.le_of_ble_eq_true rfl) rfl rfl ?_
    refine w_icmp_ge (tg := 184) rfl rfl rfl (w32_ld _ _ _) ?_ ?_
    · exact w_weak [(0, .ref 78), (4, .int (i32 v4)), (5, .int (i32 v5))] rfl ⟨rfl, rfl, rfl, trivial⟩ (s_r_seeks_184 (by omega))
    · refine w_iload rfl rfl ?_
      refine w_iconst rfl ?_
      refine w_icmp_ne (tg := 184) rfl rfl rfl rfl ?_ ?_
      · exact w_weak [(0, .ref 78), (4, .int (i32 v4)), (5, .int (i32 v5))] rfl ⟨rfl, rfl, rfl, trivial⟩ (s_r_seeks_184 (by omega))
      · refine w_aload_n rfl rfl ?_
        refine w_aload_n rfl rfl ?_
        refine w_gfr (r := 116) rfl rfl (Nat.le_of_ble_eq_true rfl) rfl rfl ?_
        refine w_iload rfl rfl ?_
        refine w_iaload rfl rfl (fun x1 => ?_)
        show xw _ _ _ _ 81 _ _ _ _
        refine w_call0 [.ref 78, .int (i32 x1)] [] (by omega) rfl rfl rfl rfl rfl rfl (Nat.le_of_ble_eq_true rfl) (fun _ => xrc_ok rfl) (Nat.le_of_ble_eq_true rfl) rfl rfl (s_r_isState (by omega)) (fun r2 m3 => ?_)
        refine w_aload_n rfl rfl ?_
        refine w_iload_n rfl rfl ?_
        refine w_iload_n rfl rfl ?_
        refine w_call1 [.ref 78, .int (i32 v2), .int (i32 v3)] [] (by omega) rfl rfl rfl rfl rfl rfl (Nat.le_of_ble_eq_true rfl) (fun _ => xrc_ok rfl) (Nat.le_of_ble_eq_true rfl) rfl rfl (s_r_isThere (by omega)) (fun r4 m5 => ?_)
        refine w_if_eq (tg := 102) rfl rfl rfl ?_ ?_
        · exact w_weak [(0, .ref 78), (1, .int (i32 v1)), (2, .int (i32 v2)), (3, .int (i32 v3)), (4, .int (i32 v4)), (5, .int (i32 v5)), (6, .int (i32 v6))] rfl ⟨rfl, rfl, rfl, rfl, rfl, rfl, rfl, trivial⟩ (s_r_seeks_102 (by omega) hk58)
        · refine w_aload_n rfl rfl ?_
          refine w_gfr (r := 116) rfl rfl (Nat.le_of_ble_eq_true rfl) rfl rfl ?_
          refine w_iload rfl rfl ?_
          refine w_iaload rfl rfl (fun x6 => ?_)
          refine w_letI (fun x7 => ?_)
          refine w_istore (lsd := [(5, .int (i32 x7)), (0, .ref 78), (1, .int (i32 v1)), (2, .int (i32 v2)), (3, .int (i32 v3)), (4, .int (i32 v4)), (6, .int (i32 v6))]) rfl (Nat.le_of_ble_eq_true rfl) rfl ?_
          exact w_weak [(0, .ref 78), (1, .int (i32 v1)), (2, .int (i32 v2)), (3, .int (i32 v3)), (4, .int (i32 v4)), (5, .int (i32 x7)), (6, .int (i32 v6))] rfl ⟨rfl, rfl, rfl, rfl, rfl, rfl, rfl, trivial⟩ (s_r_seeks_102 (by omega) hk58)
theorem s_r_seeks_25 {d : Nat} (hd : 6 ≤ d) {v1 : Int} {v2 : Int} {v3 : Int} {m : xm} : xw (am_E L xs bz) d am_m267 1 25 [(0, .ref 78), (1, .int (i32 v1)), (2, .int (i32 v2)), (3, .int (i32 v3))] [] m (r_seeks_25 v1 v2 v3 m) := by
  unfold r_seeks_25
  refine w_aload_n rfl rfl ?_
  refine w_call1 [.ref 78] [] (by omega) rfl rfl rfl rfl rfl rfl (Nat.le_of_ble_eq_true rfl) (fun _ => xrc_ok rfl) (Nat.le_of_ble_eq_true rfl) rfl rfl (s_r_stateNow (by omega)) (fun r1 m2 => ?_)
  refine w_istore (lsd := [(4, .int (i32 r1)), (0, .ref 78), (1, .int (i32 v1)), (2, .int (i32 v2)), (3, .int (i32 v3))]) rfl (Nat.le_of_ble_eq_true rfl) rfl ?_
  refine w_aload_n rfl rfl ?_
  refine w_gfr (r := 113) rfl rfl (Nat.le_of_ble_eq_true rfl) rfl rfl ?_
  show xw _ _ _ _ 35 _ _ _ _
  refine w_iload rfl rfl ?_
  refine w_iconst rfl ?_
  refine w_iastore rfl rfl (fun m3 => ?_)
  refine w_aload_n rfl rfl ?_
  refine w_gfr (r := 116) rfl rfl (Nat.le_of_ble_eq_true rfl) rfl rfl ?_
  refine w_iconst rfl ?_
  show xw _ _ _ _ 44 _ _ _ _
  refine w_iload rfl rfl ?_
  refine w_iastore rfl rfl (fun m4 => ?_)
  refine w_aload_n rfl rfl ?_
  refine w_iconst rfl ?_
  refine w_pfi rfl rfl (Nat.le_of_ble_eq_true rfl) rfl rfl rfl (fun m5 => ?_)
  refine w_iconst rfl ?_
  show xw _ _ _ _ 53 _ _ _ _
  refine w_istore (lsd := [(5, .int (i32 (-1))), (4, .int (i32 r1)), (0, .ref 78), (1, .int (i32 v1)), (2, .int (i32 v2)), (3, .int (i32 v3))]) rfl (Nat.le_of_ble_eq_true rfl) rfl ?_
  refine w_iconst rfl ?_
  refine w_istore (lsd := [(6, .int (i32 0)), (5, .int (i32 (-1))), (4, .int (i32 r1)), (0, .ref 78), (1, .int (i32 v1)), (2, .int (i32 v2)), (3, .int (i32 v3))]) rfl (Nat.le_of_ble_eq_true rfl) rfl ?_
  exact w_weak [(0, .ref 78), (1, .int (i32 v1)), (2, .int (i32 v2)), (3, .int (i32 v3)), (4, .int (i32 r1)), (5, .int (i32 (-1))), (6, .int (i32 0))] rfl ⟨rfl, rfl, rfl, rfl, rfl, rfl, rfl, trivial⟩ (s_r_seeks_58 (by omega) _)
theorem s_r_seeks_3 {d : Nat} (hd : 6 ≤ d) : ∀ (n : Nat) {v1 : Int} {v2 : Int} {v3 : Int} {v4 : Int} {m : xm}, xw (am_E L xs bz) d am_m267 1 3 [(0, .ref 78), (1, .int (i32 v1)), (2, .int (i32 v2)), (3, .int (i32 v3)), (4, .int (i32 v4))] [] m (r_seeks_3 n v1 v2 v3 v4 m) := by
  intro n
  induction n with
  | zero => intros; exact w_none
  | succ n ih =>
    intro v1 v2 v3 v4 m
    have hk3 := fun (v1 v2 v3 v4 : Int) (m : xm) => @ih v1 v2 v3 v4 m
    unfold r_seeks_3
    refine w_iload rfl rfl ?_
    refine w_sipush rfl rfl ?_
    refine w_icmp_ge (tg := 25) rfl rfl rfl rfl ?_ ?_
    · exact w_weak [(0, .ref 78), (1, .int (i32 v1)), (2, .int (i32 v2)), (3, .int (i32 v3))] rfl ⟨rfl, rfl, rfl, rfl, trivial⟩ (s_r_seeks_25 (by omega))
    · refine w_aload_n rfl rfl ?_
      refine w_gfr (r := 113) rfl rfl (Nat.le_of_ble_eq_true rfl) rfl rfl ?_
      refine w_iload rfl rfl ?_
      refine w_iconst rfl ?_
      refine w_iastore rfl rfl (fun m1 => ?_)
      show xw _ _ _ _ 19 _ _ _ _
      refine w_iinc (lsd := [(4, .int (i32 (v4 + 1))), (0, .ref 78), (1, .int (i32 v1)), (2, .int (i32 v2)), (3, .int (i32 v3))]) rfl (Nat.le_of_ble_eq_true rfl) rfl rfl ?_
      refine w_goto (tg := 3) rfl rfl ?_
      exact w_weak [(0, .ref 78), (1, .int (i32 v1)), (2, .int (i32 v2)), (3, .int (i32 v3)), (4, .int (i32 (v4 + 1)))] rfl ⟨rfl, rfl, rfl, rfl, rfl, trivial⟩ (hk3 v1 v2 v3 (v4 + 1) m1)
theorem s_r_seeks {d : Nat} {v1 : Int} {v2 : Int} {v3 : Int} {m : xm} (hd : 6 ≤ d) : xw (am_E L xs bz) d am_m267 1 0 [(0, .ref 78), (1, .int (i32 v1)), (2, .int (i32 v2)), (3, .int (i32 v3))] [] m (r_seeks v1 v2 v3 m) := by
  unfold r_seeks
  refine w_iconst rfl ?_
  refine w_istore (lsd := [(4, .int (i32 0)), (0, .ref 78), (1, .int (i32 v1)), (2, .int (i32 v2)), (3, .int (i32 v3))]) rfl (Nat.le_of_ble_eq_true rfl) rfl ?_
  exact w_weak [(0, .ref 78), (1, .int (i32 v1)), (2, .int (i32 v2)), (3, .int (i32 v3)), (4, .int (i32 0))] rfl ⟨rfl, rfl, rfl, rfl, rfl, trivial⟩ (s_r_seeks_3 (by omega) _)
theorem s_r_wayTo_60 {d : Nat} (hd : 0 ≤ d) {v3 : Int} {m : xm} : xw (am_E L xs bz) d am_m274 1 60 [(0, .ref 78), (3, .int (i32 v3))] [] m (r_wayTo_60 v3 m) := by
  unfold r_wayTo_60
  refine w_aload_n rfl rfl ?_
  refine w_gfr (r := 115) rfl rfl (Nat.le_of_ble_eq_true rfl) rfl rfl ?_
  refine w_iload_n rfl rfl ?_
  refine w_iaload rfl rfl (fun x1 => ?_)
  exact w_retv rfl rfl
theorem s_r_wayTo_38 {d : Nat} (hd : 0 ≤ d) : ∀ (n : Nat) {v2 : Int} {v3 : Int} {m : xm}, xw (am_E L xs bz) d am_m274 1 38 [(0, .ref 78), (2, .int (i32 v2)), (3, .int (i32 v3))] [] m (r_wayTo_38 n v2 v3 m) := by
  intro n
  induction n with
  | zero => intros; exact w_none
  | succ n ih =>
    intro v2 v3 m
    have hk38 := fun (v2 v3 : Int) (m : xm) => @ih v2 v3 m
    unfold r_wayTo_38
    refine w_aload_n rfl rfl ?_
    refine w_gfr (r := 113) rfl rfl (Nat.le_of_ble_eq_true rfl) rfl rfl ?_
    refine w_iload_n rfl rfl ?_
    refine w_iaload rfl rfl (fun x1 => ?_)
    refine w_iload_n rfl rfl ?_
    show xw _ _ _ _ 45 _ _ _ _
    refine w_iconst rfl ?_
    refine w_iadd rfl ?_
    refine w_icmp_le (tg := 60) rfl rfl rfl rfl ?_ ?_
    · exact w_weak [(0, .ref 78), (3, .int (i32 v3))] rfl ⟨rfl, rfl, trivial⟩ (s_r_wayTo_60 (by omega))
    · refine w_aload_n rfl rfl ?_
      refine w_gfr (r := 114) rfl rfl (Nat.le_of_ble_eq_true rfl) rfl rfl ?_
      refine w_iload_n rfl rfl ?_
      refine w_iaload rfl rfl (fun x2 => ?_)
      refine w_letI (fun x3 => ?_)
      refine w_istore_n (lsd := [(3, .int (i32 x3)), (0, .ref 78), (2, .int (i32 v2))]) rfl (Nat.le_of_ble_eq_true rfl) rfl ?_
      show xw _ _ _ _ 57 _ _ _ _
      refine w_goto (tg := 38) rfl rfl ?_
      exact w_weak [(0, .ref 78), (2, .int (i32 v2)), (3, .int (i32 x3))] rfl ⟨rfl, rfl, rfl, trivial⟩ (hk38 v2 x3 m)
theorem s_r_wayTo {d : Nat} {v1 : Int} {v2 : Int} {m : xm} (hd : 0 ≤ d) : xw (am_E L xs bz) d am_m274 1 0 [(0, .ref 78), (1, .int (i32 v1)), (2, .int (i32 v2))] [] m (r_wayTo v1 v2 m) := by
  unfold r_wayTo
  refine w_iload_n rfl rfl ?_
  refine w_iconst rfl ?_
  refine w_icmp_eq (tg := 10) rfl rfl rfl rfl ?_ ?_
  · refine w_iconst rfl ?_
    exact w_retv rfl rfl
  · refine w_iload_n rfl rfl ?_
    refine w_iconst rfl ?_
    refine w_icmp_ge (tg := 12) rfl rfl rfl rfl ?_ ?_
    · refine w_iload_n rfl rfl ?_
      refine w_iconst rfl ?_
      refine w_icmp_ne (tg := 24) rfl rfl rfl rfl ?_ ?_
      · refine w_iload_n rfl rfl ?_
        refine w_aload_n rfl rfl ?_
        refine w_gfr (r := 113) rfl rfl (Nat.le_of_ble_eq_true rfl) rfl rfl ?_
        refine w_iload_n rfl rfl ?_
        refine w_iaload rfl rfl (fun x1 => ?_)
        show xw _ _ _ _ 31 _ _ _ _
        refine w_icmp_lt (tg := 36) rfl rfl rfl rfl ?_ ?_
        · refine w_iload_n rfl rfl ?_
          refine w_istore_n (lsd := [(3, .int (i32 v1)), (0, .ref 78), (1, .int (i32 v1)), (2, .int (i32 v2))]) rfl (Nat.le_of_ble_eq_true rfl) rfl ?_
          exact w_weak [(0, .ref 78), (2, .int (i32 v2)), (3, .int (i32 v1))] rfl ⟨rfl, rfl, rfl, trivial⟩ (s_r_wayTo_38 (by omega) _)
        · refine w_iconst rfl ?_
          exact w_retv rfl rfl
      · refine w_aload_n rfl rfl ?_
        refine w_gfr (r := 113) rfl rfl (Nat.le_of_ble_eq_true rfl) rfl rfl ?_
        refine w_iload_n rfl rfl ?_
        refine w_iaload rfl rfl (fun x2 => ?_)
        exact w_retv rfl rfl
    · refine w_iconst rfl ?_
      exact w_retv rfl rfl
theorem s_r_shortest {d : Nat} {v1 : Int} {v2 : Int} {m : xm} (hd : 7 ≤ d) : xw (am_E L xs bz) d am_m265 1 0 [(0, .ref 78), (1, .int (i32 v1)), (2, .int (i32 v2))] [] m (r_shortest v1 v2 m) := by
  unfold r_shortest
  refine w_aload_n rfl rfl ?_
  refine w_iload_n rfl rfl ?_
  refine w_call1 [.ref 78, .int (i32 v1)] [] (by omega) rfl rfl rfl rfl rfl rfl (Nat.le_of_ble_eq_true rfl) (fun _ => xrc_ok rfl) (Nat.le_of_ble_eq_true rfl) rfl rfl (s_r_areDoors (by omega)) (fun r1 m2 => ?_)
  refine w_if_eq (tg := 23) rfl rfl rfl ?_ ?_
  · refine w_iconst rfl ?_
    exact w_retv rfl rfl
  · refine w_aload_n rfl rfl ?_
    refine w_aload_n rfl rfl ?_
    refine w_iconst rfl ?_
    refine w_iconst rfl ?_
    refine w_iload_n rfl rfl ?_
    show xw _ _ _ _ 13 _ _ _ _
    refine w_call1 [.ref 78, .int (i32 0), .int (i32 0), .int (i32 v1)] [.ref 78] (by omega) rfl rfl rfl rfl rfl rfl (Nat.le_of_ble_eq_true rfl) (fun _ => xrc_ok rfl) (Nat.le_of_ble_eq_true rfl) rfl rfl (s_r_seeks (by omega)) (fun r3 m4 => ?_)
    refine w_iload_n rfl rfl ?_
    refine w_call1 [.ref 78, .int (i32 r3), .int (i32 v2)] [] (by omega) rfl rfl rfl rfl rfl rfl (Nat.le_of_ble_eq_true rfl) (fun _ => xrc_ok rfl) (Nat.le_of_ble_eq_true rfl) rfl rfl (s_r_wayTo (by omega)) (fun r5 m6 => ?_)
    refine w_goto (tg := 24) rfl rfl ?_
    exact w_retv rfl rfl
theorem s_r_back {d : Nat} {v1 : Int} {m : xm} (hd : 7 ≤ d) : xw (am_E L xs bz) d am_m275 1 0 [(0, .ref 78), (1, .int (i32 v1))] [] m (r_back v1 m) := by
  unfold r_back
  refine w_aload_n rfl rfl ?_
  refine w_aload_n rfl rfl ?_
  refine w_iconst rfl ?_
  refine w_iconst rfl ?_
  refine w_iconst rfl ?_
  show xw _ _ _ _ 5 _ _ _ _
  refine w_call1 [.ref 78, .int (i32 0), .int (i32 2), .int (i32 0)] [.ref 78] (by omega) rfl rfl rfl rfl rfl rfl (Nat.le_of_ble_eq_true rfl) (fun _ => xrc_ok rfl) (Nat.le_of_ble_eq_true rfl) rfl rfl (s_r_seeks (by omega)) (fun r1 m2 => ?_)
  refine w_iload_n rfl rfl ?_
  refine w_call1 [.ref 78, .int (i32 r1), .int (i32 v1)] [] (by omega) rfl rfl rfl rfl rfl rfl (Nat.le_of_ble_eq_true rfl) (fun _ => xrc_ok rfl) (Nat.le_of_ble_eq_true rfl) rfl rfl (s_r_wayTo (by omega)) (fun r3 m4 => ?_)
  exact w_retv rfl rfl
theorem s_r_states {d : Nat} {m : xm} (hd : 7 ≤ d) : xw (am_E L xs bz) d am_m276 1 0 [(0, .ref 78)] [] m (r_states m) := by
  unfold r_states
  refine w_aload_n rfl rfl ?_
  refine w_iconst rfl ?_
  refine w_iconst rfl ?_
  refine w_iconst rfl ?_
  refine w_call1 [.ref 78, .int (i32 0), .int (i32 3), .int (i32 0)] [] (by omega) rfl rfl rfl rfl rfl rfl (Nat.le_of_ble_eq_true rfl) (fun _ => xrc_ok rfl) (Nat.le_of_ble_eq_true rfl) rfl rfl (s_r_seeks (by omega)) (fun r1 m2 => ?_)
  show xw _ _ _ _ 7 _ _ _ _
  refine w_pop rfl rfl ?_
  refine w_aload_n rfl rfl ?_
  refine w_gfi rfl rfl (Nat.le_of_ble_eq_true rfl) rfl rfl ?_
  exact w_retv rfl rfl
theorem s_r_forbid_65 {d : Nat} {k23 : Int → Int → Int → xm → xr} (hd : 7 ≤ d) (hk23 : ∀ (v1 v2 v3 : Int) (m : xm), xw (am_E L xs bz) d am_m277 1 23 [(0, .ref 78), (1, .int (i32 v1)), (2, .int (i32 v2)), (3, .int (i32 v3))] [] m (k23 v1 v2 v3 m)) {v1 : Int} {v2 : Int} {v3 : Int} {m : xm} : xw (am_E L xs bz) d am_m277 1 65 [(0, .ref 78), (1, .int (i32 v1)), (2, .int (i32 v2)), (3, .int (i32 v3))] [] m (r_forbid_65 k23 v1 v2 v3 m) := by
  unfold r_forbid_65
  refine w_iinc (lsd := [(3, .int (i32 (v3 + 1))), (0, .ref 78), (1, .int (i32 v1)), (2, .int (i32 v2))]) rfl (Nat.le_of_ble_eq_true rfl) rfl rfl ?_
  refine w_goto (tg := 23) rfl rfl ?_
  exact w_weak [(0, .ref 78), (1, .int (i32 v1)), (2, .int (i32 v2)), (3, .int (i32 (v3 + 1)))] rfl ⟨rfl, rfl, rfl, rfl, trivial⟩ (hk23 v1 v2 (v3 + 1) m)
theorem s_r_forbid_52 {d : Nat} {k23 : Int → Int → Int → xm → xr} (hd : 7 ≤ d) (hk23 : ∀ (v1 v2 v3 : Int) (m : xm), xw (am_E L xs bz) d am_m277 1 23 [(0, .ref 78), (1, .int (i32 v1)), (2, .int (i32 v2)), (3, .int (i32 v3))] [] m (k23 v1 v2 v3 m)) {v1 : Int} {v2 : Int} {v3 : Int} {m : xm} : xw (am_E L xs bz) d am_m277 1 52 [(0, .ref 78), (1, .int (i32 v1)), (2, .int (i32 v2)), (3, .int (i32 v3))] [] m (r_forbid_52 k23 v1 v2 v3 m) := by
  unfold r_forbid_52
  refine w_aload_n rfl rfl ?_
  refine w_iload_n rfl rfl ?_
  refine w_iconst rfl ?_
  refine w_iload_n rfl rfl ?_
  refine w_call1 [.ref 78, .int (i32 v3), .int (i32 1), .int (i32 v1)] [] (by omega) rfl rfl rfl rfl rfl rfl (Nat.le_of_ble_eq_true rfl) (fun _ => xrc_ok rfl) (Nat.le_of_ble_eq_true rfl) rfl rfl (s_r_seeks (by omega)) (fun r1 m2 => ?_)
  show xw _ _ _ _ 59 _ _ _ _
  refine w_iconst rfl ?_
  refine w_icmp_ne (tg := 65) rfl rfl rfl rfl ?_ ?_
  · exact w_weak [(0, .ref 78), (1, .int (i32 v1)), (2, .int (i32 v2)), (3, .int (i32 v3))] rfl ⟨rfl, rfl, rfl, rfl, trivial⟩ (s_r_forbid_65 (by omega) hk23)
  · refine w_iload_n rfl rfl ?_
    refine w_istore_n (lsd := [(2, .int (i32 v3)), (0, .ref 78), (1, .int (i32 v1)), (3, .int (i32 v3))]) rfl (Nat.le_of_ble_eq_true rfl) rfl ?_
    exact w_weak [(0, .ref 78), (1, .int (i32 v1)), (2, .int (i32 v3)), (3, .int (i32 v3))] rfl ⟨rfl, rfl, rfl, rfl, trivial⟩ (s_r_forbid_65 (by omega) hk23)
theorem s_r_forbid_23 {d : Nat} (hd : 7 ≤ d) : ∀ (n : Nat) {v1 : Int} {v2 : Int} {v3 : Int} {m : xm}, xw (am_E L xs bz) d am_m277 1 23 [(0, .ref 78), (1, .int (i32 v1)), (2, .int (i32 v2)), (3, .int (i32 v3))] [] m (r_forbid_23 n v1 v2 v3 m) := by
  intro n
  induction n with
  | zero => intros; exact w_none
  | succ n ih =>
    intro v1 v2 v3 m
    have hk23 := fun (v1 v2 v3 : Int) (m : xm) => @ih v1 v2 v3 m
    unfold r_forbid_23
    refine w_iload_n rfl rfl ?_
    refine w_iconst rfl ?_
    refine w_aload_n rfl rfl ?_
    refine w_call1 [.ref 78] [.int (i32 1), .int (i32 v3)] (by omega) rfl rfl rfl rfl rfl rfl (Nat.le_of_ble_eq_true rfl) (fun _ => xrc_ok rfl) (Nat.le_of_ble_eq_true rfl) rfl rfl (s_r_noteMany (by omega)) (fun r1 m2 => ?_)
    refine w_ishl rfl ?_
    show xw _ _ _ _ 30 _ _ _ _
    refine w_icmp_ge (tg := 71) rfl rfl rfl (w32_of _) ?_ ?_
    · refine w_iload_n rfl rfl ?_
      exact w_retv rfl rfl
    · refine w_iload_n rfl rfl ?_
      refine w_iconst rfl ?_
      refine w_icmp_eq (tg := 52) rfl rfl rfl rfl ?_ ?_
      · exact w_weak [(0, .ref 78), (1, .int (i32 v1)), (2, .int (i32 v2)), (3, .int (i32 v3))] rfl ⟨rfl, rfl, rfl, rfl, trivial⟩ (s_r_forbid_52 (by omega) hk23)
      · refine w_iload_n rfl rfl ?_
        refine w_call1 [.int (i32 v3)] [] (by omega) rfl rfl rfl rfl rfl rfl (Nat.le_of_ble_eq_true rfl) (fun z => by cases z) (Nat.le_of_ble_eq_true rfl) rfl rfl (s_r_bits (by omega)) (fun r3 m4 => ?_)
        refine w_iload_n rfl rfl ?_
        refine w_call1 [.int (i32 v2)] [.int (i32 r3)] (by omega) rfl rfl rfl rfl rfl rfl (Nat.le_of_ble_eq_true rfl) (fun z => by cases z) (Nat.le_of_ble_eq_true rfl) rfl rfl (s_r_bits (by omega)) (fun r5 m6 => ?_)
        refine w_icmp_lt (tg := 52) rfl rfl rfl rfl ?_ ?_
        · exact w_weak [(0, .ref 78), (1, .int (i32 v1)), (2, .int (i32 v2)), (3, .int (i32 v3))] rfl ⟨rfl, rfl, rfl, rfl, trivial⟩ (s_r_forbid_52 (by omega) hk23)
        · refine w_goto (tg := 65) rfl rfl ?_
          exact w_weak [(0, .ref 78), (1, .int (i32 v1)), (2, .int (i32 v2)), (3, .int (i32 v3))] rfl ⟨rfl, rfl, rfl, rfl, trivial⟩ (s_r_forbid_65 (by omega) hk23)
theorem s_r_forbid {d : Nat} {v1 : Int} {m : xm} (hd : 7 ≤ d) : xw (am_E L xs bz) d am_m277 1 0 [(0, .ref 78), (1, .int (i32 v1))] [] m (r_forbid v1 m) := by
  unfold r_forbid
  refine w_aload_n rfl rfl ?_
  refine w_iload_n rfl rfl ?_
  refine w_call1 [.ref 78, .int (i32 v1)] [] (by omega) rfl rfl rfl rfl rfl rfl (Nat.le_of_ble_eq_true rfl) (fun _ => xrc_ok rfl) (Nat.le_of_ble_eq_true rfl) rfl rfl (s_r_areDoors (by omega)) (fun r1 m2 => ?_)
  refine w_if_eq (tg := 17) rfl rfl rfl ?_ ?_
  · refine w_iconst rfl ?_
    exact w_retv rfl rfl
  · refine w_aload_n rfl rfl ?_
    refine w_iconst rfl ?_
    refine w_iload_n rfl rfl ?_
    refine w_call1 [.ref 78, .int (i32 1), .int (i32 v1)] [] (by omega) rfl rfl rfl rfl rfl rfl (Nat.le_of_ble_eq_true rfl) (fun _ => xrc_ok rfl) (Nat.le_of_ble_eq_true rfl) rfl rfl (s_r_isThere (by omega)) (fun r3 m4 => ?_)
    refine w_if_eq (tg := 19) rfl rfl rfl ?_ ?_
    · refine w_iconst rfl ?_
      refine w_istore_n (lsd := [(2, .int (i32 (-1))), (0, .ref 78), (1, .int (i32 v1))]) rfl (Nat.le_of_ble_eq_true rfl) rfl ?_
      refine w_iconst rfl ?_
      refine w_istore_n (lsd := [(3, .int (i32 0)), (2, .int (i32 (-1))), (0, .ref 78), (1, .int (i32 v1))]) rfl (Nat.le_of_ble_eq_true rfl) rfl ?_
      exact w_weak [(0, .ref 78), (1, .int (i32 v1)), (2, .int (i32 (-1))), (3, .int (i32 0))] rfl ⟨rfl, rfl, rfl, rfl, trivial⟩ (s_r_forbid_23 (by omega) _)
    · refine w_iconst rfl ?_
      exact w_retv rfl rfl
theorem s_r_otherThan {d : Nat} {v0 : Int} {v1 : Int} {m : xm} (hd : 1 ≤ d) : xw (am_E L xs bz) d am_m280 1 0 [(0, .int (i32 v0)), (1, .int (i32 v1))] [] m (r_otherThan v0 v1 m) := by
  unfold r_otherThan
  refine w_iload_n rfl rfl ?_
  refine w_call1 [.int (i32 v1)] [] (by omega) rfl rfl rfl rfl rfl rfl (Nat.le_of_ble_eq_true rfl) (fun z => by cases z) (Nat.le_of_ble_eq_true rfl) rfl rfl (s_r_bits (by omega)) (fun r1 m2 => ?_)
  refine w_iconst rfl ?_
  refine w_icmp_le (tg := 12) rfl rfl rfl rfl ?_ ?_
  · refine w_iload_n rfl rfl ?_
    refine w_iload_n rfl rfl ?_
    refine w_iconst rfl ?_
    refine w_ixor rfl ?_
    refine w_iand rfl ?_
    show xw _ _ _ _ 17 _ _ _ _
    exact w_retv rfl rfl
  · refine w_iload_n rfl rfl ?_
    refine w_goto (tg := 17) rfl rfl ?_
    exact w_retv rfl rfl
theorem s_r_isSharedBy_87 {d : Nat} {k4 : Int → Int → Int → xm → xr} (hd : 2 ≤ d) (hk4 : ∀ (v1 v2 v3 : Int) (m : xm), xw (am_E L xs bz) d am_m279 1 4 [(0, .ref 78), (1, .int (i32 v1)), (2, .int (i32 v2)), (3, .int (i32 v3))] [] m (k4 v1 v2 v3 m)) {v1 : Int} {v3 : Int} {v5 : Int} {m : xm} : xw (am_E L xs bz) d am_m279 1 87 [(0, .ref 78), (1, .int (i32 v1)), (3, .int (i32 v3)), (5, .int (i32 v5))] [] m (r_isSharedBy_87 k4 v1 v3 v5 m) := by
  unfold r_isSharedBy_87
  refine w_iload rfl rfl ?_
  refine w_istore_n (lsd := [(2, .int (i32 v5)), (0, .ref 78), (1, .int (i32 v1)), (3, .int (i32 v3)), (5, .int (i32 v5))]) rfl (Nat.le_of_ble_eq_true rfl) rfl ?_
  refine w_iinc (lsd := [(3, .int (i32 (v3 + 1))), (2, .int (i32 v5)), (0, .ref 78), (1, .int (i32 v1)), (5, .int (i32 v5))]) rfl (Nat.le_of_ble_eq_true rfl) rfl rfl ?_
  refine w_goto (tg := 4) rfl rfl ?_
  exact w_weak [(0, .ref 78), (1, .int (i32 v1)), (2, .int (i32 v5)), (3, .int (i32 (v3 + 1)))] rfl ⟨rfl, rfl, rfl, rfl, trivial⟩ (hk4 v1 v5 (v3 + 1) m)
theorem s_r_isSharedBy_73 {d : Nat} {k4 : Int → Int → Int → xm → xr} (hd : 2 ≤ d) (hk4 : ∀ (v1 v2 v3 : Int) (m : xm), xw (am_E L xs bz) d am_m279 1 4 [(0, .ref 78), (1, .int (i32 v1)), (2, .int (i32 v2)), (3, .int (i32 v3))] [] m (k4 v1 v2 v3 m)) {v1 : Int} {v3 : Int} {v4 : Int} {v5 : Int} {m : xm} : xw (am_E L xs bz) d am_m279 1 73 [(0, .ref 78), (1, .int (i32 v1)), (3, .int (i32 v3)), (4, .int (i32 v4)), (5, .int (i32 v5))] [] m (r_isSharedBy_73 k4 v1 v3 v4 v5 m) := by
  unfold r_isSharedBy_73
  refine w_iload rfl rfl ?_
  refine w_bipush rfl rfl ?_
  refine w_icmp_eq (tg := 87) rfl rfl rfl rfl ?_ ?_
  · exact w_weak [(0, .ref 78), (1, .int (i32 v1)), (3, .int (i32 v3)), (5, .int (i32 v5))] rfl ⟨rfl, rfl, rfl, rfl, trivial⟩ (s_r_isSharedBy_87 (by omega) hk4)
  · refine w_iload rfl rfl ?_
    refine w_if_ne (tg := 87) rfl rfl rfl ?_ ?_
    · exact w_weak [(0, .ref 78), (1, .int (i32 v1)), (3, .int (i32 v3)), (5, .int (i32 v5))] rfl ⟨rfl, rfl, rfl, rfl, trivial⟩ (s_r_isSharedBy_87 (by omega) hk4)
    · refine w_iconst rfl ?_
      exact w_retv rfl rfl
theorem s_r_isSharedBy_39 {d : Nat} {k4 : Int → Int → Int → xm → xr} (hd : 2 ≤ d) (hk4 : ∀ (v1 v2 v3 : Int) (m : xm), xw (am_E L xs bz) d am_m279 1 4 [(0, .ref 78), (1, .int (i32 v1)), (2, .int (i32 v2)), (3, .int (i32 v3))] [] m (k4 v1 v2 v3 m)) {v1 : Int} {v2 : Int} {v3 : Int} {v4 : Int} {s0 : Int} {m : xm} : xw (am_E L xs bz) d am_m279 1 39 [(0, .ref 78), (1, .int (i32 v1)), (2, .int (i32 v2)), (3, .int (i32 v3)), (4, .int (i32 v4))] [.int (i32 s0)] m (r_isSharedBy_39 k4 v1 v2 v3 v4 s0 m) := by
  unfold r_isSharedBy_39
  refine w_letI (fun x1 => ?_)
  refine w_istore (lsd := [(5, .int (i32 x1)), (0, .ref 78), (1, .int (i32 v1)), (2, .int (i32 v2)), (3, .int (i32 v3)), (4, .int (i32 v4))]) rfl (Nat.le_of_ble_eq_true rfl) rfl ?_
  refine w_iload rfl rfl ?_
  refine w_bipush rfl rfl ?_
  refine w_icmp_eq (tg := 73) rfl rfl rfl rfl ?_ ?_
  · exact w_weak [(0, .ref 78), (1, .int (i32 v1)), (3, .int (i32 v3)), (4, .int (i32 v4)), (5, .int (i32 x1))] rfl ⟨rfl, rfl, rfl, rfl, rfl, trivial⟩ (s_r_isSharedBy_73 (by omega) hk4)
  · refine w_iload_n rfl rfl ?_
    refine w_if_le (tg := 73) rfl rfl rfl ?_ ?_
    · exact w_weak [(0, .ref 78), (1, .int (i32 v1)), (3, .int (i32 v3)), (4, .int (i32 v4)), (5, .int (i32 x1))] rfl ⟨rfl, rfl, rfl, rfl, rfl, trivial⟩ (s_r_isSharedBy_73 (by omega) hk4)
    · refine w_aload_n rfl rfl ?_
      refine w_gfr (r := 112) rfl rfl (Nat.le_of_ble_eq_true rfl) rfl rfl ?_
      refine w_iload_n rfl rfl ?_
      refine w_iconst rfl ?_
      refine w_isub rfl ?_
      show xw _ _ _ _ 59 _ _ _ _
      refine w_iaload rfl rfl (fun x2 => ?_)
      refine w_bipush rfl rfl ?_
      refine w_icmp_eq (tg := 73) rfl rfl rfl rfl ?_ ?_
      · exact w_weak [(0, .ref 78), (1, .int (i32 v1)), (3, .int (i32 v3)), (4, .int (i32 v4)), (5, .int (i32 x1))] rfl ⟨rfl, rfl, rfl, rfl, rfl, trivial⟩ (s_r_isSharedBy_73 (by omega) hk4)
      · refine w_iload rfl rfl ?_
        refine w_iload_n rfl rfl ?_
        refine w_call1 [.int (i32 x1), .int (i32 v2)] [] (by omega) rfl rfl rfl rfl rfl rfl (Nat.le_of_ble_eq_true rfl) (fun z => by cases z) (Nat.le_of_ble_eq_true rfl) rfl rfl (s_r_otherThan (by omega)) (fun r3 m4 => ?_)
        refine w_istore (lsd := [(5, .int (i32 r3)), (0, .ref 78), (1, .int (i32 v1)), (2, .int (i32 v2)), (3, .int (i32 v3)), (4, .int (i32 v4))]) rfl (Nat.le_of_ble_eq_true rfl) rfl ?_
        exact w_weak [(0, .ref 78), (1, .int (i32 v1)), (3, .int (i32 v3)), (4, .int (i32 v4)), (5, .int (i32 r3))] rfl ⟨rfl, rfl, rfl, rfl, rfl, trivial⟩ (s_r_isSharedBy_73 (by omega) hk4)
theorem s_r_isSharedBy_4 {d : Nat} (hd : 2 ≤ d) : ∀ (n : Nat) {v1 : Int} {v2 : Int} {v3 : Int} {m : xm}, xw (am_E L xs bz) d am_m279 1 4 [(0, .ref 78), (1, .int (i32 v1)), (2, .int (i32 v2)), (3, .int (i32 v3))] [] m (r_isSharedBy_4 n v1 v2 v3 m) := by
  intro n
  induction n with
  | zero => intros; exact w_none
  | succ n ih =>
    intro v1 v2 v3 m
    have hk4 := fun (v1 v2 v3 : Int) (m : xm) => @ih v1 v2 v3 m
    unfold r_isSharedBy_4
    refine w_iload_n rfl rfl ?_
    refine w_aload_n rfl rfl ?_
    refine w_gfi rfl rfl (Nat.le_of_ble_eq_true rfl) rfl rfl ?_
    refine w_icmp_ge (tg := 96) rfl rfl rfl (w32_ld _ _ _) ?_ ?_
    · refine w_iconst rfl ?_
      exact w_retv rfl rfl
    · refine w_aload_n rfl rfl ?_
      refine w_gfr (r := 112) rfl rfl (Nat.le_of_ble_eq_true rfl) rfl rfl ?_
      refine w_iload_n rfl rfl ?_
      refine w_iaload rfl rfl (fun x1 => ?_)
      refine w_letI (fun x2 => ?_)
      refine w_istore (lsd := [(4, .int (i32 x2)), (0, .ref 78), (1, .int (i32 v1)), (2, .int (i32 v2)), (3, .int (i32 v3))]) rfl (Nat.le_of_ble_eq_true rfl) rfl ?_
      show xw _ _ _ _ 20 _ _ _ _
      refine w_iload rfl rfl ?_
      refine w_bipush rfl rfl ?_
      refine w_icmp_ne (tg := 31) rfl rfl rfl rfl ?_ ?_
      · refine w_aload_n rfl rfl ?_
        refine w_iload rfl rfl ?_
        refine w_call1 [.ref 78, .int (i32 x2)] [] (by omega) rfl rfl rfl rfl rfl rfl (Nat.le_of_ble_eq_true rfl) (fun _ => xrc_ok rfl) (Nat.le_of_ble_eq_true rfl) rfl rfl (s_r_playersOf (by omega)) (fun r3 m4 => ?_)
        refine w_iload_n rfl rfl ?_
        refine w_iand rfl ?_
        exact w_weak [(0, .ref 78), (1, .int (i32 v1)), (2, .int (i32 v2)), (3, .int (i32 v3)), (4, .int (i32 x2))] rfl ⟨rfl, rfl, rfl, rfl, rfl, trivial⟩ (s_r_isSharedBy_39 (by omega) hk4)
      · refine w_iconst rfl ?_
        refine w_goto (tg := 39) rfl rfl ?_
        exact w_weak [(0, .ref 78), (1, .int (i32 v1)), (2, .int (i32 v2)), (3, .int (i32 v3)), (4, .int (i32 x2))] rfl ⟨rfl, rfl, rfl, rfl, rfl, trivial⟩ (s_r_isSharedBy_39 (by omega) hk4)
theorem s_r_isSharedBy {d : Nat} {v1 : Int} {m : xm} (hd : 2 ≤ d) : xw (am_E L xs bz) d am_m279 1 0 [(0, .ref 78), (1, .int (i32 v1))] [] m (r_isSharedBy v1 m) := by
  unfold r_isSharedBy
  refine w_iconst rfl ?_
  refine w_istore_n (lsd := [(2, .int (i32 0)), (0, .ref 78), (1, .int (i32 v1))]) rfl (Nat.le_of_ble_eq_true rfl) rfl ?_
  refine w_iconst rfl ?_
  refine w_istore_n (lsd := [(3, .int (i32 0)), (2, .int (i32 0)), (0, .ref 78), (1, .int (i32 v1))]) rfl (Nat.le_of_ble_eq_true rfl) rfl ?_
  exact w_weak [(0, .ref 78), (1, .int (i32 v1)), (2, .int (i32 0)), (3, .int (i32 0))] rfl ⟨rfl, rfl, rfl, rfl, trivial⟩ (s_r_isSharedBy_4 (by omega) _)
theorem s_r_share_57 {d : Nat} {k18 : Int → Int → xm → xr} (hd : 3 ≤ d) (hk18 : ∀ (v1 v2 : Int) (m : xm), xw (am_E L xs bz) d am_m278 1 18 [(0, .ref 78), (1, .int (i32 v1)), (2, .int (i32 v2))] [] m (k18 v1 v2 m)) {v1 : Int} {v2 : Int} {m : xm} : xw (am_E L xs bz) d am_m278 1 57 [(0, .ref 78), (1, .int (i32 v1)), (2, .int (i32 v2))] [] m (r_share_57 k18 v1 v2 m) := by
  unfold r_share_57
  refine w_iinc (lsd := [(2, .int (i32 (v2 + 1))), (0, .ref 78), (1, .int (i32 v1))]) rfl (Nat.le_of_ble_eq_true rfl) rfl rfl ?_
  refine w_goto (tg := 18) rfl rfl ?_
  exact w_weak [(0, .ref 78), (1, .int (i32 v1)), (2, .int (i32 (v2 + 1)))] rfl ⟨rfl, rfl, rfl, trivial⟩ (hk18 v1 (v2 + 1) m)
theorem s_r_share_47 {d : Nat} {k18 : Int → Int → xm → xr} (hd : 3 ≤ d) (hk18 : ∀ (v1 v2 : Int) (m : xm), xw (am_E L xs bz) d am_m278 1 18 [(0, .ref 78), (1, .int (i32 v1)), (2, .int (i32 v2))] [] m (k18 v1 v2 m)) {v1 : Int} {v2 : Int} {m : xm} : xw (am_E L xs bz) d am_m278 1 47 [(0, .ref 78), (1, .int (i32 v1)), (2, .int (i32 v2))] [] m (r_share_47 k18 v1 v2 m) := by
  unfold r_share_47
  refine w_aload_n rfl rfl ?_
  refine w_iload_n rfl rfl ?_
  refine w_call1 [.ref 78, .int (i32 v2)] [] (by omega) rfl rfl rfl rfl rfl rfl (Nat.le_of_ble_eq_true rfl) (fun _ => xrc_ok rfl) (Nat.le_of_ble_eq_true rfl) rfl rfl (s_r_isSharedBy (by omega)) (fun r1 m2 => ?_)
  refine w_if_eq (tg := 57) rfl rfl rfl ?_ ?_
  · exact w_weak [(0, .ref 78), (1, .int (i32 v1)), (2, .int (i32 v2))] rfl ⟨rfl, rfl, rfl, trivial⟩ (s_r_share_57 (by omega) hk18)
  · refine w_iload_n rfl rfl ?_
    refine w_istore_n (lsd := [(1, .int (i32 v2)), (0, .ref 78), (2, .int (i32 v2))]) rfl (Nat.le_of_ble_eq_true rfl) rfl ?_
    exact w_weak [(0, .ref 78), (1, .int (i32 v2)), (2, .int (i32 v2))] rfl ⟨rfl, rfl, rfl, trivial⟩ (s_r_share_57 (by omega) hk18)
theorem s_r_share_18 {d : Nat} (hd : 3 ≤ d) : ∀ (n : Nat) {v1 : Int} {v2 : Int} {m : xm}, xw (am_E L xs bz) d am_m278 1 18 [(0, .ref 78), (1, .int (i32 v1)), (2, .int (i32 v2))] [] m (r_share_18 n v1 v2 m) := by
  intro n
  induction n with
  | zero => intros; exact w_none
  | succ n ih =>
    intro v1 v2 m
    have hk18 := fun (v1 v2 : Int) (m : xm) => @ih v1 v2 m
    unfold r_share_18
    refine w_iload_n rfl rfl ?_
    refine w_iconst rfl ?_
    refine w_aload_n rfl rfl ?_
    refine w_call1 [.ref 78] [.int (i32 1), .int (i32 v2)] (by omega) rfl rfl rfl rfl rfl rfl (Nat.le_of_ble_eq_true rfl) (fun _ => xrc_ok rfl) (Nat.le_of_ble_eq_true rfl) rfl rfl (s_r_playerMany (by omega)) (fun r1 m2 => ?_)
    refine w_ishl rfl ?_
    show xw _ _ _ _ 25 _ _ _ _
    refine w_icmp_ge (tg := 63) rfl rfl rfl (w32_of _) ?_ ?_
    · refine w_iload_n rfl rfl ?_
      exact w_retv rfl rfl
    · refine w_iload_n rfl rfl ?_
      refine w_iconst rfl ?_
      refine w_icmp_eq (tg := 47) rfl rfl rfl rfl ?_ ?_
      · exact w_weak [(0, .ref 78), (1, .int (i32 v1)), (2, .int (i32 v2))] rfl ⟨rfl, rfl, rfl, trivial⟩ (s_r_share_47 (by omega) hk18)
      · refine w_iload_n rfl rfl ?_
        refine w_call1 [.int (i32 v2)] [] (by omega) rfl rfl rfl rfl rfl rfl (Nat.le_of_ble_eq_true rfl) (fun z => by cases z) (Nat.le_of_ble_eq_true rfl) rfl rfl (s_r_bits (by omega)) (fun r3 m4 => ?_)
        refine w_iload_n rfl rfl ?_
        refine w_call1 [.int (i32 v1)] [.int (i32 r3)] (by omega) rfl rfl rfl rfl rfl rfl (Nat.le_of_ble_eq_true rfl) (fun z => by cases z) (Nat.le_of_ble_eq_true rfl) rfl rfl (s_r_bits (by omega)) (fun r5 m6 => ?_)
        refine w_icmp_lt (tg := 47) rfl rfl rfl rfl ?_ ?_
        · exact w_weak [(0, .ref 78), (1, .int (i32 v1)), (2, .int (i32 v2))] rfl ⟨rfl, rfl, rfl, trivial⟩ (s_r_share_47 (by omega) hk18)
        · refine w_goto (tg := 57) rfl rfl ?_
          exact w_weak [(0, .ref 78), (1, .int (i32 v1)), (2, .int (i32 v2))] rfl ⟨rfl, rfl, rfl, trivial⟩ (s_r_share_57 (by omega) hk18)
theorem s_r_share {d : Nat} {m : xm} (hd : 3 ≤ d) : xw (am_E L xs bz) d am_m278 1 0 [(0, .ref 78)] [] m (r_share m) := by
  unfold r_share
  refine w_aload_n rfl rfl ?_
  refine w_iconst rfl ?_
  refine w_call1 [.ref 78, .int (i32 0)] [] (by omega) rfl rfl rfl rfl rfl rfl (Nat.le_of_ble_eq_true rfl) (fun _ => xrc_ok rfl) (Nat.le_of_ble_eq_true rfl) rfl rfl (s_r_isPiece (by omega)) (fun r1 m2 => ?_)
  refine w_if_ne (tg := 14) rfl rfl rfl ?_ ?_
  · refine w_iconst rfl ?_
    refine w_istore_n (lsd := [(1, .int (i32 (-1))), (0, .ref 78)]) rfl (Nat.le_of_ble_eq_true rfl) rfl ?_
    refine w_iconst rfl ?_
    refine w_istore_n (lsd := [(2, .int (i32 0)), (1, .int (i32 (-1))), (0, .ref 78)]) rfl (Nat.le_of_ble_eq_true rfl) rfl ?_
    exact w_weak [(0, .ref 78), (1, .int (i32 (-1))), (2, .int (i32 0))] rfl ⟨rfl, rfl, rfl, trivial⟩ (s_r_share_18 (by omega) _)
  · refine w_aload_n rfl rfl ?_
    refine w_iconst rfl ?_
    refine w_call1 [.ref 78, .int (i32 1)] [] (by omega) rfl rfl rfl rfl rfl rfl (Nat.le_of_ble_eq_true rfl) (fun _ => xrc_ok rfl) (Nat.le_of_ble_eq_true rfl) rfl rfl (s_r_refuses (by omega)) (fun r3 m4 => ?_)
    exact w_retv rfl rfl
theorem s_r_isSlip_86 {d : Nat} (hd : 5 ≤ d) {s0 : Int} {m : xm} : xw (am_E L xs bz) d am_m282 1 86 [(0, .ref 78)] [.int (i32 s0)] m (r_isSlip_86 s0 m) := by
  unfold r_isSlip_86
  refine w_letI (fun x1 => ?_)
  refine w_istore (lsd := [(5, .int (i32 x1)), (0, .ref 78)]) rfl (Nat.le_of_ble_eq_true rfl) rfl ?_
  refine w_aload_n rfl rfl ?_
  refine w_call0 [.ref 78] [] (by omega) rfl rfl rfl rfl rfl rfl (Nat.le_of_ble_eq_true rfl) (fun _ => xrc_ok rfl) (Nat.le_of_ble_eq_true rfl) rfl rfl (s_r_takesBack (by omega)) (fun r2 m3 => ?_)
  refine w_iload rfl rfl ?_
  exact w_retb rfl rfl
theorem s_r_isSlip_85 {d : Nat} (hd : 5 ≤ d) {m : xm} : xw (am_E L xs bz) d am_m282 1 85 [(0, .ref 78)] [] m (r_isSlip_85 m) := by
  unfold r_isSlip_85
  refine w_iconst rfl ?_
  exact w_weak [(0, .ref 78)] rfl ⟨rfl, trivial⟩ (s_r_isSlip_86 (by omega))
theorem s_r_isSlip_68 {d : Nat} (hd : 5 ≤ d) {v3 : Int} {v4 : Int} {m : xm} : xw (am_E L xs bz) d am_m282 1 68 [(0, .ref 78), (3, .int (i32 v3)), (4, .int (i32 v4))] [] m (r_isSlip_68 v3 v4 m) := by
  unfold r_isSlip_68
  refine w_iload rfl rfl ?_
  refine w_if_eq (tg := 85) rfl rfl rfl ?_ ?_
  · exact w_weak [(0, .ref 78)] rfl ⟨rfl, trivial⟩ (s_r_isSlip_85 (by omega))
  · refine w_aload_n rfl rfl ?_
    refine w_call1 [.ref 78] [] (by omega) rfl rfl rfl rfl rfl rfl (Nat.le_of_ble_eq_true rfl) (fun _ => xrc_ok rfl) (Nat.le_of_ble_eq_true rfl) rfl rfl (s_r_openNow (by omega)) (fun r1 m2 => ?_)
    refine w_iload_n rfl rfl ?_
    refine w_icmp_ne (tg := 85) rfl rfl rfl rfl ?_ ?_
    · exact w_weak [(0, .ref 78)] rfl ⟨rfl, trivial⟩ (s_r_isSlip_85 (by omega))
    · refine w_iconst rfl ?_
      refine w_goto (tg := 86) rfl rfl ?_
      exact w_weak [(0, .ref 78)] rfl ⟨rfl, trivial⟩ (s_r_isSlip_86 (by omega))
theorem s_r_isSlip_62 {d : Nat} {k10 : Int → Int → Int → Int → Int → xm → xr} (hd : 5 ≤ d) (hk10 : ∀ (v1 v2 v3 v4 v5 : Int) (m : xm), xw (am_E L xs bz) d am_m282 1 10 [(0, .ref 78), (1, .int (i32 v1)), (2, .int (i32 v2)), (3, .int (i32 v3)), (4, .int (i32 v4)), (5, .int (i32 v5))] [] m (k10 v1 v2 v3 v4 v5 m)) {v1 : Int} {v2 : Int} {v3 : Int} {v4 : Int} {v5 : Int} {m : xm} : xw (am_E L xs bz) d am_m282 1 62 [(0, .ref 78), (1, .int (i32 v1)), (2, .int (i32 v2)), (3, .int (i32 v3)), (4, .int (i32 v4)), (5, .int (i32 v5))] [] m (r_isSlip_62 k10 v1 v2 v3 v4 v5 m) := by
  unfold r_isSlip_62
  refine w_iinc (lsd := [(5, .int (i32 (v5 + 1))), (0, .ref 78), (1, .int (i32 v1)), (2, .int (i32 v2)), (3, .int (i32 v3)), (4, .int (i32 v4))]) rfl (Nat.le_of_ble_eq_true rfl) rfl rfl ?_
  refine w_goto (tg := 10) rfl rfl ?_
  exact w_weak [(0, .ref 78), (1, .int (i32 v1)), (2, .int (i32 v2)), (3, .int (i32 v3)), (4, .int (i32 v4)), (5, .int (i32 (v5 + 1)))] rfl ⟨rfl, rfl, rfl, rfl, rfl, rfl, trivial⟩ (hk10 v1 v2 v3 v4 (v5 + 1) m)
theorem s_r_isSlip_41 {d : Nat} {k10 : Int → Int → Int → Int → Int → xm → xr} (hd : 5 ≤ d) (hk10 : ∀ (v1 v2 v3 v4 v5 : Int) (m : xm), xw (am_E L xs bz) d am_m282 1 10 [(0, .ref 78), (1, .int (i32 v1)), (2, .int (i32 v2)), (3, .int (i32 v3)), (4, .int (i32 v4)), (5, .int (i32 v5))] [] m (k10 v1 v2 v3 v4 v5 m)) {v1 : Int} {v2 : Int} {v3 : Int} {v5 : Int} {s0 : Int} {m : xm} : xw (am_E L xs bz) d am_m282 1 41 [(0, .ref 78), (1, .int (i32 v1)), (2, .int (i32 v2)), (3, .int (i32 v3)), (5, .int (i32 v5))] [.int (i32 s0)] m (r_isSlip_41 k10 v1 v2 v3 v5 s0 m) := by
  unfold r_isSlip_41
  refine w_letI (fun x1 => ?_)
  refine w_istore (lsd := [(6, .int (i32 x1)), (0, .ref 78), (1, .int (i32 v1)), (2, .int (i32 v2)), (3, .int (i32 v3)), (5, .int (i32 v5))]) rfl (Nat.le_of_ble_eq_true rfl) rfl ?_
  refine w_aload_n rfl rfl ?_
  refine w_iload rfl rfl ?_
  refine w_call1 [.ref 78, .int (i32 x1)] [] (by omega) rfl rfl rfl rfl rfl rfl (Nat.le_of_ble_eq_true rfl) (fun _ => xrc_ok rfl) (Nat.le_of_ble_eq_true rfl) rfl rfl (s_r_canPlay (by omega)) (fun r2 m3 => ?_)
  refine w_istore (lsd := [(4, .int (i32 r2)), (6, .int (i32 x1)), (0, .ref 78), (1, .int (i32 v1)), (2, .int (i32 v2)), (3, .int (i32 v3)), (5, .int (i32 v5))]) rfl (Nat.le_of_ble_eq_true rfl) rfl ?_
  show xw _ _ _ _ 51 _ _ _ _
  refine w_iload rfl rfl ?_
  refine w_if_eq (tg := 62) rfl rfl rfl ?_ ?_
  · exact w_weak [(0, .ref 78), (1, .int (i32 v1)), (2, .int (i32 v2)), (3, .int (i32 v3)), (4, .int (i32 r2)), (5, .int (i32 v5))] rfl ⟨rfl, rfl, rfl, rfl, rfl, rfl, trivial⟩ (s_r_isSlip_62 (by omega) hk10)
  · refine w_aload_n rfl rfl ?_
    refine w_iload rfl rfl ?_
    refine w_call0 [.ref 78, .int (i32 x1)] [] (by omega) rfl rfl rfl rfl rfl rfl (Nat.le_of_ble_eq_true rfl) (fun _ => xrc_ok rfl) (Nat.le_of_ble_eq_true rfl) rfl rfl (s_r_turns (by omega)) (fun r4 m5 => ?_)
    exact w_weak [(0, .ref 78), (1, .int (i32 v1)), (2, .int (i32 v2)), (3, .int (i32 v3)), (4, .int (i32 r2)), (5, .int (i32 v5))] rfl ⟨rfl, rfl, rfl, rfl, rfl, rfl, trivial⟩ (s_r_isSlip_62 (by omega) hk10)
theorem s_r_isSlip_10 {d : Nat} (hd : 5 ≤ d) : ∀ (n : Nat) {v1 : Int} {v2 : Int} {v3 : Int} {v4 : Int} {v5 : Int} {m : xm}, xw (am_E L xs bz) d am_m282 1 10 [(0, .ref 78), (1, .int (i32 v1)), (2, .int (i32 v2)), (3, .int (i32 v3)), (4, .int (i32 v4)), (5, .int (i32 v5))] [] m (r_isSlip_10 n v1 v2 v3 v4 v5 m) := by
  intro n
  induction n with
  | zero => intros; exact w_none
  | succ n ih =>
    intro v1 v2 v3 v4 v5 m
    have hk10 := fun (v1 v2 v3 v4 v5 : Int) (m : xm) => @ih v1 v2 v3 v4 v5 m
    unfold r_isSlip_10
    refine w_iload rfl rfl ?_
    refine w_aload_n rfl rfl ?_
    refine w_gfi rfl rfl (Nat.le_of_ble_eq_true rfl) rfl rfl ?_
    refine w_icmp_ge (tg := 68) rfl rfl rfl (w32_ld _ _ _) ?_ ?_
    · exact w_weak [(0, .ref 78), (3, .int (i32 v3)), (4, .int (i32 v4))] rfl ⟨rfl, rfl, rfl, trivial⟩ (s_r_isSlip_68 (by omega))
    · refine w_iload rfl rfl ?_
      refine w_if_eq (tg := 68) rfl rfl rfl ?_ ?_
      · exact w_weak [(0, .ref 78), (3, .int (i32 v3)), (4, .int (i32 v4))] rfl ⟨rfl, rfl, rfl, trivial⟩ (s_r_isSlip_68 (by omega))
      · refine w_iload rfl rfl ?_
        refine w_iload_n rfl rfl ?_
        refine w_icmp_ne (tg := 34) rfl rfl rfl rfl ?_ ?_
        · refine w_aload_n rfl rfl ?_
          refine w_gfr (r := 112) rfl rfl (Nat.le_of_ble_eq_true rfl) rfl rfl ?_
          refine w_iload rfl rfl ?_
          refine w_iaload rfl rfl (fun x1 => ?_)
          exact w_weak [(0, .ref 78), (1, .int (i32 v1)), (2, .int (i32 v2)), (3, .int (i32 v3)), (5, .int (i32 v5))] rfl ⟨rfl, rfl, rfl, rfl, rfl, trivial⟩ (s_r_isSlip_41 (by omega) hk10)
        · refine w_iload_n rfl rfl ?_
          refine w_goto (tg := 41) rfl rfl ?_
          exact w_weak [(0, .ref 78), (1, .int (i32 v1)), (2, .int (i32 v2)), (3, .int (i32 v3)), (5, .int (i32 v5))] rfl ⟨rfl, rfl, rfl, rfl, rfl, trivial⟩ (s_r_isSlip_41 (by omega) hk10)
theorem s_r_isSlip {d : Nat} {v1 : Int} {v2 : Int} {v3 : Int} {m : xm} (hd : 5 ≤ d) : xw (am_E L xs bz) d am_m282 1 0 [(0, .ref 78), (1, .int (i32 v1)), (2, .int (i32 v2)), (3, .int (i32 v3))] [] m (r_isSlip v1 v2 v3 m) := by
  unfold r_isSlip
  refine w_aload_n rfl rfl ?_
  refine w_call0 [.ref 78] [] (by omega) rfl rfl rfl rfl rfl rfl (Nat.le_of_ble_eq_true rfl) (fun _ => xrc_ok rfl) (Nat.le_of_ble_eq_true rfl) rfl rfl (s_r_putsAside (by omega)) (fun r1 m2 => ?_)
  refine w_iconst rfl ?_
  refine w_istore (lsd := [(4, .int (i32 1)), (0, .ref 78), (1, .int (i32 v1)), (2, .int (i32 v2)), (3, .int (i32 v3))]) rfl (Nat.le_of_ble_eq_true rfl) rfl ?_
  refine w_iconst rfl ?_
  show xw _ _ _ _ 8 _ _ _ _
  refine w_istore (lsd := [(5, .int (i32 0)), (4, .int (i32 1)), (0, .ref 78), (1, .int (i32 v1)), (2, .int (i32 v2)), (3, .int (i32 v3))]) rfl (Nat.le_of_ble_eq_true rfl) rfl ?_
  exact w_weak [(0, .ref 78), (1, .int (i32 v1)), (2, .int (i32 v2)), (3, .int (i32 v3)), (4, .int (i32 1)), (5, .int (i32 0))] rfl ⟨rfl, rfl, rfl, rfl, rfl, rfl, trivial⟩ (s_r_isSlip_10 (by omega) _)
theorem s_r_slip_16 {d : Nat} (hd : 6 ≤ d) {m : xm} : xw (am_E L xs bz) d am_m281 1 16 [(0, .ref 78)] [] m (r_slip_16 m) := by
  unfold r_slip_16
  refine w_aload_n rfl rfl ?_
  refine w_iconst rfl ?_
  refine w_call1 [.ref 78, .int (i32 1)] [] (by omega) rfl rfl rfl rfl rfl rfl (Nat.le_of_ble_eq_true rfl) (fun _ => xrc_ok rfl) (Nat.le_of_ble_eq_true rfl) rfl rfl (s_r_refuses (by omega)) (fun r1 m2 => ?_)
  exact w_retv rfl rfl
theorem s_r_slip_123 {d : Nat} {k36 : Int → Int → Int → xm → xr} (hd : 6 ≤ d) (hk36 : ∀ (v1 v2 v3 : Int) (m : xm), xw (am_E L xs bz) d am_m281 1 36 [(0, .ref 78), (1, .int (i32 v1)), (2, .int (i32 v2)), (3, .int (i32 v3))] [] m (k36 v1 v2 v3 m)) {v1 : Int} {v2 : Int} {v3 : Int} {m : xm} : xw (am_E L xs bz) d am_m281 1 123 [(0, .ref 78), (1, .int (i32 v1)), (2, .int (i32 v2)), (3, .int (i32 v3))] [] m (r_slip_123 k36 v1 v2 v3 m) := by
  unfold r_slip_123
  refine w_iinc (lsd := [(3, .int (i32 (v3 + 1))), (0, .ref 78), (1, .int (i32 v1)), (2, .int (i32 v2))]) rfl (Nat.le_of_ble_eq_true rfl) rfl rfl ?_
  refine w_goto (tg := 36) rfl rfl ?_
  exact w_weak [(0, .ref 78), (1, .int (i32 v1)), (2, .int (i32 v2)), (3, .int (i32 (v3 + 1)))] rfl ⟨rfl, rfl, rfl, rfl, trivial⟩ (hk36 v1 v2 (v3 + 1) m)
theorem s_r_slip_117 {d : Nat} {k36 : Int → Int → Int → xm → xr} {k47 : Int → Int → Int → Int → xm → xr} (hd : 6 ≤ d) (hk36 : ∀ (v1 v2 v3 : Int) (m : xm), xw (am_E L xs bz) d am_m281 1 36 [(0, .ref 78), (1, .int (i32 v1)), (2, .int (i32 v2)), (3, .int (i32 v3))] [] m (k36 v1 v2 v3 m)) (hk47 : ∀ (v1 v2 v3 v4 : Int) (m : xm), xw (am_E L xs bz) d am_m281 1 47 [(0, .ref 78), (1, .int (i32 v1)), (2, .int (i32 v2)), (3, .int (i32 v3)), (4, .int (i32 v4))] [] m (k47 v1 v2 v3 v4 m)) {v1 : Int} {v2 : Int} {v3 : Int} {v4 : Int} {m : xm} : xw (am_E L xs bz) d am_m281 1 117 [(0, .ref 78), (1, .int (i32 v1)), (2, .int (i32 v2)), (3, .int (i32 v3)), (4, .int (i32 v4))] [] m (r_slip_117 k36 k47 v1 v2 v3 v4 m) := by
  unfold r_slip_117
  refine w_iinc (lsd := [(4, .int (i32 (v4 + 1))), (0, .ref 78), (1, .int (i32 v1)), (2, .int (i32 v2)), (3, .int (i32 v3))]) rfl (Nat.le_of_ble_eq_true rfl) rfl rfl ?_
  refine w_goto (tg := 47) rfl rfl ?_
  exact w_weak [(0, .ref 78), (1, .int (i32 v1)), (2, .int (i32 v2)), (3, .int (i32 v3)), (4, .int (i32 (v4 + 1)))] rfl ⟨rfl, rfl, rfl, rfl, rfl, trivial⟩ (hk47 v1 v2 v3 (v4 + 1) m)
theorem s_r_slip_114 {d : Nat} {k36 : Int → Int → Int → xm → xr} {k47 : Int → Int → Int → Int → xm → xr} (hd : 6 ≤ d) (hk36 : ∀ (v1 v2 v3 : Int) (m : xm), xw (am_E L xs bz) d am_m281 1 36 [(0, .ref 78), (1, .int (i32 v1)), (2, .int (i32 v2)), (3, .int (i32 v3))] [] m (k36 v1 v2 v3 m)) (hk47 : ∀ (v1 v2 v3 v4 : Int) (m : xm), xw (am_E L xs bz) d am_m281 1 47 [(0, .ref 78), (1, .int (i32 v1)), (2, .int (i32 v2)), (3, .int (i32 v3)), (4, .int (i32 v4))] [] m (k47 v1 v2 v3 v4 m)) {v1 : Int} {v2 : Int} {v3 : Int} {v4 : Int} {m : xm} : xw (am_E L xs bz) d am_m281 1 114 [(0, .ref 78), (1, .int (i32 v1)), (2, .int (i32 v2)), (3, .int (i32 v3)), (4, .int (i32 v4))] [] m (r_slip_114 k36 k47 v1 v2 v3 v4 m) := by
  unfold r_slip_114
  refine w_iinc (lsd := [(2, .int (i32 (v2 + 1))), (0, .ref 78), (1, .int (i32 v1)), (3, .int (i32 v3)), (4, .int (i32 v4))]) rfl (Nat.le_of_ble_eq_true rfl) rfl rfl ?_
  exact w_weak [(0, .ref 78), (1, .int (i32 v1)), (2, .int (i32 (v2 + 1))), (3, .int (i32 v3)), (4, .int (i32 v4))] rfl ⟨rfl, rfl, rfl, rfl, rfl, trivial⟩ (s_r_slip_117 (by omega) hk36 hk47)
theorem s_r_slip_72 {d : Nat} {k36 : Int → Int → Int → xm → xr} {k47 : Int → Int → Int → Int → xm → xr} (hd : 6 ≤ d) (hk36 : ∀ (v1 v2 v3 : Int) (m : xm), xw (am_E L xs bz) d am_m281 1 36 [(0, .ref 78), (1, .int (i32 v1)), (2, .int (i32 v2)), (3, .int (i32 v3))] [] m (k36 v1 v2 v3 m)) (hk47 : ∀ (v1 v2 v3 v4 : Int) (m : xm), xw (am_E L xs bz) d am_m281 1 47 [(0, .ref 78), (1, .int (i32 v1)), (2, .int (i32 v2)), (3, .int (i32 v3)), (4, .int (i32 v4))] [] m (k47 v1 v2 v3 v4 m)) {v1 : Int} {v2 : Int} {v3 : Int} {v4 : Int} {s0 : Int} {m : xm} : xw (am_E L xs bz) d am_m281 1 72 [(0, .ref 78), (1, .int (i32 v1)), (2, .int (i32 v2)), (3, .int (i32 v3)), (4, .int (i32 v4))] [.int (i32 s0)] m (r_slip_72 k36 k47 v1 v2 v3 v4 s0 m) := by
  unfold r_slip_72
  refine w_letI (fun x1 => ?_)
  refine w_istore (lsd := [(5, .int (i32 x1)), (0, .ref 78), (1, .int (i32 v1)), (2, .int (i32 v2)), (3, .int (i32 v3)), (4, .int (i32 v4))]) rfl (Nat.le_of_ble_eq_true rfl) rfl ?_
  refine w_iload rfl rfl ?_
  refine w_aload_n rfl rfl ?_
  refine w_gfr (r := 112) rfl rfl (Nat.le_of_ble_eq_true rfl) rfl rfl ?_
  refine w_iload_n rfl rfl ?_
  show xw _ _ _ _ 81 _ _ _ _
  refine w_iaload rfl rfl (fun x2 => ?_)
  refine w_icmp_eq (tg := 117) rfl rfl rfl rfl ?_ ?_
  · exact w_weak [(0, .ref 78), (1, .int (i32 v1)), (2, .int (i32 v2)), (3, .int (i32 v3)), (4, .int (i32 v4))] rfl ⟨rfl, rfl, rfl, rfl, rfl, trivial⟩ (s_r_slip_117 (by omega) hk36 hk47)
  · refine w_aload_n rfl rfl ?_
    refine w_iload_n rfl rfl ?_
    refine w_iload rfl rfl ?_
    refine w_iload_n rfl rfl ?_
    refine w_call1 [.ref 78, .int (i32 v3), .int (i32 x1), .int (i32 v1)] [] (by omega) rfl rfl rfl rfl rfl rfl (Nat.le_of_ble_eq_true rfl) (fun _ => xrc_ok rfl) (Nat.le_of_ble_eq_true rfl) rfl rfl (s_r_isSlip (by omega)) (fun r3 m4 => ?_)
    show xw _ _ _ _ 93 _ _ _ _
    refine w_if_ne (tg := 99) rfl rfl rfl ?_ ?_
    · refine w_iload_n rfl rfl ?_
      refine w_if_ne (tg := 114) rfl rfl rfl ?_ ?_
      · exact w_weak [(0, .ref 78), (1, .int (i32 v1)), (2, .int (i32 v2)), (3, .int (i32 v3)), (4, .int (i32 v4))] rfl ⟨rfl, rfl, rfl, rfl, rfl, trivial⟩ (s_r_slip_114 (by omega) hk36 hk47)
      · refine w_aload_n rfl rfl ?_
        refine w_iload_n rfl rfl ?_
        refine w_pfi rfl rfl (Nat.le_of_ble_eq_true rfl) rfl rfl rfl (fun m5 => ?_)
        refine w_aload_n rfl rfl ?_
        refine w_iload rfl rfl ?_
        show xw _ _ _ _ 111 _ _ _ _
        refine w_pfi rfl rfl (Nat.le_of_ble_eq_true rfl) rfl rfl rfl (fun m6 => ?_)
        exact w_weak [(0, .ref 78), (1, .int (i32 v1)), (2, .int (i32 v2)), (3, .int (i32 v3)), (4, .int (i32 v4))] rfl ⟨rfl, rfl, rfl, rfl, rfl, trivial⟩ (s_r_slip_114 (by omega) hk36 hk47)
    · refine w_goto (tg := 117) rfl rfl ?_
      exact w_weak [(0, .ref 78), (1, .int (i32 v1)), (2, .int (i32 v2)), (3, .int (i32 v3)), (4, .int (i32 v4))] rfl ⟨rfl, rfl, rfl, rfl, rfl, trivial⟩ (s_r_slip_117 (by omega) hk36 hk47)
theorem s_r_slip_47 {d : Nat} {k36 : Int → Int → Int → xm → xr} (hd : 6 ≤ d) (hk36 : ∀ (v1 v2 v3 : Int) (m : xm), xw (am_E L xs bz) d am_m281 1 36 [(0, .ref 78), (1, .int (i32 v1)), (2, .int (i32 v2)), (3, .int (i32 v3))] [] m (k36 v1 v2 v3 m)) : ∀ (n : Nat) {v1 : Int} {v2 : Int} {v3 : Int} {v4 : Int} {m : xm}, xw (am_E L xs bz) d am_m281 1 47 [(0, .ref 78), (1, .int (i32 v1)), (2, .int (i32 v2)), (3, .int (i32 v3)), (4, .int (i32 v4))] [] m (r_slip_47 k36 n v1 v2 v3 v4 m) := by
  intro n
  induction n with
  | zero => intros; exact w_none
  | succ n ih =>
    intro v1 v2 v3 v4 m
    have hk47 := fun (v1 v2 v3 v4 : Int) (m : xm) => @ih v1 v2 v3 v4 m
    unfold r_slip_47
    refine w_iload rfl rfl ?_
    refine w_aload_n rfl rfl ?_
    refine w_call1 [.ref 78] [.int (i32 v4)] (by omega) rfl rfl rfl rfl rfl rfl (Nat.le_of_ble_eq_true rfl) (fun _ => xrc_ok rfl) (Nat.le_of_ble_eq_true rfl) rfl rfl (s_r_noteMany (by omega)) (fun r1 m2 => ?_)
    refine w_icmp_gt (tg := 123) rfl rfl rfl rfl ?_ ?_
    · exact w_weak [(0, .ref 78), (1, .int (i32 v1)), (2, .int (i32 v2)), (3, .int (i32 v3))] rfl ⟨rfl, rfl, rfl, rfl, trivial⟩ (s_r_slip_123 (by omega) hk36)
    · refine w_iload rfl rfl ?_
      refine w_aload_n rfl rfl ?_
      refine w_call1 [.ref 78] [.int (i32 v4)] (by omega) rfl rfl rfl rfl rfl rfl (Nat.le_of_ble_eq_true rfl) (fun _ => xrc_ok rfl) (Nat.le_of_ble_eq_true rfl) rfl rfl (s_r_noteMany (by omega)) (fun r3 m4 => ?_)
      refine w_icmp_ne (tg := 70) rfl rfl rfl rfl ?_ ?_
      · refine w_iload rfl rfl ?_
        exact w_weak [(0, .ref 78), (1, .int (i32 v1)), (2, .int (i32 v2)), (3, .int (i32 v3)), (4, .int (i32 v4))] rfl ⟨rfl, rfl, rfl, rfl, rfl, trivial⟩ (s_r_slip_72 (by omega) hk36 hk47)
      · refine w_bipush rfl rfl ?_
        refine w_goto (tg := 72) rfl rfl ?_
        exact w_weak [(0, .ref 78), (1, .int (i32 v1)), (2, .int (i32 v2)), (3, .int (i32 v3)), (4, .int (i32 v4))] rfl ⟨rfl, rfl, rfl, rfl, rfl, trivial⟩ (s_r_slip_72 (by omega) hk36 hk47)
theorem s_r_slip_36 {d : Nat} (hd : 6 ≤ d) : ∀ (n : Nat) {v1 : Int} {v2 : Int} {v3 : Int} {m : xm}, xw (am_E L xs bz) d am_m281 1 36 [(0, .ref 78), (1, .int (i32 v1)), (2, .int (i32 v2)), (3, .int (i32 v3))] [] m (r_slip_36 n v1 v2 v3 m) := by
  intro n
  induction n with
  | zero => intros; exact w_none
  | succ n ih =>
    intro v1 v2 v3 m
    have hk36 := fun (v1 v2 v3 : Int) (m : xm) => @ih v1 v2 v3 m
    unfold r_slip_36
    refine w_iload_n rfl rfl ?_
    refine w_aload_n rfl rfl ?_
    refine w_gfi rfl rfl (Nat.le_of_ble_eq_true rfl) rfl rfl ?_
    refine w_icmp_ge (tg := 129) rfl rfl rfl (w32_ld _ _ _) ?_ ?_
    · refine w_iload_n rfl rfl ?_
      exact w_retv rfl rfl
    · refine w_iconst rfl ?_
      refine w_istore (lsd := [(4, .int (i32 0)), (0, .ref 78), (1, .int (i32 v1)), (2, .int (i32 v2)), (3, .int (i32 v3))]) rfl (Nat.le_of_ble_eq_true rfl) rfl ?_
      exact w_weak [(0, .ref 78), (1, .int (i32 v1)), (2, .int (i32 v2)), (3, .int (i32 v3)), (4, .int (i32 0))] rfl ⟨rfl, rfl, rfl, rfl, rfl, trivial⟩ (s_r_slip_47 (by omega) hk36 _)
theorem s_r_slip {d : Nat} {v1 : Int} {m : xm} (hd : 6 ≤ d) : xw (am_E L xs bz) d am_m281 1 0 [(0, .ref 78), (1, .int (i32 v1))] [] m (r_slip v1 m) := by
  unfold r_slip
  refine w_aload_n rfl rfl ?_
  refine w_iconst rfl ?_
  refine w_call1 [.ref 78, .int (i32 0)] [] (by omega) rfl rfl rfl rfl rfl rfl (Nat.le_of_ble_eq_true rfl) (fun _ => xrc_ok rfl) (Nat.le_of_ble_eq_true rfl) rfl rfl (s_r_isPiece (by omega)) (fun r1 m2 => ?_)
  refine w_if_eq (tg := 16) rfl rfl rfl ?_ ?_
  · exact w_weak [(0, .ref 78)] rfl ⟨rfl, trivial⟩ (s_r_slip_16 (by omega))
  · refine w_aload_n rfl rfl ?_
    refine w_iload_n rfl rfl ?_
    refine w_call1 [.ref 78, .int (i32 v1)] [] (by omega) rfl rfl rfl rfl rfl rfl (Nat.le_of_ble_eq_true rfl) (fun _ => xrc_ok rfl) (Nat.le_of_ble_eq_true rfl) rfl rfl (s_r_areDoors (by omega)) (fun r3 m4 => ?_)
    refine w_if_ne (tg := 22) rfl rfl rfl ?_ ?_
    · refine w_aload_n rfl rfl ?_
      refine w_iconst rfl ?_
      refine w_pfi rfl rfl (Nat.le_of_ble_eq_true rfl) rfl rfl rfl (fun m5 => ?_)
      refine w_aload_n rfl rfl ?_
      refine w_iconst rfl ?_
      show xw _ _ _ _ 29 _ _ _ _
      refine w_pfi rfl rfl (Nat.le_of_ble_eq_true rfl) rfl rfl rfl (fun m6 => ?_)
      refine w_iconst rfl ?_
      refine w_istore_n (lsd := [(2, .int (i32 0)), (0, .ref 78), (1, .int (i32 v1))]) rfl (Nat.le_of_ble_eq_true rfl) rfl ?_
      refine w_iconst rfl ?_
      refine w_istore_n (lsd := [(3, .int (i32 0)), (2, .int (i32 0)), (0, .ref 78), (1, .int (i32 v1))]) rfl (Nat.le_of_ble_eq_true rfl) rfl ?_
      exact w_weak [(0, .ref 78), (1, .int (i32 v1)), (2, .int (i32 0)), (3, .int (i32 0))] rfl ⟨rfl, rfl, rfl, rfl, trivial⟩ (s_r_slip_36 (by omega) _)
    · exact w_weak [(0, .ref 78)] rfl ⟨rfl, trivial⟩ (s_r_slip_16 (by omega))
theorem s_r_slipped {d : Nat} {v1 : Int} {m : xm} (hd : 0 ≤ d) : xw (am_E L xs bz) d am_m283 1 0 [(0, .ref 78), (1, .int (i32 v1))] [] m (r_slipped v1 m) := by
  unfold r_slipped
  refine w_iload_n rfl rfl ?_
  refine w_if_ne (tg := 11) rfl rfl rfl ?_ ?_
  · refine w_iload_n rfl rfl ?_
    refine w_iconst rfl ?_
    refine w_icmp_ne (tg := 23) rfl rfl rfl rfl ?_ ?_
    · refine w_iconst rfl ?_
      exact w_retv rfl rfl
    · refine w_aload_n rfl rfl ?_
      refine w_gfi rfl rfl (Nat.le_of_ble_eq_true rfl) rfl rfl ?_
      refine w_goto (tg := 24) rfl rfl ?_
      exact w_retv rfl rfl
  · refine w_aload_n rfl rfl ?_
    refine w_gfi rfl rfl (Nat.le_of_ble_eq_true rfl) rfl rfl ?_
    refine w_goto (tg := 24) rfl rfl ?_
    exact w_retv rfl rfl
theorem s_r_hear_131 {d : Nat} (hd : 2 ≤ d) {v1 : Int} {m : xm} : xw (am_E L xs bz) d am_m284 1 131 [(0, .ref 78), (1, .int (i32 v1))] [] m (r_hear_131 v1 m) := by
  unfold r_hear_131
  refine w_aload_n rfl rfl ?_
  refine w_iload_n rfl rfl ?_
  refine w_iconst rfl ?_
  refine w_idivc rfl (by decide) ?_
  refine w_pfi rfl rfl (Nat.le_of_ble_eq_true rfl) rfl rfl rfl (fun m1 => ?_)
  show xw _ _ _ _ 138 _ _ _ _
  refine w_aload_n rfl rfl ?_
  refine w_gfi rfl rfl (Nat.le_of_ble_eq_true rfl) rfl rfl ?_
  exact w_retv rfl rfl
theorem s_r_hear_108 {d : Nat} (hd : 2 ≤ d) : ∀ (n : Nat) {v1 : Int} {v3 : Int} {m : xm}, xw (am_E L xs bz) d am_m284 1 108 [(0, .ref 78), (1, .int (i32 v1)), (3, .int (i32 v3))] [] m (r_hear_108 n v1 v3 m) := by
  intro n
  induction n with
  | zero => intros; exact w_none
  | succ n ih =>
    intro v1 v3 m
    have hk108 := fun (v1 v3 : Int) (m : xm) => @ih v1 v3 m
    unfold r_hear_108
    refine w_iload_n rfl rfl ?_
    refine w_iload_n rfl rfl ?_
    refine w_icmp_ge (tg := 131) rfl rfl rfl rfl ?_ ?_
    · exact w_weak [(0, .ref 78), (1, .int (i32 v1))] rfl ⟨rfl, rfl, trivial⟩ (s_r_hear_131 (by omega))
    · refine w_aload_n rfl rfl ?_
      refine w_gfr (r := 117) rfl rfl (Nat.le_of_ble_eq_true rfl) rfl rfl ?_
      refine w_iload_n rfl rfl ?_
      refine w_aload_n rfl rfl ?_
      refine w_gfr (r := 79) rfl rfl (Nat.le_of_ble_eq_true rfl) rfl rfl ?_
      show xw _ _ _ _ 122 _ _ _ _
      refine w_iload_n rfl rfl ?_
      refine w_iaload rfl rfl (fun x1 => ?_)
      refine w_iastore rfl rfl (fun m2 => ?_)
      refine w_iinc (lsd := [(3, .int (i32 (v3 + 1))), (0, .ref 78), (1, .int (i32 v1))]) rfl (Nat.le_of_ble_eq_true rfl) rfl rfl ?_
      refine w_goto (tg := 108) rfl rfl ?_
      exact w_weak [(0, .ref 78), (1, .int (i32 v1)), (3, .int (i32 (v3 + 1)))] rfl ⟨rfl, rfl, rfl, trivial⟩ (hk108 v1 (v3 + 1) m2)
theorem s_r_hear_96 {d : Nat} (hd : 2 ≤ d) {v1 : Int} {v2 : Int} {m : xm} : xw (am_E L xs bz) d am_m284 1 96 [(0, .ref 78), (1, .int (i32 v1)), (2, .int (i32 v2))] [] m (r_hear_96 v1 v2 m) := by
  unfold r_hear_96
  refine w_iload_n rfl rfl ?_
  refine w_if_ne (tg := 106) rfl rfl rfl ?_ ?_
  · refine w_iconst rfl ?_
    refine w_istore_n (lsd := [(3, .int (i32 0)), (0, .ref 78), (1, .int (i32 v1)), (2, .int (i32 v2))]) rfl (Nat.le_of_ble_eq_true rfl) rfl ?_
    exact w_weak [(0, .ref 78), (1, .int (i32 v1)), (3, .int (i32 0))] rfl ⟨rfl, rfl, rfl, trivial⟩ (s_r_hear_108 (by omega) _)
  · refine w_aload_n rfl rfl ?_
    refine w_iconst rfl ?_
    refine w_call1 [.ref 78, .int (i32 1)] [] (by omega) rfl rfl rfl rfl rfl rfl (Nat.le_of_ble_eq_true rfl) (fun _ => xrc_ok rfl) (Nat.le_of_ble_eq_true rfl) rfl rfl (s_r_refuses (by omega)) (fun r1 m2 => ?_)
    exact w_retv rfl rfl
theorem s_r_hear_89 {d : Nat} {k36 : Int → Int → Int → xm → xr} (hd : 2 ≤ d) (hk36 : ∀ (v1 v2 v3 : Int) (m : xm), xw (am_E L xs bz) d am_m284 1 36 [(0, .ref 78), (1, .int (i32 v1)), (2, .int (i32 v2)), (3, .int (i32 v3))] [] m (k36 v1 v2 v3 m)) {v1 : Int} {v3 : Int} {s0 : Int} {m : xm} : xw (am_E L xs bz) d am_m284 1 89 [(0, .ref 78), (1, .int (i32 v1)), (3, .int (i32 v3))] [.int (i32 s0)] m (r_hear_89 k36 v1 v3 s0 m) := by
  unfold r_hear_89
  refine w_letI (fun x1 => ?_)
  refine w_istore_n (lsd := [(2, .int (i32 x1)), (0, .ref 78), (1, .int (i32 v1)), (3, .int (i32 v3))]) rfl (Nat.le_of_ble_eq_true rfl) rfl ?_
  refine w_iinc (lsd := [(3, .int (i32 (v3 + 2))), (2, .int (i32 x1)), (0, .ref 78), (1, .int (i32 v1))]) rfl (Nat.le_of_ble_eq_true rfl) rfl rfl ?_
  refine w_goto (tg := 36) rfl rfl ?_
  exact w_weak [(0, .ref 78), (1, .int (i32 v1)), (2, .int (i32 x1)), (3, .int (i32 (v3 + 2)))] rfl ⟨rfl, rfl, rfl, rfl, trivial⟩ (hk36 v1 x1 (v3 + 2) m)
theorem s_r_hear_88 {d : Nat} {k36 : Int → Int → Int → xm → xr} (hd : 2 ≤ d) (hk36 : ∀ (v1 v2 v3 : Int) (m : xm), xw (am_E L xs bz) d am_m284 1 36 [(0, .ref 78), (1, .int (i32 v1)), (2, .int (i32 v2)), (3, .int (i32 v3))] [] m (k36 v1 v2 v3 m)) {v1 : Int} {v3 : Int} {m : xm} : xw (am_E L xs bz) d am_m284 1 88 [(0, .ref 78), (1, .int (i32 v1)), (3, .int (i32 v3))] [] m (r_hear_88 k36 v1 v3 m) := by
  unfold r_hear_88
  refine w_iconst rfl ?_
  exact w_weak [(0, .ref 78), (1, .int (i32 v1)), (3, .int (i32 v3))] rfl ⟨rfl, rfl, rfl, trivial⟩ (s_r_hear_89 (by omega) hk36)
theorem s_r_hear_69 {d : Nat} {k36 : Int → Int → Int → xm → xr} (hd : 2 ≤ d) (hk36 : ∀ (v1 v2 v3 : Int) (m : xm), xw (am_E L xs bz) d am_m284 1 36 [(0, .ref 78), (1, .int (i32 v1)), (2, .int (i32 v2)), (3, .int (i32 v3))] [] m (k36 v1 v2 v3 m)) {v1 : Int} {v3 : Int} {m : xm} : xw (am_E L xs bz) d am_m284 1 69 [(0, .ref 78), (1, .int (i32 v1)), (3, .int (i32 v3))] [] m (r_hear_69 k36 v1 v3 m) := by
  unfold r_hear_69
  refine w_aload_n rfl rfl ?_
  refine w_aload_n rfl rfl ?_
  refine w_gfr (r := 79) rfl rfl (Nat.le_of_ble_eq_true rfl) rfl rfl ?_
  refine w_iload_n rfl rfl ?_
  refine w_iconst rfl ?_
  show xw _ _ _ _ 76 _ _ _ _
  refine w_iadd rfl ?_
  refine w_iaload rfl rfl (fun x1 => ?_)
  refine w_call1 [.ref 78, .int (i32 x1)] [] (by omega) rfl rfl rfl rfl rfl rfl (Nat.le_of_ble_eq_true rfl) (fun _ => xrc_ok rfl) (Nat.le_of_ble_eq_true rfl) rfl rfl (s_r_areDoors (by omega)) (fun r2 m3 => ?_)
  refine w_if_eq (tg := 88) rfl rfl rfl ?_ ?_
  · exact w_weak [(0, .ref 78), (1, .int (i32 v1)), (3, .int (i32 v3))] rfl ⟨rfl, rfl, rfl, trivial⟩ (s_r_hear_88 (by omega) hk36)
  · refine w_iconst rfl ?_
    refine w_goto (tg := 89) rfl rfl ?_
    exact w_weak [(0, .ref 78), (1, .int (i32 v1)), (3, .int (i32 v3))] rfl ⟨rfl, rfl, rfl, trivial⟩ (s_r_hear_89 (by omega) hk36)
theorem s_r_hear_36 {d : Nat} (hd : 2 ≤ d) : ∀ (n : Nat) {v1 : Int} {v2 : Int} {v3 : Int} {m : xm}, xw (am_E L xs bz) d am_m284 1 36 [(0, .ref 78), (1, .int (i32 v1)), (2, .int (i32 v2)), (3, .int (i32 v3))] [] m (r_hear_36 n v1 v2 v3 m) := by
  intro n
  induction n with
  | zero => intros; exact w_none
  | succ n ih =>
    intro v1 v2 v3 m
    have hk36 := fun (v1 v2 v3 : Int) (m : xm) => @ih v1 v2 v3 m
    unfold r_hear_36
    refine w_iload_n rfl rfl ?_
    refine w_iload_n rfl rfl ?_
    refine w_icmp_ge (tg := 96) rfl rfl rfl rfl ?_ ?_
    · exact w_weak [(0, .ref 78), (1, .int (i32 v1)), (2, .int (i32 v2))] rfl ⟨rfl, rfl, rfl, trivial⟩ (s_r_hear_96 (by omega))
    · refine w_iload_n rfl rfl ?_
      refine w_if_eq (tg := 96) rfl rfl rfl ?_ ?_
      · exact w_weak [(0, .ref 78), (1, .int (i32 v1)), (2, .int (i32 v2))] rfl ⟨rfl, rfl, rfl, trivial⟩ (s_r_hear_96 (by omega))
      · refine w_aload_n rfl rfl ?_
        refine w_gfr (r := 79) rfl rfl (Nat.le_of_ble_eq_true rfl) rfl rfl ?_
        refine w_iload_n rfl rfl ?_
        refine w_iaload rfl rfl (fun x1 => ?_)
        refine w_bipush rfl rfl ?_
        show xw _ _ _ _ 53 _ _ _ _
        refine w_icmp_eq (tg := 69) rfl rfl rfl rfl ?_ ?_
        · exact w_weak [(0, .ref 78), (1, .int (i32 v1)), (3, .int (i32 v3))] rfl ⟨rfl, rfl, rfl, trivial⟩ (s_r_hear_69 (by omega) hk36)
        · refine w_aload_n rfl rfl ?_
          refine w_aload_n rfl rfl ?_
          refine w_gfr (r := 79) rfl rfl (Nat.le_of_ble_eq_true rfl) rfl rfl ?_
          refine w_iload_n rfl rfl ?_
          refine w_iaload rfl rfl (fun x2 => ?_)
          show xw _ _ _ _ 63 _ _ _ _
          refine w_call1 [.ref 78, .int (i32 x2)] [] (by omega) rfl rfl rfl rfl rfl rfl (Nat.le_of_ble_eq_true rfl) (fun _ => xrc_ok rfl) (Nat.le_of_ble_eq_true rfl) rfl rfl (s_r_isNote (by omega)) (fun r3 m4 => ?_)
          refine w_if_eq (tg := 88) rfl rfl rfl ?_ ?_
          · exact w_weak [(0, .ref 78), (1, .int (i32 v1)), (3, .int (i32 v3))] rfl ⟨rfl, rfl, rfl, trivial⟩ (s_r_hear_88 (by omega) hk36)
          · exact w_weak [(0, .ref 78), (1, .int (i32 v1)), (3, .int (i32 v3))] rfl ⟨rfl, rfl, rfl, trivial⟩ (s_r_hear_69 (by omega) hk36)
theorem s_r_hear_33 {d : Nat} (hd : 2 ≤ d) {v1 : Int} {s0 : Int} {m : xm} : xw (am_E L xs bz) d am_m284 1 33 [(0, .ref 78), (1, .int (i32 v1))] [.int (i32 s0)] m (r_hear_33 v1 s0 m) := by
  unfold r_hear_33
  refine w_letI (fun x1 => ?_)
  refine w_istore_n (lsd := [(2, .int (i32 x1)), (0, .ref 78), (1, .int (i32 v1))]) rfl (Nat.le_of_ble_eq_true rfl) rfl ?_
  refine w_iconst rfl ?_
  refine w_istore_n (lsd := [(3, .int (i32 0)), (2, .int (i32 x1)), (0, .ref 78), (1, .int (i32 v1))]) rfl (Nat.le_of_ble_eq_true rfl) rfl ?_
  exact w_weak [(0, .ref 78), (1, .int (i32 v1)), (2, .int (i32 x1)), (3, .int (i32 0))] rfl ⟨rfl, rfl, rfl, rfl, trivial⟩ (s_r_hear_36 (by omega) _)
theorem s_r_hear_32 {d : Nat} (hd : 2 ≤ d) {v1 : Int} {m : xm} : xw (am_E L xs bz) d am_m284 1 32 [(0, .ref 78), (1, .int (i32 v1))] [] m (r_hear_32 v1 m) := by
  unfold r_hear_32
  refine w_iconst rfl ?_
  exact w_weak [(0, .ref 78), (1, .int (i32 v1))] rfl ⟨rfl, rfl, trivial⟩ (s_r_hear_33 (by omega))
theorem s_r_hear {d : Nat} {m : xm} (hd : 2 ≤ d) : xw (am_E L xs bz) d am_m284 1 0 [(0, .ref 78)] [] m (r_hear m) := by
  unfold r_hear
  refine w_aload_n rfl rfl ?_
  refine w_gfi rfl rfl (Nat.le_of_ble_eq_true rfl) rfl rfl ?_
  refine w_istore_n (lsd := [(1, .int (i32 (ld m 78 1))), (0, .ref 78)]) rfl (Nat.le_of_ble_eq_true rfl) rfl ?_
  refine w_aload_n rfl rfl ?_
  refine w_iconst rfl ?_
  show xw _ _ _ _ 7 _ _ _ _
  refine w_pfi rfl rfl (Nat.le_of_ble_eq_true rfl) rfl rfl rfl (fun m1 => ?_)
  refine w_iload_n rfl rfl ?_
  refine w_if_le (tg := 32) rfl rfl (w32_ld _ _ _) ?_ ?_
  · exact w_weak [(0, .ref 78), (1, .int (i32 (ld m 78 1)))] rfl ⟨rfl, rfl, trivial⟩ (s_r_hear_32 (by omega))
  · refine w_iload_n rfl rfl ?_
    refine w_iconst rfl ?_
    refine w_iremc rfl (by decide) ?_
    refine w_if_ne (tg := 32) rfl rfl (w32_of _) ?_ ?_
    · exact w_weak [(0, .ref 78), (1, .int (i32 (ld m 78 1)))] rfl ⟨rfl, rfl, trivial⟩ (s_r_hear_32 (by omega))
    · refine w_iload_n rfl rfl ?_
      refine w_iconst rfl ?_
      refine w_idivc rfl (by decide) ?_
      refine w_bipush rfl rfl ?_
      refine w_icmp_gt (tg := 32) rfl rfl (w32_of _) rfl ?_ ?_
      · exact w_weak [(0, .ref 78), (1, .int (i32 (ld m 78 1)))] rfl ⟨rfl, rfl, trivial⟩ (s_r_hear_32 (by omega))
      · refine w_iconst rfl ?_
        refine w_goto (tg := 33) rfl rfl ?_
        exact w_weak [(0, .ref 78), (1, .int (i32 (ld m 78 1)))] rfl ⟨rfl, rfl, trivial⟩ (s_r_hear_33 (by omega))
theorem s_r_isHeardFrom_7 {d : Nat} (hd : 5 ≤ d) : ∀ (n : Nat) {v2 : Int} {m : xm}, xw (am_E L xs bz) d am_m286 1 7 [(0, .ref 78), (2, .int (i32 v2))] [] m (r_isHeardFrom_7 n v2 m) := by
  intro n
  induction n with
  | zero => intros; exact w_none
  | succ n ih =>
    intro v2 m
    have hk7 := fun (v2 : Int) (m : xm) => @ih v2 m
    unfold r_isHeardFrom_7
    refine w_iload_n rfl rfl ?_
    refine w_aload_n rfl rfl ?_
    refine w_gfi rfl rfl (Nat.le_of_ble_eq_true rfl) rfl rfl ?_
    refine w_icmp_ge (tg := 69) rfl rfl rfl (w32_ld _ _ _) ?_ ?_
    · refine w_iconst rfl ?_
      exact w_retv rfl rfl
    · refine w_aload_n rfl rfl ?_
      refine w_aload_n rfl rfl ?_
      refine w_gfr (r := 117) rfl rfl (Nat.le_of_ble_eq_true rfl) rfl rfl ?_
      refine w_iconst rfl ?_
      refine w_iload_n rfl rfl ?_
      show xw _ _ _ _ 22 _ _ _ _
      refine w_imul rfl ?_
      refine w_iaload rfl rfl (fun x1 => ?_)
      refine w_call1 [.ref 78, .int (i32 x1)] [] (by omega) rfl rfl rfl rfl rfl rfl (Nat.le_of_ble_eq_true rfl) (fun _ => xrc_ok rfl) (Nat.le_of_ble_eq_true rfl) rfl rfl (s_r_canPlay (by omega)) (fun r2 m3 => ?_)
      refine w_if_ne (tg := 32) rfl rfl rfl ?_ ?_
      · refine w_aload_n rfl rfl ?_
        refine w_aload_n rfl rfl ?_
        refine w_gfr (r := 117) rfl rfl (Nat.le_of_ble_eq_true rfl) rfl rfl ?_
        refine w_iconst rfl ?_
        refine w_iload_n rfl rfl ?_
        show xw _ _ _ _ 39 _ _ _ _
        refine w_imul rfl ?_
        refine w_iaload rfl rfl (fun x4 => ?_)
        refine w_call0 [.ref 78, .int (i32 x4)] [] (by omega) rfl rfl rfl rfl rfl rfl (Nat.le_of_ble_eq_true rfl) (fun _ => xrc_ok rfl) (Nat.le_of_ble_eq_true rfl) rfl rfl (s_r_turns (by omega)) (fun r5 m6 => ?_)
        refine w_aload_n rfl rfl ?_
        refine w_call1 [.ref 78] [] (by omega) rfl rfl rfl rfl rfl rfl (Nat.le_of_ble_eq_true rfl) (fun _ => xrc_ok rfl) (Nat.le_of_ble_eq_true rfl) rfl rfl (s_r_openNow (by omega)) (fun r7 m8 => ?_)
        refine w_aload_n rfl rfl ?_
        show xw _ _ _ _ 49 _ _ _ _
        refine w_gfr (r := 117) rfl rfl (Nat.le_of_ble_eq_true rfl) rfl rfl ?_
        refine w_iconst rfl ?_
        refine w_iload_n rfl rfl ?_
        refine w_imul rfl ?_
        refine w_iconst rfl ?_
        refine w_iadd rfl ?_
        show xw _ _ _ _ 57 _ _ _ _
        refine w_iaload rfl rfl (fun x9 => ?_)
        refine w_icmp_eq (tg := 63) rfl rfl rfl rfl ?_ ?_
        · refine w_iinc (lsd := [(2, .int (i32 (v2 + 1))), (0, .ref 78)]) rfl (Nat.le_of_ble_eq_true rfl) rfl rfl ?_
          refine w_goto (tg := 7) rfl rfl ?_
          exact w_weak [(0, .ref 78), (2, .int (i32 (v2 + 1)))] rfl ⟨rfl, rfl, trivial⟩ (hk7 (v2 + 1) m8)
        · refine w_iconst rfl ?_
          exact w_retv rfl rfl
      · refine w_iconst rfl ?_
        exact w_retv rfl rfl
theorem s_r_isHeardFrom {d : Nat} {v1 : Int} {m : xm} (hd : 5 ≤ d) : xw (am_E L xs bz) d am_m286 1 0 [(0, .ref 78), (1, .int (i32 v1))] [] m (r_isHeardFrom v1 m) := by
  unfold r_isHeardFrom
  refine w_aload_n rfl rfl ?_
  refine w_iload_n rfl rfl ?_
  refine w_call0 [.ref 78, .int (i32 v1)] [] (by omega) rfl rfl rfl rfl rfl rfl (Nat.le_of_ble_eq_true rfl) (fun _ => xrc_ok rfl) (Nat.le_of_ble_eq_true rfl) rfl rfl (s_r_isState (by omega)) (fun r1 m2 => ?_)
  refine w_iconst rfl ?_
  refine w_istore_n (lsd := [(2, .int (i32 0)), (0, .ref 78), (1, .int (i32 v1))]) rfl (Nat.le_of_ble_eq_true rfl) rfl ?_
  exact w_weak [(0, .ref 78), (2, .int (i32 0))] rfl ⟨rfl, rfl, trivial⟩ (s_r_isHeardFrom_7 (by omega) _)
theorem s_r_starts_77 {d : Nat} (hd : 6 ≤ d) {v1 : Int} {v2 : Int} {v3 : Int} {v4 : Int} {m : xm} : xw (am_E L xs bz) d am_m285 1 77 [(0, .ref 78), (1, .int (i32 v1)), (2, .int (i32 v2)), (3, .int (i32 v3)), (4, .int (i32 v4))] [] m (r_starts_77 v1 v2 v3 v4 m) := by
  unfold r_starts_77
  refine w_aload_n rfl rfl ?_
  refine w_call0 [.ref 78] [] (by omega) rfl rfl rfl rfl rfl rfl (Nat.le_of_ble_eq_true rfl) (fun _ => xrc_ok rfl) (Nat.le_of_ble_eq_true rfl) rfl rfl (s_r_takesBack (by omega)) (fun r1 m2 => ?_)
  refine w_iload_n rfl rfl ?_
  refine w_if_ne (tg := 89) rfl rfl rfl ?_ ?_
  · refine w_iload_n rfl rfl ?_
    refine w_iconst rfl ?_
    refine w_icmp_ne (tg := 98) rfl rfl rfl rfl ?_ ?_
    · refine w_iload rfl rfl ?_
      exact w_retv rfl rfl
    · refine w_iload_n rfl rfl ?_
      refine w_goto (tg := 100) rfl rfl ?_
      exact w_retv rfl rfl
  · refine w_iload_n rfl rfl ?_
    refine w_goto (tg := 100) rfl rfl ?_
    exact w_retv rfl rfl
theorem s_r_starts_71 {d : Nat} {k35 : Int → Int → Int → Int → Int → xm → xr} (hd : 6 ≤ d) (hk35 : ∀ (v1 v2 v3 v4 v5 : Int) (m : xm), xw (am_E L xs bz) d am_m285 1 35 [(0, .ref 78), (1, .int (i32 v1)), (2, .int (i32 v2)), (3, .int (i32 v3)), (4, .int (i32 v4)), (5, .int (i32 v5))] [] m (k35 v1 v2 v3 v4 v5 m)) {v1 : Int} {v2 : Int} {v3 : Int} {v4 : Int} {v5 : Int} {m : xm} : xw (am_E L xs bz) d am_m285 1 71 [(0, .ref 78), (1, .int (i32 v1)), (2, .int (i32 v2)), (3, .int (i32 v3)), (4, .int (i32 v4)), (5, .int (i32 v5))] [] m (r_starts_71 k35 v1 v2 v3 v4 v5 m) := by
  unfold r_starts_71
  refine w_iinc (lsd := [(5, .int (i32 (v5 + 1))), (0, .ref 78), (1, .int (i32 v1)), (2, .int (i32 v2)), (3, .int (i32 v3)), (4, .int (i32 v4))]) rfl (Nat.le_of_ble_eq_true rfl) rfl rfl ?_
  refine w_goto (tg := 35) rfl rfl ?_
  exact w_weak [(0, .ref 78), (1, .int (i32 v1)), (2, .int (i32 v2)), (3, .int (i32 v3)), (4, .int (i32 v4)), (5, .int (i32 (v5 + 1)))] rfl ⟨rfl, rfl, rfl, rfl, rfl, rfl, trivial⟩ (hk35 v1 v2 v3 v4 (v5 + 1) m)
theorem s_r_starts_67 {d : Nat} {k35 : Int → Int → Int → Int → Int → xm → xr} (hd : 6 ≤ d) (hk35 : ∀ (v1 v2 v3 v4 v5 : Int) (m : xm), xw (am_E L xs bz) d am_m285 1 35 [(0, .ref 78), (1, .int (i32 v1)), (2, .int (i32 v2)), (3, .int (i32 v3)), (4, .int (i32 v4)), (5, .int (i32 v5))] [] m (k35 v1 v2 v3 v4 v5 m)) {v1 : Int} {v2 : Int} {v3 : Int} {v5 : Int} {m : xm} : xw (am_E L xs bz) d am_m285 1 67 [(0, .ref 78), (1, .int (i32 v1)), (2, .int (i32 v2)), (3, .int (i32 v3)), (5, .int (i32 v5))] [] m (r_starts_67 k35 v1 v2 v3 v5 m) := by
  unfold r_starts_67
  refine w_iload rfl rfl ?_
  refine w_istore (lsd := [(4, .int (i32 v5)), (0, .ref 78), (1, .int (i32 v1)), (2, .int (i32 v2)), (3, .int (i32 v3)), (5, .int (i32 v5))]) rfl (Nat.le_of_ble_eq_true rfl) rfl ?_
  exact w_weak [(0, .ref 78), (1, .int (i32 v1)), (2, .int (i32 v2)), (3, .int (i32 v3)), (4, .int (i32 v5)), (5, .int (i32 v5))] rfl ⟨rfl, rfl, rfl, rfl, rfl, rfl, trivial⟩ (s_r_starts_71 (by omega) hk35)
theorem s_r_starts_35 {d : Nat} (hd : 6 ≤ d) : ∀ (n : Nat) {v1 : Int} {v2 : Int} {v3 : Int} {v4 : Int} {v5 : Int} {m : xm}, xw (am_E L xs bz) d am_m285 1 35 [(0, .ref 78), (1, .int (i32 v1)), (2, .int (i32 v2)), (3, .int (i32 v3)), (4, .int (i32 v4)), (5, .int (i32 v5))] [] m (r_starts_35 n v1 v2 v3 v4 v5 m) := by
  intro n
  induction n with
  | zero => intros; exact w_none
  | succ n ih =>
    intro v1 v2 v3 v4 v5 m
    have hk35 := fun (v1 v2 v3 v4 v5 : Int) (m : xm) => @ih v1 v2 v3 v4 v5 m
    unfold r_starts_35
    refine w_iload rfl rfl ?_
    refine w_aload_n rfl rfl ?_
    refine w_call1 [.ref 78] [.int (i32 v5)] (by omega) rfl rfl rfl rfl rfl rfl (Nat.le_of_ble_eq_true rfl) (fun _ => xrc_ok rfl) (Nat.le_of_ble_eq_true rfl) rfl rfl (s_r_wardWays (by omega)) (fun r1 m2 => ?_)
    refine w_icmp_ge (tg := 77) rfl rfl rfl rfl ?_ ?_
    · exact w_weak [(0, .ref 78), (1, .int (i32 v1)), (2, .int (i32 v2)), (3, .int (i32 v3)), (4, .int (i32 v4))] rfl ⟨rfl, rfl, rfl, rfl, rfl, trivial⟩ (s_r_starts_77 (by omega))
    · refine w_aload_n rfl rfl ?_
      refine w_iload rfl rfl ?_
      refine w_call1 [.ref 78, .int (i32 v5)] [] (by omega) rfl rfl rfl rfl rfl rfl (Nat.le_of_ble_eq_true rfl) (fun _ => xrc_ok rfl) (Nat.le_of_ble_eq_true rfl) rfl rfl (s_r_isHeardFrom (by omega)) (fun r3 m4 => ?_)
      refine w_if_ne (tg := 56) rfl rfl rfl ?_ ?_
      · refine w_iinc (lsd := [(2, .int (i32 (v2 + 1))), (0, .ref 78), (1, .int (i32 v1)), (3, .int (i32 v3)), (4, .int (i32 v4)), (5, .int (i32 v5))]) rfl (Nat.le_of_ble_eq_true rfl) rfl rfl ?_
        refine w_iload_n rfl rfl ?_
        refine w_iconst rfl ?_
        refine w_icmp_ne (tg := 67) rfl rfl rfl rfl ?_ ?_
        · exact w_weak [(0, .ref 78), (1, .int (i32 v1)), (2, .int (i32 (v2 + 1))), (3, .int (i32 v3)), (5, .int (i32 v5))] rfl ⟨rfl, rfl, rfl, rfl, rfl, trivial⟩ (s_r_starts_67 (by omega) hk35)
        · refine w_iload rfl rfl ?_
          refine w_istore_n (lsd := [(3, .int (i32 v5)), (2, .int (i32 (v2 + 1))), (0, .ref 78), (1, .int (i32 v1)), (4, .int (i32 v4)), (5, .int (i32 v5))]) rfl (Nat.le_of_ble_eq_true rfl) rfl ?_
          exact w_weak [(0, .ref 78), (1, .int (i32 v1)), (2, .int (i32 (v2 + 1))), (3, .int (i32 v5)), (5, .int (i32 v5))] rfl ⟨rfl, rfl, rfl, rfl, rfl, trivial⟩ (s_r_starts_67 (by omega) hk35)
      · refine w_goto (tg := 71) rfl rfl ?_
        exact w_weak [(0, .ref 78), (1, .int (i32 v1)), (2, .int (i32 v2)), (3, .int (i32 v3)), (4, .int (i32 v4)), (5, .int (i32 v5))] rfl ⟨rfl, rfl, rfl, rfl, rfl, rfl, trivial⟩ (s_r_starts_71 (by omega) hk35)
theorem s_r_starts {d : Nat} {v1 : Int} {m : xm} (hd : 6 ≤ d) : xw (am_E L xs bz) d am_m285 1 0 [(0, .ref 78), (1, .int (i32 v1))] [] m (r_starts v1 m) := by
  unfold r_starts
  refine w_aload_n rfl rfl ?_
  refine w_gfi rfl rfl (Nat.le_of_ble_eq_true rfl) rfl rfl ?_
  refine w_if_eq (tg := 19) rfl rfl (w32_ld _ _ _) ?_ ?_
  · refine w_iconst rfl ?_
    exact w_retv rfl rfl
  · refine w_iload_n rfl rfl ?_
    refine w_i2l (x' := w32 v1) rfl rfl ?_
    refine w_lconst (z := 0) rfl rfl ?_
    refine w_ldc2w (z := 2) rfl rfl rfl ?_
    refine w_call1 [.long (i64 (w32 v1)), .long (i64 0), .long (i64 2)] [] (by omega) rfl rfl rfl rfl rfl rfl (Nat.le_of_ble_eq_true rfl) (fun z => by cases z) (Nat.le_of_ble_eq_true rfl) rfl rfl (s_r_isIn (by omega)) (fun r1 m2 => ?_)
    show xw _ _ _ _ 16 _ _ _ _
    refine w_if_ne (tg := 21) rfl rfl rfl ?_ ?_
    · refine w_iconst rfl ?_
      refine w_istore_n (lsd := [(2, .int (i32 0)), (0, .ref 78), (1, .int (i32 v1))]) rfl (Nat.le_of_ble_eq_true rfl) rfl ?_
      refine w_iconst rfl ?_
      refine w_istore_n (lsd := [(3, .int (i32 (-1))), (2, .int (i32 0)), (0, .ref 78), (1, .int (i32 v1))]) rfl (Nat.le_of_ble_eq_true rfl) rfl ?_
      refine w_iconst rfl ?_
      show xw _ _ _ _ 26 _ _ _ _
      refine w_istore (lsd := [(4, .int (i32 (-1))), (3, .int (i32 (-1))), (2, .int (i32 0)), (0, .ref 78), (1, .int (i32 v1))]) rfl (Nat.le_of_ble_eq_true rfl) rfl ?_
      refine w_aload_n rfl rfl ?_
      refine w_call0 [.ref 78] [] (by omega) rfl rfl rfl rfl rfl rfl (Nat.le_of_ble_eq_true rfl) (fun _ => xrc_ok rfl) (Nat.le_of_ble_eq_true rfl) rfl rfl (s_r_putsAside (by omega)) (fun r3 m4 => ?_)
      refine w_iconst rfl ?_
      refine w_istore (lsd := [(5, .int (i32 0)), (4, .int (i32 (-1))), (3, .int (i32 (-1))), (2, .int (i32 0)), (0, .ref 78), (1, .int (i32 v1))]) rfl (Nat.le_of_ble_eq_true rfl) rfl ?_
      exact w_weak [(0, .ref 78), (1, .int (i32 v1)), (2, .int (i32 0)), (3, .int (i32 (-1))), (4, .int (i32 (-1))), (5, .int (i32 0))] rfl ⟨rfl, rfl, rfl, rfl, rfl, rfl, trivial⟩ (s_r_starts_35 (by omega) _)
    · refine w_iconst rfl ?_
      exact w_retv rfl rfl
end S08
