section S07
variable {L : Nat} {xs : Nat → Int32} {bz : Bool}
theorem s_r_statementTold_118 {d : Nat} (hd : 10 ≤ d) {m : xm} : xw (am_E L xs bz) d am_m186 0 118 [(0, .ref 78)] [] m (r_statementTold_118 m) := by
  unfold r_statementTold_118
  refine w_aload_n rfl rfl ?_
  refine w_bipush rfl rfl ?_
  refine w_call0 [.ref 78, .int (i32 59)] [] (by omega) rfl rfl rfl rfl rfl rfl (Nat.le_of_ble_eq_true rfl) (fun _ => xrc_ok rfl) (Nat.le_of_ble_eq_true rfl) rfl rfl (s_r_asksSign (by omega)) (fun r1 m2 => ?_)
  refine w_aload_n rfl rfl ?_
  refine w_dup rfl rfl ?_
  show xw _ _ _ _ 126 _ _ _ _
  refine w_gfi rfl rfl (Nat.le_of_ble_eq_true rfl) rfl rfl ?_
  refine w_iconst rfl ?_
  refine w_iadd rfl ?_
  refine w_pfi rfl rfl (Nat.le_of_ble_eq_true rfl) rfl rfl rfl (fun m3 => ?_)
  exact w_retv (x := 0) rfl rfl
theorem s_r_statementTold {d : Nat} {m : xm} (hd : 10 ≤ d) : xw (am_E L xs bz) d am_m186 0 0 [(0, .ref 78)] [] m (r_statementTold m) := by
  unfold r_statementTold
  refine w_aload_n rfl rfl ?_
  refine w_gfi rfl rfl (Nat.le_of_ble_eq_true rfl) rfl rfl ?_
  refine w_istore_n (lsd := [(1, .int (i32 (ld m 78 2))), (0, .ref 78)]) rfl (Nat.le_of_ble_eq_true rfl) rfl ?_
  refine w_aload_n rfl rfl ?_
  refine w_gfi rfl rfl (Nat.le_of_ble_eq_true rfl) rfl rfl ?_
  show xw _ _ _ _ 9 _ _ _ _
  refine w_bipush rfl rfl ?_
  refine w_icmp_ne (tg := 21) rfl rfl (w32_ld _ _ _) rfl ?_ ?_
  · refine w_aload_n rfl rfl ?_
    refine w_aload_n rfl rfl ?_
    refine w_gfr (r := 81) rfl rfl (Nat.le_of_ble_eq_true rfl) rfl rfl ?_
    refine w_call1 [.ref 78, .ref 81] [] (by omega) rfl rfl rfl rfl rfl rfl (Nat.le_of_ble_eq_true rfl) (fun _ => xrc_ok rfl) (Nat.le_of_ble_eq_true rfl) rfl rfl (s_r_takes (by omega) rfl) (fun r1 m2 => ?_)
    refine w_if_eq (tg := 40) rfl rfl rfl ?_ ?_
    · refine w_aload_n rfl rfl ?_
      refine w_aload_n rfl rfl ?_
      refine w_gfr (r := 85) rfl rfl (Nat.le_of_ble_eq_true rfl) rfl rfl ?_
      refine w_call1 [.ref 78, .ref 85] [] (by omega) rfl rfl rfl rfl rfl rfl (Nat.le_of_ble_eq_true rfl) (fun _ => xrc_ok rfl) (Nat.le_of_ble_eq_true rfl) rfl rfl (s_r_takes (by omega) rfl) (fun r3 m4 => ?_)
      refine w_if_eq (tg := 59) rfl rfl rfl ?_ ?_
      · refine w_aload_n rfl rfl ?_
        refine w_aload_n rfl rfl ?_
        refine w_gfr (r := 87) rfl rfl (Nat.le_of_ble_eq_true rfl) rfl rfl ?_
        refine w_call1 [.ref 78, .ref 87] [] (by omega) rfl rfl rfl rfl rfl rfl (Nat.le_of_ble_eq_true rfl) (fun _ => xrc_ok rfl) (Nat.le_of_ble_eq_true rfl) rfl rfl (s_r_takes (by omega) rfl) (fun r5 m6 => ?_)
        refine w_if_eq (tg := 78) rfl rfl rfl ?_ ?_
        · refine w_aload_n rfl rfl ?_
          refine w_aload_n rfl rfl ?_
          refine w_gfr (r := 89) rfl rfl (Nat.le_of_ble_eq_true rfl) rfl rfl ?_
          refine w_call1 [.ref 78, .ref 89] [] (by omega) rfl rfl rfl rfl rfl rfl (Nat.le_of_ble_eq_true rfl) (fun _ => xrc_ok rfl) (Nat.le_of_ble_eq_true rfl) rfl rfl (s_r_takes (by omega) rfl) (fun r7 m8 => ?_)
          refine w_if_eq (tg := 97) rfl rfl rfl ?_ ?_
          · refine w_aload_n rfl rfl ?_
            refine w_aload_n rfl rfl ?_
            refine w_gfr (r := 91) rfl rfl (Nat.le_of_ble_eq_true rfl) rfl rfl ?_
            refine w_call0 [.ref 78, .ref 91] [] (by omega) rfl rfl rfl rfl rfl rfl (Nat.le_of_ble_eq_true rfl) (fun _ => xrc_ok rfl) (Nat.le_of_ble_eq_true rfl) rfl rfl (s_r_asks (by omega) rfl) (fun r9 m10 => ?_)
            refine w_aload_n rfl rfl ?_
            show xw _ _ _ _ 106 _ _ _ _
            refine w_gfr (r := 106) rfl rfl (Nat.le_of_ble_eq_true rfl) rfl rfl ?_
            refine w_iconst rfl ?_
            refine w_aload_n rfl rfl ?_
            refine w_iconst rfl ?_
            refine w_bipush rfl rfl ?_
            refine w_call1 [.ref 78, .int (i32 0), .int (i32 100)] [.int (i32 0), .ref 106] (by omega) rfl rfl rfl rfl rfl rfl (Nat.le_of_ble_eq_true rfl) (fun _ => xrc_ok rfl) (Nat.le_of_ble_eq_true rfl) rfl rfl (s_r_number (by omega)) (fun r11 m12 => ?_)
            show xw _ _ _ _ 117 _ _ _ _
            refine w_iastore rfl rfl (fun m13 => ?_)
            exact w_weak [(0, .ref 78)] rfl ⟨rfl, trivial⟩ (s_r_statementTold_118 (by omega))
          · refine w_aload_n rfl rfl ?_
            refine w_iload_n rfl rfl ?_
            refine w_call0 [.ref 78, .int (i32 (ld m 78 2))] [] (by omega) rfl rfl rfl rfl rfl rfl (Nat.le_of_ble_eq_true rfl) (fun _ => xrc_ok rfl) (Nat.le_of_ble_eq_true rfl) rfl rfl (s_r_playerTold (by omega)) (fun r14 m15 => ?_)
            refine w_goto (tg := 118) rfl rfl ?_
            exact w_weak [(0, .ref 78)] rfl ⟨rfl, trivial⟩ (s_r_statementTold_118 (by omega))
        · refine w_aload_n rfl rfl ?_
          refine w_iload_n rfl rfl ?_
          refine w_call0 [.ref 78, .int (i32 (ld m 78 2))] [] (by omega) rfl rfl rfl rfl rfl rfl (Nat.le_of_ble_eq_true rfl) (fun _ => xrc_ok rfl) (Nat.le_of_ble_eq_true rfl) rfl rfl (s_r_doorTold (by omega)) (fun r16 m17 => ?_)
          refine w_goto (tg := 118) rfl rfl ?_
          exact w_weak [(0, .ref 78)] rfl ⟨rfl, trivial⟩ (s_r_statementTold_118 (by omega))
      · refine w_aload_n rfl rfl ?_
        refine w_iload_n rfl rfl ?_
        refine w_call0 [.ref 78, .int (i32 (ld m 78 2))] [] (by omega) rfl rfl rfl rfl rfl rfl (Nat.le_of_ble_eq_true rfl) (fun _ => xrc_ok rfl) (Nat.le_of_ble_eq_true rfl) rfl rfl (s_r_noteTold (by omega)) (fun r18 m19 => ?_)
        refine w_goto (tg := 118) rfl rfl ?_
        exact w_weak [(0, .ref 78)] rfl ⟨rfl, trivial⟩ (s_r_statementTold_118 (by omega))
    · refine w_aload_n rfl rfl ?_
      refine w_iload_n rfl rfl ?_
      refine w_call0 [.ref 78, .int (i32 (ld m 78 2))] [] (by omega) rfl rfl rfl rfl rfl rfl (Nat.le_of_ble_eq_true rfl) (fun _ => xrc_ok rfl) (Nat.le_of_ble_eq_true rfl) rfl rfl (s_r_lockTold (by omega)) (fun r20 m21 => ?_)
      refine w_goto (tg := 118) rfl rfl ?_
      exact w_weak [(0, .ref 78)] rfl ⟨rfl, trivial⟩ (s_r_statementTold_118 (by omega))
  · refine w_aload_n rfl rfl ?_
    refine w_iconst rfl ?_
    refine w_iload_n rfl rfl ?_
    refine w_call0 [.ref 78, .int (i32 5), .int (i32 (ld m 78 2))] [] (by omega) rfl rfl rfl rfl rfl rfl (Nat.le_of_ble_eq_true rfl) (fun _ => xrc_ok rfl) (Nat.le_of_ble_eq_true rfl) rfl rfl (s_r_fail (by omega)) (fun r22 m23 => ?_)
    exact w_retv (x := 0) rfl rfl
theorem s_r_hall_92 {d : Nat} (hd : 11 ≤ d) {m : xm} : xw (am_E L xs bz) d am_m184 1 92 [(0, .ref 78)] [] m (r_hall_92 m) := by
  unfold r_hall_92
  refine w_aload_n rfl rfl ?_
  refine w_aload_n rfl rfl ?_
  refine w_gfi rfl rfl (Nat.le_of_ble_eq_true rfl) rfl rfl ?_
  refine w_pfi rfl rfl (Nat.le_of_ble_eq_true rfl) rfl rfl rfl (fun m1 => ?_)
  refine w_aload_n rfl rfl ?_
  show xw _ _ _ _ 101 _ _ _ _
  refine w_aload_n rfl rfl ?_
  refine w_gfi rfl rfl (Nat.le_of_ble_eq_true rfl) rfl rfl ?_
  refine w_pfi rfl rfl (Nat.le_of_ble_eq_true rfl) rfl rfl rfl (fun m2 => ?_)
  refine w_aload_n rfl rfl ?_
  refine w_gfi rfl rfl (Nat.le_of_ble_eq_true rfl) rfl rfl ?_
  refine w_if_eq (tg := 127) rfl rfl (w32_ld _ _ _) ?_ ?_
  · refine w_aload_n rfl rfl ?_
    refine w_call0 [.ref 78] [] (by omega) rfl rfl rfl rfl rfl rfl (Nat.le_of_ble_eq_true rfl) (fun _ => xrc_ok rfl) (Nat.le_of_ble_eq_true rfl) rfl rfl (s_r_stands (by omega)) (fun r3 m4 => ?_)
    refine w_aload_n rfl rfl ?_
    refine w_gfi rfl rfl (Nat.le_of_ble_eq_true rfl) rfl rfl ?_
    exact w_retv rfl rfl
  · refine w_aload_n rfl rfl ?_
    refine w_gfr (r := 80) rfl rfl (Nat.le_of_ble_eq_true rfl) rfl rfl ?_
    refine w_iconst rfl ?_
    refine w_dup2 rfl rfl rfl ?_
    refine w_iaload rfl rfl (fun x5 => ?_)
    show xw _ _ _ _ 122 _ _ _ _
    refine w_iconst rfl ?_
    refine w_iadd rfl ?_
    refine w_iastore rfl rfl (fun m6 => ?_)
    refine w_iconst rfl ?_
    exact w_retv rfl rfl
theorem s_r_hall_70 {d : Nat} (hd : 11 ≤ d) : ∀ (n : Nat) {m : xm}, xw (am_E L xs bz) d am_m184 1 70 [(0, .ref 78)] [] m (r_hall_70 n m) := by
  intro n
  induction n with
  | zero => intros; exact w_none
  | succ n ih =>
    intro m
    have hk70 := fun (m : xm) => @ih m
    unfold r_hall_70
    refine w_aload_n rfl rfl ?_
    refine w_gfi rfl rfl (Nat.le_of_ble_eq_true rfl) rfl rfl ?_
    refine w_if_ne (tg := 92) rfl rfl (w32_ld _ _ _) ?_ ?_
    · exact w_weak [(0, .ref 78)] rfl ⟨rfl, trivial⟩ (s_r_hall_92 (by omega))
    · refine w_aload_n rfl rfl ?_
      refine w_call1 [.ref 78] [] (by omega) rfl rfl rfl rfl rfl rfl (Nat.le_of_ble_eq_true rfl) (fun _ => xrc_ok rfl) (Nat.le_of_ble_eq_true rfl) rfl rfl (s_r_look (by omega)) (fun r1 m2 => ?_)
      refine w_iconst rfl ?_
      refine w_icmp_eq (tg := 92) rfl rfl rfl rfl ?_ ?_
      · exact w_weak [(0, .ref 78)] rfl ⟨rfl, trivial⟩ (s_r_hall_92 (by omega))
      · refine w_aload_n rfl rfl ?_
        refine w_call0 [.ref 78] [] (by omega) rfl rfl rfl rfl rfl rfl (Nat.le_of_ble_eq_true rfl) (fun _ => xrc_ok rfl) (Nat.le_of_ble_eq_true rfl) rfl rfl (s_r_statementTold (by omega)) (fun r3 m4 => ?_)
        refine w_goto (tg := 70) rfl rfl ?_
        exact w_weak [(0, .ref 78)] rfl ⟨rfl, trivial⟩ (hk70 m4)
theorem s_r_hall_63 {d : Nat} (hd : 11 ≤ d) {m : xm} : xw (am_E L xs bz) d am_m184 1 63 [(0, .ref 78)] [] m (r_hall_63 m) := by
  unfold r_hall_63
  refine w_aload_n rfl rfl ?_
  refine w_gfr (r := 106) rfl rfl (Nat.le_of_ble_eq_true rfl) rfl rfl ?_
  refine w_iconst rfl ?_
  refine w_iconst rfl ?_
  refine w_iastore rfl rfl (fun m1 => ?_)
  exact w_weak [(0, .ref 78)] rfl ⟨rfl, trivial⟩ (s_r_hall_70 (by omega) _)
theorem s_r_hall_45 {d : Nat} (hd : 11 ≤ d) : ∀ (n : Nat) {v1 : Int} {m : xm}, xw (am_E L xs bz) d am_m184 1 45 [(0, .ref 78), (1, .int (i32 v1))] [] m (r_hall_45 n v1 m) := by
  intro n
  induction n with
  | zero => intros; exact w_none
  | succ n ih =>
    intro v1 m
    have hk45 := fun (v1 : Int) (m : xm) => @ih v1 m
    unfold r_hall_45
    refine w_iload_n rfl rfl ?_
    refine w_iconst rfl ?_
    refine w_icmp_ge (tg := 63) rfl rfl rfl rfl ?_ ?_
    · exact w_weak [(0, .ref 78)] rfl ⟨rfl, trivial⟩ (s_r_hall_63 (by omega))
    · refine w_aload_n rfl rfl ?_
      refine w_gfr (r := 101) rfl rfl (Nat.le_of_ble_eq_true rfl) rfl rfl ?_
      refine w_iload_n rfl rfl ?_
      refine w_iconst rfl ?_
      refine w_iastore rfl rfl (fun m1 => ?_)
      show xw _ _ _ _ 57 _ _ _ _
      refine w_iinc (lsd := [(1, .int (i32 (v1 + 1))), (0, .ref 78)]) rfl (Nat.le_of_ble_eq_true rfl) rfl rfl ?_
      refine w_goto (tg := 45) rfl rfl ?_
      exact w_weak [(0, .ref 78), (1, .int (i32 (v1 + 1)))] rfl ⟨rfl, rfl, trivial⟩ (hk45 (v1 + 1) m1)
theorem s_r_hall {d : Nat} {m : xm} (hd : 11 ≤ d) : xw (am_E L xs bz) d am_m184 1 0 [(0, .ref 78)] [] m (r_hall m) := by
  unfold r_hall
  refine w_aload_n rfl rfl ?_
  refine w_aload_n rfl rfl ?_
  refine w_gfi rfl rfl (Nat.le_of_ble_eq_true rfl) rfl rfl ?_
  refine w_pfi rfl rfl (Nat.le_of_ble_eq_true rfl) rfl rfl rfl (fun m1 => ?_)
  refine w_aload_n rfl rfl ?_
  show xw _ _ _ _ 9 _ _ _ _
  refine w_iconst rfl ?_
  refine w_pfi rfl rfl (Nat.le_of_ble_eq_true rfl) rfl rfl rfl (fun m2 => ?_)
  refine w_aload_n rfl rfl ?_
  refine w_iconst rfl ?_
  refine w_pfi rfl rfl (Nat.le_of_ble_eq_true rfl) rfl rfl rfl (fun m3 => ?_)
  refine w_aload_n rfl rfl ?_
  show xw _ _ _ _ 19 _ _ _ _
  refine w_iconst rfl ?_
  refine w_pfi rfl rfl (Nat.le_of_ble_eq_true rfl) rfl rfl rfl (fun m4 => ?_)
  refine w_aload_n rfl rfl ?_
  refine w_iconst rfl ?_
  refine w_pfi rfl rfl (Nat.le_of_ble_eq_true rfl) rfl rfl rfl (fun m5 => ?_)
  refine w_aload_n rfl rfl ?_
  show xw _ _ _ _ 29 _ _ _ _
  refine w_iconst rfl ?_
  refine w_pfi rfl rfl (Nat.le_of_ble_eq_true rfl) rfl rfl rfl (fun m6 => ?_)
  refine w_aload_n rfl rfl ?_
  refine w_iconst rfl ?_
  refine w_pfi rfl rfl (Nat.le_of_ble_eq_true rfl) rfl rfl rfl (fun m7 => ?_)
  refine w_aload_n rfl rfl ?_
  show xw _ _ _ _ 39 _ _ _ _
  refine w_iconst rfl ?_
  refine w_pfi rfl rfl (Nat.le_of_ble_eq_true rfl) rfl rfl rfl (fun m8 => ?_)
  refine w_iconst rfl ?_
  refine w_istore_n (lsd := [(1, .int (i32 0)), (0, .ref 78)]) rfl (Nat.le_of_ble_eq_true rfl) rfl ?_
  exact w_weak [(0, .ref 78), (1, .int (i32 0))] rfl ⟨rfl, rfl, trivial⟩ (s_r_hall_45 (by omega) _)
theorem s_r_fault {d : Nat} {v1 : Int} {m : xm} (hd : 0 ≤ d) : xw (am_E L xs bz) d am_m228 1 0 [(0, .ref 78), (1, .int (i32 v1))] [] m (r_fault v1 m) := by
  unfold r_fault
  refine w_iload_n rfl rfl ?_
  refine w_if_ne (tg := 11) rfl rfl rfl ?_ ?_
  · refine w_iload_n rfl rfl ?_
    refine w_iconst rfl ?_
    refine w_icmp_ne (tg := 23) rfl rfl rfl rfl ?_ ?_
    · refine w_iconst rfl ?_
      exact w_retv rfl rfl
    · refine w_aload_n rfl rfl ?_
      refine w_gfi rfl rfl (Nat.le_of_ble_eq_true rfl) rfl rfl ?_
      refine w_goto (tg := 24) rfl rfl ?_
      exact w_retv rfl rfl
  · refine w_aload_n rfl rfl ?_
    refine w_gfi rfl rfl (Nat.le_of_ble_eq_true rfl) rfl rfl ?_
    refine w_goto (tg := 24) rfl rfl ?_
    exact w_retv rfl rfl
theorem s_r_jammedNow {d : Nat} {m : xm} (hd : 0 ≤ d) : xw (am_E L xs bz) d am_m230 1 0 [(0, .ref 78)] [] m (r_jammedNow m) := by
  unfold r_jammedNow
  refine w_aload_n rfl rfl ?_
  refine w_gfr (r := 110) rfl rfl (Nat.le_of_ble_eq_true rfl) rfl rfl ?_
  refine w_iconst rfl ?_
  refine w_iaload rfl rfl (fun x1 => ?_)
  exact w_retv rfl rfl
theorem s_r_doorMany {d : Nat} {m : xm} (hd : 0 ≤ d) : xw (am_E L xs bz) d am_m232 1 0 [(0, .ref 78)] [] m (r_doorMany m) := by
  unfold r_doorMany
  refine w_aload_n rfl rfl ?_
  refine w_gfr (r := 101) rfl rfl (Nat.le_of_ble_eq_true rfl) rfl rfl ?_
  refine w_bipush rfl rfl ?_
  refine w_iaload rfl rfl (fun x1 => ?_)
  exact w_retv rfl rfl
theorem s_r_qPuts {d : Nat} {v1 : Int} {m : xm} (hd : 0 ≤ d) : xw (am_E L xs bz) d am_m234 0 0 [(0, .ref 78), (1, .long (i64 v1))] [] m (r_qPuts v1 m) := by
  unfold r_qPuts
  refine w_aload_n rfl rfl ?_
  refine w_gfr (r := 140) rfl rfl (Nat.le_of_ble_eq_true rfl) rfl rfl ?_
  refine w_aload_n rfl rfl ?_
  refine w_gfi rfl rfl (Nat.le_of_ble_eq_true rfl) rfl rfl ?_
  refine w_lload_n rfl rfl ?_
  show xw _ _ _ _ 9 _ _ _ _
  refine w_lastore rfl (Nat.le_of_ble_eq_true rfl) rfl (fun m1 => ?_)
  refine w_aload_n rfl rfl ?_
  refine w_dup rfl rfl ?_
  refine w_gfi rfl rfl (Nat.le_of_ble_eq_true rfl) rfl rfl ?_
  refine w_iconst rfl ?_
  refine w_iadd rfl ?_
  show xw _ _ _ _ 17 _ _ _ _
  refine w_pfi rfl rfl (Nat.le_of_ble_eq_true rfl) rfl rfl rfl (fun m2 => ?_)
  exact w_retv (x := 0) rfl rfl
theorem s_r_qClip {d : Nat} {v0 : Int} {m : xm} (hd : 0 ≤ d) : xw (am_E L xs bz) d am_m240 2 0 [(0, .long (i64 v0))] [] m (r_qClip v0 m) := by
  unfold r_qClip
  refine w_lload_n rfl rfl ?_
  refine w_ldc2w (z := 1000000) rfl rfl rfl ?_
  refine w_lcmp_le (tg := 14) rfl rfl rfl rfl rfl ?_ ?_
  · refine w_lload_n rfl rfl ?_
    refine w_ldc2w (z := (-1000000)) rfl rfl rfl ?_
    refine w_lcmp_ge (tg := 28) rfl rfl rfl rfl rfl ?_ ?_
    · refine w_lload_n rfl rfl ?_
      exact w_retv rfl rfl
    · refine w_ldc2w (z := (-1000000)) rfl rfl rfl ?_
      refine w_goto (tg := 29) rfl rfl ?_
      exact w_retv rfl rfl
  · refine w_ldc2w (z := 1000000) rfl rfl rfl ?_
    refine w_goto (tg := 29) rfl rfl ?_
    exact w_retv rfl rfl
theorem s_r_qFloor_43 {d : Nat} (hd : 0 ≤ d) {v4 : Int} {s0 : Int} {s1 : Int} {m : xm} : xw (am_E L xs bz) d am_m246 2 43 [(4, .long (i64 v4))] [.int (i32 s1), .int (i32 s0)] m (r_qFloor_43 v4 s0 s1 m) := by
  unfold r_qFloor_43
  refine w_icmp_eq (tg := 53) rfl rfl rfl rfl ?_ ?_
  · refine w_lload rfl rfl ?_
    exact w_retv rfl rfl
  · refine w_lload rfl rfl ?_
    refine w_lconst (z := 1) rfl rfl ?_
    refine w_lsub rfl ?_
    refine w_goto (tg := 55) rfl rfl ?_
    exact w_retv rfl rfl
theorem s_r_qFloor_32 {d : Nat} (hd : 0 ≤ d) {v2 : Int} {v4 : Int} {s0 : Int} {m : xm} : xw (am_E L xs bz) d am_m246 2 32 [(2, .long (i64 v2)), (4, .long (i64 v4))] [.int (i32 s0)] m (r_qFloor_32 v2 v4 s0 m) := by
  unfold r_qFloor_32
  refine w_lload_n rfl rfl ?_
  refine w_lconst (z := 0) rfl rfl ?_
  refine w_lcmp_ge (tg := 42) rfl rfl rfl rfl rfl ?_ ?_
  · refine w_iconst rfl ?_
    exact w_weak [(4, .long (i64 v4))] rfl ⟨rfl, trivial⟩ (s_r_qFloor_43 (by omega))
  · refine w_iconst rfl ?_
    refine w_goto (tg := 43) rfl rfl ?_
    exact w_weak [(4, .long (i64 v4))] rfl ⟨rfl, trivial⟩ (s_r_qFloor_43 (by omega))
theorem s_r_qFloor {d : Nat} {v0 : Int} {v2 : Int} {m : xm} (hd : 0 ≤ d) : xw (am_E L xs bz) d am_m246 2 0 [(0, .long (i64 v0)), (2, .long (i64 v2))] [] m (r_qFloor v0 v2 m) := by
  unfold r_qFloor
  refine w_lload_n rfl rfl ?_
  refine w_lconst (z := 0) rfl rfl ?_
  refine w_lcmp_ne (tg := 8) rfl rfl rfl rfl rfl ?_ ?_
  · refine w_lload_n rfl rfl ?_
    refine w_lload_n rfl rfl ?_
    refine w_ldiv rfl rfl ?_
    refine w_letL (fun x1 => ?_)
    refine w_lstore (lsd := [(4, .long (i64 x1)), (0, .long (i64 v0)), (2, .long (i64 v2))]) rfl (Nat.le_of_ble_eq_true rfl) rfl ?_
    refine w_lload_n rfl rfl ?_
    show xw _ _ _ _ 14 _ _ _ _
    refine w_lload_n rfl rfl ?_
    refine w_lrem rfl rfl ?_
    refine w_lconst (z := 0) rfl rfl ?_
    refine w_lcmp_eq (tg := 53) rfl rfl rfl (w64_of _) rfl ?_ ?_
    · refine w_lload rfl rfl ?_
      exact w_retv rfl rfl
    · refine w_lload_n rfl rfl ?_
      refine w_lconst (z := 0) rfl rfl ?_
      refine w_lcmp_ge (tg := 31) rfl rfl rfl rfl rfl ?_ ?_
      · refine w_iconst rfl ?_
        exact w_weak [(2, .long (i64 v2)), (4, .long (i64 x1))] rfl ⟨rfl, rfl, trivial⟩ (s_r_qFloor_32 (by omega))
      · refine w_iconst rfl ?_
        refine w_goto (tg := 32) rfl rfl ?_
        exact w_weak [(2, .long (i64 v2)), (4, .long (i64 x1))] rfl ⟨rfl, rfl, trivial⟩ (s_r_qFloor_32 (by omega))
  · refine w_lconst (z := 0) rfl rfl ?_
    exact w_retv rfl rfl
theorem s_r_qJoins_270 {d : Nat} (hd : 1 ≤ d) {s1 : Int} {m : xm} : xw (am_E L xs bz) d am_m245 0 270 [] [.long (i64 s1), .ref 78] m (r_qJoins_270 s1 m) := by
  unfold r_qJoins_270
  refine w_call0 [.ref 78, .long (i64 s1)] [] (by omega) rfl rfl rfl rfl rfl rfl (Nat.le_of_ble_eq_true rfl) (fun _ => xrc_ok rfl) (Nat.le_of_ble_eq_true rfl) rfl rfl (s_r_qPuts (by omega)) (fun r1 m2 => ?_)
  exact w_retv (x := 0) rfl rfl
theorem s_r_qJoins_161 {d : Nat} (hd : 1 ≤ d) {s1 : Int} {m : xm} : xw (am_E L xs bz) d am_m245 0 161 [] [.long (i64 s1), .ref 78] m (r_qJoins_161 s1 m) := by
  unfold r_qJoins_161
  refine w_call0 [.ref 78, .long (i64 s1)] [] (by omega) rfl rfl rfl rfl rfl rfl (Nat.le_of_ble_eq_true rfl) (fun _ => xrc_ok rfl) (Nat.le_of_ble_eq_true rfl) rfl rfl (s_r_qPuts (by omega)) (fun r1 m2 => ?_)
  refine w_goto (tg := 273) rfl rfl ?_
  exact w_retv (x := 0) rfl rfl
theorem s_r_qJoins_181 {d : Nat} (hd : 1 ≤ d) {s1 : Int} {m : xm} : xw (am_E L xs bz) d am_m245 0 181 [] [.long (i64 s1), .ref 78] m (r_qJoins_181 s1 m) := by
  unfold r_qJoins_181
  refine w_call0 [.ref 78, .long (i64 s1)] [] (by omega) rfl rfl rfl rfl rfl rfl (Nat.le_of_ble_eq_true rfl) (fun _ => xrc_ok rfl) (Nat.le_of_ble_eq_true rfl) rfl rfl (s_r_qPuts (by omega)) (fun r1 m2 => ?_)
  refine w_goto (tg := 273) rfl rfl ?_
  exact w_retv (x := 0) rfl rfl
theorem s_r_qJoins_200 {d : Nat} (hd : 1 ≤ d) {s1 : Int} {m : xm} : xw (am_E L xs bz) d am_m245 0 200 [] [.long (i64 s1), .ref 78] m (r_qJoins_200 s1 m) := by
  unfold r_qJoins_200
  refine w_call0 [.ref 78, .long (i64 s1)] [] (by omega) rfl rfl rfl rfl rfl rfl (Nat.le_of_ble_eq_true rfl) (fun _ => xrc_ok rfl) (Nat.le_of_ble_eq_true rfl) rfl rfl (s_r_qPuts (by omega)) (fun r1 m2 => ?_)
  refine w_goto (tg := 273) rfl rfl ?_
  exact w_retv (x := 0) rfl rfl
theorem s_r_qJoins_219 {d : Nat} (hd : 1 ≤ d) {s1 : Int} {m : xm} : xw (am_E L xs bz) d am_m245 0 219 [] [.long (i64 s1), .ref 78] m (r_qJoins_219 s1 m) := by
  unfold r_qJoins_219
  refine w_call0 [.ref 78, .long (i64 s1)] [] (by omega) rfl rfl rfl rfl rfl rfl (Nat.le_of_ble_eq_true rfl) (fun _ => xrc_ok rfl) (Nat.le_of_ble_eq_true rfl) rfl rfl (s_r_qPuts (by omega)) (fun r1 m2 => ?_)
  refine w_goto (tg := 273) rfl rfl ?_
  exact w_retv (x := 0) rfl rfl
theorem s_r_qJoins_238 {d : Nat} (hd : 1 ≤ d) {s1 : Int} {m : xm} : xw (am_E L xs bz) d am_m245 0 238 [] [.long (i64 s1), .ref 78] m (r_qJoins_238 s1 m) := by
  unfold r_qJoins_238
  refine w_call0 [.ref 78, .long (i64 s1)] [] (by omega) rfl rfl rfl rfl rfl rfl (Nat.le_of_ble_eq_true rfl) (fun _ => xrc_ok rfl) (Nat.le_of_ble_eq_true rfl) rfl rfl (s_r_qPuts (by omega)) (fun r1 m2 => ?_)
  refine w_goto (tg := 273) rfl rfl ?_
  exact w_retv (x := 0) rfl rfl
theorem s_r_qJoins {d : Nat} {v1 : Int} {m : xm} (hd : 1 ≤ d) : xw (am_E L xs bz) d am_m245 0 0 [(0, .ref 78), (1, .int (i32 v1))] [] m (r_qJoins v1 m) := by
  unfold r_qJoins
  refine w_aload_n rfl rfl ?_
  refine w_gfr (r := 140) rfl rfl (Nat.le_of_ble_eq_true rfl) rfl rfl ?_
  refine w_aload_n rfl rfl ?_
  refine w_gfi rfl rfl (Nat.le_of_ble_eq_true rfl) rfl rfl ?_
  refine w_iconst rfl ?_
  show xw _ _ _ _ 9 _ _ _ _
  refine w_isub rfl ?_
  refine w_laload rfl (Nat.le_of_ble_eq_true rfl) rfl (fun x1 => ?_)
  refine w_letL (fun x2 => ?_)
  refine w_lstore_n (lsd := [(2, .long (i64 x2)), (0, .ref 78), (1, .int (i32 v1))]) rfl (Nat.le_of_ble_eq_true rfl) rfl ?_
  refine w_aload_n rfl rfl ?_
  refine w_gfr (r := 140) rfl rfl (Nat.le_of_ble_eq_true rfl) rfl rfl ?_
  refine w_aload_n rfl rfl ?_
  show xw _ _ _ _ 17 _ _ _ _
  refine w_gfi rfl rfl (Nat.le_of_ble_eq_true rfl) rfl rfl ?_
  refine w_iconst rfl ?_
  refine w_isub rfl ?_
  refine w_laload rfl (Nat.le_of_ble_eq_true rfl) rfl (fun x3 => ?_)
  refine w_letL (fun x4 => ?_)
  refine w_lstore (lsd := [(4, .long (i64 x4)), (2, .long (i64 x2)), (0, .ref 78), (1, .int (i32 v1))]) rfl (Nat.le_of_ble_eq_true rfl) rfl ?_
  refine w_aload_n rfl rfl ?_
  show xw _ _ _ _ 26 _ _ _ _
  refine w_dup rfl rfl ?_
  refine w_gfi rfl rfl (Nat.le_of_ble_eq_true rfl) rfl rfl ?_
  refine w_iconst rfl ?_
  refine w_isub rfl ?_
  refine w_pfi rfl rfl (Nat.le_of_ble_eq_true rfl) rfl rfl rfl (fun m5 => ?_)
  refine w_iload_n rfl rfl ?_
  show xw _ _ _ _ 36 _ _ _ _
  refine w_tsw (t0 := 255) (fs := [56, 70, 84, 98, 111, 131, 151, 170, 189, 208]) rfl rfl rfl rfl rfl ?_ ?_
  · refine w_aload_n rfl rfl ?_
    refine w_lload rfl rfl ?_
    refine w_lload_n rfl rfl ?_
    refine w_ladd rfl ?_
    refine w_lconst (z := 0) rfl rfl ?_
    show xw _ _ _ _ 261 _ _ _ _
    refine w_lcmp_le (tg := 269) rfl rfl rfl rfl rfl ?_ ?_
    · refine w_lconst (z := 0) rfl rfl ?_
      exact w_weak [] rfl trivial (s_r_qJoins_270 (by omega))
    · refine w_lconst (z := 1) rfl rfl ?_
      refine w_goto (tg := 270) rfl rfl ?_
      exact w_weak [] rfl trivial (s_r_qJoins_270 (by omega))
  · refine ⟨⟨92, rfl, ?_⟩, ⟨106, rfl, ?_⟩, ⟨120, rfl, ?_⟩, ⟨134, rfl, ?_⟩, ⟨147, rfl, ?_⟩, ⟨167, rfl, ?_⟩, ⟨187, rfl, ?_⟩, ⟨206, rfl, ?_⟩, ⟨225, rfl, ?_⟩, ⟨244, rfl, ?_⟩, trivial⟩
    · refine w_aload_n rfl rfl ?_
      refine w_lload rfl rfl ?_
      refine w_lload_n rfl rfl ?_
      refine w_ladd rfl ?_
      refine w_call2 [.long (i64 (x4 + x2))] [.ref 78] (by omega) rfl rfl rfl rfl rfl rfl (Nat.le_of_ble_eq_true rfl) (fun z => by cases z) (Nat.le_of_ble_eq_true rfl) rfl rfl (s_r_qClip (by omega)) (fun r6 m7 => ?_)
      show xw _ _ _ _ 100 _ _ _ _
      refine w_call0 [.ref 78, .long (i64 r6)] [] (by omega) rfl rfl rfl rfl rfl rfl (Nat.le_of_ble_eq_true rfl) (fun _ => xrc_ok rfl) (Nat.le_of_ble_eq_true rfl) rfl rfl (s_r_qPuts (by omega)) (fun r8 m9 => ?_)
      refine w_goto (tg := 273) rfl rfl ?_
      exact w_retv (x := 0) rfl rfl
    · refine w_aload_n rfl rfl ?_
      refine w_lload rfl rfl ?_
      refine w_lload_n rfl rfl ?_
      refine w_lsub rfl ?_
      refine w_call2 [.long (i64 (x4 - x2))] [.ref 78] (by omega) rfl rfl rfl rfl rfl rfl (Nat.le_of_ble_eq_true rfl) (fun z => by cases z) (Nat.le_of_ble_eq_true rfl) rfl rfl (s_r_qClip (by omega)) (fun r10 m11 => ?_)
      show xw _ _ _ _ 114 _ _ _ _
      refine w_call0 [.ref 78, .long (i64 r10)] [] (by omega) rfl rfl rfl rfl rfl rfl (Nat.le_of_ble_eq_true rfl) (fun _ => xrc_ok rfl) (Nat.le_of_ble_eq_true rfl) rfl rfl (s_r_qPuts (by omega)) (fun r12 m13 => ?_)
      refine w_goto (tg := 273) rfl rfl ?_
      exact w_retv (x := 0) rfl rfl
    · refine w_aload_n rfl rfl ?_
      refine w_lload rfl rfl ?_
      refine w_lload_n rfl rfl ?_
      refine w_lmul rfl ?_
      refine w_call2 [.long (i64 (x4 * x2))] [.ref 78] (by omega) rfl rfl rfl rfl rfl rfl (Nat.le_of_ble_eq_true rfl) (fun z => by cases z) (Nat.le_of_ble_eq_true rfl) rfl rfl (s_r_qClip (by omega)) (fun r14 m15 => ?_)
      show xw _ _ _ _ 128 _ _ _ _
      refine w_call0 [.ref 78, .long (i64 r14)] [] (by omega) rfl rfl rfl rfl rfl rfl (Nat.le_of_ble_eq_true rfl) (fun _ => xrc_ok rfl) (Nat.le_of_ble_eq_true rfl) rfl rfl (s_r_qPuts (by omega)) (fun r16 m17 => ?_)
      refine w_goto (tg := 273) rfl rfl ?_
      exact w_retv (x := 0) rfl rfl
    · refine w_aload_n rfl rfl ?_
      refine w_lload rfl rfl ?_
      refine w_lload_n rfl rfl ?_
      refine w_call2 [.long (i64 x4), .long (i64 x2)] [.ref 78] (by omega) rfl rfl rfl rfl rfl rfl (Nat.le_of_ble_eq_true rfl) (fun z => by cases z) (Nat.le_of_ble_eq_true rfl) rfl rfl (s_r_qFloor (by omega)) (fun r18 m19 => ?_)
      refine w_call0 [.ref 78, .long (i64 r18)] [] (by omega) rfl rfl rfl rfl rfl rfl (Nat.le_of_ble_eq_true rfl) (fun _ => xrc_ok rfl) (Nat.le_of_ble_eq_true rfl) rfl rfl (s_r_qPuts (by omega)) (fun r20 m21 => ?_)
      show xw _ _ _ _ 144 _ _ _ _
      refine w_goto (tg := 273) rfl rfl ?_
      exact w_retv (x := 0) rfl rfl
    · refine w_aload_n rfl rfl ?_
      refine w_lload rfl rfl ?_
      refine w_lload_n rfl rfl ?_
      refine w_lcmp_ge (tg := 160) rfl rfl rfl rfl rfl ?_ ?_
      · refine w_lload_n rfl rfl ?_
        exact w_weak [] rfl trivial (s_r_qJoins_161 (by omega))
      · refine w_lload rfl rfl ?_
        refine w_goto (tg := 161) rfl rfl ?_
        exact w_weak [] rfl trivial (s_r_qJoins_161 (by omega))
    · refine w_aload_n rfl rfl ?_
      refine w_lload rfl rfl ?_
      refine w_lload_n rfl rfl ?_
      refine w_lcmp_le (tg := 180) rfl rfl rfl rfl rfl ?_ ?_
      · refine w_lload_n rfl rfl ?_
        exact w_weak [] rfl trivial (s_r_qJoins_181 (by omega))
      · refine w_lload rfl rfl ?_
        refine w_goto (tg := 181) rfl rfl ?_
        exact w_weak [] rfl trivial (s_r_qJoins_181 (by omega))
    · refine w_aload_n rfl rfl ?_
      refine w_lload rfl rfl ?_
      refine w_lload_n rfl rfl ?_
      refine w_lcmp_ge (tg := 199) rfl rfl rfl rfl rfl ?_ ?_
      · refine w_lconst (z := 0) rfl rfl ?_
        exact w_weak [] rfl trivial (s_r_qJoins_200 (by omega))
      · refine w_lconst (z := 1) rfl rfl ?_
        refine w_goto (tg := 200) rfl rfl ?_
        exact w_weak [] rfl trivial (s_r_qJoins_200 (by omega))
    · refine w_aload_n rfl rfl ?_
      refine w_lload rfl rfl ?_
      refine w_lload_n rfl rfl ?_
      refine w_lcmp_le (tg := 218) rfl rfl rfl rfl rfl ?_ ?_
      · refine w_lconst (z := 0) rfl rfl ?_
        exact w_weak [] rfl trivial (s_r_qJoins_219 (by omega))
      · refine w_lconst (z := 1) rfl rfl ?_
        refine w_goto (tg := 219) rfl rfl ?_
        exact w_weak [] rfl trivial (s_r_qJoins_219 (by omega))
    · refine w_aload_n rfl rfl ?_
      refine w_lload rfl rfl ?_
      refine w_lload_n rfl rfl ?_
      refine w_lcmp_ne (tg := 237) rfl rfl rfl rfl rfl ?_ ?_
      · refine w_lconst (z := 0) rfl rfl ?_
        exact w_weak [] rfl trivial (s_r_qJoins_238 (by omega))
      · refine w_lconst (z := 1) rfl rfl ?_
        refine w_goto (tg := 238) rfl rfl ?_
        exact w_weak [] rfl trivial (s_r_qJoins_238 (by omega))
    · refine w_aload_n rfl rfl ?_
      refine w_lload rfl rfl ?_
      refine w_lload_n rfl rfl ?_
      refine w_lmul rfl ?_
      refine w_call0 [.ref 78, .long (i64 (x4 * x2))] [] (by omega) rfl rfl rfl rfl rfl rfl (Nat.le_of_ble_eq_true rfl) (fun _ => xrc_ok rfl) (Nat.le_of_ble_eq_true rfl) rfl rfl (s_r_qPuts (by omega)) (fun r22 m23 => ?_)
      show xw _ _ _ _ 252 _ _ _ _
      refine w_goto (tg := 273) rfl rfl ?_
      exact w_retv (x := 0) rfl rfl
theorem s_r_isJammed {d : Nat} {v1 : Int} {m : xm} (hd : 1 ≤ d) : xw (am_E L xs bz) d am_m244 1 0 [(0, .ref 78), (1, .int (i32 v1))] [] m (r_isJammed v1 m) := by
  unfold r_isJammed
  refine w_aload_n rfl rfl ?_
  refine w_call1 [.ref 78] [] (by omega) rfl rfl rfl rfl rfl rfl (Nat.le_of_ble_eq_true rfl) (fun _ => xrc_ok rfl) (Nat.le_of_ble_eq_true rfl) rfl rfl (s_r_jammedNow (by omega)) (fun r1 m2 => ?_)
  refine w_iload_n rfl rfl ?_
  refine w_ishr rfl ?_
  refine w_iconst rfl ?_
  show xw _ _ _ _ 7 _ _ _ _
  refine w_iand rfl ?_
  refine w_iconst rfl ?_
  refine w_icmp_ne (tg := 16) rfl rfl (w32_of _) rfl ?_ ?_
  · refine w_iconst rfl ?_
    exact w_retv rfl rfl
  · refine w_iconst rfl ?_
    refine w_goto (tg := 17) rfl rfl ?_
    exact w_retv rfl rfl
theorem s_r_bits_4 {d : Nat} (hd : 0 ≤ d) : ∀ (n : Nat) {v1 : Int} {v2 : Int} {m : xm}, xw (am_E L xs bz) d am_m242 1 4 [(1, .int (i32 v1)), (2, .int (i32 v2))] [] m (r_bits_4 n v1 v2 m) := by
  intro n
  induction n with
  | zero => intros; exact w_none
  | succ n ih =>
    intro v1 v2 m
    have hk4 := fun (v1 v2 : Int) (m : xm) => @ih v1 v2 m
    unfold r_bits_4
    refine w_iload_n rfl rfl ?_
    refine w_if_eq (tg := 20) rfl rfl rfl ?_ ?_
    · refine w_iload_n rfl rfl ?_
      exact w_retv rfl rfl
    · refine w_iinc (lsd := [(1, .int (i32 (v1 + 1))), (2, .int (i32 v2))]) rfl (Nat.le_of_ble_eq_true rfl) rfl rfl ?_
      refine w_iload_n rfl rfl ?_
      refine w_iload_n rfl rfl ?_
      refine w_iconst rfl ?_
      refine w_isub rfl ?_
      show xw _ _ _ _ 15 _ _ _ _
      refine w_iand rfl ?_
      refine w_letI (fun x1 => ?_)
      refine w_istore_n (lsd := [(2, .int (i32 x1)), (1, .int (i32 (v1 + 1)))]) rfl (Nat.le_of_ble_eq_true rfl) rfl ?_
      refine w_goto (tg := 4) rfl rfl ?_
      exact w_weak [(1, .int (i32 (v1 + 1))), (2, .int (i32 x1))] rfl ⟨rfl, rfl, trivial⟩ (hk4 (v1 + 1) x1 m)
theorem s_r_bits {d : Nat} {v0 : Int} {m : xm} (hd : 0 ≤ d) : xw (am_E L xs bz) d am_m242 1 0 [(0, .int (i32 v0))] [] m (r_bits v0 m) := by
  unfold r_bits
  refine w_iconst rfl ?_
  refine w_istore_n (lsd := [(1, .int (i32 0)), (0, .int (i32 v0))]) rfl (Nat.le_of_ble_eq_true rfl) rfl ?_
  refine w_iload_n rfl rfl ?_
  refine w_istore_n (lsd := [(2, .int (i32 v0)), (1, .int (i32 0)), (0, .int (i32 v0))]) rfl (Nat.le_of_ble_eq_true rfl) rfl ?_
  exact w_weak [(1, .int (i32 0)), (2, .int (i32 v0))] rfl ⟨rfl, rfl, trivial⟩ (s_r_bits_4 (by omega) _)
theorem s_r_wardsOf {d : Nat} {v1 : Int} {m : xm} (hd : 0 ≤ d) : xw (am_E L xs bz) d am_m243 1 0 [(0, .ref 78), (1, .int (i32 v1))] [] m (r_wardsOf v1 m) := by
  unfold r_wardsOf
  refine w_aload_n rfl rfl ?_
  refine w_gfr (r := 103) rfl rfl (Nat.le_of_ble_eq_true rfl) rfl rfl ?_
  refine w_bipush rfl rfl ?_
  refine w_iconst rfl ?_
  refine w_iload_n rfl rfl ?_
  show xw _ _ _ _ 8 _ _ _ _
  refine w_imul rfl ?_
  refine w_iadd rfl ?_
  refine w_iaload rfl rfl (fun x1 => ?_)
  exact w_retv rfl rfl
theorem s_r_wardNow {d : Nat} {v1 : Int} {m : xm} (hd : 0 ≤ d) : xw (am_E L xs bz) d am_m237 1 0 [(0, .ref 78), (1, .int (i32 v1))] [] m (r_wardNow v1 m) := by
  unfold r_wardNow
  refine w_aload_n rfl rfl ?_
  refine w_gfr (r := 110) rfl rfl (Nat.le_of_ble_eq_true rfl) rfl rfl ?_
  refine w_iconst rfl ?_
  refine w_iload_n rfl rfl ?_
  refine w_iadd rfl ?_
  show xw _ _ _ _ 7 _ _ _ _
  refine w_iaload rfl rfl (fun x1 => ?_)
  exact w_retv rfl rfl
theorem s_r_qPartOf {d : Nat} {v1 : Int} {v2 : Int} {m : xm} (hd : 2 ≤ d) : xw (am_E L xs bz) d am_m241 2 0 [(0, .ref 78), (1, .int (i32 v1)), (2, .int (i32 v2))] [] m (r_qPartOf v1 v2 m) := by
  unfold r_qPartOf
  refine w_iload_n rfl rfl ?_
  refine w_tsw (t0 := 58) (fs := [31, 40, 43, 50]) rfl rfl rfl rfl rfl ?_ ?_
  · refine w_aload_n rfl rfl ?_
    refine w_iload_n rfl rfl ?_
    refine w_call1 [.ref 78, .int (i32 v2)] [] (by omega) rfl rfl rfl rfl rfl rfl (Nat.le_of_ble_eq_true rfl) (fun _ => xrc_ok rfl) (Nat.le_of_ble_eq_true rfl) rfl rfl (s_r_isJammed (by omega)) (fun r1 m2 => ?_)
    refine w_if_eq (tg := 70) rfl rfl rfl ?_ ?_
    · refine w_lconst (z := 0) rfl rfl ?_
      exact w_retv rfl rfl
    · refine w_lconst (z := 1) rfl rfl ?_
      refine w_goto (tg := 71) rfl rfl ?_
      exact w_retv rfl rfl
  · refine ⟨⟨32, rfl, ?_⟩, ⟨41, rfl, ?_⟩, ⟨44, rfl, ?_⟩, ⟨51, rfl, ?_⟩, trivial⟩
    · refine w_aload_n rfl rfl ?_
      refine w_call1 [.ref 78] [] (by omega) rfl rfl rfl rfl rfl rfl (Nat.le_of_ble_eq_true rfl) (fun _ => xrc_ok rfl) (Nat.le_of_ble_eq_true rfl) rfl rfl (s_r_jammedNow (by omega)) (fun r3 m4 => ?_)
      refine w_call1 [.int (i32 r3)] [] (by omega) rfl rfl rfl rfl rfl rfl (Nat.le_of_ble_eq_true rfl) (fun z => by cases z) (Nat.le_of_ble_eq_true rfl) rfl rfl (s_r_bits (by omega)) (fun r5 m6 => ?_)
      refine w_i2l (x' := w32 r5) rfl rfl ?_
      exact w_retv rfl rfl
    · refine w_iload_n rfl rfl ?_
      refine w_i2l (x' := w32 v2) rfl rfl ?_
      exact w_retv rfl rfl
    · refine w_aload_n rfl rfl ?_
      refine w_iload_n rfl rfl ?_
      refine w_call1 [.ref 78, .int (i32 v2)] [] (by omega) rfl rfl rfl rfl rfl rfl (Nat.le_of_ble_eq_true rfl) (fun _ => xrc_ok rfl) (Nat.le_of_ble_eq_true rfl) rfl rfl (s_r_wardsOf (by omega)) (fun r7 m8 => ?_)
      refine w_i2l (x' := w32 r7) rfl rfl ?_
      exact w_retv rfl rfl
    · refine w_aload_n rfl rfl ?_
      refine w_iload_n rfl rfl ?_
      refine w_call1 [.ref 78, .int (i32 v2)] [] (by omega) rfl rfl rfl rfl rfl rfl (Nat.le_of_ble_eq_true rfl) (fun _ => xrc_ok rfl) (Nat.le_of_ble_eq_true rfl) rfl rfl (s_r_wardNow (by omega)) (fun r9 m10 => ?_)
      refine w_i2l (x' := w32 r9) rfl rfl ?_
      exact w_retv rfl rfl
theorem s_r_noteMany {d : Nat} {m : xm} (hd : 0 ≤ d) : xw (am_E L xs bz) d am_m238 1 0 [(0, .ref 78)] [] m (r_noteMany m) := by
  unfold r_noteMany
  refine w_aload_n rfl rfl ?_
  refine w_gfr (r := 101) rfl rfl (Nat.le_of_ble_eq_true rfl) rfl rfl ?_
  refine w_iconst rfl ?_
  refine w_iaload rfl rfl (fun x1 => ?_)
  exact w_retv rfl rfl
theorem s_r_turnOf {d : Nat} {v1 : Int} {v2 : Int} {m : xm} (hd : 0 ≤ d) : xw (am_E L xs bz) d am_m239 1 0 [(0, .ref 78), (1, .int (i32 v1)), (2, .int (i32 v2))] [] m (r_turnOf v1 v2 m) := by
  unfold r_turnOf
  refine w_aload_n rfl rfl ?_
  refine w_gfr (r := 104) rfl rfl (Nat.le_of_ble_eq_true rfl) rfl rfl ?_
  refine w_bipush rfl rfl ?_
  refine w_iconst rfl ?_
  refine w_iload_n rfl rfl ?_
  show xw _ _ _ _ 8 _ _ _ _
  refine w_imul rfl ?_
  refine w_iadd rfl ?_
  refine w_iload_n rfl rfl ?_
  refine w_iadd rfl ?_
  refine w_iaload rfl rfl (fun x1 => ?_)
  exact w_retv rfl rfl
theorem s_r_lockMany {d : Nat} {m : xm} (hd : 0 ≤ d) : xw (am_E L xs bz) d am_m236 1 0 [(0, .ref 78)] [] m (r_lockMany m) := by
  unfold r_lockMany
  refine w_aload_n rfl rfl ?_
  refine w_gfr (r := 101) rfl rfl (Nat.le_of_ble_eq_true rfl) rfl rfl ?_
  refine w_iconst rfl ?_
  refine w_iaload rfl rfl (fun x1 => ?_)
  exact w_retv rfl rfl
theorem s_r_qOf {d : Nat} {v1 : Int} {v2 : Int} {v4 : Int} {m : xm} (hd : 1 ≤ d) : xw (am_E L xs bz) d am_m235 2 0 [(0, .ref 78), (1, .int (i32 v1)), (2, .long (i64 v2)), (4, .int (i32 v4))] [] m (r_qOf v1 v2 v4 m) := by
  unfold r_qOf
  refine w_iload_n rfl rfl ?_
  refine w_lsw (t0 := 49) (fs := [(0, 19)]) rfl rfl rfl rfl rfl ?_ ?_
  · refine w_lload_n rfl rfl ?_
    refine w_lconst (z := 0) rfl rfl ?_
    refine w_aload_n rfl rfl ?_
    refine w_call1 [.ref 78] [.long (i64 0), .long (i64 v2)] (by omega) rfl rfl rfl rfl rfl rfl (Nat.le_of_ble_eq_true rfl) (fun _ => xrc_ok rfl) (Nat.le_of_ble_eq_true rfl) rfl rfl (s_r_noteMany (by omega)) (fun r1 m2 => ?_)
    refine w_iconst rfl ?_
    show xw _ _ _ _ 56 _ _ _ _
    refine w_isub rfl ?_
    refine w_i2l (x' := w32 (r1 - 1)) rfl rfl ?_
    refine w_call1 [.long (i64 v2), .long (i64 0), .long (i64 (w32 (r1 - 1)))] [] (by omega) rfl rfl rfl rfl rfl rfl (Nat.le_of_ble_eq_true rfl) (fun z => by cases z) (Nat.le_of_ble_eq_true rfl) rfl rfl (s_r_isIn (by omega)) (fun r3 m4 => ?_)
    refine w_if_eq (tg := 76) rfl rfl rfl ?_ ?_
    · refine w_lconst (z := 0) rfl rfl ?_
      exact w_retv rfl rfl
    · refine w_aload_n rfl rfl ?_
      refine w_lload_n rfl rfl ?_
      refine w_l2i rfl ?_
      refine w_iload rfl rfl ?_
      refine w_call1 [.ref 78, .int (i32 v2), .int (i32 v4)] [] (by omega) rfl rfl rfl rfl rfl rfl (Nat.le_of_ble_eq_true rfl) (fun _ => xrc_ok rfl) (Nat.le_of_ble_eq_true rfl) rfl rfl (s_r_turnOf (by omega)) (fun r5 m6 => ?_)
      show xw _ _ _ _ 72 _ _ _ _
      refine w_i2l (x' := w32 r5) rfl rfl ?_
      refine w_goto (tg := 77) rfl rfl ?_
      exact w_retv rfl rfl
  · refine ⟨⟨rfl, 20, rfl, ?_⟩, trivial⟩
    · dsimp only
      refine w_lload_n rfl rfl ?_
      refine w_lconst (z := 0) rfl rfl ?_
      refine w_aload_n rfl rfl ?_
      refine w_call1 [.ref 78] [.long (i64 0), .long (i64 v2)] (by omega) rfl rfl rfl rfl rfl rfl (Nat.le_of_ble_eq_true rfl) (fun _ => xrc_ok rfl) (Nat.le_of_ble_eq_true rfl) rfl rfl (s_r_lockMany (by omega)) (fun r7 m8 => ?_)
      refine w_iconst rfl ?_
      show xw _ _ _ _ 27 _ _ _ _
      refine w_isub rfl ?_
      refine w_i2l (x' := w32 (r7 - 1)) rfl rfl ?_
      refine w_call1 [.long (i64 v2), .long (i64 0), .long (i64 (w32 (r7 - 1)))] [] (by omega) rfl rfl rfl rfl rfl rfl (Nat.le_of_ble_eq_true rfl) (fun z => by cases z) (Nat.le_of_ble_eq_true rfl) rfl rfl (s_r_isIn (by omega)) (fun r9 m10 => ?_)
      refine w_if_eq (tg := 45) rfl rfl rfl ?_ ?_
      · refine w_ldc2w (z := (-1)) rfl rfl rfl ?_
        exact w_retv rfl rfl
      · refine w_aload_n rfl rfl ?_
        refine w_lload_n rfl rfl ?_
        refine w_l2i rfl ?_
        refine w_call1 [.ref 78, .int (i32 v2)] [] (by omega) rfl rfl rfl rfl rfl rfl (Nat.le_of_ble_eq_true rfl) (fun _ => xrc_ok rfl) (Nat.le_of_ble_eq_true rfl) rfl rfl (s_r_wardNow (by omega)) (fun r11 m12 => ?_)
        refine w_i2l (x' := w32 r11) rfl rfl ?_
        show xw _ _ _ _ 42 _ _ _ _
        refine w_goto (tg := 48) rfl rfl ?_
        exact w_retv rfl rfl
theorem s_r_isOpen_182 {d : Nat} (hd : 3 ≤ d) {m : xm} : xw (am_E L xs bz) d am_m233 1 182 [(0, .ref 78)] [] m (r_isOpen_182 m) := by
  unfold r_isOpen_182
  refine w_aload_n rfl rfl ?_
  refine w_gfr (r := 140) rfl rfl (Nat.le_of_ble_eq_true rfl) rfl rfl ?_
  refine w_iconst rfl ?_
  refine w_laload rfl (Nat.le_of_ble_eq_true rfl) rfl (fun x1 => ?_)
  refine w_lconst (z := 1) rfl rfl ?_
  show xw _ _ _ _ 189 _ _ _ _
  refine w_lcmp_ne (tg := 197) rfl rfl rfl rfl rfl ?_ ?_
  · refine w_iconst rfl ?_
    exact w_retv rfl rfl
  · refine w_iconst rfl ?_
    refine w_goto (tg := 198) rfl rfl ?_
    exact w_retv rfl rfl
theorem s_r_isOpen_176 {d : Nat} {k15 : Int → Int → xm → xr} (hd : 3 ≤ d) (hk15 : ∀ (v1 v2 : Int) (m : xm), xw (am_E L xs bz) d am_m233 1 15 [(0, .ref 78), (1, .int (i32 v1)), (2, .int (i32 v2))] [] m (k15 v1 v2 m)) {v1 : Int} {v2 : Int} {m : xm} : xw (am_E L xs bz) d am_m233 1 176 [(0, .ref 78), (1, .int (i32 v1)), (2, .int (i32 v2))] [] m (r_isOpen_176 k15 v1 v2 m) := by
  unfold r_isOpen_176
  refine w_iinc (lsd := [(2, .int (i32 (v2 + 1))), (0, .ref 78), (1, .int (i32 v1))]) rfl (Nat.le_of_ble_eq_true rfl) rfl rfl ?_
  refine w_goto (tg := 15) rfl rfl ?_
  exact w_weak [(0, .ref 78), (1, .int (i32 v1)), (2, .int (i32 (v2 + 1)))] rfl ⟨rfl, rfl, rfl, trivial⟩ (hk15 v1 (v2 + 1) m)
theorem s_r_isOpen_15 {d : Nat} (hd : 3 ≤ d) : ∀ (n : Nat) {v1 : Int} {v2 : Int} {m : xm}, xw (am_E L xs bz) d am_m233 1 15 [(0, .ref 78), (1, .int (i32 v1)), (2, .int (i32 v2))] [] m (r_isOpen_15 n v1 v2 m) := by
  intro n
  induction n with
  | zero => intros; exact w_none
  | succ n ih =>
    intro v1 v2 m
    have hk15 := fun (v1 v2 : Int) (m : xm) => @ih v1 v2 m
    unfold r_isOpen_15
    refine w_iload_n rfl rfl ?_
    refine w_aload_n rfl rfl ?_
    refine w_gfr (r := 108) rfl rfl (Nat.le_of_ble_eq_true rfl) rfl rfl ?_
    refine w_bipush rfl rfl ?_
    refine w_iload_n rfl rfl ?_
    show xw _ _ _ _ 23 _ _ _ _
    refine w_iadd rfl ?_
    refine w_iaload rfl rfl (fun x1 => ?_)
    refine w_icmp_ge (tg := 182) rfl rfl rfl rfl ?_ ?_
    · exact w_weak [(0, .ref 78)] rfl ⟨rfl, trivial⟩ (s_r_isOpen_182 (by omega))
    · refine w_aload_n rfl rfl ?_
      refine w_gfr (r := 109) rfl rfl (Nat.le_of_ble_eq_true rfl) rfl rfl ?_
      refine w_sipush rfl rfl ?_
      refine w_iload_n rfl rfl ?_
      refine w_iadd rfl ?_
      show xw _ _ _ _ 37 _ _ _ _
      refine w_iaload rfl rfl (fun x2 => ?_)
      refine w_letI (fun x3 => ?_)
      refine w_istore_n (lsd := [(3, .int (i32 x3)), (0, .ref 78), (1, .int (i32 v1)), (2, .int (i32 v2))]) rfl (Nat.le_of_ble_eq_true rfl) rfl ?_
      refine w_iload_n rfl rfl ?_
      refine w_sipush rfl rfl ?_
      refine w_icmp_lt (tg := 59) rfl rfl rfl rfl ?_ ?_
      · refine w_iload_n rfl rfl ?_
        refine w_bipush rfl rfl ?_
        refine w_icmp_lt (tg := 102) rfl rfl rfl rfl ?_ ?_
        · refine w_iload_n rfl rfl ?_
          refine w_bipush rfl rfl ?_
          refine w_icmp_lt (tg := 124) rfl rfl rfl rfl ?_ ?_
          · refine w_iload_n rfl rfl ?_
            refine w_bipush rfl rfl ?_
            refine w_icmp_ne (tg := 138) rfl rfl rfl rfl ?_ ?_
            · refine w_iload_n rfl rfl ?_
              refine w_bipush rfl rfl ?_
              refine w_icmp_ne (tg := 171) rfl rfl rfl rfl ?_ ?_
              · refine w_aload_n rfl rfl ?_
                refine w_iload_n rfl rfl ?_
                refine w_call0 [.ref 78, .int (i32 x3)] [] (by omega) rfl rfl rfl rfl rfl rfl (Nat.le_of_ble_eq_true rfl) (fun _ => xrc_ok rfl) (Nat.le_of_ble_eq_true rfl) rfl rfl (s_r_qJoins (by omega)) (fun r4 m5 => ?_)
                exact w_weak [(0, .ref 78), (1, .int (i32 v1)), (2, .int (i32 v2))] rfl ⟨rfl, rfl, rfl, trivial⟩ (s_r_isOpen_176 (by omega) hk15)
              · refine w_aload_n rfl rfl ?_
                refine w_gfr (r := 140) rfl rfl (Nat.le_of_ble_eq_true rfl) rfl rfl ?_
                refine w_aload_n rfl rfl ?_
                refine w_gfi rfl rfl (Nat.le_of_ble_eq_true rfl) rfl rfl ?_
                refine w_iconst rfl ?_
                show xw _ _ _ _ 153 _ _ _ _
                refine w_isub rfl ?_
                refine w_lconst (z := 1) rfl rfl ?_
                refine w_aload_n rfl rfl ?_
                refine w_gfr (r := 140) rfl rfl (Nat.le_of_ble_eq_true rfl) rfl rfl ?_
                refine w_aload_n rfl rfl ?_
                refine w_gfi rfl rfl (Nat.le_of_ble_eq_true rfl) rfl rfl ?_
                show xw _ _ _ _ 163 _ _ _ _
                refine w_iconst rfl ?_
                refine w_isub rfl ?_
                refine w_laload rfl (Nat.le_of_ble_eq_true rfl) rfl (fun x6 => ?_)
                refine w_lsub rfl ?_
                refine w_lastore rfl (Nat.le_of_ble_eq_true rfl) rfl (fun m7 => ?_)
                refine w_goto (tg := 176) rfl rfl ?_
                exact w_weak [(0, .ref 78), (1, .int (i32 v1)), (2, .int (i32 v2))] rfl ⟨rfl, rfl, rfl, trivial⟩ (s_r_isOpen_176 (by omega) hk15)
            · refine w_aload_n rfl rfl ?_
              refine w_lconst (z := 1) rfl rfl ?_
              refine w_call0 [.ref 78, .long (i64 1)] [] (by omega) rfl rfl rfl rfl rfl rfl (Nat.le_of_ble_eq_true rfl) (fun _ => xrc_ok rfl) (Nat.le_of_ble_eq_true rfl) rfl rfl (s_r_qPuts (by omega)) (fun r8 m9 => ?_)
              refine w_goto (tg := 176) rfl rfl ?_
              exact w_weak [(0, .ref 78), (1, .int (i32 v1)), (2, .int (i32 v2))] rfl ⟨rfl, rfl, rfl, trivial⟩ (s_r_isOpen_176 (by omega) hk15)
          · refine w_aload_n rfl rfl ?_
            refine w_aload_n rfl rfl ?_
            refine w_iload_n rfl rfl ?_
            refine w_bipush rfl rfl ?_
            refine w_isub rfl ?_
            show xw _ _ _ _ 114 _ _ _ _
            refine w_iconst rfl ?_
            refine w_call2 [.ref 78, .int (i32 (x3 - 40)), .int (i32 0)] [.ref 78] (by omega) rfl rfl rfl rfl rfl rfl (Nat.le_of_ble_eq_true rfl) (fun _ => xrc_ok rfl) (Nat.le_of_ble_eq_true rfl) rfl rfl (s_r_qPartOf (by omega)) (fun r10 m11 => ?_)
            refine w_call0 [.ref 78, .long (i64 r10)] [] (by omega) rfl rfl rfl rfl rfl rfl (Nat.le_of_ble_eq_true rfl) (fun _ => xrc_ok rfl) (Nat.le_of_ble_eq_true rfl) rfl rfl (s_r_qPuts (by omega)) (fun r12 m13 => ?_)
            refine w_goto (tg := 176) rfl rfl ?_
            exact w_weak [(0, .ref 78), (1, .int (i32 v1)), (2, .int (i32 v2))] rfl ⟨rfl, rfl, rfl, trivial⟩ (s_r_isOpen_176 (by omega) hk15)
        · refine w_aload_n rfl rfl ?_
          refine w_gfr (r := 140) rfl rfl (Nat.le_of_ble_eq_true rfl) rfl rfl ?_
          refine w_aload_n rfl rfl ?_
          refine w_gfi rfl rfl (Nat.le_of_ble_eq_true rfl) rfl rfl ?_
          refine w_iconst rfl ?_
          show xw _ _ _ _ 74 _ _ _ _
          refine w_isub rfl ?_
          refine w_aload_n rfl rfl ?_
          refine w_iload_n rfl rfl ?_
          refine w_bipush rfl rfl ?_
          refine w_isub rfl ?_
          refine w_aload_n rfl rfl ?_
          show xw _ _ _ _ 81 _ _ _ _
          refine w_gfr (r := 140) rfl rfl (Nat.le_of_ble_eq_true rfl) rfl rfl ?_
          refine w_aload_n rfl rfl ?_
          refine w_gfi rfl rfl (Nat.le_of_ble_eq_true rfl) rfl rfl ?_
          refine w_iconst rfl ?_
          refine w_isub rfl ?_
          refine w_laload rfl (Nat.le_of_ble_eq_true rfl) rfl (fun x14 => ?_)
          show xw _ _ _ _ 91 _ _ _ _
          refine w_iconst rfl ?_
          refine w_call2 [.ref 78, .int (i32 (x3 - 60)), .long (i64 x14), .int (i32 0)] [.int (i32 ((ld m 78 90) - 1)), .ref 140] (by omega) rfl rfl rfl rfl rfl rfl (Nat.le_of_ble_eq_true rfl) (fun _ => xrc_ok rfl) (Nat.le_of_ble_eq_true rfl) rfl rfl (s_r_qOf (by omega)) (fun r15 m16 => ?_)
          refine w_call2 [.long (i64 r15)] [.int (i32 ((ld m 78 90) - 1)), .ref 140] (by omega) rfl rfl rfl rfl rfl rfl (Nat.le_of_ble_eq_true rfl) (fun z => by cases z) (Nat.le_of_ble_eq_true rfl) rfl rfl (s_r_qClip (by omega)) (fun r17 m18 => ?_)
          refine w_lastore rfl (Nat.le_of_ble_eq_true rfl) rfl (fun m19 => ?_)
          refine w_goto (tg := 176) rfl rfl ?_
          exact w_weak [(0, .ref 78), (1, .int (i32 v1)), (2, .int (i32 v2))] rfl ⟨rfl, rfl, rfl, trivial⟩ (s_r_isOpen_176 (by omega) hk15)
      · refine w_aload_n rfl rfl ?_
        refine w_iload_n rfl rfl ?_
        refine w_sipush rfl rfl ?_
        refine w_isub rfl ?_
        refine w_i2l (x' := w32 (x3 - 1000)) rfl rfl ?_
        show xw _ _ _ _ 53 _ _ _ _
        refine w_call0 [.ref 78, .long (i64 (w32 (x3 - 1000)))] [] (by omega) rfl rfl rfl rfl rfl rfl (Nat.le_of_ble_eq_true rfl) (fun _ => xrc_ok rfl) (Nat.le_of_ble_eq_true rfl) rfl rfl (s_r_qPuts (by omega)) (fun r20 m21 => ?_)
        refine w_goto (tg := 176) rfl rfl ?_
        exact w_weak [(0, .ref 78), (1, .int (i32 v1)), (2, .int (i32 v2))] rfl ⟨rfl, rfl, rfl, trivial⟩ (s_r_isOpen_176 (by omega) hk15)
theorem s_r_isOpen {d : Nat} {v1 : Int} {m : xm} (hd : 3 ≤ d) : xw (am_E L xs bz) d am_m233 1 0 [(0, .ref 78), (1, .int (i32 v1))] [] m (r_isOpen v1 m) := by
  unfold r_isOpen
  refine w_aload_n rfl rfl ?_
  refine w_iconst rfl ?_
  refine w_pfi rfl rfl (Nat.le_of_ble_eq_true rfl) rfl rfl rfl (fun m1 => ?_)
  refine w_aload_n rfl rfl ?_
  refine w_gfr (r := 107) rfl rfl (Nat.le_of_ble_eq_true rfl) rfl rfl ?_
  show xw _ _ _ _ 9 _ _ _ _
  refine w_bipush rfl rfl ?_
  refine w_iload_n rfl rfl ?_
  refine w_iadd rfl ?_
  refine w_iaload rfl rfl (fun x2 => ?_)
  refine w_letI (fun x3 => ?_)
  refine w_istore_n (lsd := [(2, .int (i32 x3)), (0, .ref 78), (1, .int (i32 v1))]) rfl (Nat.le_of_ble_eq_true rfl) rfl ?_
  exact w_weak [(0, .ref 78), (1, .int (i32 v1)), (2, .int (i32 x3))] rfl ⟨rfl, rfl, rfl, trivial⟩ (s_r_isOpen_15 (by omega) _)
theorem s_r_openNow_26 {d : Nat} {k4 : Int → Int → xm → xr} (hd : 4 ≤ d) (hk4 : ∀ (v1 v2 : Int) (m : xm), xw (am_E L xs bz) d am_m231 1 4 [(0, .ref 78), (1, .int (i32 v1)), (2, .int (i32 v2))] [] m (k4 v1 v2 m)) {v1 : Int} {v2 : Int} {m : xm} : xw (am_E L xs bz) d am_m231 1 26 [(0, .ref 78), (1, .int (i32 v1)), (2, .int (i32 v2))] [] m (r_openNow_26 k4 v1 v2 m) := by
  unfold r_openNow_26
  refine w_iinc (lsd := [(2, .int (i32 (v2 + 1))), (0, .ref 78), (1, .int (i32 v1))]) rfl (Nat.le_of_ble_eq_true rfl) rfl rfl ?_
  refine w_goto (tg := 4) rfl rfl ?_
  exact w_weak [(0, .ref 78), (1, .int (i32 v1)), (2, .int (i32 (v2 + 1)))] rfl ⟨rfl, rfl, rfl, trivial⟩ (hk4 v1 (v2 + 1) m)
theorem s_r_openNow_4 {d : Nat} (hd : 4 ≤ d) : ∀ (n : Nat) {v1 : Int} {v2 : Int} {m : xm}, xw (am_E L xs bz) d am_m231 1 4 [(0, .ref 78), (1, .int (i32 v1)), (2, .int (i32 v2))] [] m (r_openNow_4 n v1 v2 m) := by
  intro n
  induction n with
  | zero => intros; exact w_none
  | succ n ih =>
    intro v1 v2 m
    have hk4 := fun (v1 v2 : Int) (m : xm) => @ih v1 v2 m
    unfold r_openNow_4
    refine w_iload_n rfl rfl ?_
    refine w_aload_n rfl rfl ?_
    refine w_call1 [.ref 78] [.int (i32 v2)] (by omega) rfl rfl rfl rfl rfl rfl (Nat.le_of_ble_eq_true rfl) (fun _ => xrc_ok rfl) (Nat.le_of_ble_eq_true rfl) rfl rfl (s_r_doorMany (by omega)) (fun r1 m2 => ?_)
    refine w_icmp_ge (tg := 32) rfl rfl rfl rfl ?_ ?_
    · refine w_iload_n rfl rfl ?_
      exact w_retv rfl rfl
    · refine w_aload_n rfl rfl ?_
      refine w_iload_n rfl rfl ?_
      refine w_call1 [.ref 78, .int (i32 v2)] [] (by omega) rfl rfl rfl rfl rfl rfl (Nat.le_of_ble_eq_true rfl) (fun _ => xrc_ok rfl) (Nat.le_of_ble_eq_true rfl) rfl rfl (s_r_isOpen (by omega)) (fun r3 m4 => ?_)
      refine w_if_eq (tg := 26) rfl rfl rfl ?_ ?_
      · exact w_weak [(0, .ref 78), (1, .int (i32 v1)), (2, .int (i32 v2))] rfl ⟨rfl, rfl, rfl, trivial⟩ (s_r_openNow_26 (by omega) hk4)
      · refine w_iload_n rfl rfl ?_
        refine w_iconst rfl ?_
        refine w_iload_n rfl rfl ?_
        refine w_ishl rfl ?_
        refine w_ior rfl ?_
        show xw _ _ _ _ 25 _ _ _ _
        refine w_letI (fun x5 => ?_)
        refine w_istore_n (lsd := [(1, .int (i32 x5)), (0, .ref 78), (2, .int (i32 v2))]) rfl (Nat.le_of_ble_eq_true rfl) rfl ?_
        exact w_weak [(0, .ref 78), (1, .int (i32 x5)), (2, .int (i32 v2))] rfl ⟨rfl, rfl, rfl, trivial⟩ (s_r_openNow_26 (by omega) hk4)
theorem s_r_openNow {d : Nat} {m : xm} (hd : 4 ≤ d) : xw (am_E L xs bz) d am_m231 1 0 [(0, .ref 78)] [] m (r_openNow m) := by
  unfold r_openNow
  refine w_iconst rfl ?_
  refine w_istore_n (lsd := [(1, .int (i32 0)), (0, .ref 78)]) rfl (Nat.le_of_ble_eq_true rfl) rfl ?_
  refine w_iconst rfl ?_
  refine w_istore_n (lsd := [(2, .int (i32 0)), (1, .int (i32 0)), (0, .ref 78)]) rfl (Nat.le_of_ble_eq_true rfl) rfl ?_
  exact w_weak [(0, .ref 78), (1, .int (i32 0)), (2, .int (i32 0))] rfl ⟨rfl, rfl, rfl, trivial⟩ (s_r_openNow_4 (by omega) _)
theorem s_r_has_60 {d : Nat} (hd : 5 ≤ d) {v1 : Int} {m : xm} : xw (am_E L xs bz) d am_m229 1 60 [(0, .ref 78), (1, .int (i32 v1))] [] m (r_has_60 v1 m) := by
  unfold r_has_60
  refine w_aload_n rfl rfl ?_
  refine w_gfr (r := 101) rfl rfl (Nat.le_of_ble_eq_true rfl) rfl rfl ?_
  refine w_iconst rfl ?_
  refine w_iload_n rfl rfl ?_
  refine w_iadd rfl ?_
  show xw _ _ _ _ 67 _ _ _ _
  refine w_iaload rfl rfl (fun x1 => ?_)
  exact w_retv rfl rfl
theorem s_r_has {d : Nat} {v1 : Int} {m : xm} (hd : 5 ≤ d) : xw (am_E L xs bz) d am_m229 1 0 [(0, .ref 78), (1, .int (i32 v1))] [] m (r_has v1 m) := by
  unfold r_has
  refine w_iload_n rfl rfl ?_
  refine w_tsw (t0 := 111) (fs := [59, 59, 59, 59, 68, 75, 82, 87, 92, 100, 105]) rfl rfl rfl rfl rfl ?_ ?_
  · refine w_iconst rfl ?_
    exact w_retv rfl rfl
  · refine ⟨⟨60, rfl, ?_⟩, ⟨60, rfl, ?_⟩, ⟨60, rfl, ?_⟩, ⟨60, rfl, ?_⟩, ⟨69, rfl, ?_⟩, ⟨76, rfl, ?_⟩, ⟨83, rfl, ?_⟩, ⟨88, rfl, ?_⟩, ⟨93, rfl, ?_⟩, ⟨101, rfl, ?_⟩, ⟨106, rfl, ?_⟩, trivial⟩
    · exact w_weak [(0, .ref 78), (1, .int (i32 v1))] rfl ⟨rfl, rfl, trivial⟩ (s_r_has_60 (by omega))
    · exact w_weak [(0, .ref 78), (1, .int (i32 v1))] rfl ⟨rfl, rfl, trivial⟩ (s_r_has_60 (by omega))
    · exact w_weak [(0, .ref 78), (1, .int (i32 v1))] rfl ⟨rfl, rfl, trivial⟩ (s_r_has_60 (by omega))
    · exact w_weak [(0, .ref 78), (1, .int (i32 v1))] rfl ⟨rfl, rfl, trivial⟩ (s_r_has_60 (by omega))
    · refine w_aload_n rfl rfl ?_
      refine w_gfr (r := 106) rfl rfl (Nat.le_of_ble_eq_true rfl) rfl rfl ?_
      refine w_iconst rfl ?_
      refine w_iaload rfl rfl (fun x1 => ?_)
      exact w_retv rfl rfl
    · refine w_aload_n rfl rfl ?_
      refine w_gfr (r := 110) rfl rfl (Nat.le_of_ble_eq_true rfl) rfl rfl ?_
      refine w_iconst rfl ?_
      refine w_iaload rfl rfl (fun x2 => ?_)
      exact w_retv rfl rfl
    · refine w_aload_n rfl rfl ?_
      refine w_call1 [.ref 78] [] (by omega) rfl rfl rfl rfl rfl rfl (Nat.le_of_ble_eq_true rfl) (fun _ => xrc_ok rfl) (Nat.le_of_ble_eq_true rfl) rfl rfl (s_r_jammedNow (by omega)) (fun r3 m4 => ?_)
      exact w_retv rfl rfl
    · refine w_aload_n rfl rfl ?_
      refine w_call1 [.ref 78] [] (by omega) rfl rfl rfl rfl rfl rfl (Nat.le_of_ble_eq_true rfl) (fun _ => xrc_ok rfl) (Nat.le_of_ble_eq_true rfl) rfl rfl (s_r_openNow (by omega)) (fun r5 m6 => ?_)
      exact w_retv rfl rfl
    · refine w_aload_n rfl rfl ?_
      refine w_gfr (r := 110) rfl rfl (Nat.le_of_ble_eq_true rfl) rfl rfl ?_
      refine w_bipush rfl rfl ?_
      refine w_iaload rfl rfl (fun x7 => ?_)
      exact w_retv rfl rfl
    · refine w_aload_n rfl rfl ?_
      refine w_gfi rfl rfl (Nat.le_of_ble_eq_true rfl) rfl rfl ?_
      exact w_retv rfl rfl
    · refine w_aload_n rfl rfl ?_
      refine w_gfi rfl rfl (Nat.le_of_ble_eq_true rfl) rfl rfl ?_
      exact w_retv rfl rfl
theorem s_r_letter_124 {d : Nat} (hd : 1 ≤ d) {v4 : Int} {m : xm} : xw (am_E L xs bz) d am_m247 1 124 [(4, .long (i64 v4))] [] m (r_letter_124 v4 m) := by
  unfold r_letter_124
  refine w_lload rfl rfl ?_
  refine w_ldc2w (z := 27) rfl rfl rfl ?_
  refine w_lremc rfl (by decide) ?_
  refine w_l2i rfl ?_
  exact w_retv rfl rfl
theorem s_r_letter_104 {d : Nat} (hd : 1 ≤ d) : ∀ (n : Nat) {v3 : Int} {v4 : Int} {v7 : Int} {m : xm}, xw (am_E L xs bz) d am_m247 1 104 [(3, .int (i32 v3)), (4, .long (i64 v4)), (7, .int (i32 v7))] [] m (r_letter_104 n v3 v4 v7 m) := by
  intro n
  induction n with
  | zero => intros; exact w_none
  | succ n ih =>
    intro v3 v4 v7 m
    have hk104 := fun (v3 v4 v7 : Int) (m : xm) => @ih v3 v4 v7 m
    unfold r_letter_104
    refine w_iload rfl rfl ?_
    refine w_iload_n rfl rfl ?_
    refine w_icmp_le (tg := 124) rfl rfl rfl rfl ?_ ?_
    · exact w_weak [(4, .long (i64 v4))] rfl ⟨rfl, trivial⟩ (s_r_letter_124 (by omega))
    · refine w_lload rfl rfl ?_
      refine w_ldc2w (z := 27) rfl rfl rfl ?_
      refine w_ldivc rfl (by decide) ?_
      refine w_letL (fun x1 => ?_)
      refine w_lstore (lsd := [(4, .long (i64 x1)), (3, .int (i32 v3)), (7, .int (i32 v7))]) rfl (Nat.le_of_ble_eq_true rfl) rfl ?_
      refine w_iinc (lsd := [(7, .int (i32 (v7 + (-1)))), (4, .long (i64 x1)), (3, .int (i32 v3))]) rfl (Nat.le_of_ble_eq_true rfl) rfl rfl ?_
      show xw _ _ _ _ 121 _ _ _ _
      refine w_goto (tg := 104) rfl rfl ?_
      exact w_weak [(3, .int (i32 v3)), (4, .long (i64 x1)), (7, .int (i32 (v7 + (-1))))] rfl ⟨rfl, rfl, rfl, trivial⟩ (hk104 v3 x1 (v7 + (-1)) m)
theorem s_r_letter_90 {d : Nat} (hd : 1 ≤ d) {v3 : Int} {v4 : Int} {v6 : Int} {m : xm} : xw (am_E L xs bz) d am_m247 1 90 [(3, .int (i32 v3)), (4, .long (i64 v4)), (6, .int (i32 v6))] [] m (r_letter_90 v3 v4 v6 m) := by
  unfold r_letter_90
  refine w_iload_n rfl rfl ?_
  refine w_iload rfl rfl ?_
  refine w_icmp_lt (tg := 98) rfl rfl rfl rfl ?_ ?_
  · refine w_iload rfl rfl ?_
    refine w_iconst rfl ?_
    refine w_isub rfl ?_
    refine w_letI (fun x1 => ?_)
    refine w_istore (lsd := [(7, .int (i32 x1)), (3, .int (i32 v3)), (4, .long (i64 v4)), (6, .int (i32 v6))]) rfl (Nat.le_of_ble_eq_true rfl) rfl ?_
    exact w_weak [(3, .int (i32 v3)), (4, .long (i64 v4)), (7, .int (i32 x1))] rfl ⟨rfl, rfl, rfl, trivial⟩ (s_r_letter_104 (by omega) _)
  · refine w_iconst rfl ?_
    exact w_retv rfl rfl
theorem s_r_letter_69 {d : Nat} (hd : 1 ≤ d) : ∀ (n : Nat) {v3 : Int} {v4 : Int} {v6 : Int} {v7 : Int} {m : xm}, xw (am_E L xs bz) d am_m247 1 69 [(3, .int (i32 v3)), (4, .long (i64 v4)), (6, .int (i32 v6)), (7, .long (i64 v7))] [] m (r_letter_69 n v3 v4 v6 v7 m) := by
  intro n
  induction n with
  | zero => intros; exact w_none
  | succ n ih =>
    intro v3 v4 v6 v7 m
    have hk69 := fun (v3 v4 v6 v7 : Int) (m : xm) => @ih v3 v4 v6 v7 m
    unfold r_letter_69
    refine w_lload rfl rfl ?_
    refine w_lconst (z := 0) rfl rfl ?_
    refine w_lcmp_le (tg := 90) rfl rfl rfl rfl rfl ?_ ?_
    · exact w_weak [(3, .int (i32 v3)), (4, .long (i64 v4)), (6, .int (i32 v6))] rfl ⟨rfl, rfl, rfl, trivial⟩ (s_r_letter_90 (by omega))
    · refine w_iinc (lsd := [(6, .int (i32 (v6 + 1))), (3, .int (i32 v3)), (4, .long (i64 v4)), (7, .long (i64 v7))]) rfl (Nat.le_of_ble_eq_true rfl) rfl rfl ?_
      refine w_lload rfl rfl ?_
      refine w_ldc2w (z := 27) rfl rfl rfl ?_
      refine w_ldivc rfl (by decide) ?_
      refine w_letL (fun x1 => ?_)
      refine w_lstore (lsd := [(7, .long (i64 x1)), (6, .int (i32 (v6 + 1))), (3, .int (i32 v3)), (4, .long (i64 v4))]) rfl (Nat.le_of_ble_eq_true rfl) rfl ?_
      show xw _ _ _ _ 87 _ _ _ _
      refine w_goto (tg := 69) rfl rfl ?_
      exact w_weak [(3, .int (i32 v3)), (4, .long (i64 v4)), (6, .int (i32 (v6 + 1))), (7, .long (i64 x1))] rfl ⟨rfl, rfl, rfl, rfl, trivial⟩ (hk69 v3 v4 (v6 + 1) x1 m)
theorem s_r_letter {d : Nat} {v1 : Int} {v2 : Int} {v3 : Int} {m : xm} (hd : 1 ≤ d) : xw (am_E L xs bz) d am_m247 1 0 [(0, .ref 78), (1, .int (i32 v1)), (2, .int (i32 v2)), (3, .int (i32 v3))] [] m (r_letter v1 v2 v3 m) := by
  unfold r_letter
  refine w_iload_n rfl rfl ?_
  refine w_i2l (x' := w32 v1) rfl rfl ?_
  refine w_lconst (z := 0) rfl rfl ?_
  refine w_ldc2w (z := 3) rfl rfl rfl ?_
  refine w_call1 [.long (i64 (w32 v1)), .long (i64 0), .long (i64 3)] [] (by omega) rfl rfl rfl rfl rfl rfl (Nat.le_of_ble_eq_true rfl) (fun z => by cases z) (Nat.le_of_ble_eq_true rfl) rfl rfl (s_r_isIn (by omega)) (fun r1 m2 => ?_)
  show xw _ _ _ _ 9 _ _ _ _
  refine w_if_eq (tg := 44) rfl rfl rfl ?_ ?_
  · refine w_iconst rfl ?_
    exact w_retv rfl rfl
  · refine w_iload_n rfl rfl ?_
    refine w_i2l (x' := w32 v2) rfl rfl ?_
    refine w_lconst (z := 0) rfl rfl ?_
    refine w_aload_n rfl rfl ?_
    refine w_gfr (r := 101) rfl rfl (Nat.le_of_ble_eq_true rfl) rfl rfl ?_
    show xw _ _ _ _ 19 _ _ _ _
    refine w_iconst rfl ?_
    refine w_iload_n rfl rfl ?_
    refine w_iadd rfl ?_
    refine w_iaload rfl rfl (fun x3 => ?_)
    refine w_iconst rfl ?_
    refine w_isub rfl ?_
    show xw _ _ _ _ 25 _ _ _ _
    refine w_i2l (x' := w32 (x3 - 1)) rfl rfl ?_
    refine w_call1 [.long (i64 (w32 v2)), .long (i64 0), .long (i64 (w32 (x3 - 1)))] [] (by omega) rfl rfl rfl rfl rfl rfl (Nat.le_of_ble_eq_true rfl) (fun z => by cases z) (Nat.le_of_ble_eq_true rfl) rfl rfl (s_r_isIn (by omega)) (fun r4 m5 => ?_)
    refine w_if_eq (tg := 44) rfl rfl rfl ?_ ?_
    · refine w_iconst rfl ?_
      exact w_retv rfl rfl
    · refine w_iload_n rfl rfl ?_
      refine w_i2l (x' := w32 v3) rfl rfl ?_
      refine w_lconst (z := 0) rfl rfl ?_
      refine w_ldc2w (z := 5) rfl rfl rfl ?_
      refine w_call1 [.long (i64 (w32 v3)), .long (i64 0), .long (i64 5)] [] (by omega) rfl rfl rfl rfl rfl rfl (Nat.le_of_ble_eq_true rfl) (fun z => by cases z) (Nat.le_of_ble_eq_true rfl) rfl rfl (s_r_isIn (by omega)) (fun r6 m7 => ?_)
      show xw _ _ _ _ 41 _ _ _ _
      refine w_if_ne (tg := 46) rfl rfl rfl ?_ ?_
      · refine w_aload_n rfl rfl ?_
        refine w_gfr (r := 102) rfl rfl (Nat.le_of_ble_eq_true rfl) rfl rfl ?_
        refine w_bipush rfl rfl ?_
        refine w_bipush rfl rfl ?_
        refine w_iload_n rfl rfl ?_
        show xw _ _ _ _ 55 _ _ _ _
        refine w_imul rfl ?_
        refine w_iadd rfl ?_
        refine w_iload_n rfl rfl ?_
        refine w_iadd rfl ?_
        refine w_laload rfl (Nat.le_of_ble_eq_true rfl) rfl (fun x8 => ?_)
        refine w_letL (fun x9 => ?_)
        refine w_lstore (lsd := [(4, .long (i64 x9)), (0, .ref 78), (1, .int (i32 v1)), (2, .int (i32 v2)), (3, .int (i32 v3))]) rfl (Nat.le_of_ble_eq_true rfl) rfl ?_
        show xw _ _ _ _ 62 _ _ _ _
        refine w_iconst rfl ?_
        refine w_istore (lsd := [(6, .int (i32 0)), (4, .long (i64 x9)), (0, .ref 78), (1, .int (i32 v1)), (2, .int (i32 v2)), (3, .int (i32 v3))]) rfl (Nat.le_of_ble_eq_true rfl) rfl ?_
        refine w_lload rfl rfl ?_
        refine w_letL (fun x10 => ?_)
        refine w_lstore (lsd := [(7, .long (i64 x10)), (6, .int (i32 0)), (4, .long (i64 x9)), (0, .ref 78), (1, .int (i32 v1)), (2, .int (i32 v2)), (3, .int (i32 v3))]) rfl (Nat.le_of_ble_eq_true rfl) rfl ?_
        exact w_weak [(3, .int (i32 v3)), (4, .long (i64 x9)), (6, .int (i32 0)), (7, .long (i64 x10))] rfl ⟨rfl, rfl, rfl, rfl, trivial⟩ (s_r_letter_69 (by omega) _)
      · refine w_iconst rfl ?_
        exact w_retv rfl rfl
theorem s_r_isLockThere {d : Nat} {v1 : Int} {m : xm} (hd : 1 ≤ d) : xw (am_E L xs bz) d am_m249 1 0 [(0, .ref 78), (1, .int (i32 v1))] [] m (r_isLockThere v1 m) := by
  unfold r_isLockThere
  refine w_iload_n rfl rfl ?_
  refine w_i2l (x' := w32 v1) rfl rfl ?_
  refine w_lconst (z := 0) rfl rfl ?_
  refine w_aload_n rfl rfl ?_
  refine w_call1 [.ref 78] [.long (i64 0), .long (i64 (w32 v1))] (by omega) rfl rfl rfl rfl rfl rfl (Nat.le_of_ble_eq_true rfl) (fun _ => xrc_ok rfl) (Nat.le_of_ble_eq_true rfl) rfl rfl (s_r_lockMany (by omega)) (fun r1 m2 => ?_)
  show xw _ _ _ _ 7 _ _ _ _
  refine w_iconst rfl ?_
  refine w_isub rfl ?_
  refine w_i2l (x' := w32 (r1 - 1)) rfl rfl ?_
  refine w_call1 [.long (i64 (w32 v1)), .long (i64 0), .long (i64 (w32 (r1 - 1)))] [] (by omega) rfl rfl rfl rfl rfl rfl (Nat.le_of_ble_eq_true rfl) (fun z => by cases z) (Nat.le_of_ble_eq_true rfl) rfl rfl (s_r_isIn (by omega)) (fun r3 m4 => ?_)
  exact w_retb rfl rfl
theorem s_r_lock_56 {d : Nat} (hd : 2 ≤ d) {v1 : Int} {v2 : Int} {m : xm} : xw (am_E L xs bz) d am_m248 1 56 [(0, .ref 78), (1, .int (i32 v1)), (2, .int (i32 v2))] [] m (r_lock_56 v1 v2 m) := by
  unfold r_lock_56
  refine w_aload_n rfl rfl ?_
  refine w_gfr (r := 103) rfl rfl (Nat.le_of_ble_eq_true rfl) rfl rfl ?_
  refine w_bipush rfl rfl ?_
  refine w_iconst rfl ?_
  refine w_iload_n rfl rfl ?_
  show xw _ _ _ _ 64 _ _ _ _
  refine w_imul rfl ?_
  refine w_iadd rfl ?_
  refine w_iload_n rfl rfl ?_
  refine w_iadd rfl ?_
  refine w_iaload rfl rfl (fun x1 => ?_)
  exact w_retv rfl rfl
theorem s_r_lock {d : Nat} {v1 : Int} {v2 : Int} {m : xm} (hd : 2 ≤ d) : xw (am_E L xs bz) d am_m248 1 0 [(0, .ref 78), (1, .int (i32 v1)), (2, .int (i32 v2))] [] m (r_lock v1 v2 m) := by
  unfold r_lock
  refine w_aload_n rfl rfl ?_
  refine w_iload_n rfl rfl ?_
  refine w_call1 [.ref 78, .int (i32 v1)] [] (by omega) rfl rfl rfl rfl rfl rfl (Nat.le_of_ble_eq_true rfl) (fun _ => xrc_ok rfl) (Nat.le_of_ble_eq_true rfl) rfl rfl (s_r_isLockThere (by omega)) (fun r1 m2 => ?_)
  refine w_if_ne (tg := 10) rfl rfl rfl ?_ ?_
  · refine w_iload_n rfl rfl ?_
    refine w_tsw (t0 := 84) (fs := [33, 39, 45, 45, 59]) rfl rfl rfl rfl rfl ?_ ?_
    · refine w_iconst rfl ?_
      exact w_retv rfl rfl
    · refine ⟨⟨44, rfl, ?_⟩, ⟨50, rfl, ?_⟩, ⟨56, rfl, ?_⟩, ⟨56, rfl, ?_⟩, ⟨70, rfl, ?_⟩, trivial⟩
      · refine w_aload_n rfl rfl ?_
        refine w_iload_n rfl rfl ?_
        refine w_call1 [.ref 78, .int (i32 v1)] [] (by omega) rfl rfl rfl rfl rfl rfl (Nat.le_of_ble_eq_true rfl) (fun _ => xrc_ok rfl) (Nat.le_of_ble_eq_true rfl) rfl rfl (s_r_wardsOf (by omega)) (fun r3 m4 => ?_)
        exact w_retv rfl rfl
      · refine w_aload_n rfl rfl ?_
        refine w_iload_n rfl rfl ?_
        refine w_call1 [.ref 78, .int (i32 v1)] [] (by omega) rfl rfl rfl rfl rfl rfl (Nat.le_of_ble_eq_true rfl) (fun _ => xrc_ok rfl) (Nat.le_of_ble_eq_true rfl) rfl rfl (s_r_wardNow (by omega)) (fun r5 m6 => ?_)
        exact w_retv rfl rfl
      · exact w_weak [(0, .ref 78), (1, .int (i32 v1)), (2, .int (i32 v2))] rfl ⟨rfl, rfl, rfl, trivial⟩ (s_r_lock_56 (by omega))
      · exact w_weak [(0, .ref 78), (1, .int (i32 v1)), (2, .int (i32 v2))] rfl ⟨rfl, rfl, rfl, trivial⟩ (s_r_lock_56 (by omega))
      · refine w_aload_n rfl rfl ?_
        refine w_iload_n rfl rfl ?_
        refine w_call1 [.ref 78, .int (i32 v1)] [] (by omega) rfl rfl rfl rfl rfl rfl (Nat.le_of_ble_eq_true rfl) (fun _ => xrc_ok rfl) (Nat.le_of_ble_eq_true rfl) rfl rfl (s_r_isJammed (by omega)) (fun r7 m8 => ?_)
        refine w_if_eq (tg := 82) rfl rfl rfl ?_ ?_
        · refine w_iconst rfl ?_
          exact w_retv rfl rfl
        · refine w_iconst rfl ?_
          refine w_goto (tg := 83) rfl rfl ?_
          exact w_retv rfl rfl
  · refine w_iconst rfl ?_
    exact w_retv rfl rfl
theorem s_r_isNote {d : Nat} {v1 : Int} {m : xm} (hd : 1 ≤ d) : xw (am_E L xs bz) d am_m251 1 0 [(0, .ref 78), (1, .int (i32 v1))] [] m (r_isNote v1 m) := by
  unfold r_isNote
  refine w_iload_n rfl rfl ?_
  refine w_i2l (x' := w32 v1) rfl rfl ?_
  refine w_lconst (z := 0) rfl rfl ?_
  refine w_aload_n rfl rfl ?_
  refine w_call1 [.ref 78] [.long (i64 0), .long (i64 (w32 v1))] (by omega) rfl rfl rfl rfl rfl rfl (Nat.le_of_ble_eq_true rfl) (fun _ => xrc_ok rfl) (Nat.le_of_ble_eq_true rfl) rfl rfl (s_r_noteMany (by omega)) (fun r1 m2 => ?_)
  show xw _ _ _ _ 7 _ _ _ _
  refine w_iconst rfl ?_
  refine w_isub rfl ?_
  refine w_i2l (x' := w32 (r1 - 1)) rfl rfl ?_
  refine w_call1 [.long (i64 (w32 v1)), .long (i64 0), .long (i64 (w32 (r1 - 1)))] [] (by omega) rfl rfl rfl rfl rfl rfl (Nat.le_of_ble_eq_true rfl) (fun z => by cases z) (Nat.le_of_ble_eq_true rfl) rfl rfl (s_r_isIn (by omega)) (fun r3 m4 => ?_)
  exact w_retb rfl rfl
theorem s_r_playerMany {d : Nat} {m : xm} (hd : 0 ≤ d) : xw (am_E L xs bz) d am_m254 1 0 [(0, .ref 78)] [] m (r_playerMany m) := by
  unfold r_playerMany
  refine w_aload_n rfl rfl ?_
  refine w_gfr (r := 101) rfl rfl (Nat.le_of_ble_eq_true rfl) rfl rfl ?_
  refine w_bipush rfl rfl ?_
  refine w_iaload rfl rfl (fun x1 => ?_)
  exact w_retv rfl rfl
theorem s_r_playersOf_34 {d : Nat} {k4 : Int → Int → Int → xm → xr} (hd : 1 ≤ d) (hk4 : ∀ (v1 v2 v3 : Int) (m : xm), xw (am_E L xs bz) d am_m253 1 4 [(0, .ref 78), (1, .int (i32 v1)), (2, .int (i32 v2)), (3, .int (i32 v3))] [] m (k4 v1 v2 v3 m)) {v1 : Int} {v2 : Int} {v3 : Int} {m : xm} : xw (am_E L xs bz) d am_m253 1 34 [(0, .ref 78), (1, .int (i32 v1)), (2, .int (i32 v2)), (3, .int (i32 v3))] [] m (r_playersOf_34 k4 v1 v2 v3 m) := by
  unfold r_playersOf_34
  refine w_iinc (lsd := [(3, .int (i32 (v3 + 1))), (0, .ref 78), (1, .int (i32 v1)), (2, .int (i32 v2))]) rfl (Nat.le_of_ble_eq_true rfl) rfl rfl ?_
  refine w_goto (tg := 4) rfl rfl ?_
  exact w_weak [(0, .ref 78), (1, .int (i32 v1)), (2, .int (i32 v2)), (3, .int (i32 (v3 + 1)))] rfl ⟨rfl, rfl, rfl, rfl, trivial⟩ (hk4 v1 v2 (v3 + 1) m)
theorem s_r_playersOf_4 {d : Nat} (hd : 1 ≤ d) : ∀ (n : Nat) {v1 : Int} {v2 : Int} {v3 : Int} {m : xm}, xw (am_E L xs bz) d am_m253 1 4 [(0, .ref 78), (1, .int (i32 v1)), (2, .int (i32 v2)), (3, .int (i32 v3))] [] m (r_playersOf_4 n v1 v2 v3 m) := by
  intro n
  induction n with
  | zero => intros; exact w_none
  | succ n ih =>
    intro v1 v2 v3 m
    have hk4 := fun (v1 v2 v3 : Int) (m : xm) => @ih v1 v2 v3 m
    unfold r_playersOf_4
    refine w_iload_n rfl rfl ?_
    refine w_aload_n rfl rfl ?_
    refine w_call1 [.ref 78] [.int (i32 v3)] (by omega) rfl rfl rfl rfl rfl rfl (Nat.le_of_ble_eq_true rfl) (fun _ => xrc_ok rfl) (Nat.le_of_ble_eq_true rfl) rfl rfl (s_r_playerMany (by omega)) (fun r1 m2 => ?_)
    refine w_icmp_ge (tg := 40) rfl rfl rfl rfl ?_ ?_
    · refine w_iload_n rfl rfl ?_
      exact w_retv rfl rfl
    · refine w_aload_n rfl rfl ?_
      refine w_gfr (r := 105) rfl rfl (Nat.le_of_ble_eq_true rfl) rfl rfl ?_
      refine w_iconst rfl ?_
      refine w_iload_n rfl rfl ?_
      refine w_iadd rfl ?_
      show xw _ _ _ _ 19 _ _ _ _
      refine w_iaload rfl rfl (fun x3 => ?_)
      refine w_iload_n rfl rfl ?_
      refine w_ishr rfl ?_
      refine w_iconst rfl ?_
      refine w_iand rfl ?_
      refine w_iconst rfl ?_
      show xw _ _ _ _ 25 _ _ _ _
      refine w_icmp_ne (tg := 34) rfl rfl (w32_of _) rfl ?_ ?_
      · exact w_weak [(0, .ref 78), (1, .int (i32 v1)), (2, .int (i32 v2)), (3, .int (i32 v3))] rfl ⟨rfl, rfl, rfl, rfl, trivial⟩ (s_r_playersOf_34 (by omega) hk4)
      · refine w_iload_n rfl rfl ?_
        refine w_iconst rfl ?_
        refine w_iload_n rfl rfl ?_
        refine w_ishl rfl ?_
        refine w_ior rfl ?_
        show xw _ _ _ _ 33 _ _ _ _
        refine w_letI (fun x4 => ?_)
        refine w_istore_n (lsd := [(2, .int (i32 x4)), (0, .ref 78), (1, .int (i32 v1)), (3, .int (i32 v3))]) rfl (Nat.le_of_ble_eq_true rfl) rfl ?_
        exact w_weak [(0, .ref 78), (1, .int (i32 v1)), (2, .int (i32 x4)), (3, .int (i32 v3))] rfl ⟨rfl, rfl, rfl, rfl, trivial⟩ (s_r_playersOf_34 (by omega) hk4)
theorem s_r_playersOf {d : Nat} {v1 : Int} {m : xm} (hd : 1 ≤ d) : xw (am_E L xs bz) d am_m253 1 0 [(0, .ref 78), (1, .int (i32 v1))] [] m (r_playersOf v1 m) := by
  unfold r_playersOf
  refine w_iconst rfl ?_
  refine w_istore_n (lsd := [(2, .int (i32 0)), (0, .ref 78), (1, .int (i32 v1))]) rfl (Nat.le_of_ble_eq_true rfl) rfl ?_
  refine w_iconst rfl ?_
  refine w_istore_n (lsd := [(3, .int (i32 0)), (2, .int (i32 0)), (0, .ref 78), (1, .int (i32 v1))]) rfl (Nat.le_of_ble_eq_true rfl) rfl ?_
  exact w_weak [(0, .ref 78), (1, .int (i32 v1)), (2, .int (i32 0)), (3, .int (i32 0))] rfl ⟨rfl, rfl, rfl, rfl, trivial⟩ (s_r_playersOf_4 (by omega) _)
theorem s_r_canPlay_37 {d : Nat} {k10 : Int → Int → xm → xr} (hd : 2 ≤ d) (hk10 : ∀ (v1 v2 : Int) (m : xm), xw (am_E L xs bz) d am_m252 1 10 [(0, .ref 78), (1, .int (i32 v1)), (2, .int (i32 v2))] [] m (k10 v1 v2 m)) {v1 : Int} {v2 : Int} {m : xm} : xw (am_E L xs bz) d am_m252 1 37 [(0, .ref 78), (1, .int (i32 v1)), (2, .int (i32 v2))] [] m (r_canPlay_37 k10 v1 v2 m) := by
  unfold r_canPlay_37
  refine w_iinc (lsd := [(2, .int (i32 (v2 + 1))), (0, .ref 78), (1, .int (i32 v1))]) rfl (Nat.le_of_ble_eq_true rfl) rfl rfl ?_
  refine w_goto (tg := 10) rfl rfl ?_
  exact w_weak [(0, .ref 78), (1, .int (i32 v1)), (2, .int (i32 (v2 + 1)))] rfl ⟨rfl, rfl, rfl, trivial⟩ (hk10 v1 (v2 + 1) m)
theorem s_r_canPlay_10 {d : Nat} (hd : 2 ≤ d) : ∀ (n : Nat) {v1 : Int} {v2 : Int} {m : xm}, xw (am_E L xs bz) d am_m252 1 10 [(0, .ref 78), (1, .int (i32 v1)), (2, .int (i32 v2))] [] m (r_canPlay_10 n v1 v2 m) := by
  intro n
  induction n with
  | zero => intros; exact w_none
  | succ n ih =>
    intro v1 v2 m
    have hk10 := fun (v1 v2 : Int) (m : xm) => @ih v1 v2 m
    unfold r_canPlay_10
    refine w_iload_n rfl rfl ?_
    refine w_aload_n rfl rfl ?_
    refine w_call1 [.ref 78] [.int (i32 v2)] (by omega) rfl rfl rfl rfl rfl rfl (Nat.le_of_ble_eq_true rfl) (fun _ => xrc_ok rfl) (Nat.le_of_ble_eq_true rfl) rfl rfl (s_r_lockMany (by omega)) (fun r1 m2 => ?_)
    refine w_icmp_ge (tg := 43) rfl rfl rfl rfl ?_ ?_
    · refine w_iconst rfl ?_
      exact w_retv rfl rfl
    · refine w_aload_n rfl rfl ?_
      refine w_iload_n rfl rfl ?_
      refine w_iload_n rfl rfl ?_
      refine w_call1 [.ref 78, .int (i32 v1), .int (i32 v2)] [] (by omega) rfl rfl rfl rfl rfl rfl (Nat.le_of_ble_eq_true rfl) (fun _ => xrc_ok rfl) (Nat.le_of_ble_eq_true rfl) rfl rfl (s_r_turnOf (by omega)) (fun r3 m4 => ?_)
      refine w_if_le (tg := 37) rfl rfl rfl ?_ ?_
      · exact w_weak [(0, .ref 78), (1, .int (i32 v1)), (2, .int (i32 v2))] rfl ⟨rfl, rfl, rfl, trivial⟩ (s_r_canPlay_37 (by omega) hk10)
      · refine w_aload_n rfl rfl ?_
        refine w_iload_n rfl rfl ?_
        refine w_call1 [.ref 78, .int (i32 v2)] [] (by omega) rfl rfl rfl rfl rfl rfl (Nat.le_of_ble_eq_true rfl) (fun _ => xrc_ok rfl) (Nat.le_of_ble_eq_true rfl) rfl rfl (s_r_isJammed (by omega)) (fun r5 m6 => ?_)
        refine w_if_eq (tg := 37) rfl rfl rfl ?_ ?_
        · exact w_weak [(0, .ref 78), (1, .int (i32 v1)), (2, .int (i32 v2))] rfl ⟨rfl, rfl, rfl, trivial⟩ (s_r_canPlay_37 (by omega) hk10)
        · refine w_iconst rfl ?_
          exact w_retv rfl rfl
theorem s_r_canPlay {d : Nat} {v1 : Int} {m : xm} (hd : 2 ≤ d) : xw (am_E L xs bz) d am_m252 1 0 [(0, .ref 78), (1, .int (i32 v1))] [] m (r_canPlay v1 m) := by
  unfold r_canPlay
  refine w_iload_n rfl rfl ?_
  refine w_bipush rfl rfl ?_
  refine w_icmp_ne (tg := 8) rfl rfl rfl rfl ?_ ?_
  · refine w_iconst rfl ?_
    refine w_istore_n (lsd := [(2, .int (i32 0)), (0, .ref 78), (1, .int (i32 v1))]) rfl (Nat.le_of_ble_eq_true rfl) rfl ?_
    exact w_weak [(0, .ref 78), (1, .int (i32 v1)), (2, .int (i32 0))] rfl ⟨rfl, rfl, rfl, trivial⟩ (s_r_canPlay_10 (by omega) _)
  · refine w_iconst rfl ?_
    exact w_retv rfl rfl
theorem s_r_note {d : Nat} {v1 : Int} {v2 : Int} {m : xm} (hd : 3 ≤ d) : xw (am_E L xs bz) d am_m250 1 0 [(0, .ref 78), (1, .int (i32 v1)), (2, .int (i32 v2))] [] m (r_note v1 v2 m) := by
  unfold r_note
  refine w_aload_n rfl rfl ?_
  refine w_iload_n rfl rfl ?_
  refine w_call1 [.ref 78, .int (i32 v1)] [] (by omega) rfl rfl rfl rfl rfl rfl (Nat.le_of_ble_eq_true rfl) (fun _ => xrc_ok rfl) (Nat.le_of_ble_eq_true rfl) rfl rfl (s_r_isNote (by omega)) (fun r1 m2 => ?_)
  refine w_if_ne (tg := 10) rfl rfl rfl ?_ ?_
  · refine w_iload_n rfl rfl ?_
    refine w_i2l (x' := w32 v2) rfl rfl ?_
    refine w_ldc2w (z := 10) rfl rfl rfl ?_
    refine w_bipush rfl rfl ?_
    refine w_aload_n rfl rfl ?_
    show xw _ _ _ _ 18 _ _ _ _
    refine w_call1 [.ref 78] [.int (i32 9), .long (i64 10), .long (i64 (w32 v2))] (by omega) rfl rfl rfl rfl rfl rfl (Nat.le_of_ble_eq_true rfl) (fun _ => xrc_ok rfl) (Nat.le_of_ble_eq_true rfl) rfl rfl (s_r_lockMany (by omega)) (fun r3 m4 => ?_)
    refine w_iadd rfl ?_
    refine w_i2l (x' := w32 (9 + r3)) rfl rfl ?_
    refine w_call1 [.long (i64 (w32 v2)), .long (i64 10), .long (i64 (w32 (9 + r3)))] [] (by omega) rfl rfl rfl rfl rfl rfl (Nat.le_of_ble_eq_true rfl) (fun z => by cases z) (Nat.le_of_ble_eq_true rfl) rfl rfl (s_r_isIn (by omega)) (fun r5 m6 => ?_)
    refine w_if_eq (tg := 39) rfl rfl rfl ?_ ?_
    · refine w_iload_n rfl rfl ?_
      refine w_if_ne (tg := 59) rfl rfl rfl ?_ ?_
      · refine w_iload_n rfl rfl ?_
        refine w_iconst rfl ?_
        refine w_icmp_ne (tg := 72) rfl rfl rfl rfl ?_ ?_
        · refine w_iconst rfl ?_
          exact w_retv rfl rfl
        · refine w_aload_n rfl rfl ?_
          refine w_iload_n rfl rfl ?_
          refine w_call1 [.ref 78, .int (i32 v1)] [] (by omega) rfl rfl rfl rfl rfl rfl (Nat.le_of_ble_eq_true rfl) (fun _ => xrc_ok rfl) (Nat.le_of_ble_eq_true rfl) rfl rfl (s_r_playersOf (by omega)) (fun r7 m8 => ?_)
          refine w_goto (tg := 73) rfl rfl ?_
          exact w_retv rfl rfl
      · refine w_aload_n rfl rfl ?_
        refine w_iload_n rfl rfl ?_
        refine w_call1 [.ref 78, .int (i32 v1)] [] (by omega) rfl rfl rfl rfl rfl rfl (Nat.le_of_ble_eq_true rfl) (fun _ => xrc_ok rfl) (Nat.le_of_ble_eq_true rfl) rfl rfl (s_r_canPlay (by omega)) (fun r9 m10 => ?_)
        refine w_if_eq (tg := 55) rfl rfl rfl ?_ ?_
        · refine w_iconst rfl ?_
          refine w_goto (tg := 73) rfl rfl ?_
          exact w_retv rfl rfl
        · refine w_iconst rfl ?_
          refine w_goto (tg := 73) rfl rfl ?_
          exact w_retv rfl rfl
    · refine w_aload_n rfl rfl ?_
      refine w_iload_n rfl rfl ?_
      refine w_iload_n rfl rfl ?_
      refine w_bipush rfl rfl ?_
      refine w_isub rfl ?_
      show xw _ _ _ _ 35 _ _ _ _
      refine w_call1 [.ref 78, .int (i32 v1), .int (i32 (v2 - 10))] [] (by omega) rfl rfl rfl rfl rfl rfl (Nat.le_of_ble_eq_true rfl) (fun _ => xrc_ok rfl) (Nat.le_of_ble_eq_true rfl) rfl rfl (s_r_turnOf (by omega)) (fun r11 m12 => ?_)
      exact w_retv rfl rfl
  · refine w_iconst rfl ?_
    exact w_retv rfl rfl
theorem s_r_door {d : Nat} {v1 : Int} {m : xm} (hd : 4 ≤ d) : xw (am_E L xs bz) d am_m255 1 0 [(0, .ref 78), (1, .int (i32 v1))] [] m (r_door v1 m) := by
  unfold r_door
  refine w_iload_n rfl rfl ?_
  refine w_i2l (x' := w32 v1) rfl rfl ?_
  refine w_lconst (z := 0) rfl rfl ?_
  refine w_aload_n rfl rfl ?_
  refine w_call1 [.ref 78] [.long (i64 0), .long (i64 (w32 v1))] (by omega) rfl rfl rfl rfl rfl rfl (Nat.le_of_ble_eq_true rfl) (fun _ => xrc_ok rfl) (Nat.le_of_ble_eq_true rfl) rfl rfl (s_r_doorMany (by omega)) (fun r1 m2 => ?_)
  show xw _ _ _ _ 7 _ _ _ _
  refine w_iconst rfl ?_
  refine w_isub rfl ?_
  refine w_i2l (x' := w32 (r1 - 1)) rfl rfl ?_
  refine w_call1 [.long (i64 (w32 v1)), .long (i64 0), .long (i64 (w32 (r1 - 1)))] [] (by omega) rfl rfl rfl rfl rfl rfl (Nat.le_of_ble_eq_true rfl) (fun z => by cases z) (Nat.le_of_ble_eq_true rfl) rfl rfl (s_r_isIn (by omega)) (fun r3 m4 => ?_)
  refine w_if_eq (tg := 32) rfl rfl rfl ?_ ?_
  · refine w_iconst rfl ?_
    exact w_retv rfl rfl
  · refine w_aload_n rfl rfl ?_
    refine w_iload_n rfl rfl ?_
    refine w_call1 [.ref 78, .int (i32 v1)] [] (by omega) rfl rfl rfl rfl rfl rfl (Nat.le_of_ble_eq_true rfl) (fun _ => xrc_ok rfl) (Nat.le_of_ble_eq_true rfl) rfl rfl (s_r_isOpen (by omega)) (fun r5 m6 => ?_)
    refine w_if_eq (tg := 28) rfl rfl rfl ?_ ?_
    · refine w_iconst rfl ?_
      refine w_goto (tg := 33) rfl rfl ?_
      exact w_retv rfl rfl
    · refine w_iconst rfl ?_
      refine w_goto (tg := 33) rfl rfl ?_
      exact w_retv rfl rfl
theorem s_r_player {d : Nat} {v1 : Int} {m : xm} (hd : 1 ≤ d) : xw (am_E L xs bz) d am_m256 1 0 [(0, .ref 78), (1, .int (i32 v1))] [] m (r_player v1 m) := by
  unfold r_player
  refine w_iload_n rfl rfl ?_
  refine w_i2l (x' := w32 v1) rfl rfl ?_
  refine w_lconst (z := 0) rfl rfl ?_
  refine w_aload_n rfl rfl ?_
  refine w_call1 [.ref 78] [.long (i64 0), .long (i64 (w32 v1))] (by omega) rfl rfl rfl rfl rfl rfl (Nat.le_of_ble_eq_true rfl) (fun _ => xrc_ok rfl) (Nat.le_of_ble_eq_true rfl) rfl rfl (s_r_playerMany (by omega)) (fun r1 m2 => ?_)
  show xw _ _ _ _ 7 _ _ _ _
  refine w_iconst rfl ?_
  refine w_isub rfl ?_
  refine w_i2l (x' := w32 (r1 - 1)) rfl rfl ?_
  refine w_call1 [.long (i64 (w32 v1)), .long (i64 0), .long (i64 (w32 (r1 - 1)))] [] (by omega) rfl rfl rfl rfl rfl rfl (Nat.le_of_ble_eq_true rfl) (fun z => by cases z) (Nat.le_of_ble_eq_true rfl) rfl rfl (s_r_isIn (by omega)) (fun r3 m4 => ?_)
  refine w_if_eq (tg := 27) rfl rfl rfl ?_ ?_
  · refine w_iconst rfl ?_
    exact w_retv rfl rfl
  · refine w_aload_n rfl rfl ?_
    refine w_gfr (r := 105) rfl rfl (Nat.le_of_ble_eq_true rfl) rfl rfl ?_
    refine w_iconst rfl ?_
    refine w_iload_n rfl rfl ?_
    refine w_iadd rfl ?_
    show xw _ _ _ _ 23 _ _ _ _
    refine w_iaload rfl rfl (fun x5 => ?_)
    refine w_goto (tg := 28) rfl rfl ?_
    exact w_retv rfl rfl
theorem s_r_kept {d : Nat} {v1 : Int} {v2 : Int} {m : xm} (hd : 1 ≤ d) : xw (am_E L xs bz) d am_m257 1 0 [(0, .ref 78), (1, .int (i32 v1)), (2, .int (i32 v2))] [] m (r_kept v1 v2 m) := by
  unfold r_kept
  refine w_iload_n rfl rfl ?_
  refine w_i2l (x' := w32 v1) rfl rfl ?_
  refine w_lconst (z := 0) rfl rfl ?_
  refine w_aload_n rfl rfl ?_
  refine w_gfr (r := 110) rfl rfl (Nat.le_of_ble_eq_true rfl) rfl rfl ?_
  show xw _ _ _ _ 7 _ _ _ _
  refine w_bipush rfl rfl ?_
  refine w_iaload rfl rfl (fun x1 => ?_)
  refine w_iconst rfl ?_
  refine w_isub rfl ?_
  refine w_i2l (x' := w32 (x1 - 1)) rfl rfl ?_
  refine w_call1 [.long (i64 (w32 v1)), .long (i64 0), .long (i64 (w32 (x1 - 1)))] [] (by omega) rfl rfl rfl rfl rfl rfl (Nat.le_of_ble_eq_true rfl) (fun z => by cases z) (Nat.le_of_ble_eq_true rfl) rfl rfl (s_r_isIn (by omega)) (fun r2 m3 => ?_)
  show xw _ _ _ _ 16 _ _ _ _
  refine w_if_eq (tg := 47) rfl rfl rfl ?_ ?_
  · refine w_iconst rfl ?_
    exact w_retv rfl rfl
  · refine w_iload_n rfl rfl ?_
    refine w_i2l (x' := w32 v2) rfl rfl ?_
    refine w_lconst (z := 0) rfl rfl ?_
    refine w_ldc2w (z := 2) rfl rfl rfl ?_
    refine w_call1 [.long (i64 (w32 v2)), .long (i64 0), .long (i64 2)] [] (by omega) rfl rfl rfl rfl rfl rfl (Nat.le_of_ble_eq_true rfl) (fun z => by cases z) (Nat.le_of_ble_eq_true rfl) rfl rfl (s_r_isIn (by omega)) (fun r4 m5 => ?_)
    show xw _ _ _ _ 28 _ _ _ _
    refine w_if_eq (tg := 47) rfl rfl rfl ?_ ?_
    · refine w_iconst rfl ?_
      exact w_retv rfl rfl
    · refine w_aload_n rfl rfl ?_
      refine w_gfr (r := 110) rfl rfl (Nat.le_of_ble_eq_true rfl) rfl rfl ?_
      refine w_bipush rfl rfl ?_
      refine w_iconst rfl ?_
      refine w_iload_n rfl rfl ?_
      show xw _ _ _ _ 39 _ _ _ _
      refine w_imul rfl ?_
      refine w_iadd rfl ?_
      refine w_iload_n rfl rfl ?_
      refine w_iadd rfl ?_
      refine w_iaload rfl rfl (fun x6 => ?_)
      refine w_goto (tg := 48) rfl rfl ?_
      show xw _ _ _ _ 48 _ _ _ _
      exact w_retv rfl rfl
theorem s_r_isPiece_89 {d : Nat} (hd : 2 ≤ d) {v2 : Int} {m : xm} : xw (am_E L xs bz) d am_m259 1 89 [(0, .ref 78), (2, .int (i32 v2))] [] m (r_isPiece_89 v2 m) := by
  unfold r_isPiece_89
  refine w_aload_n rfl rfl ?_
  refine w_iload_n rfl rfl ?_
  refine w_pfi rfl rfl (Nat.le_of_ble_eq_true rfl) rfl rfl rfl (fun m1 => ?_)
  refine w_iconst rfl ?_
  exact w_retv rfl rfl
theorem s_r_isPiece_66 {d : Nat} (hd : 2 ≤ d) : ∀ (n : Nat) {v2 : Int} {v3 : Int} {m : xm}, xw (am_E L xs bz) d am_m259 1 66 [(0, .ref 78), (2, .int (i32 v2)), (3, .int (i32 v3))] [] m (r_isPiece_66 n v2 v3 m) := by
  intro n
  induction n with
  | zero => intros; exact w_none
  | succ n ih =>
    intro v2 v3 m
    have hk66 := fun (v2 v3 : Int) (m : xm) => @ih v2 v3 m
    unfold r_isPiece_66
    refine w_iload_n rfl rfl ?_
    refine w_iload_n rfl rfl ?_
    refine w_icmp_ge (tg := 89) rfl rfl rfl rfl ?_ ?_
    · exact w_weak [(0, .ref 78), (2, .int (i32 v2))] rfl ⟨rfl, rfl, trivial⟩ (s_r_isPiece_89 (by omega))
    · refine w_aload_n rfl rfl ?_
      refine w_gfr (r := 112) rfl rfl (Nat.le_of_ble_eq_true rfl) rfl rfl ?_
      refine w_iload_n rfl rfl ?_
      refine w_aload_n rfl rfl ?_
      refine w_gfr (r := 79) rfl rfl (Nat.le_of_ble_eq_true rfl) rfl rfl ?_
      show xw _ _ _ _ 80 _ _ _ _
      refine w_iload_n rfl rfl ?_
      refine w_iaload rfl rfl (fun x1 => ?_)
      refine w_iastore rfl rfl (fun m2 => ?_)
      refine w_iinc (lsd := [(3, .int (i32 (v3 + 1))), (0, .ref 78), (2, .int (i32 v2))]) rfl (Nat.le_of_ble_eq_true rfl) rfl rfl ?_
      refine w_goto (tg := 66) rfl rfl ?_
      exact w_weak [(0, .ref 78), (2, .int (i32 v2)), (3, .int (i32 (v3 + 1)))] rfl ⟨rfl, rfl, rfl, trivial⟩ (hk66 v2 (v3 + 1) m2)
theorem s_r_isPiece_64 {d : Nat} (hd : 2 ≤ d) {v2 : Int} {m : xm} : xw (am_E L xs bz) d am_m259 1 64 [(0, .ref 78), (2, .int (i32 v2))] [] m (r_isPiece_64 v2 m) := by
  unfold r_isPiece_64
  refine w_iconst rfl ?_
  refine w_istore_n (lsd := [(3, .int (i32 0)), (0, .ref 78), (2, .int (i32 v2))]) rfl (Nat.le_of_ble_eq_true rfl) rfl ?_
  exact w_weak [(0, .ref 78), (2, .int (i32 v2)), (3, .int (i32 0))] rfl ⟨rfl, rfl, rfl, trivial⟩ (s_r_isPiece_66 (by omega) _)
theorem s_r_isPiece_58 {d : Nat} {k27 : Int → Int → xm → xr} (hd : 2 ≤ d) (hk27 : ∀ (v2 v3 : Int) (m : xm), xw (am_E L xs bz) d am_m259 1 27 [(0, .ref 78), (2, .int (i32 v2)), (3, .int (i32 v3))] [] m (k27 v2 v3 m)) {v2 : Int} {v3 : Int} {m : xm} : xw (am_E L xs bz) d am_m259 1 58 [(0, .ref 78), (2, .int (i32 v2)), (3, .int (i32 v3))] [] m (r_isPiece_58 k27 v2 v3 m) := by
  unfold r_isPiece_58
  refine w_iinc (lsd := [(3, .int (i32 (v3 + 1))), (0, .ref 78), (2, .int (i32 v2))]) rfl (Nat.le_of_ble_eq_true rfl) rfl rfl ?_
  refine w_goto (tg := 27) rfl rfl ?_
  exact w_weak [(0, .ref 78), (2, .int (i32 v2)), (3, .int (i32 (v3 + 1)))] rfl ⟨rfl, rfl, rfl, trivial⟩ (hk27 v2 (v3 + 1) m)
theorem s_r_isPiece_27 {d : Nat} (hd : 2 ≤ d) : ∀ (n : Nat) {v2 : Int} {v3 : Int} {m : xm}, xw (am_E L xs bz) d am_m259 1 27 [(0, .ref 78), (2, .int (i32 v2)), (3, .int (i32 v3))] [] m (r_isPiece_27 n v2 v3 m) := by
  intro n
  induction n with
  | zero => intros; exact w_none
  | succ n ih =>
    intro v2 v3 m
    have hk27 := fun (v2 v3 : Int) (m : xm) => @ih v2 v3 m
    unfold r_isPiece_27
    refine w_iload_n rfl rfl ?_
    refine w_iload_n rfl rfl ?_
    refine w_icmp_ge (tg := 64) rfl rfl rfl rfl ?_ ?_
    · exact w_weak [(0, .ref 78), (2, .int (i32 v2))] rfl ⟨rfl, rfl, trivial⟩ (s_r_isPiece_64 (by omega))
    · refine w_aload_n rfl rfl ?_
      refine w_gfr (r := 79) rfl rfl (Nat.le_of_ble_eq_true rfl) rfl rfl ?_
      refine w_iload_n rfl rfl ?_
      refine w_iaload rfl rfl (fun x1 => ?_)
      refine w_bipush rfl rfl ?_
      show xw _ _ _ _ 40 _ _ _ _
      refine w_icmp_eq (tg := 58) rfl rfl rfl rfl ?_ ?_
      · exact w_weak [(0, .ref 78), (2, .int (i32 v2)), (3, .int (i32 v3))] rfl ⟨rfl, rfl, rfl, trivial⟩ (s_r_isPiece_58 (by omega) hk27)
      · refine w_aload_n rfl rfl ?_
        refine w_aload_n rfl rfl ?_
        refine w_gfr (r := 79) rfl rfl (Nat.le_of_ble_eq_true rfl) rfl rfl ?_
        refine w_iload_n rfl rfl ?_
        refine w_iaload rfl rfl (fun x2 => ?_)
        show xw _ _ _ _ 50 _ _ _ _
        refine w_call1 [.ref 78, .int (i32 x2)] [] (by omega) rfl rfl rfl rfl rfl rfl (Nat.le_of_ble_eq_true rfl) (fun _ => xrc_ok rfl) (Nat.le_of_ble_eq_true rfl) rfl rfl (s_r_isNote (by omega)) (fun r3 m4 => ?_)
        refine w_if_ne (tg := 58) rfl rfl rfl ?_ ?_
        · exact w_weak [(0, .ref 78), (2, .int (i32 v2)), (3, .int (i32 v3))] rfl ⟨rfl, rfl, rfl, trivial⟩ (s_r_isPiece_58 (by omega) hk27)
        · refine w_iconst rfl ?_
          exact w_retv rfl rfl
theorem s_r_isPiece {d : Nat} {v1 : Int} {m : xm} (hd : 2 ≤ d) : xw (am_E L xs bz) d am_m259 1 0 [(0, .ref 78), (1, .int (i32 v1))] [] m (r_isPiece v1 m) := by
  unfold r_isPiece
  refine w_aload_n rfl rfl ?_
  refine w_gfi rfl rfl (Nat.le_of_ble_eq_true rfl) rfl rfl ?_
  refine w_istore_n (lsd := [(2, .int (i32 (ld m 78 1))), (0, .ref 78), (1, .int (i32 v1))]) rfl (Nat.le_of_ble_eq_true rfl) rfl ?_
  refine w_aload_n rfl rfl ?_
  refine w_iconst rfl ?_
  show xw _ _ _ _ 7 _ _ _ _
  refine w_pfi rfl rfl (Nat.le_of_ble_eq_true rfl) rfl rfl rfl (fun m1 => ?_)
  refine w_iload_n rfl rfl ?_
  refine w_i2l (x' := ld m 78 1) rfl (w32_ld _ _ _) ?_
  refine w_iload_n rfl rfl ?_
  refine w_i2l (x' := w32 v1) rfl rfl ?_
  refine w_ldc2w (z := 20) rfl rfl rfl ?_
  show xw _ _ _ _ 17 _ _ _ _
  refine w_call1 [.long (i64 (ld m 78 1)), .long (i64 (w32 v1)), .long (i64 20)] [] (by omega) rfl rfl rfl rfl rfl rfl (Nat.le_of_ble_eq_true rfl) (fun z => by cases z) (Nat.le_of_ble_eq_true rfl) rfl rfl (s_r_isIn (by omega)) (fun r2 m3 => ?_)
  refine w_if_ne (tg := 25) rfl rfl rfl ?_ ?_
  · refine w_iconst rfl ?_
    refine w_istore_n (lsd := [(3, .int (i32 0)), (2, .int (i32 (ld m 78 1))), (0, .ref 78), (1, .int (i32 v1))]) rfl (Nat.le_of_ble_eq_true rfl) rfl ?_
    exact w_weak [(0, .ref 78), (2, .int (i32 (ld m 78 1))), (3, .int (i32 0))] rfl ⟨rfl, rfl, rfl, trivial⟩ (s_r_isPiece_27 (by omega) _)
  · refine w_iconst rfl ?_
    exact w_retv rfl rfl
theorem s_r_putsAside_2 {d : Nat} (hd : 0 ≤ d) : ∀ (n : Nat) {v1 : Int} {m : xm}, xw (am_E L xs bz) d am_m261 0 2 [(0, .ref 78), (1, .int (i32 v1))] [] m (r_putsAside_2 n v1 m) := by
  intro n
  induction n with
  | zero => intros; exact w_none
  | succ n ih =>
    intro v1 m
    have hk2 := fun (v1 : Int) (m : xm) => @ih v1 m
    unfold r_putsAside_2
    refine w_iload_n rfl rfl ?_
    refine w_bipush rfl rfl ?_
    refine w_icmp_ge (tg := 26) rfl rfl rfl rfl ?_ ?_
    · exact w_retv (x := 0) rfl rfl
    · refine w_aload_n rfl rfl ?_
      refine w_gfr (r := 111) rfl rfl (Nat.le_of_ble_eq_true rfl) rfl rfl ?_
      refine w_iload_n rfl rfl ?_
      refine w_aload_n rfl rfl ?_
      refine w_gfr (r := 110) rfl rfl (Nat.le_of_ble_eq_true rfl) rfl rfl ?_
      show xw _ _ _ _ 17 _ _ _ _
      refine w_iload_n rfl rfl ?_
      refine w_iaload rfl rfl (fun x1 => ?_)
      refine w_iastore rfl rfl (fun m2 => ?_)
      refine w_iinc (lsd := [(1, .int (i32 (v1 + 1))), (0, .ref 78)]) rfl (Nat.le_of_ble_eq_true rfl) rfl rfl ?_
      refine w_goto (tg := 2) rfl rfl ?_
      exact w_weak [(0, .ref 78), (1, .int (i32 (v1 + 1)))] rfl ⟨rfl, rfl, trivial⟩ (hk2 (v1 + 1) m2)
theorem s_r_putsAside {d : Nat} {m : xm} (hd : 0 ≤ d) : xw (am_E L xs bz) d am_m261 0 0 [(0, .ref 78)] [] m (r_putsAside m) := by
  unfold r_putsAside
  refine w_iconst rfl ?_
  refine w_istore_n (lsd := [(1, .int (i32 0)), (0, .ref 78)]) rfl (Nat.le_of_ble_eq_true rfl) rfl ?_
  exact w_weak [(0, .ref 78), (1, .int (i32 0))] rfl ⟨rfl, rfl, trivial⟩ (s_r_putsAside_2 (by omega) _)
theorem s_r_takesBack_2 {d : Nat} (hd : 0 ≤ d) : ∀ (n : Nat) {v1 : Int} {m : xm}, xw (am_E L xs bz) d am_m263 0 2 [(0, .ref 78), (1, .int (i32 v1))] [] m (r_takesBack_2 n v1 m) := by
  intro n
  induction n with
  | zero => intros; exact w_none
  | succ n ih =>
    intro v1 m
    have hk2 := fun (v1 : Int) (m : xm) => @ih v1 m
    unfold r_takesBack_2
    refine w_iload_n rfl rfl ?_
    refine w_bipush rfl rfl ?_
    refine w_icmp_ge (tg := 26) rfl rfl rfl rfl ?_ ?_
    · exact w_retv (x := 0) rfl rfl
    · refine w_aload_n rfl rfl ?_
      refine w_gfr (r := 110) rfl rfl (Nat.le_of_ble_eq_true rfl) rfl rfl ?_
      refine w_iload_n rfl rfl ?_
      refine w_aload_n rfl rfl ?_
      refine w_gfr (r := 111) rfl rfl (Nat.le_of_ble_eq_true rfl) rfl rfl ?_
      show xw _ _ _ _ 17 _ _ _ _
      refine w_iload_n rfl rfl ?_
      refine w_iaload rfl rfl (fun x1 => ?_)
      refine w_iastore rfl rfl (fun m2 => ?_)
      refine w_iinc (lsd := [(1, .int (i32 (v1 + 1))), (0, .ref 78)]) rfl (Nat.le_of_ble_eq_true rfl) rfl rfl ?_
      refine w_goto (tg := 2) rfl rfl ?_
      exact w_weak [(0, .ref 78), (1, .int (i32 (v1 + 1)))] rfl ⟨rfl, rfl, trivial⟩ (hk2 (v1 + 1) m2)
theorem s_r_takesBack {d : Nat} {m : xm} (hd : 0 ≤ d) : xw (am_E L xs bz) d am_m263 0 0 [(0, .ref 78)] [] m (r_takesBack m) := by
  unfold r_takesBack
  refine w_iconst rfl ?_
  refine w_istore_n (lsd := [(1, .int (i32 0)), (0, .ref 78)]) rfl (Nat.le_of_ble_eq_true rfl) rfl ?_
  exact w_weak [(0, .ref 78), (1, .int (i32 0))] rfl ⟨rfl, rfl, trivial⟩ (s_r_takesBack_2 (by omega) _)
theorem s_r_turns_86 {d : Nat} {k9 : Int → Int → xm → xr} (hd : 1 ≤ d) (hk9 : ∀ (v1 v2 : Int) (m : xm), xw (am_E L xs bz) d am_m262 0 9 [(0, .ref 78), (1, .int (i32 v1)), (2, .int (i32 v2))] [] m (k9 v1 v2 m)) {v1 : Int} {v2 : Int} {m : xm} : xw (am_E L xs bz) d am_m262 0 86 [(0, .ref 78), (1, .int (i32 v1)), (2, .int (i32 v2))] [] m (r_turns_86 k9 v1 v2 m) := by
  unfold r_turns_86
  refine w_iinc (lsd := [(2, .int (i32 (v2 + 1))), (0, .ref 78), (1, .int (i32 v1))]) rfl (Nat.le_of_ble_eq_true rfl) rfl rfl ?_
  refine w_goto (tg := 9) rfl rfl ?_
  exact w_weak [(0, .ref 78), (1, .int (i32 v1)), (2, .int (i32 (v2 + 1)))] rfl ⟨rfl, rfl, rfl, trivial⟩ (hk9 v1 (v2 + 1) m)
theorem s_r_turns_9 {d : Nat} (hd : 1 ≤ d) : ∀ (n : Nat) {v1 : Int} {v2 : Int} {m : xm}, xw (am_E L xs bz) d am_m262 0 9 [(0, .ref 78), (1, .int (i32 v1)), (2, .int (i32 v2))] [] m (r_turns_9 n v1 v2 m) := by
  intro n
  induction n with
  | zero => intros; exact w_none
  | succ n ih =>
    intro v1 v2 m
    have hk9 := fun (v1 v2 : Int) (m : xm) => @ih v1 v2 m
    unfold r_turns_9
    refine w_iload_n rfl rfl ?_
    refine w_aload_n rfl rfl ?_
    refine w_call1 [.ref 78] [.int (i32 v2)] (by omega) rfl rfl rfl rfl rfl rfl (Nat.le_of_ble_eq_true rfl) (fun _ => xrc_ok rfl) (Nat.le_of_ble_eq_true rfl) rfl rfl (s_r_lockMany (by omega)) (fun r1 m2 => ?_)
    refine w_icmp_ge (tg := 92) rfl rfl rfl rfl ?_ ?_
    · exact w_retv (x := 0) rfl rfl
    · refine w_aload_n rfl rfl ?_
      refine w_iload_n rfl rfl ?_
      refine w_iload_n rfl rfl ?_
      refine w_call1 [.ref 78, .int (i32 v1), .int (i32 v2)] [] (by omega) rfl rfl rfl rfl rfl rfl (Nat.le_of_ble_eq_true rfl) (fun _ => xrc_ok rfl) (Nat.le_of_ble_eq_true rfl) rfl rfl (s_r_turnOf (by omega)) (fun r3 m4 => ?_)
      refine w_if_ne (tg := 29) rfl rfl rfl ?_ ?_
      · refine w_aload_n rfl rfl ?_
        refine w_gfr (r := 110) rfl rfl (Nat.le_of_ble_eq_true rfl) rfl rfl ?_
        refine w_iconst rfl ?_
        refine w_iload_n rfl rfl ?_
        refine w_iadd rfl ?_
        show xw _ _ _ _ 36 _ _ _ _
        refine w_aload_n rfl rfl ?_
        refine w_iload_n rfl rfl ?_
        refine w_call1 [.ref 78, .int (i32 v2)] [.int (i32 (1 + v2)), .ref 110] (by omega) rfl rfl rfl rfl rfl rfl (Nat.le_of_ble_eq_true rfl) (fun _ => xrc_ok rfl) (Nat.le_of_ble_eq_true rfl) rfl rfl (s_r_wardNow (by omega)) (fun r5 m6 => ?_)
        refine w_aload_n rfl rfl ?_
        refine w_iload_n rfl rfl ?_
        refine w_iload_n rfl rfl ?_
        show xw _ _ _ _ 44 _ _ _ _
        refine w_call1 [.ref 78, .int (i32 v1), .int (i32 v2)] [.int (i32 r5), .int (i32 (1 + v2)), .ref 110] (by omega) rfl rfl rfl rfl rfl rfl (Nat.le_of_ble_eq_true rfl) (fun _ => xrc_ok rfl) (Nat.le_of_ble_eq_true rfl) rfl rfl (s_r_turnOf (by omega)) (fun r7 m8 => ?_)
        refine w_iadd rfl ?_
        refine w_aload_n rfl rfl ?_
        refine w_iload_n rfl rfl ?_
        refine w_call1 [.ref 78, .int (i32 v2)] [.int (i32 (r5 + r7)), .int (i32 (1 + v2)), .ref 110] (by omega) rfl rfl rfl rfl rfl rfl (Nat.le_of_ble_eq_true rfl) (fun _ => xrc_ok rfl) (Nat.le_of_ble_eq_true rfl) rfl rfl (s_r_wardsOf (by omega)) (fun r9 m10 => ?_)
        refine w_irem rfl rfl ?_
        show xw _ _ _ _ 54 _ _ _ _
        refine w_iastore rfl rfl (fun m11 => ?_)
        refine w_aload_n rfl rfl ?_
        refine w_iload_n rfl rfl ?_
        refine w_call1 [.ref 78, .int (i32 v2)] [] (by omega) rfl rfl rfl rfl rfl rfl (Nat.le_of_ble_eq_true rfl) (fun _ => xrc_ok rfl) (Nat.le_of_ble_eq_true rfl) rfl rfl (s_r_wardNow (by omega)) (fun r12 m13 => ?_)
        refine w_aload_n rfl rfl ?_
        refine w_gfr (r := 103) rfl rfl (Nat.le_of_ble_eq_true rfl) rfl rfl ?_
        show xw _ _ _ _ 64 _ _ _ _
        refine w_bipush rfl rfl ?_
        refine w_iconst rfl ?_
        refine w_iload_n rfl rfl ?_
        refine w_imul rfl ?_
        refine w_iadd rfl ?_
        refine w_iaload rfl rfl (fun x14 => ?_)
        show xw _ _ _ _ 71 _ _ _ _
        refine w_icmp_ne (tg := 86) rfl rfl rfl rfl ?_ ?_
        · exact w_weak [(0, .ref 78), (1, .int (i32 v1)), (2, .int (i32 v2))] rfl ⟨rfl, rfl, rfl, trivial⟩ (s_r_turns_86 (by omega) hk9)
        · refine w_aload_n rfl rfl ?_
          refine w_gfr (r := 110) rfl rfl (Nat.le_of_ble_eq_true rfl) rfl rfl ?_
          refine w_iconst rfl ?_
          refine w_dup2 rfl rfl rfl ?_
          refine w_iaload rfl rfl (fun x15 => ?_)
          show xw _ _ _ _ 81 _ _ _ _
          refine w_iconst rfl ?_
          refine w_iload_n rfl rfl ?_
          refine w_ishl rfl ?_
          refine w_ior rfl ?_
          refine w_iastore rfl rfl (fun m16 => ?_)
          exact w_weak [(0, .ref 78), (1, .int (i32 v1)), (2, .int (i32 v2))] rfl ⟨rfl, rfl, rfl, trivial⟩ (s_r_turns_86 (by omega) hk9)
      · refine w_goto (tg := 86) rfl rfl ?_
        exact w_weak [(0, .ref 78), (1, .int (i32 v1)), (2, .int (i32 v2))] rfl ⟨rfl, rfl, rfl, trivial⟩ (s_r_turns_86 (by omega) hk9)
theorem s_r_turns {d : Nat} {v1 : Int} {m : xm} (hd : 1 ≤ d) : xw (am_E L xs bz) d am_m262 0 0 [(0, .ref 78), (1, .int (i32 v1))] [] m (r_turns v1 m) := by
  unfold r_turns
  refine w_iload_n rfl rfl ?_
  refine w_bipush rfl rfl ?_
  refine w_icmp_ne (tg := 7) rfl rfl rfl rfl ?_ ?_
  · refine w_iconst rfl ?_
    refine w_istore_n (lsd := [(2, .int (i32 0)), (0, .ref 78), (1, .int (i32 v1))]) rfl (Nat.le_of_ble_eq_true rfl) rfl ?_
    exact w_weak [(0, .ref 78), (1, .int (i32 v1)), (2, .int (i32 0))] rfl ⟨rfl, rfl, rfl, trivial⟩ (s_r_turns_9 (by omega) _)
  · exact w_retv (x := 0) rfl rfl
theorem s_r_refuses {d : Nat} {v1 : Int} {m : xm} (hd : 0 ≤ d) : xw (am_E L xs bz) d am_m260 1 0 [(0, .ref 78), (1, .int (i32 v1))] [] m (r_refuses v1 m) := by
  unfold r_refuses
  refine w_aload_n rfl rfl ?_
  refine w_gfr (r := 80) rfl rfl (Nat.le_of_ble_eq_true rfl) rfl rfl ?_
  refine w_iload_n rfl rfl ?_
  refine w_dup2 rfl rfl rfl ?_
  refine w_iaload rfl rfl (fun x1 => ?_)
  show xw _ _ _ _ 7 _ _ _ _
  refine w_iconst rfl ?_
  refine w_iadd rfl ?_
  refine w_iastore rfl rfl (fun m2 => ?_)
  refine w_iconst rfl ?_
  exact w_retv rfl rfl
theorem s_r_judge_87 {d : Nat} (hd : 5 ≤ d) {v1 : Int} {m : xm} : xw (am_E L xs bz) d am_m258 1 87 [(0, .ref 78), (1, .int (i32 v1))] [] m (r_judge_87 v1 m) := by
  unfold r_judge_87
  refine w_aload_n rfl rfl ?_
  refine w_aload_n rfl rfl ?_
  refine w_call1 [.ref 78] [.ref 78] (by omega) rfl rfl rfl rfl rfl rfl (Nat.le_of_ble_eq_true rfl) (fun _ => xrc_ok rfl) (Nat.le_of_ble_eq_true rfl) rfl rfl (s_r_openNow (by omega)) (fun r1 m2 => ?_)
  refine w_pfi rfl rfl (Nat.le_of_ble_eq_true rfl) rfl rfl rfl (fun m3 => ?_)
  refine w_aload_n rfl rfl ?_
  show xw _ _ _ _ 96 _ _ _ _
  refine w_aload_n rfl rfl ?_
  refine w_call1 [.ref 78] [.ref 78] (by omega) rfl rfl rfl rfl rfl rfl (Nat.le_of_ble_eq_true rfl) (fun _ => xrc_ok rfl) (Nat.le_of_ble_eq_true rfl) rfl rfl (s_r_jammedNow (by omega)) (fun r4 m5 => ?_)
  refine w_pfi rfl rfl (Nat.le_of_ble_eq_true rfl) rfl rfl rfl (fun m6 => ?_)
  refine w_aload_n rfl rfl ?_
  refine w_iconst rfl ?_
  refine w_pfi rfl rfl (Nat.le_of_ble_eq_true rfl) rfl rfl rfl (fun m7 => ?_)
  show xw _ _ _ _ 108 _ _ _ _
  refine w_aload_n rfl rfl ?_
  refine w_call0 [.ref 78] [] (by omega) rfl rfl rfl rfl rfl rfl (Nat.le_of_ble_eq_true rfl) (fun _ => xrc_ok rfl) (Nat.le_of_ble_eq_true rfl) rfl rfl (s_r_takesBack (by omega)) (fun r8 m9 => ?_)
  refine w_iload_n rfl rfl ?_
  exact w_retv rfl rfl
theorem s_r_judge_25 {d : Nat} (hd : 5 ≤ d) : ∀ (n : Nat) {v1 : Int} {m : xm}, xw (am_E L xs bz) d am_m258 1 25 [(0, .ref 78), (1, .int (i32 v1))] [] m (r_judge_25 n v1 m) := by
  intro n
  induction n with
  | zero => intros; exact w_none
  | succ n ih =>
    intro v1 m
    have hk25 := fun (v1 : Int) (m : xm) => @ih v1 m
    unfold r_judge_25
    refine w_iload_n rfl rfl ?_
    refine w_aload_n rfl rfl ?_
    refine w_gfi rfl rfl (Nat.le_of_ble_eq_true rfl) rfl rfl ?_
    refine w_icmp_ge (tg := 87) rfl rfl rfl (w32_ld _ _ _) ?_ ?_
    · exact w_weak [(0, .ref 78), (1, .int (i32 v1))] rfl ⟨rfl, rfl, trivial⟩ (s_r_judge_87 (by omega))
    · refine w_aload_n rfl rfl ?_
      refine w_aload_n rfl rfl ?_
      refine w_gfr (r := 112) rfl rfl (Nat.le_of_ble_eq_true rfl) rfl rfl ?_
      refine w_iload_n rfl rfl ?_
      refine w_iaload rfl rfl (fun x1 => ?_)
      show xw _ _ _ _ 40 _ _ _ _
      refine w_call1 [.ref 78, .int (i32 x1)] [] (by omega) rfl rfl rfl rfl rfl rfl (Nat.le_of_ble_eq_true rfl) (fun _ => xrc_ok rfl) (Nat.le_of_ble_eq_true rfl) rfl rfl (s_r_canPlay (by omega)) (fun r2 m3 => ?_)
      refine w_if_eq (tg := 87) rfl rfl rfl ?_ ?_
      · exact w_weak [(0, .ref 78), (1, .int (i32 v1))] rfl ⟨rfl, rfl, trivial⟩ (s_r_judge_87 (by omega))
      · refine w_aload_n rfl rfl ?_
        refine w_call1 [.ref 78] [] (by omega) rfl rfl rfl rfl rfl rfl (Nat.le_of_ble_eq_true rfl) (fun _ => xrc_ok rfl) (Nat.le_of_ble_eq_true rfl) rfl rfl (s_r_openNow (by omega)) (fun r4 m5 => ?_)
        refine w_istore_n (lsd := [(2, .int (i32 r4)), (0, .ref 78), (1, .int (i32 v1))]) rfl (Nat.le_of_ble_eq_true rfl) rfl ?_
        refine w_aload_n rfl rfl ?_
        refine w_aload_n rfl rfl ?_
        show xw _ _ _ _ 53 _ _ _ _
        refine w_gfr (r := 112) rfl rfl (Nat.le_of_ble_eq_true rfl) rfl rfl ?_
        refine w_iload_n rfl rfl ?_
        refine w_iaload rfl rfl (fun x6 => ?_)
        refine w_call0 [.ref 78, .int (i32 x6)] [] (by omega) rfl rfl rfl rfl rfl rfl (Nat.le_of_ble_eq_true rfl) (fun _ => xrc_ok rfl) (Nat.le_of_ble_eq_true rfl) rfl rfl (s_r_turns (by omega)) (fun r7 m8 => ?_)
        refine w_aload_n rfl rfl ?_
        refine w_dup rfl rfl ?_
        show xw _ _ _ _ 63 _ _ _ _
        refine w_gfi rfl rfl (Nat.le_of_ble_eq_true rfl) rfl rfl ?_
        refine w_aload_n rfl rfl ?_
        refine w_call1 [.ref 78] [.int (i32 (ld m8 78 50)), .ref 78] (by omega) rfl rfl rfl rfl rfl rfl (Nat.le_of_ble_eq_true rfl) (fun _ => xrc_ok rfl) (Nat.le_of_ble_eq_true rfl) rfl rfl (s_r_openNow (by omega)) (fun r9 m10 => ?_)
        refine w_iload_n rfl rfl ?_
        refine w_iconst rfl ?_
        refine w_ixor rfl ?_
        show xw _ _ _ _ 73 _ _ _ _
        refine w_iand rfl ?_
        refine w_call1 [.int (i32 (ban r9 (bxo r4 (-1))))] [.int (i32 (ld m8 78 50)), .ref 78] (by omega) rfl rfl rfl rfl rfl rfl (Nat.le_of_ble_eq_true rfl) (fun z => by cases z) (Nat.le_of_ble_eq_true rfl) rfl rfl (s_r_bits (by omega)) (fun r11 m12 => ?_)
        refine w_iadd rfl ?_
        refine w_pfi rfl rfl (Nat.le_of_ble_eq_true rfl) rfl rfl rfl (fun m13 => ?_)
        refine w_iinc (lsd := [(1, .int (i32 (v1 + 1))), (2, .int (i32 r4)), (0, .ref 78)]) rfl (Nat.le_of_ble_eq_true rfl) rfl rfl ?_
        refine w_goto (tg := 25) rfl rfl ?_
        exact w_weak [(0, .ref 78), (1, .int (i32 (v1 + 1)))] rfl ⟨rfl, rfl, trivial⟩ (hk25 (v1 + 1) m13)
theorem s_r_judge {d : Nat} {m : xm} (hd : 5 ≤ d) : xw (am_E L xs bz) d am_m258 1 0 [(0, .ref 78)] [] m (r_judge m) := by
  unfold r_judge
  refine w_aload_n rfl rfl ?_
  refine w_iconst rfl ?_
  refine w_call1 [.ref 78, .int (i32 0)] [] (by omega) rfl rfl rfl rfl rfl rfl (Nat.le_of_ble_eq_true rfl) (fun _ => xrc_ok rfl) (Nat.le_of_ble_eq_true rfl) rfl rfl (s_r_isPiece (by omega)) (fun r1 m2 => ?_)
  refine w_if_ne (tg := 14) rfl rfl rfl ?_ ?_
  · refine w_aload_n rfl rfl ?_
    refine w_call0 [.ref 78] [] (by omega) rfl rfl rfl rfl rfl rfl (Nat.le_of_ble_eq_true rfl) (fun _ => xrc_ok rfl) (Nat.le_of_ble_eq_true rfl) rfl rfl (s_r_putsAside (by omega)) (fun r3 m4 => ?_)
    refine w_aload_n rfl rfl ?_
    refine w_iconst rfl ?_
    refine w_pfi rfl rfl (Nat.le_of_ble_eq_true rfl) rfl rfl rfl (fun m5 => ?_)
    show xw _ _ _ _ 23 _ _ _ _
    refine w_iconst rfl ?_
    refine w_istore_n (lsd := [(1, .int (i32 0)), (0, .ref 78)]) rfl (Nat.le_of_ble_eq_true rfl) rfl ?_
    exact w_weak [(0, .ref 78), (1, .int (i32 0))] rfl ⟨rfl, rfl, trivial⟩ (s_r_judge_25 (by omega) _)
  · refine w_aload_n rfl rfl ?_
    refine w_iconst rfl ?_
    refine w_call1 [.ref 78, .int (i32 1)] [] (by omega) rfl rfl rfl rfl rfl rfl (Nat.le_of_ble_eq_true rfl) (fun _ => xrc_ok rfl) (Nat.le_of_ble_eq_true rfl) rfl rfl (s_r_refuses (by omega)) (fun r6 m7 => ?_)
    exact w_retv rfl rfl
end S07
