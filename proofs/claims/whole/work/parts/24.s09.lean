section S09
variable {L : Nat} {xs : Nat → Int32} {bz : Bool}
theorem s_r_hangs_93 {d : Nat} {k29 : Int → Int → Int → Int → xm → xr} (hd : 4 ≤ d) (hk29 : ∀ (v1 v2 v3 v4 : Int) (m : xm), xw (am_E L xs bz) d am_m287 1 29 [(0, .ref 78), (1, .int (i32 v1)), (2, .int (i32 v2)), (3, .int (i32 v3)), (4, .int (i32 v4))] [] m (k29 v1 v2 v3 v4 m)) {v1 : Int} {v2 : Int} {v3 : Int} {v4 : Int} {v5 : Int} {m : xm} : xw (am_E L xs bz) d am_m287 1 93 [(0, .ref 78), (1, .int (i32 v1)), (2, .int (i32 v2)), (3, .int (i32 v3)), (4, .int (i32 v4)), (5, .int (i32 v5))] [] m (r_hangs_93 k29 v1 v2 v3 v4 v5 m) := by
  unfold r_hangs_93
  refine w_aload_n rfl rfl ?_
  refine w_gfr (r := 110) rfl rfl (Nat.le_of_ble_eq_true rfl) rfl rfl ?_
  refine w_iconst rfl ?_
  refine w_iload rfl rfl ?_
  refine w_iadd rfl ?_
  show xw _ _ _ _ 101 _ _ _ _
  refine w_iload rfl rfl ?_
  refine w_iastore rfl rfl (fun m1 => ?_)
  refine w_iinc (lsd := [(4, .int (i32 (v4 + 1))), (0, .ref 78), (1, .int (i32 v1)), (2, .int (i32 v2)), (3, .int (i32 v3)), (5, .int (i32 v5))]) rfl (Nat.le_of_ble_eq_true rfl) rfl rfl ?_
  refine w_goto (tg := 29) rfl rfl ?_
  exact w_weak [(0, .ref 78), (1, .int (i32 v1)), (2, .int (i32 v2)), (3, .int (i32 v3)), (4, .int (i32 (v4 + 1)))] rfl ⟨rfl, rfl, rfl, rfl, rfl, trivial⟩ (hk29 v1 v2 v3 (v4 + 1) m1)
theorem s_r_hangs_87 {d : Nat} {k29 : Int → Int → Int → Int → xm → xr} {k49 : Int → Int → Int → Int → Int → Int → xm → xr} (hd : 4 ≤ d) (hk29 : ∀ (v1 v2 v3 v4 : Int) (m : xm), xw (am_E L xs bz) d am_m287 1 29 [(0, .ref 78), (1, .int (i32 v1)), (2, .int (i32 v2)), (3, .int (i32 v3)), (4, .int (i32 v4))] [] m (k29 v1 v2 v3 v4 m)) (hk49 : ∀ (v1 v2 v3 v4 v5 v6 : Int) (m : xm), xw (am_E L xs bz) d am_m287 1 49 [(0, .ref 78), (1, .int (i32 v1)), (2, .int (i32 v2)), (3, .int (i32 v3)), (4, .int (i32 v4)), (5, .int (i32 v5)), (6, .int (i32 v6))] [] m (k49 v1 v2 v3 v4 v5 v6 m)) {v1 : Int} {v2 : Int} {v3 : Int} {v4 : Int} {v5 : Int} {v6 : Int} {m : xm} : xw (am_E L xs bz) d am_m287 1 87 [(0, .ref 78), (1, .int (i32 v1)), (2, .int (i32 v2)), (3, .int (i32 v3)), (4, .int (i32 v4)), (5, .int (i32 v5)), (6, .int (i32 v6))] [] m (r_hangs_87 k29 k49 v1 v2 v3 v4 v5 v6 m) := by
  unfold r_hangs_87
  refine w_iinc (lsd := [(6, .int (i32 (v6 + 1))), (0, .ref 78), (1, .int (i32 v1)), (2, .int (i32 v2)), (3, .int (i32 v3)), (4, .int (i32 v4)), (5, .int (i32 v5))]) rfl (Nat.le_of_ble_eq_true rfl) rfl rfl ?_
  refine w_goto (tg := 49) rfl rfl ?_
  exact w_weak [(0, .ref 78), (1, .int (i32 v1)), (2, .int (i32 v2)), (3, .int (i32 v3)), (4, .int (i32 v4)), (5, .int (i32 v5)), (6, .int (i32 (v6 + 1)))] rfl ⟨rfl, rfl, rfl, rfl, rfl, rfl, rfl, trivial⟩ (hk49 v1 v2 v3 v4 v5 (v6 + 1) m)
theorem s_r_hangs_49 {d : Nat} {k29 : Int → Int → Int → Int → xm → xr} (hd : 4 ≤ d) (hk29 : ∀ (v1 v2 v3 v4 : Int) (m : xm), xw (am_E L xs bz) d am_m287 1 29 [(0, .ref 78), (1, .int (i32 v1)), (2, .int (i32 v2)), (3, .int (i32 v3)), (4, .int (i32 v4))] [] m (k29 v1 v2 v3 v4 m)) : ∀ (n : Nat) {v1 : Int} {v2 : Int} {v3 : Int} {v4 : Int} {v5 : Int} {v6 : Int} {m : xm}, xw (am_E L xs bz) d am_m287 1 49 [(0, .ref 78), (1, .int (i32 v1)), (2, .int (i32 v2)), (3, .int (i32 v3)), (4, .int (i32 v4)), (5, .int (i32 v5)), (6, .int (i32 v6))] [] m (r_hangs_49 k29 n v1 v2 v3 v4 v5 v6 m) := by
  intro n
  induction n with
  | zero => intros; exact w_none
  | succ n ih =>
    intro v1 v2 v3 v4 v5 v6 m
    have hk49 := fun (v1 v2 v3 v4 v5 v6 : Int) (m : xm) => @ih v1 v2 v3 v4 v5 v6 m
    unfold r_hangs_49
    refine w_iload rfl rfl ?_
    refine w_aload_n rfl rfl ?_
    refine w_iload rfl rfl ?_
    refine w_call1 [.ref 78, .int (i32 v4)] [.int (i32 v6)] (by omega) rfl rfl rfl rfl rfl rfl (Nat.le_of_ble_eq_true rfl) (fun _ => xrc_ok rfl) (Nat.le_of_ble_eq_true rfl) rfl rfl (s_r_wardsOf (by omega)) (fun r1 m2 => ?_)
    refine w_icmp_ge (tg := 93) rfl rfl rfl rfl ?_ ?_
    · exact w_weak [(0, .ref 78), (1, .int (i32 v1)), (2, .int (i32 v2)), (3, .int (i32 v3)), (4, .int (i32 v4)), (5, .int (i32 v5))] rfl ⟨rfl, rfl, rfl, rfl, rfl, rfl, trivial⟩ (s_r_hangs_93 (by omega) hk29)
    · refine w_aload_n rfl rfl ?_
      refine w_gfr (r := 110) rfl rfl (Nat.le_of_ble_eq_true rfl) rfl rfl ?_
      refine w_iconst rfl ?_
      refine w_iload rfl rfl ?_
      refine w_iadd rfl ?_
      show xw _ _ _ _ 68 _ _ _ _
      refine w_iload rfl rfl ?_
      refine w_iastore rfl rfl (fun m3 => ?_)
      refine w_aload_n rfl rfl ?_
      refine w_iload_n rfl rfl ?_
      refine w_call1 [.ref 78, .int (i32 v1)] [] (by omega) rfl rfl rfl rfl rfl rfl (Nat.le_of_ble_eq_true rfl) (fun _ => xrc_ok rfl) (Nat.le_of_ble_eq_true rfl) rfl rfl (s_r_isOpen (by omega)) (fun r4 m5 => ?_)
      refine w_iload_n rfl rfl ?_
      show xw _ _ _ _ 77 _ _ _ _
      refine w_icmp_eq (tg := 87) rfl rfl rfl rfl ?_ ?_
      · exact w_weak [(0, .ref 78), (1, .int (i32 v1)), (2, .int (i32 v2)), (3, .int (i32 v3)), (4, .int (i32 v4)), (5, .int (i32 v5)), (6, .int (i32 v6))] rfl ⟨rfl, rfl, rfl, rfl, rfl, rfl, rfl, trivial⟩ (s_r_hangs_87 (by omega) hk29 hk49)
      · refine w_iload_n rfl rfl ?_
        refine w_iconst rfl ?_
        refine w_iload rfl rfl ?_
        refine w_ishl rfl ?_
        refine w_ior rfl ?_
        show xw _ _ _ _ 86 _ _ _ _
        refine w_letI (fun x6 => ?_)
        refine w_istore_n (lsd := [(3, .int (i32 x6)), (0, .ref 78), (1, .int (i32 v1)), (2, .int (i32 v2)), (4, .int (i32 v4)), (5, .int (i32 v5)), (6, .int (i32 v6))]) rfl (Nat.le_of_ble_eq_true rfl) rfl ?_
        exact w_weak [(0, .ref 78), (1, .int (i32 v1)), (2, .int (i32 v2)), (3, .int (i32 x6)), (4, .int (i32 v4)), (5, .int (i32 v5)), (6, .int (i32 v6))] rfl ⟨rfl, rfl, rfl, rfl, rfl, rfl, rfl, trivial⟩ (s_r_hangs_87 (by omega) hk29 hk49)
theorem s_r_hangs_29 {d : Nat} (hd : 4 ≤ d) : ∀ (n : Nat) {v1 : Int} {v2 : Int} {v3 : Int} {v4 : Int} {m : xm}, xw (am_E L xs bz) d am_m287 1 29 [(0, .ref 78), (1, .int (i32 v1)), (2, .int (i32 v2)), (3, .int (i32 v3)), (4, .int (i32 v4))] [] m (r_hangs_29 n v1 v2 v3 v4 m) := by
  intro n
  induction n with
  | zero => intros; exact w_none
  | succ n ih =>
    intro v1 v2 v3 v4 m
    have hk29 := fun (v1 v2 v3 v4 : Int) (m : xm) => @ih v1 v2 v3 v4 m
    unfold r_hangs_29
    refine w_iload rfl rfl ?_
    refine w_aload_n rfl rfl ?_
    refine w_call1 [.ref 78] [.int (i32 v4)] (by omega) rfl rfl rfl rfl rfl rfl (Nat.le_of_ble_eq_true rfl) (fun _ => xrc_ok rfl) (Nat.le_of_ble_eq_true rfl) rfl rfl (s_r_lockMany (by omega)) (fun r1 m2 => ?_)
    refine w_icmp_ge (tg := 110) rfl rfl rfl rfl ?_ ?_
    · refine w_iload_n rfl rfl ?_
      exact w_retv rfl rfl
    · refine w_aload_n rfl rfl ?_
      refine w_iload rfl rfl ?_
      refine w_call1 [.ref 78, .int (i32 v4)] [] (by omega) rfl rfl rfl rfl rfl rfl (Nat.le_of_ble_eq_true rfl) (fun _ => xrc_ok rfl) (Nat.le_of_ble_eq_true rfl) rfl rfl (s_r_wardNow (by omega)) (fun r3 m4 => ?_)
      refine w_istore (lsd := [(5, .int (i32 r3)), (0, .ref 78), (1, .int (i32 v1)), (2, .int (i32 v2)), (3, .int (i32 v3)), (4, .int (i32 v4))]) rfl (Nat.le_of_ble_eq_true rfl) rfl ?_
      refine w_iconst rfl ?_
      show xw _ _ _ _ 47 _ _ _ _
      refine w_istore (lsd := [(6, .int (i32 0)), (5, .int (i32 r3)), (0, .ref 78), (1, .int (i32 v1)), (2, .int (i32 v2)), (3, .int (i32 v3)), (4, .int (i32 v4))]) rfl (Nat.le_of_ble_eq_true rfl) rfl ?_
      exact w_weak [(0, .ref 78), (1, .int (i32 v1)), (2, .int (i32 v2)), (3, .int (i32 v3)), (4, .int (i32 v4)), (5, .int (i32 r3)), (6, .int (i32 0))] rfl ⟨rfl, rfl, rfl, rfl, rfl, rfl, rfl, trivial⟩ (s_r_hangs_49 (by omega) hk29 _)
theorem s_r_hangs {d : Nat} {v1 : Int} {m : xm} (hd : 4 ≤ d) : xw (am_E L xs bz) d am_m287 1 0 [(0, .ref 78), (1, .int (i32 v1))] [] m (r_hangs v1 m) := by
  unfold r_hangs
  refine w_iload_n rfl rfl ?_
  refine w_i2l (x' := w32 v1) rfl rfl ?_
  refine w_lconst (z := 0) rfl rfl ?_
  refine w_aload_n rfl rfl ?_
  refine w_call1 [.ref 78] [.long (i64 0), .long (i64 (w32 v1))] (by omega) rfl rfl rfl rfl rfl rfl (Nat.le_of_ble_eq_true rfl) (fun _ => xrc_ok rfl) (Nat.le_of_ble_eq_true rfl) rfl rfl (s_r_doorMany (by omega)) (fun r1 m2 => ?_)
  show xw _ _ _ _ 7 _ _ _ _
  refine w_iconst rfl ?_
  refine w_isub rfl ?_
  refine w_i2l (x' := w32 (r1 - 1)) rfl rfl ?_
  refine w_call1 [.long (i64 (w32 v1)), .long (i64 0), .long (i64 (w32 (r1 - 1)))] [] (by omega) rfl rfl rfl rfl rfl rfl (Nat.le_of_ble_eq_true rfl) (fun z => by cases z) (Nat.le_of_ble_eq_true rfl) rfl rfl (s_r_isIn (by omega)) (fun r3 m4 => ?_)
  refine w_if_ne (tg := 18) rfl rfl rfl ?_ ?_
  · refine w_aload_n rfl rfl ?_
    refine w_iload_n rfl rfl ?_
    refine w_call1 [.ref 78, .int (i32 v1)] [] (by omega) rfl rfl rfl rfl rfl rfl (Nat.le_of_ble_eq_true rfl) (fun _ => xrc_ok rfl) (Nat.le_of_ble_eq_true rfl) rfl rfl (s_r_isOpen (by omega)) (fun r5 m6 => ?_)
    refine w_istore_n (lsd := [(2, .int (i32 r5)), (0, .ref 78), (1, .int (i32 v1))]) rfl (Nat.le_of_ble_eq_true rfl) rfl ?_
    refine w_iconst rfl ?_
    show xw _ _ _ _ 25 _ _ _ _
    refine w_istore_n (lsd := [(3, .int (i32 0)), (2, .int (i32 r5)), (0, .ref 78), (1, .int (i32 v1))]) rfl (Nat.le_of_ble_eq_true rfl) rfl ?_
    refine w_iconst rfl ?_
    refine w_istore (lsd := [(4, .int (i32 0)), (3, .int (i32 0)), (2, .int (i32 r5)), (0, .ref 78), (1, .int (i32 v1))]) rfl (Nat.le_of_ble_eq_true rfl) rfl ?_
    exact w_weak [(0, .ref 78), (1, .int (i32 v1)), (2, .int (i32 r5)), (3, .int (i32 0)), (4, .int (i32 0))] rfl ⟨rfl, rfl, rfl, rfl, rfl, trivial⟩ (s_r_hangs_29 (by omega) _)
  · refine w_iconst rfl ?_
    exact w_retv rfl rfl
theorem s_r_undo_53 {d : Nat} (hd : 0 ≤ d) {m : xm} : xw (am_E L xs bz) d am_m288 1 53 [(0, .ref 78)] [] m (r_undo_53 m) := by
  unfold r_undo_53
  refine w_aload_n rfl rfl ?_
  refine w_aload_n rfl rfl ?_
  refine w_gfi rfl rfl (Nat.le_of_ble_eq_true rfl) rfl rfl ?_
  refine w_bipush rfl rfl ?_
  refine w_iadd rfl ?_
  show xw _ _ _ _ 61 _ _ _ _
  refine w_iconst rfl ?_
  refine w_isub rfl ?_
  refine w_bipush rfl rfl ?_
  refine w_iremc rfl (by decide) ?_
  refine w_pfi rfl rfl (Nat.le_of_ble_eq_true rfl) rfl rfl rfl (fun m1 => ?_)
  refine w_aload_n rfl rfl ?_
  show xw _ _ _ _ 70 _ _ _ _
  refine w_dup rfl rfl ?_
  refine w_gfi rfl rfl (Nat.le_of_ble_eq_true rfl) rfl rfl ?_
  refine w_iconst rfl ?_
  refine w_isub rfl ?_
  refine w_pfi rfl rfl (Nat.le_of_ble_eq_true rfl) rfl rfl rfl (fun m2 => ?_)
  refine w_iconst rfl ?_
  show xw _ _ _ _ 80 _ _ _ _
  exact w_retv rfl rfl
theorem s_r_undo_21 {d : Nat} (hd : 0 ≤ d) : ∀ (n : Nat) {v1 : Int} {m : xm}, xw (am_E L xs bz) d am_m288 1 21 [(0, .ref 78), (1, .int (i32 v1))] [] m (r_undo_21 n v1 m) := by
  intro n
  induction n with
  | zero => intros; exact w_none
  | succ n ih =>
    intro v1 m
    have hk21 := fun (v1 : Int) (m : xm) => @ih v1 m
    unfold r_undo_21
    refine w_iload_n rfl rfl ?_
    refine w_bipush rfl rfl ?_
    refine w_icmp_ge (tg := 53) rfl rfl rfl rfl ?_ ?_
    · exact w_weak [(0, .ref 78)] rfl ⟨rfl, trivial⟩ (s_r_undo_53 (by omega))
    · refine w_aload_n rfl rfl ?_
      refine w_gfr (r := 110) rfl rfl (Nat.le_of_ble_eq_true rfl) rfl rfl ?_
      refine w_iload_n rfl rfl ?_
      refine w_aload_n rfl rfl ?_
      refine w_gfr (r := 118) rfl rfl (Nat.le_of_ble_eq_true rfl) rfl rfl ?_
      show xw _ _ _ _ 36 _ _ _ _
      refine w_bipush rfl rfl ?_
      refine w_aload_n rfl rfl ?_
      refine w_gfi rfl rfl (Nat.le_of_ble_eq_true rfl) rfl rfl ?_
      refine w_imul rfl ?_
      refine w_iload_n rfl rfl ?_
      refine w_iadd rfl ?_
      show xw _ _ _ _ 45 _ _ _ _
      refine w_iaload rfl rfl (fun x1 => ?_)
      refine w_iastore rfl rfl (fun m2 => ?_)
      refine w_iinc (lsd := [(1, .int (i32 (v1 + 1))), (0, .ref 78)]) rfl (Nat.le_of_ble_eq_true rfl) rfl rfl ?_
      refine w_goto (tg := 21) rfl rfl ?_
      exact w_weak [(0, .ref 78), (1, .int (i32 (v1 + 1)))] rfl ⟨rfl, rfl, trivial⟩ (hk21 (v1 + 1) m2)
theorem s_r_undo {d : Nat} {m : xm} (hd : 0 ≤ d) : xw (am_E L xs bz) d am_m288 1 0 [(0, .ref 78)] [] m (r_undo m) := by
  unfold r_undo
  refine w_aload_n rfl rfl ?_
  refine w_gfi rfl rfl (Nat.le_of_ble_eq_true rfl) rfl rfl ?_
  refine w_if_ne (tg := 19) rfl rfl (w32_ld _ _ _) ?_ ?_
  · refine w_iconst rfl ?_
    refine w_istore_n (lsd := [(1, .int (i32 0)), (0, .ref 78)]) rfl (Nat.le_of_ble_eq_true rfl) rfl ?_
    exact w_weak [(0, .ref 78), (1, .int (i32 0))] rfl ⟨rfl, rfl, trivial⟩ (s_r_undo_21 (by omega) _)
  · refine w_aload_n rfl rfl ?_
    refine w_gfr (r := 80) rfl rfl (Nat.le_of_ble_eq_true rfl) rfl rfl ?_
    refine w_iconst rfl ?_
    refine w_dup2 rfl rfl rfl ?_
    refine w_iaload rfl rfl (fun x1 => ?_)
    show xw _ _ _ _ 14 _ _ _ _
    refine w_iconst rfl ?_
    refine w_iadd rfl ?_
    refine w_iastore rfl rfl (fun m2 => ?_)
    refine w_iconst rfl ?_
    exact w_retv rfl rfl
theorem s_r_seed {d : Nat} {v1 : Int} {m : xm} (hd : 0 ≤ d) : xw (am_E L xs bz) d am_m289 1 0 [(0, .ref 78), (1, .int (i32 v1))] [] m (r_seed v1 m) := by
  unfold r_seed
  refine w_iload_n rfl rfl ?_
  refine w_if_ge (tg := 16) rfl rfl rfl ?_ ?_
  · refine w_aload_n rfl rfl ?_
    refine w_iload_n rfl rfl ?_
    refine w_i2l (x' := w32 v1) rfl rfl ?_
    refine w_pfl rfl rfl (Nat.le_of_ble_eq_true rfl) rfl rfl rfl (fun m1 => ?_)
    refine w_iconst rfl ?_
    show xw _ _ _ _ 23 _ _ _ _
    exact w_retv rfl rfl
  · refine w_aload_n rfl rfl ?_
    refine w_gfr (r := 80) rfl rfl (Nat.le_of_ble_eq_true rfl) rfl rfl ?_
    refine w_iconst rfl ?_
    refine w_dup2 rfl rfl rfl ?_
    refine w_iaload rfl rfl (fun x2 => ?_)
    show xw _ _ _ _ 11 _ _ _ _
    refine w_iconst rfl ?_
    refine w_iadd rfl ?_
    refine w_iastore rfl rfl (fun m3 => ?_)
    refine w_iconst rfl ?_
    exact w_retv rfl rfl
theorem s_r_keeps_47 {d : Nat} (hd : 0 ≤ d) {m : xm} : xw (am_E L xs bz) d am_m291 0 47 [(0, .ref 78)] [] m (r_keeps_47 m) := by
  unfold r_keeps_47
  refine w_aload_n rfl rfl ?_
  refine w_gfi rfl rfl (Nat.le_of_ble_eq_true rfl) rfl rfl ?_
  refine w_bipush rfl rfl ?_
  refine w_icmp_ge (tg := 66) rfl rfl (w32_ld _ _ _) rfl ?_ ?_
  · exact w_retv (x := 0) rfl rfl
  · refine w_aload_n rfl rfl ?_
    refine w_dup rfl rfl ?_
    refine w_gfi rfl rfl (Nat.le_of_ble_eq_true rfl) rfl rfl ?_
    refine w_iconst rfl ?_
    refine w_iadd rfl ?_
    show xw _ _ _ _ 63 _ _ _ _
    refine w_pfi rfl rfl (Nat.le_of_ble_eq_true rfl) rfl rfl rfl (fun m1 => ?_)
    exact w_retv (x := 0) rfl rfl
theorem s_r_keeps_15 {d : Nat} (hd : 0 ≤ d) : ∀ (n : Nat) {v1 : Int} {m : xm}, xw (am_E L xs bz) d am_m291 0 15 [(0, .ref 78), (1, .int (i32 v1))] [] m (r_keeps_15 n v1 m) := by
  intro n
  induction n with
  | zero => intros; exact w_none
  | succ n ih =>
    intro v1 m
    have hk15 := fun (v1 : Int) (m : xm) => @ih v1 m
    unfold r_keeps_15
    refine w_iload_n rfl rfl ?_
    refine w_bipush rfl rfl ?_
    refine w_icmp_ge (tg := 47) rfl rfl rfl rfl ?_ ?_
    · exact w_weak [(0, .ref 78)] rfl ⟨rfl, trivial⟩ (s_r_keeps_47 (by omega))
    · refine w_aload_n rfl rfl ?_
      refine w_gfr (r := 118) rfl rfl (Nat.le_of_ble_eq_true rfl) rfl rfl ?_
      refine w_bipush rfl rfl ?_
      refine w_aload_n rfl rfl ?_
      refine w_gfi rfl rfl (Nat.le_of_ble_eq_true rfl) rfl rfl ?_
      show xw _ _ _ _ 31 _ _ _ _
      refine w_imul rfl ?_
      refine w_iload_n rfl rfl ?_
      refine w_iadd rfl ?_
      refine w_aload_n rfl rfl ?_
      refine w_gfr (r := 110) rfl rfl (Nat.le_of_ble_eq_true rfl) rfl rfl ?_
      refine w_iload_n rfl rfl ?_
      show xw _ _ _ _ 39 _ _ _ _
      refine w_iaload rfl rfl (fun x1 => ?_)
      refine w_iastore rfl rfl (fun m2 => ?_)
      refine w_iinc (lsd := [(1, .int (i32 (v1 + 1))), (0, .ref 78)]) rfl (Nat.le_of_ble_eq_true rfl) rfl rfl ?_
      refine w_goto (tg := 15) rfl rfl ?_
      exact w_weak [(0, .ref 78), (1, .int (i32 (v1 + 1)))] rfl ⟨rfl, rfl, trivial⟩ (hk15 (v1 + 1) m2)
theorem s_r_keeps {d : Nat} {m : xm} (hd : 0 ≤ d) : xw (am_E L xs bz) d am_m291 0 0 [(0, .ref 78)] [] m (r_keeps m) := by
  unfold r_keeps
  refine w_aload_n rfl rfl ?_
  refine w_aload_n rfl rfl ?_
  refine w_gfi rfl rfl (Nat.le_of_ble_eq_true rfl) rfl rfl ?_
  refine w_iconst rfl ?_
  refine w_iadd rfl ?_
  show xw _ _ _ _ 7 _ _ _ _
  refine w_bipush rfl rfl ?_
  refine w_iremc rfl (by decide) ?_
  refine w_pfi rfl rfl (Nat.le_of_ble_eq_true rfl) rfl rfl rfl (fun m1 => ?_)
  refine w_iconst rfl ?_
  refine w_istore_n (lsd := [(1, .int (i32 0)), (0, .ref 78)]) rfl (Nat.le_of_ble_eq_true rfl) rfl ?_
  exact w_weak [(0, .ref 78), (1, .int (i32 0))] rfl ⟨rfl, rfl, trivial⟩ (s_r_keeps_15 (by omega) _)
theorem s_r_keepsDoors_140 {d : Nat} {k7 : Int → Int → Int → xm → xr} (hd : 5 ≤ d) (hk7 : ∀ (v1 v2 v3 : Int) (m : xm), xw (am_E L xs bz) d am_m293 0 7 [(0, .ref 78), (1, .int (i32 v1)), (2, .int (i32 v2)), (3, .int (i32 v3))] [] m (k7 v1 v2 v3 m)) {v1 : Int} {v2 : Int} {v3 : Int} {m : xm} : xw (am_E L xs bz) d am_m293 0 140 [(0, .ref 78), (1, .int (i32 v1)), (2, .int (i32 v2)), (3, .int (i32 v3))] [] m (r_keepsDoors_140 k7 v1 v2 v3 m) := by
  unfold r_keepsDoors_140
  refine w_iinc (lsd := [(3, .int (i32 (v3 + 1))), (0, .ref 78), (1, .int (i32 v1)), (2, .int (i32 v2))]) rfl (Nat.le_of_ble_eq_true rfl) rfl rfl ?_
  refine w_goto (tg := 7) rfl rfl ?_
  exact w_weak [(0, .ref 78), (1, .int (i32 v1)), (2, .int (i32 v2)), (3, .int (i32 (v3 + 1)))] rfl ⟨rfl, rfl, rfl, rfl, trivial⟩ (hk7 v1 v2 (v3 + 1) m)
theorem s_r_keepsDoors_87 {d : Nat} {k7 : Int → Int → Int → xm → xr} (hd : 5 ≤ d) (hk7 : ∀ (v1 v2 v3 : Int) (m : xm), xw (am_E L xs bz) d am_m293 0 7 [(0, .ref 78), (1, .int (i32 v1)), (2, .int (i32 v2)), (3, .int (i32 v3))] [] m (k7 v1 v2 v3 m)) {v1 : Int} {v2 : Int} {v3 : Int} {m : xm} : xw (am_E L xs bz) d am_m293 0 87 [(0, .ref 78), (1, .int (i32 v1)), (2, .int (i32 v2)), (3, .int (i32 v3))] [] m (r_keepsDoors_87 k7 v1 v2 v3 m) := by
  unfold r_keepsDoors_87
  refine w_bipush rfl rfl ?_
  refine w_iconst rfl ?_
  refine w_aload_n rfl rfl ?_
  refine w_gfr (r := 110) rfl rfl (Nat.le_of_ble_eq_true rfl) rfl rfl ?_
  refine w_bipush rfl rfl ?_
  show xw _ _ _ _ 96 _ _ _ _
  refine w_iaload rfl rfl (fun x1 => ?_)
  refine w_imul rfl ?_
  refine w_iadd rfl ?_
  refine w_iconst rfl ?_
  refine w_isub rfl ?_
  refine w_letI (fun x2 => ?_)
  refine w_istore (lsd := [(4, .int (i32 x2)), (0, .ref 78), (1, .int (i32 v1)), (2, .int (i32 v2)), (3, .int (i32 v3))]) rfl (Nat.le_of_ble_eq_true rfl) rfl ?_
  show xw _ _ _ _ 103 _ _ _ _
  refine w_aload_n rfl rfl ?_
  refine w_gfr (r := 110) rfl rfl (Nat.le_of_ble_eq_true rfl) rfl rfl ?_
  refine w_iload rfl rfl ?_
  refine w_aload_n rfl rfl ?_
  refine w_gfr (r := 110) rfl rfl (Nat.le_of_ble_eq_true rfl) rfl rfl ?_
  refine w_iconst rfl ?_
  show xw _ _ _ _ 114 _ _ _ _
  refine w_iaload rfl rfl (fun x3 => ?_)
  refine w_iastore rfl rfl (fun m4 => ?_)
  refine w_aload_n rfl rfl ?_
  refine w_gfr (r := 110) rfl rfl (Nat.le_of_ble_eq_true rfl) rfl rfl ?_
  refine w_iload rfl rfl ?_
  refine w_iconst rfl ?_
  show xw _ _ _ _ 123 _ _ _ _
  refine w_iadd rfl ?_
  refine w_iload_n rfl rfl ?_
  refine w_iastore rfl rfl (fun m5 => ?_)
  refine w_aload_n rfl rfl ?_
  refine w_gfr (r := 110) rfl rfl (Nat.le_of_ble_eq_true rfl) rfl rfl ?_
  refine w_iload rfl rfl ?_
  show xw _ _ _ _ 132 _ _ _ _
  refine w_iconst rfl ?_
  refine w_iadd rfl ?_
  refine w_iload_n rfl rfl ?_
  refine w_iload_n rfl rfl ?_
  refine w_ishr rfl ?_
  refine w_iconst rfl ?_
  show xw _ _ _ _ 138 _ _ _ _
  refine w_iand rfl ?_
  refine w_iastore rfl rfl (fun m6 => ?_)
  exact w_weak [(0, .ref 78), (1, .int (i32 v1)), (2, .int (i32 v2)), (3, .int (i32 v3))] rfl ⟨rfl, rfl, rfl, rfl, trivial⟩ (s_r_keepsDoors_140 (by omega) hk7)
theorem s_r_keepsDoors_73 {d : Nat} {k7 : Int → Int → Int → xm → xr} (hd : 5 ≤ d) (hk7 : ∀ (v1 v2 v3 : Int) (m : xm), xw (am_E L xs bz) d am_m293 0 7 [(0, .ref 78), (1, .int (i32 v1)), (2, .int (i32 v2)), (3, .int (i32 v3))] [] m (k7 v1 v2 v3 m)) {v1 : Int} {v2 : Int} {v3 : Int} {m : xm} : xw (am_E L xs bz) d am_m293 0 73 [(0, .ref 78), (1, .int (i32 v1)), (2, .int (i32 v2)), (3, .int (i32 v3))] [] m (r_keepsDoors_73 k7 v1 v2 v3 m) := by
  unfold r_keepsDoors_73
  refine w_goto (tg := 87) rfl rfl ?_
  exact w_weak [(0, .ref 78), (1, .int (i32 v1)), (2, .int (i32 v2)), (3, .int (i32 v3))] rfl ⟨rfl, rfl, rfl, rfl, trivial⟩ (s_r_keepsDoors_87 (by omega) hk7)
theorem s_r_keepsDoors_44 {d : Nat} {k7 : Int → Int → Int → xm → xr} (hd : 5 ≤ d) (hk7 : ∀ (v1 v2 v3 : Int) (m : xm), xw (am_E L xs bz) d am_m293 0 7 [(0, .ref 78), (1, .int (i32 v1)), (2, .int (i32 v2)), (3, .int (i32 v3))] [] m (k7 v1 v2 v3 m)) : ∀ (n : Nat) {v1 : Int} {v2 : Int} {v3 : Int} {v4 : Int} {m : xm}, xw (am_E L xs bz) d am_m293 0 44 [(0, .ref 78), (1, .int (i32 v1)), (2, .int (i32 v2)), (3, .int (i32 v3)), (4, .int (i32 v4))] [] m (r_keepsDoors_44 k7 n v1 v2 v3 v4 m) := by
  intro n
  induction n with
  | zero => intros; exact w_none
  | succ n ih =>
    intro v1 v2 v3 v4 m
    have hk44 := fun (v1 v2 v3 v4 : Int) (m : xm) => @ih v1 v2 v3 v4 m
    unfold r_keepsDoors_44
    refine w_iload rfl rfl ?_
    refine w_bipush rfl rfl ?_
    refine w_icmp_ge (tg := 73) rfl rfl rfl rfl ?_ ?_
    · exact w_weak [(0, .ref 78), (1, .int (i32 v1)), (2, .int (i32 v2)), (3, .int (i32 v3))] rfl ⟨rfl, rfl, rfl, rfl, trivial⟩ (s_r_keepsDoors_73 (by omega) hk7)
    · refine w_aload_n rfl rfl ?_
      refine w_gfr (r := 110) rfl rfl (Nat.le_of_ble_eq_true rfl) rfl rfl ?_
      refine w_iload rfl rfl ?_
      refine w_aload_n rfl rfl ?_
      refine w_gfr (r := 110) rfl rfl (Nat.le_of_ble_eq_true rfl) rfl rfl ?_
      show xw _ _ _ _ 61 _ _ _ _
      refine w_iload rfl rfl ?_
      refine w_iconst rfl ?_
      refine w_iadd rfl ?_
      refine w_iaload rfl rfl (fun x1 => ?_)
      refine w_iastore rfl rfl (fun m2 => ?_)
      refine w_iinc (lsd := [(4, .int (i32 (v4 + 1))), (0, .ref 78), (1, .int (i32 v1)), (2, .int (i32 v2)), (3, .int (i32 v3))]) rfl (Nat.le_of_ble_eq_true rfl) rfl rfl ?_
      show xw _ _ _ _ 70 _ _ _ _
      refine w_goto (tg := 44) rfl rfl ?_
      exact w_weak [(0, .ref 78), (1, .int (i32 v1)), (2, .int (i32 v2)), (3, .int (i32 v3)), (4, .int (i32 (v4 + 1)))] rfl ⟨rfl, rfl, rfl, rfl, rfl, trivial⟩ (hk44 v1 v2 v3 (v4 + 1) m2)
theorem s_r_keepsDoors_7 {d : Nat} (hd : 5 ≤ d) : ∀ (n : Nat) {v1 : Int} {v2 : Int} {v3 : Int} {m : xm}, xw (am_E L xs bz) d am_m293 0 7 [(0, .ref 78), (1, .int (i32 v1)), (2, .int (i32 v2)), (3, .int (i32 v3))] [] m (r_keepsDoors_7 n v1 v2 v3 m) := by
  intro n
  induction n with
  | zero => intros; exact w_none
  | succ n ih =>
    intro v1 v2 v3 m
    have hk7 := fun (v1 v2 v3 : Int) (m : xm) => @ih v1 v2 v3 m
    unfold r_keepsDoors_7
    refine w_iload_n rfl rfl ?_
    refine w_aload_n rfl rfl ?_
    refine w_call1 [.ref 78] [.int (i32 v3)] (by omega) rfl rfl rfl rfl rfl rfl (Nat.le_of_ble_eq_true rfl) (fun _ => xrc_ok rfl) (Nat.le_of_ble_eq_true rfl) rfl rfl (s_r_doorMany (by omega)) (fun r1 m2 => ?_)
    refine w_icmp_ge (tg := 146) rfl rfl rfl rfl ?_ ?_
    · exact w_retv (x := 0) rfl rfl
    · refine w_iload_n rfl rfl ?_
      refine w_iload_n rfl rfl ?_
      refine w_ixor rfl ?_
      refine w_iload_n rfl rfl ?_
      refine w_ishr rfl ?_
      show xw _ _ _ _ 20 _ _ _ _
      refine w_iconst rfl ?_
      refine w_iand rfl ?_
      refine w_if_ne (tg := 28) rfl rfl (w32_of _) ?_ ?_
      · refine w_aload_n rfl rfl ?_
        refine w_gfr (r := 110) rfl rfl (Nat.le_of_ble_eq_true rfl) rfl rfl ?_
        refine w_bipush rfl rfl ?_
        refine w_iaload rfl rfl (fun x3 => ?_)
        refine w_bipush rfl rfl ?_
        show xw _ _ _ _ 37 _ _ _ _
        refine w_icmp_ne (tg := 76) rfl rfl rfl rfl ?_ ?_
        · refine w_aload_n rfl rfl ?_
          refine w_gfr (r := 110) rfl rfl (Nat.le_of_ble_eq_true rfl) rfl rfl ?_
          refine w_bipush rfl rfl ?_
          refine w_dup2 rfl rfl rfl ?_
          refine w_iaload rfl rfl (fun x4 => ?_)
          show xw _ _ _ _ 84 _ _ _ _
          refine w_iconst rfl ?_
          refine w_iadd rfl ?_
          refine w_iastore rfl rfl (fun m5 => ?_)
          exact w_weak [(0, .ref 78), (1, .int (i32 v1)), (2, .int (i32 v2)), (3, .int (i32 v3))] rfl ⟨rfl, rfl, rfl, rfl, trivial⟩ (s_r_keepsDoors_87 (by omega) hk7)
        · refine w_bipush rfl rfl ?_
          refine w_istore (lsd := [(4, .int (i32 7)), (0, .ref 78), (1, .int (i32 v1)), (2, .int (i32 v2)), (3, .int (i32 v3))]) rfl (Nat.le_of_ble_eq_true rfl) rfl ?_
          exact w_weak [(0, .ref 78), (1, .int (i32 v1)), (2, .int (i32 v2)), (3, .int (i32 v3)), (4, .int (i32 7))] rfl ⟨rfl, rfl, rfl, rfl, rfl, trivial⟩ (s_r_keepsDoors_44 (by omega) hk7 _)
      · refine w_goto (tg := 140) rfl rfl ?_
        exact w_weak [(0, .ref 78), (1, .int (i32 v1)), (2, .int (i32 v2)), (3, .int (i32 v3))] rfl ⟨rfl, rfl, rfl, rfl, trivial⟩ (s_r_keepsDoors_140 (by omega) hk7)
theorem s_r_keepsDoors {d : Nat} {v1 : Int} {m : xm} (hd : 5 ≤ d) : xw (am_E L xs bz) d am_m293 0 0 [(0, .ref 78), (1, .int (i32 v1))] [] m (r_keepsDoors v1 m) := by
  unfold r_keepsDoors
  refine w_aload_n rfl rfl ?_
  refine w_call1 [.ref 78] [] (by omega) rfl rfl rfl rfl rfl rfl (Nat.le_of_ble_eq_true rfl) (fun _ => xrc_ok rfl) (Nat.le_of_ble_eq_true rfl) rfl rfl (s_r_openNow (by omega)) (fun r1 m2 => ?_)
  refine w_istore_n (lsd := [(2, .int (i32 r1)), (0, .ref 78), (1, .int (i32 v1))]) rfl (Nat.le_of_ble_eq_true rfl) rfl ?_
  refine w_iconst rfl ?_
  refine w_istore_n (lsd := [(3, .int (i32 0)), (2, .int (i32 r1)), (0, .ref 78), (1, .int (i32 v1))]) rfl (Nat.le_of_ble_eq_true rfl) rfl ?_
  exact w_weak [(0, .ref 78), (1, .int (i32 v1)), (2, .int (i32 r1)), (3, .int (i32 0))] rfl ⟨rfl, rfl, rfl, rfl, trivial⟩ (s_r_keepsDoors_7 (by omega) _)
theorem s_r_isPlayed_32 {d : Nat} (hd : 6 ≤ d) {v2 : Int} {m : xm} : xw (am_E L xs bz) d am_m292 0 32 [(0, .ref 78), (2, .int (i32 v2))] [] m (r_isPlayed_32 v2 m) := by
  unfold r_isPlayed_32
  refine w_aload_n rfl rfl ?_
  refine w_iload_n rfl rfl ?_
  refine w_call0 [.ref 78, .int (i32 v2)] [] (by omega) rfl rfl rfl rfl rfl rfl (Nat.le_of_ble_eq_true rfl) (fun _ => xrc_ok rfl) (Nat.le_of_ble_eq_true rfl) rfl rfl (s_r_keepsDoors (by omega)) (fun r1 m2 => ?_)
  exact w_retv (x := 0) rfl rfl
theorem s_r_isPlayed {d : Nat} {v1 : Int} {m : xm} (hd : 6 ≤ d) : xw (am_E L xs bz) d am_m292 0 0 [(0, .ref 78), (1, .int (i32 v1))] [] m (r_isPlayed v1 m) := by
  unfold r_isPlayed
  refine w_aload_n rfl rfl ?_
  refine w_call1 [.ref 78] [] (by omega) rfl rfl rfl rfl rfl rfl (Nat.le_of_ble_eq_true rfl) (fun _ => xrc_ok rfl) (Nat.le_of_ble_eq_true rfl) rfl rfl (s_r_openNow (by omega)) (fun r1 m2 => ?_)
  refine w_istore_n (lsd := [(2, .int (i32 r1)), (0, .ref 78), (1, .int (i32 v1))]) rfl (Nat.le_of_ble_eq_true rfl) rfl ?_
  refine w_aload_n rfl rfl ?_
  refine w_iload_n rfl rfl ?_
  show xw _ _ _ _ 7 _ _ _ _
  refine w_call0 [.ref 78, .int (i32 v1)] [] (by omega) rfl rfl rfl rfl rfl rfl (Nat.le_of_ble_eq_true rfl) (fun _ => xrc_ok rfl) (Nat.le_of_ble_eq_true rfl) rfl rfl (s_r_turns (by omega)) (fun r3 m4 => ?_)
  refine w_aload_n rfl rfl ?_
  refine w_gfr (r := 110) rfl rfl (Nat.le_of_ble_eq_true rfl) rfl rfl ?_
  refine w_iconst rfl ?_
  refine w_iaload rfl rfl (fun x5 => ?_)
  refine w_sipush rfl rfl ?_
  show xw _ _ _ _ 19 _ _ _ _
  refine w_icmp_ge (tg := 32) rfl rfl rfl rfl ?_ ?_
  · exact w_weak [(0, .ref 78), (2, .int (i32 r1))] rfl ⟨rfl, rfl, trivial⟩ (s_r_isPlayed_32 (by omega))
  · refine w_aload_n rfl rfl ?_
    refine w_gfr (r := 110) rfl rfl (Nat.le_of_ble_eq_true rfl) rfl rfl ?_
    refine w_iconst rfl ?_
    refine w_dup2 rfl rfl rfl ?_
    refine w_iaload rfl rfl (fun x6 => ?_)
    show xw _ _ _ _ 29 _ _ _ _
    refine w_iconst rfl ?_
    refine w_iadd rfl ?_
    refine w_iastore rfl rfl (fun m7 => ?_)
    exact w_weak [(0, .ref 78), (2, .int (i32 r1))] rfl ⟨rfl, rfl, trivial⟩ (s_r_isPlayed_32 (by omega))
theorem s_r_play_22 {d : Nat} (hd : 7 ≤ d) {m : xm} : xw (am_E L xs bz) d am_m290 1 22 [(0, .ref 78)] [] m (r_play_22 m) := by
  unfold r_play_22
  refine w_aload_n rfl rfl ?_
  refine w_iconst rfl ?_
  refine w_call1 [.ref 78, .int (i32 2)] [] (by omega) rfl rfl rfl rfl rfl rfl (Nat.le_of_ble_eq_true rfl) (fun _ => xrc_ok rfl) (Nat.le_of_ble_eq_true rfl) rfl rfl (s_r_refuses (by omega)) (fun r1 m2 => ?_)
  exact w_retv rfl rfl
theorem s_r_play_14 {d : Nat} (hd : 7 ≤ d) {v1 : Int} {m : xm} : xw (am_E L xs bz) d am_m290 1 14 [(0, .ref 78), (1, .int (i32 v1))] [] m (r_play_14 v1 m) := by
  unfold r_play_14
  refine w_aload_n rfl rfl ?_
  refine w_iload_n rfl rfl ?_
  refine w_call1 [.ref 78, .int (i32 v1)] [] (by omega) rfl rfl rfl rfl rfl rfl (Nat.le_of_ble_eq_true rfl) (fun _ => xrc_ok rfl) (Nat.le_of_ble_eq_true rfl) rfl rfl (s_r_canPlay (by omega)) (fun r1 m2 => ?_)
  refine w_if_ne (tg := 28) rfl rfl rfl ?_ ?_
  · refine w_aload_n rfl rfl ?_
    refine w_call0 [.ref 78] [] (by omega) rfl rfl rfl rfl rfl rfl (Nat.le_of_ble_eq_true rfl) (fun _ => xrc_ok rfl) (Nat.le_of_ble_eq_true rfl) rfl rfl (s_r_keeps (by omega)) (fun r3 m4 => ?_)
    refine w_aload_n rfl rfl ?_
    refine w_iload_n rfl rfl ?_
    refine w_call0 [.ref 78, .int (i32 v1)] [] (by omega) rfl rfl rfl rfl rfl rfl (Nat.le_of_ble_eq_true rfl) (fun _ => xrc_ok rfl) (Nat.le_of_ble_eq_true rfl) rfl rfl (s_r_isPlayed (by omega)) (fun r5 m6 => ?_)
    show xw _ _ _ _ 37 _ _ _ _
    refine w_aload_n rfl rfl ?_
    refine w_call1 [.ref 78] [] (by omega) rfl rfl rfl rfl rfl rfl (Nat.le_of_ble_eq_true rfl) (fun _ => xrc_ok rfl) (Nat.le_of_ble_eq_true rfl) rfl rfl (s_r_openNow (by omega)) (fun r7 m8 => ?_)
    exact w_retv rfl rfl
  · exact w_weak [(0, .ref 78)] rfl ⟨rfl, trivial⟩ (s_r_play_22 (by omega))
theorem s_r_play {d : Nat} {v1 : Int} {m : xm} (hd : 7 ≤ d) : xw (am_E L xs bz) d am_m290 1 0 [(0, .ref 78), (1, .int (i32 v1))] [] m (r_play v1 m) := by
  unfold r_play
  refine w_iload_n rfl rfl ?_
  refine w_bipush rfl rfl ?_
  refine w_icmp_eq (tg := 14) rfl rfl rfl rfl ?_ ?_
  · exact w_weak [(0, .ref 78), (1, .int (i32 v1))] rfl ⟨rfl, rfl, trivial⟩ (s_r_play_14 (by omega))
  · refine w_aload_n rfl rfl ?_
    refine w_iload_n rfl rfl ?_
    refine w_call1 [.ref 78, .int (i32 v1)] [] (by omega) rfl rfl rfl rfl rfl rfl (Nat.le_of_ble_eq_true rfl) (fun _ => xrc_ok rfl) (Nat.le_of_ble_eq_true rfl) rfl rfl (s_r_isNote (by omega)) (fun r1 m2 => ?_)
    refine w_if_eq (tg := 22) rfl rfl rfl ?_ ?_
    · exact w_weak [(0, .ref 78)] rfl ⟨rfl, trivial⟩ (s_r_play_22 (by omega))
    · exact w_weak [(0, .ref 78), (1, .int (i32 v1))] rfl ⟨rfl, rfl, trivial⟩ (s_r_play_14 (by omega))
theorem s_r_piece_20 {d : Nat} (hd : 7 ≤ d) : ∀ (n : Nat) {v1 : Int} {m : xm}, xw (am_E L xs bz) d am_m294 1 20 [(0, .ref 78), (1, .int (i32 v1))] [] m (r_piece_20 n v1 m) := by
  intro n
  induction n with
  | zero => intros; exact w_none
  | succ n ih =>
    intro v1 m
    have hk20 := fun (v1 : Int) (m : xm) => @ih v1 m
    unfold r_piece_20
    refine w_iload_n rfl rfl ?_
    refine w_aload_n rfl rfl ?_
    refine w_gfi rfl rfl (Nat.le_of_ble_eq_true rfl) rfl rfl ?_
    refine w_icmp_ge (tg := 57) rfl rfl rfl (w32_ld _ _ _) ?_ ?_
    · refine w_iload_n rfl rfl ?_
      exact w_retv rfl rfl
    · refine w_aload_n rfl rfl ?_
      refine w_aload_n rfl rfl ?_
      refine w_gfr (r := 112) rfl rfl (Nat.le_of_ble_eq_true rfl) rfl rfl ?_
      refine w_iload_n rfl rfl ?_
      refine w_iaload rfl rfl (fun x1 => ?_)
      show xw _ _ _ _ 35 _ _ _ _
      refine w_call1 [.ref 78, .int (i32 x1)] [] (by omega) rfl rfl rfl rfl rfl rfl (Nat.le_of_ble_eq_true rfl) (fun _ => xrc_ok rfl) (Nat.le_of_ble_eq_true rfl) rfl rfl (s_r_canPlay (by omega)) (fun r2 m3 => ?_)
      refine w_if_eq (tg := 57) rfl rfl rfl ?_ ?_
      · refine w_iload_n rfl rfl ?_
        exact w_retv rfl rfl
      · refine w_aload_n rfl rfl ?_
        refine w_aload_n rfl rfl ?_
        refine w_gfr (r := 112) rfl rfl (Nat.le_of_ble_eq_true rfl) rfl rfl ?_
        refine w_iload_n rfl rfl ?_
        refine w_iaload rfl rfl (fun x4 => ?_)
        show xw _ _ _ _ 48 _ _ _ _
        refine w_call0 [.ref 78, .int (i32 x4)] [] (by omega) rfl rfl rfl rfl rfl rfl (Nat.le_of_ble_eq_true rfl) (fun _ => xrc_ok rfl) (Nat.le_of_ble_eq_true rfl) rfl rfl (s_r_isPlayed (by omega)) (fun r5 m6 => ?_)
        refine w_iinc (lsd := [(1, .int (i32 (v1 + 1))), (0, .ref 78)]) rfl (Nat.le_of_ble_eq_true rfl) rfl rfl ?_
        refine w_goto (tg := 20) rfl rfl ?_
        exact w_weak [(0, .ref 78), (1, .int (i32 (v1 + 1)))] rfl ⟨rfl, rfl, trivial⟩ (hk20 (v1 + 1) m6)
theorem s_r_piece {d : Nat} {m : xm} (hd : 7 ≤ d) : xw (am_E L xs bz) d am_m294 1 0 [(0, .ref 78)] [] m (r_piece m) := by
  unfold r_piece
  refine w_aload_n rfl rfl ?_
  refine w_iconst rfl ?_
  refine w_call1 [.ref 78, .int (i32 1)] [] (by omega) rfl rfl rfl rfl rfl rfl (Nat.le_of_ble_eq_true rfl) (fun _ => xrc_ok rfl) (Nat.le_of_ble_eq_true rfl) rfl rfl (s_r_isPiece (by omega)) (fun r1 m2 => ?_)
  refine w_if_ne (tg := 14) rfl rfl rfl ?_ ?_
  · refine w_aload_n rfl rfl ?_
    refine w_call0 [.ref 78] [] (by omega) rfl rfl rfl rfl rfl rfl (Nat.le_of_ble_eq_true rfl) (fun _ => xrc_ok rfl) (Nat.le_of_ble_eq_true rfl) rfl rfl (s_r_keeps (by omega)) (fun r3 m4 => ?_)
    refine w_iconst rfl ?_
    refine w_istore_n (lsd := [(1, .int (i32 0)), (0, .ref 78)]) rfl (Nat.le_of_ble_eq_true rfl) rfl ?_
    exact w_weak [(0, .ref 78), (1, .int (i32 0))] rfl ⟨rfl, rfl, trivial⟩ (s_r_piece_20 (by omega) _)
  · refine w_aload_n rfl rfl ?_
    refine w_iconst rfl ?_
    refine w_call1 [.ref 78, .int (i32 2)] [] (by omega) rfl rfl rfl rfl rfl rfl (Nat.le_of_ble_eq_true rfl) (fun _ => xrc_ok rfl) (Nat.le_of_ble_eq_true rfl) rfl rfl (s_r_refuses (by omega)) (fun r5 m6 => ?_)
    exact w_retv rfl rfl
theorem s_r_oil_16 {d : Nat} (hd : 6 ≤ d) {m : xm} : xw (am_E L xs bz) d am_m295 1 16 [(0, .ref 78)] [] m (r_oil_16 m) := by
  unfold r_oil_16
  refine w_aload_n rfl rfl ?_
  refine w_gfr (r := 80) rfl rfl (Nat.le_of_ble_eq_true rfl) rfl rfl ?_
  refine w_iconst rfl ?_
  refine w_dup2 rfl rfl rfl ?_
  refine w_iaload rfl rfl (fun x1 => ?_)
  show xw _ _ _ _ 23 _ _ _ _
  refine w_iconst rfl ?_
  refine w_iadd rfl ?_
  refine w_iastore rfl rfl (fun m2 => ?_)
  refine w_iconst rfl ?_
  exact w_retv rfl rfl
theorem s_r_oil {d : Nat} {v1 : Int} {m : xm} (hd : 6 ≤ d) : xw (am_E L xs bz) d am_m295 1 0 [(0, .ref 78), (1, .int (i32 v1))] [] m (r_oil v1 m) := by
  unfold r_oil
  refine w_aload_n rfl rfl ?_
  refine w_iload_n rfl rfl ?_
  refine w_call1 [.ref 78, .int (i32 v1)] [] (by omega) rfl rfl rfl rfl rfl rfl (Nat.le_of_ble_eq_true rfl) (fun _ => xrc_ok rfl) (Nat.le_of_ble_eq_true rfl) rfl rfl (s_r_isLockThere (by omega)) (fun r1 m2 => ?_)
  refine w_if_eq (tg := 16) rfl rfl rfl ?_ ?_
  · exact w_weak [(0, .ref 78)] rfl ⟨rfl, trivial⟩ (s_r_oil_16 (by omega))
  · refine w_aload_n rfl rfl ?_
    refine w_iload_n rfl rfl ?_
    refine w_call1 [.ref 78, .int (i32 v1)] [] (by omega) rfl rfl rfl rfl rfl rfl (Nat.le_of_ble_eq_true rfl) (fun _ => xrc_ok rfl) (Nat.le_of_ble_eq_true rfl) rfl rfl (s_r_isJammed (by omega)) (fun r3 m4 => ?_)
    refine w_if_ne (tg := 28) rfl rfl rfl ?_ ?_
    · refine w_aload_n rfl rfl ?_
      refine w_call0 [.ref 78] [] (by omega) rfl rfl rfl rfl rfl rfl (Nat.le_of_ble_eq_true rfl) (fun _ => xrc_ok rfl) (Nat.le_of_ble_eq_true rfl) rfl rfl (s_r_keeps (by omega)) (fun r5 m6 => ?_)
      refine w_aload_n rfl rfl ?_
      refine w_call1 [.ref 78] [] (by omega) rfl rfl rfl rfl rfl rfl (Nat.le_of_ble_eq_true rfl) (fun _ => xrc_ok rfl) (Nat.le_of_ble_eq_true rfl) rfl rfl (s_r_openNow (by omega)) (fun r7 m8 => ?_)
      refine w_istore_n (lsd := [(2, .int (i32 r7)), (0, .ref 78), (1, .int (i32 v1))]) rfl (Nat.le_of_ble_eq_true rfl) rfl ?_
      show xw _ _ _ _ 37 _ _ _ _
      refine w_aload_n rfl rfl ?_
      refine w_gfr (r := 110) rfl rfl (Nat.le_of_ble_eq_true rfl) rfl rfl ?_
      refine w_iconst rfl ?_
      refine w_dup2 rfl rfl rfl ?_
      refine w_iaload rfl rfl (fun x9 => ?_)
      refine w_iconst rfl ?_
      show xw _ _ _ _ 45 _ _ _ _
      refine w_iload_n rfl rfl ?_
      refine w_ishl rfl ?_
      refine w_iconst rfl ?_
      refine w_ixor rfl ?_
      refine w_iand rfl ?_
      refine w_iastore rfl rfl (fun m10 => ?_)
      show xw _ _ _ _ 51 _ _ _ _
      refine w_aload_n rfl rfl ?_
      refine w_iload_n rfl rfl ?_
      refine w_call0 [.ref 78, .int (i32 r7)] [] (by omega) rfl rfl rfl rfl rfl rfl (Nat.le_of_ble_eq_true rfl) (fun _ => xrc_ok rfl) (Nat.le_of_ble_eq_true rfl) rfl rfl (s_r_keepsDoors (by omega)) (fun r11 m12 => ?_)
      refine w_iconst rfl ?_
      exact w_retv rfl rfl
    · exact w_weak [(0, .ref 78)] rfl ⟨rfl, trivial⟩ (s_r_oil_16 (by omega))
theorem s_r_drawOf {d : Nat} {v1 : Int} {m : xm} (hd : 0 ≤ d) : xw (am_E L xs bz) d am_m297 1 0 [(0, .ref 78), (1, .int (i32 v1))] [] m (r_drawOf v1 m) := by
  unfold r_drawOf
  refine w_aload_n rfl rfl ?_
  refine w_ldc2w (z := 1103515245) rfl rfl rfl ?_
  refine w_aload_n rfl rfl ?_
  refine w_gfl rfl rfl (Nat.le_of_ble_eq_true rfl) rfl rfl ?_
  refine w_lmul rfl ?_
  show xw _ _ _ _ 9 _ _ _ _
  refine w_ldc2w (z := 12345) rfl rfl rfl ?_
  refine w_ladd rfl ?_
  refine w_ldc2w (z := 2147483648) rfl rfl rfl ?_
  refine w_lremc rfl (by decide) ?_
  refine w_pfl rfl rfl (Nat.le_of_ble_eq_true rfl) rfl rfl rfl (fun m1 => ?_)
  refine w_aload_n rfl rfl ?_
  show xw _ _ _ _ 21 _ _ _ _
  refine w_gfl rfl rfl (Nat.le_of_ble_eq_true rfl) rfl rfl ?_
  refine w_ldc2w (z := 64) rfl rfl rfl ?_
  refine w_ldivc rfl (by decide) ?_
  refine w_iload_n rfl rfl ?_
  refine w_i2l (x' := w32 v1) rfl rfl ?_
  refine w_lrem rfl (w64_w32 _) ?_
  show xw _ _ _ _ 31 _ _ _ _
  refine w_l2i rfl ?_
  exact w_retv rfl rfl
theorem s_r_evening_19 {d : Nat} (hd : 7 ≤ d) {m : xm} : xw (am_E L xs bz) d am_m296 1 19 [(0, .ref 78)] [] m (r_evening_19 m) := by
  unfold r_evening_19
  refine w_aload_n rfl rfl ?_
  refine w_iconst rfl ?_
  refine w_call1 [.ref 78, .int (i32 3)] [] (by omega) rfl rfl rfl rfl rfl rfl (Nat.le_of_ble_eq_true rfl) (fun _ => xrc_ok rfl) (Nat.le_of_ble_eq_true rfl) rfl rfl (s_r_refuses (by omega)) (fun r1 m2 => ?_)
  exact w_retv rfl rfl
theorem s_r_evening_114 {d : Nat} {k33 : Int → Int → Int → xm → xr} (hd : 7 ≤ d) (hk33 : ∀ (v1 v2 v3 : Int) (m : xm), xw (am_E L xs bz) d am_m296 1 33 [(0, .ref 78), (1, .int (i32 v1)), (2, .int (i32 v2)), (3, .int (i32 v3))] [] m (k33 v1 v2 v3 m)) {v1 : Int} {v2 : Int} {v3 : Int} {m : xm} : xw (am_E L xs bz) d am_m296 1 114 [(0, .ref 78), (1, .int (i32 v1)), (2, .int (i32 v2)), (3, .int (i32 v3))] [] m (r_evening_114 k33 v1 v2 v3 m) := by
  unfold r_evening_114
  refine w_iinc (lsd := [(3, .int (i32 (v3 + 1))), (0, .ref 78), (1, .int (i32 v1)), (2, .int (i32 v2))]) rfl (Nat.le_of_ble_eq_true rfl) rfl rfl ?_
  refine w_goto (tg := 33) rfl rfl ?_
  exact w_weak [(0, .ref 78), (1, .int (i32 v1)), (2, .int (i32 v2)), (3, .int (i32 (v3 + 1)))] rfl ⟨rfl, rfl, rfl, rfl, trivial⟩ (hk33 v1 v2 (v3 + 1) m)
theorem s_r_evening_80 {d : Nat} {k33 : Int → Int → Int → xm → xr} (hd : 7 ≤ d) (hk33 : ∀ (v1 v2 v3 : Int) (m : xm), xw (am_E L xs bz) d am_m296 1 33 [(0, .ref 78), (1, .int (i32 v1)), (2, .int (i32 v2)), (3, .int (i32 v3))] [] m (k33 v1 v2 v3 m)) {v1 : Int} {v2 : Int} {v3 : Int} {m : xm} : xw (am_E L xs bz) d am_m296 1 80 [(0, .ref 78), (1, .int (i32 v1)), (2, .int (i32 v2)), (3, .int (i32 v3))] [] m (r_evening_80 k33 v1 v2 v3 m) := by
  unfold r_evening_80
  refine w_aload_n rfl rfl ?_
  refine w_bipush rfl rfl ?_
  refine w_call1 [.ref 78, .int (i32 100)] [] (by omega) rfl rfl rfl rfl rfl rfl (Nat.le_of_ble_eq_true rfl) (fun _ => xrc_ok rfl) (Nat.le_of_ble_eq_true rfl) rfl rfl (s_r_drawOf (by omega)) (fun r1 m2 => ?_)
  refine w_aload_n rfl rfl ?_
  refine w_gfr (r := 106) rfl rfl (Nat.le_of_ble_eq_true rfl) rfl rfl ?_
  show xw _ _ _ _ 90 _ _ _ _
  refine w_iconst rfl ?_
  refine w_iaload rfl rfl (fun x3 => ?_)
  refine w_icmp_ge (tg := 114) rfl rfl rfl rfl ?_ ?_
  · exact w_weak [(0, .ref 78), (1, .int (i32 v1)), (2, .int (i32 v2)), (3, .int (i32 v3))] rfl ⟨rfl, rfl, rfl, rfl, trivial⟩ (s_r_evening_114 (by omega) hk33)
  · refine w_aload_n rfl rfl ?_
    refine w_gfr (r := 110) rfl rfl (Nat.le_of_ble_eq_true rfl) rfl rfl ?_
    refine w_iconst rfl ?_
    refine w_dup2 rfl rfl rfl ?_
    refine w_iaload rfl rfl (fun x4 => ?_)
    show xw _ _ _ _ 102 _ _ _ _
    refine w_iconst rfl ?_
    refine w_aload_n rfl rfl ?_
    refine w_aload_n rfl rfl ?_
    refine w_call1 [.ref 78] [.ref 78, .int (i32 1), .int (i32 x4), .int (i32 5), .ref 110] (by omega) rfl rfl rfl rfl rfl rfl (Nat.le_of_ble_eq_true rfl) (fun _ => xrc_ok rfl) (Nat.le_of_ble_eq_true rfl) rfl rfl (s_r_lockMany (by omega)) (fun r5 m6 => ?_)
    refine w_call1 [.ref 78, .int (i32 r5)] [.int (i32 1), .int (i32 x4), .int (i32 5), .ref 110] (by omega) rfl rfl rfl rfl rfl rfl (Nat.le_of_ble_eq_true rfl) (fun _ => xrc_ok rfl) (Nat.le_of_ble_eq_true rfl) rfl rfl (s_r_drawOf (by omega)) (fun r7 m8 => ?_)
    refine w_ishl rfl ?_
    show xw _ _ _ _ 112 _ _ _ _
    refine w_ior rfl ?_
    refine w_iastore rfl rfl (fun m9 => ?_)
    exact w_weak [(0, .ref 78), (1, .int (i32 v1)), (2, .int (i32 v2)), (3, .int (i32 v3))] rfl ⟨rfl, rfl, rfl, rfl, trivial⟩ (s_r_evening_114 (by omega) hk33)
theorem s_r_evening_69 {d : Nat} {k33 : Int → Int → Int → xm → xr} (hd : 7 ≤ d) (hk33 : ∀ (v1 v2 v3 : Int) (m : xm), xw (am_E L xs bz) d am_m296 1 33 [(0, .ref 78), (1, .int (i32 v1)), (2, .int (i32 v2)), (3, .int (i32 v3))] [] m (k33 v1 v2 v3 m)) {v1 : Int} {v2 : Int} {v3 : Int} {v5 : Int} {s1 : Int} {m : xm} : xw (am_E L xs bz) d am_m296 1 69 [(0, .ref 78), (1, .int (i32 v1)), (2, .int (i32 v2)), (3, .int (i32 v3)), (5, .int (i32 v5))] [.int (i32 s1), .ref 78] m (r_evening_69 k33 v1 v2 v3 v5 s1 m) := by
  unfold r_evening_69
  refine w_call0 [.ref 78, .int (i32 s1)] [] (by omega) rfl rfl rfl rfl rfl rfl (Nat.le_of_ble_eq_true rfl) (fun _ => xrc_ok rfl) (Nat.le_of_ble_eq_true rfl) rfl rfl (s_r_isPlayed (by omega)) (fun r1 m2 => ?_)
  refine w_iload rfl rfl ?_
  refine w_if_eq (tg := 80) rfl rfl rfl ?_ ?_
  · exact w_weak [(0, .ref 78), (1, .int (i32 v1)), (2, .int (i32 v2)), (3, .int (i32 v3))] rfl ⟨rfl, rfl, rfl, rfl, trivial⟩ (s_r_evening_80 (by omega) hk33)
  · refine w_iinc (lsd := [(2, .int (i32 (v2 + 1))), (0, .ref 78), (1, .int (i32 v1)), (3, .int (i32 v3)), (5, .int (i32 v5))]) rfl (Nat.le_of_ble_eq_true rfl) rfl rfl ?_
    exact w_weak [(0, .ref 78), (1, .int (i32 v1)), (2, .int (i32 (v2 + 1))), (3, .int (i32 v3))] rfl ⟨rfl, rfl, rfl, rfl, trivial⟩ (s_r_evening_80 (by omega) hk33)
theorem s_r_evening_33 {d : Nat} (hd : 7 ≤ d) : ∀ (n : Nat) {v1 : Int} {v2 : Int} {v3 : Int} {m : xm}, xw (am_E L xs bz) d am_m296 1 33 [(0, .ref 78), (1, .int (i32 v1)), (2, .int (i32 v2)), (3, .int (i32 v3))] [] m (r_evening_33 n v1 v2 v3 m) := by
  intro n
  induction n with
  | zero => intros; exact w_none
  | succ n ih =>
    intro v1 v2 v3 m
    have hk33 := fun (v1 v2 v3 : Int) (m : xm) => @ih v1 v2 v3 m
    unfold r_evening_33
    refine w_iload_n rfl rfl ?_
    refine w_iload_n rfl rfl ?_
    refine w_icmp_ge (tg := 120) rfl rfl rfl rfl ?_ ?_
    · refine w_iload_n rfl rfl ?_
      exact w_retv rfl rfl
    · refine w_aload_n rfl rfl ?_
      refine w_aload_n rfl rfl ?_
      refine w_call1 [.ref 78] [.ref 78] (by omega) rfl rfl rfl rfl rfl rfl (Nat.le_of_ble_eq_true rfl) (fun _ => xrc_ok rfl) (Nat.le_of_ble_eq_true rfl) rfl rfl (s_r_noteMany (by omega)) (fun r1 m2 => ?_)
      refine w_call1 [.ref 78, .int (i32 r1)] [] (by omega) rfl rfl rfl rfl rfl rfl (Nat.le_of_ble_eq_true rfl) (fun _ => xrc_ok rfl) (Nat.le_of_ble_eq_true rfl) rfl rfl (s_r_drawOf (by omega)) (fun r3 m4 => ?_)
      refine w_istore (lsd := [(4, .int (i32 r3)), (0, .ref 78), (1, .int (i32 v1)), (2, .int (i32 v2)), (3, .int (i32 v3))]) rfl (Nat.le_of_ble_eq_true rfl) rfl ?_
      show xw _ _ _ _ 48 _ _ _ _
      refine w_aload_n rfl rfl ?_
      refine w_iload rfl rfl ?_
      refine w_call1 [.ref 78, .int (i32 r3)] [] (by omega) rfl rfl rfl rfl rfl rfl (Nat.le_of_ble_eq_true rfl) (fun _ => xrc_ok rfl) (Nat.le_of_ble_eq_true rfl) rfl rfl (s_r_canPlay (by omega)) (fun r5 m6 => ?_)
      refine w_istore (lsd := [(5, .int (i32 r5)), (4, .int (i32 r3)), (0, .ref 78), (1, .int (i32 v1)), (2, .int (i32 v2)), (3, .int (i32 v3))]) rfl (Nat.le_of_ble_eq_true rfl) rfl ?_
      refine w_aload_n rfl rfl ?_
      refine w_iload rfl rfl ?_
      show xw _ _ _ _ 59 _ _ _ _
      refine w_if_eq (tg := 67) rfl rfl rfl ?_ ?_
      · refine w_bipush rfl rfl ?_
        exact w_weak [(0, .ref 78), (1, .int (i32 v1)), (2, .int (i32 v2)), (3, .int (i32 v3)), (5, .int (i32 r5))] rfl ⟨rfl, rfl, rfl, rfl, rfl, trivial⟩ (s_r_evening_69 (by omega) hk33)
      · refine w_iload rfl rfl ?_
        refine w_goto (tg := 69) rfl rfl ?_
        exact w_weak [(0, .ref 78), (1, .int (i32 v1)), (2, .int (i32 v2)), (3, .int (i32 v3)), (5, .int (i32 r5))] rfl ⟨rfl, rfl, rfl, rfl, rfl, trivial⟩ (s_r_evening_69 (by omega) hk33)
theorem s_r_evening {d : Nat} {v1 : Int} {m : xm} (hd : 7 ≤ d) : xw (am_E L xs bz) d am_m296 1 0 [(0, .ref 78), (1, .int (i32 v1))] [] m (r_evening v1 m) := by
  unfold r_evening
  refine w_iload_n rfl rfl ?_
  refine w_i2l (x' := w32 v1) rfl rfl ?_
  refine w_lconst (z := 1) rfl rfl ?_
  refine w_ldc2w (z := 50) rfl rfl rfl ?_
  refine w_call1 [.long (i64 (w32 v1)), .long (i64 1), .long (i64 50)] [] (by omega) rfl rfl rfl rfl rfl rfl (Nat.le_of_ble_eq_true rfl) (fun z => by cases z) (Nat.le_of_ble_eq_true rfl) rfl rfl (s_r_isIn (by omega)) (fun r1 m2 => ?_)
  show xw _ _ _ _ 9 _ _ _ _
  refine w_if_eq (tg := 19) rfl rfl rfl ?_ ?_
  · exact w_weak [(0, .ref 78)] rfl ⟨rfl, trivial⟩ (s_r_evening_19 (by omega))
  · refine w_aload_n rfl rfl ?_
    refine w_call1 [.ref 78] [] (by omega) rfl rfl rfl rfl rfl rfl (Nat.le_of_ble_eq_true rfl) (fun _ => xrc_ok rfl) (Nat.le_of_ble_eq_true rfl) rfl rfl (s_r_noteMany (by omega)) (fun r3 m4 => ?_)
    refine w_if_ne (tg := 25) rfl rfl rfl ?_ ?_
    · refine w_aload_n rfl rfl ?_
      refine w_call0 [.ref 78] [] (by omega) rfl rfl rfl rfl rfl rfl (Nat.le_of_ble_eq_true rfl) (fun _ => xrc_ok rfl) (Nat.le_of_ble_eq_true rfl) rfl rfl (s_r_keeps (by omega)) (fun r5 m6 => ?_)
      refine w_iconst rfl ?_
      refine w_istore_n (lsd := [(2, .int (i32 0)), (0, .ref 78), (1, .int (i32 v1))]) rfl (Nat.le_of_ble_eq_true rfl) rfl ?_
      refine w_iconst rfl ?_
      show xw _ _ _ _ 32 _ _ _ _
      refine w_istore_n (lsd := [(3, .int (i32 0)), (2, .int (i32 0)), (0, .ref 78), (1, .int (i32 v1))]) rfl (Nat.le_of_ble_eq_true rfl) rfl ?_
      exact w_weak [(0, .ref 78), (1, .int (i32 v1)), (2, .int (i32 0)), (3, .int (i32 0))] rfl ⟨rfl, rfl, rfl, rfl, trivial⟩ (s_r_evening_33 (by omega) _)
    · exact w_weak [(0, .ref 78)] rfl ⟨rfl, trivial⟩ (s_r_evening_19 (by omega))
theorem s_r_qKind_76 {d : Nat} (hd : 4 ≤ d) {s0 : Int} {m : xm} : xw (am_E L xs bz) d am_m299 1 76 [(0, .ref 78)] [.int (i32 s0)] m (r_qKind_76 s0 m) := by
  unfold r_qKind_76
  refine w_letI (fun x1 => ?_)
  refine w_istore_n (lsd := [(1, .int (i32 x1)), (0, .ref 78)]) rfl (Nat.le_of_ble_eq_true rfl) rfl ?_
  refine w_iload_n rfl rfl ?_
  refine w_iconst rfl ?_
  refine w_icmp_ne (tg := 90) rfl rfl rfl rfl ?_ ?_
  · refine w_iload_n rfl rfl ?_
    exact w_retv rfl rfl
  · refine w_aload_n rfl rfl ?_
    refine w_aload_n rfl rfl ?_
    refine w_gfr (r := 124) rfl rfl (Nat.le_of_ble_eq_true rfl) rfl rfl ?_
    refine w_call0 [.ref 78, .ref 124] [] (by omega) rfl rfl rfl rfl rfl rfl (Nat.le_of_ble_eq_true rfl) (fun _ => xrc_ok rfl) (Nat.le_of_ble_eq_true rfl) rfl rfl (s_r_asks (by omega) rfl) (fun r2 m3 => ?_)
    refine w_iload_n rfl rfl ?_
    show xw _ _ _ _ 91 _ _ _ _
    exact w_retv rfl rfl
theorem s_r_qKind {d : Nat} {m : xm} (hd : 4 ≤ d) : xw (am_E L xs bz) d am_m299 1 0 [(0, .ref 78)] [] m (r_qKind m) := by
  unfold r_qKind
  refine w_aload_n rfl rfl ?_
  refine w_aload_n rfl rfl ?_
  refine w_gfr (r := 119) rfl rfl (Nat.le_of_ble_eq_true rfl) rfl rfl ?_
  refine w_call1 [.ref 78, .ref 119] [] (by omega) rfl rfl rfl rfl rfl rfl (Nat.le_of_ble_eq_true rfl) (fun _ => xrc_ok rfl) (Nat.le_of_ble_eq_true rfl) rfl rfl (s_r_takes (by omega) rfl) (fun r1 m2 => ?_)
  refine w_if_eq (tg := 15) rfl rfl rfl ?_ ?_
  · refine w_aload_n rfl rfl ?_
    refine w_aload_n rfl rfl ?_
    refine w_gfr (r := 120) rfl rfl (Nat.le_of_ble_eq_true rfl) rfl rfl ?_
    refine w_call1 [.ref 78, .ref 120] [] (by omega) rfl rfl rfl rfl rfl rfl (Nat.le_of_ble_eq_true rfl) (fun _ => xrc_ok rfl) (Nat.le_of_ble_eq_true rfl) rfl rfl (s_r_takes (by omega) rfl) (fun r3 m4 => ?_)
    refine w_if_eq (tg := 30) rfl rfl rfl ?_ ?_
    · refine w_aload_n rfl rfl ?_
      refine w_aload_n rfl rfl ?_
      refine w_gfr (r := 121) rfl rfl (Nat.le_of_ble_eq_true rfl) rfl rfl ?_
      refine w_call1 [.ref 78, .ref 121] [] (by omega) rfl rfl rfl rfl rfl rfl (Nat.le_of_ble_eq_true rfl) (fun _ => xrc_ok rfl) (Nat.le_of_ble_eq_true rfl) rfl rfl (s_r_takes (by omega) rfl) (fun r5 m6 => ?_)
      refine w_if_eq (tg := 45) rfl rfl rfl ?_ ?_
      · refine w_aload_n rfl rfl ?_
        refine w_aload_n rfl rfl ?_
        refine w_gfr (r := 122) rfl rfl (Nat.le_of_ble_eq_true rfl) rfl rfl ?_
        refine w_call1 [.ref 78, .ref 122] [] (by omega) rfl rfl rfl rfl rfl rfl (Nat.le_of_ble_eq_true rfl) (fun _ => xrc_ok rfl) (Nat.le_of_ble_eq_true rfl) rfl rfl (s_r_takes (by omega) rfl) (fun r7 m8 => ?_)
        refine w_if_eq (tg := 60) rfl rfl rfl ?_ ?_
        · refine w_aload_n rfl rfl ?_
          refine w_aload_n rfl rfl ?_
          refine w_gfr (r := 123) rfl rfl (Nat.le_of_ble_eq_true rfl) rfl rfl ?_
          refine w_call1 [.ref 78, .ref 123] [] (by omega) rfl rfl rfl rfl rfl rfl (Nat.le_of_ble_eq_true rfl) (fun _ => xrc_ok rfl) (Nat.le_of_ble_eq_true rfl) rfl rfl (s_r_takes (by omega) rfl) (fun r9 m10 => ?_)
          refine w_if_eq (tg := 75) rfl rfl rfl ?_ ?_
          · refine w_iconst rfl ?_
            exact w_weak [(0, .ref 78)] rfl ⟨rfl, trivial⟩ (s_r_qKind_76 (by omega))
          · refine w_iconst rfl ?_
            refine w_goto (tg := 76) rfl rfl ?_
            exact w_weak [(0, .ref 78)] rfl ⟨rfl, trivial⟩ (s_r_qKind_76 (by omega))
        · refine w_iconst rfl ?_
          refine w_goto (tg := 76) rfl rfl ?_
          exact w_weak [(0, .ref 78)] rfl ⟨rfl, trivial⟩ (s_r_qKind_76 (by omega))
      · refine w_iconst rfl ?_
        refine w_goto (tg := 76) rfl rfl ?_
        exact w_weak [(0, .ref 78)] rfl ⟨rfl, trivial⟩ (s_r_qKind_76 (by omega))
    · refine w_iconst rfl ?_
      refine w_goto (tg := 76) rfl rfl ?_
      exact w_weak [(0, .ref 78)] rfl ⟨rfl, trivial⟩ (s_r_qKind_76 (by omega))
  · refine w_iconst rfl ?_
    refine w_goto (tg := 76) rfl rfl ?_
    exact w_weak [(0, .ref 78)] rfl ⟨rfl, trivial⟩ (s_r_qKind_76 (by omega))
theorem s_r_qTold_168 {d : Nat} (hd : 3 ≤ d) {m : xm} : xw (am_E L xs bz) d am_m300 2 168 [(0, .ref 78)] [] m (r_qTold_168 m) := by
  unfold r_qTold_168
  refine w_aload_n rfl rfl ?_
  refine w_gfr (r := 140) rfl rfl (Nat.le_of_ble_eq_true rfl) rfl rfl ?_
  refine w_iconst rfl ?_
  refine w_laload rfl (Nat.le_of_ble_eq_true rfl) rfl (fun x1 => ?_)
  exact w_retv rfl rfl
theorem s_r_qTold_162 {d : Nat} {k7 : Int → Int → xm → xr} (hd : 3 ≤ d) (hk7 : ∀ (v1 v2 : Int) (m : xm), xw (am_E L xs bz) d am_m300 2 7 [(0, .ref 78), (1, .int (i32 v1)), (2, .int (i32 v2))] [] m (k7 v1 v2 m)) {v1 : Int} {v2 : Int} {m : xm} : xw (am_E L xs bz) d am_m300 2 162 [(0, .ref 78), (1, .int (i32 v1)), (2, .int (i32 v2))] [] m (r_qTold_162 k7 v1 v2 m) := by
  unfold r_qTold_162
  refine w_iinc (lsd := [(2, .int (i32 (v2 + 1))), (0, .ref 78), (1, .int (i32 v1))]) rfl (Nat.le_of_ble_eq_true rfl) rfl rfl ?_
  refine w_goto (tg := 7) rfl rfl ?_
  exact w_weak [(0, .ref 78), (1, .int (i32 v1)), (2, .int (i32 (v2 + 1)))] rfl ⟨rfl, rfl, rfl, trivial⟩ (hk7 v1 (v2 + 1) m)
theorem s_r_qTold_7 {d : Nat} (hd : 3 ≤ d) : ∀ (n : Nat) {v1 : Int} {v2 : Int} {m : xm}, xw (am_E L xs bz) d am_m300 2 7 [(0, .ref 78), (1, .int (i32 v1)), (2, .int (i32 v2))] [] m (r_qTold_7 n v1 v2 m) := by
  intro n
  induction n with
  | zero => intros; exact w_none
  | succ n ih =>
    intro v1 v2 m
    have hk7 := fun (v1 v2 : Int) (m : xm) => @ih v1 v2 m
    unfold r_qTold_7
    refine w_iload_n rfl rfl ?_
    refine w_aload_n rfl rfl ?_
    refine w_gfi rfl rfl (Nat.le_of_ble_eq_true rfl) rfl rfl ?_
    refine w_icmp_ge (tg := 168) rfl rfl rfl (w32_ld _ _ _) ?_ ?_
    · exact w_weak [(0, .ref 78)] rfl ⟨rfl, trivial⟩ (s_r_qTold_168 (by omega))
    · refine w_aload_n rfl rfl ?_
      refine w_gfr (r := 138) rfl rfl (Nat.le_of_ble_eq_true rfl) rfl rfl ?_
      refine w_iload_n rfl rfl ?_
      refine w_iaload rfl rfl (fun x1 => ?_)
      refine w_letI (fun x2 => ?_)
      refine w_istore_n (lsd := [(3, .int (i32 x2)), (0, .ref 78), (1, .int (i32 v1)), (2, .int (i32 v2))]) rfl (Nat.le_of_ble_eq_true rfl) rfl ?_
      show xw _ _ _ _ 22 _ _ _ _
      refine w_iload_n rfl rfl ?_
      refine w_sipush rfl rfl ?_
      refine w_icmp_lt (tg := 42) rfl rfl rfl rfl ?_ ?_
      · refine w_iload_n rfl rfl ?_
        refine w_bipush rfl rfl ?_
        refine w_icmp_lt (tg := 85) rfl rfl rfl rfl ?_ ?_
        · refine w_iload_n rfl rfl ?_
          refine w_bipush rfl rfl ?_
          refine w_icmp_lt (tg := 110) rfl rfl rfl rfl ?_ ?_
          · refine w_iload_n rfl rfl ?_
            refine w_bipush rfl rfl ?_
            refine w_icmp_ne (tg := 124) rfl rfl rfl rfl ?_ ?_
            · refine w_iload_n rfl rfl ?_
              refine w_bipush rfl rfl ?_
              refine w_icmp_ne (tg := 157) rfl rfl rfl rfl ?_ ?_
              · refine w_aload_n rfl rfl ?_
                refine w_iload_n rfl rfl ?_
                refine w_call0 [.ref 78, .int (i32 x2)] [] (by omega) rfl rfl rfl rfl rfl rfl (Nat.le_of_ble_eq_true rfl) (fun _ => xrc_ok rfl) (Nat.le_of_ble_eq_true rfl) rfl rfl (s_r_qJoins (by omega)) (fun r3 m4 => ?_)
                exact w_weak [(0, .ref 78), (1, .int (i32 v1)), (2, .int (i32 v2))] rfl ⟨rfl, rfl, rfl, trivial⟩ (s_r_qTold_162 (by omega) hk7)
              · refine w_aload_n rfl rfl ?_
                refine w_gfr (r := 140) rfl rfl (Nat.le_of_ble_eq_true rfl) rfl rfl ?_
                refine w_aload_n rfl rfl ?_
                refine w_gfi rfl rfl (Nat.le_of_ble_eq_true rfl) rfl rfl ?_
                refine w_iconst rfl ?_
                show xw _ _ _ _ 139 _ _ _ _
                refine w_isub rfl ?_
                refine w_lconst (z := 1) rfl rfl ?_
                refine w_aload_n rfl rfl ?_
                refine w_gfr (r := 140) rfl rfl (Nat.le_of_ble_eq_true rfl) rfl rfl ?_
                refine w_aload_n rfl rfl ?_
                refine w_gfi rfl rfl (Nat.le_of_ble_eq_true rfl) rfl rfl ?_
                show xw _ _ _ _ 149 _ _ _ _
                refine w_iconst rfl ?_
                refine w_isub rfl ?_
                refine w_laload rfl (Nat.le_of_ble_eq_true rfl) rfl (fun x5 => ?_)
                refine w_lsub rfl ?_
                refine w_lastore rfl (Nat.le_of_ble_eq_true rfl) rfl (fun m6 => ?_)
                refine w_goto (tg := 162) rfl rfl ?_
                exact w_weak [(0, .ref 78), (1, .int (i32 v1)), (2, .int (i32 v2))] rfl ⟨rfl, rfl, rfl, trivial⟩ (s_r_qTold_162 (by omega) hk7)
            · refine w_aload_n rfl rfl ?_
              refine w_lconst (z := 1) rfl rfl ?_
              refine w_call0 [.ref 78, .long (i64 1)] [] (by omega) rfl rfl rfl rfl rfl rfl (Nat.le_of_ble_eq_true rfl) (fun _ => xrc_ok rfl) (Nat.le_of_ble_eq_true rfl) rfl rfl (s_r_qPuts (by omega)) (fun r7 m8 => ?_)
              refine w_goto (tg := 162) rfl rfl ?_
              exact w_weak [(0, .ref 78), (1, .int (i32 v1)), (2, .int (i32 v2))] rfl ⟨rfl, rfl, rfl, trivial⟩ (s_r_qTold_162 (by omega) hk7)
          · refine w_aload_n rfl rfl ?_
            refine w_aload_n rfl rfl ?_
            refine w_iload_n rfl rfl ?_
            refine w_bipush rfl rfl ?_
            refine w_isub rfl ?_
            show xw _ _ _ _ 97 _ _ _ _
            refine w_iload_n rfl rfl ?_
            refine w_call2 [.ref 78, .int (i32 (x2 - 40)), .int (i32 v1)] [.ref 78] (by omega) rfl rfl rfl rfl rfl rfl (Nat.le_of_ble_eq_true rfl) (fun _ => xrc_ok rfl) (Nat.le_of_ble_eq_true rfl) rfl rfl (s_r_qPartOf (by omega)) (fun r9 m10 => ?_)
            refine w_call2 [.long (i64 r9)] [.ref 78] (by omega) rfl rfl rfl rfl rfl rfl (Nat.le_of_ble_eq_true rfl) (fun z => by cases z) (Nat.le_of_ble_eq_true rfl) rfl rfl (s_r_qClip (by omega)) (fun r11 m12 => ?_)
            refine w_call0 [.ref 78, .long (i64 r11)] [] (by omega) rfl rfl rfl rfl rfl rfl (Nat.le_of_ble_eq_true rfl) (fun _ => xrc_ok rfl) (Nat.le_of_ble_eq_true rfl) rfl rfl (s_r_qPuts (by omega)) (fun r13 m14 => ?_)
            refine w_goto (tg := 162) rfl rfl ?_
            exact w_weak [(0, .ref 78), (1, .int (i32 v1)), (2, .int (i32 v2))] rfl ⟨rfl, rfl, rfl, trivial⟩ (s_r_qTold_162 (by omega) hk7)
        · refine w_aload_n rfl rfl ?_
          refine w_gfr (r := 140) rfl rfl (Nat.le_of_ble_eq_true rfl) rfl rfl ?_
          refine w_aload_n rfl rfl ?_
          refine w_gfi rfl rfl (Nat.le_of_ble_eq_true rfl) rfl rfl ?_
          refine w_iconst rfl ?_
          show xw _ _ _ _ 57 _ _ _ _
          refine w_isub rfl ?_
          refine w_aload_n rfl rfl ?_
          refine w_iload_n rfl rfl ?_
          refine w_bipush rfl rfl ?_
          refine w_isub rfl ?_
          refine w_aload_n rfl rfl ?_
          show xw _ _ _ _ 64 _ _ _ _
          refine w_gfr (r := 140) rfl rfl (Nat.le_of_ble_eq_true rfl) rfl rfl ?_
          refine w_aload_n rfl rfl ?_
          refine w_gfi rfl rfl (Nat.le_of_ble_eq_true rfl) rfl rfl ?_
          refine w_iconst rfl ?_
          refine w_isub rfl ?_
          refine w_laload rfl (Nat.le_of_ble_eq_true rfl) rfl (fun x15 => ?_)
          show xw _ _ _ _ 74 _ _ _ _
          refine w_iload_n rfl rfl ?_
          refine w_call2 [.ref 78, .int (i32 (x2 - 60)), .long (i64 x15), .int (i32 v1)] [.int (i32 ((ld m 78 90) - 1)), .ref 140] (by omega) rfl rfl rfl rfl rfl rfl (Nat.le_of_ble_eq_true rfl) (fun _ => xrc_ok rfl) (Nat.le_of_ble_eq_true rfl) rfl rfl (s_r_qOf (by omega)) (fun r16 m17 => ?_)
          refine w_call2 [.long (i64 r16)] [.int (i32 ((ld m 78 90) - 1)), .ref 140] (by omega) rfl rfl rfl rfl rfl rfl (Nat.le_of_ble_eq_true rfl) (fun z => by cases z) (Nat.le_of_ble_eq_true rfl) rfl rfl (s_r_qClip (by omega)) (fun r18 m19 => ?_)
          refine w_lastore rfl (Nat.le_of_ble_eq_true rfl) rfl (fun m20 => ?_)
          refine w_goto (tg := 162) rfl rfl ?_
          exact w_weak [(0, .ref 78), (1, .int (i32 v1)), (2, .int (i32 v2))] rfl ⟨rfl, rfl, rfl, trivial⟩ (s_r_qTold_162 (by omega) hk7)
      · refine w_aload_n rfl rfl ?_
        refine w_iload_n rfl rfl ?_
        refine w_sipush rfl rfl ?_
        refine w_isub rfl ?_
        refine w_i2l (x' := w32 (x2 - 1000)) rfl rfl ?_
        show xw _ _ _ _ 36 _ _ _ _
        refine w_call0 [.ref 78, .long (i64 (w32 (x2 - 1000)))] [] (by omega) rfl rfl rfl rfl rfl rfl (Nat.le_of_ble_eq_true rfl) (fun _ => xrc_ok rfl) (Nat.le_of_ble_eq_true rfl) rfl rfl (s_r_qPuts (by omega)) (fun r21 m22 => ?_)
        refine w_goto (tg := 162) rfl rfl ?_
        exact w_weak [(0, .ref 78), (1, .int (i32 v1)), (2, .int (i32 v2))] rfl ⟨rfl, rfl, rfl, trivial⟩ (s_r_qTold_162 (by omega) hk7)
theorem s_r_qTold {d : Nat} {v1 : Int} {m : xm} (hd : 3 ≤ d) : xw (am_E L xs bz) d am_m300 2 0 [(0, .ref 78), (1, .int (i32 v1))] [] m (r_qTold v1 m) := by
  unfold r_qTold
  refine w_aload_n rfl rfl ?_
  refine w_iconst rfl ?_
  refine w_pfi rfl rfl (Nat.le_of_ble_eq_true rfl) rfl rfl rfl (fun m1 => ?_)
  refine w_iconst rfl ?_
  refine w_istore_n (lsd := [(2, .int (i32 0)), (0, .ref 78), (1, .int (i32 v1))]) rfl (Nat.le_of_ble_eq_true rfl) rfl ?_
  exact w_weak [(0, .ref 78), (1, .int (i32 v1)), (2, .int (i32 0))] rfl ⟨rfl, rfl, rfl, trivial⟩ (s_r_qTold_7 (by omega) _)
theorem s_r_qTakes_133 {d : Nat} (hd : 0 ≤ d) {m : xm} : xw (am_E L xs bz) d am_m301 0 133 [(0, .ref 78)] [] m (r_qTakes_133 m) := by
  unfold r_qTakes_133
  refine w_aload_n rfl rfl ?_
  refine w_iconst rfl ?_
  refine w_pfi rfl rfl (Nat.le_of_ble_eq_true rfl) rfl rfl rfl (fun m1 => ?_)
  exact w_retv (x := 0) rfl rfl
theorem s_r_qTakes_128 {d : Nat} (hd : 0 ≤ d) {v2 : Int} {m : xm} : xw (am_E L xs bz) d am_m301 0 128 [(0, .ref 78), (2, .long (i64 v2))] [] m (r_qTakes_128 v2 m) := by
  unfold r_qTakes_128
  refine w_aload_n rfl rfl ?_
  refine w_lload_n rfl rfl ?_
  refine w_pfl rfl rfl (Nat.le_of_ble_eq_true rfl) rfl rfl rfl (fun m1 => ?_)
  exact w_weak [(0, .ref 78)] rfl ⟨rfl, trivial⟩ (s_r_qTakes_133 (by omega))
theorem s_r_qTakes_90 {d : Nat} (hd : 0 ≤ d) {v1 : Int} {v2 : Int} {m : xm} : xw (am_E L xs bz) d am_m301 0 90 [(0, .ref 78), (1, .int (i32 v1)), (2, .long (i64 v2))] [] m (r_qTakes_90 v1 v2 m) := by
  unfold r_qTakes_90
  refine w_iload_n rfl rfl ?_
  refine w_iconst rfl ?_
  refine w_icmp_le (tg := 133) rfl rfl rfl rfl ?_ ?_
  · exact w_weak [(0, .ref 78)] rfl ⟨rfl, trivial⟩ (s_r_qTakes_133 (by omega))
  · refine w_aload_n rfl rfl ?_
    refine w_gfi rfl rfl (Nat.le_of_ble_eq_true rfl) rfl rfl ?_
    refine w_if_ne (tg := 128) rfl rfl (w32_ld _ _ _) ?_ ?_
    · exact w_weak [(0, .ref 78), (2, .long (i64 v2))] rfl ⟨rfl, rfl, trivial⟩ (s_r_qTakes_128 (by omega))
    · refine w_iload_n rfl rfl ?_
      refine w_iconst rfl ?_
      refine w_icmp_ne (tg := 119) rfl rfl rfl rfl ?_ ?_
      · refine w_lload_n rfl rfl ?_
        refine w_aload_n rfl rfl ?_
        refine w_gfl rfl rfl (Nat.le_of_ble_eq_true rfl) rfl rfl ?_
        refine w_lcmp_ge (tg := 133) rfl rfl rfl rfl (w64_ldl _ _ _) ?_ ?_
        · exact w_weak [(0, .ref 78)] rfl ⟨rfl, trivial⟩ (s_r_qTakes_133 (by omega))
        · exact w_weak [(0, .ref 78), (2, .long (i64 v2))] rfl ⟨rfl, rfl, trivial⟩ (s_r_qTakes_128 (by omega))
      · refine w_lload_n rfl rfl ?_
        refine w_aload_n rfl rfl ?_
        refine w_gfl rfl rfl (Nat.le_of_ble_eq_true rfl) rfl rfl ?_
        refine w_lcmp_le (tg := 133) rfl rfl rfl rfl (w64_ldl _ _ _) ?_ ?_
        · exact w_weak [(0, .ref 78)] rfl ⟨rfl, trivial⟩ (s_r_qTakes_133 (by omega))
        · refine w_goto (tg := 128) rfl rfl ?_
          exact w_weak [(0, .ref 78), (2, .long (i64 v2))] rfl ⟨rfl, rfl, trivial⟩ (s_r_qTakes_128 (by omega))
theorem s_r_qTakes_75 {d : Nat} (hd : 0 ≤ d) {v1 : Int} {v2 : Int} {m : xm} : xw (am_E L xs bz) d am_m301 0 75 [(0, .ref 78), (1, .int (i32 v1)), (2, .long (i64 v2))] [] m (r_qTakes_75 v1 v2 m) := by
  unfold r_qTakes_75
  refine w_iload_n rfl rfl ?_
  refine w_iconst rfl ?_
  refine w_icmp_ne (tg := 90) rfl rfl rfl rfl ?_ ?_
  · exact w_weak [(0, .ref 78), (1, .int (i32 v1)), (2, .long (i64 v2))] rfl ⟨rfl, rfl, rfl, trivial⟩ (s_r_qTakes_90 (by omega))
  · refine w_aload_n rfl rfl ?_
    refine w_dup rfl rfl ?_
    refine w_gfl rfl rfl (Nat.le_of_ble_eq_true rfl) rfl rfl ?_
    refine w_lload_n rfl rfl ?_
    refine w_ladd rfl ?_
    show xw _ _ _ _ 87 _ _ _ _
    refine w_pfl rfl rfl (Nat.le_of_ble_eq_true rfl) rfl rfl rfl (fun m1 => ?_)
    exact w_weak [(0, .ref 78), (1, .int (i32 v1)), (2, .long (i64 v2))] rfl ⟨rfl, rfl, rfl, trivial⟩ (s_r_qTakes_90 (by omega))
theorem s_r_qTakes_55 {d : Nat} (hd : 0 ≤ d) {v1 : Int} {v2 : Int} {v5 : Int} {m : xm} : xw (am_E L xs bz) d am_m301 0 55 [(0, .ref 78), (1, .int (i32 v1)), (2, .long (i64 v2)), (5, .int (i32 v5))] [] m (r_qTakes_55 v1 v2 v5 m) := by
  unfold r_qTakes_55
  refine w_iload_n rfl rfl ?_
  refine w_iconst rfl ?_
  refine w_icmp_ne (tg := 75) rfl rfl rfl rfl ?_ ?_
  · exact w_weak [(0, .ref 78), (1, .int (i32 v1)), (2, .long (i64 v2))] rfl ⟨rfl, rfl, rfl, trivial⟩ (s_r_qTakes_75 (by omega))
  · refine w_iload rfl rfl ?_
    refine w_if_eq (tg := 75) rfl rfl rfl ?_ ?_
    · exact w_weak [(0, .ref 78), (1, .int (i32 v1)), (2, .long (i64 v2))] rfl ⟨rfl, rfl, rfl, trivial⟩ (s_r_qTakes_75 (by omega))
    · refine w_aload_n rfl rfl ?_
      refine w_dup rfl rfl ?_
      refine w_gfl rfl rfl (Nat.le_of_ble_eq_true rfl) rfl rfl ?_
      refine w_lconst (z := 1) rfl rfl ?_
      refine w_ladd rfl ?_
      show xw _ _ _ _ 72 _ _ _ _
      refine w_pfl rfl rfl (Nat.le_of_ble_eq_true rfl) rfl rfl rfl (fun m1 => ?_)
      exact w_weak [(0, .ref 78), (1, .int (i32 v1)), (2, .long (i64 v2))] rfl ⟨rfl, rfl, rfl, trivial⟩ (s_r_qTakes_75 (by omega))
theorem s_r_qTakes_48 {d : Nat} (hd : 0 ≤ d) {v1 : Int} {v2 : Int} {v4 : Int} {v5 : Int} {m : xm} : xw (am_E L xs bz) d am_m301 0 48 [(0, .ref 78), (1, .int (i32 v1)), (2, .long (i64 v2)), (4, .int (i32 v4)), (5, .int (i32 v5))] [] m (r_qTakes_48 v1 v2 v4 v5 m) := by
  unfold r_qTakes_48
  refine w_aload_n rfl rfl ?_
  refine w_iload rfl rfl ?_
  refine w_i2l (x' := w32 v4) rfl rfl ?_
  refine w_pfl rfl rfl (Nat.le_of_ble_eq_true rfl) rfl rfl rfl (fun m1 => ?_)
  exact w_weak [(0, .ref 78), (1, .int (i32 v1)), (2, .long (i64 v2)), (5, .int (i32 v5))] rfl ⟨rfl, rfl, rfl, rfl, trivial⟩ (s_r_qTakes_55 (by omega))
theorem s_r_qTakes_38 {d : Nat} (hd : 0 ≤ d) {v1 : Int} {v2 : Int} {v4 : Int} {v5 : Int} {m : xm} : xw (am_E L xs bz) d am_m301 0 38 [(0, .ref 78), (1, .int (i32 v1)), (2, .long (i64 v2)), (4, .int (i32 v4)), (5, .int (i32 v5))] [] m (r_qTakes_38 v1 v2 v4 v5 m) := by
  unfold r_qTakes_38
  refine w_iload_n rfl rfl ?_
  refine w_iconst rfl ?_
  refine w_icmp_ne (tg := 55) rfl rfl rfl rfl ?_ ?_
  · exact w_weak [(0, .ref 78), (1, .int (i32 v1)), (2, .long (i64 v2)), (5, .int (i32 v5))] rfl ⟨rfl, rfl, rfl, rfl, trivial⟩ (s_r_qTakes_55 (by omega))
  · refine w_iload rfl rfl ?_
    refine w_if_eq (tg := 55) rfl rfl rfl ?_ ?_
    · exact w_weak [(0, .ref 78), (1, .int (i32 v1)), (2, .long (i64 v2)), (5, .int (i32 v5))] rfl ⟨rfl, rfl, rfl, rfl, trivial⟩ (s_r_qTakes_55 (by omega))
    · exact w_weak [(0, .ref 78), (1, .int (i32 v1)), (2, .long (i64 v2)), (4, .int (i32 v4)), (5, .int (i32 v5))] rfl ⟨rfl, rfl, rfl, rfl, rfl, trivial⟩ (s_r_qTakes_48 (by omega))
theorem s_r_qTakes_16 {d : Nat} (hd : 0 ≤ d) {v1 : Int} {v2 : Int} {v4 : Int} {s0 : Int} {m : xm} : xw (am_E L xs bz) d am_m301 0 16 [(0, .ref 78), (1, .int (i32 v1)), (2, .long (i64 v2)), (4, .int (i32 v4))] [.int (i32 s0)] m (r_qTakes_16 v1 v2 v4 s0 m) := by
  unfold r_qTakes_16
  refine w_letI (fun x1 => ?_)
  refine w_istore (lsd := [(5, .int (i32 x1)), (0, .ref 78), (1, .int (i32 v1)), (2, .long (i64 v2)), (4, .int (i32 v4))]) rfl (Nat.le_of_ble_eq_true rfl) rfl ?_
  refine w_iload_n rfl rfl ?_
  refine w_if_ne (tg := 38) rfl rfl rfl ?_ ?_
  · exact w_weak [(0, .ref 78), (1, .int (i32 v1)), (2, .long (i64 v2)), (4, .int (i32 v4)), (5, .int (i32 x1))] rfl ⟨rfl, rfl, rfl, rfl, rfl, trivial⟩ (s_r_qTakes_38 (by omega))
  · refine w_iload rfl rfl ?_
    refine w_if_eq (tg := 38) rfl rfl rfl ?_ ?_
    · exact w_weak [(0, .ref 78), (1, .int (i32 v1)), (2, .long (i64 v2)), (4, .int (i32 v4)), (5, .int (i32 x1))] rfl ⟨rfl, rfl, rfl, rfl, rfl, trivial⟩ (s_r_qTakes_38 (by omega))
    · refine w_aload_n rfl rfl ?_
      refine w_gfl rfl rfl (Nat.le_of_ble_eq_true rfl) rfl rfl ?_
      refine w_ldc2w (z := (-1)) rfl rfl rfl ?_
      refine w_lcmp_eq (tg := 48) rfl rfl rfl (w64_ldl _ _ _) rfl ?_ ?_
      · exact w_weak [(0, .ref 78), (1, .int (i32 v1)), (2, .long (i64 v2)), (4, .int (i32 v4)), (5, .int (i32 x1))] rfl ⟨rfl, rfl, rfl, rfl, rfl, trivial⟩ (s_r_qTakes_48 (by omega))
      · exact w_weak [(0, .ref 78), (1, .int (i32 v1)), (2, .long (i64 v2)), (4, .int (i32 v4)), (5, .int (i32 x1))] rfl ⟨rfl, rfl, rfl, rfl, rfl, trivial⟩ (s_r_qTakes_38 (by omega))
theorem s_r_qTakes_15 {d : Nat} (hd : 0 ≤ d) {v1 : Int} {v2 : Int} {v4 : Int} {m : xm} : xw (am_E L xs bz) d am_m301 0 15 [(0, .ref 78), (1, .int (i32 v1)), (2, .long (i64 v2)), (4, .int (i32 v4))] [] m (r_qTakes_15 v1 v2 v4 m) := by
  unfold r_qTakes_15
  refine w_iconst rfl ?_
  exact w_weak [(0, .ref 78), (1, .int (i32 v1)), (2, .long (i64 v2)), (4, .int (i32 v4))] rfl ⟨rfl, rfl, rfl, rfl, trivial⟩ (s_r_qTakes_16 (by omega))
theorem s_r_qTakes {d : Nat} {v1 : Int} {v2 : Int} {v4 : Int} {m : xm} (hd : 0 ≤ d) : xw (am_E L xs bz) d am_m301 0 0 [(0, .ref 78), (1, .int (i32 v1)), (2, .long (i64 v2)), (4, .int (i32 v4))] [] m (r_qTakes v1 v2 v4 m) := by
  unfold r_qTakes
  refine w_iload_n rfl rfl ?_
  refine w_iconst rfl ?_
  refine w_icmp_ge (tg := 15) rfl rfl rfl rfl ?_ ?_
  · exact w_weak [(0, .ref 78), (1, .int (i32 v1)), (2, .long (i64 v2)), (4, .int (i32 v4))] rfl ⟨rfl, rfl, rfl, rfl, trivial⟩ (s_r_qTakes_15 (by omega))
  · refine w_lload_n rfl rfl ?_
    refine w_lconst (z := 1) rfl rfl ?_
    refine w_lcmp_ne (tg := 15) rfl rfl rfl rfl rfl ?_ ?_
    · exact w_weak [(0, .ref 78), (1, .int (i32 v1)), (2, .long (i64 v2)), (4, .int (i32 v4))] rfl ⟨rfl, rfl, rfl, rfl, trivial⟩ (s_r_qTakes_15 (by omega))
    · refine w_iconst rfl ?_
      refine w_goto (tg := 16) rfl rfl ?_
      exact w_weak [(0, .ref 78), (1, .int (i32 v1)), (2, .long (i64 v2)), (4, .int (i32 v4))] rfl ⟨rfl, rfl, rfl, rfl, trivial⟩ (s_r_qTakes_16 (by omega))
theorem s_r_ask_192 {d : Nat} (hd : 9 ≤ d) {m : xm} : xw (am_E L xs bz) d am_m298 2 192 [(0, .ref 78)] [] m (r_ask_192 m) := by
  unfold r_ask_192
  refine w_aload_n rfl rfl ?_
  refine w_gfl rfl rfl (Nat.le_of_ble_eq_true rfl) rfl rfl ?_
  exact w_retv rfl rfl
theorem s_r_ask_167 {d : Nat} (hd : 9 ≤ d) : ∀ (n : Nat) {v1 : Int} {v2 : Int} {m : xm}, xw (am_E L xs bz) d am_m298 2 167 [(0, .ref 78), (1, .int (i32 v1)), (2, .int (i32 v2))] [] m (r_ask_167 n v1 v2 m) := by
  intro n
  induction n with
  | zero => intros; exact w_none
  | succ n ih =>
    intro v1 v2 m
    have hk167 := fun (v1 v2 : Int) (m : xm) => @ih v1 v2 m
    unfold r_ask_167
    refine w_iload_n rfl rfl ?_
    refine w_aload_n rfl rfl ?_
    refine w_call1 [.ref 78] [.int (i32 v2)] (by omega) rfl rfl rfl rfl rfl rfl (Nat.le_of_ble_eq_true rfl) (fun _ => xrc_ok rfl) (Nat.le_of_ble_eq_true rfl) rfl rfl (s_r_lockMany (by omega)) (fun r1 m2 => ?_)
    refine w_icmp_ge (tg := 192) rfl rfl rfl rfl ?_ ?_
    · exact w_weak [(0, .ref 78)] rfl ⟨rfl, trivial⟩ (s_r_ask_192 (by omega))
    · refine w_aload_n rfl rfl ?_
      refine w_iload_n rfl rfl ?_
      refine w_aload_n rfl rfl ?_
      refine w_iload_n rfl rfl ?_
      refine w_call2 [.ref 78, .int (i32 v2)] [.int (i32 v1), .ref 78] (by omega) rfl rfl rfl rfl rfl rfl (Nat.le_of_ble_eq_true rfl) (fun _ => xrc_ok rfl) (Nat.le_of_ble_eq_true rfl) rfl rfl (s_r_qTold (by omega)) (fun r3 m4 => ?_)
      show xw _ _ _ _ 182 _ _ _ _
      refine w_iload_n rfl rfl ?_
      refine w_call0 [.ref 78, .int (i32 v1), .long (i64 r3), .int (i32 v2)] [] (by omega) rfl rfl rfl rfl rfl rfl (Nat.le_of_ble_eq_true rfl) (fun _ => xrc_ok rfl) (Nat.le_of_ble_eq_true rfl) rfl rfl (s_r_qTakes (by omega)) (fun r5 m6 => ?_)
      refine w_iinc (lsd := [(2, .int (i32 (v2 + 1))), (0, .ref 78), (1, .int (i32 v1))]) rfl (Nat.le_of_ble_eq_true rfl) rfl rfl ?_
      refine w_goto (tg := 167) rfl rfl ?_
      exact w_weak [(0, .ref 78), (1, .int (i32 v1)), (2, .int (i32 (v2 + 1)))] rfl ⟨rfl, rfl, rfl, trivial⟩ (hk167 v1 (v2 + 1) m6)
theorem s_r_ask_157 {d : Nat} (hd : 9 ≤ d) {v1 : Int} {s1 : Int} {m : xm} : xw (am_E L xs bz) d am_m298 2 157 [(0, .ref 78), (1, .int (i32 v1))] [.long (i64 s1), .ref 78] m (r_ask_157 v1 s1 m) := by
  unfold r_ask_157
  refine w_pfl rfl rfl (Nat.le_of_ble_eq_true rfl) rfl rfl rfl (fun m1 => ?_)
  refine w_aload_n rfl rfl ?_
  refine w_iconst rfl ?_
  refine w_pfi rfl rfl (Nat.le_of_ble_eq_true rfl) rfl rfl rfl (fun m2 => ?_)
  refine w_iconst rfl ?_
  show xw _ _ _ _ 166 _ _ _ _
  refine w_istore_n (lsd := [(2, .int (i32 0)), (0, .ref 78), (1, .int (i32 v1))]) rfl (Nat.le_of_ble_eq_true rfl) rfl ?_
  exact w_weak [(0, .ref 78), (1, .int (i32 v1)), (2, .int (i32 0))] rfl ⟨rfl, rfl, rfl, trivial⟩ (s_r_ask_167 (by omega) _)
theorem s_r_ask_117 {d : Nat} (hd : 9 ≤ d) {v1 : Int} {m : xm} : xw (am_E L xs bz) d am_m298 2 117 [(0, .ref 78), (1, .int (i32 v1))] [] m (r_ask_117 v1 m) := by
  unfold r_ask_117
  refine w_aload_n rfl rfl ?_
  refine w_aload_n rfl rfl ?_
  refine w_gfi rfl rfl (Nat.le_of_ble_eq_true rfl) rfl rfl ?_
  refine w_pfi rfl rfl (Nat.le_of_ble_eq_true rfl) rfl rfl rfl (fun m1 => ?_)
  refine w_aload_n rfl rfl ?_
  show xw _ _ _ _ 126 _ _ _ _
  refine w_aload_n rfl rfl ?_
  refine w_gfi rfl rfl (Nat.le_of_ble_eq_true rfl) rfl rfl ?_
  refine w_pfi rfl rfl (Nat.le_of_ble_eq_true rfl) rfl rfl rfl (fun m2 => ?_)
  refine w_aload_n rfl rfl ?_
  refine w_gfi rfl rfl (Nat.le_of_ble_eq_true rfl) rfl rfl ?_
  refine w_if_eq (tg := 144) rfl rfl (w32_ld _ _ _) ?_ ?_
  · refine w_aload_n rfl rfl ?_
    refine w_iload_n rfl rfl ?_
    refine w_iconst rfl ?_
    refine w_icmp_ge (tg := 156) rfl rfl rfl rfl ?_ ?_
    · refine w_lconst (z := 0) rfl rfl ?_
      exact w_weak [(0, .ref 78), (1, .int (i32 v1))] rfl ⟨rfl, rfl, trivial⟩ (s_r_ask_157 (by omega))
    · refine w_ldc2w (z := (-1)) rfl rfl rfl ?_
      refine w_goto (tg := 157) rfl rfl ?_
      exact w_weak [(0, .ref 78), (1, .int (i32 v1))] rfl ⟨rfl, rfl, trivial⟩ (s_r_ask_157 (by omega))
  · refine w_ldc2w (z := (-1000000000000000)) rfl rfl rfl ?_
    exact w_retv rfl rfl
theorem s_r_ask_93 {d : Nat} (hd : 9 ≤ d) {v1 : Int} {m : xm} : xw (am_E L xs bz) d am_m298 2 93 [(0, .ref 78), (1, .int (i32 v1))] [] m (r_ask_93 v1 m) := by
  unfold r_ask_93
  refine w_aload_n rfl rfl ?_
  refine w_gfi rfl rfl (Nat.le_of_ble_eq_true rfl) rfl rfl ?_
  refine w_if_ne (tg := 117) rfl rfl (w32_ld _ _ _) ?_ ?_
  · exact w_weak [(0, .ref 78), (1, .int (i32 v1))] rfl ⟨rfl, rfl, trivial⟩ (s_r_ask_117 (by omega))
  · refine w_aload_n rfl rfl ?_
    refine w_call1 [.ref 78] [] (by omega) rfl rfl rfl rfl rfl rfl (Nat.le_of_ble_eq_true rfl) (fun _ => xrc_ok rfl) (Nat.le_of_ble_eq_true rfl) rfl rfl (s_r_look (by omega)) (fun r1 m2 => ?_)
    refine w_iconst rfl ?_
    refine w_icmp_eq (tg := 117) rfl rfl rfl rfl ?_ ?_
    · exact w_weak [(0, .ref 78), (1, .int (i32 v1))] rfl ⟨rfl, rfl, trivial⟩ (s_r_ask_117 (by omega))
    · refine w_aload_n rfl rfl ?_
      refine w_iconst rfl ?_
      refine w_aload_n rfl rfl ?_
      refine w_gfi rfl rfl (Nat.le_of_ble_eq_true rfl) rfl rfl ?_
      refine w_call0 [.ref 78, .int (i32 1), .int (i32 (ld m2 78 2))] [] (by omega) rfl rfl rfl rfl rfl rfl (Nat.le_of_ble_eq_true rfl) (fun _ => xrc_ok rfl) (Nat.le_of_ble_eq_true rfl) rfl rfl (s_r_fail (by omega)) (fun r3 m4 => ?_)
      exact w_weak [(0, .ref 78), (1, .int (i32 v1))] rfl ⟨rfl, rfl, trivial⟩ (s_r_ask_117 (by omega))
theorem s_r_ask_82 {d : Nat} (hd : 9 ≤ d) {v1 : Int} {m : xm} : xw (am_E L xs bz) d am_m298 2 82 [(0, .ref 78), (1, .int (i32 v1))] [] m (r_ask_82 v1 m) := by
  unfold r_ask_82
  refine w_aload_n rfl rfl ?_
  refine w_gfi rfl rfl (Nat.le_of_ble_eq_true rfl) rfl rfl ?_
  refine w_if_ne (tg := 93) rfl rfl (w32_ld _ _ _) ?_ ?_
  · exact w_weak [(0, .ref 78), (1, .int (i32 v1))] rfl ⟨rfl, rfl, trivial⟩ (s_r_ask_93 (by omega))
  · refine w_aload_n rfl rfl ?_
    refine w_call0 [.ref 78] [] (by omega) rfl rfl rfl rfl rfl rfl (Nat.le_of_ble_eq_true rfl) (fun _ => xrc_ok rfl) (Nat.le_of_ble_eq_true rfl) rfl rfl (s_r_qSums (by omega)) (fun r1 m2 => ?_)
    exact w_weak [(0, .ref 78), (1, .int (i32 v1))] rfl ⟨rfl, rfl, trivial⟩ (s_r_ask_93 (by omega))
theorem s_r_ask {d : Nat} {m : xm} (hd : 9 ≤ d) : xw (am_E L xs bz) d am_m298 2 0 [(0, .ref 78)] [] m (r_ask m) := by
  unfold r_ask
  refine w_aload_n rfl rfl ?_
  refine w_aload_n rfl rfl ?_
  refine w_gfi rfl rfl (Nat.le_of_ble_eq_true rfl) rfl rfl ?_
  refine w_pfi rfl rfl (Nat.le_of_ble_eq_true rfl) rfl rfl rfl (fun m1 => ?_)
  refine w_aload_n rfl rfl ?_
  show xw _ _ _ _ 9 _ _ _ _
  refine w_iconst rfl ?_
  refine w_pfi rfl rfl (Nat.le_of_ble_eq_true rfl) rfl rfl rfl (fun m2 => ?_)
  refine w_aload_n rfl rfl ?_
  refine w_iconst rfl ?_
  refine w_pfi rfl rfl (Nat.le_of_ble_eq_true rfl) rfl rfl rfl (fun m3 => ?_)
  refine w_aload_n rfl rfl ?_
  show xw _ _ _ _ 19 _ _ _ _
  refine w_iconst rfl ?_
  refine w_pfi rfl rfl (Nat.le_of_ble_eq_true rfl) rfl rfl rfl (fun m4 => ?_)
  refine w_aload_n rfl rfl ?_
  refine w_iconst rfl ?_
  refine w_pfi rfl rfl (Nat.le_of_ble_eq_true rfl) rfl rfl rfl (fun m5 => ?_)
  refine w_aload_n rfl rfl ?_
  show xw _ _ _ _ 29 _ _ _ _
  refine w_iconst rfl ?_
  refine w_pfi rfl rfl (Nat.le_of_ble_eq_true rfl) rfl rfl rfl (fun m6 => ?_)
  refine w_aload_n rfl rfl ?_
  refine w_iconst rfl ?_
  refine w_pfi rfl rfl (Nat.le_of_ble_eq_true rfl) rfl rfl rfl (fun m7 => ?_)
  refine w_aload_n rfl rfl ?_
  show xw _ _ _ _ 39 _ _ _ _
  refine w_iconst rfl ?_
  refine w_pfi rfl rfl (Nat.le_of_ble_eq_true rfl) rfl rfl rfl (fun m8 => ?_)
  refine w_aload_n rfl rfl ?_
  refine w_iconst rfl ?_
  refine w_pfi rfl rfl (Nat.le_of_ble_eq_true rfl) rfl rfl rfl (fun m9 => ?_)
  refine w_aload_n rfl rfl ?_
  show xw _ _ _ _ 49 _ _ _ _
  refine w_iconst rfl ?_
  refine w_pfi rfl rfl (Nat.le_of_ble_eq_true rfl) rfl rfl rfl (fun m10 => ?_)
  refine w_aload_n rfl rfl ?_
  refine w_iconst rfl ?_
  refine w_pfi rfl rfl (Nat.le_of_ble_eq_true rfl) rfl rfl rfl (fun m11 => ?_)
  refine w_aload_n rfl rfl ?_
  show xw _ _ _ _ 59 _ _ _ _
  refine w_call1 [.ref 78] [] (by omega) rfl rfl rfl rfl rfl rfl (Nat.le_of_ble_eq_true rfl) (fun _ => xrc_ok rfl) (Nat.le_of_ble_eq_true rfl) rfl rfl (s_r_qKind (by omega)) (fun r12 m13 => ?_)
  refine w_istore_n (lsd := [(1, .int (i32 r12)), (0, .ref 78)]) rfl (Nat.le_of_ble_eq_true rfl) rfl ?_
  refine w_aload_n rfl rfl ?_
  refine w_gfi rfl rfl (Nat.le_of_ble_eq_true rfl) rfl rfl ?_
  refine w_if_ne (tg := 82) rfl rfl (w32_ld _ _ _) ?_ ?_
  · exact w_weak [(0, .ref 78), (1, .int (i32 r12))] rfl ⟨rfl, rfl, trivial⟩ (s_r_ask_82 (by omega))
  · refine w_iload_n rfl rfl ?_
    refine w_iconst rfl ?_
    refine w_icmp_ge (tg := 82) rfl rfl rfl rfl ?_ ?_
    · exact w_weak [(0, .ref 78), (1, .int (i32 r12))] rfl ⟨rfl, rfl, trivial⟩ (s_r_ask_82 (by omega))
    · refine w_aload_n rfl rfl ?_
      refine w_call0 [.ref 78] [] (by omega) rfl rfl rfl rfl rfl rfl (Nat.le_of_ble_eq_true rfl) (fun _ => xrc_ok rfl) (Nat.le_of_ble_eq_true rfl) rfl rfl (s_r_qTest (by omega)) (fun r14 m15 => ?_)
      refine w_goto (tg := 93) rfl rfl ?_
      exact w_weak [(0, .ref 78), (1, .int (i32 r12))] rfl ⟨rfl, rfl, trivial⟩ (s_r_ask_93 (by omega))
theorem s_r_writes {d : Nat} {v1 : Int} {m : xm} (hd : 0 ≤ d) : xw (am_E L xs bz) d am_m303 0 0 [(0, .ref 78), (1, .int (i32 v1))] [] m (r_writes v1 m) := by
  unfold r_writes
  refine w_aload_n rfl rfl ?_
  refine w_gfr (r := 141) rfl rfl (Nat.le_of_ble_eq_true rfl) rfl rfl ?_
  refine w_aload_n rfl rfl ?_
  refine w_gfi rfl rfl (Nat.le_of_ble_eq_true rfl) rfl rfl ?_
  refine w_iload_n rfl rfl ?_
  show xw _ _ _ _ 9 _ _ _ _
  refine w_iastore rfl rfl (fun m1 => ?_)
  refine w_aload_n rfl rfl ?_
  refine w_dup rfl rfl ?_
  refine w_gfi rfl rfl (Nat.le_of_ble_eq_true rfl) rfl rfl ?_
  refine w_iconst rfl ?_
  refine w_iadd rfl ?_
  show xw _ _ _ _ 17 _ _ _ _
  refine w_pfi rfl rfl (Nat.le_of_ble_eq_true rfl) rfl rfl rfl (fun m2 => ?_)
  exact w_retv (x := 0) rfl rfl
theorem s_r_checked_5 {d : Nat} {v0 : Nat} (hd : 0 ≤ d) (h0 : xia v0 = true) : ∀ (n : Nat) {v1 : Int} {v2 : Int} {v3 : Int} {m : xm}, xw (am_E L xs bz) d am_m304 1 5 [(0, .ref v0), (1, .int (i32 v1)), (2, .int (i32 v2)), (3, .int (i32 v3))] [] m (r_checked_5 v0 n v1 v2 v3 m) := by
  intro n
  induction n with
  | zero => intros; exact w_none
  | succ n ih =>
    intro v1 v2 v3 m
    have hk5 := fun (v1 v2 v3 : Int) (m : xm) => @ih v1 v2 v3 m
    unfold r_checked_5
    refine w_iload_n rfl rfl ?_
    refine w_iload_n rfl rfl ?_
    refine w_icmp_ge (tg := 28) rfl rfl rfl rfl ?_ ?_
    · refine w_iload_n rfl rfl ?_
      exact w_retv rfl rfl
    · refine w_iconst rfl ?_
      refine w_iload_n rfl rfl ?_
      refine w_imul rfl ?_
      refine w_aload_n rfl rfl ?_
      refine w_iload_n rfl rfl ?_
      show xw _ _ _ _ 15 _ _ _ _
      refine w_iaload rfl h0 (fun x1 => ?_)
      refine w_iadd rfl ?_
      refine w_sipush rfl rfl ?_
      refine w_iremc rfl (by decide) ?_
      refine w_letI (fun x2 => ?_)
      refine w_istore_n (lsd := [(2, .int (i32 x2)), (0, .ref v0), (1, .int (i32 v1)), (3, .int (i32 v3))]) rfl (Nat.le_of_ble_eq_true rfl) rfl ?_
      refine w_iinc (lsd := [(3, .int (i32 (v3 + 1))), (2, .int (i32 x2)), (0, .ref v0), (1, .int (i32 v1))]) rfl (Nat.le_of_ble_eq_true rfl) rfl rfl ?_
      show xw _ _ _ _ 25 _ _ _ _
      refine w_goto (tg := 5) rfl rfl ?_
      exact w_weak [(0, .ref v0), (1, .int (i32 v1)), (2, .int (i32 x2)), (3, .int (i32 (v3 + 1)))] rfl ⟨rfl, rfl, rfl, rfl, trivial⟩ (hk5 v1 x2 (v3 + 1) m)
theorem s_r_checked {d : Nat} {v0 : Nat} {v1 : Int} {m : xm} (hd : 0 ≤ d) (h0 : xia v0 = true) : xw (am_E L xs bz) d am_m304 1 0 [(0, .ref v0), (1, .int (i32 v1))] [] m (r_checked v0 v1 m) := by
  unfold r_checked
  refine w_bipush rfl rfl ?_
  refine w_istore_n (lsd := [(2, .int (i32 11)), (0, .ref v0), (1, .int (i32 v1))]) rfl (Nat.le_of_ble_eq_true rfl) rfl ?_
  refine w_iconst rfl ?_
  refine w_istore_n (lsd := [(3, .int (i32 0)), (2, .int (i32 11)), (0, .ref v0), (1, .int (i32 v1))]) rfl (Nat.le_of_ble_eq_true rfl) rfl ?_
  exact w_weak [(0, .ref v0), (1, .int (i32 v1)), (2, .int (i32 11)), (3, .int (i32 0))] rfl ⟨rfl, rfl, rfl, rfl, trivial⟩ (s_r_checked_5 (by omega) h0 _)
theorem s_r_image_75 {d : Nat} (hd : 2 ≤ d) {m : xm} : xw (am_E L xs bz) d am_m302 1 75 [(0, .ref 78)] [] m (r_image_75 m) := by
  unfold r_image_75
  refine w_aload_n rfl rfl ?_
  refine w_aload_n rfl rfl ?_
  refine w_gfr (r := 141) rfl rfl (Nat.le_of_ble_eq_true rfl) rfl rfl ?_
  refine w_aload_n rfl rfl ?_
  refine w_gfi rfl rfl (Nat.le_of_ble_eq_true rfl) rfl rfl ?_
  show xw _ _ _ _ 84 _ _ _ _
  refine w_call1 [.ref 141, .int (i32 (ld m 78 94))] [.ref 78] (by omega) rfl rfl rfl rfl rfl rfl (Nat.le_of_ble_eq_true rfl) (fun z => by cases z) (Nat.le_of_ble_eq_true rfl) rfl rfl (s_r_checked (by omega) rfl) (fun r1 m2 => ?_)
  refine w_call0 [.ref 78, .int (i32 r1)] [] (by omega) rfl rfl rfl rfl rfl rfl (Nat.le_of_ble_eq_true rfl) (fun _ => xrc_ok rfl) (Nat.le_of_ble_eq_true rfl) rfl rfl (s_r_writes (by omega)) (fun r3 m4 => ?_)
  refine w_aload_n rfl rfl ?_
  refine w_gfi rfl rfl (Nat.le_of_ble_eq_true rfl) rfl rfl ?_
  exact w_retv rfl rfl
theorem s_r_image_66 {d : Nat} {k35 : Int → xm → xr} (hd : 2 ≤ d) (hk35 : ∀ (v1 : Int) (m : xm), xw (am_E L xs bz) d am_m302 1 35 [(0, .ref 78), (1, .int (i32 v1))] [] m (k35 v1 m)) {v1 : Int} {s1 : Int} {m : xm} : xw (am_E L xs bz) d am_m302 1 66 [(0, .ref 78), (1, .int (i32 v1))] [.int (i32 s1), .ref 78] m (r_image_66 k35 v1 s1 m) := by
  unfold r_image_66
  refine w_call0 [.ref 78, .int (i32 s1)] [] (by omega) rfl rfl rfl rfl rfl rfl (Nat.le_of_ble_eq_true rfl) (fun _ => xrc_ok rfl) (Nat.le_of_ble_eq_true rfl) rfl rfl (s_r_writes (by omega)) (fun r1 m2 => ?_)
  refine w_iinc (lsd := [(1, .int (i32 (v1 + 1))), (0, .ref 78)]) rfl (Nat.le_of_ble_eq_true rfl) rfl rfl ?_
  refine w_goto (tg := 35) rfl rfl ?_
  exact w_weak [(0, .ref 78), (1, .int (i32 (v1 + 1)))] rfl ⟨rfl, rfl, trivial⟩ (hk35 (v1 + 1) m2)
theorem s_r_image_35 {d : Nat} (hd : 2 ≤ d) : ∀ (n : Nat) {v1 : Int} {m : xm}, xw (am_E L xs bz) d am_m302 1 35 [(0, .ref 78), (1, .int (i32 v1))] [] m (r_image_35 n v1 m) := by
  intro n
  induction n with
  | zero => intros; exact w_none
  | succ n ih =>
    intro v1 m
    have hk35 := fun (v1 : Int) (m : xm) => @ih v1 m
    unfold r_image_35
    refine w_iload_n rfl rfl ?_
    refine w_aload_n rfl rfl ?_
    refine w_call1 [.ref 78] [.int (i32 v1)] (by omega) rfl rfl rfl rfl rfl rfl (Nat.le_of_ble_eq_true rfl) (fun _ => xrc_ok rfl) (Nat.le_of_ble_eq_true rfl) rfl rfl (s_r_lockMany (by omega)) (fun r1 m2 => ?_)
    refine w_icmp_ge (tg := 75) rfl rfl rfl rfl ?_ ?_
    · exact w_weak [(0, .ref 78)] rfl ⟨rfl, trivial⟩ (s_r_image_75 (by omega))
    · refine w_aload_n rfl rfl ?_
      refine w_aload_n rfl rfl ?_
      refine w_iload_n rfl rfl ?_
      refine w_call1 [.ref 78, .int (i32 v1)] [.ref 78] (by omega) rfl rfl rfl rfl rfl rfl (Nat.le_of_ble_eq_true rfl) (fun _ => xrc_ok rfl) (Nat.le_of_ble_eq_true rfl) rfl rfl (s_r_wardNow (by omega)) (fun r3 m4 => ?_)
      refine w_call0 [.ref 78, .int (i32 r3)] [] (by omega) rfl rfl rfl rfl rfl rfl (Nat.le_of_ble_eq_true rfl) (fun _ => xrc_ok rfl) (Nat.le_of_ble_eq_true rfl) rfl rfl (s_r_writes (by omega)) (fun r5 m6 => ?_)
      show xw _ _ _ _ 52 _ _ _ _
      refine w_aload_n rfl rfl ?_
      refine w_aload_n rfl rfl ?_
      refine w_iload_n rfl rfl ?_
      refine w_call1 [.ref 78, .int (i32 v1)] [.ref 78] (by omega) rfl rfl rfl rfl rfl rfl (Nat.le_of_ble_eq_true rfl) (fun _ => xrc_ok rfl) (Nat.le_of_ble_eq_true rfl) rfl rfl (s_r_isJammed (by omega)) (fun r7 m8 => ?_)
      refine w_if_eq (tg := 65) rfl rfl rfl ?_ ?_
      · refine w_iconst rfl ?_
        exact w_weak [(0, .ref 78), (1, .int (i32 v1))] rfl ⟨rfl, rfl, trivial⟩ (s_r_image_66 (by omega) hk35)
      · refine w_iconst rfl ?_
        refine w_goto (tg := 66) rfl rfl ?_
        exact w_weak [(0, .ref 78), (1, .int (i32 v1))] rfl ⟨rfl, rfl, trivial⟩ (s_r_image_66 (by omega) hk35)
theorem s_r_image {d : Nat} {m : xm} (hd : 2 ≤ d) : xw (am_E L xs bz) d am_m302 1 0 [(0, .ref 78)] [] m (r_image m) := by
  unfold r_image
  refine w_aload_n rfl rfl ?_
  refine w_iconst rfl ?_
  refine w_pfi rfl rfl (Nat.le_of_ble_eq_true rfl) rfl rfl rfl (fun m1 => ?_)
  refine w_aload_n rfl rfl ?_
  refine w_aload_n rfl rfl ?_
  show xw _ _ _ _ 7 _ _ _ _
  refine w_gfr (r := 110) rfl rfl (Nat.le_of_ble_eq_true rfl) rfl rfl ?_
  refine w_iconst rfl ?_
  refine w_iaload rfl rfl (fun x2 => ?_)
  refine w_sipush rfl rfl ?_
  refine w_idivc rfl (by decide) ?_
  refine w_call0 [.ref 78, .int (i32 (idv x2 256))] [] (by omega) rfl rfl rfl rfl rfl rfl (Nat.le_of_ble_eq_true rfl) (fun _ => xrc_ok rfl) (Nat.le_of_ble_eq_true rfl) rfl rfl (s_r_writes (by omega)) (fun r3 m4 => ?_)
  show xw _ _ _ _ 19 _ _ _ _
  refine w_aload_n rfl rfl ?_
  refine w_aload_n rfl rfl ?_
  refine w_gfr (r := 110) rfl rfl (Nat.le_of_ble_eq_true rfl) rfl rfl ?_
  refine w_iconst rfl ?_
  refine w_iaload rfl rfl (fun x5 => ?_)
  refine w_sipush rfl rfl ?_
  show xw _ _ _ _ 29 _ _ _ _
  refine w_iremc rfl (by decide) ?_
  refine w_call0 [.ref 78, .int (i32 (irm x5 256))] [] (by omega) rfl rfl rfl rfl rfl rfl (Nat.le_of_ble_eq_true rfl) (fun _ => xrc_ok rfl) (Nat.le_of_ble_eq_true rfl) rfl rfl (s_r_writes (by omega)) (fun r6 m7 => ?_)
  refine w_iconst rfl ?_
  refine w_istore_n (lsd := [(1, .int (i32 0)), (0, .ref 78)]) rfl (Nat.le_of_ble_eq_true rfl) rfl ?_
  exact w_weak [(0, .ref 78), (1, .int (i32 0))] rfl ⟨rfl, rfl, trivial⟩ (s_r_image_35 (by omega) _)
theorem s_r_octet {d : Nat} {v1 : Int} {m : xm} (hd : 0 ≤ d) : xw (am_E L xs bz) d am_m305 1 0 [(0, .ref 78), (1, .int (i32 v1))] [] m (r_octet v1 m) := by
  unfold r_octet
  refine w_iload_n rfl rfl ?_
  refine w_if_lt (tg := 21) rfl rfl rfl ?_ ?_
  · refine w_iconst rfl ?_
    exact w_retv rfl rfl
  · refine w_iload_n rfl rfl ?_
    refine w_aload_n rfl rfl ?_
    refine w_gfi rfl rfl (Nat.le_of_ble_eq_true rfl) rfl rfl ?_
    refine w_icmp_ge (tg := 21) rfl rfl rfl (w32_ld _ _ _) ?_ ?_
    · refine w_iconst rfl ?_
      exact w_retv rfl rfl
    · refine w_aload_n rfl rfl ?_
      refine w_gfr (r := 141) rfl rfl (Nat.le_of_ble_eq_true rfl) rfl rfl ?_
      refine w_iload_n rfl rfl ?_
      refine w_iaload rfl rfl (fun x1 => ?_)
      refine w_goto (tg := 22) rfl rfl ?_
      show xw _ _ _ _ 22 _ _ _ _
      exact w_retv rfl rfl
theorem s_r_isImage_60 {d : Nat} (hd : 1 ≤ d) : ∀ (n : Nat) {v2 : Int} {m : xm}, xw (am_E L xs bz) d am_m307 1 60 [(0, .ref 78), (2, .int (i32 v2))] [] m (r_isImage_60 n v2 m) := by
  intro n
  induction n with
  | zero => intros; exact w_none
  | succ n ih =>
    intro v2 m
    have hk60 := fun (v2 : Int) (m : xm) => @ih v2 m
    unfold r_isImage_60
    refine w_iload_n rfl rfl ?_
    refine w_aload_n rfl rfl ?_
    refine w_call1 [.ref 78] [.int (i32 v2)] (by omega) rfl rfl rfl rfl rfl rfl (Nat.le_of_ble_eq_true rfl) (fun _ => xrc_ok rfl) (Nat.le_of_ble_eq_true rfl) rfl rfl (s_r_lockMany (by omega)) (fun r1 m2 => ?_)
    refine w_icmp_ge (tg := 108) rfl rfl rfl rfl ?_ ?_
    · refine w_iconst rfl ?_
      exact w_retv rfl rfl
    · refine w_aload_n rfl rfl ?_
      refine w_gfr (r := 79) rfl rfl (Nat.le_of_ble_eq_true rfl) rfl rfl ?_
      refine w_iconst rfl ?_
      refine w_iconst rfl ?_
      refine w_iload_n rfl rfl ?_
      show xw _ _ _ _ 75 _ _ _ _
      refine w_imul rfl ?_
      refine w_iadd rfl ?_
      refine w_iaload rfl rfl (fun x3 => ?_)
      refine w_aload_n rfl rfl ?_
      refine w_iload_n rfl rfl ?_
      refine w_call1 [.ref 78, .int (i32 v2)] [.int (i32 x3)] (by omega) rfl rfl rfl rfl rfl rfl (Nat.le_of_ble_eq_true rfl) (fun _ => xrc_ok rfl) (Nat.le_of_ble_eq_true rfl) rfl rfl (s_r_wardsOf (by omega)) (fun r4 m5 => ?_)
      show xw _ _ _ _ 83 _ _ _ _
      refine w_icmp_ge (tg := 100) rfl rfl rfl rfl ?_ ?_
      · refine w_iconst rfl ?_
        exact w_retv rfl rfl
      · refine w_aload_n rfl rfl ?_
        refine w_gfr (r := 79) rfl rfl (Nat.le_of_ble_eq_true rfl) rfl rfl ?_
        refine w_iconst rfl ?_
        refine w_iconst rfl ?_
        refine w_iload_n rfl rfl ?_
        show xw _ _ _ _ 93 _ _ _ _
        refine w_imul rfl ?_
        refine w_iadd rfl ?_
        refine w_iaload rfl rfl (fun x6 => ?_)
        refine w_iconst rfl ?_
        refine w_icmp_le (tg := 102) rfl rfl rfl rfl ?_ ?_
        · refine w_iinc (lsd := [(2, .int (i32 (v2 + 1))), (0, .ref 78)]) rfl (Nat.le_of_ble_eq_true rfl) rfl rfl ?_
          refine w_goto (tg := 60) rfl rfl ?_
          exact w_weak [(0, .ref 78), (2, .int (i32 (v2 + 1)))] rfl ⟨rfl, rfl, trivial⟩ (hk60 (v2 + 1) m5)
        · refine w_iconst rfl ?_
          exact w_retv rfl rfl
theorem s_r_isImage {d : Nat} {v1 : Int} {m : xm} (hd : 1 ≤ d) : xw (am_E L xs bz) d am_m307 1 0 [(0, .ref 78), (1, .int (i32 v1))] [] m (r_isImage v1 m) := by
  unfold r_isImage
  refine w_iload_n rfl rfl ?_
  refine w_iconst rfl ?_
  refine w_iconst rfl ?_
  refine w_aload_n rfl rfl ?_
  refine w_call1 [.ref 78] [.int (i32 2), .int (i32 3), .int (i32 v1)] (by omega) rfl rfl rfl rfl rfl rfl (Nat.le_of_ble_eq_true rfl) (fun _ => xrc_ok rfl) (Nat.le_of_ble_eq_true rfl) rfl rfl (s_r_lockMany (by omega)) (fun r1 m2 => ?_)
  show xw _ _ _ _ 7 _ _ _ _
  refine w_imul rfl ?_
  refine w_iadd rfl ?_
  refine w_icmp_ne (tg := 56) rfl rfl rfl rfl ?_ ?_
  · refine w_iconst rfl ?_
    exact w_retv rfl rfl
  · refine w_aload_n rfl rfl ?_
    refine w_gfr (r := 79) rfl rfl (Nat.le_of_ble_eq_true rfl) rfl rfl ?_
    refine w_iload_n rfl rfl ?_
    refine w_iconst rfl ?_
    refine w_isub rfl ?_
    show xw _ _ _ _ 19 _ _ _ _
    refine w_iaload rfl rfl (fun x3 => ?_)
    refine w_aload_n rfl rfl ?_
    refine w_gfr (r := 79) rfl rfl (Nat.le_of_ble_eq_true rfl) rfl rfl ?_
    refine w_iload_n rfl rfl ?_
    refine w_iconst rfl ?_
    refine w_isub rfl ?_
    show xw _ _ _ _ 27 _ _ _ _
    refine w_call1 [.ref 79, .int (i32 (v1 - 1))] [.int (i32 x3)] (by omega) rfl rfl rfl rfl rfl rfl (Nat.le_of_ble_eq_true rfl) (fun z => by cases z) (Nat.le_of_ble_eq_true rfl) rfl rfl (s_r_checked (by omega) rfl) (fun r4 m5 => ?_)
    refine w_icmp_ne (tg := 56) rfl rfl rfl rfl ?_ ?_
    · refine w_iconst rfl ?_
      exact w_retv rfl rfl
    · refine w_sipush rfl rfl ?_
      refine w_aload_n rfl rfl ?_
      refine w_gfr (r := 79) rfl rfl (Nat.le_of_ble_eq_true rfl) rfl rfl ?_
      refine w_iconst rfl ?_
      refine w_iaload rfl rfl (fun x6 => ?_)
      show xw _ _ _ _ 42 _ _ _ _
      refine w_imul rfl ?_
      refine w_aload_n rfl rfl ?_
      refine w_gfr (r := 79) rfl rfl (Nat.le_of_ble_eq_true rfl) rfl rfl ?_
      refine w_iconst rfl ?_
      refine w_iaload rfl rfl (fun x7 => ?_)
      refine w_iadd rfl ?_
      show xw _ _ _ _ 50 _ _ _ _
      refine w_sipush rfl rfl ?_
      refine w_icmp_le (tg := 58) rfl rfl rfl rfl ?_ ?_
      · refine w_iconst rfl ?_
        refine w_istore_n (lsd := [(2, .int (i32 0)), (0, .ref 78), (1, .int (i32 v1))]) rfl (Nat.le_of_ble_eq_true rfl) rfl ?_
        exact w_weak [(0, .ref 78), (2, .int (i32 0))] rfl ⟨rfl, rfl, trivial⟩ (s_r_isImage_60 (by omega) _)
      · refine w_iconst rfl ?_
        exact w_retv rfl rfl
theorem s_r_on_115 {d : Nat} (hd : 2 ≤ d) {m : xm} : xw (am_E L xs bz) d am_m306 1 115 [(0, .ref 78)] [] m (r_on_115 m) := by
  unfold r_on_115
  refine w_aload_n rfl rfl ?_
  refine w_gfr (r := 110) rfl rfl (Nat.le_of_ble_eq_true rfl) rfl rfl ?_
  refine w_bipush rfl rfl ?_
  refine w_iconst rfl ?_
  refine w_iastore rfl rfl (fun m1 => ?_)
  show xw _ _ _ _ 123 _ _ _ _
  refine w_aload_n rfl rfl ?_
  refine w_iconst rfl ?_
  refine w_pfi rfl rfl (Nat.le_of_ble_eq_true rfl) rfl rfl rfl (fun m2 => ?_)
  refine w_iconst rfl ?_
  exact w_retv rfl rfl
theorem s_r_on_62 {d : Nat} (hd : 2 ≤ d) : ∀ (n : Nat) {v2 : Int} {m : xm}, xw (am_E L xs bz) d am_m306 1 62 [(0, .ref 78), (2, .int (i32 v2))] [] m (r_on_62 n v2 m) := by
  intro n
  induction n with
  | zero => intros; exact w_none
  | succ n ih =>
    intro v2 m
    have hk62 := fun (v2 : Int) (m : xm) => @ih v2 m
    unfold r_on_62
    refine w_iload_n rfl rfl ?_
    refine w_aload_n rfl rfl ?_
    refine w_call1 [.ref 78] [.int (i32 v2)] (by omega) rfl rfl rfl rfl rfl rfl (Nat.le_of_ble_eq_true rfl) (fun _ => xrc_ok rfl) (Nat.le_of_ble_eq_true rfl) rfl rfl (s_r_lockMany (by omega)) (fun r1 m2 => ?_)
    refine w_icmp_ge (tg := 115) rfl rfl rfl rfl ?_ ?_
    · exact w_weak [(0, .ref 78)] rfl ⟨rfl, trivial⟩ (s_r_on_115 (by omega))
    · refine w_aload_n rfl rfl ?_
      refine w_gfr (r := 110) rfl rfl (Nat.le_of_ble_eq_true rfl) rfl rfl ?_
      refine w_iconst rfl ?_
      refine w_iload_n rfl rfl ?_
      refine w_iadd rfl ?_
      show xw _ _ _ _ 77 _ _ _ _
      refine w_aload_n rfl rfl ?_
      refine w_gfr (r := 79) rfl rfl (Nat.le_of_ble_eq_true rfl) rfl rfl ?_
      refine w_iconst rfl ?_
      refine w_iconst rfl ?_
      refine w_iload_n rfl rfl ?_
      refine w_imul rfl ?_
      show xw _ _ _ _ 85 _ _ _ _
      refine w_iadd rfl ?_
      refine w_iaload rfl rfl (fun x3 => ?_)
      refine w_iastore rfl rfl (fun m4 => ?_)
      refine w_aload_n rfl rfl ?_
      refine w_gfr (r := 110) rfl rfl (Nat.le_of_ble_eq_true rfl) rfl rfl ?_
      refine w_iconst rfl ?_
      show xw _ _ _ _ 93 _ _ _ _
      refine w_dup2 rfl rfl rfl ?_
      refine w_iaload rfl rfl (fun x5 => ?_)
      refine w_aload_n rfl rfl ?_
      refine w_gfr (r := 79) rfl rfl (Nat.le_of_ble_eq_true rfl) rfl rfl ?_
      refine w_iconst rfl ?_
      refine w_iconst rfl ?_
      show xw _ _ _ _ 101 _ _ _ _
      refine w_iload_n rfl rfl ?_
      refine w_imul rfl ?_
      refine w_iadd rfl ?_
      refine w_iaload rfl rfl (fun x6 => ?_)
      refine w_iload_n rfl rfl ?_
      refine w_ishl rfl ?_
      show xw _ _ _ _ 107 _ _ _ _
      refine w_ior rfl ?_
      refine w_iastore rfl rfl (fun m7 => ?_)
      refine w_iinc (lsd := [(2, .int (i32 (v2 + 1))), (0, .ref 78)]) rfl (Nat.le_of_ble_eq_true rfl) rfl rfl ?_
      refine w_goto (tg := 62) rfl rfl ?_
      exact w_weak [(0, .ref 78), (2, .int (i32 (v2 + 1)))] rfl ⟨rfl, rfl, trivial⟩ (hk62 (v2 + 1) m7)
theorem s_r_on {d : Nat} {m : xm} (hd : 2 ≤ d) : xw (am_E L xs bz) d am_m306 1 0 [(0, .ref 78)] [] m (r_on m) := by
  unfold r_on
  refine w_aload_n rfl rfl ?_
  refine w_gfi rfl rfl (Nat.le_of_ble_eq_true rfl) rfl rfl ?_
  refine w_istore_n (lsd := [(1, .int (i32 (ld m 78 1))), (0, .ref 78)]) rfl (Nat.le_of_ble_eq_true rfl) rfl ?_
  refine w_aload_n rfl rfl ?_
  refine w_iconst rfl ?_
  show xw _ _ _ _ 7 _ _ _ _
  refine w_pfi rfl rfl (Nat.le_of_ble_eq_true rfl) rfl rfl rfl (fun m1 => ?_)
  refine w_aload_n rfl rfl ?_
  refine w_iload_n rfl rfl ?_
  refine w_call1 [.ref 78, .int (i32 (ld m 78 1))] [] (by omega) rfl rfl rfl rfl rfl rfl (Nat.le_of_ble_eq_true rfl) (fun _ => xrc_ok rfl) (Nat.le_of_ble_eq_true rfl) rfl rfl (s_r_isImage (by omega)) (fun r2 m3 => ?_)
  refine w_if_ne (tg := 30) rfl rfl rfl ?_ ?_
  · refine w_aload_n rfl rfl ?_
    refine w_gfr (r := 110) rfl rfl (Nat.le_of_ble_eq_true rfl) rfl rfl ?_
    refine w_iconst rfl ?_
    refine w_sipush rfl rfl ?_
    refine w_aload_n rfl rfl ?_
    show xw _ _ _ _ 39 _ _ _ _
    refine w_gfr (r := 79) rfl rfl (Nat.le_of_ble_eq_true rfl) rfl rfl ?_
    refine w_iconst rfl ?_
    refine w_iaload rfl rfl (fun x4 => ?_)
    refine w_imul rfl ?_
    refine w_aload_n rfl rfl ?_
    refine w_gfr (r := 79) rfl rfl (Nat.le_of_ble_eq_true rfl) rfl rfl ?_
    show xw _ _ _ _ 49 _ _ _ _
    refine w_iconst rfl ?_
    refine w_iaload rfl rfl (fun x5 => ?_)
    refine w_iadd rfl ?_
    refine w_iastore rfl rfl (fun m6 => ?_)
    refine w_aload_n rfl rfl ?_
    refine w_gfr (r := 110) rfl rfl (Nat.le_of_ble_eq_true rfl) rfl rfl ?_
    show xw _ _ _ _ 57 _ _ _ _
    refine w_iconst rfl ?_
    refine w_iconst rfl ?_
    refine w_iastore rfl rfl (fun m7 => ?_)
    refine w_iconst rfl ?_
    refine w_istore_n (lsd := [(2, .int (i32 0)), (1, .int (i32 (ld m 78 1))), (0, .ref 78)]) rfl (Nat.le_of_ble_eq_true rfl) rfl ?_
    exact w_weak [(0, .ref 78), (2, .int (i32 0))] rfl ⟨rfl, rfl, trivial⟩ (s_r_on_62 (by omega) _)
  · refine w_aload_n rfl rfl ?_
    refine w_gfr (r := 80) rfl rfl (Nat.le_of_ble_eq_true rfl) rfl rfl ?_
    refine w_iconst rfl ?_
    refine w_dup2 rfl rfl rfl ?_
    refine w_iaload rfl rfl (fun x8 => ?_)
    show xw _ _ _ _ 25 _ _ _ _
    refine w_iconst rfl ?_
    refine w_iadd rfl ?_
    refine w_iastore rfl rfl (fun m9 => ?_)
    refine w_iconst rfl ?_
    exact w_retv rfl rfl
theorem s_r_status {d : Nat} {v1 : Int} {m : xm} (hd : 1 ≤ d) : xw (am_E L xs bz) d am_m308 1 0 [(0, .ref 78), (1, .int (i32 v1))] [] m (r_status v1 m) := by
  unfold r_status
  refine w_iload_n rfl rfl ?_
  refine w_i2l (x' := w32 v1) rfl rfl ?_
  refine w_lconst (z := 0) rfl rfl ?_
  refine w_ldc2w (z := 5) rfl rfl rfl ?_
  refine w_call1 [.long (i64 (w32 v1)), .long (i64 0), .long (i64 5)] [] (by omega) rfl rfl rfl rfl rfl rfl (Nat.le_of_ble_eq_true rfl) (fun z => by cases z) (Nat.le_of_ble_eq_true rfl) rfl rfl (s_r_isIn (by omega)) (fun r1 m2 => ?_)
  show xw _ _ _ _ 9 _ _ _ _
  refine w_if_eq (tg := 21) rfl rfl rfl ?_ ?_
  · refine w_iconst rfl ?_
    exact w_retv rfl rfl
  · refine w_aload_n rfl rfl ?_
    refine w_gfr (r := 80) rfl rfl (Nat.le_of_ble_eq_true rfl) rfl rfl ?_
    refine w_iload_n rfl rfl ?_
    refine w_iaload rfl rfl (fun x3 => ?_)
    refine w_goto (tg := 22) rfl rfl ?_
    show xw _ _ _ _ 22 _ _ _ _
    exact w_retv rfl rfl
set_option maxRecDepth 100000 in
theorem s_lw_law_967 {d : Nat} {k18 : Int → xm → xr} (hd : 144 ≤ d) (hk18 : ∀ (v3 : Int) (m : xm), xw (am_E L xs bz) d am_mL 1 18 [(0, .ref 2000001), (1, .ref 0), (2, .ref 78), (3, .int (i32 v3))] [] m (k18 v3 m)) {v3 : Int} {m : xm} : xw (am_E L xs bz) d am_mL 1 967 [(0, .ref 2000001), (1, .ref 0), (2, .ref 78), (3, .int (i32 v3))] [] m (lw_law_967 L xs k18 v3 m) := by
  unfold lw_law_967
  refine w_iinc (lsd := [(3, .int (i32 (v3 + 6))), (0, .ref 2000001), (1, .ref 0), (2, .ref 78)]) rfl (Nat.le_of_ble_eq_true rfl) rfl rfl ?_
  refine w_goto (tg := 18) rfl rfl ?_
  exact w_weak [(0, .ref 2000001), (1, .ref 0), (2, .ref 78), (3, .int (i32 (v3 + 6)))] rfl ⟨rfl, rfl, rfl, rfl, trivial⟩ (hk18 (v3 + 6) m)
set_option maxRecDepth 100000 in
theorem s_lw_law_18 {d : Nat} (hd : 144 ≤ d) : ∀ (n : Nat) {v3 : Int} {m : xm}, xw (am_E L xs bz) d am_mL 1 18 [(0, .ref 2000001), (1, .ref 0), (2, .ref 78), (3, .int (i32 v3))] [] m (lw_law_18 L xs n v3 m) := by
  intro n
  induction n with
  | zero => intros; exact w_none
  | succ n ih =>
    intro v3 m
    have hk18 := fun (v3 : Int) (m : xm) => @ih v3 m
    unfold lw_law_18
    refine w_iload_n rfl rfl ?_
    refine w_aload_n rfl rfl ?_
    refine w_xlen rfl ?_
    refine w_bipush rfl rfl ?_
    refine w_isub rfl ?_
    show xw _ _ _ _ 24 _ _ _ _
    refine w_icmp_gt (tg := 973) rfl rfl rfl rfl ?_ ?_
    · refine w_iconst rfl ?_
      exact w_retv rfl rfl
    · refine w_aload_n rfl rfl ?_
      refine w_iload_n rfl rfl ?_
      refine w_xload rfl (fun x1 => ?_)
      refine w_bipush rfl rfl ?_
      refine w_iand rfl ?_
      show xw _ _ _ _ 33 _ _ _ _
      refine w_tsw (t0 := 967) (fs := [151, 214, 237, 250, 273, 296, 339, 372, 405, 428, 451, 484, 497, 520, 553, 576, 589, 612, 625, 648, 671, 684, 707, 730, 753, 766, 789, 812, 825, 848, 862, 875, 898, 911]) rfl (w32_of _) rfl rfl rfl ?_ ?_
      · exact w_weak [(0, .ref 2000001), (1, .ref 0), (2, .ref 78), (3, .int (i32 v3))] rfl ⟨rfl, rfl, rfl, rfl, trivial⟩ (s_lw_law_967 (by omega) hk18)
      · refine ⟨⟨184, rfl, ?_⟩, ⟨247, rfl, ?_⟩, ⟨270, rfl, ?_⟩, ⟨283, rfl, ?_⟩, ⟨306, rfl, ?_⟩, ⟨329, rfl, ?_⟩, ⟨372, rfl, ?_⟩, ⟨405, rfl, ?_⟩, ⟨438, rfl, ?_⟩, ⟨461, rfl, ?_⟩, ⟨484, rfl, ?_⟩, ⟨517, rfl, ?_⟩, ⟨530, rfl, ?_⟩, ⟨553, rfl, ?_⟩, ⟨586, rfl, ?_⟩, ⟨609, rfl, ?_⟩, ⟨622, rfl, ?_⟩, ⟨645, rfl, ?_⟩, ⟨658, rfl, ?_⟩, ⟨681, rfl, ?_⟩, ⟨704, rfl, ?_⟩, ⟨717, rfl, ?_⟩, ⟨740, rfl, ?_⟩, ⟨763, rfl, ?_⟩, ⟨786, rfl, ?_⟩, ⟨799, rfl, ?_⟩, ⟨822, rfl, ?_⟩, ⟨845, rfl, ?_⟩, ⟨858, rfl, ?_⟩, ⟨881, rfl, ?_⟩, ⟨895, rfl, ?_⟩, ⟨908, rfl, ?_⟩, ⟨931, rfl, ?_⟩, ⟨944, rfl, ?_⟩, trivial⟩
        · refine w_aload_n rfl rfl ?_
          refine w_aload_n rfl rfl ?_
          refine w_iload_n rfl rfl ?_
          refine w_iconst rfl ?_
          refine w_iadd rfl ?_
          show xw _ _ _ _ 189 _ _ _ _
          refine w_xload rfl (fun x2 => ?_)
          refine w_aload_n rfl rfl ?_
          refine w_iload_n rfl rfl ?_
          refine w_iconst rfl ?_
          refine w_iadd rfl ?_
          refine w_xload rfl (fun x3 => ?_)
          show xw _ _ _ _ 195 _ _ _ _
          refine w_aload_n rfl rfl ?_
          refine w_iload_n rfl rfl ?_
          refine w_iconst rfl ?_
          refine w_iadd rfl ?_
          refine w_xload rfl (fun x4 => ?_)
          refine w_aload_n rfl rfl ?_
          show xw _ _ _ _ 201 _ _ _ _
          refine w_iload_n rfl rfl ?_
          refine w_iconst rfl ?_
          refine w_iadd rfl ?_
          refine w_xload rfl (fun x5 => ?_)
          refine w_aload_n rfl rfl ?_
          refine w_iload_n rfl rfl ?_
          show xw _ _ _ _ 207 _ _ _ _
          refine w_iconst rfl ?_
          refine w_iadd rfl ?_
          refine w_xload rfl (fun x6 => ?_)
          refine w_call1 [.ref 0, .int (i32 x2), .int (i32 x3), .int (i32 x4), .int (i32 x5), .int (i32 x6)] [] (by omega) rfl rfl rfl rfl rfl rfl (Nat.le_of_ble_eq_true rfl) (fun _ => xrc_ok rfl) (Nat.le_of_ble_eq_true rfl) rfl rfl (s_cL_feed (by omega)) (fun r7 m8 => ?_)
          refine w_aload_n rfl rfl ?_
          refine w_aload_n rfl rfl ?_
          show xw _ _ _ _ 215 _ _ _ _
          refine w_iload_n rfl rfl ?_
          refine w_iconst rfl ?_
          refine w_iadd rfl ?_
          refine w_xload rfl (fun x9 => ?_)
          refine w_aload_n rfl rfl ?_
          refine w_iload_n rfl rfl ?_
          show xw _ _ _ _ 221 _ _ _ _
          refine w_iconst rfl ?_
          refine w_iadd rfl ?_
          refine w_xload rfl (fun x10 => ?_)
          refine w_aload_n rfl rfl ?_
          refine w_iload_n rfl rfl ?_
          refine w_iconst rfl ?_
          show xw _ _ _ _ 227 _ _ _ _
          refine w_iadd rfl ?_
          refine w_xload rfl (fun x11 => ?_)
          refine w_aload_n rfl rfl ?_
          refine w_iload_n rfl rfl ?_
          refine w_iconst rfl ?_
          refine w_iadd rfl ?_
          show xw _ _ _ _ 233 _ _ _ _
          refine w_xload rfl (fun x12 => ?_)
          refine w_aload_n rfl rfl ?_
          refine w_iload_n rfl rfl ?_
          refine w_iconst rfl ?_
          refine w_iadd rfl ?_
          refine w_xload rfl (fun x13 => ?_)
          show xw _ _ _ _ 239 _ _ _ _
          refine w_call1 [.ref 78, .int (i32 x9), .int (i32 x10), .int (i32 x11), .int (i32 x12), .int (i32 x13)] [.int (i32 r7)] (by omega) rfl rfl rfl rfl rfl rfl (Nat.le_of_ble_eq_true rfl) (fun _ => xrc_ok rfl) (Nat.le_of_ble_eq_true rfl) rfl rfl (s_r_feed (by omega)) (fun r14 m15 => ?_)
          refine w_icmp_eq (tg := 967) rfl rfl rfl rfl ?_ ?_
          · exact w_weak [(0, .ref 2000001), (1, .ref 0), (2, .ref 78), (3, .int (i32 v3))] rfl ⟨rfl, rfl, rfl, rfl, trivial⟩ (s_lw_law_967 (by omega) hk18)
          · refine w_iconst rfl ?_
            exact w_retv rfl rfl
        · refine w_aload_n rfl rfl ?_
          refine w_aload_n rfl rfl ?_
          refine w_iload_n rfl rfl ?_
          refine w_iconst rfl ?_
          refine w_iadd rfl ?_
          show xw _ _ _ _ 252 _ _ _ _
          refine w_xload rfl (fun x16 => ?_)
          refine w_call1 [.ref 0, .int (i32 x16)] [] (by omega) rfl rfl rfl rfl rfl rfl (Nat.le_of_ble_eq_true rfl) (fun _ => xrc_ok rfl) (Nat.le_of_ble_eq_true rfl) rfl rfl (s_cL_end (by omega)) (fun r17 m18 => ?_)
          refine w_aload_n rfl rfl ?_
          refine w_aload_n rfl rfl ?_
          refine w_iload_n rfl rfl ?_
          refine w_iconst rfl ?_
          show xw _ _ _ _ 260 _ _ _ _
          refine w_iadd rfl ?_
          refine w_xload rfl (fun x19 => ?_)
          refine w_call1 [.ref 78, .int (i32 x19)] [.int (i32 r17)] (by omega) rfl rfl rfl rfl rfl rfl (Nat.le_of_ble_eq_true rfl) (fun _ => xrc_ok rfl) (Nat.le_of_ble_eq_true rfl) rfl rfl (s_r_end (by omega)) (fun r20 m21 => ?_)
          refine w_icmp_eq (tg := 967) rfl rfl rfl rfl ?_ ?_
          · exact w_weak [(0, .ref 2000001), (1, .ref 0), (2, .ref 78), (3, .int (i32 v3))] rfl ⟨rfl, rfl, rfl, rfl, trivial⟩ (s_lw_law_967 (by omega) hk18)
          · refine w_iconst rfl ?_
            exact w_retv rfl rfl
        · refine w_aload_n rfl rfl ?_
          refine w_call1 [.ref 0] [] (by omega) rfl rfl rfl rfl rfl rfl (Nat.le_of_ble_eq_true rfl) (fun _ => xrc_ok rfl) (Nat.le_of_ble_eq_true rfl) rfl rfl (s_cL_hall (by omega)) (fun r22 m23 => ?_)
          refine w_aload_n rfl rfl ?_
          refine w_call1 [.ref 78] [.int (i32 r22)] (by omega) rfl rfl rfl rfl rfl rfl (Nat.le_of_ble_eq_true rfl) (fun _ => xrc_ok rfl) (Nat.le_of_ble_eq_true rfl) rfl rfl (s_r_hall (by omega)) (fun r24 m25 => ?_)
          refine w_icmp_eq (tg := 967) rfl rfl rfl rfl ?_ ?_
          · exact w_weak [(0, .ref 2000001), (1, .ref 0), (2, .ref 78), (3, .int (i32 v3))] rfl ⟨rfl, rfl, rfl, rfl, trivial⟩ (s_lw_law_967 (by omega) hk18)
          · refine w_iconst rfl ?_
            exact w_retv rfl rfl
        · refine w_aload_n rfl rfl ?_
          refine w_aload_n rfl rfl ?_
          refine w_iload_n rfl rfl ?_
          refine w_iconst rfl ?_
          refine w_iadd rfl ?_
          show xw _ _ _ _ 288 _ _ _ _
          refine w_xload rfl (fun x26 => ?_)
          refine w_call1 [.ref 0, .int (i32 x26)] [] (by omega) rfl rfl rfl rfl rfl rfl (Nat.le_of_ble_eq_true rfl) (fun _ => xrc_ok rfl) (Nat.le_of_ble_eq_true rfl) rfl rfl (s_cL_fault (by omega)) (fun r27 m28 => ?_)
          refine w_aload_n rfl rfl ?_
          refine w_aload_n rfl rfl ?_
          refine w_iload_n rfl rfl ?_
          refine w_iconst rfl ?_
          show xw _ _ _ _ 296 _ _ _ _
          refine w_iadd rfl ?_
          refine w_xload rfl (fun x29 => ?_)
          refine w_call1 [.ref 78, .int (i32 x29)] [.int (i32 r27)] (by omega) rfl rfl rfl rfl rfl rfl (Nat.le_of_ble_eq_true rfl) (fun _ => xrc_ok rfl) (Nat.le_of_ble_eq_true rfl) rfl rfl (s_r_fault (by omega)) (fun r30 m31 => ?_)
          refine w_icmp_eq (tg := 967) rfl rfl rfl rfl ?_ ?_
          · exact w_weak [(0, .ref 2000001), (1, .ref 0), (2, .ref 78), (3, .int (i32 v3))] rfl ⟨rfl, rfl, rfl, rfl, trivial⟩ (s_lw_law_967 (by omega) hk18)
          · refine w_iconst rfl ?_
            exact w_retv rfl rfl
        · refine w_aload_n rfl rfl ?_
          refine w_aload_n rfl rfl ?_
          refine w_iload_n rfl rfl ?_
          refine w_iconst rfl ?_
          refine w_iadd rfl ?_
          show xw _ _ _ _ 311 _ _ _ _
          refine w_xload rfl (fun x32 => ?_)
          refine w_call1 [.ref 0, .int (i32 x32)] [] (by omega) rfl rfl rfl rfl rfl rfl (Nat.le_of_ble_eq_true rfl) (fun _ => xrc_ok rfl) (Nat.le_of_ble_eq_true rfl) rfl rfl (s_cL_has (by omega)) (fun r33 m34 => ?_)
          refine w_aload_n rfl rfl ?_
          refine w_aload_n rfl rfl ?_
          refine w_iload_n rfl rfl ?_
          refine w_iconst rfl ?_
          show xw _ _ _ _ 319 _ _ _ _
          refine w_iadd rfl ?_
          refine w_xload rfl (fun x35 => ?_)
          refine w_call1 [.ref 78, .int (i32 x35)] [.int (i32 r33)] (by omega) rfl rfl rfl rfl rfl rfl (Nat.le_of_ble_eq_true rfl) (fun _ => xrc_ok rfl) (Nat.le_of_ble_eq_true rfl) rfl rfl (s_r_has (by omega)) (fun r36 m37 => ?_)
          refine w_icmp_eq (tg := 967) rfl rfl rfl rfl ?_ ?_
          · exact w_weak [(0, .ref 2000001), (1, .ref 0), (2, .ref 78), (3, .int (i32 v3))] rfl ⟨rfl, rfl, rfl, rfl, trivial⟩ (s_lw_law_967 (by omega) hk18)
          · refine w_iconst rfl ?_
            exact w_retv rfl rfl
        · refine w_aload_n rfl rfl ?_
          refine w_aload_n rfl rfl ?_
          refine w_iload_n rfl rfl ?_
          refine w_iconst rfl ?_
          refine w_iadd rfl ?_
          show xw _ _ _ _ 334 _ _ _ _
          refine w_xload rfl (fun x38 => ?_)
          refine w_aload_n rfl rfl ?_
          refine w_iload_n rfl rfl ?_
          refine w_iconst rfl ?_
          refine w_iadd rfl ?_
          refine w_xload rfl (fun x39 => ?_)
          show xw _ _ _ _ 340 _ _ _ _
          refine w_aload_n rfl rfl ?_
          refine w_iload_n rfl rfl ?_
          refine w_iconst rfl ?_
          refine w_iadd rfl ?_
          refine w_xload rfl (fun x40 => ?_)
          refine w_call1 [.ref 0, .int (i32 x38), .int (i32 x39), .int (i32 x40)] [] (by omega) rfl rfl rfl rfl rfl rfl (Nat.le_of_ble_eq_true rfl) (fun _ => xrc_ok rfl) (Nat.le_of_ble_eq_true rfl) rfl rfl (s_cL_letter (by omega)) (fun r41 m42 => ?_)
          show xw _ _ _ _ 348 _ _ _ _
          refine w_aload_n rfl rfl ?_
          refine w_aload_n rfl rfl ?_
          refine w_iload_n rfl rfl ?_
          refine w_iconst rfl ?_
          refine w_iadd rfl ?_
          refine w_xload rfl (fun x43 => ?_)
          show xw _ _ _ _ 354 _ _ _ _
          refine w_aload_n rfl rfl ?_
          refine w_iload_n rfl rfl ?_
          refine w_iconst rfl ?_
          refine w_iadd rfl ?_
          refine w_xload rfl (fun x44 => ?_)
          refine w_aload_n rfl rfl ?_
          show xw _ _ _ _ 360 _ _ _ _
          refine w_iload_n rfl rfl ?_
          refine w_iconst rfl ?_
          refine w_iadd rfl ?_
          refine w_xload rfl (fun x45 => ?_)
          refine w_call1 [.ref 78, .int (i32 x43), .int (i32 x44), .int (i32 x45)] [.int (i32 r41)] (by omega) rfl rfl rfl rfl rfl rfl (Nat.le_of_ble_eq_true rfl) (fun _ => xrc_ok rfl) (Nat.le_of_ble_eq_true rfl) rfl rfl (s_r_letter (by omega)) (fun r46 m47 => ?_)
          refine w_icmp_eq (tg := 967) rfl rfl rfl rfl ?_ ?_
          · exact w_weak [(0, .ref 2000001), (1, .ref 0), (2, .ref 78), (3, .int (i32 v3))] rfl ⟨rfl, rfl, rfl, rfl, trivial⟩ (s_lw_law_967 (by omega) hk18)
          · refine w_iconst rfl ?_
            exact w_retv rfl rfl
        · refine w_aload_n rfl rfl ?_
          refine w_aload_n rfl rfl ?_
          refine w_iload_n rfl rfl ?_
          refine w_iconst rfl ?_
          refine w_iadd rfl ?_
          show xw _ _ _ _ 377 _ _ _ _
          refine w_xload rfl (fun x48 => ?_)
          refine w_aload_n rfl rfl ?_
          refine w_iload_n rfl rfl ?_
          refine w_iconst rfl ?_
          refine w_iadd rfl ?_
          refine w_xload rfl (fun x49 => ?_)
          show xw _ _ _ _ 383 _ _ _ _
          refine w_call1 [.ref 0, .int (i32 x48), .int (i32 x49)] [] (by omega) rfl rfl rfl rfl rfl rfl (Nat.le_of_ble_eq_true rfl) (fun _ => xrc_ok rfl) (Nat.le_of_ble_eq_true rfl) rfl rfl (s_cL_lock (by omega)) (fun r50 m51 => ?_)
          refine w_aload_n rfl rfl ?_
          refine w_aload_n rfl rfl ?_
          refine w_iload_n rfl rfl ?_
          refine w_iconst rfl ?_
          refine w_iadd rfl ?_
          show xw _ _ _ _ 391 _ _ _ _
          refine w_xload rfl (fun x52 => ?_)
          refine w_aload_n rfl rfl ?_
          refine w_iload_n rfl rfl ?_
          refine w_iconst rfl ?_
          refine w_iadd rfl ?_
          refine w_xload rfl (fun x53 => ?_)
          show xw _ _ _ _ 397 _ _ _ _
          refine w_call1 [.ref 78, .int (i32 x52), .int (i32 x53)] [.int (i32 r50)] (by omega) rfl rfl rfl rfl rfl rfl (Nat.le_of_ble_eq_true rfl) (fun _ => xrc_ok rfl) (Nat.le_of_ble_eq_true rfl) rfl rfl (s_r_lock (by omega)) (fun r54 m55 => ?_)
          refine w_icmp_eq (tg := 967) rfl rfl rfl rfl ?_ ?_
          · exact w_weak [(0, .ref 2000001), (1, .ref 0), (2, .ref 78), (3, .int (i32 v3))] rfl ⟨rfl, rfl, rfl, rfl, trivial⟩ (s_lw_law_967 (by omega) hk18)
          · refine w_iconst rfl ?_
            exact w_retv rfl rfl
        · refine w_aload_n rfl rfl ?_
          refine w_aload_n rfl rfl ?_
          refine w_iload_n rfl rfl ?_
          refine w_iconst rfl ?_
          refine w_iadd rfl ?_
          show xw _ _ _ _ 410 _ _ _ _
          refine w_xload rfl (fun x56 => ?_)
          refine w_aload_n rfl rfl ?_
          refine w_iload_n rfl rfl ?_
          refine w_iconst rfl ?_
          refine w_iadd rfl ?_
          refine w_xload rfl (fun x57 => ?_)
          show xw _ _ _ _ 416 _ _ _ _
          refine w_call1 [.ref 0, .int (i32 x56), .int (i32 x57)] [] (by omega) rfl rfl rfl rfl rfl rfl (Nat.le_of_ble_eq_true rfl) (fun _ => xrc_ok rfl) (Nat.le_of_ble_eq_true rfl) rfl rfl (s_cL_note (by omega)) (fun r58 m59 => ?_)
          refine w_aload_n rfl rfl ?_
          refine w_aload_n rfl rfl ?_
          refine w_iload_n rfl rfl ?_
          refine w_iconst rfl ?_
          refine w_iadd rfl ?_
          show xw _ _ _ _ 424 _ _ _ _
          refine w_xload rfl (fun x60 => ?_)
          refine w_aload_n rfl rfl ?_
          refine w_iload_n rfl rfl ?_
          refine w_iconst rfl ?_
          refine w_iadd rfl ?_
          refine w_xload rfl (fun x61 => ?_)
          show xw _ _ _ _ 430 _ _ _ _
          refine w_call1 [.ref 78, .int (i32 x60), .int (i32 x61)] [.int (i32 r58)] (by omega) rfl rfl rfl rfl rfl rfl (Nat.le_of_ble_eq_true rfl) (fun _ => xrc_ok rfl) (Nat.le_of_ble_eq_true rfl) rfl rfl (s_r_note (by omega)) (fun r62 m63 => ?_)
          refine w_icmp_eq (tg := 967) rfl rfl rfl rfl ?_ ?_
          · exact w_weak [(0, .ref 2000001), (1, .ref 0), (2, .ref 78), (3, .int (i32 v3))] rfl ⟨rfl, rfl, rfl, rfl, trivial⟩ (s_lw_law_967 (by omega) hk18)
          · refine w_iconst rfl ?_
            exact w_retv rfl rfl
        · refine w_aload_n rfl rfl ?_
          refine w_aload_n rfl rfl ?_
          refine w_iload_n rfl rfl ?_
          refine w_iconst rfl ?_
          refine w_iadd rfl ?_
          show xw _ _ _ _ 443 _ _ _ _
          refine w_xload rfl (fun x64 => ?_)
          refine w_call1 [.ref 0, .int (i32 x64)] [] (by omega) rfl rfl rfl rfl rfl rfl (Nat.le_of_ble_eq_true rfl) (fun _ => xrc_ok rfl) (Nat.le_of_ble_eq_true rfl) rfl rfl (s_cL_door (by omega)) (fun r65 m66 => ?_)
          refine w_aload_n rfl rfl ?_
          refine w_aload_n rfl rfl ?_
          refine w_iload_n rfl rfl ?_
          refine w_iconst rfl ?_
          show xw _ _ _ _ 451 _ _ _ _
          refine w_iadd rfl ?_
          refine w_xload rfl (fun x67 => ?_)
          refine w_call1 [.ref 78, .int (i32 x67)] [.int (i32 r65)] (by omega) rfl rfl rfl rfl rfl rfl (Nat.le_of_ble_eq_true rfl) (fun _ => xrc_ok rfl) (Nat.le_of_ble_eq_true rfl) rfl rfl (s_r_door (by omega)) (fun r68 m69 => ?_)
          refine w_icmp_eq (tg := 967) rfl rfl rfl rfl ?_ ?_
          · exact w_weak [(0, .ref 2000001), (1, .ref 0), (2, .ref 78), (3, .int (i32 v3))] rfl ⟨rfl, rfl, rfl, rfl, trivial⟩ (s_lw_law_967 (by omega) hk18)
          · refine w_iconst rfl ?_
            exact w_retv rfl rfl
        · refine w_aload_n rfl rfl ?_
          refine w_aload_n rfl rfl ?_
          refine w_iload_n rfl rfl ?_
          refine w_iconst rfl ?_
          refine w_iadd rfl ?_
          show xw _ _ _ _ 466 _ _ _ _
          refine w_xload rfl (fun x70 => ?_)
          refine w_call1 [.ref 0, .int (i32 x70)] [] (by omega) rfl rfl rfl rfl rfl rfl (Nat.le_of_ble_eq_true rfl) (fun _ => xrc_ok rfl) (Nat.le_of_ble_eq_true rfl) rfl rfl (s_cL_player (by omega)) (fun r71 m72 => ?_)
          refine w_aload_n rfl rfl ?_
          refine w_aload_n rfl rfl ?_
          refine w_iload_n rfl rfl ?_
          refine w_iconst rfl ?_
          show xw _ _ _ _ 474 _ _ _ _
          refine w_iadd rfl ?_
          refine w_xload rfl (fun x73 => ?_)
          refine w_call1 [.ref 78, .int (i32 x73)] [.int (i32 r71)] (by omega) rfl rfl rfl rfl rfl rfl (Nat.le_of_ble_eq_true rfl) (fun _ => xrc_ok rfl) (Nat.le_of_ble_eq_true rfl) rfl rfl (s_r_player (by omega)) (fun r74 m75 => ?_)
          refine w_icmp_eq (tg := 967) rfl rfl rfl rfl ?_ ?_
          · exact w_weak [(0, .ref 2000001), (1, .ref 0), (2, .ref 78), (3, .int (i32 v3))] rfl ⟨rfl, rfl, rfl, rfl, trivial⟩ (s_lw_law_967 (by omega) hk18)
          · refine w_iconst rfl ?_
            exact w_retv rfl rfl
        · refine w_aload_n rfl rfl ?_
          refine w_aload_n rfl rfl ?_
          refine w_iload_n rfl rfl ?_
          refine w_iconst rfl ?_
          refine w_iadd rfl ?_
          show xw _ _ _ _ 489 _ _ _ _
          refine w_xload rfl (fun x76 => ?_)
          refine w_aload_n rfl rfl ?_
          refine w_iload_n rfl rfl ?_
          refine w_iconst rfl ?_
          refine w_iadd rfl ?_
          refine w_xload rfl (fun x77 => ?_)
          show xw _ _ _ _ 495 _ _ _ _
          refine w_call1 [.ref 0, .int (i32 x76), .int (i32 x77)] [] (by omega) rfl rfl rfl rfl rfl rfl (Nat.le_of_ble_eq_true rfl) (fun _ => xrc_ok rfl) (Nat.le_of_ble_eq_true rfl) rfl rfl (s_cL_kept (by omega)) (fun r78 m79 => ?_)
          refine w_aload_n rfl rfl ?_
          refine w_aload_n rfl rfl ?_
          refine w_iload_n rfl rfl ?_
          refine w_iconst rfl ?_
          refine w_iadd rfl ?_
          show xw _ _ _ _ 503 _ _ _ _
          refine w_xload rfl (fun x80 => ?_)
          refine w_aload_n rfl rfl ?_
          refine w_iload_n rfl rfl ?_
          refine w_iconst rfl ?_
          refine w_iadd rfl ?_
          refine w_xload rfl (fun x81 => ?_)
          show xw _ _ _ _ 509 _ _ _ _
          refine w_call1 [.ref 78, .int (i32 x80), .int (i32 x81)] [.int (i32 r78)] (by omega) rfl rfl rfl rfl rfl rfl (Nat.le_of_ble_eq_true rfl) (fun _ => xrc_ok rfl) (Nat.le_of_ble_eq_true rfl) rfl rfl (s_r_kept (by omega)) (fun r82 m83 => ?_)
          refine w_icmp_eq (tg := 967) rfl rfl rfl rfl ?_ ?_
          · exact w_weak [(0, .ref 2000001), (1, .ref 0), (2, .ref 78), (3, .int (i32 v3))] rfl ⟨rfl, rfl, rfl, rfl, trivial⟩ (s_lw_law_967 (by omega) hk18)
          · refine w_iconst rfl ?_
            exact w_retv rfl rfl
        · refine w_aload_n rfl rfl ?_
          refine w_call1 [.ref 0] [] (by omega) rfl rfl rfl rfl rfl rfl (Nat.le_of_ble_eq_true rfl) (fun _ => xrc_ok rfl) (Nat.le_of_ble_eq_true rfl) rfl rfl (s_cL_judge (by omega)) (fun r84 m85 => ?_)
          refine w_aload_n rfl rfl ?_
          refine w_call1 [.ref 78] [.int (i32 r84)] (by omega) rfl rfl rfl rfl rfl rfl (Nat.le_of_ble_eq_true rfl) (fun _ => xrc_ok rfl) (Nat.le_of_ble_eq_true rfl) rfl rfl (s_r_judge (by omega)) (fun r86 m87 => ?_)
          refine w_icmp_eq (tg := 967) rfl rfl rfl rfl ?_ ?_
          · exact w_weak [(0, .ref 2000001), (1, .ref 0), (2, .ref 78), (3, .int (i32 v3))] rfl ⟨rfl, rfl, rfl, rfl, trivial⟩ (s_lw_law_967 (by omega) hk18)
          · refine w_iconst rfl ?_
            exact w_retv rfl rfl
        · refine w_aload_n rfl rfl ?_
          refine w_aload_n rfl rfl ?_
          refine w_iload_n rfl rfl ?_
          refine w_iconst rfl ?_
          refine w_iadd rfl ?_
          show xw _ _ _ _ 535 _ _ _ _
          refine w_xload rfl (fun x88 => ?_)
          refine w_call1 [.ref 0, .int (i32 x88)] [] (by omega) rfl rfl rfl rfl rfl rfl (Nat.le_of_ble_eq_true rfl) (fun _ => xrc_ok rfl) (Nat.le_of_ble_eq_true rfl) rfl rfl (s_cL_judged (by omega)) (fun r89 m90 => ?_)
          refine w_aload_n rfl rfl ?_
          refine w_aload_n rfl rfl ?_
          refine w_iload_n rfl rfl ?_
          refine w_iconst rfl ?_
          show xw _ _ _ _ 543 _ _ _ _
          refine w_iadd rfl ?_
          refine w_xload rfl (fun x91 => ?_)
          refine w_call1 [.ref 78, .int (i32 x91)] [.int (i32 r89)] (by omega) rfl rfl rfl rfl rfl rfl (Nat.le_of_ble_eq_true rfl) (fun _ => xrc_ok rfl) (Nat.le_of_ble_eq_true rfl) rfl rfl (s_r_judged (by omega)) (fun r92 m93 => ?_)
          refine w_icmp_eq (tg := 967) rfl rfl rfl rfl ?_ ?_
          · exact w_weak [(0, .ref 2000001), (1, .ref 0), (2, .ref 78), (3, .int (i32 v3))] rfl ⟨rfl, rfl, rfl, rfl, trivial⟩ (s_lw_law_967 (by omega) hk18)
          · refine w_iconst rfl ?_
            exact w_retv rfl rfl
        · refine w_aload_n rfl rfl ?_
          refine w_aload_n rfl rfl ?_
          refine w_iload_n rfl rfl ?_
          refine w_iconst rfl ?_
          refine w_iadd rfl ?_
          show xw _ _ _ _ 558 _ _ _ _
          refine w_xload rfl (fun x94 => ?_)
          refine w_aload_n rfl rfl ?_
          refine w_iload_n rfl rfl ?_
          refine w_iconst rfl ?_
          refine w_iadd rfl ?_
          refine w_xload rfl (fun x95 => ?_)
          show xw _ _ _ _ 564 _ _ _ _
          refine w_call1 [.ref 0, .int (i32 x94), .int (i32 x95)] [] (by omega) rfl rfl rfl rfl rfl rfl (Nat.le_of_ble_eq_true rfl) (fun _ => xrc_ok rfl) (Nat.le_of_ble_eq_true rfl) rfl rfl (s_cL_shortest (by omega)) (fun r96 m97 => ?_)
          refine w_aload_n rfl rfl ?_
          refine w_aload_n rfl rfl ?_
          refine w_iload_n rfl rfl ?_
          refine w_iconst rfl ?_
          refine w_iadd rfl ?_
          show xw _ _ _ _ 572 _ _ _ _
          refine w_xload rfl (fun x98 => ?_)
          refine w_aload_n rfl rfl ?_
          refine w_iload_n rfl rfl ?_
          refine w_iconst rfl ?_
          refine w_iadd rfl ?_
          refine w_xload rfl (fun x99 => ?_)
          show xw _ _ _ _ 578 _ _ _ _
          refine w_call1 [.ref 78, .int (i32 x98), .int (i32 x99)] [.int (i32 r96)] (by omega) rfl rfl rfl rfl rfl rfl (Nat.le_of_ble_eq_true rfl) (fun _ => xrc_ok rfl) (Nat.le_of_ble_eq_true rfl) rfl rfl (s_r_shortest (by omega)) (fun r100 m101 => ?_)
          refine w_icmp_eq (tg := 967) rfl rfl rfl rfl ?_ ?_
          · exact w_weak [(0, .ref 2000001), (1, .ref 0), (2, .ref 78), (3, .int (i32 v3))] rfl ⟨rfl, rfl, rfl, rfl, trivial⟩ (s_lw_law_967 (by omega) hk18)
          · refine w_iconst rfl ?_
            exact w_retv rfl rfl
        · refine w_aload_n rfl rfl ?_
          refine w_aload_n rfl rfl ?_
          refine w_iload_n rfl rfl ?_
          refine w_iconst rfl ?_
          refine w_iadd rfl ?_
          show xw _ _ _ _ 591 _ _ _ _
          refine w_xload rfl (fun x102 => ?_)
          refine w_call1 [.ref 0, .int (i32 x102)] [] (by omega) rfl rfl rfl rfl rfl rfl (Nat.le_of_ble_eq_true rfl) (fun _ => xrc_ok rfl) (Nat.le_of_ble_eq_true rfl) rfl rfl (s_cL_back (by omega)) (fun r103 m104 => ?_)
          refine w_aload_n rfl rfl ?_
          refine w_aload_n rfl rfl ?_
          refine w_iload_n rfl rfl ?_
          refine w_iconst rfl ?_
          show xw _ _ _ _ 599 _ _ _ _
          refine w_iadd rfl ?_
          refine w_xload rfl (fun x105 => ?_)
          refine w_call1 [.ref 78, .int (i32 x105)] [.int (i32 r103)] (by omega) rfl rfl rfl rfl rfl rfl (Nat.le_of_ble_eq_true rfl) (fun _ => xrc_ok rfl) (Nat.le_of_ble_eq_true rfl) rfl rfl (s_r_back (by omega)) (fun r106 m107 => ?_)
          refine w_icmp_eq (tg := 967) rfl rfl rfl rfl ?_ ?_
          · exact w_weak [(0, .ref 2000001), (1, .ref 0), (2, .ref 78), (3, .int (i32 v3))] rfl ⟨rfl, rfl, rfl, rfl, trivial⟩ (s_lw_law_967 (by omega) hk18)
          · refine w_iconst rfl ?_
            exact w_retv rfl rfl
        · refine w_aload_n rfl rfl ?_
          refine w_call1 [.ref 0] [] (by omega) rfl rfl rfl rfl rfl rfl (Nat.le_of_ble_eq_true rfl) (fun _ => xrc_ok rfl) (Nat.le_of_ble_eq_true rfl) rfl rfl (s_cL_states (by omega)) (fun r108 m109 => ?_)
          refine w_aload_n rfl rfl ?_
          refine w_call1 [.ref 78] [.int (i32 r108)] (by omega) rfl rfl rfl rfl rfl rfl (Nat.le_of_ble_eq_true rfl) (fun _ => xrc_ok rfl) (Nat.le_of_ble_eq_true rfl) rfl rfl (s_r_states (by omega)) (fun r110 m111 => ?_)
          refine w_icmp_eq (tg := 967) rfl rfl rfl rfl ?_ ?_
          · exact w_weak [(0, .ref 2000001), (1, .ref 0), (2, .ref 78), (3, .int (i32 v3))] rfl ⟨rfl, rfl, rfl, rfl, trivial⟩ (s_lw_law_967 (by omega) hk18)
          · refine w_iconst rfl ?_
            exact w_retv rfl rfl
        · refine w_aload_n rfl rfl ?_
          refine w_aload_n rfl rfl ?_
          refine w_iload_n rfl rfl ?_
          refine w_iconst rfl ?_
          refine w_iadd rfl ?_
          show xw _ _ _ _ 627 _ _ _ _
          refine w_xload rfl (fun x112 => ?_)
          refine w_call1 [.ref 0, .int (i32 x112)] [] (by omega) rfl rfl rfl rfl rfl rfl (Nat.le_of_ble_eq_true rfl) (fun _ => xrc_ok rfl) (Nat.le_of_ble_eq_true rfl) rfl rfl (s_cL_forbid (by omega)) (fun r113 m114 => ?_)
          refine w_aload_n rfl rfl ?_
          refine w_aload_n rfl rfl ?_
          refine w_iload_n rfl rfl ?_
          refine w_iconst rfl ?_
          show xw _ _ _ _ 635 _ _ _ _
          refine w_iadd rfl ?_
          refine w_xload rfl (fun x115 => ?_)
          refine w_call1 [.ref 78, .int (i32 x115)] [.int (i32 r113)] (by omega) rfl rfl rfl rfl rfl rfl (Nat.le_of_ble_eq_true rfl) (fun _ => xrc_ok rfl) (Nat.le_of_ble_eq_true rfl) rfl rfl (s_r_forbid (by omega)) (fun r116 m117 => ?_)
          refine w_icmp_eq (tg := 967) rfl rfl rfl rfl ?_ ?_
          · exact w_weak [(0, .ref 2000001), (1, .ref 0), (2, .ref 78), (3, .int (i32 v3))] rfl ⟨rfl, rfl, rfl, rfl, trivial⟩ (s_lw_law_967 (by omega) hk18)
          · refine w_iconst rfl ?_
            exact w_retv rfl rfl
        · refine w_aload_n rfl rfl ?_
          refine w_call1 [.ref 0] [] (by omega) rfl rfl rfl rfl rfl rfl (Nat.le_of_ble_eq_true rfl) (fun _ => xrc_ok rfl) (Nat.le_of_ble_eq_true rfl) rfl rfl (s_cL_share (by omega)) (fun r118 m119 => ?_)
          refine w_aload_n rfl rfl ?_
          refine w_call1 [.ref 78] [.int (i32 r118)] (by omega) rfl rfl rfl rfl rfl rfl (Nat.le_of_ble_eq_true rfl) (fun _ => xrc_ok rfl) (Nat.le_of_ble_eq_true rfl) rfl rfl (s_r_share (by omega)) (fun r120 m121 => ?_)
          refine w_icmp_eq (tg := 967) rfl rfl rfl rfl ?_ ?_
          · exact w_weak [(0, .ref 2000001), (1, .ref 0), (2, .ref 78), (3, .int (i32 v3))] rfl ⟨rfl, rfl, rfl, rfl, trivial⟩ (s_lw_law_967 (by omega) hk18)
          · refine w_iconst rfl ?_
            exact w_retv rfl rfl
        · refine w_aload_n rfl rfl ?_
          refine w_aload_n rfl rfl ?_
          refine w_iload_n rfl rfl ?_
          refine w_iconst rfl ?_
          refine w_iadd rfl ?_
          show xw _ _ _ _ 663 _ _ _ _
          refine w_xload rfl (fun x122 => ?_)
          refine w_call1 [.ref 0, .int (i32 x122)] [] (by omega) rfl rfl rfl rfl rfl rfl (Nat.le_of_ble_eq_true rfl) (fun _ => xrc_ok rfl) (Nat.le_of_ble_eq_true rfl) rfl rfl (s_cL_slip (by omega)) (fun r123 m124 => ?_)
          refine w_aload_n rfl rfl ?_
          refine w_aload_n rfl rfl ?_
          refine w_iload_n rfl rfl ?_
          refine w_iconst rfl ?_
          show xw _ _ _ _ 671 _ _ _ _
          refine w_iadd rfl ?_
          refine w_xload rfl (fun x125 => ?_)
          refine w_call1 [.ref 78, .int (i32 x125)] [.int (i32 r123)] (by omega) rfl rfl rfl rfl rfl rfl (Nat.le_of_ble_eq_true rfl) (fun _ => xrc_ok rfl) (Nat.le_of_ble_eq_true rfl) rfl rfl (s_r_slip (by omega)) (fun r126 m127 => ?_)
          refine w_icmp_eq (tg := 967) rfl rfl rfl rfl ?_ ?_
          · exact w_weak [(0, .ref 2000001), (1, .ref 0), (2, .ref 78), (3, .int (i32 v3))] rfl ⟨rfl, rfl, rfl, rfl, trivial⟩ (s_lw_law_967 (by omega) hk18)
          · refine w_iconst rfl ?_
            exact w_retv rfl rfl
        · refine w_aload_n rfl rfl ?_
          refine w_aload_n rfl rfl ?_
          refine w_iload_n rfl rfl ?_
          refine w_iconst rfl ?_
          refine w_iadd rfl ?_
          show xw _ _ _ _ 686 _ _ _ _
          refine w_xload rfl (fun x128 => ?_)
          refine w_call1 [.ref 0, .int (i32 x128)] [] (by omega) rfl rfl rfl rfl rfl rfl (Nat.le_of_ble_eq_true rfl) (fun _ => xrc_ok rfl) (Nat.le_of_ble_eq_true rfl) rfl rfl (s_cL_slipped (by omega)) (fun r129 m130 => ?_)
          refine w_aload_n rfl rfl ?_
          refine w_aload_n rfl rfl ?_
          refine w_iload_n rfl rfl ?_
          refine w_iconst rfl ?_
          show xw _ _ _ _ 694 _ _ _ _
          refine w_iadd rfl ?_
          refine w_xload rfl (fun x131 => ?_)
          refine w_call1 [.ref 78, .int (i32 x131)] [.int (i32 r129)] (by omega) rfl rfl rfl rfl rfl rfl (Nat.le_of_ble_eq_true rfl) (fun _ => xrc_ok rfl) (Nat.le_of_ble_eq_true rfl) rfl rfl (s_r_slipped (by omega)) (fun r132 m133 => ?_)
          refine w_icmp_eq (tg := 967) rfl rfl rfl rfl ?_ ?_
          · exact w_weak [(0, .ref 2000001), (1, .ref 0), (2, .ref 78), (3, .int (i32 v3))] rfl ⟨rfl, rfl, rfl, rfl, trivial⟩ (s_lw_law_967 (by omega) hk18)
          · refine w_iconst rfl ?_
            exact w_retv rfl rfl
        · refine w_aload_n rfl rfl ?_
          refine w_call1 [.ref 0] [] (by omega) rfl rfl rfl rfl rfl rfl (Nat.le_of_ble_eq_true rfl) (fun _ => xrc_ok rfl) (Nat.le_of_ble_eq_true rfl) rfl rfl (s_cL_hear (by omega)) (fun r134 m135 => ?_)
          refine w_aload_n rfl rfl ?_
          refine w_call1 [.ref 78] [.int (i32 r134)] (by omega) rfl rfl rfl rfl rfl rfl (Nat.le_of_ble_eq_true rfl) (fun _ => xrc_ok rfl) (Nat.le_of_ble_eq_true rfl) rfl rfl (s_r_hear (by omega)) (fun r136 m137 => ?_)
          refine w_icmp_eq (tg := 967) rfl rfl rfl rfl ?_ ?_
          · exact w_weak [(0, .ref 2000001), (1, .ref 0), (2, .ref 78), (3, .int (i32 v3))] rfl ⟨rfl, rfl, rfl, rfl, trivial⟩ (s_lw_law_967 (by omega) hk18)
          · refine w_iconst rfl ?_
            exact w_retv rfl rfl
        · refine w_aload_n rfl rfl ?_
          refine w_aload_n rfl rfl ?_
          refine w_iload_n rfl rfl ?_
          refine w_iconst rfl ?_
          refine w_iadd rfl ?_
          show xw _ _ _ _ 722 _ _ _ _
          refine w_xload rfl (fun x138 => ?_)
          refine w_call1 [.ref 0, .int (i32 x138)] [] (by omega) rfl rfl rfl rfl rfl rfl (Nat.le_of_ble_eq_true rfl) (fun _ => xrc_ok rfl) (Nat.le_of_ble_eq_true rfl) rfl rfl (s_cL_starts (by omega)) (fun r139 m140 => ?_)
          refine w_aload_n rfl rfl ?_
          refine w_aload_n rfl rfl ?_
          refine w_iload_n rfl rfl ?_
          refine w_iconst rfl ?_
          show xw _ _ _ _ 730 _ _ _ _
          refine w_iadd rfl ?_
          refine w_xload rfl (fun x141 => ?_)
          refine w_call1 [.ref 78, .int (i32 x141)] [.int (i32 r139)] (by omega) rfl rfl rfl rfl rfl rfl (Nat.le_of_ble_eq_true rfl) (fun _ => xrc_ok rfl) (Nat.le_of_ble_eq_true rfl) rfl rfl (s_r_starts (by omega)) (fun r142 m143 => ?_)
          refine w_icmp_eq (tg := 967) rfl rfl rfl rfl ?_ ?_
          · exact w_weak [(0, .ref 2000001), (1, .ref 0), (2, .ref 78), (3, .int (i32 v3))] rfl ⟨rfl, rfl, rfl, rfl, trivial⟩ (s_lw_law_967 (by omega) hk18)
          · refine w_iconst rfl ?_
            exact w_retv rfl rfl
        · refine w_aload_n rfl rfl ?_
          refine w_aload_n rfl rfl ?_
          refine w_iload_n rfl rfl ?_
          refine w_iconst rfl ?_
          refine w_iadd rfl ?_
          show xw _ _ _ _ 745 _ _ _ _
          refine w_xload rfl (fun x144 => ?_)
          refine w_call1 [.ref 0, .int (i32 x144)] [] (by omega) rfl rfl rfl rfl rfl rfl (Nat.le_of_ble_eq_true rfl) (fun _ => xrc_ok rfl) (Nat.le_of_ble_eq_true rfl) rfl rfl (s_cL_hangs (by omega)) (fun r145 m146 => ?_)
          refine w_aload_n rfl rfl ?_
          refine w_aload_n rfl rfl ?_
          refine w_iload_n rfl rfl ?_
          refine w_iconst rfl ?_
          show xw _ _ _ _ 753 _ _ _ _
          refine w_iadd rfl ?_
          refine w_xload rfl (fun x147 => ?_)
          refine w_call1 [.ref 78, .int (i32 x147)] [.int (i32 r145)] (by omega) rfl rfl rfl rfl rfl rfl (Nat.le_of_ble_eq_true rfl) (fun _ => xrc_ok rfl) (Nat.le_of_ble_eq_true rfl) rfl rfl (s_r_hangs (by omega)) (fun r148 m149 => ?_)
          refine w_icmp_eq (tg := 967) rfl rfl rfl rfl ?_ ?_
          · exact w_weak [(0, .ref 2000001), (1, .ref 0), (2, .ref 78), (3, .int (i32 v3))] rfl ⟨rfl, rfl, rfl, rfl, trivial⟩ (s_lw_law_967 (by omega) hk18)
          · refine w_iconst rfl ?_
            exact w_retv rfl rfl
        · refine w_aload_n rfl rfl ?_
          refine w_aload_n rfl rfl ?_
          refine w_iload_n rfl rfl ?_
          refine w_iconst rfl ?_
          refine w_iadd rfl ?_
          show xw _ _ _ _ 768 _ _ _ _
          refine w_xload rfl (fun x150 => ?_)
          refine w_call1 [.ref 0, .int (i32 x150)] [] (by omega) rfl rfl rfl rfl rfl rfl (Nat.le_of_ble_eq_true rfl) (fun _ => xrc_ok rfl) (Nat.le_of_ble_eq_true rfl) rfl rfl (s_cL_play (by omega)) (fun r151 m152 => ?_)
          refine w_aload_n rfl rfl ?_
          refine w_aload_n rfl rfl ?_
          refine w_iload_n rfl rfl ?_
          refine w_iconst rfl ?_
          show xw _ _ _ _ 776 _ _ _ _
          refine w_iadd rfl ?_
          refine w_xload rfl (fun x153 => ?_)
          refine w_call1 [.ref 78, .int (i32 x153)] [.int (i32 r151)] (by omega) rfl rfl rfl rfl rfl rfl (Nat.le_of_ble_eq_true rfl) (fun _ => xrc_ok rfl) (Nat.le_of_ble_eq_true rfl) rfl rfl (s_r_play (by omega)) (fun r154 m155 => ?_)
          refine w_icmp_eq (tg := 967) rfl rfl rfl rfl ?_ ?_
          · exact w_weak [(0, .ref 2000001), (1, .ref 0), (2, .ref 78), (3, .int (i32 v3))] rfl ⟨rfl, rfl, rfl, rfl, trivial⟩ (s_lw_law_967 (by omega) hk18)
          · refine w_iconst rfl ?_
            exact w_retv rfl rfl
        · refine w_aload_n rfl rfl ?_
          refine w_call1 [.ref 0] [] (by omega) rfl rfl rfl rfl rfl rfl (Nat.le_of_ble_eq_true rfl) (fun _ => xrc_ok rfl) (Nat.le_of_ble_eq_true rfl) rfl rfl (s_cL_piece (by omega)) (fun r156 m157 => ?_)
          refine w_aload_n rfl rfl ?_
          refine w_call1 [.ref 78] [.int (i32 r156)] (by omega) rfl rfl rfl rfl rfl rfl (Nat.le_of_ble_eq_true rfl) (fun _ => xrc_ok rfl) (Nat.le_of_ble_eq_true rfl) rfl rfl (s_r_piece (by omega)) (fun r158 m159 => ?_)
          refine w_icmp_eq (tg := 967) rfl rfl rfl rfl ?_ ?_
          · exact w_weak [(0, .ref 2000001), (1, .ref 0), (2, .ref 78), (3, .int (i32 v3))] rfl ⟨rfl, rfl, rfl, rfl, trivial⟩ (s_lw_law_967 (by omega) hk18)
          · refine w_iconst rfl ?_
            exact w_retv rfl rfl
        · refine w_aload_n rfl rfl ?_
          refine w_aload_n rfl rfl ?_
          refine w_iload_n rfl rfl ?_
          refine w_iconst rfl ?_
          refine w_iadd rfl ?_
          show xw _ _ _ _ 804 _ _ _ _
          refine w_xload rfl (fun x160 => ?_)
          refine w_call1 [.ref 0, .int (i32 x160)] [] (by omega) rfl rfl rfl rfl rfl rfl (Nat.le_of_ble_eq_true rfl) (fun _ => xrc_ok rfl) (Nat.le_of_ble_eq_true rfl) rfl rfl (s_cL_oil (by omega)) (fun r161 m162 => ?_)
          refine w_aload_n rfl rfl ?_
          refine w_aload_n rfl rfl ?_
          refine w_iload_n rfl rfl ?_
          refine w_iconst rfl ?_
          show xw _ _ _ _ 812 _ _ _ _
          refine w_iadd rfl ?_
          refine w_xload rfl (fun x163 => ?_)
          refine w_call1 [.ref 78, .int (i32 x163)] [.int (i32 r161)] (by omega) rfl rfl rfl rfl rfl rfl (Nat.le_of_ble_eq_true rfl) (fun _ => xrc_ok rfl) (Nat.le_of_ble_eq_true rfl) rfl rfl (s_r_oil (by omega)) (fun r164 m165 => ?_)
          refine w_icmp_eq (tg := 967) rfl rfl rfl rfl ?_ ?_
          · exact w_weak [(0, .ref 2000001), (1, .ref 0), (2, .ref 78), (3, .int (i32 v3))] rfl ⟨rfl, rfl, rfl, rfl, trivial⟩ (s_lw_law_967 (by omega) hk18)
          · refine w_iconst rfl ?_
            exact w_retv rfl rfl
        · refine w_aload_n rfl rfl ?_
          refine w_aload_n rfl rfl ?_
          refine w_iload_n rfl rfl ?_
          refine w_iconst rfl ?_
          refine w_iadd rfl ?_
          show xw _ _ _ _ 827 _ _ _ _
          refine w_xload rfl (fun x166 => ?_)
          refine w_call1 [.ref 0, .int (i32 x166)] [] (by omega) rfl rfl rfl rfl rfl rfl (Nat.le_of_ble_eq_true rfl) (fun _ => xrc_ok rfl) (Nat.le_of_ble_eq_true rfl) rfl rfl (s_cL_evening (by omega)) (fun r167 m168 => ?_)
          refine w_aload_n rfl rfl ?_
          refine w_aload_n rfl rfl ?_
          refine w_iload_n rfl rfl ?_
          refine w_iconst rfl ?_
          show xw _ _ _ _ 835 _ _ _ _
          refine w_iadd rfl ?_
          refine w_xload rfl (fun x169 => ?_)
          refine w_call1 [.ref 78, .int (i32 x169)] [.int (i32 r167)] (by omega) rfl rfl rfl rfl rfl rfl (Nat.le_of_ble_eq_true rfl) (fun _ => xrc_ok rfl) (Nat.le_of_ble_eq_true rfl) rfl rfl (s_r_evening (by omega)) (fun r170 m171 => ?_)
          refine w_icmp_eq (tg := 967) rfl rfl rfl rfl ?_ ?_
          · exact w_weak [(0, .ref 2000001), (1, .ref 0), (2, .ref 78), (3, .int (i32 v3))] rfl ⟨rfl, rfl, rfl, rfl, trivial⟩ (s_lw_law_967 (by omega) hk18)
          · refine w_iconst rfl ?_
            exact w_retv rfl rfl
        · refine w_aload_n rfl rfl ?_
          refine w_call1 [.ref 0] [] (by omega) rfl rfl rfl rfl rfl rfl (Nat.le_of_ble_eq_true rfl) (fun _ => xrc_ok rfl) (Nat.le_of_ble_eq_true rfl) rfl rfl (s_cL_undo (by omega)) (fun r172 m173 => ?_)
          refine w_aload_n rfl rfl ?_
          refine w_call1 [.ref 78] [.int (i32 r172)] (by omega) rfl rfl rfl rfl rfl rfl (Nat.le_of_ble_eq_true rfl) (fun _ => xrc_ok rfl) (Nat.le_of_ble_eq_true rfl) rfl rfl (s_r_undo (by omega)) (fun r174 m175 => ?_)
          refine w_icmp_eq (tg := 967) rfl rfl rfl rfl ?_ ?_
          · exact w_weak [(0, .ref 2000001), (1, .ref 0), (2, .ref 78), (3, .int (i32 v3))] rfl ⟨rfl, rfl, rfl, rfl, trivial⟩ (s_lw_law_967 (by omega) hk18)
          · refine w_iconst rfl ?_
            exact w_retv rfl rfl
        · refine w_aload_n rfl rfl ?_
          refine w_aload_n rfl rfl ?_
          refine w_iload_n rfl rfl ?_
          refine w_iconst rfl ?_
          refine w_iadd rfl ?_
          show xw _ _ _ _ 863 _ _ _ _
          refine w_xload rfl (fun x176 => ?_)
          refine w_call1 [.ref 0, .int (i32 x176)] [] (by omega) rfl rfl rfl rfl rfl rfl (Nat.le_of_ble_eq_true rfl) (fun _ => xrc_ok rfl) (Nat.le_of_ble_eq_true rfl) rfl rfl (s_cL_seed (by omega)) (fun r177 m178 => ?_)
          refine w_aload_n rfl rfl ?_
          refine w_aload_n rfl rfl ?_
          refine w_iload_n rfl rfl ?_
          refine w_iconst rfl ?_
          show xw _ _ _ _ 871 _ _ _ _
          refine w_iadd rfl ?_
          refine w_xload rfl (fun x179 => ?_)
          refine w_call1 [.ref 78, .int (i32 x179)] [.int (i32 r177)] (by omega) rfl rfl rfl rfl rfl rfl (Nat.le_of_ble_eq_true rfl) (fun _ => xrc_ok rfl) (Nat.le_of_ble_eq_true rfl) rfl rfl (s_r_seed (by omega)) (fun r180 m181 => ?_)
          refine w_icmp_eq (tg := 967) rfl rfl rfl rfl ?_ ?_
          · exact w_weak [(0, .ref 2000001), (1, .ref 0), (2, .ref 78), (3, .int (i32 v3))] rfl ⟨rfl, rfl, rfl, rfl, trivial⟩ (s_lw_law_967 (by omega) hk18)
          · refine w_iconst rfl ?_
            exact w_retv rfl rfl
        · refine w_aload_n rfl rfl ?_
          refine w_call2 [.ref 0] [] (by omega) rfl rfl rfl rfl rfl rfl (Nat.le_of_ble_eq_true rfl) (fun _ => xrc_ok rfl) (Nat.le_of_ble_eq_true rfl) rfl rfl (s_cL_ask (by omega)) (fun r182 m183 => ?_)
          refine w_aload_n rfl rfl ?_
          refine w_call2 [.ref 78] [.long (i64 r182)] (by omega) rfl rfl rfl rfl rfl rfl (Nat.le_of_ble_eq_true rfl) (fun _ => xrc_ok rfl) (Nat.le_of_ble_eq_true rfl) rfl rfl (s_r_ask (by omega)) (fun r184 m185 => ?_)
          refine w_lcmp_eq (tg := 967) rfl rfl rfl rfl rfl ?_ ?_
          · exact w_weak [(0, .ref 2000001), (1, .ref 0), (2, .ref 78), (3, .int (i32 v3))] rfl ⟨rfl, rfl, rfl, rfl, trivial⟩ (s_lw_law_967 (by omega) hk18)
          · refine w_iconst rfl ?_
            exact w_retv rfl rfl
        · refine w_aload_n rfl rfl ?_
          refine w_call1 [.ref 0] [] (by omega) rfl rfl rfl rfl rfl rfl (Nat.le_of_ble_eq_true rfl) (fun _ => xrc_ok rfl) (Nat.le_of_ble_eq_true rfl) rfl rfl (s_cL_image (by omega)) (fun r186 m187 => ?_)
          refine w_aload_n rfl rfl ?_
          refine w_call1 [.ref 78] [.int (i32 r186)] (by omega) rfl rfl rfl rfl rfl rfl (Nat.le_of_ble_eq_true rfl) (fun _ => xrc_ok rfl) (Nat.le_of_ble_eq_true rfl) rfl rfl (s_r_image (by omega)) (fun r188 m189 => ?_)
          refine w_icmp_eq (tg := 967) rfl rfl rfl rfl ?_ ?_
          · exact w_weak [(0, .ref 2000001), (1, .ref 0), (2, .ref 78), (3, .int (i32 v3))] rfl ⟨rfl, rfl, rfl, rfl, trivial⟩ (s_lw_law_967 (by omega) hk18)
          · refine w_iconst rfl ?_
            exact w_retv rfl rfl
        · refine w_aload_n rfl rfl ?_
          refine w_aload_n rfl rfl ?_
          refine w_iload_n rfl rfl ?_
          refine w_iconst rfl ?_
          refine w_iadd rfl ?_
          show xw _ _ _ _ 913 _ _ _ _
          refine w_xload rfl (fun x190 => ?_)
          refine w_call1 [.ref 0, .int (i32 x190)] [] (by omega) rfl rfl rfl rfl rfl rfl (Nat.le_of_ble_eq_true rfl) (fun _ => xrc_ok rfl) (Nat.le_of_ble_eq_true rfl) rfl rfl (s_cL_octet (by omega)) (fun r191 m192 => ?_)
          refine w_aload_n rfl rfl ?_
          refine w_aload_n rfl rfl ?_
          refine w_iload_n rfl rfl ?_
          refine w_iconst rfl ?_
          show xw _ _ _ _ 921 _ _ _ _
          refine w_iadd rfl ?_
          refine w_xload rfl (fun x193 => ?_)
          refine w_call1 [.ref 78, .int (i32 x193)] [.int (i32 r191)] (by omega) rfl rfl rfl rfl rfl rfl (Nat.le_of_ble_eq_true rfl) (fun _ => xrc_ok rfl) (Nat.le_of_ble_eq_true rfl) rfl rfl (s_r_octet (by omega)) (fun r194 m195 => ?_)
          refine w_icmp_eq (tg := 967) rfl rfl rfl rfl ?_ ?_
          · exact w_weak [(0, .ref 2000001), (1, .ref 0), (2, .ref 78), (3, .int (i32 v3))] rfl ⟨rfl, rfl, rfl, rfl, trivial⟩ (s_lw_law_967 (by omega) hk18)
          · refine w_iconst rfl ?_
            exact w_retv rfl rfl
        · refine w_aload_n rfl rfl ?_
          refine w_call1 [.ref 0] [] (by omega) rfl rfl rfl rfl rfl rfl (Nat.le_of_ble_eq_true rfl) (fun _ => xrc_ok rfl) (Nat.le_of_ble_eq_true rfl) rfl rfl (s_cL_on (by omega)) (fun r196 m197 => ?_)
          refine w_aload_n rfl rfl ?_
          refine w_call1 [.ref 78] [.int (i32 r196)] (by omega) rfl rfl rfl rfl rfl rfl (Nat.le_of_ble_eq_true rfl) (fun _ => xrc_ok rfl) (Nat.le_of_ble_eq_true rfl) rfl rfl (s_r_on (by omega)) (fun r198 m199 => ?_)
          refine w_icmp_eq (tg := 967) rfl rfl rfl rfl ?_ ?_
          · exact w_weak [(0, .ref 2000001), (1, .ref 0), (2, .ref 78), (3, .int (i32 v3))] rfl ⟨rfl, rfl, rfl, rfl, trivial⟩ (s_lw_law_967 (by omega) hk18)
          · refine w_iconst rfl ?_
            exact w_retv rfl rfl
        · refine w_aload_n rfl rfl ?_
          refine w_aload_n rfl rfl ?_
          refine w_iload_n rfl rfl ?_
          refine w_iconst rfl ?_
          refine w_iadd rfl ?_
          show xw _ _ _ _ 949 _ _ _ _
          refine w_xload rfl (fun x200 => ?_)
          refine w_call1 [.ref 0, .int (i32 x200)] [] (by omega) rfl rfl rfl rfl rfl rfl (Nat.le_of_ble_eq_true rfl) (fun _ => xrc_ok rfl) (Nat.le_of_ble_eq_true rfl) rfl rfl (s_cL_status (by omega)) (fun r201 m202 => ?_)
          refine w_aload_n rfl rfl ?_
          refine w_aload_n rfl rfl ?_
          refine w_iload_n rfl rfl ?_
          refine w_iconst rfl ?_
          show xw _ _ _ _ 957 _ _ _ _
          refine w_iadd rfl ?_
          refine w_xload rfl (fun x203 => ?_)
          refine w_call1 [.ref 78, .int (i32 x203)] [.int (i32 r201)] (by omega) rfl rfl rfl rfl rfl rfl (Nat.le_of_ble_eq_true rfl) (fun _ => xrc_ok rfl) (Nat.le_of_ble_eq_true rfl) rfl rfl (s_r_status (by omega)) (fun r204 m205 => ?_)
          refine w_icmp_eq (tg := 967) rfl rfl rfl rfl ?_ ?_
          · exact w_weak [(0, .ref 2000001), (1, .ref 0), (2, .ref 78), (3, .int (i32 v3))] rfl ⟨rfl, rfl, rfl, rfl, trivial⟩ (s_lw_law_967 (by omega) hk18)
          · refine w_iconst rfl ?_
            exact w_retv rfl rfl
end S09
