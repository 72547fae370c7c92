section S05
variable {L : Nat} {xs : Nat → Int32} {bz : Bool}
theorem s_cL_on_47 {d : Nat} (hd : 4 ≤ d) {m : xm} : xw (am_E L xs bz) d am_m178 1 47 [(0, .ref 0)] [] m (cL_on_47 m) := by
  unfold cL_on_47
  refine w_aload_n rfl rfl ?_
  refine w_iconst rfl ?_
  refine w_call1 [.ref 0, .int (i32 5)] [] (by omega) rfl rfl rfl rfl rfl rfl (Nat.le_of_ble_eq_true rfl) (fun _ => xrc_ok rfl) (Nat.le_of_ble_eq_true rfl) rfl rfl (s_cL_refuse (by omega)) (fun r1 m2 => ?_)
  refine w_pop rfl rfl ?_
  refine w_iconst rfl ?_
  show xw _ _ _ _ 54 _ _ _ _
  exact w_retv rfl rfl
theorem s_cL_on {d : Nat} {m : xm} (hd : 4 ≤ d) : xw (am_E L xs bz) d am_m178 1 0 [(0, .ref 0)] [] m (cL_on m) := by
  unfold cL_on
  refine w_aload_n rfl rfl ?_
  refine w_call1 [.ref 0] [] (by omega) rfl rfl rfl rfl rfl rfl (Nat.le_of_ble_eq_true rfl) (fun _ => xrc_ok rfl) (Nat.le_of_ble_eq_true rfl) rfl rfl (s_cL_imagedState (by omega)) (fun r1 m2 => ?_)
  refine w_istore_n (lsd := [(1, .int (i32 r1)), (0, .ref 0)]) rfl (Nat.le_of_ble_eq_true rfl) rfl ?_
  refine w_sipush rfl rfl ?_
  refine w_aload_n rfl rfl ?_
  show xw _ _ _ _ 9 _ _ _ _
  refine w_gfr (r := 1) rfl rfl (Nat.le_of_ble_eq_true rfl) rfl rfl ?_
  refine w_iconst rfl ?_
  refine w_call1 [.ref 1, .int (i32 0)] [.int (i32 256)] (by omega) rfl rfl rfl rfl rfl rfl (Nat.le_of_ble_eq_true rfl) (fun _ => xrc_ok rfl) (Nat.le_of_ble_eq_true rfl) rfl rfl (s_cT_byteAt (by omega)) (fun r3 m4 => ?_)
  refine w_imul rfl ?_
  refine w_aload_n rfl rfl ?_
  refine w_gfr (r := 1) rfl rfl (Nat.le_of_ble_eq_true rfl) rfl rfl ?_
  show xw _ _ _ _ 21 _ _ _ _
  refine w_iconst rfl ?_
  refine w_call1 [.ref 1, .int (i32 1)] [.int (i32 (256 * r3))] (by omega) rfl rfl rfl rfl rfl rfl (Nat.le_of_ble_eq_true rfl) (fun _ => xrc_ok rfl) (Nat.le_of_ble_eq_true rfl) rfl rfl (s_cT_byteAt (by omega)) (fun r5 m6 => ?_)
  refine w_iadd rfl ?_
  refine w_letI (fun x7 => ?_)
  refine w_istore_n (lsd := [(2, .int (i32 x7)), (1, .int (i32 r1)), (0, .ref 0)]) rfl (Nat.le_of_ble_eq_true rfl) rfl ?_
  refine w_aload_n rfl rfl ?_
  refine w_gfr (r := 1) rfl rfl (Nat.le_of_ble_eq_true rfl) rfl rfl ?_
  show xw _ _ _ _ 31 _ _ _ _
  refine w_iconst rfl ?_
  refine w_call0 [.ref 1, .int (i32 0)] [] (by omega) rfl rfl rfl rfl rfl rfl (Nat.le_of_ble_eq_true rfl) (fun _ => xrc_ok rfl) (Nat.le_of_ble_eq_true rfl) rfl rfl (s_cT_cut (by omega)) (fun r8 m9 => ?_)
  refine w_iload_n rfl rfl ?_
  refine w_iconst rfl ?_
  refine w_icmp_eq (tg := 47) rfl rfl rfl rfl ?_ ?_
  · exact w_weak [(0, .ref 0)] rfl ⟨rfl, trivial⟩ (s_cL_on_47 (by omega))
  · refine w_iload_n rfl rfl ?_
    refine w_sipush rfl rfl ?_
    refine w_icmp_le (tg := 55) rfl rfl rfl rfl ?_ ?_
    · refine w_aload_n rfl rfl ?_
      refine w_gfr (r := 21) rfl rfl (Nat.le_of_ble_eq_true rfl) rfl rfl ?_
      refine w_iload_n rfl rfl ?_
      refine w_iload_n rfl rfl ?_
      refine w_call0 [.ref 21, .int (i32 r1), .int (i32 x7)] [] (by omega) rfl rfl rfl rfl rfl rfl (Nat.le_of_ble_eq_true rfl) (fun _ => xrc_ok rfl) (Nat.le_of_ble_eq_true rfl) rfl rfl (s_cY_start (by omega)) (fun r10 m11 => ?_)
      show xw _ _ _ _ 64 _ _ _ _
      refine w_iconst rfl ?_
      exact w_retv rfl rfl
    · exact w_weak [(0, .ref 0)] rfl ⟨rfl, trivial⟩ (s_cL_on_47 (by omega))
theorem s_cL_status {d : Nat} {v1 : Int} {m : xm} (hd : 1 ≤ d) : xw (am_E L xs bz) d am_m180 1 0 [(0, .ref 0), (1, .int (i32 v1))] [] m (cL_status v1 m) := by
  unfold cL_status
  refine w_iload_n rfl rfl ?_
  refine w_if_lt (tg := 24) rfl rfl rfl ?_ ?_
  · refine w_iconst rfl ?_
    exact w_retv rfl rfl
  · refine w_iload_n rfl rfl ?_
    refine w_aload_n rfl rfl ?_
    refine w_gfr (r := 47) rfl rfl (Nat.le_of_ble_eq_true rfl) rfl rfl ?_
    refine w_alen (n := 6) rfl (Nat.le_of_ble_eq_true rfl) (Nat.le_of_ble_eq_true rfl) rfl ?_
    refine w_icmp_ge (tg := 24) rfl rfl rfl rfl ?_ ?_
    · refine w_iconst rfl ?_
      exact w_retv rfl rfl
    · refine w_aload_n rfl rfl ?_
      refine w_gfr (r := 47) rfl rfl (Nat.le_of_ble_eq_true rfl) rfl rfl ?_
      refine w_iload_n rfl rfl ?_
      refine w_call1 [.ref 47, .int (i32 v1)] [] (by omega) rfl rfl rfl rfl rfl rfl (Nat.le_of_ble_eq_true rfl) (fun z => by cases z) (Nat.le_of_ble_eq_true rfl) rfl rfl (s_cL_cell (by omega) rfl) (fun r1 m2 => ?_)
      refine w_goto (tg := 25) rfl rfl ?_
      show xw _ _ _ _ 25 _ _ _ _
      exact w_retv rfl rfl
theorem s_r_feed_124 {d : Nat} (hd : 0 ≤ d) {m : xm} : xw (am_E L xs bz) d am_m182 1 124 [(0, .ref 78)] [] m (r_feed_124 m) := by
  unfold r_feed_124
  refine w_aload_n rfl rfl ?_
  refine w_gfi rfl rfl (Nat.le_of_ble_eq_true rfl) rfl rfl ?_
  exact w_retv rfl rfl
theorem s_r_feed_81 {d : Nat} {k28 : Int → Int → Int → Int → Int → Int → xm → xr} (hd : 0 ≤ d) (hk28 : ∀ (v1 v2 v3 v4 v5 v6 : Int) (m : xm), xw (am_E L xs bz) d am_m182 1 28 [(0, .ref 78), (1, .int (i32 v1)), (2, .int (i32 v2)), (3, .int (i32 v3)), (4, .int (i32 v4)), (5, .int (i32 v5)), (6, .int (i32 v6))] [] m (k28 v1 v2 v3 v4 v5 v6 m)) {v1 : Int} {v2 : Int} {v3 : Int} {v4 : Int} {v5 : Int} {v6 : Int} {s0 : Int} {m : xm} : xw (am_E L xs bz) d am_m182 1 81 [(0, .ref 78), (1, .int (i32 v1)), (2, .int (i32 v2)), (3, .int (i32 v3)), (4, .int (i32 v4)), (5, .int (i32 v5)), (6, .int (i32 v6))] [.int (i32 s0)] m (r_feed_81 k28 v1 v2 v3 v4 v5 v6 s0 m) := by
  unfold r_feed_81
  refine w_letI (fun x1 => ?_)
  refine w_istore (lsd := [(7, .int (i32 x1)), (0, .ref 78), (1, .int (i32 v1)), (2, .int (i32 v2)), (3, .int (i32 v3)), (4, .int (i32 v4)), (5, .int (i32 v5)), (6, .int (i32 v6))]) rfl (Nat.le_of_ble_eq_true rfl) rfl ?_
  refine w_aload_n rfl rfl ?_
  refine w_gfr (r := 79) rfl rfl (Nat.le_of_ble_eq_true rfl) rfl rfl ?_
  refine w_aload_n rfl rfl ?_
  refine w_gfi rfl rfl (Nat.le_of_ble_eq_true rfl) rfl rfl ?_
  show xw _ _ _ _ 91 _ _ _ _
  refine w_iload rfl rfl ?_
  refine w_bipush rfl rfl ?_
  refine w_iconst rfl ?_
  refine w_iload rfl rfl ?_
  refine w_iconst rfl ?_
  refine w_iremc rfl (by decide) ?_
  show xw _ _ _ _ 100 _ _ _ _
  refine w_isub rfl ?_
  refine w_imul rfl ?_
  refine w_ishr rfl ?_
  refine w_sipush rfl rfl ?_
  refine w_iand rfl ?_
  refine w_iastore rfl rfl (fun m2 => ?_)
  show xw _ _ _ _ 108 _ _ _ _
  refine w_aload_n rfl rfl ?_
  refine w_dup rfl rfl ?_
  refine w_gfi rfl rfl (Nat.le_of_ble_eq_true rfl) rfl rfl ?_
  refine w_iconst rfl ?_
  refine w_iadd rfl ?_
  refine w_pfi rfl rfl (Nat.le_of_ble_eq_true rfl) rfl rfl rfl (fun m3 => ?_)
  show xw _ _ _ _ 118 _ _ _ _
  refine w_iinc (lsd := [(6, .int (i32 (v6 + 1))), (7, .int (i32 x1)), (0, .ref 78), (1, .int (i32 v1)), (2, .int (i32 v2)), (3, .int (i32 v3)), (4, .int (i32 v4)), (5, .int (i32 v5))]) rfl (Nat.le_of_ble_eq_true rfl) rfl rfl ?_
  refine w_goto (tg := 28) rfl rfl ?_
  exact w_weak [(0, .ref 78), (1, .int (i32 v1)), (2, .int (i32 v2)), (3, .int (i32 v3)), (4, .int (i32 v4)), (5, .int (i32 v5)), (6, .int (i32 (v6 + 1)))] rfl ⟨rfl, rfl, rfl, rfl, rfl, rfl, rfl, trivial⟩ (hk28 v1 v2 v3 v4 v5 (v6 + 1) m3)
theorem s_r_feed_28 {d : Nat} (hd : 0 ≤ d) : ∀ (n : Nat) {v1 : Int} {v2 : Int} {v3 : Int} {v4 : Int} {v5 : Int} {v6 : Int} {m : xm}, xw (am_E L xs bz) d am_m182 1 28 [(0, .ref 78), (1, .int (i32 v1)), (2, .int (i32 v2)), (3, .int (i32 v3)), (4, .int (i32 v4)), (5, .int (i32 v5)), (6, .int (i32 v6))] [] m (r_feed_28 n v1 v2 v3 v4 v5 v6 m) := by
  intro n
  induction n with
  | zero => intros; exact w_none
  | succ n ih =>
    intro v1 v2 v3 v4 v5 v6 m
    have hk28 := fun (v1 v2 v3 v4 v5 v6 : Int) (m : xm) => @ih v1 v2 v3 v4 v5 v6 m
    unfold r_feed_28
    refine w_iload rfl rfl ?_
    refine w_bipush rfl rfl ?_
    refine w_icmp_ge (tg := 124) rfl rfl rfl rfl ?_ ?_
    · exact w_weak [(0, .ref 78)] rfl ⟨rfl, trivial⟩ (s_r_feed_124 (by omega))
    · refine w_iload rfl rfl ?_
      refine w_iconst rfl ?_
      refine w_icmp_ge (tg := 45) rfl rfl rfl rfl ?_ ?_
      · refine w_iload rfl rfl ?_
        refine w_bipush rfl rfl ?_
        refine w_icmp_ge (tg := 56) rfl rfl rfl rfl ?_ ?_
        · refine w_iload rfl rfl ?_
          refine w_bipush rfl rfl ?_
          refine w_icmp_ge (tg := 67) rfl rfl rfl rfl ?_ ?_
          · refine w_iload rfl rfl ?_
            refine w_bipush rfl rfl ?_
            refine w_icmp_ge (tg := 79) rfl rfl rfl rfl ?_ ?_
            · refine w_iload rfl rfl ?_
              exact w_weak [(0, .ref 78), (1, .int (i32 v1)), (2, .int (i32 v2)), (3, .int (i32 v3)), (4, .int (i32 v4)), (5, .int (i32 v5)), (6, .int (i32 v6))] rfl ⟨rfl, rfl, rfl, rfl, rfl, rfl, rfl, trivial⟩ (s_r_feed_81 (by omega) hk28)
            · refine w_iload rfl rfl ?_
              refine w_goto (tg := 81) rfl rfl ?_
              exact w_weak [(0, .ref 78), (1, .int (i32 v1)), (2, .int (i32 v2)), (3, .int (i32 v3)), (4, .int (i32 v4)), (5, .int (i32 v5)), (6, .int (i32 v6))] rfl ⟨rfl, rfl, rfl, rfl, rfl, rfl, rfl, trivial⟩ (s_r_feed_81 (by omega) hk28)
          · refine w_iload_n rfl rfl ?_
            refine w_goto (tg := 81) rfl rfl ?_
            exact w_weak [(0, .ref 78), (1, .int (i32 v1)), (2, .int (i32 v2)), (3, .int (i32 v3)), (4, .int (i32 v4)), (5, .int (i32 v5)), (6, .int (i32 v6))] rfl ⟨rfl, rfl, rfl, rfl, rfl, rfl, rfl, trivial⟩ (s_r_feed_81 (by omega) hk28)
        · refine w_iload_n rfl rfl ?_
          refine w_goto (tg := 81) rfl rfl ?_
          exact w_weak [(0, .ref 78), (1, .int (i32 v1)), (2, .int (i32 v2)), (3, .int (i32 v3)), (4, .int (i32 v4)), (5, .int (i32 v5)), (6, .int (i32 v6))] rfl ⟨rfl, rfl, rfl, rfl, rfl, rfl, rfl, trivial⟩ (s_r_feed_81 (by omega) hk28)
      · refine w_iload_n rfl rfl ?_
        refine w_goto (tg := 81) rfl rfl ?_
        exact w_weak [(0, .ref 78), (1, .int (i32 v1)), (2, .int (i32 v2)), (3, .int (i32 v3)), (4, .int (i32 v4)), (5, .int (i32 v5)), (6, .int (i32 v6))] rfl ⟨rfl, rfl, rfl, rfl, rfl, rfl, rfl, trivial⟩ (s_r_feed_81 (by omega) hk28)
theorem s_r_feed {d : Nat} {v1 : Int} {v2 : Int} {v3 : Int} {v4 : Int} {v5 : Int} {m : xm} (hd : 0 ≤ d) : xw (am_E L xs bz) d am_m182 1 0 [(0, .ref 78), (1, .int (i32 v1)), (2, .int (i32 v2)), (3, .int (i32 v3)), (4, .int (i32 v4)), (5, .int (i32 v5))] [] m (r_feed v1 v2 v3 v4 v5 m) := by
  unfold r_feed
  refine w_aload_n rfl rfl ?_
  refine w_gfi rfl rfl (Nat.le_of_ble_eq_true rfl) rfl rfl ?_
  refine w_bipush rfl rfl ?_
  refine w_iadd rfl ?_
  refine w_sipush rfl rfl ?_
  show xw _ _ _ _ 10 _ _ _ _
  refine w_icmp_le (tg := 25) rfl rfl rfl rfl ?_ ?_
  · refine w_iconst rfl ?_
    refine w_istore (lsd := [(6, .int (i32 0)), (0, .ref 78), (1, .int (i32 v1)), (2, .int (i32 v2)), (3, .int (i32 v3)), (4, .int (i32 v4)), (5, .int (i32 v5))]) rfl (Nat.le_of_ble_eq_true rfl) rfl ?_
    exact w_weak [(0, .ref 78), (1, .int (i32 v1)), (2, .int (i32 v2)), (3, .int (i32 v3)), (4, .int (i32 v4)), (5, .int (i32 v5)), (6, .int (i32 0))] rfl ⟨rfl, rfl, rfl, rfl, rfl, rfl, rfl, trivial⟩ (s_r_feed_28 (by omega) _)
  · refine w_aload_n rfl rfl ?_
    refine w_gfr (r := 80) rfl rfl (Nat.le_of_ble_eq_true rfl) rfl rfl ?_
    refine w_iconst rfl ?_
    refine w_dup2 rfl rfl rfl ?_
    refine w_iaload rfl rfl (fun x1 => ?_)
    show xw _ _ _ _ 20 _ _ _ _
    refine w_iconst rfl ?_
    refine w_iadd rfl ?_
    refine w_iastore rfl rfl (fun m2 => ?_)
    refine w_iconst rfl ?_
    exact w_retv rfl rfl
theorem s_r_end_12 {d : Nat} (hd : 0 ≤ d) {m : xm} : xw (am_E L xs bz) d am_m183 1 12 [(0, .ref 78)] [] m (r_end_12 m) := by
  unfold r_end_12
  refine w_aload_n rfl rfl ?_
  refine w_gfr (r := 80) rfl rfl (Nat.le_of_ble_eq_true rfl) rfl rfl ?_
  refine w_iconst rfl ?_
  refine w_dup2 rfl rfl rfl ?_
  refine w_iaload rfl rfl (fun x1 => ?_)
  show xw _ _ _ _ 19 _ _ _ _
  refine w_iconst rfl ?_
  refine w_iadd rfl ?_
  refine w_iastore rfl rfl (fun m2 => ?_)
  refine w_iconst rfl ?_
  exact w_retv rfl rfl
theorem s_r_end {d : Nat} {v1 : Int} {m : xm} (hd : 0 ≤ d) : xw (am_E L xs bz) d am_m183 1 0 [(0, .ref 78), (1, .int (i32 v1))] [] m (r_end v1 m) := by
  unfold r_end
  refine w_iload_n rfl rfl ?_
  refine w_if_lt (tg := 12) rfl rfl rfl ?_ ?_
  · exact w_weak [(0, .ref 78)] rfl ⟨rfl, trivial⟩ (s_r_end_12 (by omega))
  · refine w_iload_n rfl rfl ?_
    refine w_aload_n rfl rfl ?_
    refine w_gfi rfl rfl (Nat.le_of_ble_eq_true rfl) rfl rfl ?_
    refine w_icmp_le (tg := 24) rfl rfl rfl (w32_ld _ _ _) ?_ ?_
    · refine w_aload_n rfl rfl ?_
      refine w_iload_n rfl rfl ?_
      refine w_pfi rfl rfl (Nat.le_of_ble_eq_true rfl) rfl rfl rfl (fun m1 => ?_)
      refine w_iconst rfl ?_
      exact w_retv rfl rfl
    · exact w_weak [(0, .ref 78)] rfl ⟨rfl, trivial⟩ (s_r_end_12 (by omega))
theorem s_r_stands_286 {d : Nat} (hd : 0 ≤ d) {m : xm} : xw (am_E L xs bz) d am_m227 0 286 [(0, .ref 78)] [] m (r_stands_286 m) := by
  unfold r_stands_286
  refine w_aload_n rfl rfl ?_
  refine w_iconst rfl ?_
  refine w_pfi rfl rfl (Nat.le_of_ble_eq_true rfl) rfl rfl rfl (fun m1 => ?_)
  refine w_aload_n rfl rfl ?_
  refine w_iconst rfl ?_
  show xw _ _ _ _ 293 _ _ _ _
  refine w_pfi rfl rfl (Nat.le_of_ble_eq_true rfl) rfl rfl rfl (fun m2 => ?_)
  refine w_aload_n rfl rfl ?_
  refine w_iconst rfl ?_
  refine w_pfi rfl rfl (Nat.le_of_ble_eq_true rfl) rfl rfl rfl (fun m3 => ?_)
  refine w_aload_n rfl rfl ?_
  refine w_iconst rfl ?_
  show xw _ _ _ _ 303 _ _ _ _
  refine w_pfi rfl rfl (Nat.le_of_ble_eq_true rfl) rfl rfl rfl (fun m4 => ?_)
  refine w_aload_n rfl rfl ?_
  refine w_iconst rfl ?_
  refine w_pfi rfl rfl (Nat.le_of_ble_eq_true rfl) rfl rfl rfl (fun m5 => ?_)
  exact w_retv (x := 0) rfl rfl
theorem s_r_stands_252 {d : Nat} (hd : 0 ≤ d) : ∀ (n : Nat) {v1 : Int} {m : xm}, xw (am_E L xs bz) d am_m227 0 252 [(0, .ref 78), (1, .int (i32 v1))] [] m (r_stands_252 n v1 m) := by
  intro n
  induction n with
  | zero => intros; exact w_none
  | succ n ih =>
    intro v1 m
    have hk252 := fun (v1 : Int) (m : xm) => @ih v1 m
    unfold r_stands_252
    refine w_iload_n rfl rfl ?_
    refine w_aload_n rfl rfl ?_
    refine w_gfr (r := 101) rfl rfl (Nat.le_of_ble_eq_true rfl) rfl rfl ?_
    refine w_iconst rfl ?_
    refine w_iaload rfl rfl (fun x1 => ?_)
    show xw _ _ _ _ 259 _ _ _ _
    refine w_icmp_ge (tg := 286) rfl rfl rfl rfl ?_ ?_
    · exact w_weak [(0, .ref 78)] rfl ⟨rfl, trivial⟩ (s_r_stands_286 (by omega))
    · refine w_aload_n rfl rfl ?_
      refine w_gfr (r := 110) rfl rfl (Nat.le_of_ble_eq_true rfl) rfl rfl ?_
      refine w_iconst rfl ?_
      refine w_iload_n rfl rfl ?_
      refine w_iadd rfl ?_
      show xw _ _ _ _ 269 _ _ _ _
      refine w_aload_n rfl rfl ?_
      refine w_gfr (r := 103) rfl rfl (Nat.le_of_ble_eq_true rfl) rfl rfl ?_
      refine w_iconst rfl ?_
      refine w_iload_n rfl rfl ?_
      refine w_imul rfl ?_
      refine w_iconst rfl ?_
      show xw _ _ _ _ 277 _ _ _ _
      refine w_iadd rfl ?_
      refine w_iaload rfl rfl (fun x2 => ?_)
      refine w_iastore rfl rfl (fun m3 => ?_)
      refine w_iinc (lsd := [(1, .int (i32 (v1 + 1))), (0, .ref 78)]) rfl (Nat.le_of_ble_eq_true rfl) rfl rfl ?_
      refine w_goto (tg := 252) rfl rfl ?_
      exact w_weak [(0, .ref 78), (1, .int (i32 (v1 + 1)))] rfl ⟨rfl, rfl, trivial⟩ (hk252 (v1 + 1) m3)
theorem s_r_stands_250 {d : Nat} (hd : 0 ≤ d) {m : xm} : xw (am_E L xs bz) d am_m227 0 250 [(0, .ref 78)] [] m (r_stands_250 m) := by
  unfold r_stands_250
  refine w_iconst rfl ?_
  refine w_istore_n (lsd := [(1, .int (i32 0)), (0, .ref 78)]) rfl (Nat.le_of_ble_eq_true rfl) rfl ?_
  exact w_weak [(0, .ref 78), (1, .int (i32 0))] rfl ⟨rfl, rfl, trivial⟩ (s_r_stands_252 (by omega) _)
theorem s_r_stands_231 {d : Nat} (hd : 0 ≤ d) : ∀ (n : Nat) {v1 : Int} {m : xm}, xw (am_E L xs bz) d am_m227 0 231 [(0, .ref 78), (1, .int (i32 v1))] [] m (r_stands_231 n v1 m) := by
  intro n
  induction n with
  | zero => intros; exact w_none
  | succ n ih =>
    intro v1 m
    have hk231 := fun (v1 : Int) (m : xm) => @ih v1 m
    unfold r_stands_231
    refine w_iload_n rfl rfl ?_
    refine w_bipush rfl rfl ?_
    refine w_icmp_ge (tg := 250) rfl rfl rfl rfl ?_ ?_
    · exact w_weak [(0, .ref 78)] rfl ⟨rfl, trivial⟩ (s_r_stands_250 (by omega))
    · refine w_aload_n rfl rfl ?_
      refine w_gfr (r := 110) rfl rfl (Nat.le_of_ble_eq_true rfl) rfl rfl ?_
      refine w_iload_n rfl rfl ?_
      refine w_iconst rfl ?_
      refine w_iastore rfl rfl (fun m1 => ?_)
      show xw _ _ _ _ 244 _ _ _ _
      refine w_iinc (lsd := [(1, .int (i32 (v1 + 1))), (0, .ref 78)]) rfl (Nat.le_of_ble_eq_true rfl) rfl rfl ?_
      refine w_goto (tg := 231) rfl rfl ?_
      exact w_weak [(0, .ref 78), (1, .int (i32 (v1 + 1)))] rfl ⟨rfl, rfl, trivial⟩ (hk231 (v1 + 1) m1)
theorem s_r_stands_229 {d : Nat} (hd : 0 ≤ d) {m : xm} : xw (am_E L xs bz) d am_m227 0 229 [(0, .ref 78)] [] m (r_stands_229 m) := by
  unfold r_stands_229
  refine w_iconst rfl ?_
  refine w_istore_n (lsd := [(1, .int (i32 0)), (0, .ref 78)]) rfl (Nat.le_of_ble_eq_true rfl) rfl ?_
  exact w_weak [(0, .ref 78), (1, .int (i32 0))] rfl ⟨rfl, rfl, trivial⟩ (s_r_stands_231 (by omega) _)
theorem s_r_stands_199 {d : Nat} (hd : 0 ≤ d) : ∀ (n : Nat) {v1 : Int} {m : xm}, xw (am_E L xs bz) d am_m227 0 199 [(0, .ref 78), (1, .int (i32 v1))] [] m (r_stands_199 n v1 m) := by
  intro n
  induction n with
  | zero => intros; exact w_none
  | succ n ih =>
    intro v1 m
    have hk199 := fun (v1 : Int) (m : xm) => @ih v1 m
    unfold r_stands_199
    refine w_iload_n rfl rfl ?_
    refine w_aload_n rfl rfl ?_
    refine w_gfi rfl rfl (Nat.le_of_ble_eq_true rfl) rfl rfl ?_
    refine w_icmp_ge (tg := 229) rfl rfl rfl (w32_ld _ _ _) ?_ ?_
    · exact w_weak [(0, .ref 78)] rfl ⟨rfl, trivial⟩ (s_r_stands_229 (by omega))
    · refine w_aload_n rfl rfl ?_
      refine w_gfr (r := 109) rfl rfl (Nat.le_of_ble_eq_true rfl) rfl rfl ?_
      refine w_sipush rfl rfl ?_
      refine w_iload_n rfl rfl ?_
      refine w_iadd rfl ?_
      show xw _ _ _ _ 216 _ _ _ _
      refine w_aload_n rfl rfl ?_
      refine w_gfr (r := 109) rfl rfl (Nat.le_of_ble_eq_true rfl) rfl rfl ?_
      refine w_iload_n rfl rfl ?_
      refine w_iaload rfl rfl (fun x1 => ?_)
      refine w_iastore rfl rfl (fun m2 => ?_)
      refine w_iinc (lsd := [(1, .int (i32 (v1 + 1))), (0, .ref 78)]) rfl (Nat.le_of_ble_eq_true rfl) rfl rfl ?_
      show xw _ _ _ _ 226 _ _ _ _
      refine w_goto (tg := 199) rfl rfl ?_
      exact w_weak [(0, .ref 78), (1, .int (i32 (v1 + 1)))] rfl ⟨rfl, rfl, trivial⟩ (hk199 (v1 + 1) m2)
theorem s_r_stands_197 {d : Nat} (hd : 0 ≤ d) {m : xm} : xw (am_E L xs bz) d am_m227 0 197 [(0, .ref 78)] [] m (r_stands_197 m) := by
  unfold r_stands_197
  refine w_iconst rfl ?_
  refine w_istore_n (lsd := [(1, .int (i32 0)), (0, .ref 78)]) rfl (Nat.le_of_ble_eq_true rfl) rfl ?_
  exact w_weak [(0, .ref 78), (1, .int (i32 0))] rfl ⟨rfl, rfl, trivial⟩ (s_r_stands_199 (by omega) _)
theorem s_r_stands_155 {d : Nat} (hd : 0 ≤ d) : ∀ (n : Nat) {v1 : Int} {m : xm}, xw (am_E L xs bz) d am_m227 0 155 [(0, .ref 78), (1, .int (i32 v1))] [] m (r_stands_155 n v1 m) := by
  intro n
  induction n with
  | zero => intros; exact w_none
  | succ n ih =>
    intro v1 m
    have hk155 := fun (v1 : Int) (m : xm) => @ih v1 m
    unfold r_stands_155
    refine w_iload_n rfl rfl ?_
    refine w_bipush rfl rfl ?_
    refine w_icmp_ge (tg := 197) rfl rfl rfl rfl ?_ ?_
    · exact w_weak [(0, .ref 78)] rfl ⟨rfl, trivial⟩ (s_r_stands_197 (by omega))
    · refine w_aload_n rfl rfl ?_
      refine w_gfr (r := 107) rfl rfl (Nat.le_of_ble_eq_true rfl) rfl rfl ?_
      refine w_bipush rfl rfl ?_
      refine w_iload_n rfl rfl ?_
      refine w_iadd rfl ?_
      show xw _ _ _ _ 169 _ _ _ _
      refine w_aload_n rfl rfl ?_
      refine w_gfr (r := 107) rfl rfl (Nat.le_of_ble_eq_true rfl) rfl rfl ?_
      refine w_iload_n rfl rfl ?_
      refine w_iaload rfl rfl (fun x1 => ?_)
      refine w_iastore rfl rfl (fun m2 => ?_)
      refine w_aload_n rfl rfl ?_
      show xw _ _ _ _ 177 _ _ _ _
      refine w_gfr (r := 108) rfl rfl (Nat.le_of_ble_eq_true rfl) rfl rfl ?_
      refine w_bipush rfl rfl ?_
      refine w_iload_n rfl rfl ?_
      refine w_iadd rfl ?_
      refine w_aload_n rfl rfl ?_
      refine w_gfr (r := 108) rfl rfl (Nat.le_of_ble_eq_true rfl) rfl rfl ?_
      show xw _ _ _ _ 188 _ _ _ _
      refine w_iload_n rfl rfl ?_
      refine w_iaload rfl rfl (fun x3 => ?_)
      refine w_iastore rfl rfl (fun m4 => ?_)
      refine w_iinc (lsd := [(1, .int (i32 (v1 + 1))), (0, .ref 78)]) rfl (Nat.le_of_ble_eq_true rfl) rfl rfl ?_
      refine w_goto (tg := 155) rfl rfl ?_
      exact w_weak [(0, .ref 78), (1, .int (i32 (v1 + 1)))] rfl ⟨rfl, rfl, trivial⟩ (hk155 (v1 + 1) m4)
theorem s_r_stands_141 {d : Nat} (hd : 0 ≤ d) {m : xm} : xw (am_E L xs bz) d am_m227 0 141 [(0, .ref 78)] [] m (r_stands_141 m) := by
  unfold r_stands_141
  refine w_aload_n rfl rfl ?_
  refine w_gfr (r := 106) rfl rfl (Nat.le_of_ble_eq_true rfl) rfl rfl ?_
  refine w_iconst rfl ?_
  refine w_aload_n rfl rfl ?_
  refine w_gfr (r := 106) rfl rfl (Nat.le_of_ble_eq_true rfl) rfl rfl ?_
  show xw _ _ _ _ 150 _ _ _ _
  refine w_iconst rfl ?_
  refine w_iaload rfl rfl (fun x1 => ?_)
  refine w_iastore rfl rfl (fun m2 => ?_)
  refine w_iconst rfl ?_
  refine w_istore_n (lsd := [(1, .int (i32 0)), (0, .ref 78)]) rfl (Nat.le_of_ble_eq_true rfl) rfl ?_
  exact w_weak [(0, .ref 78), (1, .int (i32 0))] rfl ⟨rfl, rfl, trivial⟩ (s_r_stands_155 (by omega) _)
theorem s_r_stands_116 {d : Nat} (hd : 0 ≤ d) : ∀ (n : Nat) {v1 : Int} {m : xm}, xw (am_E L xs bz) d am_m227 0 116 [(0, .ref 78), (1, .int (i32 v1))] [] m (r_stands_116 n v1 m) := by
  intro n
  induction n with
  | zero => intros; exact w_none
  | succ n ih =>
    intro v1 m
    have hk116 := fun (v1 : Int) (m : xm) => @ih v1 m
    unfold r_stands_116
    refine w_iload_n rfl rfl ?_
    refine w_iconst rfl ?_
    refine w_icmp_ge (tg := 141) rfl rfl rfl rfl ?_ ?_
    · exact w_weak [(0, .ref 78)] rfl ⟨rfl, trivial⟩ (s_r_stands_141 (by omega))
    · refine w_aload_n rfl rfl ?_
      refine w_gfr (r := 105) rfl rfl (Nat.le_of_ble_eq_true rfl) rfl rfl ?_
      refine w_iconst rfl ?_
      refine w_iload_n rfl rfl ?_
      refine w_iadd rfl ?_
      show xw _ _ _ _ 128 _ _ _ _
      refine w_aload_n rfl rfl ?_
      refine w_gfr (r := 105) rfl rfl (Nat.le_of_ble_eq_true rfl) rfl rfl ?_
      refine w_iload_n rfl rfl ?_
      refine w_iaload rfl rfl (fun x1 => ?_)
      refine w_iastore rfl rfl (fun m2 => ?_)
      refine w_iinc (lsd := [(1, .int (i32 (v1 + 1))), (0, .ref 78)]) rfl (Nat.le_of_ble_eq_true rfl) rfl rfl ?_
      show xw _ _ _ _ 138 _ _ _ _
      refine w_goto (tg := 116) rfl rfl ?_
      exact w_weak [(0, .ref 78), (1, .int (i32 (v1 + 1)))] rfl ⟨rfl, rfl, trivial⟩ (hk116 (v1 + 1) m2)
theorem s_r_stands_114 {d : Nat} (hd : 0 ≤ d) {m : xm} : xw (am_E L xs bz) d am_m227 0 114 [(0, .ref 78)] [] m (r_stands_114 m) := by
  unfold r_stands_114
  refine w_iconst rfl ?_
  refine w_istore_n (lsd := [(1, .int (i32 0)), (0, .ref 78)]) rfl (Nat.le_of_ble_eq_true rfl) rfl ?_
  exact w_weak [(0, .ref 78), (1, .int (i32 0))] rfl ⟨rfl, rfl, trivial⟩ (s_r_stands_116 (by omega) _)
theorem s_r_stands_87 {d : Nat} (hd : 0 ≤ d) : ∀ (n : Nat) {v1 : Int} {m : xm}, xw (am_E L xs bz) d am_m227 0 87 [(0, .ref 78), (1, .int (i32 v1))] [] m (r_stands_87 n v1 m) := by
  intro n
  induction n with
  | zero => intros; exact w_none
  | succ n ih =>
    intro v1 m
    have hk87 := fun (v1 : Int) (m : xm) => @ih v1 m
    unfold r_stands_87
    refine w_iload_n rfl rfl ?_
    refine w_bipush rfl rfl ?_
    refine w_icmp_ge (tg := 114) rfl rfl rfl rfl ?_ ?_
    · exact w_weak [(0, .ref 78)] rfl ⟨rfl, trivial⟩ (s_r_stands_114 (by omega))
    · refine w_aload_n rfl rfl ?_
      refine w_gfr (r := 104) rfl rfl (Nat.le_of_ble_eq_true rfl) rfl rfl ?_
      refine w_bipush rfl rfl ?_
      refine w_iload_n rfl rfl ?_
      refine w_iadd rfl ?_
      show xw _ _ _ _ 101 _ _ _ _
      refine w_aload_n rfl rfl ?_
      refine w_gfr (r := 104) rfl rfl (Nat.le_of_ble_eq_true rfl) rfl rfl ?_
      refine w_iload_n rfl rfl ?_
      refine w_iaload rfl rfl (fun x1 => ?_)
      refine w_iastore rfl rfl (fun m2 => ?_)
      refine w_iinc (lsd := [(1, .int (i32 (v1 + 1))), (0, .ref 78)]) rfl (Nat.le_of_ble_eq_true rfl) rfl rfl ?_
      show xw _ _ _ _ 111 _ _ _ _
      refine w_goto (tg := 87) rfl rfl ?_
      exact w_weak [(0, .ref 78), (1, .int (i32 (v1 + 1)))] rfl ⟨rfl, rfl, trivial⟩ (hk87 (v1 + 1) m2)
theorem s_r_stands_85 {d : Nat} (hd : 0 ≤ d) {m : xm} : xw (am_E L xs bz) d am_m227 0 85 [(0, .ref 78)] [] m (r_stands_85 m) := by
  unfold r_stands_85
  refine w_iconst rfl ?_
  refine w_istore_n (lsd := [(1, .int (i32 0)), (0, .ref 78)]) rfl (Nat.le_of_ble_eq_true rfl) rfl ?_
  exact w_weak [(0, .ref 78), (1, .int (i32 0))] rfl ⟨rfl, rfl, trivial⟩ (s_r_stands_87 (by omega) _)
theorem s_r_stands_58 {d : Nat} (hd : 0 ≤ d) : ∀ (n : Nat) {v1 : Int} {m : xm}, xw (am_E L xs bz) d am_m227 0 58 [(0, .ref 78), (1, .int (i32 v1))] [] m (r_stands_58 n v1 m) := by
  intro n
  induction n with
  | zero => intros; exact w_none
  | succ n ih =>
    intro v1 m
    have hk58 := fun (v1 : Int) (m : xm) => @ih v1 m
    unfold r_stands_58
    refine w_iload_n rfl rfl ?_
    refine w_bipush rfl rfl ?_
    refine w_icmp_ge (tg := 85) rfl rfl rfl rfl ?_ ?_
    · exact w_weak [(0, .ref 78)] rfl ⟨rfl, trivial⟩ (s_r_stands_85 (by omega))
    · refine w_aload_n rfl rfl ?_
      refine w_gfr (r := 103) rfl rfl (Nat.le_of_ble_eq_true rfl) rfl rfl ?_
      refine w_bipush rfl rfl ?_
      refine w_iload_n rfl rfl ?_
      refine w_iadd rfl ?_
      show xw _ _ _ _ 72 _ _ _ _
      refine w_aload_n rfl rfl ?_
      refine w_gfr (r := 103) rfl rfl (Nat.le_of_ble_eq_true rfl) rfl rfl ?_
      refine w_iload_n rfl rfl ?_
      refine w_iaload rfl rfl (fun x1 => ?_)
      refine w_iastore rfl rfl (fun m2 => ?_)
      refine w_iinc (lsd := [(1, .int (i32 (v1 + 1))), (0, .ref 78)]) rfl (Nat.le_of_ble_eq_true rfl) rfl rfl ?_
      show xw _ _ _ _ 82 _ _ _ _
      refine w_goto (tg := 58) rfl rfl ?_
      exact w_weak [(0, .ref 78), (1, .int (i32 (v1 + 1)))] rfl ⟨rfl, rfl, trivial⟩ (hk58 (v1 + 1) m2)
theorem s_r_stands_56 {d : Nat} (hd : 0 ≤ d) {m : xm} : xw (am_E L xs bz) d am_m227 0 56 [(0, .ref 78)] [] m (r_stands_56 m) := by
  unfold r_stands_56
  refine w_iconst rfl ?_
  refine w_istore_n (lsd := [(1, .int (i32 0)), (0, .ref 78)]) rfl (Nat.le_of_ble_eq_true rfl) rfl ?_
  exact w_weak [(0, .ref 78), (1, .int (i32 0))] rfl ⟨rfl, rfl, trivial⟩ (s_r_stands_58 (by omega) _)
theorem s_r_stands_29 {d : Nat} (hd : 0 ≤ d) : ∀ (n : Nat) {v1 : Int} {m : xm}, xw (am_E L xs bz) d am_m227 0 29 [(0, .ref 78), (1, .int (i32 v1))] [] m (r_stands_29 n v1 m) := by
  intro n
  induction n with
  | zero => intros; exact w_none
  | succ n ih =>
    intro v1 m
    have hk29 := fun (v1 : Int) (m : xm) => @ih v1 m
    unfold r_stands_29
    refine w_iload_n rfl rfl ?_
    refine w_bipush rfl rfl ?_
    refine w_icmp_ge (tg := 56) rfl rfl rfl rfl ?_ ?_
    · exact w_weak [(0, .ref 78)] rfl ⟨rfl, trivial⟩ (s_r_stands_56 (by omega))
    · refine w_aload_n rfl rfl ?_
      refine w_gfr (r := 102) rfl rfl (Nat.le_of_ble_eq_true rfl) rfl rfl ?_
      refine w_bipush rfl rfl ?_
      refine w_iload_n rfl rfl ?_
      refine w_iadd rfl ?_
      show xw _ _ _ _ 43 _ _ _ _
      refine w_aload_n rfl rfl ?_
      refine w_gfr (r := 102) rfl rfl (Nat.le_of_ble_eq_true rfl) rfl rfl ?_
      refine w_iload_n rfl rfl ?_
      refine w_laload rfl (Nat.le_of_ble_eq_true rfl) rfl (fun x1 => ?_)
      refine w_lastore rfl (Nat.le_of_ble_eq_true rfl) rfl (fun m2 => ?_)
      refine w_iinc (lsd := [(1, .int (i32 (v1 + 1))), (0, .ref 78)]) rfl (Nat.le_of_ble_eq_true rfl) rfl rfl ?_
      show xw _ _ _ _ 53 _ _ _ _
      refine w_goto (tg := 29) rfl rfl ?_
      exact w_weak [(0, .ref 78), (1, .int (i32 (v1 + 1)))] rfl ⟨rfl, rfl, trivial⟩ (hk29 (v1 + 1) m2)
theorem s_r_stands_27 {d : Nat} (hd : 0 ≤ d) {m : xm} : xw (am_E L xs bz) d am_m227 0 27 [(0, .ref 78)] [] m (r_stands_27 m) := by
  unfold r_stands_27
  refine w_iconst rfl ?_
  refine w_istore_n (lsd := [(1, .int (i32 0)), (0, .ref 78)]) rfl (Nat.le_of_ble_eq_true rfl) rfl ?_
  exact w_weak [(0, .ref 78), (1, .int (i32 0))] rfl ⟨rfl, rfl, trivial⟩ (s_r_stands_29 (by omega) _)
theorem s_r_stands_2 {d : Nat} (hd : 0 ≤ d) : ∀ (n : Nat) {v1 : Int} {m : xm}, xw (am_E L xs bz) d am_m227 0 2 [(0, .ref 78), (1, .int (i32 v1))] [] m (r_stands_2 n v1 m) := by
  intro n
  induction n with
  | zero => intros; exact w_none
  | succ n ih =>
    intro v1 m
    have hk2 := fun (v1 : Int) (m : xm) => @ih v1 m
    unfold r_stands_2
    refine w_iload_n rfl rfl ?_
    refine w_iconst rfl ?_
    refine w_icmp_ge (tg := 27) rfl rfl rfl rfl ?_ ?_
    · exact w_weak [(0, .ref 78)] rfl ⟨rfl, trivial⟩ (s_r_stands_27 (by omega))
    · refine w_aload_n rfl rfl ?_
      refine w_gfr (r := 101) rfl rfl (Nat.le_of_ble_eq_true rfl) rfl rfl ?_
      refine w_iconst rfl ?_
      refine w_iload_n rfl rfl ?_
      refine w_iadd rfl ?_
      show xw _ _ _ _ 14 _ _ _ _
      refine w_aload_n rfl rfl ?_
      refine w_gfr (r := 101) rfl rfl (Nat.le_of_ble_eq_true rfl) rfl rfl ?_
      refine w_iload_n rfl rfl ?_
      refine w_iaload rfl rfl (fun x1 => ?_)
      refine w_iastore rfl rfl (fun m2 => ?_)
      refine w_iinc (lsd := [(1, .int (i32 (v1 + 1))), (0, .ref 78)]) rfl (Nat.le_of_ble_eq_true rfl) rfl rfl ?_
      show xw _ _ _ _ 24 _ _ _ _
      refine w_goto (tg := 2) rfl rfl ?_
      exact w_weak [(0, .ref 78), (1, .int (i32 (v1 + 1)))] rfl ⟨rfl, rfl, trivial⟩ (hk2 (v1 + 1) m2)
theorem s_r_stands {d : Nat} {m : xm} (hd : 0 ≤ d) : xw (am_E L xs bz) d am_m227 0 0 [(0, .ref 78)] [] m (r_stands m) := by
  unfold r_stands
  refine w_iconst rfl ?_
  refine w_istore_n (lsd := [(1, .int (i32 0)), (0, .ref 78)]) rfl (Nat.le_of_ble_eq_true rfl) rfl ?_
  exact w_weak [(0, .ref 78), (1, .int (i32 0))] rfl ⟨rfl, rfl, trivial⟩ (s_r_stands_2 (by omega) _)
theorem s_r_look_52 {d : Nat} (hd : 0 ≤ d) {m : xm} : xw (am_E L xs bz) d am_m185 1 52 [(0, .ref 78)] [] m (r_look_52 m) := by
  unfold r_look_52
  refine w_aload_n rfl rfl ?_
  refine w_gfi rfl rfl (Nat.le_of_ble_eq_true rfl) rfl rfl ?_
  refine w_aload_n rfl rfl ?_
  refine w_gfi rfl rfl (Nat.le_of_ble_eq_true rfl) rfl rfl ?_
  refine w_icmp_ge (tg := 75) rfl rfl (w32_ld _ _ _) (w32_ld _ _ _) ?_ ?_
  · refine w_iconst rfl ?_
    exact w_retv rfl rfl
  · refine w_aload_n rfl rfl ?_
    refine w_gfr (r := 79) rfl rfl (Nat.le_of_ble_eq_true rfl) rfl rfl ?_
    refine w_aload_n rfl rfl ?_
    refine w_gfi rfl rfl (Nat.le_of_ble_eq_true rfl) rfl rfl ?_
    refine w_iaload rfl rfl (fun x1 => ?_)
    show xw _ _ _ _ 72 _ _ _ _
    refine w_goto (tg := 76) rfl rfl ?_
    exact w_retv rfl rfl
theorem s_r_look_39 {d : Nat} {k0 : xm → xr} (hd : 0 ≤ d) (hk0 : ∀ (m : xm), xw (am_E L xs bz) d am_m185 1 0 [(0, .ref 78)] [] m (k0 m)) {m : xm} : xw (am_E L xs bz) d am_m185 1 39 [(0, .ref 78)] [] m (r_look_39 k0 m) := by
  unfold r_look_39
  refine w_aload_n rfl rfl ?_
  refine w_dup rfl rfl ?_
  refine w_gfi rfl rfl (Nat.le_of_ble_eq_true rfl) rfl rfl ?_
  refine w_iconst rfl ?_
  refine w_iadd rfl ?_
  show xw _ _ _ _ 46 _ _ _ _
  refine w_pfi rfl rfl (Nat.le_of_ble_eq_true rfl) rfl rfl rfl (fun m1 => ?_)
  refine w_goto (tg := 0) rfl rfl ?_
  exact w_weak [(0, .ref 78)] rfl ⟨rfl, trivial⟩ (hk0 m1)
theorem s_r_look_0 {d : Nat} (hd : 0 ≤ d) : ∀ (n : Nat) {m : xm}, xw (am_E L xs bz) d am_m185 1 0 [(0, .ref 78)] [] m (r_look_0 n m) := by
  intro n
  induction n with
  | zero => intros; exact w_none
  | succ n ih =>
    intro m
    have hk0 := fun (m : xm) => @ih m
    unfold r_look_0
    refine w_aload_n rfl rfl ?_
    refine w_gfi rfl rfl (Nat.le_of_ble_eq_true rfl) rfl rfl ?_
    refine w_aload_n rfl rfl ?_
    refine w_gfi rfl rfl (Nat.le_of_ble_eq_true rfl) rfl rfl ?_
    refine w_icmp_ge (tg := 52) rfl rfl (w32_ld _ _ _) (w32_ld _ _ _) ?_ ?_
    · exact w_weak [(0, .ref 78)] rfl ⟨rfl, trivial⟩ (s_r_look_52 (by omega))
    · refine w_aload_n rfl rfl ?_
      refine w_gfr (r := 79) rfl rfl (Nat.le_of_ble_eq_true rfl) rfl rfl ?_
      refine w_aload_n rfl rfl ?_
      refine w_gfi rfl rfl (Nat.le_of_ble_eq_true rfl) rfl rfl ?_
      refine w_iaload rfl rfl (fun x1 => ?_)
      show xw _ _ _ _ 20 _ _ _ _
      refine w_bipush rfl rfl ?_
      refine w_icmp_eq (tg := 39) rfl rfl rfl rfl ?_ ?_
      · exact w_weak [(0, .ref 78)] rfl ⟨rfl, trivial⟩ (s_r_look_39 (by omega) hk0)
      · refine w_aload_n rfl rfl ?_
        refine w_gfr (r := 79) rfl rfl (Nat.le_of_ble_eq_true rfl) rfl rfl ?_
        refine w_aload_n rfl rfl ?_
        refine w_gfi rfl rfl (Nat.le_of_ble_eq_true rfl) rfl rfl ?_
        refine w_iaload rfl rfl (fun x2 => ?_)
        show xw _ _ _ _ 34 _ _ _ _
        refine w_bipush rfl rfl ?_
        refine w_icmp_ne (tg := 52) rfl rfl rfl rfl ?_ ?_
        · exact w_weak [(0, .ref 78)] rfl ⟨rfl, trivial⟩ (s_r_look_52 (by omega))
        · exact w_weak [(0, .ref 78)] rfl ⟨rfl, trivial⟩ (s_r_look_39 (by omega) hk0)
theorem s_r_look {d : Nat} {m : xm} (hd : 0 ≤ d) : xw (am_E L xs bz) d am_m185 1 0 [(0, .ref 78)] [] m (r_look m) := by
  unfold r_look
  exact w_weak [(0, .ref 78)] rfl ⟨rfl, trivial⟩ (s_r_look_0 (by omega) _)
theorem s_r_isLetter {d : Nat} {v0 : Int} {m : xm} (hd : 0 ≤ d) : xw (am_E L xs bz) d am_m190 1 0 [(0, .int (i32 v0))] [] m (r_isLetter v0 m) := by
  unfold r_isLetter
  refine w_iload_n rfl rfl ?_
  refine w_bipush rfl rfl ?_
  refine w_icmp_lt (tg := 16) rfl rfl rfl rfl ?_ ?_
  · refine w_iconst rfl ?_
    exact w_retv rfl rfl
  · refine w_iload_n rfl rfl ?_
    refine w_bipush rfl rfl ?_
    refine w_icmp_gt (tg := 16) rfl rfl rfl rfl ?_ ?_
    · refine w_iconst rfl ?_
      exact w_retv rfl rfl
    · refine w_iconst rfl ?_
      refine w_goto (tg := 17) rfl rfl ?_
      exact w_retv rfl rfl
theorem s_r_isHere_76 {d : Nat} {v1 : Nat} (hd : 1 ≤ d) (h1 : xca v1 = true) : ∀ (n : Nat) {v3 : Int} {m : xm}, xw (am_E L xs bz) d am_m189 1 76 [(0, .ref 78), (1, .ref v1), (3, .int (i32 v3))] [] m (r_isHere_76 v1 n v3 m) := by
  intro n
  induction n with
  | zero => intros; exact w_none
  | succ n ih =>
    intro v3 m
    have hk76 := fun (v3 : Int) (m : xm) => @ih v3 m
    unfold r_isHere_76
    refine w_iload_n rfl rfl ?_
    refine w_aload_n rfl rfl ?_
    refine w_alen rfl (xca_lt h1) (xca_t4 h1) rfl ?_
    refine w_icmp_ge (tg := 107) rfl rfl rfl (w32_aln _) ?_ ?_
    · refine w_iconst rfl ?_
      exact w_retv rfl rfl
    · refine w_aload_n rfl rfl ?_
      refine w_gfr (r := 79) rfl rfl (Nat.le_of_ble_eq_true rfl) rfl rfl ?_
      refine w_aload_n rfl rfl ?_
      refine w_gfi rfl rfl (Nat.le_of_ble_eq_true rfl) rfl rfl ?_
      refine w_iload_n rfl rfl ?_
      show xw _ _ _ _ 91 _ _ _ _
      refine w_iadd rfl ?_
      refine w_iaload rfl rfl (fun x1 => ?_)
      refine w_aload_n rfl rfl ?_
      refine w_iload_n rfl rfl ?_
      refine w_caload rfl (xca_lt h1) (xca_ty h1) (fun x2 => ?_)
      refine w_icmp_eq (tg := 101) rfl rfl rfl rfl ?_ ?_
      · refine w_iinc (lsd := [(3, .int (i32 (v3 + 1))), (0, .ref 78), (1, .ref v1)]) rfl (Nat.le_of_ble_eq_true rfl) rfl rfl ?_
        refine w_goto (tg := 76) rfl rfl ?_
        exact w_weak [(0, .ref 78), (1, .ref v1), (3, .int (i32 (v3 + 1)))] rfl ⟨rfl, rfl, rfl, trivial⟩ (hk76 (v3 + 1) m)
      · refine w_iconst rfl ?_
        exact w_retv rfl rfl
theorem s_r_isHere_61 {d : Nat} {v1 : Nat} (hd : 1 ≤ d) (h1 : xca v1 = true) {v2 : Int} {m : xm} : xw (am_E L xs bz) d am_m189 1 61 [(0, .ref 78), (1, .ref v1), (2, .int (i32 v2))] [] m (r_isHere_61 v1 v2 m) := by
  unfold r_isHere_61
  refine w_iload_n rfl rfl ?_
  refine w_aload_n rfl rfl ?_
  refine w_gfi rfl rfl (Nat.le_of_ble_eq_true rfl) rfl rfl ?_
  refine w_isub rfl ?_
  refine w_aload_n rfl rfl ?_
  show xw _ _ _ _ 68 _ _ _ _
  refine w_alen rfl (xca_lt h1) (xca_t4 h1) rfl ?_
  refine w_icmp_eq (tg := 74) rfl rfl rfl (w32_aln _) ?_ ?_
  · refine w_iconst rfl ?_
    refine w_istore_n (lsd := [(3, .int (i32 0)), (0, .ref 78), (1, .ref v1), (2, .int (i32 v2))]) rfl (Nat.le_of_ble_eq_true rfl) rfl ?_
    exact w_weak [(0, .ref 78), (1, .ref v1), (3, .int (i32 0))] rfl ⟨rfl, rfl, rfl, trivial⟩ (s_r_isHere_76 (by omega) h1 _)
  · refine w_iconst rfl ?_
    exact w_retv rfl rfl
theorem s_r_isHere_35 {d : Nat} {v1 : Nat} (hd : 1 ≤ d) (h1 : xca v1 = true) : ∀ (n : Nat) {v2 : Int} {m : xm}, xw (am_E L xs bz) d am_m189 1 35 [(0, .ref 78), (1, .ref v1), (2, .int (i32 v2))] [] m (r_isHere_35 v1 n v2 m) := by
  intro n
  induction n with
  | zero => intros; exact w_none
  | succ n ih =>
    intro v2 m
    have hk35 := fun (v2 : Int) (m : xm) => @ih v2 m
    unfold r_isHere_35
    refine w_iload_n rfl rfl ?_
    refine w_aload_n rfl rfl ?_
    refine w_gfi rfl rfl (Nat.le_of_ble_eq_true rfl) rfl rfl ?_
    refine w_icmp_ge (tg := 61) rfl rfl rfl (w32_ld _ _ _) ?_ ?_
    · exact w_weak [(0, .ref 78), (1, .ref v1), (2, .int (i32 v2))] rfl ⟨rfl, rfl, rfl, trivial⟩ (s_r_isHere_61 (by omega) h1)
    · refine w_aload_n rfl rfl ?_
      refine w_gfr (r := 79) rfl rfl (Nat.le_of_ble_eq_true rfl) rfl rfl ?_
      refine w_iload_n rfl rfl ?_
      refine w_iaload rfl rfl (fun x1 => ?_)
      refine w_call1 [.int (i32 x1)] [] (by omega) rfl rfl rfl rfl rfl rfl (Nat.le_of_ble_eq_true rfl) (fun z => by cases z) (Nat.le_of_ble_eq_true rfl) rfl rfl (s_r_isLetter (by omega)) (fun r2 m3 => ?_)
      show xw _ _ _ _ 52 _ _ _ _
      refine w_if_eq (tg := 61) rfl rfl rfl ?_ ?_
      · exact w_weak [(0, .ref 78), (1, .ref v1), (2, .int (i32 v2))] rfl ⟨rfl, rfl, rfl, trivial⟩ (s_r_isHere_61 (by omega) h1)
      · refine w_iinc (lsd := [(2, .int (i32 (v2 + 1))), (0, .ref 78), (1, .ref v1)]) rfl (Nat.le_of_ble_eq_true rfl) rfl rfl ?_
        refine w_goto (tg := 35) rfl rfl ?_
        exact w_weak [(0, .ref 78), (1, .ref v1), (2, .int (i32 (v2 + 1)))] rfl ⟨rfl, rfl, rfl, trivial⟩ (hk35 (v2 + 1) m3)
theorem s_r_isHere {d : Nat} {v1 : Nat} {m : xm} (hd : 1 ≤ d) (h1 : xca v1 = true) : xw (am_E L xs bz) d am_m189 1 0 [(0, .ref 78), (1, .ref v1)] [] m (r_isHere v1 m) := by
  unfold r_isHere
  refine w_aload_n rfl rfl ?_
  refine w_gfi rfl rfl (Nat.le_of_ble_eq_true rfl) rfl rfl ?_
  refine w_if_ne (tg := 28) rfl rfl (w32_ld _ _ _) ?_ ?_
  · refine w_iconst rfl ?_
    exact w_retv rfl rfl
  · refine w_aload_n rfl rfl ?_
    refine w_call1 [.ref 78] [] (by omega) rfl rfl rfl rfl rfl rfl (Nat.le_of_ble_eq_true rfl) (fun _ => xrc_ok rfl) (Nat.le_of_ble_eq_true rfl) rfl rfl (s_r_look (by omega)) (fun r1 m2 => ?_)
    refine w_call1 [.int (i32 r1)] [] (by omega) rfl rfl rfl rfl rfl rfl (Nat.le_of_ble_eq_true rfl) (fun z => by cases z) (Nat.le_of_ble_eq_true rfl) rfl rfl (s_r_isLetter (by omega)) (fun r3 m4 => ?_)
    refine w_if_eq (tg := 28) rfl rfl rfl ?_ ?_
    · refine w_iconst rfl ?_
      exact w_retv rfl rfl
    · refine w_aload_n rfl rfl ?_
      refine w_gfi rfl rfl (Nat.le_of_ble_eq_true rfl) rfl rfl ?_
      refine w_aload_n rfl rfl ?_
      refine w_gfi rfl rfl (Nat.le_of_ble_eq_true rfl) rfl rfl ?_
      refine w_icmp_ne (tg := 30) rfl rfl (w32_ld _ _ _) (w32_ld _ _ _) ?_ ?_
      · refine w_aload_n rfl rfl ?_
        refine w_gfi rfl rfl (Nat.le_of_ble_eq_true rfl) rfl rfl ?_
        refine w_istore_n (lsd := [(2, .int (i32 (ld m4 78 2))), (0, .ref 78), (1, .ref v1)]) rfl (Nat.le_of_ble_eq_true rfl) rfl ?_
        exact w_weak [(0, .ref 78), (1, .ref v1), (2, .int (i32 (ld m4 78 2)))] rfl ⟨rfl, rfl, rfl, trivial⟩ (s_r_isHere_35 (by omega) h1 _)
      · refine w_iconst rfl ?_
        exact w_retv rfl rfl
theorem s_r_takes {d : Nat} {v1 : Nat} {m : xm} (hd : 2 ≤ d) (h1 : xca v1 = true) : xw (am_E L xs bz) d am_m188 1 0 [(0, .ref 78), (1, .ref v1)] [] m (r_takes v1 m) := by
  unfold r_takes
  refine w_aload_n rfl rfl ?_
  refine w_aload_n rfl rfl ?_
  refine w_call1 [.ref 78, .ref v1] [] (by omega) rfl rfl rfl rfl rfl rfl (Nat.le_of_ble_eq_true rfl) (fun _ => xrc_ok rfl) (Nat.le_of_ble_eq_true rfl) rfl rfl (s_r_isHere (by omega) h1) (fun r1 m2 => ?_)
  refine w_if_ne (tg := 10) rfl rfl rfl ?_ ?_
  · refine w_aload_n rfl rfl ?_
    refine w_dup rfl rfl ?_
    refine w_gfi rfl rfl (Nat.le_of_ble_eq_true rfl) rfl rfl ?_
    refine w_aload_n rfl rfl ?_
    refine w_alen rfl (xca_lt h1) (xca_t4 h1) rfl ?_
    show xw _ _ _ _ 17 _ _ _ _
    refine w_iadd rfl ?_
    refine w_pfi rfl rfl (Nat.le_of_ble_eq_true rfl) rfl rfl rfl (fun m3 => ?_)
    refine w_aload_n rfl rfl ?_
    refine w_aload_n rfl rfl ?_
    refine w_gfi rfl rfl (Nat.le_of_ble_eq_true rfl) rfl rfl ?_
    refine w_pfi rfl rfl (Nat.le_of_ble_eq_true rfl) rfl rfl rfl (fun m4 => ?_)
    show xw _ _ _ _ 29 _ _ _ _
    refine w_iconst rfl ?_
    exact w_retv rfl rfl
  · refine w_iconst rfl ?_
    exact w_retv rfl rfl
theorem s_r_fail {d : Nat} {v1 : Int} {v2 : Int} {m : xm} (hd : 0 ≤ d) : xw (am_E L xs bz) d am_m187 0 0 [(0, .ref 78), (1, .int (i32 v1)), (2, .int (i32 v2))] [] m (r_fail v1 v2 m) := by
  unfold r_fail
  refine w_aload_n rfl rfl ?_
  refine w_gfi rfl rfl (Nat.le_of_ble_eq_true rfl) rfl rfl ?_
  refine w_if_eq (tg := 8) rfl rfl (w32_ld _ _ _) ?_ ?_
  · refine w_aload_n rfl rfl ?_
    refine w_iload_n rfl rfl ?_
    refine w_pfi rfl rfl (Nat.le_of_ble_eq_true rfl) rfl rfl rfl (fun m1 => ?_)
    refine w_aload_n rfl rfl ?_
    refine w_iload_n rfl rfl ?_
    show xw _ _ _ _ 15 _ _ _ _
    refine w_pfi rfl rfl (Nat.le_of_ble_eq_true rfl) rfl rfl rfl (fun m2 => ?_)
    exact w_retv (x := 0) rfl rfl
  · exact w_retv (x := 0) rfl rfl
theorem s_r_asks {d : Nat} {v1 : Nat} {m : xm} (hd : 3 ≤ d) (h1 : xca v1 = true) : xw (am_E L xs bz) d am_m197 0 0 [(0, .ref 78), (1, .ref v1)] [] m (r_asks v1 m) := by
  unfold r_asks
  refine w_aload_n rfl rfl ?_
  refine w_gfi rfl rfl (Nat.le_of_ble_eq_true rfl) rfl rfl ?_
  refine w_if_ne (tg := 24) rfl rfl (w32_ld _ _ _) ?_ ?_
  · exact w_retv (x := 0) rfl rfl
  · refine w_aload_n rfl rfl ?_
    refine w_aload_n rfl rfl ?_
    refine w_call1 [.ref 78, .ref v1] [] (by omega) rfl rfl rfl rfl rfl rfl (Nat.le_of_ble_eq_true rfl) (fun _ => xrc_ok rfl) (Nat.le_of_ble_eq_true rfl) rfl rfl (s_r_takes (by omega) h1) (fun r1 m2 => ?_)
    refine w_if_ne (tg := 24) rfl rfl rfl ?_ ?_
    · exact w_retv (x := 0) rfl rfl
    · refine w_aload_n rfl rfl ?_
      refine w_iconst rfl ?_
      refine w_aload_n rfl rfl ?_
      refine w_gfi rfl rfl (Nat.le_of_ble_eq_true rfl) rfl rfl ?_
      refine w_call0 [.ref 78, .int (i32 1), .int (i32 (ld m2 78 2))] [] (by omega) rfl rfl rfl rfl rfl rfl (Nat.le_of_ble_eq_true rfl) (fun _ => xrc_ok rfl) (Nat.le_of_ble_eq_true rfl) rfl rfl (s_r_fail (by omega)) (fun r3 m4 => ?_)
      show xw _ _ _ _ 24 _ _ _ _
      exact w_retv (x := 0) rfl rfl
theorem s_r_isDigit {d : Nat} {v0 : Int} {m : xm} (hd : 0 ≤ d) : xw (am_E L xs bz) d am_m199 1 0 [(0, .int (i32 v0))] [] m (r_isDigit v0 m) := by
  unfold r_isDigit
  refine w_iload_n rfl rfl ?_
  refine w_bipush rfl rfl ?_
  refine w_icmp_lt (tg := 16) rfl rfl rfl rfl ?_ ?_
  · refine w_iconst rfl ?_
    exact w_retv rfl rfl
  · refine w_iload_n rfl rfl ?_
    refine w_bipush rfl rfl ?_
    refine w_icmp_gt (tg := 16) rfl rfl rfl rfl ?_ ?_
    · refine w_iconst rfl ?_
      exact w_retv rfl rfl
    · refine w_iconst rfl ?_
      refine w_goto (tg := 17) rfl rfl ?_
      exact w_retv rfl rfl
theorem s_r_isIn {d : Nat} {v0 : Int} {v2 : Int} {v4 : Int} {m : xm} (hd : 0 ≤ d) : xw (am_E L xs bz) d am_m200 1 0 [(0, .long (i64 v0)), (2, .long (i64 v2)), (4, .long (i64 v4))] [] m (r_isIn v0 v2 v4 m) := by
  unfold r_isIn
  refine w_lload_n rfl rfl ?_
  refine w_lload_n rfl rfl ?_
  refine w_lcmp_lt (tg := 17) rfl rfl rfl rfl rfl ?_ ?_
  · refine w_iconst rfl ?_
    exact w_retv rfl rfl
  · refine w_lload_n rfl rfl ?_
    refine w_lload rfl rfl ?_
    refine w_lcmp_gt (tg := 17) rfl rfl rfl rfl rfl ?_ ?_
    · refine w_iconst rfl ?_
      exact w_retv rfl rfl
    · refine w_iconst rfl ?_
      refine w_goto (tg := 18) rfl rfl ?_
      exact w_retv rfl rfl
theorem s_r_number_30 {d : Nat} (hd : 1 ≤ d) {m : xm} : xw (am_E L xs bz) d am_m198 1 30 [(0, .ref 78)] [] m (r_number_30 m) := by
  unfold r_number_30
  refine w_aload_n rfl rfl ?_
  refine w_iconst rfl ?_
  refine w_aload_n rfl rfl ?_
  refine w_gfi rfl rfl (Nat.le_of_ble_eq_true rfl) rfl rfl ?_
  refine w_call0 [.ref 78, .int (i32 1), .int (i32 (ld m 78 2))] [] (by omega) rfl rfl rfl rfl rfl rfl (Nat.le_of_ble_eq_true rfl) (fun _ => xrc_ok rfl) (Nat.le_of_ble_eq_true rfl) rfl rfl (s_r_fail (by omega)) (fun r1 m2 => ?_)
  show xw _ _ _ _ 39 _ _ _ _
  refine w_iconst rfl ?_
  exact w_retv rfl rfl
theorem s_r_number_129 {d : Nat} (hd : 1 ≤ d) {v1 : Int} {v2 : Int} {v3 : Int} {v4 : Int} {m : xm} : xw (am_E L xs bz) d am_m198 1 129 [(0, .ref 78), (1, .int (i32 v1)), (2, .int (i32 v2)), (3, .int (i32 v3)), (4, .int (i32 v4))] [] m (r_number_129 v1 v2 v3 v4 m) := by
  unfold r_number_129
  refine w_aload_n rfl rfl ?_
  refine w_aload_n rfl rfl ?_
  refine w_gfi rfl rfl (Nat.le_of_ble_eq_true rfl) rfl rfl ?_
  refine w_pfi rfl rfl (Nat.le_of_ble_eq_true rfl) rfl rfl rfl (fun m1 => ?_)
  refine w_iload rfl rfl ?_
  show xw _ _ _ _ 139 _ _ _ _
  refine w_i2l (x' := w32 v4) rfl rfl ?_
  refine w_iload_n rfl rfl ?_
  refine w_i2l (x' := w32 v1) rfl rfl ?_
  refine w_iload_n rfl rfl ?_
  refine w_i2l (x' := w32 v2) rfl rfl ?_
  refine w_call1 [.long (i64 (w32 v4)), .long (i64 (w32 v1)), .long (i64 (w32 v2))] [] (by omega) rfl rfl rfl rfl rfl rfl (Nat.le_of_ble_eq_true rfl) (fun z => by cases z) (Nat.le_of_ble_eq_true rfl) rfl rfl (s_r_isIn (by omega)) (fun r2 m3 => ?_)
  show xw _ _ _ _ 147 _ _ _ _
  refine w_if_ne (tg := 156) rfl rfl rfl ?_ ?_
  · refine w_iload rfl rfl ?_
    exact w_retv rfl rfl
  · refine w_aload_n rfl rfl ?_
    refine w_iconst rfl ?_
    refine w_iload_n rfl rfl ?_
    refine w_call0 [.ref 78, .int (i32 2), .int (i32 v3)] [] (by omega) rfl rfl rfl rfl rfl rfl (Nat.le_of_ble_eq_true rfl) (fun _ => xrc_ok rfl) (Nat.le_of_ble_eq_true rfl) rfl rfl (s_r_fail (by omega)) (fun r4 m5 => ?_)
    refine w_iload rfl rfl ?_
    show xw _ _ _ _ 158 _ _ _ _
    exact w_retv rfl rfl
theorem s_r_number_85 {d : Nat} (hd : 1 ≤ d) {m : xm} : xw (am_E L xs bz) d am_m198 1 85 [(0, .ref 78)] [] m (r_number_85 m) := by
  unfold r_number_85
  refine w_aload_n rfl rfl ?_
  refine w_iconst rfl ?_
  refine w_aload_n rfl rfl ?_
  refine w_gfi rfl rfl (Nat.le_of_ble_eq_true rfl) rfl rfl ?_
  refine w_call0 [.ref 78, .int (i32 1), .int (i32 (ld m 78 2))] [] (by omega) rfl rfl rfl rfl rfl rfl (Nat.le_of_ble_eq_true rfl) (fun _ => xrc_ok rfl) (Nat.le_of_ble_eq_true rfl) rfl rfl (s_r_fail (by omega)) (fun r1 m2 => ?_)
  show xw _ _ _ _ 94 _ _ _ _
  refine w_iconst rfl ?_
  exact w_retv rfl rfl
theorem s_r_number_49 {d : Nat} (hd : 1 ≤ d) : ∀ (n : Nat) {v1 : Int} {v2 : Int} {v3 : Int} {v4 : Int} {m : xm}, xw (am_E L xs bz) d am_m198 1 49 [(0, .ref 78), (1, .int (i32 v1)), (2, .int (i32 v2)), (3, .int (i32 v3)), (4, .int (i32 v4))] [] m (r_number_49 n v1 v2 v3 v4 m) := by
  intro n
  induction n with
  | zero => intros; exact w_none
  | succ n ih =>
    intro v1 v2 v3 v4 m
    have hk49 := fun (v1 v2 v3 v4 : Int) (m : xm) => @ih v1 v2 v3 v4 m
    unfold r_number_49
    refine w_aload_n rfl rfl ?_
    refine w_gfi rfl rfl (Nat.le_of_ble_eq_true rfl) rfl rfl ?_
    refine w_aload_n rfl rfl ?_
    refine w_gfi rfl rfl (Nat.le_of_ble_eq_true rfl) rfl rfl ?_
    refine w_icmp_ge (tg := 129) rfl rfl (w32_ld _ _ _) (w32_ld _ _ _) ?_ ?_
    · exact w_weak [(0, .ref 78), (1, .int (i32 v1)), (2, .int (i32 v2)), (3, .int (i32 v3)), (4, .int (i32 v4))] rfl ⟨rfl, rfl, rfl, rfl, rfl, trivial⟩ (s_r_number_129 (by omega))
    · refine w_aload_n rfl rfl ?_
      refine w_gfr (r := 79) rfl rfl (Nat.le_of_ble_eq_true rfl) rfl rfl ?_
      refine w_aload_n rfl rfl ?_
      refine w_gfi rfl rfl (Nat.le_of_ble_eq_true rfl) rfl rfl ?_
      refine w_iaload rfl rfl (fun x1 => ?_)
      show xw _ _ _ _ 69 _ _ _ _
      refine w_call1 [.int (i32 x1)] [] (by omega) rfl rfl rfl rfl rfl rfl (Nat.le_of_ble_eq_true rfl) (fun z => by cases z) (Nat.le_of_ble_eq_true rfl) rfl rfl (s_r_isDigit (by omega)) (fun r2 m3 => ?_)
      refine w_if_eq (tg := 129) rfl rfl rfl ?_ ?_
      · exact w_weak [(0, .ref 78), (1, .int (i32 v1)), (2, .int (i32 v2)), (3, .int (i32 v3)), (4, .int (i32 v4))] rfl ⟨rfl, rfl, rfl, rfl, rfl, trivial⟩ (s_r_number_129 (by omega))
      · refine w_aload_n rfl rfl ?_
        refine w_gfi rfl rfl (Nat.le_of_ble_eq_true rfl) rfl rfl ?_
        refine w_iload_n rfl rfl ?_
        refine w_isub rfl ?_
        refine w_iconst rfl ?_
        show xw _ _ _ _ 82 _ _ _ _
        refine w_icmp_ne (tg := 96) rfl rfl rfl rfl ?_ ?_
        · refine w_bipush rfl rfl ?_
          refine w_iload rfl rfl ?_
          refine w_imul rfl ?_
          refine w_aload_n rfl rfl ?_
          refine w_gfr (r := 79) rfl rfl (Nat.le_of_ble_eq_true rfl) rfl rfl ?_
          show xw _ _ _ _ 105 _ _ _ _
          refine w_aload_n rfl rfl ?_
          refine w_gfi rfl rfl (Nat.le_of_ble_eq_true rfl) rfl rfl ?_
          refine w_iaload rfl rfl (fun x4 => ?_)
          refine w_iadd rfl ?_
          refine w_bipush rfl rfl ?_
          refine w_isub rfl ?_
          show xw _ _ _ _ 114 _ _ _ _
          refine w_letI (fun x5 => ?_)
          refine w_istore (lsd := [(4, .int (i32 x5)), (0, .ref 78), (1, .int (i32 v1)), (2, .int (i32 v2)), (3, .int (i32 v3))]) rfl (Nat.le_of_ble_eq_true rfl) rfl ?_
          refine w_aload_n rfl rfl ?_
          refine w_dup rfl rfl ?_
          refine w_gfi rfl rfl (Nat.le_of_ble_eq_true rfl) rfl rfl ?_
          refine w_iconst rfl ?_
          refine w_iadd rfl ?_
          show xw _ _ _ _ 123 _ _ _ _
          refine w_pfi rfl rfl (Nat.le_of_ble_eq_true rfl) rfl rfl rfl (fun m6 => ?_)
          refine w_goto (tg := 49) rfl rfl ?_
          exact w_weak [(0, .ref 78), (1, .int (i32 v1)), (2, .int (i32 v2)), (3, .int (i32 v3)), (4, .int (i32 x5))] rfl ⟨rfl, rfl, rfl, rfl, rfl, trivial⟩ (hk49 v1 v2 v3 x5 m6)
        · exact w_weak [(0, .ref 78)] rfl ⟨rfl, trivial⟩ (s_r_number_85 (by omega))
theorem s_r_number {d : Nat} {v1 : Int} {v2 : Int} {m : xm} (hd : 1 ≤ d) : xw (am_E L xs bz) d am_m198 1 0 [(0, .ref 78), (1, .int (i32 v1)), (2, .int (i32 v2))] [] m (r_number v1 v2 m) := by
  unfold r_number
  refine w_aload_n rfl rfl ?_
  refine w_gfi rfl rfl (Nat.le_of_ble_eq_true rfl) rfl rfl ?_
  refine w_if_eq (tg := 9) rfl rfl (w32_ld _ _ _) ?_ ?_
  · refine w_aload_n rfl rfl ?_
    refine w_call1 [.ref 78] [] (by omega) rfl rfl rfl rfl rfl rfl (Nat.le_of_ble_eq_true rfl) (fun _ => xrc_ok rfl) (Nat.le_of_ble_eq_true rfl) rfl rfl (s_r_look (by omega)) (fun r1 m2 => ?_)
    refine w_call1 [.int (i32 r1)] [] (by omega) rfl rfl rfl rfl rfl rfl (Nat.le_of_ble_eq_true rfl) (fun z => by cases z) (Nat.le_of_ble_eq_true rfl) rfl rfl (s_r_isDigit (by omega)) (fun r3 m4 => ?_)
    refine w_if_eq (tg := 30) rfl rfl rfl ?_ ?_
    · exact w_weak [(0, .ref 78)] rfl ⟨rfl, trivial⟩ (s_r_number_30 (by omega))
    · refine w_aload_n rfl rfl ?_
      refine w_gfi rfl rfl (Nat.le_of_ble_eq_true rfl) rfl rfl ?_
      refine w_aload_n rfl rfl ?_
      refine w_gfi rfl rfl (Nat.le_of_ble_eq_true rfl) rfl rfl ?_
      refine w_icmp_ne (tg := 41) rfl rfl (w32_ld _ _ _) (w32_ld _ _ _) ?_ ?_
      · refine w_aload_n rfl rfl ?_
        refine w_gfi rfl rfl (Nat.le_of_ble_eq_true rfl) rfl rfl ?_
        refine w_istore_n (lsd := [(3, .int (i32 (ld m4 78 2))), (0, .ref 78), (1, .int (i32 v1)), (2, .int (i32 v2))]) rfl (Nat.le_of_ble_eq_true rfl) rfl ?_
        refine w_iconst rfl ?_
        refine w_istore (lsd := [(4, .int (i32 0)), (3, .int (i32 (ld m4 78 2))), (0, .ref 78), (1, .int (i32 v1)), (2, .int (i32 v2))]) rfl (Nat.le_of_ble_eq_true rfl) rfl ?_
        exact w_weak [(0, .ref 78), (1, .int (i32 v1)), (2, .int (i32 v2)), (3, .int (i32 (ld m4 78 2))), (4, .int (i32 0))] rfl ⟨rfl, rfl, rfl, rfl, rfl, trivial⟩ (s_r_number_49 (by omega) _)
      · exact w_weak [(0, .ref 78)] rfl ⟨rfl, trivial⟩ (s_r_number_30 (by omega))
  · refine w_iconst rfl ?_
    exact w_retv rfl rfl
theorem s_r_takesSign {d : Nat} {v1 : Int} {m : xm} (hd : 1 ≤ d) : xw (am_E L xs bz) d am_m214 1 0 [(0, .ref 78), (1, .int (i32 v1))] [] m (r_takesSign v1 m) := by
  unfold r_takesSign
  refine w_aload_n rfl rfl ?_
  refine w_gfi rfl rfl (Nat.le_of_ble_eq_true rfl) rfl rfl ?_
  refine w_if_ne (tg := 15) rfl rfl (w32_ld _ _ _) ?_ ?_
  · refine w_iconst rfl ?_
    exact w_retv rfl rfl
  · refine w_aload_n rfl rfl ?_
    refine w_call1 [.ref 78] [] (by omega) rfl rfl rfl rfl rfl rfl (Nat.le_of_ble_eq_true rfl) (fun _ => xrc_ok rfl) (Nat.le_of_ble_eq_true rfl) rfl rfl (s_r_look (by omega)) (fun r1 m2 => ?_)
    refine w_iload_n rfl rfl ?_
    refine w_icmp_eq (tg := 17) rfl rfl rfl rfl ?_ ?_
    · refine w_aload_n rfl rfl ?_
      refine w_dup rfl rfl ?_
      refine w_gfi rfl rfl (Nat.le_of_ble_eq_true rfl) rfl rfl ?_
      refine w_iconst rfl ?_
      refine w_iadd rfl ?_
      show xw _ _ _ _ 24 _ _ _ _
      refine w_pfi rfl rfl (Nat.le_of_ble_eq_true rfl) rfl rfl rfl (fun m3 => ?_)
      refine w_iconst rfl ?_
      exact w_retv rfl rfl
    · refine w_iconst rfl ?_
      exact w_retv rfl rfl
theorem s_r_asksSign {d : Nat} {v1 : Int} {m : xm} (hd : 2 ≤ d) : xw (am_E L xs bz) d am_m213 0 0 [(0, .ref 78), (1, .int (i32 v1))] [] m (r_asksSign v1 m) := by
  unfold r_asksSign
  refine w_aload_n rfl rfl ?_
  refine w_gfi rfl rfl (Nat.le_of_ble_eq_true rfl) rfl rfl ?_
  refine w_if_ne (tg := 24) rfl rfl (w32_ld _ _ _) ?_ ?_
  · exact w_retv (x := 0) rfl rfl
  · refine w_aload_n rfl rfl ?_
    refine w_iload_n rfl rfl ?_
    refine w_call1 [.ref 78, .int (i32 v1)] [] (by omega) rfl rfl rfl rfl rfl rfl (Nat.le_of_ble_eq_true rfl) (fun _ => xrc_ok rfl) (Nat.le_of_ble_eq_true rfl) rfl rfl (s_r_takesSign (by omega)) (fun r1 m2 => ?_)
    refine w_if_ne (tg := 24) rfl rfl rfl ?_ ?_
    · exact w_retv (x := 0) rfl rfl
    · refine w_aload_n rfl rfl ?_
      refine w_iconst rfl ?_
      refine w_aload_n rfl rfl ?_
      refine w_gfi rfl rfl (Nat.le_of_ble_eq_true rfl) rfl rfl ?_
      refine w_call0 [.ref 78, .int (i32 1), .int (i32 (ld m2 78 2))] [] (by omega) rfl rfl rfl rfl rfl rfl (Nat.le_of_ble_eq_true rfl) (fun _ => xrc_ok rfl) (Nat.le_of_ble_eq_true rfl) rfl rfl (s_r_fail (by omega)) (fun r3 m4 => ?_)
      show xw _ _ _ _ 24 _ _ _ _
      exact w_retv (x := 0) rfl rfl
theorem s_r_isFull_23 {d : Nat} (hd : 1 ≤ d) {m : xm} : xw (am_E L xs bz) d am_m192 1 23 [(0, .ref 78)] [] m (r_isFull_23 m) := by
  unfold r_isFull_23
  refine w_aload_n rfl rfl ?_
  refine w_gfi rfl rfl (Nat.le_of_ble_eq_true rfl) rfl rfl ?_
  refine w_if_eq (tg := 34) rfl rfl (w32_ld _ _ _) ?_ ?_
  · refine w_iconst rfl ?_
    exact w_retv rfl rfl
  · refine w_iconst rfl ?_
    refine w_goto (tg := 35) rfl rfl ?_
    exact w_retv rfl rfl
theorem s_r_isFull {d : Nat} {v1 : Int} {v2 : Int} {v3 : Int} {m : xm} (hd : 1 ≤ d) : xw (am_E L xs bz) d am_m192 1 0 [(0, .ref 78), (1, .int (i32 v1)), (2, .int (i32 v2)), (3, .int (i32 v3))] [] m (r_isFull v1 v2 v3 m) := by
  unfold r_isFull
  refine w_aload_n rfl rfl ?_
  refine w_gfi rfl rfl (Nat.le_of_ble_eq_true rfl) rfl rfl ?_
  refine w_if_ne (tg := 23) rfl rfl (w32_ld _ _ _) ?_ ?_
  · exact w_weak [(0, .ref 78)] rfl ⟨rfl, trivial⟩ (s_r_isFull_23 (by omega))
  · refine w_aload_n rfl rfl ?_
    refine w_gfr (r := 101) rfl rfl (Nat.le_of_ble_eq_true rfl) rfl rfl ?_
    refine w_iload_n rfl rfl ?_
    refine w_iaload rfl rfl (fun x1 => ?_)
    refine w_iload_n rfl rfl ?_
    show xw _ _ _ _ 14 _ _ _ _
    refine w_icmp_ne (tg := 23) rfl rfl rfl rfl ?_ ?_
    · exact w_weak [(0, .ref 78)] rfl ⟨rfl, trivial⟩ (s_r_isFull_23 (by omega))
    · refine w_aload_n rfl rfl ?_
      refine w_iconst rfl ?_
      refine w_iload_n rfl rfl ?_
      refine w_call0 [.ref 78, .int (i32 5), .int (i32 v3)] [] (by omega) rfl rfl rfl rfl rfl rfl (Nat.le_of_ble_eq_true rfl) (fun _ => xrc_ok rfl) (Nat.le_of_ble_eq_true rfl) rfl rfl (s_r_fail (by omega)) (fun r2 m3 => ?_)
      exact w_weak [(0, .ref 78)] rfl ⟨rfl, trivial⟩ (s_r_isFull_23 (by omega))
theorem s_r_isOwnHere_255 {d : Nat} (hd : 2 ≤ d) {s0 : Int} {m : xm} : xw (am_E L xs bz) d am_m195 1 255 [] [.int (i32 s0)] m (r_isOwnHere_255 s0 m) := by
  unfold r_isOwnHere_255
  refine w_letI (fun x1 => ?_)
  refine w_istore_n (lsd := [(1, .int (i32 x1))]) rfl (Nat.le_of_ble_eq_true rfl) rfl ?_
  refine w_iload_n rfl rfl ?_
  exact w_retb rfl rfl
theorem s_r_isOwnHere_250 {d : Nat} (hd : 2 ≤ d) {m : xm} : xw (am_E L xs bz) d am_m195 1 250 [] [] m (r_isOwnHere_250 m) := by
  unfold r_isOwnHere_250
  refine w_iconst rfl ?_
  refine w_goto (tg := 255) rfl rfl ?_
  exact w_weak [] rfl trivial (s_r_isOwnHere_255 (by omega))
theorem s_r_isOwnHere_223 {d : Nat} (hd : 2 ≤ d) {s0 : Int} {m : xm} : xw (am_E L xs bz) d am_m195 1 223 [(0, .ref 78)] [.int (i32 s0)] m (r_isOwnHere_223 s0 m) := by
  unfold r_isOwnHere_223
  refine w_letI (fun x1 => ?_)
  refine w_istore_n (lsd := [(1, .int (i32 x1)), (0, .ref 78)]) rfl (Nat.le_of_ble_eq_true rfl) rfl ?_
  refine w_iload_n rfl rfl ?_
  refine w_if_ne (tg := 250) rfl rfl rfl ?_ ?_
  · exact w_weak [] rfl trivial (s_r_isOwnHere_250 (by omega))
  · refine w_aload_n rfl rfl ?_
    refine w_aload_n rfl rfl ?_
    refine w_gfr (r := 99) rfl rfl (Nat.le_of_ble_eq_true rfl) rfl rfl ?_
    refine w_call1 [.ref 78, .ref 99] [] (by omega) rfl rfl rfl rfl rfl rfl (Nat.le_of_ble_eq_true rfl) (fun _ => xrc_ok rfl) (Nat.le_of_ble_eq_true rfl) rfl rfl (s_r_isHere (by omega) rfl) (fun r2 m3 => ?_)
    refine w_if_ne (tg := 250) rfl rfl rfl ?_ ?_
    · exact w_weak [] rfl trivial (s_r_isOwnHere_250 (by omega))
    · refine w_aload_n rfl rfl ?_
      refine w_aload_n rfl rfl ?_
      refine w_gfr (r := 100) rfl rfl (Nat.le_of_ble_eq_true rfl) rfl rfl ?_
      refine w_call1 [.ref 78, .ref 100] [] (by omega) rfl rfl rfl rfl rfl rfl (Nat.le_of_ble_eq_true rfl) (fun _ => xrc_ok rfl) (Nat.le_of_ble_eq_true rfl) rfl rfl (s_r_isHere (by omega) rfl) (fun r4 m5 => ?_)
      refine w_if_eq (tg := 254) rfl rfl rfl ?_ ?_
      · refine w_iconst rfl ?_
        exact w_weak [] rfl trivial (s_r_isOwnHere_255 (by omega))
      · exact w_weak [] rfl trivial (s_r_isOwnHere_250 (by omega))
theorem s_r_isOwnHere_218 {d : Nat} (hd : 2 ≤ d) {m : xm} : xw (am_E L xs bz) d am_m195 1 218 [(0, .ref 78)] [] m (r_isOwnHere_218 m) := by
  unfold r_isOwnHere_218
  refine w_iconst rfl ?_
  refine w_goto (tg := 223) rfl rfl ?_
  exact w_weak [(0, .ref 78)] rfl ⟨rfl, trivial⟩ (s_r_isOwnHere_223 (by omega))
theorem s_r_isOwnHere_147 {d : Nat} (hd : 2 ≤ d) {s0 : Int} {m : xm} : xw (am_E L xs bz) d am_m195 1 147 [(0, .ref 78)] [.int (i32 s0)] m (r_isOwnHere_147 s0 m) := by
  unfold r_isOwnHere_147
  refine w_letI (fun x1 => ?_)
  refine w_istore_n (lsd := [(1, .int (i32 x1)), (0, .ref 78)]) rfl (Nat.le_of_ble_eq_true rfl) rfl ?_
  refine w_iload_n rfl rfl ?_
  refine w_if_ne (tg := 218) rfl rfl rfl ?_ ?_
  · exact w_weak [(0, .ref 78)] rfl ⟨rfl, trivial⟩ (s_r_isOwnHere_218 (by omega))
  · refine w_aload_n rfl rfl ?_
    refine w_aload_n rfl rfl ?_
    refine w_gfr (r := 93) rfl rfl (Nat.le_of_ble_eq_true rfl) rfl rfl ?_
    refine w_call1 [.ref 78, .ref 93] [] (by omega) rfl rfl rfl rfl rfl rfl (Nat.le_of_ble_eq_true rfl) (fun _ => xrc_ok rfl) (Nat.le_of_ble_eq_true rfl) rfl rfl (s_r_isHere (by omega) rfl) (fun r2 m3 => ?_)
    refine w_if_ne (tg := 218) rfl rfl rfl ?_ ?_
    · exact w_weak [(0, .ref 78)] rfl ⟨rfl, trivial⟩ (s_r_isOwnHere_218 (by omega))
    · refine w_aload_n rfl rfl ?_
      refine w_aload_n rfl rfl ?_
      refine w_gfr (r := 94) rfl rfl (Nat.le_of_ble_eq_true rfl) rfl rfl ?_
      refine w_call1 [.ref 78, .ref 94] [] (by omega) rfl rfl rfl rfl rfl rfl (Nat.le_of_ble_eq_true rfl) (fun _ => xrc_ok rfl) (Nat.le_of_ble_eq_true rfl) rfl rfl (s_r_isHere (by omega) rfl) (fun r4 m5 => ?_)
      refine w_if_ne (tg := 218) rfl rfl rfl ?_ ?_
      · exact w_weak [(0, .ref 78)] rfl ⟨rfl, trivial⟩ (s_r_isOwnHere_218 (by omega))
      · refine w_aload_n rfl rfl ?_
        refine w_aload_n rfl rfl ?_
        refine w_gfr (r := 95) rfl rfl (Nat.le_of_ble_eq_true rfl) rfl rfl ?_
        refine w_call1 [.ref 78, .ref 95] [] (by omega) rfl rfl rfl rfl rfl rfl (Nat.le_of_ble_eq_true rfl) (fun _ => xrc_ok rfl) (Nat.le_of_ble_eq_true rfl) rfl rfl (s_r_isHere (by omega) rfl) (fun r6 m7 => ?_)
        refine w_if_ne (tg := 218) rfl rfl rfl ?_ ?_
        · exact w_weak [(0, .ref 78)] rfl ⟨rfl, trivial⟩ (s_r_isOwnHere_218 (by omega))
        · refine w_aload_n rfl rfl ?_
          refine w_aload_n rfl rfl ?_
          refine w_gfr (r := 96) rfl rfl (Nat.le_of_ble_eq_true rfl) rfl rfl ?_
          refine w_call1 [.ref 78, .ref 96] [] (by omega) rfl rfl rfl rfl rfl rfl (Nat.le_of_ble_eq_true rfl) (fun _ => xrc_ok rfl) (Nat.le_of_ble_eq_true rfl) rfl rfl (s_r_isHere (by omega) rfl) (fun r8 m9 => ?_)
          refine w_if_ne (tg := 218) rfl rfl rfl ?_ ?_
          · exact w_weak [(0, .ref 78)] rfl ⟨rfl, trivial⟩ (s_r_isOwnHere_218 (by omega))
          · refine w_aload_n rfl rfl ?_
            refine w_aload_n rfl rfl ?_
            refine w_gfr (r := 97) rfl rfl (Nat.le_of_ble_eq_true rfl) rfl rfl ?_
            refine w_call1 [.ref 78, .ref 97] [] (by omega) rfl rfl rfl rfl rfl rfl (Nat.le_of_ble_eq_true rfl) (fun _ => xrc_ok rfl) (Nat.le_of_ble_eq_true rfl) rfl rfl (s_r_isHere (by omega) rfl) (fun r10 m11 => ?_)
            refine w_if_ne (tg := 218) rfl rfl rfl ?_ ?_
            · exact w_weak [(0, .ref 78)] rfl ⟨rfl, trivial⟩ (s_r_isOwnHere_218 (by omega))
            · refine w_aload_n rfl rfl ?_
              refine w_aload_n rfl rfl ?_
              refine w_gfr (r := 98) rfl rfl (Nat.le_of_ble_eq_true rfl) rfl rfl ?_
              refine w_call1 [.ref 78, .ref 98] [] (by omega) rfl rfl rfl rfl rfl rfl (Nat.le_of_ble_eq_true rfl) (fun _ => xrc_ok rfl) (Nat.le_of_ble_eq_true rfl) rfl rfl (s_r_isHere (by omega) rfl) (fun r12 m13 => ?_)
              refine w_if_eq (tg := 222) rfl rfl rfl ?_ ?_
              · refine w_iconst rfl ?_
                exact w_weak [(0, .ref 78)] rfl ⟨rfl, trivial⟩ (s_r_isOwnHere_223 (by omega))
              · exact w_weak [(0, .ref 78)] rfl ⟨rfl, trivial⟩ (s_r_isOwnHere_218 (by omega))
theorem s_r_isOwnHere_142 {d : Nat} (hd : 2 ≤ d) {m : xm} : xw (am_E L xs bz) d am_m195 1 142 [(0, .ref 78)] [] m (r_isOwnHere_142 m) := by
  unfold r_isOwnHere_142
  refine w_iconst rfl ?_
  refine w_goto (tg := 147) rfl rfl ?_
  exact w_weak [(0, .ref 78)] rfl ⟨rfl, trivial⟩ (s_r_isOwnHere_147 (by omega))
theorem s_r_isOwnHere_71 {d : Nat} (hd : 2 ≤ d) {s0 : Int} {m : xm} : xw (am_E L xs bz) d am_m195 1 71 [(0, .ref 78)] [.int (i32 s0)] m (r_isOwnHere_71 s0 m) := by
  unfold r_isOwnHere_71
  refine w_letI (fun x1 => ?_)
  refine w_istore_n (lsd := [(1, .int (i32 x1)), (0, .ref 78)]) rfl (Nat.le_of_ble_eq_true rfl) rfl ?_
  refine w_iload_n rfl rfl ?_
  refine w_if_ne (tg := 142) rfl rfl rfl ?_ ?_
  · exact w_weak [(0, .ref 78)] rfl ⟨rfl, trivial⟩ (s_r_isOwnHere_142 (by omega))
  · refine w_aload_n rfl rfl ?_
    refine w_aload_n rfl rfl ?_
    refine w_gfr (r := 87) rfl rfl (Nat.le_of_ble_eq_true rfl) rfl rfl ?_
    refine w_call1 [.ref 78, .ref 87] [] (by omega) rfl rfl rfl rfl rfl rfl (Nat.le_of_ble_eq_true rfl) (fun _ => xrc_ok rfl) (Nat.le_of_ble_eq_true rfl) rfl rfl (s_r_isHere (by omega) rfl) (fun r2 m3 => ?_)
    refine w_if_ne (tg := 142) rfl rfl rfl ?_ ?_
    · exact w_weak [(0, .ref 78)] rfl ⟨rfl, trivial⟩ (s_r_isOwnHere_142 (by omega))
    · refine w_aload_n rfl rfl ?_
      refine w_aload_n rfl rfl ?_
      refine w_gfr (r := 88) rfl rfl (Nat.le_of_ble_eq_true rfl) rfl rfl ?_
      refine w_call1 [.ref 78, .ref 88] [] (by omega) rfl rfl rfl rfl rfl rfl (Nat.le_of_ble_eq_true rfl) (fun _ => xrc_ok rfl) (Nat.le_of_ble_eq_true rfl) rfl rfl (s_r_isHere (by omega) rfl) (fun r4 m5 => ?_)
      refine w_if_ne (tg := 142) rfl rfl rfl ?_ ?_
      · exact w_weak [(0, .ref 78)] rfl ⟨rfl, trivial⟩ (s_r_isOwnHere_142 (by omega))
      · refine w_aload_n rfl rfl ?_
        refine w_aload_n rfl rfl ?_
        refine w_gfr (r := 89) rfl rfl (Nat.le_of_ble_eq_true rfl) rfl rfl ?_
        refine w_call1 [.ref 78, .ref 89] [] (by omega) rfl rfl rfl rfl rfl rfl (Nat.le_of_ble_eq_true rfl) (fun _ => xrc_ok rfl) (Nat.le_of_ble_eq_true rfl) rfl rfl (s_r_isHere (by omega) rfl) (fun r6 m7 => ?_)
        refine w_if_ne (tg := 142) rfl rfl rfl ?_ ?_
        · exact w_weak [(0, .ref 78)] rfl ⟨rfl, trivial⟩ (s_r_isOwnHere_142 (by omega))
        · refine w_aload_n rfl rfl ?_
          refine w_aload_n rfl rfl ?_
          refine w_gfr (r := 90) rfl rfl (Nat.le_of_ble_eq_true rfl) rfl rfl ?_
          refine w_call1 [.ref 78, .ref 90] [] (by omega) rfl rfl rfl rfl rfl rfl (Nat.le_of_ble_eq_true rfl) (fun _ => xrc_ok rfl) (Nat.le_of_ble_eq_true rfl) rfl rfl (s_r_isHere (by omega) rfl) (fun r8 m9 => ?_)
          refine w_if_ne (tg := 142) rfl rfl rfl ?_ ?_
          · exact w_weak [(0, .ref 78)] rfl ⟨rfl, trivial⟩ (s_r_isOwnHere_142 (by omega))
          · refine w_aload_n rfl rfl ?_
            refine w_aload_n rfl rfl ?_
            refine w_gfr (r := 91) rfl rfl (Nat.le_of_ble_eq_true rfl) rfl rfl ?_
            refine w_call1 [.ref 78, .ref 91] [] (by omega) rfl rfl rfl rfl rfl rfl (Nat.le_of_ble_eq_true rfl) (fun _ => xrc_ok rfl) (Nat.le_of_ble_eq_true rfl) rfl rfl (s_r_isHere (by omega) rfl) (fun r10 m11 => ?_)
            refine w_if_ne (tg := 142) rfl rfl rfl ?_ ?_
            · exact w_weak [(0, .ref 78)] rfl ⟨rfl, trivial⟩ (s_r_isOwnHere_142 (by omega))
            · refine w_aload_n rfl rfl ?_
              refine w_aload_n rfl rfl ?_
              refine w_gfr (r := 92) rfl rfl (Nat.le_of_ble_eq_true rfl) rfl rfl ?_
              refine w_call1 [.ref 78, .ref 92] [] (by omega) rfl rfl rfl rfl rfl rfl (Nat.le_of_ble_eq_true rfl) (fun _ => xrc_ok rfl) (Nat.le_of_ble_eq_true rfl) rfl rfl (s_r_isHere (by omega) rfl) (fun r12 m13 => ?_)
              refine w_if_eq (tg := 146) rfl rfl rfl ?_ ?_
              · refine w_iconst rfl ?_
                exact w_weak [(0, .ref 78)] rfl ⟨rfl, trivial⟩ (s_r_isOwnHere_147 (by omega))
              · exact w_weak [(0, .ref 78)] rfl ⟨rfl, trivial⟩ (s_r_isOwnHere_142 (by omega))
theorem s_r_isOwnHere_66 {d : Nat} (hd : 2 ≤ d) {m : xm} : xw (am_E L xs bz) d am_m195 1 66 [(0, .ref 78)] [] m (r_isOwnHere_66 m) := by
  unfold r_isOwnHere_66
  refine w_iconst rfl ?_
  refine w_goto (tg := 71) rfl rfl ?_
  exact w_weak [(0, .ref 78)] rfl ⟨rfl, trivial⟩ (s_r_isOwnHere_71 (by omega))
theorem s_r_isOwnHere {d : Nat} {m : xm} (hd : 2 ≤ d) : xw (am_E L xs bz) d am_m195 1 0 [(0, .ref 78)] [] m (r_isOwnHere m) := by
  unfold r_isOwnHere
  refine w_aload_n rfl rfl ?_
  refine w_aload_n rfl rfl ?_
  refine w_gfr (r := 81) rfl rfl (Nat.le_of_ble_eq_true rfl) rfl rfl ?_
  refine w_call1 [.ref 78, .ref 81] [] (by omega) rfl rfl rfl rfl rfl rfl (Nat.le_of_ble_eq_true rfl) (fun _ => xrc_ok rfl) (Nat.le_of_ble_eq_true rfl) rfl rfl (s_r_isHere (by omega) rfl) (fun r1 m2 => ?_)
  refine w_if_ne (tg := 66) rfl rfl rfl ?_ ?_
  · exact w_weak [(0, .ref 78)] rfl ⟨rfl, trivial⟩ (s_r_isOwnHere_66 (by omega))
  · refine w_aload_n rfl rfl ?_
    refine w_aload_n rfl rfl ?_
    refine w_gfr (r := 82) rfl rfl (Nat.le_of_ble_eq_true rfl) rfl rfl ?_
    refine w_call1 [.ref 78, .ref 82] [] (by omega) rfl rfl rfl rfl rfl rfl (Nat.le_of_ble_eq_true rfl) (fun _ => xrc_ok rfl) (Nat.le_of_ble_eq_true rfl) rfl rfl (s_r_isHere (by omega) rfl) (fun r3 m4 => ?_)
    refine w_if_ne (tg := 66) rfl rfl rfl ?_ ?_
    · exact w_weak [(0, .ref 78)] rfl ⟨rfl, trivial⟩ (s_r_isOwnHere_66 (by omega))
    · refine w_aload_n rfl rfl ?_
      refine w_aload_n rfl rfl ?_
      refine w_gfr (r := 83) rfl rfl (Nat.le_of_ble_eq_true rfl) rfl rfl ?_
      refine w_call1 [.ref 78, .ref 83] [] (by omega) rfl rfl rfl rfl rfl rfl (Nat.le_of_ble_eq_true rfl) (fun _ => xrc_ok rfl) (Nat.le_of_ble_eq_true rfl) rfl rfl (s_r_isHere (by omega) rfl) (fun r5 m6 => ?_)
      refine w_if_ne (tg := 66) rfl rfl rfl ?_ ?_
      · exact w_weak [(0, .ref 78)] rfl ⟨rfl, trivial⟩ (s_r_isOwnHere_66 (by omega))
      · refine w_aload_n rfl rfl ?_
        refine w_aload_n rfl rfl ?_
        refine w_gfr (r := 84) rfl rfl (Nat.le_of_ble_eq_true rfl) rfl rfl ?_
        refine w_call1 [.ref 78, .ref 84] [] (by omega) rfl rfl rfl rfl rfl rfl (Nat.le_of_ble_eq_true rfl) (fun _ => xrc_ok rfl) (Nat.le_of_ble_eq_true rfl) rfl rfl (s_r_isHere (by omega) rfl) (fun r7 m8 => ?_)
        refine w_if_ne (tg := 66) rfl rfl rfl ?_ ?_
        · exact w_weak [(0, .ref 78)] rfl ⟨rfl, trivial⟩ (s_r_isOwnHere_66 (by omega))
        · refine w_aload_n rfl rfl ?_
          refine w_aload_n rfl rfl ?_
          refine w_gfr (r := 85) rfl rfl (Nat.le_of_ble_eq_true rfl) rfl rfl ?_
          refine w_call1 [.ref 78, .ref 85] [] (by omega) rfl rfl rfl rfl rfl rfl (Nat.le_of_ble_eq_true rfl) (fun _ => xrc_ok rfl) (Nat.le_of_ble_eq_true rfl) rfl rfl (s_r_isHere (by omega) rfl) (fun r9 m10 => ?_)
          refine w_if_ne (tg := 66) rfl rfl rfl ?_ ?_
          · exact w_weak [(0, .ref 78)] rfl ⟨rfl, trivial⟩ (s_r_isOwnHere_66 (by omega))
          · refine w_aload_n rfl rfl ?_
            refine w_aload_n rfl rfl ?_
            refine w_gfr (r := 86) rfl rfl (Nat.le_of_ble_eq_true rfl) rfl rfl ?_
            refine w_call1 [.ref 78, .ref 86] [] (by omega) rfl rfl rfl rfl rfl rfl (Nat.le_of_ble_eq_true rfl) (fun _ => xrc_ok rfl) (Nat.le_of_ble_eq_true rfl) rfl rfl (s_r_isHere (by omega) rfl) (fun r11 m12 => ?_)
            refine w_if_eq (tg := 70) rfl rfl rfl ?_ ?_
            · refine w_iconst rfl ?_
              exact w_weak [(0, .ref 78)] rfl ⟨rfl, trivial⟩ (s_r_isOwnHere_71 (by omega))
            · exact w_weak [(0, .ref 78)] rfl ⟨rfl, trivial⟩ (s_r_isOwnHere_66 (by omega))
theorem s_r_name_37 {d : Nat} (hd : 3 ≤ d) {m : xm} : xw (am_E L xs bz) d am_m194 2 37 [(0, .ref 78)] [] m (r_name_37 m) := by
  unfold r_name_37
  refine w_aload_n rfl rfl ?_
  refine w_iconst rfl ?_
  refine w_aload_n rfl rfl ?_
  refine w_gfi rfl rfl (Nat.le_of_ble_eq_true rfl) rfl rfl ?_
  refine w_call0 [.ref 78, .int (i32 1), .int (i32 (ld m 78 2))] [] (by omega) rfl rfl rfl rfl rfl rfl (Nat.le_of_ble_eq_true rfl) (fun _ => xrc_ok rfl) (Nat.le_of_ble_eq_true rfl) rfl rfl (s_r_fail (by omega)) (fun r1 m2 => ?_)
  show xw _ _ _ _ 46 _ _ _ _
  refine w_lconst (z := 0) rfl rfl ?_
  exact w_retv rfl rfl
theorem s_r_name_145 {d : Nat} (hd : 3 ≤ d) {v1 : Int} {m : xm} : xw (am_E L xs bz) d am_m194 2 145 [(0, .ref 78), (1, .long (i64 v1))] [] m (r_name_145 v1 m) := by
  unfold r_name_145
  refine w_aload_n rfl rfl ?_
  refine w_aload_n rfl rfl ?_
  refine w_gfi rfl rfl (Nat.le_of_ble_eq_true rfl) rfl rfl ?_
  refine w_pfi rfl rfl (Nat.le_of_ble_eq_true rfl) rfl rfl rfl (fun m1 => ?_)
  refine w_lload_n rfl rfl ?_
  show xw _ _ _ _ 154 _ _ _ _
  exact w_retv rfl rfl
theorem s_r_name_98 {d : Nat} (hd : 3 ≤ d) {m : xm} : xw (am_E L xs bz) d am_m194 2 98 [(0, .ref 78)] [] m (r_name_98 m) := by
  unfold r_name_98
  refine w_aload_n rfl rfl ?_
  refine w_iconst rfl ?_
  refine w_aload_n rfl rfl ?_
  refine w_gfi rfl rfl (Nat.le_of_ble_eq_true rfl) rfl rfl ?_
  refine w_call0 [.ref 78, .int (i32 1), .int (i32 (ld m 78 2))] [] (by omega) rfl rfl rfl rfl rfl rfl (Nat.le_of_ble_eq_true rfl) (fun _ => xrc_ok rfl) (Nat.le_of_ble_eq_true rfl) rfl rfl (s_r_fail (by omega)) (fun r1 m2 => ?_)
  show xw _ _ _ _ 107 _ _ _ _
  refine w_lconst (z := 0) rfl rfl ?_
  exact w_retv rfl rfl
theorem s_r_name_58 {d : Nat} (hd : 3 ≤ d) : ∀ (n : Nat) {v1 : Int} {m : xm}, xw (am_E L xs bz) d am_m194 2 58 [(0, .ref 78), (1, .long (i64 v1))] [] m (r_name_58 n v1 m) := by
  intro n
  induction n with
  | zero => intros; exact w_none
  | succ n ih =>
    intro v1 m
    have hk58 := fun (v1 : Int) (m : xm) => @ih v1 m
    unfold r_name_58
    refine w_aload_n rfl rfl ?_
    refine w_gfi rfl rfl (Nat.le_of_ble_eq_true rfl) rfl rfl ?_
    refine w_aload_n rfl rfl ?_
    refine w_gfi rfl rfl (Nat.le_of_ble_eq_true rfl) rfl rfl ?_
    refine w_icmp_ge (tg := 145) rfl rfl (w32_ld _ _ _) (w32_ld _ _ _) ?_ ?_
    · exact w_weak [(0, .ref 78), (1, .long (i64 v1))] rfl ⟨rfl, rfl, trivial⟩ (s_r_name_145 (by omega))
    · refine w_aload_n rfl rfl ?_
      refine w_gfr (r := 79) rfl rfl (Nat.le_of_ble_eq_true rfl) rfl rfl ?_
      refine w_aload_n rfl rfl ?_
      refine w_gfi rfl rfl (Nat.le_of_ble_eq_true rfl) rfl rfl ?_
      refine w_iaload rfl rfl (fun x1 => ?_)
      show xw _ _ _ _ 78 _ _ _ _
      refine w_call1 [.int (i32 x1)] [] (by omega) rfl rfl rfl rfl rfl rfl (Nat.le_of_ble_eq_true rfl) (fun z => by cases z) (Nat.le_of_ble_eq_true rfl) rfl rfl (s_r_isLetter (by omega)) (fun r2 m3 => ?_)
      refine w_if_eq (tg := 145) rfl rfl rfl ?_ ?_
      · exact w_weak [(0, .ref 78), (1, .long (i64 v1))] rfl ⟨rfl, rfl, trivial⟩ (s_r_name_145 (by omega))
      · refine w_aload_n rfl rfl ?_
        refine w_gfi rfl rfl (Nat.le_of_ble_eq_true rfl) rfl rfl ?_
        refine w_aload_n rfl rfl ?_
        refine w_gfi rfl rfl (Nat.le_of_ble_eq_true rfl) rfl rfl ?_
        refine w_isub rfl ?_
        show xw _ _ _ _ 93 _ _ _ _
        refine w_bipush rfl rfl ?_
        refine w_icmp_ne (tg := 109) rfl rfl rfl rfl ?_ ?_
        · refine w_ldc2w (z := 27) rfl rfl rfl ?_
          refine w_lload_n rfl rfl ?_
          refine w_lmul rfl ?_
          refine w_aload_n rfl rfl ?_
          refine w_gfr (r := 79) rfl rfl (Nat.le_of_ble_eq_true rfl) rfl rfl ?_
          show xw _ _ _ _ 118 _ _ _ _
          refine w_aload_n rfl rfl ?_
          refine w_gfi rfl rfl (Nat.le_of_ble_eq_true rfl) rfl rfl ?_
          refine w_iaload rfl rfl (fun x4 => ?_)
          refine w_i2l (x' := w32 x4) rfl rfl ?_
          refine w_ladd rfl ?_
          refine w_ldc2w (z := 97) rfl rfl rfl ?_
          show xw _ _ _ _ 128 _ _ _ _
          refine w_lsub rfl ?_
          refine w_lconst (z := 1) rfl rfl ?_
          refine w_ladd rfl ?_
          refine w_letL (fun x5 => ?_)
          refine w_lstore_n (lsd := [(1, .long (i64 x5)), (0, .ref 78)]) rfl (Nat.le_of_ble_eq_true rfl) rfl ?_
          refine w_aload_n rfl rfl ?_
          refine w_dup rfl rfl ?_
          show xw _ _ _ _ 134 _ _ _ _
          refine w_gfi rfl rfl (Nat.le_of_ble_eq_true rfl) rfl rfl ?_
          refine w_iconst rfl ?_
          refine w_iadd rfl ?_
          refine w_pfi rfl rfl (Nat.le_of_ble_eq_true rfl) rfl rfl rfl (fun m6 => ?_)
          refine w_goto (tg := 58) rfl rfl ?_
          exact w_weak [(0, .ref 78), (1, .long (i64 x5))] rfl ⟨rfl, rfl, trivial⟩ (hk58 x5 m6)
        · exact w_weak [(0, .ref 78)] rfl ⟨rfl, trivial⟩ (s_r_name_98 (by omega))
theorem s_r_name {d : Nat} {m : xm} (hd : 3 ≤ d) : xw (am_E L xs bz) d am_m194 2 0 [(0, .ref 78)] [] m (r_name m) := by
  unfold r_name
  refine w_aload_n rfl rfl ?_
  refine w_gfi rfl rfl (Nat.le_of_ble_eq_true rfl) rfl rfl ?_
  refine w_if_eq (tg := 9) rfl rfl (w32_ld _ _ _) ?_ ?_
  · refine w_aload_n rfl rfl ?_
    refine w_call1 [.ref 78] [] (by omega) rfl rfl rfl rfl rfl rfl (Nat.le_of_ble_eq_true rfl) (fun _ => xrc_ok rfl) (Nat.le_of_ble_eq_true rfl) rfl rfl (s_r_look (by omega)) (fun r1 m2 => ?_)
    refine w_call1 [.int (i32 r1)] [] (by omega) rfl rfl rfl rfl rfl rfl (Nat.le_of_ble_eq_true rfl) (fun z => by cases z) (Nat.le_of_ble_eq_true rfl) rfl rfl (s_r_isLetter (by omega)) (fun r3 m4 => ?_)
    refine w_if_eq (tg := 37) rfl rfl rfl ?_ ?_
    · exact w_weak [(0, .ref 78)] rfl ⟨rfl, trivial⟩ (s_r_name_37 (by omega))
    · refine w_aload_n rfl rfl ?_
      refine w_gfi rfl rfl (Nat.le_of_ble_eq_true rfl) rfl rfl ?_
      refine w_aload_n rfl rfl ?_
      refine w_gfi rfl rfl (Nat.le_of_ble_eq_true rfl) rfl rfl ?_
      refine w_icmp_eq (tg := 37) rfl rfl (w32_ld _ _ _) (w32_ld _ _ _) ?_ ?_
      · exact w_weak [(0, .ref 78)] rfl ⟨rfl, trivial⟩ (s_r_name_37 (by omega))
      · refine w_aload_n rfl rfl ?_
        refine w_call1 [.ref 78] [] (by omega) rfl rfl rfl rfl rfl rfl (Nat.le_of_ble_eq_true rfl) (fun _ => xrc_ok rfl) (Nat.le_of_ble_eq_true rfl) rfl rfl (s_r_isOwnHere (by omega)) (fun r5 m6 => ?_)
        refine w_if_eq (tg := 48) rfl rfl rfl ?_ ?_
        · refine w_aload_n rfl rfl ?_
          refine w_aload_n rfl rfl ?_
          refine w_gfi rfl rfl (Nat.le_of_ble_eq_true rfl) rfl rfl ?_
          refine w_pfi rfl rfl (Nat.le_of_ble_eq_true rfl) rfl rfl rfl (fun m7 => ?_)
          refine w_lconst (z := 0) rfl rfl ?_
          show xw _ _ _ _ 57 _ _ _ _
          refine w_lstore_n (lsd := [(1, .long (i64 0)), (0, .ref 78)]) rfl (Nat.le_of_ble_eq_true rfl) rfl ?_
          exact w_weak [(0, .ref 78), (1, .long (i64 0))] rfl ⟨rfl, rfl, trivial⟩ (s_r_name_58 (by omega) _)
        · exact w_weak [(0, .ref 78)] rfl ⟨rfl, trivial⟩ (s_r_name_37 (by omega))
  · refine w_lconst (z := 0) rfl rfl ?_
    exact w_retv rfl rfl
theorem s_r_nameOf_3 {d : Nat} (hd : 0 ≤ d) : ∀ (n : Nat) {v1 : Int} {v2 : Int} {v4 : Int} {m : xm}, xw (am_E L xs bz) d am_m196 1 3 [(0, .ref 78), (1, .int (i32 v1)), (2, .long (i64 v2)), (4, .int (i32 v4))] [] m (r_nameOf_3 n v1 v2 v4 m) := by
  intro n
  induction n with
  | zero => intros; exact w_none
  | succ n ih =>
    intro v1 v2 v4 m
    have hk3 := fun (v1 v2 v4 : Int) (m : xm) => @ih v1 v2 v4 m
    unfold r_nameOf_3
    refine w_iload rfl rfl ?_
    refine w_aload_n rfl rfl ?_
    refine w_gfr (r := 101) rfl rfl (Nat.le_of_ble_eq_true rfl) rfl rfl ?_
    refine w_iload_n rfl rfl ?_
    refine w_iaload rfl rfl (fun x1 => ?_)
    show xw _ _ _ _ 11 _ _ _ _
    refine w_icmp_ge (tg := 40) rfl rfl rfl rfl ?_ ?_
    · refine w_iconst rfl ?_
      exact w_retv rfl rfl
    · refine w_aload_n rfl rfl ?_
      refine w_gfr (r := 102) rfl rfl (Nat.le_of_ble_eq_true rfl) rfl rfl ?_
      refine w_bipush rfl rfl ?_
      refine w_iload_n rfl rfl ?_
      refine w_imul rfl ?_
      show xw _ _ _ _ 22 _ _ _ _
      refine w_iload rfl rfl ?_
      refine w_iadd rfl ?_
      refine w_laload rfl (Nat.le_of_ble_eq_true rfl) rfl (fun x2 => ?_)
      refine w_lload_n rfl rfl ?_
      refine w_lcmp_ne (tg := 34) rfl rfl rfl rfl rfl ?_ ?_
      · refine w_iinc (lsd := [(4, .int (i32 (v4 + 1))), (0, .ref 78), (1, .int (i32 v1)), (2, .long (i64 v2))]) rfl (Nat.le_of_ble_eq_true rfl) rfl rfl ?_
        refine w_goto (tg := 3) rfl rfl ?_
        exact w_weak [(0, .ref 78), (1, .int (i32 v1)), (2, .long (i64 v2)), (4, .int (i32 (v4 + 1)))] rfl ⟨rfl, rfl, rfl, rfl, trivial⟩ (hk3 v1 v2 (v4 + 1) m)
      · refine w_iload rfl rfl ?_
        exact w_retv rfl rfl
theorem s_r_nameOf {d : Nat} {v1 : Int} {v2 : Int} {m : xm} (hd : 0 ≤ d) : xw (am_E L xs bz) d am_m196 1 0 [(0, .ref 78), (1, .int (i32 v1)), (2, .long (i64 v2))] [] m (r_nameOf v1 v2 m) := by
  unfold r_nameOf
  refine w_iconst rfl ?_
  refine w_istore (lsd := [(4, .int (i32 0)), (0, .ref 78), (1, .int (i32 v1)), (2, .long (i64 v2))]) rfl (Nat.le_of_ble_eq_true rfl) rfl ?_
  exact w_weak [(0, .ref 78), (1, .int (i32 v1)), (2, .long (i64 v2)), (4, .int (i32 0))] rfl ⟨rfl, rfl, rfl, rfl, trivial⟩ (s_r_nameOf_3 (by omega) _)
theorem s_r_newName_38 {d : Nat} {k7 : Int → Int → xm → xr} (hd : 4 ≤ d) (hk7 : ∀ (v1 v3 : Int) (m : xm), xw (am_E L xs bz) d am_m193 2 7 [(0, .ref 78), (1, .long (i64 v1)), (3, .int (i32 v3))] [] m (k7 v1 v3 m)) {v1 : Int} {v3 : Int} {m : xm} : xw (am_E L xs bz) d am_m193 2 38 [(0, .ref 78), (1, .long (i64 v1)), (3, .int (i32 v3))] [] m (r_newName_38 k7 v1 v3 m) := by
  unfold r_newName_38
  refine w_iinc (lsd := [(3, .int (i32 (v3 + 1))), (0, .ref 78), (1, .long (i64 v1))]) rfl (Nat.le_of_ble_eq_true rfl) rfl rfl ?_
  refine w_goto (tg := 7) rfl rfl ?_
  exact w_weak [(0, .ref 78), (1, .long (i64 v1)), (3, .int (i32 (v3 + 1)))] rfl ⟨rfl, rfl, rfl, trivial⟩ (hk7 v1 (v3 + 1) m)
theorem s_r_newName_7 {d : Nat} (hd : 4 ≤ d) : ∀ (n : Nat) {v1 : Int} {v3 : Int} {m : xm}, xw (am_E L xs bz) d am_m193 2 7 [(0, .ref 78), (1, .long (i64 v1)), (3, .int (i32 v3))] [] m (r_newName_7 n v1 v3 m) := by
  intro n
  induction n with
  | zero => intros; exact w_none
  | succ n ih =>
    intro v1 v3 m
    have hk7 := fun (v1 v3 : Int) (m : xm) => @ih v1 v3 m
    unfold r_newName_7
    refine w_iload_n rfl rfl ?_
    refine w_iconst rfl ?_
    refine w_icmp_ge (tg := 44) rfl rfl rfl rfl ?_ ?_
    · refine w_lload_n rfl rfl ?_
      exact w_retv rfl rfl
    · refine w_aload_n rfl rfl ?_
      refine w_gfi rfl rfl (Nat.le_of_ble_eq_true rfl) rfl rfl ?_
      refine w_if_ne (tg := 38) rfl rfl (w32_ld _ _ _) ?_ ?_
      · exact w_weak [(0, .ref 78), (1, .long (i64 v1)), (3, .int (i32 v3))] rfl ⟨rfl, rfl, rfl, trivial⟩ (s_r_newName_38 (by omega) hk7)
      · refine w_aload_n rfl rfl ?_
        refine w_iload_n rfl rfl ?_
        refine w_lload_n rfl rfl ?_
        refine w_call1 [.ref 78, .int (i32 v3), .long (i64 v1)] [] (by omega) rfl rfl rfl rfl rfl rfl (Nat.le_of_ble_eq_true rfl) (fun _ => xrc_ok rfl) (Nat.le_of_ble_eq_true rfl) rfl rfl (s_r_nameOf (by omega)) (fun r1 m2 => ?_)
        refine w_iconst rfl ?_
        show xw _ _ _ _ 26 _ _ _ _
        refine w_icmp_eq (tg := 38) rfl rfl rfl rfl ?_ ?_
        · exact w_weak [(0, .ref 78), (1, .long (i64 v1)), (3, .int (i32 v3))] rfl ⟨rfl, rfl, rfl, trivial⟩ (s_r_newName_38 (by omega) hk7)
        · refine w_aload_n rfl rfl ?_
          refine w_iconst rfl ?_
          refine w_aload_n rfl rfl ?_
          refine w_gfi rfl rfl (Nat.le_of_ble_eq_true rfl) rfl rfl ?_
          refine w_call0 [.ref 78, .int (i32 3), .int (i32 (ld m2 78 30))] [] (by omega) rfl rfl rfl rfl rfl rfl (Nat.le_of_ble_eq_true rfl) (fun _ => xrc_ok rfl) (Nat.le_of_ble_eq_true rfl) rfl rfl (s_r_fail (by omega)) (fun r3 m4 => ?_)
          exact w_weak [(0, .ref 78), (1, .long (i64 v1)), (3, .int (i32 v3))] rfl ⟨rfl, rfl, rfl, trivial⟩ (s_r_newName_38 (by omega) hk7)
theorem s_r_newName {d : Nat} {m : xm} (hd : 4 ≤ d) : xw (am_E L xs bz) d am_m193 2 0 [(0, .ref 78)] [] m (r_newName m) := by
  unfold r_newName
  refine w_aload_n rfl rfl ?_
  refine w_call2 [.ref 78] [] (by omega) rfl rfl rfl rfl rfl rfl (Nat.le_of_ble_eq_true rfl) (fun _ => xrc_ok rfl) (Nat.le_of_ble_eq_true rfl) rfl rfl (s_r_name (by omega)) (fun r1 m2 => ?_)
  refine w_lstore_n (lsd := [(1, .long (i64 r1)), (0, .ref 78)]) rfl (Nat.le_of_ble_eq_true rfl) rfl ?_
  refine w_iconst rfl ?_
  refine w_istore_n (lsd := [(3, .int (i32 0)), (1, .long (i64 r1)), (0, .ref 78)]) rfl (Nat.le_of_ble_eq_true rfl) rfl ?_
  exact w_weak [(0, .ref 78), (1, .long (i64 r1)), (3, .int (i32 0))] rfl ⟨rfl, rfl, rfl, trivial⟩ (s_r_newName_7 (by omega) _)
theorem s_r_oneOf_45 {d : Nat} (hd : 4 ≤ d) {v5 : Int} {m : xm} : xw (am_E L xs bz) d am_m202 1 45 [(0, .ref 78), (5, .int (i32 v5))] [] m (r_oneOf_45 v5 m) := by
  unfold r_oneOf_45
  refine w_aload_n rfl rfl ?_
  refine w_gfi rfl rfl (Nat.le_of_ble_eq_true rfl) rfl rfl ?_
  refine w_if_ne (tg := 57) rfl rfl (w32_ld _ _ _) ?_ ?_
  · refine w_iconst rfl ?_
    exact w_retv rfl rfl
  · refine w_iload rfl rfl ?_
    refine w_goto (tg := 58) rfl rfl ?_
    exact w_retv rfl rfl
theorem s_r_oneOf_36 {d : Nat} (hd : 4 ≤ d) {v5 : Int} {m : xm} : xw (am_E L xs bz) d am_m202 1 36 [(0, .ref 78), (5, .int (i32 v5))] [] m (r_oneOf_36 v5 m) := by
  unfold r_oneOf_36
  refine w_aload_n rfl rfl ?_
  refine w_iconst rfl ?_
  refine w_aload_n rfl rfl ?_
  refine w_gfi rfl rfl (Nat.le_of_ble_eq_true rfl) rfl rfl ?_
  refine w_call0 [.ref 78, .int (i32 3), .int (i32 (ld m 78 30))] [] (by omega) rfl rfl rfl rfl rfl rfl (Nat.le_of_ble_eq_true rfl) (fun _ => xrc_ok rfl) (Nat.le_of_ble_eq_true rfl) rfl rfl (s_r_fail (by omega)) (fun r1 m2 => ?_)
  exact w_weak [(0, .ref 78), (5, .int (i32 v5))] rfl ⟨rfl, rfl, trivial⟩ (s_r_oneOf_45 (by omega))
theorem s_r_oneOf {d : Nat} {v1 : Int} {v2 : Int} {m : xm} (hd : 4 ≤ d) : xw (am_E L xs bz) d am_m202 1 0 [(0, .ref 78), (1, .int (i32 v1)), (2, .int (i32 v2))] [] m (r_oneOf v1 v2 m) := by
  unfold r_oneOf
  refine w_aload_n rfl rfl ?_
  refine w_call2 [.ref 78] [] (by omega) rfl rfl rfl rfl rfl rfl (Nat.le_of_ble_eq_true rfl) (fun _ => xrc_ok rfl) (Nat.le_of_ble_eq_true rfl) rfl rfl (s_r_name (by omega)) (fun r1 m2 => ?_)
  refine w_lstore_n (lsd := [(3, .long (i64 r1)), (0, .ref 78), (1, .int (i32 v1)), (2, .int (i32 v2))]) rfl (Nat.le_of_ble_eq_true rfl) rfl ?_
  refine w_aload_n rfl rfl ?_
  refine w_iload_n rfl rfl ?_
  show xw _ _ _ _ 7 _ _ _ _
  refine w_lload_n rfl rfl ?_
  refine w_call1 [.ref 78, .int (i32 v1), .long (i64 r1)] [] (by omega) rfl rfl rfl rfl rfl rfl (Nat.le_of_ble_eq_true rfl) (fun _ => xrc_ok rfl) (Nat.le_of_ble_eq_true rfl) rfl rfl (s_r_nameOf (by omega)) (fun r3 m4 => ?_)
  refine w_istore (lsd := [(5, .int (i32 r3)), (3, .long (i64 r1)), (0, .ref 78), (1, .int (i32 v1)), (2, .int (i32 v2))]) rfl (Nat.le_of_ble_eq_true rfl) rfl ?_
  refine w_aload_n rfl rfl ?_
  refine w_gfi rfl rfl (Nat.le_of_ble_eq_true rfl) rfl rfl ?_
  refine w_if_ne (tg := 45) rfl rfl (w32_ld _ _ _) ?_ ?_
  · exact w_weak [(0, .ref 78), (5, .int (i32 r3))] rfl ⟨rfl, rfl, trivial⟩ (s_r_oneOf_45 (by omega))
  · refine w_iload rfl rfl ?_
    refine w_iconst rfl ?_
    refine w_icmp_eq (tg := 36) rfl rfl rfl rfl ?_ ?_
    · exact w_weak [(0, .ref 78), (5, .int (i32 r3))] rfl ⟨rfl, rfl, trivial⟩ (s_r_oneOf_36 (by omega))
    · refine w_iload_n rfl rfl ?_
      refine w_iload rfl rfl ?_
      refine w_ishr rfl ?_
      refine w_iconst rfl ?_
      refine w_iand rfl ?_
      show xw _ _ _ _ 32 _ _ _ _
      refine w_iconst rfl ?_
      refine w_icmp_ne (tg := 45) rfl rfl (w32_of _) rfl ?_ ?_
      · exact w_weak [(0, .ref 78), (5, .int (i32 r3))] rfl ⟨rfl, rfl, trivial⟩ (s_r_oneOf_45 (by omega))
      · exact w_weak [(0, .ref 78), (5, .int (i32 r3))] rfl ⟨rfl, rfl, trivial⟩ (s_r_oneOf_36 (by omega))
theorem s_r_playerTold_80 {d : Nat} (hd : 5 ≤ d) {v2 : Int} {v4 : Int} {m : xm} : xw (am_E L xs bz) d am_m226 0 80 [(0, .ref 78), (2, .long (i64 v2)), (4, .int (i32 v4))] [] m (r_playerTold_80 v2 v4 m) := by
  unfold r_playerTold_80
  refine w_aload_n rfl rfl ?_
  refine w_gfi rfl rfl (Nat.le_of_ble_eq_true rfl) rfl rfl ?_
  refine w_if_eq (tg := 88) rfl rfl (w32_ld _ _ _) ?_ ?_
  · refine w_aload_n rfl rfl ?_
    refine w_gfr (r := 102) rfl rfl (Nat.le_of_ble_eq_true rfl) rfl rfl ?_
    refine w_bipush rfl rfl ?_
    refine w_aload_n rfl rfl ?_
    refine w_gfr (r := 101) rfl rfl (Nat.le_of_ble_eq_true rfl) rfl rfl ?_
    show xw _ _ _ _ 98 _ _ _ _
    refine w_iconst rfl ?_
    refine w_iaload rfl rfl (fun x1 => ?_)
    refine w_iadd rfl ?_
    refine w_lload_n rfl rfl ?_
    refine w_lastore rfl (Nat.le_of_ble_eq_true rfl) rfl (fun m2 => ?_)
    refine w_aload_n rfl rfl ?_
    show xw _ _ _ _ 104 _ _ _ _
    refine w_gfr (r := 105) rfl rfl (Nat.le_of_ble_eq_true rfl) rfl rfl ?_
    refine w_aload_n rfl rfl ?_
    refine w_gfr (r := 101) rfl rfl (Nat.le_of_ble_eq_true rfl) rfl rfl ?_
    refine w_iconst rfl ?_
    refine w_iaload rfl rfl (fun x3 => ?_)
    refine w_iload rfl rfl ?_
    show xw _ _ _ _ 115 _ _ _ _
    refine w_iastore rfl rfl (fun m4 => ?_)
    refine w_aload_n rfl rfl ?_
    refine w_gfr (r := 101) rfl rfl (Nat.le_of_ble_eq_true rfl) rfl rfl ?_
    refine w_iconst rfl ?_
    refine w_dup2 rfl rfl rfl ?_
    refine w_iaload rfl rfl (fun x5 => ?_)
    show xw _ _ _ _ 123 _ _ _ _
    refine w_iconst rfl ?_
    refine w_iadd rfl ?_
    refine w_iastore rfl rfl (fun m6 => ?_)
    exact w_retv (x := 0) rfl rfl
  · exact w_retv (x := 0) rfl rfl
theorem s_r_playerTold_30 {d : Nat} (hd : 5 ≤ d) : ∀ (n : Nat) {v2 : Int} {v4 : Int} {v5 : Int} {m : xm}, xw (am_E L xs bz) d am_m226 0 30 [(0, .ref 78), (2, .long (i64 v2)), (4, .int (i32 v4)), (5, .int (i32 v5))] [] m (r_playerTold_30 n v2 v4 v5 m) := by
  intro n
  induction n with
  | zero => intros; exact w_none
  | succ n ih =>
    intro v2 v4 v5 m
    have hk30 := fun (v2 v4 v5 : Int) (m : xm) => @ih v2 v4 v5 m
    unfold r_playerTold_30
    refine w_aload_n rfl rfl ?_
    refine w_gfi rfl rfl (Nat.le_of_ble_eq_true rfl) rfl rfl ?_
    refine w_if_ne (tg := 80) rfl rfl (w32_ld _ _ _) ?_ ?_
    · exact w_weak [(0, .ref 78), (2, .long (i64 v2)), (4, .int (i32 v4))] rfl ⟨rfl, rfl, rfl, trivial⟩ (s_r_playerTold_80 (by omega))
    · refine w_iload rfl rfl ?_
      refine w_if_eq (tg := 80) rfl rfl rfl ?_ ?_
      · exact w_weak [(0, .ref 78), (2, .long (i64 v2)), (4, .int (i32 v4))] rfl ⟨rfl, rfl, rfl, trivial⟩ (s_r_playerTold_80 (by omega))
      · refine w_aload_n rfl rfl ?_
        refine w_iconst rfl ?_
        refine w_iload rfl rfl ?_
        refine w_call1 [.ref 78, .int (i32 1), .int (i32 v4)] [] (by omega) rfl rfl rfl rfl rfl rfl (Nat.le_of_ble_eq_true rfl) (fun _ => xrc_ok rfl) (Nat.le_of_ble_eq_true rfl) rfl rfl (s_r_oneOf (by omega)) (fun r1 m2 => ?_)
        refine w_istore (lsd := [(6, .int (i32 r1)), (0, .ref 78), (2, .long (i64 v2)), (4, .int (i32 v4)), (5, .int (i32 v5))]) rfl (Nat.le_of_ble_eq_true rfl) rfl ?_
        show xw _ _ _ _ 51 _ _ _ _
        refine w_aload_n rfl rfl ?_
        refine w_gfi rfl rfl (Nat.le_of_ble_eq_true rfl) rfl rfl ?_
        refine w_if_eq (tg := 59) rfl rfl (w32_ld _ _ _) ?_ ?_
        · refine w_iload rfl rfl ?_
          refine w_iconst rfl ?_
          refine w_iload rfl rfl ?_
          refine w_ishl rfl ?_
          refine w_ior rfl ?_
          show xw _ _ _ _ 66 _ _ _ _
          refine w_letI (fun x3 => ?_)
          refine w_istore (lsd := [(4, .int (i32 x3)), (6, .int (i32 r1)), (0, .ref 78), (2, .long (i64 v2)), (5, .int (i32 v5))]) rfl (Nat.le_of_ble_eq_true rfl) rfl ?_
          refine w_aload_n rfl rfl ?_
          refine w_call1 [.ref 78] [] (by omega) rfl rfl rfl rfl rfl rfl (Nat.le_of_ble_eq_true rfl) (fun _ => xrc_ok rfl) (Nat.le_of_ble_eq_true rfl) rfl rfl (s_r_look (by omega)) (fun r4 m5 => ?_)
          refine w_call1 [.int (i32 r4)] [] (by omega) rfl rfl rfl rfl rfl rfl (Nat.le_of_ble_eq_true rfl) (fun z => by cases z) (Nat.le_of_ble_eq_true rfl) rfl rfl (s_r_isLetter (by omega)) (fun r6 m7 => ?_)
          refine w_istore (lsd := [(5, .int (i32 r6)), (4, .int (i32 x3)), (6, .int (i32 r1)), (0, .ref 78), (2, .long (i64 v2))]) rfl (Nat.le_of_ble_eq_true rfl) rfl ?_
          refine w_goto (tg := 30) rfl rfl ?_
          exact w_weak [(0, .ref 78), (2, .long (i64 v2)), (4, .int (i32 x3)), (5, .int (i32 r6))] rfl ⟨rfl, rfl, rfl, rfl, trivial⟩ (hk30 v2 x3 r6 m7)
        · exact w_retv (x := 0) rfl rfl
theorem s_r_playerTold {d : Nat} {v1 : Int} {m : xm} (hd : 5 ≤ d) : xw (am_E L xs bz) d am_m226 0 0 [(0, .ref 78), (1, .int (i32 v1))] [] m (r_playerTold v1 m) := by
  unfold r_playerTold
  refine w_aload_n rfl rfl ?_
  refine w_iconst rfl ?_
  refine w_iconst rfl ?_
  refine w_iload_n rfl rfl ?_
  refine w_call1 [.ref 78, .int (i32 3), .int (i32 5), .int (i32 v1)] [] (by omega) rfl rfl rfl rfl rfl rfl (Nat.le_of_ble_eq_true rfl) (fun _ => xrc_ok rfl) (Nat.le_of_ble_eq_true rfl) rfl rfl (s_r_isFull (by omega)) (fun r1 m2 => ?_)
  show xw _ _ _ _ 7 _ _ _ _
  refine w_if_eq (tg := 11) rfl rfl rfl ?_ ?_
  · refine w_aload_n rfl rfl ?_
    refine w_call2 [.ref 78] [] (by omega) rfl rfl rfl rfl rfl rfl (Nat.le_of_ble_eq_true rfl) (fun _ => xrc_ok rfl) (Nat.le_of_ble_eq_true rfl) rfl rfl (s_r_newName (by omega)) (fun r3 m4 => ?_)
    refine w_lstore_n (lsd := [(2, .long (i64 r3)), (0, .ref 78), (1, .int (i32 v1))]) rfl (Nat.le_of_ble_eq_true rfl) rfl ?_
    refine w_aload_n rfl rfl ?_
    refine w_aload_n rfl rfl ?_
    show xw _ _ _ _ 18 _ _ _ _
    refine w_gfr (r := 90) rfl rfl (Nat.le_of_ble_eq_true rfl) rfl rfl ?_
    refine w_call0 [.ref 78, .ref 90] [] (by omega) rfl rfl rfl rfl rfl rfl (Nat.le_of_ble_eq_true rfl) (fun _ => xrc_ok rfl) (Nat.le_of_ble_eq_true rfl) rfl rfl (s_r_asks (by omega) rfl) (fun r5 m6 => ?_)
    refine w_iconst rfl ?_
    refine w_istore (lsd := [(4, .int (i32 0)), (2, .long (i64 r3)), (0, .ref 78), (1, .int (i32 v1))]) rfl (Nat.le_of_ble_eq_true rfl) rfl ?_
    refine w_iconst rfl ?_
    refine w_istore (lsd := [(5, .int (i32 1)), (4, .int (i32 0)), (2, .long (i64 r3)), (0, .ref 78), (1, .int (i32 v1))]) rfl (Nat.le_of_ble_eq_true rfl) rfl ?_
    exact w_weak [(0, .ref 78), (2, .long (i64 r3)), (4, .int (i32 0)), (5, .int (i32 1))] rfl ⟨rfl, rfl, rfl, rfl, trivial⟩ (s_r_playerTold_30 (by omega) _)
  · exact w_retv (x := 0) rfl rfl
theorem s_r_qCode {d : Nat} {v1 : Int} {m : xm} (hd : 0 ≤ d) : xw (am_E L xs bz) d am_m207 0 0 [(0, .ref 78), (1, .int (i32 v1))] [] m (r_qCode v1 m) := by
  unfold r_qCode
  refine w_aload_n rfl rfl ?_
  refine w_gfr (r := 138) rfl rfl (Nat.le_of_ble_eq_true rfl) rfl rfl ?_
  refine w_aload_n rfl rfl ?_
  refine w_gfi rfl rfl (Nat.le_of_ble_eq_true rfl) rfl rfl ?_
  refine w_iload_n rfl rfl ?_
  show xw _ _ _ _ 9 _ _ _ _
  refine w_iastore rfl rfl (fun m1 => ?_)
  refine w_aload_n rfl rfl ?_
  refine w_dup rfl rfl ?_
  refine w_gfi rfl rfl (Nat.le_of_ble_eq_true rfl) rfl rfl ?_
  refine w_iconst rfl ?_
  refine w_iadd rfl ?_
  show xw _ _ _ _ 17 _ _ _ _
  refine w_pfi rfl rfl (Nat.le_of_ble_eq_true rfl) rfl rfl rfl (fun m2 => ?_)
  exact w_retv (x := 0) rfl rfl
theorem s_r_qDrops {d : Nat} {m : xm} (hd : 1 ≤ d) : xw (am_E L xs bz) d am_m217 0 0 [(0, .ref 78)] [] m (r_qDrops m) := by
  unfold r_qDrops
  refine w_aload_n rfl rfl ?_
  refine w_dup rfl rfl ?_
  refine w_gfi rfl rfl (Nat.le_of_ble_eq_true rfl) rfl rfl ?_
  refine w_iconst rfl ?_
  refine w_isub rfl ?_
  show xw _ _ _ _ 7 _ _ _ _
  refine w_pfi rfl rfl (Nat.le_of_ble_eq_true rfl) rfl rfl rfl (fun m1 => ?_)
  refine w_aload_n rfl rfl ?_
  refine w_aload_n rfl rfl ?_
  refine w_gfr (r := 139) rfl rfl (Nat.le_of_ble_eq_true rfl) rfl rfl ?_
  refine w_aload_n rfl rfl ?_
  refine w_gfi rfl rfl (Nat.le_of_ble_eq_true rfl) rfl rfl ?_
  show xw _ _ _ _ 19 _ _ _ _
  refine w_iaload rfl rfl (fun x2 => ?_)
  refine w_call0 [.ref 78, .int (i32 x2)] [] (by omega) rfl rfl rfl rfl rfl rfl (Nat.le_of_ble_eq_true rfl) (fun _ => xrc_ok rfl) (Nat.le_of_ble_eq_true rfl) rfl rfl (s_r_qCode (by omega)) (fun r3 m4 => ?_)
  exact w_retv (x := 0) rfl rfl
theorem s_r_qWordHere {d : Nat} {m : xm} (hd : 2 ≤ d) : xw (am_E L xs bz) d am_m211 1 0 [(0, .ref 78)] [] m (r_qWordHere m) := by
  unfold r_qWordHere
  refine w_aload_n rfl rfl ?_
  refine w_aload_n rfl rfl ?_
  refine w_gfr (r := 131) rfl rfl (Nat.le_of_ble_eq_true rfl) rfl rfl ?_
  refine w_call1 [.ref 78, .ref 131] [] (by omega) rfl rfl rfl rfl rfl rfl (Nat.le_of_ble_eq_true rfl) (fun _ => xrc_ok rfl) (Nat.le_of_ble_eq_true rfl) rfl rfl (s_r_isHere (by omega) rfl) (fun r1 m2 => ?_)
  refine w_if_eq (tg := 13) rfl rfl rfl ?_ ?_
  · refine w_aload_n rfl rfl ?_
    refine w_aload_n rfl rfl ?_
    refine w_gfr (r := 132) rfl rfl (Nat.le_of_ble_eq_true rfl) rfl rfl ?_
    refine w_call1 [.ref 78, .ref 132] [] (by omega) rfl rfl rfl rfl rfl rfl (Nat.le_of_ble_eq_true rfl) (fun _ => xrc_ok rfl) (Nat.le_of_ble_eq_true rfl) rfl rfl (s_r_isHere (by omega) rfl) (fun r3 m4 => ?_)
    refine w_if_eq (tg := 26) rfl rfl rfl ?_ ?_
    · refine w_aload_n rfl rfl ?_
      refine w_aload_n rfl rfl ?_
      refine w_gfr (r := 133) rfl rfl (Nat.le_of_ble_eq_true rfl) rfl rfl ?_
      refine w_call1 [.ref 78, .ref 133] [] (by omega) rfl rfl rfl rfl rfl rfl (Nat.le_of_ble_eq_true rfl) (fun _ => xrc_ok rfl) (Nat.le_of_ble_eq_true rfl) rfl rfl (s_r_isHere (by omega) rfl) (fun r5 m6 => ?_)
      refine w_if_eq (tg := 39) rfl rfl rfl ?_ ?_
      · refine w_aload_n rfl rfl ?_
        refine w_aload_n rfl rfl ?_
        refine w_gfr (r := 134) rfl rfl (Nat.le_of_ble_eq_true rfl) rfl rfl ?_
        refine w_call1 [.ref 78, .ref 134] [] (by omega) rfl rfl rfl rfl rfl rfl (Nat.le_of_ble_eq_true rfl) (fun _ => xrc_ok rfl) (Nat.le_of_ble_eq_true rfl) rfl rfl (s_r_isHere (by omega) rfl) (fun r7 m8 => ?_)
        refine w_if_eq (tg := 52) rfl rfl rfl ?_ ?_
        · refine w_aload_n rfl rfl ?_
          refine w_aload_n rfl rfl ?_
          refine w_gfr (r := 135) rfl rfl (Nat.le_of_ble_eq_true rfl) rfl rfl ?_
          refine w_call1 [.ref 78, .ref 135] [] (by omega) rfl rfl rfl rfl rfl rfl (Nat.le_of_ble_eq_true rfl) (fun _ => xrc_ok rfl) (Nat.le_of_ble_eq_true rfl) rfl rfl (s_r_isHere (by omega) rfl) (fun r9 m10 => ?_)
          refine w_if_eq (tg := 65) rfl rfl rfl ?_ ?_
          · refine w_aload_n rfl rfl ?_
            refine w_aload_n rfl rfl ?_
            refine w_gfr (r := 136) rfl rfl (Nat.le_of_ble_eq_true rfl) rfl rfl ?_
            refine w_call1 [.ref 78, .ref 136] [] (by omega) rfl rfl rfl rfl rfl rfl (Nat.le_of_ble_eq_true rfl) (fun _ => xrc_ok rfl) (Nat.le_of_ble_eq_true rfl) rfl rfl (s_r_isHere (by omega) rfl) (fun r11 m12 => ?_)
            refine w_if_eq (tg := 78) rfl rfl rfl ?_ ?_
            · refine w_aload_n rfl rfl ?_
              refine w_aload_n rfl rfl ?_
              refine w_gfr (r := 137) rfl rfl (Nat.le_of_ble_eq_true rfl) rfl rfl ?_
              refine w_call1 [.ref 78, .ref 137] [] (by omega) rfl rfl rfl rfl rfl rfl (Nat.le_of_ble_eq_true rfl) (fun _ => xrc_ok rfl) (Nat.le_of_ble_eq_true rfl) rfl rfl (s_r_isHere (by omega) rfl) (fun r13 m14 => ?_)
              refine w_if_eq (tg := 92) rfl rfl rfl ?_ ?_
              · refine w_iconst rfl ?_
                exact w_retv rfl rfl
              · refine w_bipush rfl rfl ?_
                exact w_retv rfl rfl
            · refine w_iconst rfl ?_
              exact w_retv rfl rfl
          · refine w_iconst rfl ?_
            exact w_retv rfl rfl
        · refine w_iconst rfl ?_
          exact w_retv rfl rfl
      · refine w_iconst rfl ?_
        exact w_retv rfl rfl
    · refine w_iconst rfl ?_
      exact w_retv rfl rfl
  · refine w_iconst rfl ?_
    exact w_retv rfl rfl
theorem s_r_isAllowed {d : Nat} {v1 : Int} {m : xm} (hd : 0 ≤ d) : xw (am_E L xs bz) d am_m212 1 0 [(0, .ref 78), (1, .int (i32 v1))] [] m (r_isAllowed v1 m) := by
  unfold r_isAllowed
  refine w_aload_n rfl rfl ?_
  refine w_gfi rfl rfl (Nat.le_of_ble_eq_true rfl) rfl rfl ?_
  refine w_if_eq (tg := 16) rfl rfl (w32_ld _ _ _) ?_ ?_
  · refine w_iconst rfl ?_
    refine w_goto (tg := 21) rfl rfl ?_
    exact w_retv rfl rfl
  · refine w_iload_n rfl rfl ?_
    refine w_if_eq (tg := 16) rfl rfl rfl ?_ ?_
    · refine w_iconst rfl ?_
      refine w_goto (tg := 21) rfl rfl ?_
      exact w_retv rfl rfl
    · refine w_iload_n rfl rfl ?_
      refine w_iconst rfl ?_
      refine w_icmp_ne (tg := 20) rfl rfl rfl rfl ?_ ?_
      · refine w_iconst rfl ?_
        exact w_retv rfl rfl
      · refine w_iconst rfl ?_
        refine w_goto (tg := 21) rfl rfl ?_
        exact w_retv rfl rfl
theorem s_r_qWordOf {d : Nat} {v1 : Int} {v2 : Int} {m : xm} (hd : 3 ≤ d) : xw (am_E L xs bz) d am_m210 1 0 [(0, .ref 78), (1, .int (i32 v1)), (2, .int (i32 v2))] [] m (r_qWordOf v1 v2 m) := by
  unfold r_qWordOf
  refine w_aload_n rfl rfl ?_
  refine w_call1 [.ref 78] [] (by omega) rfl rfl rfl rfl rfl rfl (Nat.le_of_ble_eq_true rfl) (fun _ => xrc_ok rfl) (Nat.le_of_ble_eq_true rfl) rfl rfl (s_r_qWordHere (by omega)) (fun r1 m2 => ?_)
  refine w_istore_n (lsd := [(3, .int (i32 r1)), (0, .ref 78), (1, .int (i32 v1)), (2, .int (i32 v2))]) rfl (Nat.le_of_ble_eq_true rfl) rfl ?_
  refine w_iload_n rfl rfl ?_
  refine w_iload_n rfl rfl ?_
  show xw _ _ _ _ 7 _ _ _ _
  refine w_icmp_lt (tg := 27) rfl rfl rfl rfl ?_ ?_
  · refine w_iconst rfl ?_
    exact w_retv rfl rfl
  · refine w_iload_n rfl rfl ?_
    refine w_iload_n rfl rfl ?_
    refine w_icmp_ge (tg := 27) rfl rfl rfl rfl ?_ ?_
    · refine w_iconst rfl ?_
      exact w_retv rfl rfl
    · refine w_aload_n rfl rfl ?_
      refine w_iload_n rfl rfl ?_
      refine w_call1 [.ref 78, .int (i32 r1)] [] (by omega) rfl rfl rfl rfl rfl rfl (Nat.le_of_ble_eq_true rfl) (fun _ => xrc_ok rfl) (Nat.le_of_ble_eq_true rfl) rfl rfl (s_r_isAllowed (by omega)) (fun r3 m4 => ?_)
      refine w_if_eq (tg := 27) rfl rfl rfl ?_ ?_
      · refine w_iconst rfl ?_
        exact w_retv rfl rfl
      · refine w_iload_n rfl rfl ?_
        refine w_goto (tg := 28) rfl rfl ?_
        exact w_retv rfl rfl
theorem s_r_qEndsPart_0 {d : Nat} (hd : 2 ≤ d) : ∀ (n : Nat) {m : xm}, xw (am_E L xs bz) d am_m216 0 0 [(0, .ref 78)] [] m (r_qEndsPart_0 n m) := by
  intro n
  induction n with
  | zero => intros; exact w_none
  | succ n ih =>
    intro m
    have hk0 := fun (m : xm) => @ih m
    unfold r_qEndsPart_0
    refine w_aload_n rfl rfl ?_
    refine w_gfi rfl rfl (Nat.le_of_ble_eq_true rfl) rfl rfl ?_
    refine w_if_ne (tg := 51) rfl rfl (w32_ld _ _ _) ?_ ?_
    · exact w_retv (x := 0) rfl rfl
    · refine w_aload_n rfl rfl ?_
      refine w_gfi rfl rfl (Nat.le_of_ble_eq_true rfl) rfl rfl ?_
      refine w_aload_n rfl rfl ?_
      refine w_gfi rfl rfl (Nat.le_of_ble_eq_true rfl) rfl rfl ?_
      refine w_icmp_le (tg := 51) rfl rfl (w32_ld _ _ _) (w32_ld _ _ _) ?_ ?_
      · exact w_retv (x := 0) rfl rfl
      · refine w_aload_n rfl rfl ?_
        refine w_gfr (r := 139) rfl rfl (Nat.le_of_ble_eq_true rfl) rfl rfl ?_
        refine w_aload_n rfl rfl ?_
        refine w_gfi rfl rfl (Nat.le_of_ble_eq_true rfl) rfl rfl ?_
        refine w_iconst rfl ?_
        show xw _ _ _ _ 27 _ _ _ _
        refine w_isub rfl ?_
        refine w_iaload rfl rfl (fun x1 => ?_)
        refine w_bipush rfl rfl ?_
        refine w_icmp_lt (tg := 51) rfl rfl rfl rfl ?_ ?_
        · exact w_retv (x := 0) rfl rfl
        · refine w_aload_n rfl rfl ?_
          refine w_dup rfl rfl ?_
          refine w_gfi rfl rfl (Nat.le_of_ble_eq_true rfl) rfl rfl ?_
          refine w_iconst rfl ?_
          refine w_isub rfl ?_
          show xw _ _ _ _ 41 _ _ _ _
          refine w_pfi rfl rfl (Nat.le_of_ble_eq_true rfl) rfl rfl rfl (fun m2 => ?_)
          refine w_aload_n rfl rfl ?_
          refine w_call0 [.ref 78] [] (by omega) rfl rfl rfl rfl rfl rfl (Nat.le_of_ble_eq_true rfl) (fun _ => xrc_ok rfl) (Nat.le_of_ble_eq_true rfl) rfl rfl (s_r_qDrops (by omega)) (fun r3 m4 => ?_)
          refine w_goto (tg := 0) rfl rfl ?_
          exact w_weak [(0, .ref 78)] rfl ⟨rfl, trivial⟩ (hk0 m4)
theorem s_r_qEndsPart {d : Nat} {m : xm} (hd : 2 ≤ d) : xw (am_E L xs bz) d am_m216 0 0 [(0, .ref 78)] [] m (r_qEndsPart m) := by
  unfold r_qEndsPart
  exact w_weak [(0, .ref 78)] rfl ⟨rfl, trivial⟩ (s_r_qEndsPart_0 (by omega) _)
end S05
