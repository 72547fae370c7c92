section S01
variable {L : Nat} {xs : Nat → Int32} {bz : Bool}
theorem s_cC_clear {d : Nat} {v0 : Nat} {m : xm} (hd : 0 ≤ d) (h0 : isC v0) : xw (am_E L xs bz) d am_m1 0 0 [(0, .ref v0)] [] m (cC_clear v0 m) := by
  unfold cC_clear
  refine w_aload_n rfl rfl ?_
  refine w_iconst rfl ?_
  refine w_pfi rfl rfl (isC_lt h0) (gfC_2 h0) rfl rfl (fun m1 => ?_)
  exact w_retv (x := 0) rfl rfl
theorem s_cC_size {d : Nat} {v0 : Nat} {m : xm} (hd : 0 ≤ d) (h0 : isC v0) : xw (am_E L xs bz) d am_m2 1 0 [(0, .ref v0)] [] m (cC_size v0 m) := by
  unfold cC_size
  refine w_aload_n rfl rfl ?_
  refine w_gfi rfl rfl (isC_lt h0) (gfC_2 h0) rfl ?_
  exact w_retv rfl rfl
theorem s_cL_cell {d : Nat} {v0 : Nat} {v1 : Int} {m : xm} (hd : 0 ≤ d) (h0 : xia v0 = true) : xw (am_E L xs bz) d am_m139 1 0 [(0, .ref v0), (1, .int (i32 v1))] [] m (cL_cell v0 v1 m) := by
  unfold cL_cell
  refine w_iload_n rfl rfl ?_
  refine w_if_lt (tg := 16) rfl rfl rfl ?_ ?_
  · refine w_iconst rfl ?_
    exact w_retv rfl rfl
  · refine w_iload_n rfl rfl ?_
    refine w_aload_n rfl rfl ?_
    refine w_alen rfl (xia_lt h0) (xia_t4 h0) rfl ?_
    refine w_icmp_ge (tg := 16) rfl rfl rfl (w32_aln _) ?_ ?_
    · refine w_iconst rfl ?_
      exact w_retv rfl rfl
    · refine w_aload_n rfl rfl ?_
      refine w_iload_n rfl rfl ?_
      refine w_iaload rfl h0 (fun x1 => ?_)
      refine w_goto (tg := 17) rfl rfl ?_
      exact w_retv rfl rfl
theorem s_cC_pop_17 {d : Nat} {v0 : Nat} (hd : 1 ≤ d) (h0 : isC v0) {m : xm} : xw (am_E L xs bz) d am_m7 1 17 [(0, .ref v0)] [] m (cC_pop_17 v0 m) := by
  unfold cC_pop_17
  refine w_aload_n rfl rfl ?_
  refine w_gfr (r := v0 + 2) rfl rfl (isC_lt h0) (gfC_1 h0) rfl ?_
  refine w_aload_n rfl rfl ?_
  refine w_gfi rfl rfl (isC_lt h0) (gfC_3 h0) rfl ?_
  refine w_call1 [.ref (v0 + 2), .int (i32 (ld m v0 3))] [] (by omega) rfl rfl rfl rfl rfl rfl (Nat.le_of_ble_eq_true rfl) (fun z => by cases z) (Nat.le_of_ble_eq_true rfl) rfl rfl (s_cL_cell (by omega) (xiaC_2 h0)) (fun r1 m2 => ?_)
  show xw _ _ _ _ 28 _ _ _ _
  exact w_retv rfl rfl
theorem s_cC_pop {d : Nat} {v0 : Nat} {m : xm} (hd : 1 ≤ d) (h0 : isC v0) : xw (am_E L xs bz) d am_m7 1 0 [(0, .ref v0)] [] m (cC_pop v0 m) := by
  unfold cC_pop
  refine w_aload_n rfl rfl ?_
  refine w_gfi rfl rfl (isC_lt h0) (gfC_3 h0) rfl ?_
  refine w_if_le (tg := 17) rfl rfl (w32_ld _ _ _) ?_ ?_
  · exact w_weak [(0, .ref v0)] rfl ⟨rfl, trivial⟩ (s_cC_pop_17 (by omega) h0)
  · refine w_aload_n rfl rfl ?_
    refine w_dup rfl rfl ?_
    refine w_gfi rfl rfl (isC_lt h0) (gfC_3 h0) rfl ?_
    refine w_iconst rfl ?_
    refine w_isub rfl ?_
    show xw _ _ _ _ 14 _ _ _ _
    refine w_pfi rfl rfl (isC_lt h0) (gfC_3 h0) rfl rfl (fun m1 => ?_)
    exact w_weak [(0, .ref v0)] rfl ⟨rfl, trivial⟩ (s_cC_pop_17 (by omega) h0)
theorem s_j_maxI {d : Nat} {v0 : Int} {v1 : Int} {m : xm} (hd : 0 ≤ d) : xw (am_E L xs bz) d am_m311 1 0 [(0, .int (i32 v0)), (1, .int (i32 v1))] [] m (j_maxI v0 v1 m) := by
  unfold j_maxI
  refine w_iload_n rfl rfl ?_
  refine w_iload_n rfl rfl ?_
  refine w_icmp_lt (tg := 9) rfl rfl rfl rfl ?_ ?_
  · refine w_iload_n rfl rfl ?_
    exact w_retv rfl rfl
  · refine w_iload_n rfl rfl ?_
    refine w_goto (tg := 10) rfl rfl ?_
    exact w_retv rfl rfl
theorem s_j_minL {d : Nat} {v0 : Int} {v2 : Int} {m : xm} (hd : 0 ≤ d) : xw (am_E L xs bz) d am_m312 2 0 [(0, .long (i64 v0)), (2, .long (i64 v2))] [] m (j_minL v0 v2 m) := by
  unfold j_minL
  refine w_lload_n rfl rfl ?_
  refine w_lload_n rfl rfl ?_
  refine w_lcmp_gt (tg := 10) rfl rfl rfl rfl rfl ?_ ?_
  · refine w_lload_n rfl rfl ?_
    exact w_retv rfl rfl
  · refine w_lload_n rfl rfl ?_
    refine w_goto (tg := 11) rfl rfl ?_
    exact w_retv rfl rfl
theorem s_j_maxL {d : Nat} {v0 : Int} {v2 : Int} {m : xm} (hd : 0 ≤ d) : xw (am_E L xs bz) d am_m313 2 0 [(0, .long (i64 v0)), (2, .long (i64 v2))] [] m (j_maxL v0 v2 m) := by
  unfold j_maxL
  refine w_lload_n rfl rfl ?_
  refine w_lload_n rfl rfl ?_
  refine w_lcmp_lt (tg := 10) rfl rfl rfl rfl rfl ?_ ?_
  · refine w_lload_n rfl rfl ?_
    exact w_retv rfl rfl
  · refine w_lload_n rfl rfl ?_
    refine w_goto (tg := 11) rfl rfl ?_
    exact w_retv rfl rfl
theorem s_cC_within {d : Nat} {v0 : Int} {m : xm} (hd : 1 ≤ d) : xw (am_E L xs bz) d am_m11 1 0 [(0, .long (i64 v0))] [] m (cC_within v0 m) := by
  unfold cC_within
  refine w_ldc2w (z := (-1000000)) rfl rfl rfl ?_
  refine w_ldc2w (z := 1000000) rfl rfl rfl ?_
  refine w_lload_n rfl rfl ?_
  refine w_call2 [.long (i64 1000000), .long (i64 v0)] [.long (i64 (-1000000))] (by omega) rfl rfl rfl rfl rfl rfl (Nat.le_of_ble_eq_true rfl) (fun z => by cases z) (Nat.le_of_ble_eq_true rfl) rfl rfl (s_j_minL (by omega)) (fun r1 m2 => ?_)
  refine w_call2 [.long (i64 (-1000000)), .long (i64 r1)] [] (by omega) rfl rfl rfl rfl rfl rfl (Nat.le_of_ble_eq_true rfl) (fun z => by cases z) (Nat.le_of_ble_eq_true rfl) rfl rfl (s_j_maxL (by omega)) (fun r3 m4 => ?_)
  show xw _ _ _ _ 13 _ _ _ _
  refine w_l2i rfl ?_
  exact w_retv rfl rfl
theorem s_j_floorDiv {d : Nat} {v0 : Int} {v1 : Int} {m : xm} (hd : 0 ≤ d) : xw (am_E L xs bz) d am_m314 1 0 [(0, .int (i32 v0)), (1, .int (i32 v1))] [] m (j_floorDiv v0 v1 m) := by
  unfold j_floorDiv
  refine w_iload_n rfl rfl ?_
  refine w_iload_n rfl rfl ?_
  refine w_idiv rfl rfl ?_
  refine w_letI (fun x1 => ?_)
  refine w_istore_n (lsd := [(2, .int (i32 x1)), (0, .int (i32 v0)), (1, .int (i32 v1))]) rfl (Nat.le_of_ble_eq_true rfl) rfl ?_
  refine w_iload_n rfl rfl ?_
  show xw _ _ _ _ 5 _ _ _ _
  refine w_iload_n rfl rfl ?_
  refine w_ixor rfl ?_
  refine w_if_ge (tg := 21) rfl rfl (w32_of _) ?_ ?_
  · refine w_iload_n rfl rfl ?_
    exact w_retv rfl rfl
  · refine w_iload_n rfl rfl ?_
    refine w_iload_n rfl rfl ?_
    refine w_imul rfl ?_
    refine w_iload_n rfl rfl ?_
    refine w_icmp_eq (tg := 21) rfl rfl rfl rfl ?_ ?_
    · refine w_iload_n rfl rfl ?_
      exact w_retv rfl rfl
    · refine w_iload_n rfl rfl ?_
      refine w_iconst rfl ?_
      refine w_isub rfl ?_
      exact w_retv rfl rfl
theorem s_j_minI {d : Nat} {v0 : Int} {v1 : Int} {m : xm} (hd : 0 ≤ d) : xw (am_E L xs bz) d am_m310 1 0 [(0, .int (i32 v0)), (1, .int (i32 v1))] [] m (j_minI v0 v1 m) := by
  unfold j_minI
  refine w_iload_n rfl rfl ?_
  refine w_iload_n rfl rfl ?_
  refine w_icmp_gt (tg := 9) rfl rfl rfl rfl ?_ ?_
  · refine w_iload_n rfl rfl ?_
    exact w_retv rfl rfl
  · refine w_iload_n rfl rfl ?_
    refine w_goto (tg := 10) rfl rfl ?_
    exact w_retv rfl rfl
theorem s_cC_ofSums {d : Nat} {v0 : Int} {v1 : Int} {v2 : Int} {m : xm} (hd : 2 ≤ d) : xw (am_E L xs bz) d am_m10 1 0 [(0, .int (i32 v0)), (1, .int (i32 v1)), (2, .int (i32 v2))] [] m (cC_ofSums v0 v1 v2 m) := by
  unfold cC_ofSums
  refine w_iload_n rfl rfl ?_
  refine w_tsw (t0 := 83) (fs := [35, 44, 53, 62, 76]) rfl rfl rfl rfl rfl ?_ ?_
  · refine w_iload_n rfl rfl ?_
    refine w_iload_n rfl rfl ?_
    refine w_call1 [.int (i32 v1), .int (i32 v2)] [] (by omega) rfl rfl rfl rfl rfl rfl (Nat.le_of_ble_eq_true rfl) (fun z => by cases z) (Nat.le_of_ble_eq_true rfl) rfl rfl (s_j_maxI (by omega)) (fun r1 m2 => ?_)
    exact w_retv rfl rfl
  · refine ⟨⟨36, rfl, ?_⟩, ⟨45, rfl, ?_⟩, ⟨54, rfl, ?_⟩, ⟨63, rfl, ?_⟩, ⟨77, rfl, ?_⟩, trivial⟩
    · refine w_iload_n rfl rfl ?_
      refine w_i2l (x' := w32 v1) rfl rfl ?_
      refine w_iload_n rfl rfl ?_
      refine w_i2l (x' := w32 v2) rfl rfl ?_
      refine w_ladd rfl ?_
      show xw _ _ _ _ 41 _ _ _ _
      refine w_call1 [.long (i64 ((w32 v1) + (w32 v2)))] [] (by omega) rfl rfl rfl rfl rfl rfl (Nat.le_of_ble_eq_true rfl) (fun z => by cases z) (Nat.le_of_ble_eq_true rfl) rfl rfl (s_cC_within (by omega)) (fun r3 m4 => ?_)
      exact w_retv rfl rfl
    · refine w_iload_n rfl rfl ?_
      refine w_i2l (x' := w32 v1) rfl rfl ?_
      refine w_iload_n rfl rfl ?_
      refine w_i2l (x' := w32 v2) rfl rfl ?_
      refine w_lsub rfl ?_
      show xw _ _ _ _ 50 _ _ _ _
      refine w_call1 [.long (i64 ((w32 v1) - (w32 v2)))] [] (by omega) rfl rfl rfl rfl rfl rfl (Nat.le_of_ble_eq_true rfl) (fun z => by cases z) (Nat.le_of_ble_eq_true rfl) rfl rfl (s_cC_within (by omega)) (fun r5 m6 => ?_)
      exact w_retv rfl rfl
    · refine w_iload_n rfl rfl ?_
      refine w_i2l (x' := w32 v1) rfl rfl ?_
      refine w_iload_n rfl rfl ?_
      refine w_i2l (x' := w32 v2) rfl rfl ?_
      refine w_lmul rfl ?_
      show xw _ _ _ _ 59 _ _ _ _
      refine w_call1 [.long (i64 ((w32 v1) * (w32 v2)))] [] (by omega) rfl rfl rfl rfl rfl rfl (Nat.le_of_ble_eq_true rfl) (fun z => by cases z) (Nat.le_of_ble_eq_true rfl) rfl rfl (s_cC_within (by omega)) (fun r7 m8 => ?_)
      exact w_retv rfl rfl
    · refine w_iload_n rfl rfl ?_
      refine w_if_ne (tg := 71) rfl rfl rfl ?_ ?_
      · refine w_iload_n rfl rfl ?_
        refine w_iload_n rfl rfl ?_
        refine w_call1 [.int (i32 v1), .int (i32 v2)] [] (by omega) rfl rfl rfl rfl rfl rfl (Nat.le_of_ble_eq_true rfl) (fun z => by cases z) (Nat.le_of_ble_eq_true rfl) rfl rfl (s_j_floorDiv (by omega)) (fun r9 m10 => ?_)
        exact w_retv rfl rfl
      · refine w_iconst rfl ?_
        refine w_goto (tg := 76) rfl rfl ?_
        exact w_retv rfl rfl
    · refine w_iload_n rfl rfl ?_
      refine w_iload_n rfl rfl ?_
      refine w_call1 [.int (i32 v1), .int (i32 v2)] [] (by omega) rfl rfl rfl rfl rfl rfl (Nat.le_of_ble_eq_true rfl) (fun z => by cases z) (Nat.le_of_ble_eq_true rfl) rfl rfl (s_j_minI (by omega)) (fun r11 m12 => ?_)
      exact w_retv rfl rfl
theorem s_cC_push {d : Nat} {v0 : Nat} {v1 : Int} {m : xm} (hd : 1 ≤ d) (h0 : isC v0) : xw (am_E L xs bz) d am_m5 0 0 [(0, .ref v0), (1, .int (i32 v1))] [] m (cC_push v0 v1 m) := by
  unfold cC_push
  refine w_aload_n rfl rfl ?_
  refine w_gfi rfl rfl (isC_lt h0) (gfC_3 h0) rfl ?_
  refine w_bipush rfl rfl ?_
  refine w_icmp_ge (tg := 31) rfl rfl (w32_ld _ _ _) rfl ?_ ?_
  · exact w_retv (x := 0) rfl rfl
  · refine w_aload_n rfl rfl ?_
    refine w_gfr (r := v0 + 2) rfl rfl (isC_lt h0) (gfC_1 h0) rfl ?_
    refine w_aload_n rfl rfl ?_
    refine w_gfi rfl rfl (isC_lt h0) (gfC_3 h0) rfl ?_
    refine w_iload_n rfl rfl ?_
    show xw _ _ _ _ 18 _ _ _ _
    refine w_call0 [.ref (v0 + 2), .int (i32 (ld m v0 3)), .int (i32 v1)] [] (by omega) rfl rfl rfl rfl rfl rfl (Nat.le_of_ble_eq_true rfl) (fun z => by cases z) (Nat.le_of_ble_eq_true rfl) rfl rfl (s_cL_setCell (by omega) (xiaC_2 h0)) (fun r1 m2 => ?_)
    refine w_aload_n rfl rfl ?_
    refine w_dup rfl rfl ?_
    refine w_gfi rfl rfl (isC_lt h0) (gfC_3 h0) rfl ?_
    refine w_iconst rfl ?_
    refine w_iadd rfl ?_
    show xw _ _ _ _ 28 _ _ _ _
    refine w_pfi rfl rfl (isC_lt h0) (gfC_3 h0) rfl rfl (fun m3 => ?_)
    exact w_retv (x := 0) rfl rfl
theorem s_cC_ofTests_102 {d : Nat} (hd : 0 ≤ d) {v3 : Int} {m : xm} : xw (am_E L xs bz) d am_m9 1 102 [(3, .int (i32 v3))] [] m (cC_ofTests_102 v3 m) := by
  unfold cC_ofTests_102
  refine w_iload_n rfl rfl ?_
  refine w_if_eq (tg := 110) rfl rfl rfl ?_ ?_
  · refine w_iconst rfl ?_
    exact w_retv rfl rfl
  · refine w_iconst rfl ?_
    refine w_goto (tg := 111) rfl rfl ?_
    exact w_retv rfl rfl
theorem s_cC_ofTests_101 {d : Nat} (hd : 0 ≤ d) {s0 : Int} {m : xm} : xw (am_E L xs bz) d am_m9 1 101 [] [.int (i32 s0)] m (cC_ofTests_101 s0 m) := by
  unfold cC_ofTests_101
  refine w_letI (fun x1 => ?_)
  refine w_istore_n (lsd := [(3, .int (i32 x1))]) rfl (Nat.le_of_ble_eq_true rfl) rfl ?_
  exact w_weak [(3, .int (i32 x1))] rfl ⟨rfl, trivial⟩ (s_cC_ofTests_102 (by omega))
theorem s_cC_ofTests_43 {d : Nat} (hd : 0 ≤ d) {s0 : Int} {m : xm} : xw (am_E L xs bz) d am_m9 1 43 [] [.int (i32 s0)] m (cC_ofTests_43 s0 m) := by
  unfold cC_ofTests_43
  refine w_letI (fun x1 => ?_)
  refine w_istore_n (lsd := [(3, .int (i32 x1))]) rfl (Nat.le_of_ble_eq_true rfl) rfl ?_
  refine w_goto (tg := 102) rfl rfl ?_
  exact w_weak [(3, .int (i32 x1))] rfl ⟨rfl, trivial⟩ (s_cC_ofTests_102 (by omega))
theorem s_cC_ofTests_59 {d : Nat} (hd : 0 ≤ d) {s0 : Int} {m : xm} : xw (am_E L xs bz) d am_m9 1 59 [] [.int (i32 s0)] m (cC_ofTests_59 s0 m) := by
  unfold cC_ofTests_59
  refine w_letI (fun x1 => ?_)
  refine w_istore_n (lsd := [(3, .int (i32 x1))]) rfl (Nat.le_of_ble_eq_true rfl) rfl ?_
  refine w_goto (tg := 102) rfl rfl ?_
  exact w_weak [(3, .int (i32 x1))] rfl ⟨rfl, trivial⟩ (s_cC_ofTests_102 (by omega))
theorem s_cC_ofTests_73 {d : Nat} (hd : 0 ≤ d) {s0 : Int} {m : xm} : xw (am_E L xs bz) d am_m9 1 73 [] [.int (i32 s0)] m (cC_ofTests_73 s0 m) := by
  unfold cC_ofTests_73
  refine w_letI (fun x1 => ?_)
  refine w_istore_n (lsd := [(3, .int (i32 x1))]) rfl (Nat.le_of_ble_eq_true rfl) rfl ?_
  refine w_goto (tg := 102) rfl rfl ?_
  exact w_weak [(3, .int (i32 x1))] rfl ⟨rfl, trivial⟩ (s_cC_ofTests_102 (by omega))
theorem s_cC_ofTests_87 {d : Nat} (hd : 0 ≤ d) {s0 : Int} {m : xm} : xw (am_E L xs bz) d am_m9 1 87 [] [.int (i32 s0)] m (cC_ofTests_87 s0 m) := by
  unfold cC_ofTests_87
  refine w_letI (fun x1 => ?_)
  refine w_istore_n (lsd := [(3, .int (i32 x1))]) rfl (Nat.le_of_ble_eq_true rfl) rfl ?_
  refine w_goto (tg := 102) rfl rfl ?_
  exact w_weak [(3, .int (i32 x1))] rfl ⟨rfl, trivial⟩ (s_cC_ofTests_102 (by omega))
theorem s_cC_ofTests {d : Nat} {v0 : Int} {v1 : Int} {v2 : Int} {m : xm} (hd : 0 ≤ d) : xw (am_E L xs bz) d am_m9 1 0 [(0, .int (i32 v0)), (1, .int (i32 v1)), (2, .int (i32 v2))] [] m (cC_ofTests v0 v1 v2 m) := by
  unfold cC_ofTests
  refine w_iload_n rfl rfl ?_
  refine w_tsw (t0 := 91) (fs := [31, 46, 62, 76]) rfl rfl rfl rfl rfl ?_ ?_
  · refine w_iload_n rfl rfl ?_
    refine w_iload_n rfl rfl ?_
    refine w_icmp_ne (tg := 100) rfl rfl rfl rfl ?_ ?_
    · refine w_iconst rfl ?_
      exact w_weak [] rfl trivial (s_cC_ofTests_101 (by omega))
    · refine w_iconst rfl ?_
      refine w_goto (tg := 101) rfl rfl ?_
      exact w_weak [] rfl trivial (s_cC_ofTests_101 (by omega))
  · refine ⟨⟨32, rfl, ?_⟩, ⟨47, rfl, ?_⟩, ⟨63, rfl, ?_⟩, ⟨77, rfl, ?_⟩, trivial⟩
    · refine w_iload_n rfl rfl ?_
      refine w_iload_n rfl rfl ?_
      refine w_iadd rfl ?_
      refine w_if_le (tg := 42) rfl rfl rfl ?_ ?_
      · refine w_iconst rfl ?_
        exact w_weak [] rfl trivial (s_cC_ofTests_43 (by omega))
      · refine w_iconst rfl ?_
        refine w_goto (tg := 43) rfl rfl ?_
        exact w_weak [] rfl trivial (s_cC_ofTests_43 (by omega))
    · refine w_iload_n rfl rfl ?_
      refine w_iload_n rfl rfl ?_
      refine w_iadd rfl ?_
      refine w_iconst rfl ?_
      refine w_icmp_ne (tg := 58) rfl rfl rfl rfl ?_ ?_
      · refine w_iconst rfl ?_
        exact w_weak [] rfl trivial (s_cC_ofTests_59 (by omega))
      · refine w_iconst rfl ?_
        refine w_goto (tg := 59) rfl rfl ?_
        exact w_weak [] rfl trivial (s_cC_ofTests_59 (by omega))
    · refine w_iload_n rfl rfl ?_
      refine w_iload_n rfl rfl ?_
      refine w_icmp_ge (tg := 72) rfl rfl rfl rfl ?_ ?_
      · refine w_iconst rfl ?_
        exact w_weak [] rfl trivial (s_cC_ofTests_73 (by omega))
      · refine w_iconst rfl ?_
        refine w_goto (tg := 73) rfl rfl ?_
        exact w_weak [] rfl trivial (s_cC_ofTests_73 (by omega))
    · refine w_iload_n rfl rfl ?_
      refine w_iload_n rfl rfl ?_
      refine w_icmp_le (tg := 86) rfl rfl rfl rfl ?_ ?_
      · refine w_iconst rfl ?_
        exact w_weak [] rfl trivial (s_cC_ofTests_87 (by omega))
      · refine w_iconst rfl ?_
        refine w_goto (tg := 87) rfl rfl ?_
        exact w_weak [] rfl trivial (s_cC_ofTests_87 (by omega))
theorem s_cH_turnOf_24 {d : Nat} {v0 : Nat} (hd : 1 ≤ d) (h0 : isH v0) {v1 : Int} {v2 : Int} {s0 : Int} {m : xm} : xw (am_E L xs bz) d am_m33 1 24 [(0, .ref v0), (1, .int (i32 v1)), (2, .int (i32 v2))] [.int (i32 s0)] m (cH_turnOf_24 v0 v1 v2 s0 m) := by
  unfold cH_turnOf_24
  refine w_letI (fun x1 => ?_)
  refine w_istore_n (lsd := [(3, .int (i32 x1)), (0, .ref v0), (1, .int (i32 v1)), (2, .int (i32 v2))]) rfl (Nat.le_of_ble_eq_true rfl) rfl ?_
  refine w_iload_n rfl rfl ?_
  refine w_if_eq (tg := 44) rfl rfl rfl ?_ ?_
  · refine w_iconst rfl ?_
    exact w_retv rfl rfl
  · refine w_aload_n rfl rfl ?_
    refine w_gfr (r := v0 + 9) rfl rfl (isH_lt h0) (gfH_6 h0) rfl ?_
    refine w_iload_n rfl rfl ?_
    refine w_iconst rfl ?_
    refine w_imul rfl ?_
    show xw _ _ _ _ 36 _ _ _ _
    refine w_iload_n rfl rfl ?_
    refine w_iadd rfl ?_
    refine w_call1 [.ref (v0 + 9), .int (i32 ((v1 * 4) + v2))] [] (by omega) rfl rfl rfl rfl rfl rfl (Nat.le_of_ble_eq_true rfl) (fun z => by cases z) (Nat.le_of_ble_eq_true rfl) rfl rfl (s_cL_cell (by omega) (xiaH_9 h0)) (fun r2 m3 => ?_)
    refine w_goto (tg := 45) rfl rfl ?_
    exact w_retv rfl rfl
theorem s_cH_turnOf_23 {d : Nat} {v0 : Nat} (hd : 1 ≤ d) (h0 : isH v0) {v1 : Int} {v2 : Int} {m : xm} : xw (am_E L xs bz) d am_m33 1 23 [(0, .ref v0), (1, .int (i32 v1)), (2, .int (i32 v2))] [] m (cH_turnOf_23 v0 v1 v2 m) := by
  unfold cH_turnOf_23
  refine w_iconst rfl ?_
  exact w_weak [(0, .ref v0), (1, .int (i32 v1)), (2, .int (i32 v2))] rfl ⟨rfl, rfl, rfl, trivial⟩ (s_cH_turnOf_24 (by omega) h0)
theorem s_cH_turnOf {d : Nat} {v0 : Nat} {v1 : Int} {v2 : Int} {m : xm} (hd : 1 ≤ d) (h0 : isH v0) : xw (am_E L xs bz) d am_m33 1 0 [(0, .ref v0), (1, .int (i32 v1)), (2, .int (i32 v2))] [] m (cH_turnOf v0 v1 v2 m) := by
  unfold cH_turnOf
  refine w_iload_n rfl rfl ?_
  refine w_if_lt (tg := 23) rfl rfl rfl ?_ ?_
  · exact w_weak [(0, .ref v0), (1, .int (i32 v1)), (2, .int (i32 v2))] rfl ⟨rfl, rfl, rfl, trivial⟩ (s_cH_turnOf_23 (by omega) h0)
  · refine w_iload_n rfl rfl ?_
    refine w_bipush rfl rfl ?_
    refine w_icmp_ge (tg := 23) rfl rfl rfl rfl ?_ ?_
    · exact w_weak [(0, .ref v0), (1, .int (i32 v1)), (2, .int (i32 v2))] rfl ⟨rfl, rfl, rfl, trivial⟩ (s_cH_turnOf_23 (by omega) h0)
    · refine w_iload_n rfl rfl ?_
      refine w_if_lt (tg := 23) rfl rfl rfl ?_ ?_
      · exact w_weak [(0, .ref v0), (1, .int (i32 v1)), (2, .int (i32 v2))] rfl ⟨rfl, rfl, rfl, trivial⟩ (s_cH_turnOf_23 (by omega) h0)
      · refine w_iload_n rfl rfl ?_
        refine w_iconst rfl ?_
        refine w_icmp_ge (tg := 23) rfl rfl rfl rfl ?_ ?_
        · exact w_weak [(0, .ref v0), (1, .int (i32 v1)), (2, .int (i32 v2))] rfl ⟨rfl, rfl, rfl, trivial⟩ (s_cH_turnOf_23 (by omega) h0)
        · refine w_iconst rfl ?_
          refine w_goto (tg := 24) rfl rfl ?_
          exact w_weak [(0, .ref v0), (1, .int (i32 v1)), (2, .int (i32 v2))] rfl ⟨rfl, rfl, rfl, trivial⟩ (s_cH_turnOf_24 (by omega) h0)
theorem s_cH_isOne {d : Nat} {v0 : Nat} {v1 : Int} {v2 : Int} {m : xm} (hd : 1 ≤ d) (h0 : isH v0) : xw (am_E L xs bz) d am_m20 1 0 [(0, .ref v0), (1, .int (i32 v1)), (2, .int (i32 v2))] [] m (cH_isOne v0 v1 v2 m) := by
  unfold cH_isOne
  refine w_iload_n rfl rfl ?_
  refine w_if_lt (tg := 29) rfl rfl rfl ?_ ?_
  · refine w_iconst rfl ?_
    exact w_retv rfl rfl
  · refine w_iload_n rfl rfl ?_
    refine w_iconst rfl ?_
    refine w_icmp_ge (tg := 29) rfl rfl rfl rfl ?_ ?_
    · refine w_iconst rfl ?_
      exact w_retv rfl rfl
    · refine w_iload_n rfl rfl ?_
      refine w_if_lt (tg := 29) rfl rfl rfl ?_ ?_
      · refine w_iconst rfl ?_
        exact w_retv rfl rfl
      · refine w_iload_n rfl rfl ?_
        refine w_aload_n rfl rfl ?_
        refine w_gfr (r := v0 + 4) rfl rfl (isH_lt h0) (gfH_1 h0) rfl ?_
        refine w_iload_n rfl rfl ?_
        refine w_call1 [.ref (v0 + 4), .int (i32 v1)] [.int (i32 v2)] (by omega) rfl rfl rfl rfl rfl rfl (Nat.le_of_ble_eq_true rfl) (fun z => by cases z) (Nat.le_of_ble_eq_true rfl) rfl rfl (s_cL_cell (by omega) (xiaH_4 h0)) (fun r1 m2 => ?_)
        show xw _ _ _ _ 22 _ _ _ _
        refine w_icmp_ge (tg := 29) rfl rfl rfl rfl ?_ ?_
        · refine w_iconst rfl ?_
          exact w_retv rfl rfl
        · refine w_iconst rfl ?_
          refine w_goto (tg := 30) rfl rfl ?_
          exact w_retv rfl rfl
theorem s_cH_wardOf {d : Nat} {v0 : Nat} {v1 : Int} {v2 : Int} {m : xm} (hd : 1 ≤ d) (h0 : isH v0) : xw (am_E L xs bz) d am_m31 1 0 [(0, .ref v0), (1, .int (i32 v1)), (2, .int (i32 v2))] [] m (cH_wardOf v0 v1 v2 m) := by
  unfold cH_wardOf
  refine w_aload_n rfl rfl ?_
  refine w_gfr (r := v0 + 6) rfl rfl (isH_lt h0) (gfH_3 h0) rfl ?_
  refine w_iload_n rfl rfl ?_
  refine w_call1 [.ref (v0 + 6), .int (i32 v2)] [] (by omega) rfl rfl rfl rfl rfl rfl (Nat.le_of_ble_eq_true rfl) (fun z => by cases z) (Nat.le_of_ble_eq_true rfl) rfl rfl (s_cL_cell (by omega) (xiaH_6 h0)) (fun r1 m2 => ?_)
  refine w_istore_n (lsd := [(3, .int (i32 r1)), (0, .ref v0), (1, .int (i32 v1)), (2, .int (i32 v2))]) rfl (Nat.le_of_ble_eq_true rfl) rfl ?_
  show xw _ _ _ _ 9 _ _ _ _
  refine w_aload_n rfl rfl ?_
  refine w_gfr (r := v0 + 8) rfl rfl (isH_lt h0) (gfH_5 h0) rfl ?_
  refine w_iload_n rfl rfl ?_
  refine w_call1 [.ref (v0 + 8), .int (i32 v2)] [] (by omega) rfl rfl rfl rfl rfl rfl (Nat.le_of_ble_eq_true rfl) (fun z => by cases z) (Nat.le_of_ble_eq_true rfl) rfl rfl (s_cL_cell (by omega) (xiaH_8 h0)) (fun r3 m4 => ?_)
  refine w_istore (lsd := [(4, .int (i32 r3)), (3, .int (i32 r1)), (0, .ref v0), (1, .int (i32 v1)), (2, .int (i32 v2))]) rfl (Nat.le_of_ble_eq_true rfl) rfl ?_
  refine w_iload_n rfl rfl ?_
  show xw _ _ _ _ 20 _ _ _ _
  refine w_if_le (tg := 37) rfl rfl rfl ?_ ?_
  · refine w_iconst rfl ?_
    exact w_retv rfl rfl
  · refine w_iload rfl rfl ?_
    refine w_if_le (tg := 37) rfl rfl rfl ?_ ?_
    · refine w_iconst rfl ?_
      exact w_retv rfl rfl
    · refine w_iload_n rfl rfl ?_
      refine w_iload rfl rfl ?_
      refine w_idiv rfl rfl ?_
      refine w_iload_n rfl rfl ?_
      refine w_irem rfl rfl ?_
      show xw _ _ _ _ 34 _ _ _ _
      refine w_goto (tg := 38) rfl rfl ?_
      exact w_retv rfl rfl
theorem s_cC_ofOne {d : Nat} {v2 : Nat} {v0 : Int} {v1 : Int} {v3 : Int} {v4 : Int} {m : xm} (hd : 2 ≤ d) (h2 : isH v2) : xw (am_E L xs bz) d am_m8 1 0 [(0, .int (i32 v0)), (1, .int (i32 v1)), (2, .ref v2), (3, .int (i32 v3)), (4, .int (i32 v4))] [] m (cC_ofOne v2 v0 v1 v3 v4 m) := by
  unfold cC_ofOne
  refine w_iload_n rfl rfl ?_
  refine w_lsw (t0 := 52) (fs := [(10010, 27), (10011, 31)]) rfl rfl rfl rfl rfl ?_ ?_
  · refine w_aload_n rfl rfl ?_
    refine w_iload_n rfl rfl ?_
    refine w_iload rfl rfl ?_
    refine w_call1 [.ref v2, .int (i32 v1), .int (i32 v4)] [] (by omega) rfl rfl rfl rfl rfl rfl (Nat.le_of_ble_eq_true rfl) (fun _ => xrc_ok (rcH h2 rfl)) (Nat.le_of_ble_eq_true rfl) rfl rfl (s_cH_turnOf (by omega) h2) (fun r1 m2 => ?_)
    exact w_retv rfl rfl
  · refine ⟨⟨rfl, 28, rfl, ?_⟩, ⟨rfl, 32, rfl, ?_⟩, trivial⟩
    · dsimp only
      refine w_iconst rfl ?_
      refine w_iload_n rfl rfl ?_
      refine w_isub rfl ?_
      exact w_retv rfl rfl
    · dsimp only
      refine w_aload_n rfl rfl ?_
      refine w_iconst rfl ?_
      refine w_iload_n rfl rfl ?_
      refine w_call1 [.ref v2, .int (i32 0), .int (i32 v1)] [] (by omega) rfl rfl rfl rfl rfl rfl (Nat.le_of_ble_eq_true rfl) (fun _ => xrc_ok (rcH h2 rfl)) (Nat.le_of_ble_eq_true rfl) rfl rfl (s_cH_isOne (by omega) h2) (fun r3 m4 => ?_)
      refine w_if_eq (tg := 50) rfl rfl rfl ?_ ?_
      · refine w_iconst rfl ?_
        exact w_retv rfl rfl
      · refine w_aload_n rfl rfl ?_
        refine w_iload_n rfl rfl ?_
        refine w_iload_n rfl rfl ?_
        refine w_call1 [.ref v2, .int (i32 v3), .int (i32 v1)] [] (by omega) rfl rfl rfl rfl rfl rfl (Nat.le_of_ble_eq_true rfl) (fun _ => xrc_ok (rcH h2 rfl)) (Nat.le_of_ble_eq_true rfl) rfl rfl (s_cH_wardOf (by omega) h2) (fun r5 m6 => ?_)
        refine w_goto (tg := 51) rfl rfl ?_
        show xw _ _ _ _ 51 _ _ _ _
        exact w_retv rfl rfl
theorem s_cH_jamsOf {d : Nat} {v0 : Nat} {v1 : Int} {m : xm} (hd : 0 ≤ d) (h0 : isH v0) : xw (am_E L xs bz) d am_m28 1 0 [(0, .ref v0), (1, .int (i32 v1))] [] m (cH_jamsOf v0 v1 m) := by
  unfold cH_jamsOf
  refine w_aload_n rfl rfl ?_
  refine w_gfi rfl rfl (isH_lt h0) (gfH_12 h0) rfl ?_
  refine w_if_le (tg := 16) rfl rfl (w32_ld _ _ _) ?_ ?_
  · refine w_iconst rfl ?_
    exact w_retv rfl rfl
  · refine w_iload_n rfl rfl ?_
    refine w_aload_n rfl rfl ?_
    refine w_gfi rfl rfl (isH_lt h0) (gfH_12 h0) rfl ?_
    refine w_idiv rfl (w32_ld _ _ _) ?_
    refine w_goto (tg := 17) rfl rfl ?_
    show xw _ _ _ _ 17 _ _ _ _
    exact w_retv rfl rfl
theorem s_cH_isJammed {d : Nat} {v0 : Nat} {v1 : Int} {v2 : Int} {m : xm} (hd : 1 ≤ d) (h0 : isH v0) : xw (am_E L xs bz) d am_m32 1 0 [(0, .ref v0), (1, .int (i32 v1)), (2, .int (i32 v2))] [] m (cH_isJammed v0 v1 v2 m) := by
  unfold cH_isJammed
  refine w_aload_n rfl rfl ?_
  refine w_iload_n rfl rfl ?_
  refine w_call1 [.ref v0, .int (i32 v1)] [] (by omega) rfl rfl rfl rfl rfl rfl (Nat.le_of_ble_eq_true rfl) (fun _ => xrc_ok (rcH h0 rfl)) (Nat.le_of_ble_eq_true rfl) rfl rfl (s_cH_jamsOf (by omega) h0) (fun r1 m2 => ?_)
  refine w_iload_n rfl rfl ?_
  refine w_ishr rfl ?_
  show xw _ _ _ _ 7 _ _ _ _
  refine w_iconst rfl ?_
  refine w_iand rfl ?_
  refine w_iconst rfl ?_
  refine w_icmp_ne (tg := 17) rfl rfl (w32_of _) rfl ?_ ?_
  · refine w_iconst rfl ?_
    exact w_retv rfl rfl
  · refine w_iconst rfl ?_
    refine w_goto (tg := 18) rfl rfl ?_
    exact w_retv rfl rfl
theorem s_j_bitCount {d : Nat} {v0 : Int} {m : xm} (hd : 0 ≤ d) : xw (am_E L xs bz) d am_m309 1 0 [(0, .int (i32 v0))] [] m (j_bitCount v0 m) := by
  unfold j_bitCount
  refine w_iload_n rfl rfl ?_
  refine w_iload_n rfl rfl ?_
  refine w_iconst rfl ?_
  refine w_iushr rfl ?_
  refine w_ldcw (z := 1431655765) rfl rfl rfl ?_
  show xw _ _ _ _ 7 _ _ _ _
  refine w_iand rfl ?_
  refine w_isub rfl ?_
  refine w_letI (fun x1 => ?_)
  refine w_istore_n (lsd := [(0, .int (i32 x1))]) rfl (Nat.le_of_ble_eq_true rfl) rfl ?_
  refine w_iload_n rfl rfl ?_
  refine w_ldcw (z := 858993459) rfl rfl rfl ?_
  refine w_iand rfl ?_
  show xw _ _ _ _ 15 _ _ _ _
  refine w_iload_n rfl rfl ?_
  refine w_iconst rfl ?_
  refine w_iushr rfl ?_
  refine w_ldcw (z := 858993459) rfl rfl rfl ?_
  refine w_iand rfl ?_
  refine w_iadd rfl ?_
  show xw _ _ _ _ 23 _ _ _ _
  refine w_letI (fun x2 => ?_)
  refine w_istore_n (lsd := [(0, .int (i32 x2))]) rfl (Nat.le_of_ble_eq_true rfl) rfl ?_
  refine w_iload_n rfl rfl ?_
  refine w_iload_n rfl rfl ?_
  refine w_iconst rfl ?_
  refine w_iushr rfl ?_
  refine w_iadd rfl ?_
  show xw _ _ _ _ 29 _ _ _ _
  refine w_ldcw (z := 252645135) rfl rfl rfl ?_
  refine w_iand rfl ?_
  refine w_letI (fun x3 => ?_)
  refine w_istore_n (lsd := [(0, .int (i32 x3))]) rfl (Nat.le_of_ble_eq_true rfl) rfl ?_
  refine w_iload_n rfl rfl ?_
  refine w_iload_n rfl rfl ?_
  refine w_bipush rfl rfl ?_
  show xw _ _ _ _ 38 _ _ _ _
  refine w_iushr rfl ?_
  refine w_iadd rfl ?_
  refine w_letI (fun x4 => ?_)
  refine w_istore_n (lsd := [(0, .int (i32 x4))]) rfl (Nat.le_of_ble_eq_true rfl) rfl ?_
  refine w_iload_n rfl rfl ?_
  refine w_iload_n rfl rfl ?_
  refine w_bipush rfl rfl ?_
  show xw _ _ _ _ 45 _ _ _ _
  refine w_iushr rfl ?_
  refine w_iadd rfl ?_
  refine w_letI (fun x5 => ?_)
  refine w_istore_n (lsd := [(0, .int (i32 x5))]) rfl (Nat.le_of_ble_eq_true rfl) rfl ?_
  refine w_iload_n rfl rfl ?_
  refine w_bipush rfl rfl ?_
  refine w_iand rfl ?_
  show xw _ _ _ _ 52 _ _ _ _
  exact w_retv rfl rfl
theorem s_cH_wardsOf {d : Nat} {v0 : Nat} {v1 : Int} {m : xm} (hd : 1 ≤ d) (h0 : isH v0) : xw (am_E L xs bz) d am_m30 1 0 [(0, .ref v0), (1, .int (i32 v1))] [] m (cH_wardsOf v0 v1 m) := by
  unfold cH_wardsOf
  refine w_aload_n rfl rfl ?_
  refine w_gfr (r := v0 + 6) rfl rfl (isH_lt h0) (gfH_3 h0) rfl ?_
  refine w_iload_n rfl rfl ?_
  refine w_call1 [.ref (v0 + 6), .int (i32 v1)] [] (by omega) rfl rfl rfl rfl rfl rfl (Nat.le_of_ble_eq_true rfl) (fun z => by cases z) (Nat.le_of_ble_eq_true rfl) rfl rfl (s_cL_cell (by omega) (xiaH_6 h0)) (fun r1 m2 => ?_)
  exact w_retv rfl rfl
theorem s_cC_leaf {d : Nat} {v1 : Nat} {v0 : Int} {v2 : Int} {v3 : Int} {m : xm} (hd : 2 ≤ d) (h1 : isH v1) : xw (am_E L xs bz) d am_m6 1 0 [(0, .int (i32 v0)), (1, .ref v1), (2, .int (i32 v2)), (3, .int (i32 v3))] [] m (cC_leaf v1 v0 v2 v3 m) := by
  unfold cC_leaf
  refine w_iload_n rfl rfl ?_
  refine w_tsw (t0 := 62) (fs := [35, 37, 46, 48, 54]) rfl rfl rfl rfl rfl ?_ ?_
  · refine w_aload_n rfl rfl ?_
    refine w_iload_n rfl rfl ?_
    refine w_iload_n rfl rfl ?_
    refine w_call1 [.ref v1, .int (i32 v2), .int (i32 v3)] [] (by omega) rfl rfl rfl rfl rfl rfl (Nat.le_of_ble_eq_true rfl) (fun _ => xrc_ok (rcH h1 rfl)) (Nat.le_of_ble_eq_true rfl) rfl rfl (s_cH_isJammed (by omega) h1) (fun r1 m2 => ?_)
    refine w_if_eq (tg := 75) rfl rfl rfl ?_ ?_
    · refine w_iconst rfl ?_
      exact w_retv rfl rfl
    · refine w_iconst rfl ?_
      refine w_goto (tg := 76) rfl rfl ?_
      exact w_retv rfl rfl
  · refine ⟨⟨36, rfl, ?_⟩, ⟨38, rfl, ?_⟩, ⟨47, rfl, ?_⟩, ⟨49, rfl, ?_⟩, ⟨55, rfl, ?_⟩, trivial⟩
    · refine w_iconst rfl ?_
      exact w_retv rfl rfl
    · refine w_aload_n rfl rfl ?_
      refine w_iload_n rfl rfl ?_
      refine w_call1 [.ref v1, .int (i32 v2)] [] (by omega) rfl rfl rfl rfl rfl rfl (Nat.le_of_ble_eq_true rfl) (fun _ => xrc_ok (rcH h1 rfl)) (Nat.le_of_ble_eq_true rfl) rfl rfl (s_cH_jamsOf (by omega) h1) (fun r3 m4 => ?_)
      refine w_call1 [.int (i32 r3)] [] (by omega) rfl rfl rfl rfl rfl rfl (Nat.le_of_ble_eq_true rfl) (fun z => by cases z) (Nat.le_of_ble_eq_true rfl) rfl rfl (s_j_bitCount (by omega)) (fun r5 m6 => ?_)
      exact w_retv rfl rfl
    · refine w_iload_n rfl rfl ?_
      exact w_retv rfl rfl
    · refine w_aload_n rfl rfl ?_
      refine w_iload_n rfl rfl ?_
      refine w_call1 [.ref v1, .int (i32 v3)] [] (by omega) rfl rfl rfl rfl rfl rfl (Nat.le_of_ble_eq_true rfl) (fun _ => xrc_ok (rcH h1 rfl)) (Nat.le_of_ble_eq_true rfl) rfl rfl (s_cH_wardsOf (by omega) h1) (fun r7 m8 => ?_)
      exact w_retv rfl rfl
    · refine w_aload_n rfl rfl ?_
      refine w_iload_n rfl rfl ?_
      refine w_iload_n rfl rfl ?_
      refine w_call1 [.ref v1, .int (i32 v2), .int (i32 v3)] [] (by omega) rfl rfl rfl rfl rfl rfl (Nat.le_of_ble_eq_true rfl) (fun _ => xrc_ok (rcH h1 rfl)) (Nat.le_of_ble_eq_true rfl) rfl rfl (s_cH_wardOf (by omega) h1) (fun r9 m10 => ?_)
      exact w_retv rfl rfl
theorem s_cC_valueOf_147 {d : Nat} {v0 : Nat} {v3 : Nat} (hd : 3 ≤ d) (h0 : isC v0) (h3 : isH v3) {m : xm} : xw (am_E L xs bz) d am_m4 1 147 [(0, .ref v0)] [] m (cC_valueOf_147 v0 v3 m) := by
  unfold cC_valueOf_147
  refine w_aload_n rfl rfl ?_
  refine w_call1 [.ref v0] [] (by omega) rfl rfl rfl rfl rfl rfl (Nat.le_of_ble_eq_true rfl) (fun _ => xrc_ok (rcC h0 rfl)) (Nat.le_of_ble_eq_true rfl) rfl rfl (s_cC_pop (by omega) h0) (fun r1 m2 => ?_)
  exact w_retv rfl rfl
theorem s_cC_valueOf_141 {d : Nat} {v0 : Nat} {v3 : Nat} {k8 : Int → Int → Int → Int → xm → xr} (hd : 3 ≤ d) (h0 : isC v0) (h3 : isH v3) (hk8 : ∀ (v2 v4 v5 v6 : Int) (m : xm), xw (am_E L xs bz) d am_m4 1 8 [(0, .ref v0), (2, .int (i32 v2)), (3, .ref v3), (4, .int (i32 v4)), (5, .int (i32 v5)), (6, .int (i32 v6))] [] m (k8 v2 v4 v5 v6 m)) {v2 : Int} {v4 : Int} {v5 : Int} {v6 : Int} {m : xm} : xw (am_E L xs bz) d am_m4 1 141 [(0, .ref v0), (2, .int (i32 v2)), (3, .ref v3), (4, .int (i32 v4)), (5, .int (i32 v5)), (6, .int (i32 v6))] [] m (cC_valueOf_141 v0 v3 k8 v2 v4 v5 v6 m) := by
  unfold cC_valueOf_141
  refine w_iinc (lsd := [(6, .int (i32 (v6 + 1))), (0, .ref v0), (2, .int (i32 v2)), (3, .ref v3), (4, .int (i32 v4)), (5, .int (i32 v5))]) rfl (Nat.le_of_ble_eq_true rfl) rfl rfl ?_
  refine w_goto (tg := 8) rfl rfl ?_
  exact w_weak [(0, .ref v0), (2, .int (i32 v2)), (3, .ref v3), (4, .int (i32 v4)), (5, .int (i32 v5)), (6, .int (i32 (v6 + 1)))] rfl ⟨rfl, rfl, rfl, rfl, rfl, rfl, trivial⟩ (hk8 v2 v4 v5 (v6 + 1) m)
theorem s_cC_valueOf_138 {d : Nat} {v0 : Nat} {v3 : Nat} {k8 : Int → Int → Int → Int → xm → xr} (hd : 3 ≤ d) (h0 : isC v0) (h3 : isH v3) (hk8 : ∀ (v2 v4 v5 v6 : Int) (m : xm), xw (am_E L xs bz) d am_m4 1 8 [(0, .ref v0), (2, .int (i32 v2)), (3, .ref v3), (4, .int (i32 v4)), (5, .int (i32 v5)), (6, .int (i32 v6))] [] m (k8 v2 v4 v5 v6 m)) {v2 : Int} {v4 : Int} {v5 : Int} {v6 : Int} {s1 : Int} {m : xm} : xw (am_E L xs bz) d am_m4 1 138 [(0, .ref v0), (2, .int (i32 v2)), (3, .ref v3), (4, .int (i32 v4)), (5, .int (i32 v5)), (6, .int (i32 v6))] [.int (i32 s1), .ref v0] m (cC_valueOf_138 v0 v3 k8 v2 v4 v5 v6 s1 m) := by
  unfold cC_valueOf_138
  refine w_call0 [.ref v0, .int (i32 s1)] [] (by omega) rfl rfl rfl rfl rfl rfl (Nat.le_of_ble_eq_true rfl) (fun _ => xrc_ok (rcC h0 rfl)) (Nat.le_of_ble_eq_true rfl) rfl rfl (s_cC_push (by omega) h0) (fun r1 m2 => ?_)
  exact w_weak [(0, .ref v0), (2, .int (i32 v2)), (3, .ref v3), (4, .int (i32 v4)), (5, .int (i32 v5)), (6, .int (i32 v6))] rfl ⟨rfl, rfl, rfl, rfl, rfl, rfl, trivial⟩ (s_cC_valueOf_141 (by omega) h0 h3 hk8)
theorem s_cC_valueOf_8 {d : Nat} {v0 : Nat} {v3 : Nat} (hd : 3 ≤ d) (h0 : isC v0) (h3 : isH v3) : ∀ (n : Nat) {v2 : Int} {v4 : Int} {v5 : Int} {v6 : Int} {m : xm}, xw (am_E L xs bz) d am_m4 1 8 [(0, .ref v0), (2, .int (i32 v2)), (3, .ref v3), (4, .int (i32 v4)), (5, .int (i32 v5)), (6, .int (i32 v6))] [] m (cC_valueOf_8 v0 v3 n v2 v4 v5 v6 m) := by
  intro n
  induction n with
  | zero => intros; exact w_none
  | succ n ih =>
    intro v2 v4 v5 v6 m
    have hk8 := fun (v2 v4 v5 v6 : Int) (m : xm) => @ih v2 v4 v5 v6 m
    unfold cC_valueOf_8
    refine w_iload rfl rfl ?_
    refine w_iload_n rfl rfl ?_
    refine w_icmp_ge (tg := 147) rfl rfl rfl rfl ?_ ?_
    · exact w_weak [(0, .ref v0)] rfl ⟨rfl, trivial⟩ (s_cC_valueOf_147 (by omega) h0 h3)
    · refine w_aload_n rfl rfl ?_
      refine w_gfr (r := v0 + 1) rfl rfl (isC_lt h0) (gfC_0 h0) rfl ?_
      refine w_iload rfl rfl ?_
      refine w_call1 [.ref (v0 + 1), .int (i32 v6)] [] (by omega) rfl rfl rfl rfl rfl rfl (Nat.le_of_ble_eq_true rfl) (fun z => by cases z) (Nat.le_of_ble_eq_true rfl) rfl rfl (s_cL_cell (by omega) (xiaC_1 h0)) (fun r1 m2 => ?_)
      refine w_istore (lsd := [(7, .int (i32 r1)), (0, .ref v0), (2, .int (i32 v2)), (3, .ref v3), (4, .int (i32 v4)), (5, .int (i32 v5)), (6, .int (i32 v6))]) rfl (Nat.le_of_ble_eq_true rfl) rfl ?_
      show xw _ _ _ _ 25 _ _ _ _
      refine w_iload rfl rfl ?_
      refine w_sipush rfl rfl ?_
      refine w_icmp_ge (tg := 42) rfl rfl rfl rfl ?_ ?_
      · refine w_iload rfl rfl ?_
        refine w_sipush rfl rfl ?_
        refine w_icmp_ge (tg := 67) rfl rfl rfl rfl ?_ ?_
        · refine w_iload rfl rfl ?_
          refine w_sipush rfl rfl ?_
          refine w_icmp_ge (tg := 96) rfl rfl rfl rfl ?_ ?_
          · refine w_aload_n rfl rfl ?_
            refine w_call1 [.ref v0] [] (by omega) rfl rfl rfl rfl rfl rfl (Nat.le_of_ble_eq_true rfl) (fun _ => xrc_ok (rcC h0 rfl)) (Nat.le_of_ble_eq_true rfl) rfl rfl (s_cC_pop (by omega) h0) (fun r3 m4 => ?_)
            refine w_istore (lsd := [(8, .int (i32 r3)), (7, .int (i32 r1)), (0, .ref v0), (2, .int (i32 v2)), (3, .ref v3), (4, .int (i32 v4)), (5, .int (i32 v5)), (6, .int (i32 v6))]) rfl (Nat.le_of_ble_eq_true rfl) rfl ?_
            refine w_aload_n rfl rfl ?_
            refine w_call1 [.ref v0] [] (by omega) rfl rfl rfl rfl rfl rfl (Nat.le_of_ble_eq_true rfl) (fun _ => xrc_ok (rcC h0 rfl)) (Nat.le_of_ble_eq_true rfl) rfl rfl (s_cC_pop (by omega) h0) (fun r5 m6 => ?_)
            show xw _ _ _ _ 106 _ _ _ _
            refine w_istore (lsd := [(9, .int (i32 r5)), (8, .int (i32 r3)), (7, .int (i32 r1)), (0, .ref v0), (2, .int (i32 v2)), (3, .ref v3), (4, .int (i32 v4)), (5, .int (i32 v5)), (6, .int (i32 v6))]) rfl (Nat.le_of_ble_eq_true rfl) rfl ?_
            refine w_aload_n rfl rfl ?_
            refine w_iload rfl rfl ?_
            refine w_sipush rfl rfl ?_
            refine w_icmp_ge (tg := 129) rfl rfl rfl rfl ?_ ?_
            · refine w_iload rfl rfl ?_
              refine w_iload rfl rfl ?_
              refine w_iload rfl rfl ?_
              refine w_call1 [.int (i32 r1), .int (i32 r5), .int (i32 r3)] [.ref v0] (by omega) rfl rfl rfl rfl rfl rfl (Nat.le_of_ble_eq_true rfl) (fun z => by cases z) (Nat.le_of_ble_eq_true rfl) rfl rfl (s_cC_ofSums (by omega)) (fun r7 m8 => ?_)
              exact w_weak [(0, .ref v0), (2, .int (i32 v2)), (3, .ref v3), (4, .int (i32 v4)), (5, .int (i32 v5)), (6, .int (i32 v6))] rfl ⟨rfl, rfl, rfl, rfl, rfl, rfl, trivial⟩ (s_cC_valueOf_138 (by omega) h0 h3 hk8)
            · refine w_iload rfl rfl ?_
              refine w_iload rfl rfl ?_
              refine w_iload rfl rfl ?_
              refine w_call1 [.int (i32 r1), .int (i32 r5), .int (i32 r3)] [.ref v0] (by omega) rfl rfl rfl rfl rfl rfl (Nat.le_of_ble_eq_true rfl) (fun z => by cases z) (Nat.le_of_ble_eq_true rfl) rfl rfl (s_cC_ofTests (by omega)) (fun r9 m10 => ?_)
              refine w_goto (tg := 138) rfl rfl ?_
              exact w_weak [(0, .ref v0), (2, .int (i32 v2)), (3, .ref v3), (4, .int (i32 v4)), (5, .int (i32 v5)), (6, .int (i32 v6))] rfl ⟨rfl, rfl, rfl, rfl, rfl, rfl, trivial⟩ (s_cC_valueOf_138 (by omega) h0 h3 hk8)
          · refine w_aload_n rfl rfl ?_
            refine w_iload rfl rfl ?_
            refine w_aload_n rfl rfl ?_
            refine w_call1 [.ref v0] [.int (i32 r1), .ref v0] (by omega) rfl rfl rfl rfl rfl rfl (Nat.le_of_ble_eq_true rfl) (fun _ => xrc_ok (rcC h0 rfl)) (Nat.le_of_ble_eq_true rfl) rfl rfl (s_cC_pop (by omega) h0) (fun r11 m12 => ?_)
            refine w_aload_n rfl rfl ?_
            show xw _ _ _ _ 83 _ _ _ _
            refine w_iload rfl rfl ?_
            refine w_iload rfl rfl ?_
            refine w_call1 [.int (i32 r1), .int (i32 r11), .ref v3, .int (i32 v4), .int (i32 v5)] [.ref v0] (by omega) rfl rfl rfl rfl rfl rfl (Nat.le_of_ble_eq_true rfl) (fun z => by cases z) (Nat.le_of_ble_eq_true rfl) rfl rfl (s_cC_ofOne (by omega) h3) (fun r13 m14 => ?_)
            refine w_call0 [.ref v0, .int (i32 r13)] [] (by omega) rfl rfl rfl rfl rfl rfl (Nat.le_of_ble_eq_true rfl) (fun _ => xrc_ok (rcC h0 rfl)) (Nat.le_of_ble_eq_true rfl) rfl rfl (s_cC_push (by omega) h0) (fun r15 m16 => ?_)
            refine w_goto (tg := 141) rfl rfl ?_
            exact w_weak [(0, .ref v0), (2, .int (i32 v2)), (3, .ref v3), (4, .int (i32 v4)), (5, .int (i32 v5)), (6, .int (i32 v6))] rfl ⟨rfl, rfl, rfl, rfl, rfl, rfl, trivial⟩ (s_cC_valueOf_141 (by omega) h0 h3 hk8)
        · refine w_aload_n rfl rfl ?_
          refine w_iload rfl rfl ?_
          refine w_aload_n rfl rfl ?_
          refine w_iload rfl rfl ?_
          refine w_iload rfl rfl ?_
          show xw _ _ _ _ 58 _ _ _ _
          refine w_call1 [.int (i32 r1), .ref v3, .int (i32 v4), .int (i32 v5)] [.ref v0] (by omega) rfl rfl rfl rfl rfl rfl (Nat.le_of_ble_eq_true rfl) (fun z => by cases z) (Nat.le_of_ble_eq_true rfl) rfl rfl (s_cC_leaf (by omega) h3) (fun r17 m18 => ?_)
          refine w_call0 [.ref v0, .int (i32 r17)] [] (by omega) rfl rfl rfl rfl rfl rfl (Nat.le_of_ble_eq_true rfl) (fun _ => xrc_ok (rcC h0 rfl)) (Nat.le_of_ble_eq_true rfl) rfl rfl (s_cC_push (by omega) h0) (fun r19 m20 => ?_)
          refine w_goto (tg := 141) rfl rfl ?_
          exact w_weak [(0, .ref v0), (2, .int (i32 v2)), (3, .ref v3), (4, .int (i32 v4)), (5, .int (i32 v5)), (6, .int (i32 v6))] rfl ⟨rfl, rfl, rfl, rfl, rfl, rfl, trivial⟩ (s_cC_valueOf_141 (by omega) h0 h3 hk8)
      · refine w_aload_n rfl rfl ?_
        refine w_iload rfl rfl ?_
        refine w_call0 [.ref v0, .int (i32 r1)] [] (by omega) rfl rfl rfl rfl rfl rfl (Nat.le_of_ble_eq_true rfl) (fun _ => xrc_ok (rcC h0 rfl)) (Nat.le_of_ble_eq_true rfl) rfl rfl (s_cC_push (by omega) h0) (fun r21 m22 => ?_)
        refine w_goto (tg := 141) rfl rfl ?_
        exact w_weak [(0, .ref v0), (2, .int (i32 v2)), (3, .ref v3), (4, .int (i32 v4)), (5, .int (i32 v5)), (6, .int (i32 v6))] rfl ⟨rfl, rfl, rfl, rfl, rfl, rfl, trivial⟩ (s_cC_valueOf_141 (by omega) h0 h3 hk8)
theorem s_cC_valueOf {d : Nat} {v0 : Nat} {v3 : Nat} {v1 : Int} {v2 : Int} {v4 : Int} {v5 : Int} {m : xm} (hd : 3 ≤ d) (h0 : isC v0) (h3 : isH v3) : xw (am_E L xs bz) d am_m4 1 0 [(0, .ref v0), (1, .int (i32 v1)), (2, .int (i32 v2)), (3, .ref v3), (4, .int (i32 v4)), (5, .int (i32 v5))] [] m (cC_valueOf v0 v3 v1 v2 v4 v5 m) := by
  unfold cC_valueOf
  refine w_aload_n rfl rfl ?_
  refine w_iconst rfl ?_
  refine w_pfi rfl rfl (isC_lt h0) (gfC_3 h0) rfl rfl (fun m1 => ?_)
  refine w_iload_n rfl rfl ?_
  refine w_istore (lsd := [(6, .int (i32 v1)), (0, .ref v0), (1, .int (i32 v1)), (2, .int (i32 v2)), (3, .ref v3), (4, .int (i32 v4)), (5, .int (i32 v5))]) rfl (Nat.le_of_ble_eq_true rfl) rfl ?_
  exact w_weak [(0, .ref v0), (2, .int (i32 v2)), (3, .ref v3), (4, .int (i32 v4)), (5, .int (i32 v5)), (6, .int (i32 v1))] rfl ⟨rfl, rfl, rfl, rfl, rfl, rfl, trivial⟩ (s_cC_valueOf_8 (by omega) h0 h3 _)
theorem s_j_fill_5 {d : Nat} {v0 : Nat} (hd : 0 ≤ d) (h0 : xia v0 = true) : ∀ (n : Nat) {v1 : Int} {v2 : Int} {v3 : Int} {m : xm}, xw (am_E L xs bz) d am_m320 0 5 [(0, .ref v0), (1, .int (i32 v1)), (2, .int (i32 v2)), (3, .int (i32 v3))] [] m (j_fill_5 v0 n v1 v2 v3 m) := by
  intro n
  induction n with
  | zero => intros; exact w_none
  | succ n ih =>
    intro v1 v2 v3 m
    have hk5 := fun (v1 v2 v3 : Int) (m : xm) => @ih v1 v2 v3 m
    unfold j_fill_5
    refine w_iload_n rfl rfl ?_
    refine w_iload_n rfl rfl ?_
    refine w_icmp_ge (tg := 20) rfl rfl rfl rfl ?_ ?_
    · exact w_retv (x := 0) rfl rfl
    · refine w_aload_n rfl rfl ?_
      refine w_iload_n rfl rfl ?_
      refine w_iload_n rfl rfl ?_
      refine w_iastore rfl h0 (fun m1 => ?_)
      refine w_iinc (lsd := [(2, .int (i32 (v2 + 1))), (0, .ref v0), (1, .int (i32 v1)), (3, .int (i32 v3))]) rfl (Nat.le_of_ble_eq_true rfl) rfl rfl ?_
      show xw _ _ _ _ 17 _ _ _ _
      refine w_goto (tg := 5) rfl rfl ?_
      exact w_weak [(0, .ref v0), (1, .int (i32 v1)), (2, .int (i32 (v2 + 1))), (3, .int (i32 v3))] rfl ⟨rfl, rfl, rfl, rfl, trivial⟩ (hk5 v1 (v2 + 1) v3 m1)
theorem s_j_fill {d : Nat} {v0 : Nat} {v1 : Int} {m : xm} (hd : 0 ≤ d) (h0 : xia v0 = true) : xw (am_E L xs bz) d am_m320 0 0 [(0, .ref v0), (1, .int (i32 v1))] [] m (j_fill v0 v1 m) := by
  unfold j_fill
  refine w_iconst rfl ?_
  refine w_istore_n (lsd := [(2, .int (i32 0)), (0, .ref v0), (1, .int (i32 v1))]) rfl (Nat.le_of_ble_eq_true rfl) rfl ?_
  refine w_aload_n rfl rfl ?_
  refine w_alen rfl (xia_lt h0) (xia_t4 h0) rfl ?_
  refine w_letI (fun x1 => ?_)
  refine w_istore_n (lsd := [(3, .int (i32 x1)), (2, .int (i32 0)), (0, .ref v0), (1, .int (i32 v1))]) rfl (Nat.le_of_ble_eq_true rfl) rfl ?_
  exact w_weak [(0, .ref v0), (1, .int (i32 v1)), (2, .int (i32 0)), (3, .int (i32 x1))] rfl ⟨rfl, rfl, rfl, rfl, trivial⟩ (s_j_fill_5 (by omega) h0 _)
theorem s_cH_clear {d : Nat} {v0 : Nat} {m : xm} (hd : 1 ≤ d) (h0 : isH v0) : xw (am_E L xs bz) d am_m13 0 0 [(0, .ref v0)] [] m (cH_clear v0 m) := by
  unfold cH_clear
  refine w_aload_n rfl rfl ?_
  refine w_gfr (r := v0 + 1) rfl rfl (isH_lt h0) (gfH_0 h0) rfl ?_
  refine w_call0 [.ref (v0 + 1)] [] (by omega) rfl rfl rfl rfl rfl rfl (Nat.le_of_ble_eq_true rfl) (fun _ => xrc_ok (rcC (isC_H h0) rfl)) (Nat.le_of_ble_eq_true rfl) rfl rfl (s_cC_clear (by omega) (isC_H h0)) (fun r1 m2 => ?_)
  refine w_aload_n rfl rfl ?_
  refine w_gfr (r := v0 + 4) rfl rfl (isH_lt h0) (gfH_1 h0) rfl ?_
  show xw _ _ _ _ 11 _ _ _ _
  refine w_iconst rfl ?_
  refine w_call0 [.ref (v0 + 4), .int (i32 0)] [] (by omega) rfl rfl rfl rfl rfl rfl (Nat.le_of_ble_eq_true rfl) (fun z => by cases z) (Nat.le_of_ble_eq_true rfl) rfl rfl (s_j_fill (by omega) (xiaH_4 h0)) (fun r3 m4 => ?_)
  refine w_aload_n rfl rfl ?_
  refine w_gfr (r := v0 + 9) rfl rfl (isH_lt h0) (gfH_6 h0) rfl ?_
  refine w_iconst rfl ?_
  refine w_call0 [.ref (v0 + 9), .int (i32 0)] [] (by omega) rfl rfl rfl rfl rfl rfl (Nat.le_of_ble_eq_true rfl) (fun z => by cases z) (Nat.le_of_ble_eq_true rfl) rfl rfl (s_j_fill (by omega) (xiaH_9 h0)) (fun r5 m6 => ?_)
  show xw _ _ _ _ 23 _ _ _ _
  refine w_aload_n rfl rfl ?_
  refine w_gfr (r := v0 + 10) rfl rfl (isH_lt h0) (gfH_7 h0) rfl ?_
  refine w_iconst rfl ?_
  refine w_call0 [.ref (v0 + 10), .int (i32 0)] [] (by omega) rfl rfl rfl rfl rfl rfl (Nat.le_of_ble_eq_true rfl) (fun z => by cases z) (Nat.le_of_ble_eq_true rfl) rfl rfl (s_j_fill (by omega) (xiaH_10 h0)) (fun r7 m8 => ?_)
  refine w_aload_n rfl rfl ?_
  refine w_gfr (r := v0 + 11) rfl rfl (isH_lt h0) (gfH_8 h0) rfl ?_
  show xw _ _ _ _ 35 _ _ _ _
  refine w_iconst rfl ?_
  refine w_call0 [.ref (v0 + 11), .int (i32 0)] [] (by omega) rfl rfl rfl rfl rfl rfl (Nat.le_of_ble_eq_true rfl) (fun z => by cases z) (Nat.le_of_ble_eq_true rfl) rfl rfl (s_j_fill (by omega) (xiaH_11 h0)) (fun r9 m10 => ?_)
  refine w_aload_n rfl rfl ?_
  refine w_gfr (r := v0 + 14) rfl rfl (isH_lt h0) (gfH_11 h0) rfl ?_
  refine w_iconst rfl ?_
  refine w_call0 [.ref (v0 + 14), .int (i32 0)] [] (by omega) rfl rfl rfl rfl rfl rfl (Nat.le_of_ble_eq_true rfl) (fun z => by cases z) (Nat.le_of_ble_eq_true rfl) rfl rfl (s_j_fill (by omega) (xiaH_14 h0)) (fun r11 m12 => ?_)
  show xw _ _ _ _ 47 _ _ _ _
  refine w_aload_n rfl rfl ?_
  refine w_iconst rfl ?_
  refine w_pfi rfl rfl (isH_lt h0) (gfH_12 h0) rfl rfl (fun m13 => ?_)
  refine w_aload_n rfl rfl ?_
  refine w_iconst rfl ?_
  refine w_pfi rfl rfl (isH_lt h0) (gfH_13 h0) rfl rfl (fun m14 => ?_)
  show xw _ _ _ _ 57 _ _ _ _
  refine w_aload_n rfl rfl ?_
  refine w_iconst rfl ?_
  refine w_pfi rfl rfl (isH_lt h0) (gfH_14 h0) rfl rfl (fun m15 => ?_)
  exact w_retv (x := 0) rfl rfl
theorem s_cL_cellK {d : Nat} {v1 : Int} {m : xm} (hd : 0 ≤ d) : xw (am_E L xs bz) d am_m139 1 0 [(0, .ref 2000000), (1, .int (i32 v1))] [] m (cL_cellK v1 m) := by
  unfold cL_cellK
  refine w_iload_n rfl rfl ?_
  refine w_if_lt (tg := 16) rfl rfl rfl ?_ ?_
  · refine w_iconst rfl ?_
    exact w_retv rfl rfl
  · refine w_iload_n rfl rfl ?_
    refine w_aload_n rfl rfl ?_
    refine w_klen rfl ?_
    refine w_icmp_ge (tg := 16) rfl rfl rfl rfl ?_ ?_
    · refine w_iconst rfl ?_
      exact w_retv rfl rfl
    · refine w_aload_n rfl rfl ?_
      refine w_iload_n rfl rfl ?_
      refine w_kload rfl (fun x1 => ?_)
      refine w_goto (tg := 17) rfl rfl ?_
      exact w_retv rfl rfl
theorem s_cH_isFull {d : Nat} {v0 : Nat} {v1 : Int} {m : xm} (hd : 1 ≤ d) (h0 : isH v0) : xw (am_E L xs bz) d am_m14 1 0 [(0, .ref v0), (1, .int (i32 v1))] [] m (cH_isFull v0 v1 m) := by
  unfold cH_isFull
  refine w_aload_n rfl rfl ?_
  refine w_gfr (r := v0 + 4) rfl rfl (isH_lt h0) (gfH_1 h0) rfl ?_
  refine w_iload_n rfl rfl ?_
  refine w_call1 [.ref (v0 + 4), .int (i32 v1)] [] (by omega) rfl rfl rfl rfl rfl rfl (Nat.le_of_ble_eq_true rfl) (fun z => by cases z) (Nat.le_of_ble_eq_true rfl) rfl rfl (s_cL_cell (by omega) (xiaH_4 h0)) (fun r1 m2 => ?_)
  refine w_gstM rfl rfl ?_
  show xw _ _ _ _ 11 _ _ _ _
  refine w_iload_n rfl rfl ?_
  refine w_call1 [.ref 2000000, .int (i32 v1)] [.int (i32 r1)] (by omega) rfl rfl rfl rfl rfl rfl (Nat.le_of_ble_eq_true rfl) (fun z => by cases z) (Nat.le_of_ble_eq_true rfl) rfl rfl (s_cL_cellK (by omega)) (fun r3 m4 => ?_)
  refine w_icmp_lt (tg := 22) rfl rfl rfl rfl ?_ ?_
  · refine w_iconst rfl ?_
    exact w_retv rfl rfl
  · refine w_iconst rfl ?_
    refine w_goto (tg := 23) rfl rfl ?_
    exact w_retv rfl rfl
theorem s_cH_named_2 {d : Nat} {v0 : Nat} (hd : 1 ≤ d) (h0 : isH v0) : ∀ (n : Nat) {v1 : Int} {v2 : Int} {v3 : Int} {m : xm}, xw (am_E L xs bz) d am_m16 1 2 [(0, .ref v0), (1, .int (i32 v1)), (2, .int (i32 v2)), (3, .int (i32 v3))] [] m (cH_named_2 v0 n v1 v2 v3 m) := by
  intro n
  induction n with
  | zero => intros; exact w_none
  | succ n ih =>
    intro v1 v2 v3 m
    have hk2 := fun (v1 v2 v3 : Int) (m : xm) => @ih v1 v2 v3 m
    unfold cH_named_2
    refine w_iload_n rfl rfl ?_
    refine w_aload_n rfl rfl ?_
    refine w_gfr (r := v0 + 4) rfl rfl (isH_lt h0) (gfH_1 h0) rfl ?_
    refine w_iload_n rfl rfl ?_
    refine w_call1 [.ref (v0 + 4), .int (i32 v1)] [.int (i32 v3)] (by omega) rfl rfl rfl rfl rfl rfl (Nat.le_of_ble_eq_true rfl) (fun z => by cases z) (Nat.le_of_ble_eq_true rfl) rfl rfl (s_cL_cell (by omega) (xiaH_4 h0)) (fun r1 m2 => ?_)
    show xw _ _ _ _ 11 _ _ _ _
    refine w_icmp_ge (tg := 39) rfl rfl rfl rfl ?_ ?_
    · refine w_iconst rfl ?_
      exact w_retv rfl rfl
    · refine w_aload_n rfl rfl ?_
      refine w_gfr (r := v0 + 5) rfl rfl (isH_lt h0) (gfH_2 h0) rfl ?_
      refine w_iload_n rfl rfl ?_
      refine w_bipush rfl rfl ?_
      refine w_imul rfl ?_
      show xw _ _ _ _ 22 _ _ _ _
      refine w_iload_n rfl rfl ?_
      refine w_iadd rfl ?_
      refine w_call1 [.ref (v0 + 5), .int (i32 ((v1 * 6) + v3))] [] (by omega) rfl rfl rfl rfl rfl rfl (Nat.le_of_ble_eq_true rfl) (fun z => by cases z) (Nat.le_of_ble_eq_true rfl) rfl rfl (s_cL_cell (by omega) (xiaH_5 h0)) (fun r3 m4 => ?_)
      refine w_iload_n rfl rfl ?_
      refine w_icmp_ne (tg := 33) rfl rfl rfl rfl ?_ ?_
      · refine w_iinc (lsd := [(3, .int (i32 (v3 + 1))), (0, .ref v0), (1, .int (i32 v1)), (2, .int (i32 v2))]) rfl (Nat.le_of_ble_eq_true rfl) rfl rfl ?_
        refine w_goto (tg := 2) rfl rfl ?_
        exact w_weak [(0, .ref v0), (1, .int (i32 v1)), (2, .int (i32 v2)), (3, .int (i32 (v3 + 1)))] rfl ⟨rfl, rfl, rfl, rfl, trivial⟩ (hk2 v1 v2 (v3 + 1) m4)
      · refine w_iload_n rfl rfl ?_
        exact w_retv rfl rfl
theorem s_cH_named {d : Nat} {v0 : Nat} {v1 : Int} {v2 : Int} {m : xm} (hd : 1 ≤ d) (h0 : isH v0) : xw (am_E L xs bz) d am_m16 1 0 [(0, .ref v0), (1, .int (i32 v1)), (2, .int (i32 v2))] [] m (cH_named v0 v1 v2 m) := by
  unfold cH_named
  refine w_iconst rfl ?_
  refine w_istore_n (lsd := [(3, .int (i32 0)), (0, .ref v0), (1, .int (i32 v1)), (2, .int (i32 v2))]) rfl (Nat.le_of_ble_eq_true rfl) rfl ?_
  exact w_weak [(0, .ref v0), (1, .int (i32 v1)), (2, .int (i32 v2)), (3, .int (i32 0))] rfl ⟨rfl, rfl, rfl, rfl, trivial⟩ (s_cH_named_2 (by omega) h0 _)
theorem s_cH_knows_2 {d : Nat} {v0 : Nat} (hd : 2 ≤ d) (h0 : isH v0) : ∀ (n : Nat) {v1 : Int} {v2 : Int} {m : xm}, xw (am_E L xs bz) d am_m15 1 2 [(0, .ref v0), (1, .int (i32 v1)), (2, .int (i32 v2))] [] m (cH_knows_2 v0 n v1 v2 m) := by
  intro n
  induction n with
  | zero => intros; exact w_none
  | succ n ih =>
    intro v1 v2 m
    have hk2 := fun (v1 v2 : Int) (m : xm) => @ih v1 v2 m
    unfold cH_knows_2
    refine w_iload_n rfl rfl ?_
    refine w_iconst rfl ?_
    refine w_icmp_ge (tg := 25) rfl rfl rfl rfl ?_ ?_
    · refine w_iconst rfl ?_
      exact w_retv rfl rfl
    · refine w_aload_n rfl rfl ?_
      refine w_iload_n rfl rfl ?_
      refine w_iload_n rfl rfl ?_
      refine w_call1 [.ref v0, .int (i32 v2), .int (i32 v1)] [] (by omega) rfl rfl rfl rfl rfl rfl (Nat.le_of_ble_eq_true rfl) (fun _ => xrc_ok (rcH h0 rfl)) (Nat.le_of_ble_eq_true rfl) rfl rfl (s_cH_named (by omega) h0) (fun r1 m2 => ?_)
      refine w_iconst rfl ?_
      show xw _ _ _ _ 14 _ _ _ _
      refine w_icmp_eq (tg := 19) rfl rfl rfl rfl ?_ ?_
      · refine w_iinc (lsd := [(2, .int (i32 (v2 + 1))), (0, .ref v0), (1, .int (i32 v1))]) rfl (Nat.le_of_ble_eq_true rfl) rfl rfl ?_
        refine w_goto (tg := 2) rfl rfl ?_
        exact w_weak [(0, .ref v0), (1, .int (i32 v1)), (2, .int (i32 (v2 + 1)))] rfl ⟨rfl, rfl, rfl, trivial⟩ (hk2 v1 (v2 + 1) m2)
      · refine w_iconst rfl ?_
        exact w_retv rfl rfl
theorem s_cH_knows {d : Nat} {v0 : Nat} {v1 : Int} {m : xm} (hd : 2 ≤ d) (h0 : isH v0) : xw (am_E L xs bz) d am_m15 1 0 [(0, .ref v0), (1, .int (i32 v1))] [] m (cH_knows v0 v1 m) := by
  unfold cH_knows
  refine w_iconst rfl ?_
  refine w_istore_n (lsd := [(2, .int (i32 0)), (0, .ref v0), (1, .int (i32 v1))]) rfl (Nat.le_of_ble_eq_true rfl) rfl ?_
  exact w_weak [(0, .ref v0), (1, .int (i32 v1)), (2, .int (i32 0))] rfl ⟨rfl, rfl, rfl, trivial⟩ (s_cH_knows_2 (by omega) h0 _)
theorem s_cH_count {d : Nat} {v0 : Nat} {v1 : Int} {m : xm} (hd : 1 ≤ d) (h0 : isH v0) : xw (am_E L xs bz) d am_m18 1 0 [(0, .ref v0), (1, .int (i32 v1))] [] m (cH_count v0 v1 m) := by
  unfold cH_count
  refine w_aload_n rfl rfl ?_
  refine w_gfr (r := v0 + 4) rfl rfl (isH_lt h0) (gfH_1 h0) rfl ?_
  refine w_iload_n rfl rfl ?_
  refine w_call1 [.ref (v0 + 4), .int (i32 v1)] [] (by omega) rfl rfl rfl rfl rfl rfl (Nat.le_of_ble_eq_true rfl) (fun z => by cases z) (Nat.le_of_ble_eq_true rfl) rfl rfl (s_cL_cell (by omega) (xiaH_4 h0)) (fun r1 m2 => ?_)
  exact w_retv rfl rfl
theorem s_cH_addOne {d : Nat} {v0 : Nat} {v1 : Int} {v2 : Int} {m : xm} (hd : 2 ≤ d) (h0 : isH v0) : xw (am_E L xs bz) d am_m17 1 0 [(0, .ref v0), (1, .int (i32 v1)), (2, .int (i32 v2))] [] m (cH_addOne v0 v1 v2 m) := by
  unfold cH_addOne
  refine w_aload_n rfl rfl ?_
  refine w_iload_n rfl rfl ?_
  refine w_call1 [.ref v0, .int (i32 v1)] [] (by omega) rfl rfl rfl rfl rfl rfl (Nat.le_of_ble_eq_true rfl) (fun _ => xrc_ok (rcH h0 rfl)) (Nat.le_of_ble_eq_true rfl) rfl rfl (s_cH_count (by omega) h0) (fun r1 m2 => ?_)
  refine w_istore_n (lsd := [(3, .int (i32 r1)), (0, .ref v0), (1, .int (i32 v1)), (2, .int (i32 v2))]) rfl (Nat.le_of_ble_eq_true rfl) rfl ?_
  refine w_aload_n rfl rfl ?_
  show xw _ _ _ _ 7 _ _ _ _
  refine w_iload_n rfl rfl ?_
  refine w_call1 [.ref v0, .int (i32 v1)] [] (by omega) rfl rfl rfl rfl rfl rfl (Nat.le_of_ble_eq_true rfl) (fun _ => xrc_ok (rcH h0 rfl)) (Nat.le_of_ble_eq_true rfl) rfl rfl (s_cH_isFull (by omega) h0) (fun r3 m4 => ?_)
  refine w_if_eq (tg := 16) rfl rfl rfl ?_ ?_
  · refine w_aload_n rfl rfl ?_
    refine w_gfr (r := v0 + 5) rfl rfl (isH_lt h0) (gfH_2 h0) rfl ?_
    refine w_iload_n rfl rfl ?_
    refine w_bipush rfl rfl ?_
    refine w_imul rfl ?_
    show xw _ _ _ _ 24 _ _ _ _
    refine w_iload_n rfl rfl ?_
    refine w_iadd rfl ?_
    refine w_iload_n rfl rfl ?_
    refine w_call0 [.ref (v0 + 5), .int (i32 ((v1 * 6) + r1)), .int (i32 v2)] [] (by omega) rfl rfl rfl rfl rfl rfl (Nat.le_of_ble_eq_true rfl) (fun z => by cases z) (Nat.le_of_ble_eq_true rfl) rfl rfl (s_cL_setCell (by omega) (xiaH_5 h0)) (fun r5 m6 => ?_)
    refine w_aload_n rfl rfl ?_
    refine w_gfr (r := v0 + 4) rfl rfl (isH_lt h0) (gfH_1 h0) rfl ?_
    show xw _ _ _ _ 34 _ _ _ _
    refine w_iload_n rfl rfl ?_
    refine w_iload_n rfl rfl ?_
    refine w_iconst rfl ?_
    refine w_iadd rfl ?_
    refine w_call0 [.ref (v0 + 4), .int (i32 v1), .int (i32 (r1 + 1))] [] (by omega) rfl rfl rfl rfl rfl rfl (Nat.le_of_ble_eq_true rfl) (fun z => by cases z) (Nat.le_of_ble_eq_true rfl) rfl rfl (s_cL_setCell (by omega) (xiaH_4 h0)) (fun r7 m8 => ?_)
    refine w_iload_n rfl rfl ?_
    show xw _ _ _ _ 42 _ _ _ _
    exact w_retv rfl rfl
  · refine w_iconst rfl ?_
    exact w_retv rfl rfl
theorem s_cH_tellLock {d : Nat} {v0 : Nat} {v1 : Int} {v2 : Int} {v3 : Int} {v4 : Int} {m : xm} (hd : 2 ≤ d) (h0 : isH v0) : xw (am_E L xs bz) d am_m19 0 0 [(0, .ref v0), (1, .int (i32 v1)), (2, .int (i32 v2)), (3, .int (i32 v3)), (4, .int (i32 v4))] [] m (cH_tellLock v0 v1 v2 v3 v4 m) := by
  unfold cH_tellLock
  refine w_aload_n rfl rfl ?_
  refine w_iconst rfl ?_
  refine w_iload_n rfl rfl ?_
  refine w_call1 [.ref v0, .int (i32 0), .int (i32 v1)] [] (by omega) rfl rfl rfl rfl rfl rfl (Nat.le_of_ble_eq_true rfl) (fun _ => xrc_ok (rcH h0 rfl)) (Nat.le_of_ble_eq_true rfl) rfl rfl (s_cH_isOne (by omega) h0) (fun r1 m2 => ?_)
  refine w_if_ne (tg := 10) rfl rfl rfl ?_ ?_
  · refine w_aload_n rfl rfl ?_
    refine w_gfr (r := v0 + 6) rfl rfl (isH_lt h0) (gfH_3 h0) rfl ?_
    refine w_iload_n rfl rfl ?_
    refine w_iload_n rfl rfl ?_
    refine w_call0 [.ref (v0 + 6), .int (i32 v1), .int (i32 v2)] [] (by omega) rfl rfl rfl rfl rfl rfl (Nat.le_of_ble_eq_true rfl) (fun z => by cases z) (Nat.le_of_ble_eq_true rfl) rfl rfl (s_cL_setCell (by omega) (xiaH_6 h0)) (fun r3 m4 => ?_)
    show xw _ _ _ _ 19 _ _ _ _
    refine w_aload_n rfl rfl ?_
    refine w_gfr (r := v0 + 7) rfl rfl (isH_lt h0) (gfH_4 h0) rfl ?_
    refine w_iload_n rfl rfl ?_
    refine w_iload rfl rfl ?_
    refine w_call0 [.ref (v0 + 7), .int (i32 v1), .int (i32 v4)] [] (by omega) rfl rfl rfl rfl rfl rfl (Nat.le_of_ble_eq_true rfl) (fun z => by cases z) (Nat.le_of_ble_eq_true rfl) rfl rfl (s_cL_setCell (by omega) (xiaH_7 h0)) (fun r5 m6 => ?_)
    refine w_aload_n rfl rfl ?_
    show xw _ _ _ _ 30 _ _ _ _
    refine w_gfr (r := v0 + 8) rfl rfl (isH_lt h0) (gfH_5 h0) rfl ?_
    refine w_iload_n rfl rfl ?_
    refine w_aload_n rfl rfl ?_
    refine w_gfi rfl rfl (isH_lt h0) (gfH_12 h0) rfl ?_
    refine w_call0 [.ref (v0 + 8), .int (i32 v1), .int (i32 (ld m6 v0 12))] [] (by omega) rfl rfl rfl rfl rfl rfl (Nat.le_of_ble_eq_true rfl) (fun z => by cases z) (Nat.le_of_ble_eq_true rfl) rfl rfl (s_cL_setCell (by omega) (xiaH_8 h0)) (fun r7 m8 => ?_)
    refine w_aload_n rfl rfl ?_
    show xw _ _ _ _ 42 _ _ _ _
    refine w_dup rfl rfl ?_
    refine w_gfi rfl rfl (isH_lt h0) (gfH_13 h0) rfl ?_
    refine w_iload_n rfl rfl ?_
    refine w_aload_n rfl rfl ?_
    refine w_gfi rfl rfl (isH_lt h0) (gfH_12 h0) rfl ?_
    refine w_imul rfl ?_
    show xw _ _ _ _ 52 _ _ _ _
    refine w_iadd rfl ?_
    refine w_pfi rfl rfl (isH_lt h0) (gfH_13 h0) rfl rfl (fun m9 => ?_)
    refine w_aload_n rfl rfl ?_
    refine w_dup rfl rfl ?_
    refine w_gfi rfl rfl (isH_lt h0) (gfH_12 h0) rfl ?_
    refine w_iload_n rfl rfl ?_
    show xw _ _ _ _ 62 _ _ _ _
    refine w_imul rfl ?_
    refine w_pfi rfl rfl (isH_lt h0) (gfH_12 h0) rfl rfl (fun m10 => ?_)
    exact w_retv (x := 0) rfl rfl
  · exact w_retv (x := 0) rfl rfl
theorem s_cH_tellTurn {d : Nat} {v0 : Nat} {v1 : Int} {v2 : Int} {v3 : Int} {m : xm} (hd : 1 ≤ d) (h0 : isH v0) : xw (am_E L xs bz) d am_m21 0 0 [(0, .ref v0), (1, .int (i32 v1)), (2, .int (i32 v2)), (3, .int (i32 v3))] [] m (cH_tellTurn v0 v1 v2 v3 m) := by
  unfold cH_tellTurn
  refine w_aload_n rfl rfl ?_
  refine w_gfr (r := v0 + 9) rfl rfl (isH_lt h0) (gfH_6 h0) rfl ?_
  refine w_iload_n rfl rfl ?_
  refine w_iconst rfl ?_
  refine w_imul rfl ?_
  show xw _ _ _ _ 7 _ _ _ _
  refine w_iload_n rfl rfl ?_
  refine w_iadd rfl ?_
  refine w_iload_n rfl rfl ?_
  refine w_call0 [.ref (v0 + 9), .int (i32 ((v1 * 4) + v2)), .int (i32 v3)] [] (by omega) rfl rfl rfl rfl rfl rfl (Nat.le_of_ble_eq_true rfl) (fun z => by cases z) (Nat.le_of_ble_eq_true rfl) rfl rfl (s_cL_setCell (by omega) (xiaH_9 h0)) (fun r1 m2 => ?_)
  refine w_aload_n rfl rfl ?_
  refine w_gfr (r := v0 + 10) rfl rfl (isH_lt h0) (gfH_7 h0) rfl ?_
  show xw _ _ _ _ 17 _ _ _ _
  refine w_iload_n rfl rfl ?_
  refine w_aload_n rfl rfl ?_
  refine w_gfr (r := v0 + 10) rfl rfl (isH_lt h0) (gfH_7 h0) rfl ?_
  refine w_iload_n rfl rfl ?_
  refine w_call1 [.ref (v0 + 10), .int (i32 v1)] [.int (i32 v1), .ref (v0 + 10)] (by omega) rfl rfl rfl rfl rfl rfl (Nat.le_of_ble_eq_true rfl) (fun z => by cases z) (Nat.le_of_ble_eq_true rfl) rfl rfl (s_cL_cell (by omega) (xiaH_10 h0)) (fun r3 m4 => ?_)
  refine w_iconst rfl ?_
  show xw _ _ _ _ 27 _ _ _ _
  refine w_iload_n rfl rfl ?_
  refine w_ishl rfl ?_
  refine w_ior rfl ?_
  refine w_call0 [.ref (v0 + 10), .int (i32 v1), .int (i32 (bor r3 (shl 1 v2)))] [] (by omega) rfl rfl rfl rfl rfl rfl (Nat.le_of_ble_eq_true rfl) (fun z => by cases z) (Nat.le_of_ble_eq_true rfl) rfl rfl (s_cL_setCell (by omega) (xiaH_10 h0)) (fun r5 m6 => ?_)
  exact w_retv (x := 0) rfl rfl
theorem s_cH_tellDoor {d : Nat} {v0 : Nat} {v1 : Int} {v2 : Int} {v3 : Int} {m : xm} (hd : 1 ≤ d) (h0 : isH v0) : xw (am_E L xs bz) d am_m23 0 0 [(0, .ref v0), (1, .int (i32 v1)), (2, .int (i32 v2)), (3, .int (i32 v3))] [] m (cH_tellDoor v0 v1 v2 v3 m) := by
  unfold cH_tellDoor
  refine w_aload_n rfl rfl ?_
  refine w_gfr (r := v0 + 12) rfl rfl (isH_lt h0) (gfH_9 h0) rfl ?_
  refine w_iload_n rfl rfl ?_
  refine w_iload_n rfl rfl ?_
  refine w_call0 [.ref (v0 + 12), .int (i32 v1), .int (i32 v2)] [] (by omega) rfl rfl rfl rfl rfl rfl (Nat.le_of_ble_eq_true rfl) (fun z => by cases z) (Nat.le_of_ble_eq_true rfl) rfl rfl (s_cL_setCell (by omega) (xiaH_12 h0)) (fun r1 m2 => ?_)
  show xw _ _ _ _ 9 _ _ _ _
  refine w_aload_n rfl rfl ?_
  refine w_gfr (r := v0 + 13) rfl rfl (isH_lt h0) (gfH_10 h0) rfl ?_
  refine w_iload_n rfl rfl ?_
  refine w_iload_n rfl rfl ?_
  refine w_call0 [.ref (v0 + 13), .int (i32 v1), .int (i32 v3)] [] (by omega) rfl rfl rfl rfl rfl rfl (Nat.le_of_ble_eq_true rfl) (fun z => by cases z) (Nat.le_of_ble_eq_true rfl) rfl rfl (s_cL_setCell (by omega) (xiaH_13 h0)) (fun r3 m4 => ?_)
  exact w_retv (x := 0) rfl rfl
theorem s_cH_tellPlays {d : Nat} {v0 : Nat} {v1 : Int} {v2 : Int} {m : xm} (hd : 1 ≤ d) (h0 : isH v0) : xw (am_E L xs bz) d am_m24 0 0 [(0, .ref v0), (1, .int (i32 v1)), (2, .int (i32 v2))] [] m (cH_tellPlays v0 v1 v2 m) := by
  unfold cH_tellPlays
  refine w_aload_n rfl rfl ?_
  refine w_gfr (r := v0 + 11) rfl rfl (isH_lt h0) (gfH_8 h0) rfl ?_
  refine w_iload_n rfl rfl ?_
  refine w_aload_n rfl rfl ?_
  refine w_gfr (r := v0 + 11) rfl rfl (isH_lt h0) (gfH_8 h0) rfl ?_
  show xw _ _ _ _ 9 _ _ _ _
  refine w_iload_n rfl rfl ?_
  refine w_call1 [.ref (v0 + 11), .int (i32 v1)] [.int (i32 v1), .ref (v0 + 11)] (by omega) rfl rfl rfl rfl rfl rfl (Nat.le_of_ble_eq_true rfl) (fun z => by cases z) (Nat.le_of_ble_eq_true rfl) rfl rfl (s_cL_cell (by omega) (xiaH_11 h0)) (fun r1 m2 => ?_)
  refine w_iconst rfl ?_
  refine w_iload_n rfl rfl ?_
  refine w_ishl rfl ?_
  refine w_ior rfl ?_
  show xw _ _ _ _ 17 _ _ _ _
  refine w_call0 [.ref (v0 + 11), .int (i32 v1), .int (i32 (bor r1 (shl 1 v2)))] [] (by omega) rfl rfl rfl rfl rfl rfl (Nat.le_of_ble_eq_true rfl) (fun z => by cases z) (Nat.le_of_ble_eq_true rfl) rfl rfl (s_cL_setCell (by omega) (xiaH_11 h0)) (fun r3 m4 => ?_)
  exact w_retv (x := 0) rfl rfl
theorem s_cH_tellRust {d : Nat} {v0 : Nat} {v1 : Int} {m : xm} (hd : 0 ≤ d) (h0 : isH v0) : xw (am_E L xs bz) d am_m25 0 0 [(0, .ref v0), (1, .int (i32 v1))] [] m (cH_tellRust v0 v1 m) := by
  unfold cH_tellRust
  refine w_aload_n rfl rfl ?_
  refine w_iload_n rfl rfl ?_
  refine w_pfi rfl rfl (isH_lt h0) (gfH_14 h0) rfl rfl (fun m1 => ?_)
  exact w_retv (x := 0) rfl rfl
theorem s_cH_firstState {d : Nat} {v0 : Nat} {m : xm} (hd : 0 ≤ d) (h0 : isH v0) : xw (am_E L xs bz) d am_m26 1 0 [(0, .ref v0)] [] m (cH_firstState v0 m) := by
  unfold cH_firstState
  refine w_aload_n rfl rfl ?_
  refine w_gfi rfl rfl (isH_lt h0) (gfH_13 h0) rfl ?_
  exact w_retv rfl rfl
theorem s_cH_rust {d : Nat} {v0 : Nat} {m : xm} (hd : 0 ≤ d) (h0 : isH v0) : xw (am_E L xs bz) d am_m27 1 0 [(0, .ref v0)] [] m (cH_rust v0 m) := by
  unfold cH_rust
  refine w_aload_n rfl rfl ?_
  refine w_gfi rfl rfl (isH_lt h0) (gfH_14 h0) rfl ?_
  exact w_retv rfl rfl
theorem s_cH_openDoors_112 {d : Nat} {v0 : Nat} (hd : 4 ≤ d) (h0 : isH v0) {v3 : Int} {m : xm} : xw (am_E L xs bz) d am_m29 1 112 [(3, .int (i32 v3))] [] m (cH_openDoors_112 v0 v3 m) := by
  unfold cH_openDoors_112
  refine w_iload_n rfl rfl ?_
  refine w_bipush rfl rfl ?_
  refine w_iand rfl ?_
  exact w_retv rfl rfl
theorem s_cH_openDoors_88 {d : Nat} {v0 : Nat} (hd : 4 ≤ d) (h0 : isH v0) {v1 : Int} {v2 : Int} {v3 : Int} {m : xm} : xw (am_E L xs bz) d am_m29 1 88 [(0, .ref v0), (1, .int (i32 v1)), (2, .int (i32 v2)), (3, .int (i32 v3))] [] m (cH_openDoors_88 v0 v1 v2 v3 m) := by
  unfold cH_openDoors_88
  refine w_aload_n rfl rfl ?_
  refine w_gfr (r := v0 + 14) rfl rfl (isH_lt h0) (gfH_11 h0) rfl ?_
  refine w_iload_n rfl rfl ?_
  refine w_iconst rfl ?_
  refine w_idivc rfl (by decide) ?_
  show xw _ _ _ _ 95 _ _ _ _
  refine w_aload_n rfl rfl ?_
  refine w_gfr (r := v0 + 14) rfl rfl (isH_lt h0) (gfH_11 h0) rfl ?_
  refine w_iload_n rfl rfl ?_
  refine w_iconst rfl ?_
  refine w_idivc rfl (by decide) ?_
  refine w_call1 [.ref (v0 + 14), .int (i32 (idv v1 4))] [.int (i32 (idv v1 4)), .ref (v0 + 14)] (by omega) rfl rfl rfl rfl rfl rfl (Nat.le_of_ble_eq_true rfl) (fun z => by cases z) (Nat.le_of_ble_eq_true rfl) rfl rfl (s_cL_cell (by omega) (xiaH_14 h0)) (fun r1 m2 => ?_)
  show xw _ _ _ _ 105 _ _ _ _
  refine w_iload_n rfl rfl ?_
  refine w_iload_n rfl rfl ?_
  refine w_ishl rfl ?_
  refine w_ior rfl ?_
  refine w_call0 [.ref (v0 + 14), .int (i32 (idv v1 4)), .int (i32 (bor r1 (shl v3 v2)))] [] (by omega) rfl rfl rfl rfl rfl rfl (Nat.le_of_ble_eq_true rfl) (fun z => by cases z) (Nat.le_of_ble_eq_true rfl) rfl rfl (s_cL_setCell (by omega) (xiaH_14 h0)) (fun r3 m4 => ?_)
  exact w_weak [(3, .int (i32 v3))] rfl ⟨rfl, trivial⟩ (s_cH_openDoors_112 (by omega) h0)
theorem s_cH_openDoors_34 {d : Nat} {v0 : Nat} (hd : 4 ≤ d) (h0 : isH v0) : ∀ (n : Nat) {v1 : Int} {v2 : Int} {v3 : Int} {v4 : Int} {m : xm}, xw (am_E L xs bz) d am_m29 1 34 [(0, .ref v0), (1, .int (i32 v1)), (2, .int (i32 v2)), (3, .int (i32 v3)), (4, .int (i32 v4))] [] m (cH_openDoors_34 v0 n v1 v2 v3 v4 m) := by
  intro n
  induction n with
  | zero => intros; exact w_none
  | succ n ih =>
    intro v1 v2 v3 v4 m
    have hk34 := fun (v1 v2 v3 v4 : Int) (m : xm) => @ih v1 v2 v3 v4 m
    unfold cH_openDoors_34
    refine w_iload rfl rfl ?_
    refine w_aload_n rfl rfl ?_
    refine w_iconst rfl ?_
    refine w_call1 [.ref v0, .int (i32 2)] [.int (i32 v4)] (by omega) rfl rfl rfl rfl rfl rfl (Nat.le_of_ble_eq_true rfl) (fun _ => xrc_ok (rcH h0 rfl)) (Nat.le_of_ble_eq_true rfl) rfl rfl (s_cH_count (by omega) h0) (fun r1 m2 => ?_)
    refine w_icmp_ge (tg := 88) rfl rfl rfl rfl ?_ ?_
    · exact w_weak [(0, .ref v0), (1, .int (i32 v1)), (2, .int (i32 v2)), (3, .int (i32 v3))] rfl ⟨rfl, rfl, rfl, rfl, trivial⟩ (s_cH_openDoors_88 (by omega) h0)
    · refine w_aload_n rfl rfl ?_
      refine w_gfr (r := v0 + 1) rfl rfl (isH_lt h0) (gfH_0 h0) rfl ?_
      refine w_aload_n rfl rfl ?_
      refine w_gfr (r := v0 + 12) rfl rfl (isH_lt h0) (gfH_9 h0) rfl ?_
      refine w_iload rfl rfl ?_
      show xw _ _ _ _ 54 _ _ _ _
      refine w_call1 [.ref (v0 + 12), .int (i32 v4)] [.ref (v0 + 1)] (by omega) rfl rfl rfl rfl rfl rfl (Nat.le_of_ble_eq_true rfl) (fun z => by cases z) (Nat.le_of_ble_eq_true rfl) rfl rfl (s_cL_cell (by omega) (xiaH_12 h0)) (fun r3 m4 => ?_)
      refine w_aload_n rfl rfl ?_
      refine w_gfr (r := v0 + 13) rfl rfl (isH_lt h0) (gfH_10 h0) rfl ?_
      refine w_iload rfl rfl ?_
      refine w_call1 [.ref (v0 + 13), .int (i32 v4)] [.int (i32 r3), .ref (v0 + 1)] (by omega) rfl rfl rfl rfl rfl rfl (Nat.le_of_ble_eq_true rfl) (fun z => by cases z) (Nat.le_of_ble_eq_true rfl) rfl rfl (s_cL_cell (by omega) (xiaH_13 h0)) (fun r5 m6 => ?_)
      refine w_aload_n rfl rfl ?_
      show xw _ _ _ _ 67 _ _ _ _
      refine w_iload_n rfl rfl ?_
      refine w_iconst rfl ?_
      refine w_call1 [.ref (v0 + 1), .int (i32 r3), .int (i32 r5), .ref v0, .int (i32 v1), .int (i32 (-1))] [] (by omega) rfl rfl rfl rfl rfl rfl (Nat.le_of_ble_eq_true rfl) (fun _ => xrc_ok (rcC (isC_H h0) rfl)) (Nat.le_of_ble_eq_true rfl) rfl rfl (s_cC_valueOf (by omega) (isC_H h0) h0) (fun r7 m8 => ?_)
      refine w_istore (lsd := [(5, .int (i32 r7)), (0, .ref v0), (1, .int (i32 v1)), (2, .int (i32 v2)), (3, .int (i32 v3)), (4, .int (i32 v4))]) rfl (Nat.le_of_ble_eq_true rfl) rfl ?_
      refine w_iload_n rfl rfl ?_
      refine w_iload rfl rfl ?_
      show xw _ _ _ _ 77 _ _ _ _
      refine w_iload rfl rfl ?_
      refine w_ishl rfl ?_
      refine w_ior rfl ?_
      refine w_letI (fun x9 => ?_)
      refine w_istore_n (lsd := [(3, .int (i32 x9)), (5, .int (i32 r7)), (0, .ref v0), (1, .int (i32 v1)), (2, .int (i32 v2)), (4, .int (i32 v4))]) rfl (Nat.le_of_ble_eq_true rfl) rfl ?_
      refine w_iinc (lsd := [(4, .int (i32 (v4 + 1))), (3, .int (i32 x9)), (5, .int (i32 r7)), (0, .ref v0), (1, .int (i32 v1)), (2, .int (i32 v2))]) rfl (Nat.le_of_ble_eq_true rfl) rfl rfl ?_
      refine w_goto (tg := 34) rfl rfl ?_
      exact w_weak [(0, .ref v0), (1, .int (i32 v1)), (2, .int (i32 v2)), (3, .int (i32 x9)), (4, .int (i32 (v4 + 1)))] rfl ⟨rfl, rfl, rfl, rfl, rfl, trivial⟩ (hk34 v1 v2 x9 (v4 + 1) m8)
theorem s_cH_openDoors {d : Nat} {v0 : Nat} {v1 : Int} {m : xm} (hd : 4 ≤ d) (h0 : isH v0) : xw (am_E L xs bz) d am_m29 1 0 [(0, .ref v0), (1, .int (i32 v1))] [] m (cH_openDoors v0 v1 m) := by
  unfold cH_openDoors
  refine w_bipush rfl rfl ?_
  refine w_iload_n rfl rfl ?_
  refine w_iconst rfl ?_
  refine w_iand rfl ?_
  refine w_imul rfl ?_
  show xw _ _ _ _ 6 _ _ _ _
  refine w_letI (fun x1 => ?_)
  refine w_istore_n (lsd := [(2, .int (i32 x1)), (0, .ref v0), (1, .int (i32 v1))]) rfl (Nat.le_of_ble_eq_true rfl) rfl ?_
  refine w_aload_n rfl rfl ?_
  refine w_gfr (r := v0 + 14) rfl rfl (isH_lt h0) (gfH_11 h0) rfl ?_
  refine w_iload_n rfl rfl ?_
  refine w_iconst rfl ?_
  refine w_idivc rfl (by decide) ?_
  show xw _ _ _ _ 14 _ _ _ _
  refine w_call1 [.ref (v0 + 14), .int (i32 (idv v1 4))] [] (by omega) rfl rfl rfl rfl rfl rfl (Nat.le_of_ble_eq_true rfl) (fun z => by cases z) (Nat.le_of_ble_eq_true rfl) rfl rfl (s_cL_cell (by omega) (xiaH_14 h0)) (fun r2 m3 => ?_)
  refine w_iload_n rfl rfl ?_
  refine w_iushr rfl ?_
  refine w_sipush rfl rfl ?_
  refine w_iand rfl ?_
  refine w_letI (fun x4 => ?_)
  refine w_istore_n (lsd := [(3, .int (i32 x4)), (2, .int (i32 x1)), (0, .ref v0), (1, .int (i32 v1))]) rfl (Nat.le_of_ble_eq_true rfl) rfl ?_
  show xw _ _ _ _ 24 _ _ _ _
  refine w_iload_n rfl rfl ?_
  refine w_if_ne (tg := 112) rfl rfl rfl ?_ ?_
  · exact w_weak [(3, .int (i32 x4))] rfl ⟨rfl, trivial⟩ (s_cH_openDoors_112 (by omega) h0)
  · refine w_bipush rfl rfl ?_
    refine w_istore_n (lsd := [(3, .int (i32 64)), (2, .int (i32 x1)), (0, .ref v0), (1, .int (i32 v1))]) rfl (Nat.le_of_ble_eq_true rfl) rfl ?_
    refine w_iconst rfl ?_
    refine w_istore (lsd := [(4, .int (i32 0)), (3, .int (i32 64)), (2, .int (i32 x1)), (0, .ref v0), (1, .int (i32 v1))]) rfl (Nat.le_of_ble_eq_true rfl) rfl ?_
    exact w_weak [(0, .ref v0), (1, .int (i32 v1)), (2, .int (i32 x1)), (3, .int (i32 64)), (4, .int (i32 0))] rfl ⟨rfl, rfl, rfl, rfl, rfl, trivial⟩ (s_cH_openDoors_34 (by omega) h0 _)
theorem s_cH_nameOf {d : Nat} {v0 : Nat} {v1 : Int} {v2 : Int} {m : xm} (hd : 1 ≤ d) (h0 : isH v0) : xw (am_E L xs bz) d am_m34 1 0 [(0, .ref v0), (1, .int (i32 v1)), (2, .int (i32 v2))] [] m (cH_nameOf v0 v1 v2 m) := by
  unfold cH_nameOf
  refine w_aload_n rfl rfl ?_
  refine w_gfr (r := v0 + 5) rfl rfl (isH_lt h0) (gfH_2 h0) rfl ?_
  refine w_iload_n rfl rfl ?_
  refine w_bipush rfl rfl ?_
  refine w_imul rfl ?_
  show xw _ _ _ _ 8 _ _ _ _
  refine w_iload_n rfl rfl ?_
  refine w_iadd rfl ?_
  refine w_call1 [.ref (v0 + 5), .int (i32 ((v1 * 6) + v2))] [] (by omega) rfl rfl rfl rfl rfl rfl (Nat.le_of_ble_eq_true rfl) (fun z => by cases z) (Nat.le_of_ble_eq_true rfl) rfl rfl (s_cL_cell (by omega) (xiaH_5 h0)) (fun r1 m2 => ?_)
  exact w_retv rfl rfl
theorem s_cH_jamWardOf {d : Nat} {v0 : Nat} {v1 : Int} {m : xm} (hd : 1 ≤ d) (h0 : isH v0) : xw (am_E L xs bz) d am_m35 1 0 [(0, .ref v0), (1, .int (i32 v1))] [] m (cH_jamWardOf v0 v1 m) := by
  unfold cH_jamWardOf
  refine w_aload_n rfl rfl ?_
  refine w_gfr (r := v0 + 7) rfl rfl (isH_lt h0) (gfH_4 h0) rfl ?_
  refine w_iload_n rfl rfl ?_
  refine w_call1 [.ref (v0 + 7), .int (i32 v1)] [] (by omega) rfl rfl rfl rfl rfl rfl (Nat.le_of_ble_eq_true rfl) (fun z => by cases z) (Nat.le_of_ble_eq_true rfl) rfl rfl (s_cL_cell (by omega) (xiaH_7 h0)) (fun r1 m2 => ?_)
  exact w_retv rfl rfl
theorem s_cH_canPlay {d : Nat} {v0 : Nat} {v1 : Int} {v2 : Int} {m : xm} (hd : 2 ≤ d) (h0 : isH v0) : xw (am_E L xs bz) d am_m36 1 0 [(0, .ref v0), (1, .int (i32 v1)), (2, .int (i32 v2))] [] m (cH_canPlay v0 v1 v2 m) := by
  unfold cH_canPlay
  refine w_iload_n rfl rfl ?_
  refine w_bipush rfl rfl ?_
  refine w_icmp_ne (tg := 8) rfl rfl rfl rfl ?_ ?_
  · refine w_aload_n rfl rfl ?_
    refine w_iconst rfl ?_
    refine w_iload_n rfl rfl ?_
    refine w_call1 [.ref v0, .int (i32 1), .int (i32 v2)] [] (by omega) rfl rfl rfl rfl rfl rfl (Nat.le_of_ble_eq_true rfl) (fun _ => xrc_ok (rcH h0 rfl)) (Nat.le_of_ble_eq_true rfl) rfl rfl (s_cH_isOne (by omega) h0) (fun r1 m2 => ?_)
    refine w_if_eq (tg := 38) rfl rfl rfl ?_ ?_
    · refine w_iconst rfl ?_
      exact w_retv rfl rfl
    · refine w_aload_n rfl rfl ?_
      refine w_gfr (r := v0 + 10) rfl rfl (isH_lt h0) (gfH_7 h0) rfl ?_
      refine w_iload_n rfl rfl ?_
      refine w_call1 [.ref (v0 + 10), .int (i32 v2)] [] (by omega) rfl rfl rfl rfl rfl rfl (Nat.le_of_ble_eq_true rfl) (fun z => by cases z) (Nat.le_of_ble_eq_true rfl) rfl rfl (s_cL_cell (by omega) (xiaH_10 h0)) (fun r3 m4 => ?_)
      refine w_aload_n rfl rfl ?_
      show xw _ _ _ _ 26 _ _ _ _
      refine w_iload_n rfl rfl ?_
      refine w_call1 [.ref v0, .int (i32 v1)] [.int (i32 r3)] (by omega) rfl rfl rfl rfl rfl rfl (Nat.le_of_ble_eq_true rfl) (fun _ => xrc_ok (rcH h0 rfl)) (Nat.le_of_ble_eq_true rfl) rfl rfl (s_cH_jamsOf (by omega) h0) (fun r5 m6 => ?_)
      refine w_iand rfl ?_
      refine w_if_ne (tg := 38) rfl rfl (w32_of _) ?_ ?_
      · refine w_iconst rfl ?_
        exact w_retv rfl rfl
      · refine w_iconst rfl ?_
        refine w_goto (tg := 39) rfl rfl ?_
        exact w_retv rfl rfl
  · refine w_iconst rfl ?_
    exact w_retv rfl rfl
theorem s_cH_notesOf {d : Nat} {v0 : Nat} {v1 : Int} {m : xm} (hd : 1 ≤ d) (h0 : isH v0) : xw (am_E L xs bz) d am_m38 1 0 [(0, .ref v0), (1, .int (i32 v1))] [] m (cH_notesOf v0 v1 m) := by
  unfold cH_notesOf
  refine w_aload_n rfl rfl ?_
  refine w_gfr (r := v0 + 11) rfl rfl (isH_lt h0) (gfH_8 h0) rfl ?_
  refine w_iload_n rfl rfl ?_
  refine w_call1 [.ref (v0 + 11), .int (i32 v1)] [] (by omega) rfl rfl rfl rfl rfl rfl (Nat.le_of_ble_eq_true rfl) (fun z => by cases z) (Nat.le_of_ble_eq_true rfl) rfl rfl (s_cL_cell (by omega) (xiaH_11 h0)) (fun r1 m2 => ?_)
  exact w_retv rfl rfl
theorem s_cH_playersOf_4 {d : Nat} {v0 : Nat} (hd : 2 ≤ d) (h0 : isH v0) : ∀ (n : Nat) {v1 : Int} {v2 : Int} {v3 : Int} {m : xm}, xw (am_E L xs bz) d am_m37 1 4 [(0, .ref v0), (1, .int (i32 v1)), (2, .int (i32 v2)), (3, .int (i32 v3))] [] m (cH_playersOf_4 v0 n v1 v2 v3 m) := by
  intro n
  induction n with
  | zero => intros; exact w_none
  | succ n ih =>
    intro v1 v2 v3 m
    have hk4 := fun (v1 v2 v3 : Int) (m : xm) => @ih v1 v2 v3 m
    unfold cH_playersOf_4
    refine w_iload_n rfl rfl ?_
    refine w_aload_n rfl rfl ?_
    refine w_iconst rfl ?_
    refine w_call1 [.ref v0, .int (i32 3)] [.int (i32 v3)] (by omega) rfl rfl rfl rfl rfl rfl (Nat.le_of_ble_eq_true rfl) (fun _ => xrc_ok (rcH h0 rfl)) (Nat.le_of_ble_eq_true rfl) rfl rfl (s_cH_count (by omega) h0) (fun r1 m2 => ?_)
    refine w_icmp_ge (tg := 33) rfl rfl rfl rfl ?_ ?_
    · refine w_iload_n rfl rfl ?_
      exact w_retv rfl rfl
    · refine w_iload_n rfl rfl ?_
      refine w_aload_n rfl rfl ?_
      refine w_iload_n rfl rfl ?_
      refine w_call1 [.ref v0, .int (i32 v3)] [.int (i32 v2)] (by omega) rfl rfl rfl rfl rfl rfl (Nat.le_of_ble_eq_true rfl) (fun _ => xrc_ok (rcH h0 rfl)) (Nat.le_of_ble_eq_true rfl) rfl rfl (s_cH_notesOf (by omega) h0) (fun r3 m4 => ?_)
      refine w_iload_n rfl rfl ?_
      show xw _ _ _ _ 20 _ _ _ _
      refine w_ishr rfl ?_
      refine w_iconst rfl ?_
      refine w_iand rfl ?_
      refine w_iload_n rfl rfl ?_
      refine w_ishl rfl ?_
      refine w_ior rfl ?_
      show xw _ _ _ _ 26 _ _ _ _
      refine w_letI (fun x5 => ?_)
      refine w_istore_n (lsd := [(2, .int (i32 x5)), (0, .ref v0), (1, .int (i32 v1)), (3, .int (i32 v3))]) rfl (Nat.le_of_ble_eq_true rfl) rfl ?_
      refine w_iinc (lsd := [(3, .int (i32 (v3 + 1))), (2, .int (i32 x5)), (0, .ref v0), (1, .int (i32 v1))]) rfl (Nat.le_of_ble_eq_true rfl) rfl rfl ?_
      refine w_goto (tg := 4) rfl rfl ?_
      exact w_weak [(0, .ref v0), (1, .int (i32 v1)), (2, .int (i32 x5)), (3, .int (i32 (v3 + 1)))] rfl ⟨rfl, rfl, rfl, rfl, trivial⟩ (hk4 v1 x5 (v3 + 1) m4)
theorem s_cH_playersOf {d : Nat} {v0 : Nat} {v1 : Int} {m : xm} (hd : 2 ≤ d) (h0 : isH v0) : xw (am_E L xs bz) d am_m37 1 0 [(0, .ref v0), (1, .int (i32 v1))] [] m (cH_playersOf v0 v1 m) := by
  unfold cH_playersOf
  refine w_iconst rfl ?_
  refine w_istore_n (lsd := [(2, .int (i32 0)), (0, .ref v0), (1, .int (i32 v1))]) rfl (Nat.le_of_ble_eq_true rfl) rfl ?_
  refine w_iconst rfl ?_
  refine w_istore_n (lsd := [(3, .int (i32 0)), (2, .int (i32 0)), (0, .ref v0), (1, .int (i32 v1))]) rfl (Nat.le_of_ble_eq_true rfl) rfl ?_
  exact w_weak [(0, .ref v0), (1, .int (i32 v1)), (2, .int (i32 0)), (3, .int (i32 0))] rfl ⟨rfl, rfl, rfl, rfl, trivial⟩ (s_cH_playersOf_4 (by omega) h0 _)
theorem s_cH_withWard {d : Nat} {v0 : Nat} {v1 : Int} {v2 : Int} {v3 : Int} {m : xm} (hd : 2 ≤ d) (h0 : isH v0) : xw (am_E L xs bz) d am_m40 1 0 [(0, .ref v0), (1, .int (i32 v1)), (2, .int (i32 v2)), (3, .int (i32 v3))] [] m (cH_withWard v0 v1 v2 v3 m) := by
  unfold cH_withWard
  refine w_iload_n rfl rfl ?_
  refine w_iload_n rfl rfl ?_
  refine w_aload_n rfl rfl ?_
  refine w_iload_n rfl rfl ?_
  refine w_iload_n rfl rfl ?_
  show xw _ _ _ _ 5 _ _ _ _
  refine w_call1 [.ref v0, .int (i32 v1), .int (i32 v2)] [.int (i32 v3), .int (i32 v1)] (by omega) rfl rfl rfl rfl rfl rfl (Nat.le_of_ble_eq_true rfl) (fun _ => xrc_ok (rcH h0 rfl)) (Nat.le_of_ble_eq_true rfl) rfl rfl (s_cH_wardOf (by omega) h0) (fun r1 m2 => ?_)
  refine w_isub rfl ?_
  refine w_aload_n rfl rfl ?_
  refine w_gfr (r := v0 + 8) rfl rfl (isH_lt h0) (gfH_5 h0) rfl ?_
  refine w_iload_n rfl rfl ?_
  refine w_call1 [.ref (v0 + 8), .int (i32 v2)] [.int (i32 (v3 - r1)), .int (i32 v1)] (by omega) rfl rfl rfl rfl rfl rfl (Nat.le_of_ble_eq_true rfl) (fun z => by cases z) (Nat.le_of_ble_eq_true rfl) rfl rfl (s_cL_cell (by omega) (xiaH_8 h0)) (fun r3 m4 => ?_)
  show xw _ _ _ _ 17 _ _ _ _
  refine w_imul rfl ?_
  refine w_iadd rfl ?_
  exact w_retv rfl rfl
theorem s_cH_withJam {d : Nat} {v0 : Nat} {v1 : Int} {v2 : Int} {m : xm} (hd : 2 ≤ d) (h0 : isH v0) : xw (am_E L xs bz) d am_m41 1 0 [(0, .ref v0), (1, .int (i32 v1)), (2, .int (i32 v2))] [] m (cH_withJam v0 v1 v2 m) := by
  unfold cH_withJam
  refine w_aload_n rfl rfl ?_
  refine w_iload_n rfl rfl ?_
  refine w_iload_n rfl rfl ?_
  refine w_call1 [.ref v0, .int (i32 v1), .int (i32 v2)] [] (by omega) rfl rfl rfl rfl rfl rfl (Nat.le_of_ble_eq_true rfl) (fun _ => xrc_ok (rcH h0 rfl)) (Nat.le_of_ble_eq_true rfl) rfl rfl (s_cH_isJammed (by omega) h0) (fun r1 m2 => ?_)
  refine w_if_eq (tg := 13) rfl rfl rfl ?_ ?_
  · refine w_iload_n rfl rfl ?_
    refine w_aload_n rfl rfl ?_
    refine w_gfi rfl rfl (isH_lt h0) (gfH_12 h0) rfl ?_
    refine w_iload_n rfl rfl ?_
    refine w_ishl rfl ?_
    show xw _ _ _ _ 20 _ _ _ _
    refine w_iadd rfl ?_
    exact w_retv rfl rfl
  · refine w_iload_n rfl rfl ?_
    refine w_goto (tg := 21) rfl rfl ?_
    exact w_retv rfl rfl
theorem s_cH_after_90 {d : Nat} {v0 : Nat} {k5 : Int → Int → Int → Int → xm → xr} (hd : 3 ≤ d) (h0 : isH v0) (hk5 : ∀ (v1 v2 v3 v4 : Int) (m : xm), xw (am_E L xs bz) d am_m39 1 5 [(0, .ref v0), (1, .int (i32 v1)), (2, .int (i32 v2)), (3, .int (i32 v3)), (4, .int (i32 v4))] [] m (k5 v1 v2 v3 v4 m)) {v1 : Int} {v2 : Int} {v3 : Int} {v4 : Int} {m : xm} : xw (am_E L xs bz) d am_m39 1 90 [(0, .ref v0), (1, .int (i32 v1)), (2, .int (i32 v2)), (3, .int (i32 v3)), (4, .int (i32 v4))] [] m (cH_after_90 v0 k5 v1 v2 v3 v4 m) := by
  unfold cH_after_90
  refine w_iinc (lsd := [(4, .int (i32 (v4 + 1))), (0, .ref v0), (1, .int (i32 v1)), (2, .int (i32 v2)), (3, .int (i32 v3))]) rfl (Nat.le_of_ble_eq_true rfl) rfl rfl ?_
  refine w_goto (tg := 5) rfl rfl ?_
  exact w_weak [(0, .ref v0), (1, .int (i32 v1)), (2, .int (i32 v2)), (3, .int (i32 v3)), (4, .int (i32 (v4 + 1)))] rfl ⟨rfl, rfl, rfl, rfl, rfl, trivial⟩ (hk5 v1 v2 v3 (v4 + 1) m)
theorem s_cH_after_89 {d : Nat} {v0 : Nat} {k5 : Int → Int → Int → Int → xm → xr} (hd : 3 ≤ d) (h0 : isH v0) (hk5 : ∀ (v1 v2 v3 v4 : Int) (m : xm), xw (am_E L xs bz) d am_m39 1 5 [(0, .ref v0), (1, .int (i32 v1)), (2, .int (i32 v2)), (3, .int (i32 v3)), (4, .int (i32 v4))] [] m (k5 v1 v2 v3 v4 m)) {v1 : Int} {v2 : Int} {v4 : Int} {s0 : Int} {m : xm} : xw (am_E L xs bz) d am_m39 1 89 [(0, .ref v0), (1, .int (i32 v1)), (2, .int (i32 v2)), (4, .int (i32 v4))] [.int (i32 s0)] m (cH_after_89 v0 k5 v1 v2 v4 s0 m) := by
  unfold cH_after_89
  refine w_letI (fun x1 => ?_)
  refine w_istore_n (lsd := [(3, .int (i32 x1)), (0, .ref v0), (1, .int (i32 v1)), (2, .int (i32 v2)), (4, .int (i32 v4))]) rfl (Nat.le_of_ble_eq_true rfl) rfl ?_
  exact w_weak [(0, .ref v0), (1, .int (i32 v1)), (2, .int (i32 v2)), (3, .int (i32 x1)), (4, .int (i32 v4))] rfl ⟨rfl, rfl, rfl, rfl, rfl, trivial⟩ (s_cH_after_90 (by omega) h0 hk5)
theorem s_cH_after_5 {d : Nat} {v0 : Nat} (hd : 3 ≤ d) (h0 : isH v0) : ∀ (n : Nat) {v1 : Int} {v2 : Int} {v3 : Int} {v4 : Int} {m : xm}, xw (am_E L xs bz) d am_m39 1 5 [(0, .ref v0), (1, .int (i32 v1)), (2, .int (i32 v2)), (3, .int (i32 v3)), (4, .int (i32 v4))] [] m (cH_after_5 v0 n v1 v2 v3 v4 m) := by
  intro n
  induction n with
  | zero => intros; exact w_none
  | succ n ih =>
    intro v1 v2 v3 v4 m
    have hk5 := fun (v1 v2 v3 v4 : Int) (m : xm) => @ih v1 v2 v3 v4 m
    unfold cH_after_5
    refine w_iload rfl rfl ?_
    refine w_aload_n rfl rfl ?_
    refine w_iconst rfl ?_
    refine w_call1 [.ref v0, .int (i32 0)] [.int (i32 v4)] (by omega) rfl rfl rfl rfl rfl rfl (Nat.le_of_ble_eq_true rfl) (fun _ => xrc_ok (rcH h0 rfl)) (Nat.le_of_ble_eq_true rfl) rfl rfl (s_cH_count (by omega) h0) (fun r1 m2 => ?_)
    refine w_icmp_ge (tg := 96) rfl rfl rfl rfl ?_ ?_
    · refine w_iload_n rfl rfl ?_
      exact w_retv rfl rfl
    · refine w_aload_n rfl rfl ?_
      refine w_iload_n rfl rfl ?_
      refine w_iload rfl rfl ?_
      refine w_call1 [.ref v0, .int (i32 v2), .int (i32 v4)] [] (by omega) rfl rfl rfl rfl rfl rfl (Nat.le_of_ble_eq_true rfl) (fun _ => xrc_ok (rcH h0 rfl)) (Nat.le_of_ble_eq_true rfl) rfl rfl (s_cH_turnOf (by omega) h0) (fun r3 m4 => ?_)
      refine w_istore (lsd := [(5, .int (i32 r3)), (0, .ref v0), (1, .int (i32 v1)), (2, .int (i32 v2)), (3, .int (i32 v3)), (4, .int (i32 v4))]) rfl (Nat.le_of_ble_eq_true rfl) rfl ?_
      show xw _ _ _ _ 24 _ _ _ _
      refine w_aload_n rfl rfl ?_
      refine w_iload rfl rfl ?_
      refine w_call1 [.ref v0, .int (i32 v4)] [] (by omega) rfl rfl rfl rfl rfl rfl (Nat.le_of_ble_eq_true rfl) (fun _ => xrc_ok (rcH h0 rfl)) (Nat.le_of_ble_eq_true rfl) rfl rfl (s_cH_wardsOf (by omega) h0) (fun r5 m6 => ?_)
      refine w_istore (lsd := [(6, .int (i32 r5)), (5, .int (i32 r3)), (0, .ref v0), (1, .int (i32 v1)), (2, .int (i32 v2)), (3, .int (i32 v3)), (4, .int (i32 v4))]) rfl (Nat.le_of_ble_eq_true rfl) rfl ?_
      refine w_iload rfl rfl ?_
      refine w_if_le (tg := 90) rfl rfl rfl ?_ ?_
      · exact w_weak [(0, .ref v0), (1, .int (i32 v1)), (2, .int (i32 v2)), (3, .int (i32 v3)), (4, .int (i32 v4))] rfl ⟨rfl, rfl, rfl, rfl, rfl, trivial⟩ (s_cH_after_90 (by omega) h0 hk5)
      · refine w_iload rfl rfl ?_
        refine w_if_le (tg := 90) rfl rfl rfl ?_ ?_
        · exact w_weak [(0, .ref v0), (1, .int (i32 v1)), (2, .int (i32 v2)), (3, .int (i32 v3)), (4, .int (i32 v4))] rfl ⟨rfl, rfl, rfl, rfl, rfl, trivial⟩ (s_cH_after_90 (by omega) h0 hk5)
        · refine w_aload_n rfl rfl ?_
          refine w_iload_n rfl rfl ?_
          refine w_iload rfl rfl ?_
          refine w_call1 [.ref v0, .int (i32 v1), .int (i32 v4)] [] (by omega) rfl rfl rfl rfl rfl rfl (Nat.le_of_ble_eq_true rfl) (fun _ => xrc_ok (rcH h0 rfl)) (Nat.le_of_ble_eq_true rfl) rfl rfl (s_cH_wardOf (by omega) h0) (fun r7 m8 => ?_)
          refine w_iload rfl rfl ?_
          show xw _ _ _ _ 51 _ _ _ _
          refine w_iadd rfl ?_
          refine w_iload rfl rfl ?_
          refine w_irem rfl rfl ?_
          refine w_letI (fun x9 => ?_)
          refine w_istore (lsd := [(7, .int (i32 x9)), (6, .int (i32 r5)), (5, .int (i32 r3)), (0, .ref v0), (1, .int (i32 v1)), (2, .int (i32 v2)), (3, .int (i32 v3)), (4, .int (i32 v4))]) rfl (Nat.le_of_ble_eq_true rfl) rfl ?_
          refine w_aload_n rfl rfl ?_
          refine w_iload_n rfl rfl ?_
          show xw _ _ _ _ 59 _ _ _ _
          refine w_iload rfl rfl ?_
          refine w_iload rfl rfl ?_
          refine w_call1 [.ref v0, .int (i32 v3), .int (i32 v4), .int (i32 x9)] [] (by omega) rfl rfl rfl rfl rfl rfl (Nat.le_of_ble_eq_true rfl) (fun _ => xrc_ok (rcH h0 rfl)) (Nat.le_of_ble_eq_true rfl) rfl rfl (s_cH_withWard (by omega) h0) (fun r10 m11 => ?_)
          refine w_istore_n (lsd := [(3, .int (i32 r10)), (7, .int (i32 x9)), (6, .int (i32 r5)), (5, .int (i32 r3)), (0, .ref v0), (1, .int (i32 v1)), (2, .int (i32 v2)), (4, .int (i32 v4))]) rfl (Nat.le_of_ble_eq_true rfl) rfl ?_
          refine w_iload rfl rfl ?_
          refine w_aload_n rfl rfl ?_
          show xw _ _ _ _ 70 _ _ _ _
          refine w_iload rfl rfl ?_
          refine w_call1 [.ref v0, .int (i32 v4)] [.int (i32 x9)] (by omega) rfl rfl rfl rfl rfl rfl (Nat.le_of_ble_eq_true rfl) (fun _ => xrc_ok (rcH h0 rfl)) (Nat.le_of_ble_eq_true rfl) rfl rfl (s_cH_jamWardOf (by omega) h0) (fun r12 m13 => ?_)
          refine w_icmp_ne (tg := 88) rfl rfl rfl rfl ?_ ?_
          · refine w_iload_n rfl rfl ?_
            exact w_weak [(0, .ref v0), (1, .int (i32 v1)), (2, .int (i32 v2)), (4, .int (i32 v4))] rfl ⟨rfl, rfl, rfl, rfl, trivial⟩ (s_cH_after_89 (by omega) h0 hk5)
          · refine w_aload_n rfl rfl ?_
            refine w_iload_n rfl rfl ?_
            refine w_iload rfl rfl ?_
            refine w_call1 [.ref v0, .int (i32 r10), .int (i32 v4)] [] (by omega) rfl rfl rfl rfl rfl rfl (Nat.le_of_ble_eq_true rfl) (fun _ => xrc_ok (rcH h0 rfl)) (Nat.le_of_ble_eq_true rfl) rfl rfl (s_cH_withJam (by omega) h0) (fun r14 m15 => ?_)
            refine w_goto (tg := 89) rfl rfl ?_
            exact w_weak [(0, .ref v0), (1, .int (i32 v1)), (2, .int (i32 v2)), (4, .int (i32 v4))] rfl ⟨rfl, rfl, rfl, rfl, trivial⟩ (s_cH_after_89 (by omega) h0 hk5)
theorem s_cH_after {d : Nat} {v0 : Nat} {v1 : Int} {v2 : Int} {m : xm} (hd : 3 ≤ d) (h0 : isH v0) : xw (am_E L xs bz) d am_m39 1 0 [(0, .ref v0), (1, .int (i32 v1)), (2, .int (i32 v2))] [] m (cH_after v0 v1 v2 m) := by
  unfold cH_after
  refine w_iload_n rfl rfl ?_
  refine w_istore_n (lsd := [(3, .int (i32 v1)), (0, .ref v0), (1, .int (i32 v1)), (2, .int (i32 v2))]) rfl (Nat.le_of_ble_eq_true rfl) rfl ?_
  refine w_iconst rfl ?_
  refine w_istore (lsd := [(4, .int (i32 0)), (3, .int (i32 v1)), (0, .ref v0), (1, .int (i32 v1)), (2, .int (i32 v2))]) rfl (Nat.le_of_ble_eq_true rfl) rfl ?_
  exact w_weak [(0, .ref v0), (1, .int (i32 v1)), (2, .int (i32 v2)), (3, .int (i32 v1)), (4, .int (i32 0))] rfl ⟨rfl, rfl, rfl, rfl, rfl, trivial⟩ (s_cH_after_5 (by omega) h0 _)
theorem s_cH_bitsOfAll {d : Nat} {v0 : Nat} {v1 : Int} {m : xm} (hd : 2 ≤ d) (h0 : isH v0) : xw (am_E L xs bz) d am_m43 1 0 [(0, .ref v0), (1, .int (i32 v1))] [] m (cH_bitsOfAll v0 v1 m) := by
  unfold cH_bitsOfAll
  refine w_iconst rfl ?_
  refine w_aload_n rfl rfl ?_
  refine w_iload_n rfl rfl ?_
  refine w_call1 [.ref v0, .int (i32 v1)] [.int (i32 1)] (by omega) rfl rfl rfl rfl rfl rfl (Nat.le_of_ble_eq_true rfl) (fun _ => xrc_ok (rcH h0 rfl)) (Nat.le_of_ble_eq_true rfl) rfl rfl (s_cH_count (by omega) h0) (fun r1 m2 => ?_)
  refine w_ishl rfl ?_
  show xw _ _ _ _ 7 _ _ _ _
  refine w_iconst rfl ?_
  refine w_isub rfl ?_
  exact w_retv rfl rfl
theorem s_cH_areDoors {d : Nat} {v0 : Nat} {v1 : Int} {m : xm} (hd : 3 ≤ d) (h0 : isH v0) : xw (am_E L xs bz) d am_m42 1 0 [(0, .ref v0), (1, .int (i32 v1))] [] m (cH_areDoors v0 v1 m) := by
  unfold cH_areDoors
  refine w_iload_n rfl rfl ?_
  refine w_if_lt (tg := 17) rfl rfl rfl ?_ ?_
  · refine w_iconst rfl ?_
    exact w_retv rfl rfl
  · refine w_iload_n rfl rfl ?_
    refine w_aload_n rfl rfl ?_
    refine w_iconst rfl ?_
    refine w_call1 [.ref v0, .int (i32 2)] [.int (i32 v1)] (by omega) rfl rfl rfl rfl rfl rfl (Nat.le_of_ble_eq_true rfl) (fun _ => xrc_ok (rcH h0 rfl)) (Nat.le_of_ble_eq_true rfl) rfl rfl (s_cH_bitsOfAll (by omega) h0) (fun r1 m2 => ?_)
    refine w_icmp_gt (tg := 17) rfl rfl rfl rfl ?_ ?_
    · refine w_iconst rfl ?_
      exact w_retv rfl rfl
    · refine w_iconst rfl ?_
      refine w_goto (tg := 18) rfl rfl ?_
      exact w_retv rfl rfl
theorem s_cH_ways {d : Nat} {v0 : Nat} {m : xm} (hd : 0 ≤ d) (h0 : isH v0) : xw (am_E L xs bz) d am_m44 1 0 [(0, .ref v0)] [] m (cH_ways v0 m) := by
  unfold cH_ways
  refine w_aload_n rfl rfl ?_
  refine w_gfi rfl rfl (isH_lt h0) (gfH_12 h0) rfl ?_
  exact w_retv rfl rfl
theorem s_cH_withoutJam {d : Nat} {v0 : Nat} {v1 : Int} {v2 : Int} {m : xm} (hd : 2 ≤ d) (h0 : isH v0) : xw (am_E L xs bz) d am_m45 1 0 [(0, .ref v0), (1, .int (i32 v1)), (2, .int (i32 v2))] [] m (cH_withoutJam v0 v1 v2 m) := by
  unfold cH_withoutJam
  refine w_aload_n rfl rfl ?_
  refine w_iload_n rfl rfl ?_
  refine w_iload_n rfl rfl ?_
  refine w_call1 [.ref v0, .int (i32 v1), .int (i32 v2)] [] (by omega) rfl rfl rfl rfl rfl rfl (Nat.le_of_ble_eq_true rfl) (fun _ => xrc_ok (rcH h0 rfl)) (Nat.le_of_ble_eq_true rfl) rfl rfl (s_cH_isJammed (by omega) h0) (fun r1 m2 => ?_)
  refine w_if_eq (tg := 20) rfl rfl rfl ?_ ?_
  · refine w_iload_n rfl rfl ?_
    exact w_retv rfl rfl
  · refine w_iload_n rfl rfl ?_
    refine w_aload_n rfl rfl ?_
    refine w_gfi rfl rfl (isH_lt h0) (gfH_12 h0) rfl ?_
    refine w_iload_n rfl rfl ?_
    refine w_ishl rfl ?_
    show xw _ _ _ _ 16 _ _ _ _
    refine w_isub rfl ?_
    refine w_goto (tg := 21) rfl rfl ?_
    exact w_retv rfl rfl
theorem s_cW_begin {d : Nat} {m : xm} (hd : 2 ≤ d) : xw (am_E L xs bz) d am_m117 0 0 [(0, .ref 3)] [] m (cW_begin m) := by
  unfold cW_begin
  refine w_aload_n rfl rfl ?_
  refine w_iconst rfl ?_
  refine w_pfi rfl rfl (Nat.le_of_ble_eq_true rfl) rfl rfl rfl (fun m1 => ?_)
  refine w_aload_n rfl rfl ?_
  refine w_iconst rfl ?_
  show xw _ _ _ _ 7 _ _ _ _
  refine w_pfi rfl rfl (Nat.le_of_ble_eq_true rfl) rfl rfl rfl (fun m2 => ?_)
  refine w_aload_n rfl rfl ?_
  refine w_iconst rfl ?_
  refine w_pfi rfl rfl (Nat.le_of_ble_eq_true rfl) rfl rfl rfl (fun m3 => ?_)
  refine w_aload_n rfl rfl ?_
  refine w_iconst rfl ?_
  show xw _ _ _ _ 17 _ _ _ _
  refine w_pfi rfl rfl (Nat.le_of_ble_eq_true rfl) rfl rfl rfl (fun m4 => ?_)
  refine w_aload_n rfl rfl ?_
  refine w_call0 [.ref 3] [] (by omega) rfl rfl rfl rfl rfl rfl (Nat.le_of_ble_eq_true rfl) (fun _ => xrc_ok rfl) (Nat.le_of_ble_eq_true rfl) rfl rfl (s_cW_next (by omega)) (fun r5 m6 => ?_)
  exact w_retv (x := 0) rfl rfl
theorem s_cW_isEnd {d : Nat} {m : xm} (hd : 0 ≤ d) : xw (am_E L xs bz) d am_m121 1 0 [(0, .ref 3)] [] m (cW_isEnd m) := by
  unfold cW_isEnd
  refine w_aload_n rfl rfl ?_
  refine w_gfi rfl rfl (Nat.le_of_ble_eq_true rfl) rfl rfl ?_
  refine w_if_ne (tg := 11) rfl rfl (w32_ld _ _ _) ?_ ?_
  · refine w_iconst rfl ?_
    exact w_retv rfl rfl
  · refine w_iconst rfl ?_
    refine w_goto (tg := 12) rfl rfl ?_
    exact w_retv rfl rfl
theorem s_cW_faultKind {d : Nat} {m : xm} (hd : 0 ≤ d) : xw (am_E L xs bz) d am_m127 1 0 [(0, .ref 3)] [] m (cW_faultKind m) := by
  unfold cW_faultKind
  refine w_aload_n rfl rfl ?_
  refine w_gfi rfl rfl (Nat.le_of_ble_eq_true rfl) rfl rfl ?_
  exact w_retv rfl rfl
theorem s_cW_needWord {d : Nat} {v1 : Nat} {m : xm} (hd : 8 ≤ d) (h1 : v1 < 31) : xw (am_E L xs bz) d am_m128 0 0 [(0, .ref 3), (1, .ref (1000000 + 2 * v1))] [] m (cW_needWord v1 m) := by
  unfold cW_needWord
  refine w_aload_n rfl rfl ?_
  refine w_aload_n rfl rfl ?_
  refine w_call1 [.ref 3, .ref (1000000 + 2 * v1)] [] (by omega) rfl rfl rfl rfl rfl rfl (Nat.le_of_ble_eq_true rfl) (fun _ => xrc_ok rfl) (Nat.le_of_ble_eq_true rfl) rfl rfl (s_cW_isWord (by omega) h1) (fun r1 m2 => ?_)
  refine w_if_eq (tg := 15) rfl rfl rfl ?_ ?_
  · refine w_aload_n rfl rfl ?_
    refine w_iconst rfl ?_
    refine w_call0 [.ref 3, .int (i32 1)] [] (by omega) rfl rfl rfl rfl rfl rfl (Nat.le_of_ble_eq_true rfl) (fun _ => xrc_ok rfl) (Nat.le_of_ble_eq_true rfl) rfl rfl (s_cW_failHere (by omega)) (fun r3 m4 => ?_)
    exact w_retv (x := 0) rfl rfl
  · refine w_aload_n rfl rfl ?_
    refine w_call0 [.ref 3] [] (by omega) rfl rfl rfl rfl rfl rfl (Nat.le_of_ble_eq_true rfl) (fun _ => xrc_ok rfl) (Nat.le_of_ble_eq_true rfl) rfl rfl (s_cW_next (by omega)) (fun r5 m6 => ?_)
    refine w_goto (tg := 20) rfl rfl ?_
    exact w_retv (x := 0) rfl rfl
theorem s_cW_isOwnWord_110 {d : Nat} {k12 : Int → Int → xm → xr} (hd : 7 ≤ d) (hk12 : ∀ (v1 v2 : Int) (m : xm), xw (am_E L xs bz) d am_m126 1 12 [(0, .ref 3), (1, .int (i32 v1)), (2, .int (i32 v2))] [] m (k12 v1 v2 m)) {v1 : Int} {v2 : Int} {v3 : Int} {m : xm} : xw (am_E L xs bz) d am_m126 1 110 [(0, .ref 3), (1, .int (i32 v1)), (2, .int (i32 v2)), (3, .int (i32 v3))] [] m (cW_isOwnWord_110 k12 v1 v2 v3 m) := by
  unfold cW_isOwnWord_110
  refine w_iload_n rfl rfl ?_
  refine w_if_eq (tg := 116) rfl rfl rfl ?_ ?_
  · refine w_iinc (lsd := [(2, .int (i32 (v2 + 1))), (0, .ref 3), (1, .int (i32 v1)), (3, .int (i32 v3))]) rfl (Nat.le_of_ble_eq_true rfl) rfl rfl ?_
    refine w_goto (tg := 12) rfl rfl ?_
    exact w_weak [(0, .ref 3), (1, .int (i32 v1)), (2, .int (i32 (v2 + 1)))] rfl ⟨rfl, rfl, rfl, trivial⟩ (hk12 v1 (v2 + 1) m)
  · refine w_iconst rfl ?_
    exact w_retv rfl rfl
theorem s_cW_isOwnWord_103 {d : Nat} {k12 : Int → Int → xm → xr} {k60 : Int → Int → Int → Int → xm → xr} (hd : 7 ≤ d) (hk12 : ∀ (v1 v2 : Int) (m : xm), xw (am_E L xs bz) d am_m126 1 12 [(0, .ref 3), (1, .int (i32 v1)), (2, .int (i32 v2))] [] m (k12 v1 v2 m)) (hk60 : ∀ (v1 v2 v3 v4 : Int) (m : xm), xw (am_E L xs bz) d am_m126 1 60 [(0, .ref 3), (1, .int (i32 v1)), (2, .int (i32 v2)), (3, .int (i32 v3)), (4, .int (i32 v4))] [] m (k60 v1 v2 v3 v4 m)) {v1 : Int} {v2 : Int} {v4 : Int} {s0 : Int} {m : xm} : xw (am_E L xs bz) d am_m126 1 103 [(0, .ref 3), (1, .int (i32 v1)), (2, .int (i32 v2)), (4, .int (i32 v4))] [.int (i32 s0)] m (cW_isOwnWord_103 k12 k60 v1 v2 v4 s0 m) := by
  unfold cW_isOwnWord_103
  refine w_letI (fun x1 => ?_)
  refine w_istore_n (lsd := [(3, .int (i32 x1)), (0, .ref 3), (1, .int (i32 v1)), (2, .int (i32 v2)), (4, .int (i32 v4))]) rfl (Nat.le_of_ble_eq_true rfl) rfl ?_
  refine w_iinc (lsd := [(4, .int (i32 (v4 + 1))), (3, .int (i32 x1)), (0, .ref 3), (1, .int (i32 v1)), (2, .int (i32 v2))]) rfl (Nat.le_of_ble_eq_true rfl) rfl rfl ?_
  refine w_goto (tg := 60) rfl rfl ?_
  exact w_weak [(0, .ref 3), (1, .int (i32 v1)), (2, .int (i32 v2)), (3, .int (i32 x1)), (4, .int (i32 (v4 + 1)))] rfl ⟨rfl, rfl, rfl, rfl, rfl, trivial⟩ (hk60 v1 v2 x1 (v4 + 1) m)
theorem s_cW_isOwnWord_60 {d : Nat} {k12 : Int → Int → xm → xr} (hd : 7 ≤ d) (hk12 : ∀ (v1 v2 : Int) (m : xm), xw (am_E L xs bz) d am_m126 1 12 [(0, .ref 3), (1, .int (i32 v1)), (2, .int (i32 v2))] [] m (k12 v1 v2 m)) : ∀ (n : Nat) {v1 : Int} {v2 : Int} {v3 : Int} {v4 : Int} {m : xm}, xw (am_E L xs bz) d am_m126 1 60 [(0, .ref 3), (1, .int (i32 v1)), (2, .int (i32 v2)), (3, .int (i32 v3)), (4, .int (i32 v4))] [] m (cW_isOwnWord_60 k12 n v1 v2 v3 v4 m) := by
  intro n
  induction n with
  | zero => intros; exact w_none
  | succ n ih =>
    intro v1 v2 v3 v4 m
    have hk60 := fun (v1 v2 v3 v4 : Int) (m : xm) => @ih v1 v2 v3 v4 m
    unfold cW_isOwnWord_60
    refine w_iload rfl rfl ?_
    refine w_iload_n rfl rfl ?_
    refine w_icmp_ge (tg := 110) rfl rfl rfl rfl ?_ ?_
    · exact w_weak [(0, .ref 3), (1, .int (i32 v1)), (2, .int (i32 v2)), (3, .int (i32 v3))] rfl ⟨rfl, rfl, rfl, rfl, trivial⟩ (s_cW_isOwnWord_110 (by omega) hk12)
    · refine w_iload_n rfl rfl ?_
      refine w_if_eq (tg := 110) rfl rfl rfl ?_ ?_
      · exact w_weak [(0, .ref 3), (1, .int (i32 v1)), (2, .int (i32 v2)), (3, .int (i32 v3))] rfl ⟨rfl, rfl, rfl, rfl, trivial⟩ (s_cW_isOwnWord_110 (by omega) hk12)
      · refine w_ldc rfl rfl ?_
        refine w_iload_n rfl rfl ?_
        refine w_iconst rfl ?_
        refine w_iadd rfl ?_
        refine w_iload rfl rfl ?_
        show xw _ _ _ _ 77 _ _ _ _
        refine w_iadd rfl ?_
        refine w_call1 [.ref (1000000 + 2 * 1), .int (i32 ((v2 + 1) + v4))] [] (by omega) rfl rfl rfl rfl rfl rfl (Nat.le_of_ble_eq_true rfl) (fun _ => rcv_S (Nat.le_of_ble_eq_true rfl) rfl) (Nat.le_of_ble_eq_true rfl) rfl rfl (s_j_chr (by omega) (Nat.le_of_ble_eq_true rfl)) (fun r1 m2 => ?_)
        refine w_aload_n rfl rfl ?_
        refine w_gfr (r := 1) rfl rfl (Nat.le_of_ble_eq_true rfl) rfl rfl ?_
        refine w_aload_n rfl rfl ?_
        refine w_gfi rfl rfl (Nat.le_of_ble_eq_true rfl) rfl rfl ?_
        show xw _ _ _ _ 89 _ _ _ _
        refine w_iload rfl rfl ?_
        refine w_iadd rfl ?_
        refine w_call1 [.ref 1, .int (i32 ((ld m2 3 2) + v4))] [.int (i32 r1)] (by omega) rfl rfl rfl rfl rfl rfl (Nat.le_of_ble_eq_true rfl) (fun _ => xrc_ok rfl) (Nat.le_of_ble_eq_true rfl) rfl rfl (s_cT_byteAt (by omega)) (fun r3 m4 => ?_)
        refine w_icmp_ne (tg := 102) rfl rfl rfl rfl ?_ ?_
        · refine w_iconst rfl ?_
          exact w_weak [(0, .ref 3), (1, .int (i32 v1)), (2, .int (i32 v2)), (4, .int (i32 v4))] rfl ⟨rfl, rfl, rfl, rfl, trivial⟩ (s_cW_isOwnWord_103 (by omega) hk12 hk60)
        · refine w_iconst rfl ?_
          refine w_goto (tg := 103) rfl rfl ?_
          exact w_weak [(0, .ref 3), (1, .int (i32 v1)), (2, .int (i32 v2)), (4, .int (i32 v4))] rfl ⟨rfl, rfl, rfl, rfl, trivial⟩ (s_cW_isOwnWord_103 (by omega) hk12 hk60)
theorem s_cW_isOwnWord_56 {d : Nat} {k12 : Int → Int → xm → xr} (hd : 7 ≤ d) (hk12 : ∀ (v1 v2 : Int) (m : xm), xw (am_E L xs bz) d am_m126 1 12 [(0, .ref 3), (1, .int (i32 v1)), (2, .int (i32 v2))] [] m (k12 v1 v2 m)) {v1 : Int} {v2 : Int} {s0 : Int} {m : xm} : xw (am_E L xs bz) d am_m126 1 56 [(0, .ref 3), (1, .int (i32 v1)), (2, .int (i32 v2))] [.int (i32 s0)] m (cW_isOwnWord_56 k12 v1 v2 s0 m) := by
  unfold cW_isOwnWord_56
  refine w_letI (fun x1 => ?_)
  refine w_istore_n (lsd := [(3, .int (i32 x1)), (0, .ref 3), (1, .int (i32 v1)), (2, .int (i32 v2))]) rfl (Nat.le_of_ble_eq_true rfl) rfl ?_
  refine w_iconst rfl ?_
  refine w_istore (lsd := [(4, .int (i32 0)), (3, .int (i32 x1)), (0, .ref 3), (1, .int (i32 v1)), (2, .int (i32 v2))]) rfl (Nat.le_of_ble_eq_true rfl) rfl ?_
  exact w_weak [(0, .ref 3), (1, .int (i32 v1)), (2, .int (i32 v2)), (3, .int (i32 x1)), (4, .int (i32 0))] rfl ⟨rfl, rfl, rfl, rfl, rfl, trivial⟩ (s_cW_isOwnWord_60 (by omega) hk12 _)
theorem s_cW_isOwnWord_55 {d : Nat} {k12 : Int → Int → xm → xr} (hd : 7 ≤ d) (hk12 : ∀ (v1 v2 : Int) (m : xm), xw (am_E L xs bz) d am_m126 1 12 [(0, .ref 3), (1, .int (i32 v1)), (2, .int (i32 v2))] [] m (k12 v1 v2 m)) {v1 : Int} {v2 : Int} {m : xm} : xw (am_E L xs bz) d am_m126 1 55 [(0, .ref 3), (1, .int (i32 v1)), (2, .int (i32 v2))] [] m (cW_isOwnWord_55 k12 v1 v2 m) := by
  unfold cW_isOwnWord_55
  refine w_iconst rfl ?_
  exact w_weak [(0, .ref 3), (1, .int (i32 v1)), (2, .int (i32 v2))] rfl ⟨rfl, rfl, rfl, trivial⟩ (s_cW_isOwnWord_56 (by omega) hk12)
theorem s_cW_isOwnWord_12 {d : Nat} (hd : 7 ≤ d) : ∀ (n : Nat) {v1 : Int} {v2 : Int} {m : xm}, xw (am_E L xs bz) d am_m126 1 12 [(0, .ref 3), (1, .int (i32 v1)), (2, .int (i32 v2))] [] m (cW_isOwnWord_12 n v1 v2 m) := by
  intro n
  induction n with
  | zero => intros; exact w_none
  | succ n ih =>
    intro v1 v2 m
    have hk12 := fun (v1 v2 : Int) (m : xm) => @ih v1 v2 m
    unfold cW_isOwnWord_12
    refine w_iload_n rfl rfl ?_
    refine w_iload_n rfl rfl ?_
    refine w_iadd rfl ?_
    refine w_iconst rfl ?_
    refine w_iadd rfl ?_
    show xw _ _ _ _ 17 _ _ _ _
    refine w_ldc rfl rfl ?_
    refine w_call1 [.ref (1000000 + 2 * 1)] [.int (i32 ((v2 + v1) + 1))] (by omega) rfl rfl rfl rfl rfl rfl (Nat.le_of_ble_eq_true rfl) (fun _ => rcv_S (Nat.le_of_ble_eq_true rfl) rfl) (Nat.le_of_ble_eq_true rfl) rfl rfl (s_j_len (by omega) (Nat.le_of_ble_eq_true rfl)) (fun r1 m2 => ?_)
    refine w_icmp_ge (tg := 122) rfl rfl rfl rfl ?_ ?_
    · refine w_iconst rfl ?_
      exact w_retv rfl rfl
    · refine w_ldc rfl rfl ?_
      refine w_iload_n rfl rfl ?_
      refine w_call1 [.ref (1000000 + 2 * 1), .int (i32 v2)] [] (by omega) rfl rfl rfl rfl rfl rfl (Nat.le_of_ble_eq_true rfl) (fun _ => rcv_S (Nat.le_of_ble_eq_true rfl) rfl) (Nat.le_of_ble_eq_true rfl) rfl rfl (s_j_chr (by omega) (Nat.le_of_ble_eq_true rfl)) (fun r3 m4 => ?_)
      refine w_bipush rfl rfl ?_
      refine w_icmp_ne (tg := 55) rfl rfl rfl rfl ?_ ?_
      · exact w_weak [(0, .ref 3), (1, .int (i32 v1)), (2, .int (i32 v2))] rfl ⟨rfl, rfl, rfl, trivial⟩ (s_cW_isOwnWord_55 (by omega) hk12)
      · refine w_ldc rfl rfl ?_
        refine w_iload_n rfl rfl ?_
        refine w_iload_n rfl rfl ?_
        refine w_iadd rfl ?_
        refine w_iconst rfl ?_
        show xw _ _ _ _ 42 _ _ _ _
        refine w_iadd rfl ?_
        refine w_call1 [.ref (1000000 + 2 * 1), .int (i32 ((v2 + v1) + 1))] [] (by omega) rfl rfl rfl rfl rfl rfl (Nat.le_of_ble_eq_true rfl) (fun _ => rcv_S (Nat.le_of_ble_eq_true rfl) rfl) (Nat.le_of_ble_eq_true rfl) rfl rfl (s_j_chr (by omega) (Nat.le_of_ble_eq_true rfl)) (fun r5 m6 => ?_)
        refine w_bipush rfl rfl ?_
        refine w_icmp_ne (tg := 55) rfl rfl rfl rfl ?_ ?_
        · exact w_weak [(0, .ref 3), (1, .int (i32 v1)), (2, .int (i32 v2))] rfl ⟨rfl, rfl, rfl, trivial⟩ (s_cW_isOwnWord_55 (by omega) hk12)
        · refine w_iconst rfl ?_
          refine w_goto (tg := 56) rfl rfl ?_
          exact w_weak [(0, .ref 3), (1, .int (i32 v1)), (2, .int (i32 v2))] rfl ⟨rfl, rfl, rfl, trivial⟩ (s_cW_isOwnWord_56 (by omega) hk12)
theorem s_cW_isOwnWord {d : Nat} {m : xm} (hd : 7 ≤ d) : xw (am_E L xs bz) d am_m126 1 0 [(0, .ref 3)] [] m (cW_isOwnWord m) := by
  unfold cW_isOwnWord
  refine w_aload_n rfl rfl ?_
  refine w_gfi rfl rfl (Nat.le_of_ble_eq_true rfl) rfl rfl ?_
  refine w_aload_n rfl rfl ?_
  refine w_gfi rfl rfl (Nat.le_of_ble_eq_true rfl) rfl rfl ?_
  refine w_isub rfl ?_
  show xw _ _ _ _ 9 _ _ _ _
  refine w_letI (fun x1 => ?_)
  refine w_istore_n (lsd := [(1, .int (i32 x1)), (0, .ref 3)]) rfl (Nat.le_of_ble_eq_true rfl) rfl ?_
  refine w_iconst rfl ?_
  refine w_istore_n (lsd := [(2, .int (i32 0)), (1, .int (i32 x1)), (0, .ref 3)]) rfl (Nat.le_of_ble_eq_true rfl) rfl ?_
  exact w_weak [(0, .ref 3), (1, .int (i32 x1)), (2, .int (i32 0))] rfl ⟨rfl, rfl, rfl, trivial⟩ (s_cW_isOwnWord_12 (by omega) _)
end S01
