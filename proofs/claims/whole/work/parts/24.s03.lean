section S03
variable {L : Nat} {xs : Nat → Int32} {bz : Bool}
theorem s_cS_seekJustDoors {d : Nat} {v1 : Int} {m : xm} (hd : 0 ≤ d) : xw (am_E L xs bz) d am_m71 0 0 [(0, .ref 11), (1, .int (i32 v1))] [] m (cS_seekJustDoors v1 m) := by
  unfold cS_seekJustDoors
  refine w_aload_n rfl rfl ?_
  refine w_iconst rfl ?_
  refine w_pfi rfl rfl (Nat.le_of_ble_eq_true rfl) rfl rfl rfl (fun m1 => ?_)
  refine w_aload_n rfl rfl ?_
  refine w_iload_n rfl rfl ?_
  show xw _ _ _ _ 7 _ _ _ _
  refine w_pfi rfl rfl (Nat.le_of_ble_eq_true rfl) rfl rfl rfl (fun m2 => ?_)
  exact w_retv (x := 0) rfl rfl
theorem s_cS_reach {d : Nat} {v1 : Int} {v2 : Int} {v3 : Int} {m : xm} (hd : 1 ≤ d) : xw (am_E L xs bz) d am_m73 0 0 [(0, .ref 11), (1, .int (i32 v1)), (2, .int (i32 v2)), (3, .int (i32 v3))] [] m (cS_reach v1 v2 v3 m) := by
  unfold cS_reach
  refine w_iconst rfl ?_
  refine w_iload_n rfl rfl ?_
  refine w_bipush rfl rfl ?_
  refine w_iand rfl ?_
  refine w_ishl rfl ?_
  show xw _ _ _ _ 6 _ _ _ _
  refine w_letI (fun x1 => ?_)
  refine w_istore (lsd := [(4, .int (i32 x1)), (0, .ref 11), (1, .int (i32 v1)), (2, .int (i32 v2)), (3, .int (i32 v3))]) rfl (Nat.le_of_ble_eq_true rfl) rfl ?_
  refine w_aload_n rfl rfl ?_
  refine w_gfr (r := 12) rfl rfl (Nat.le_of_ble_eq_true rfl) rfl rfl ?_
  refine w_iload_n rfl rfl ?_
  refine w_bipush rfl rfl ?_
  refine w_idivc rfl (by decide) ?_
  show xw _ _ _ _ 16 _ _ _ _
  refine w_call1 [.ref 12, .int (i32 (idv v1 32))] [] (by omega) rfl rfl rfl rfl rfl rfl (Nat.le_of_ble_eq_true rfl) (fun z => by cases z) (Nat.le_of_ble_eq_true rfl) rfl rfl (s_cL_cell (by omega) rfl) (fun r2 m3 => ?_)
  refine w_iload rfl rfl ?_
  refine w_iand rfl ?_
  refine w_if_ne (tg := 35) rfl rfl (w32_of _) ?_ ?_
  · exact w_retv (x := 0) rfl rfl
  · refine w_aload_n rfl rfl ?_
    refine w_gfi rfl rfl (Nat.le_of_ble_eq_true rfl) rfl rfl ?_
    refine w_sipush rfl rfl ?_
    refine w_icmp_lt (tg := 36) rfl rfl (w32_ld _ _ _) rfl ?_ ?_
    · refine w_aload_n rfl rfl ?_
      refine w_gfr (r := 12) rfl rfl (Nat.le_of_ble_eq_true rfl) rfl rfl ?_
      refine w_iload_n rfl rfl ?_
      refine w_bipush rfl rfl ?_
      refine w_idivc rfl (by decide) ?_
      show xw _ _ _ _ 44 _ _ _ _
      refine w_aload_n rfl rfl ?_
      refine w_gfr (r := 12) rfl rfl (Nat.le_of_ble_eq_true rfl) rfl rfl ?_
      refine w_iload_n rfl rfl ?_
      refine w_bipush rfl rfl ?_
      refine w_idivc rfl (by decide) ?_
      refine w_call1 [.ref 12, .int (i32 (idv v1 32))] [.int (i32 (idv v1 32)), .ref 12] (by omega) rfl rfl rfl rfl rfl rfl (Nat.le_of_ble_eq_true rfl) (fun z => by cases z) (Nat.le_of_ble_eq_true rfl) rfl rfl (s_cL_cell (by omega) rfl) (fun r4 m5 => ?_)
      show xw _ _ _ _ 55 _ _ _ _
      refine w_iload rfl rfl ?_
      refine w_ior rfl ?_
      refine w_call0 [.ref 12, .int (i32 (idv v1 32)), .int (i32 (bor r4 x1))] [] (by omega) rfl rfl rfl rfl rfl rfl (Nat.le_of_ble_eq_true rfl) (fun z => by cases z) (Nat.le_of_ble_eq_true rfl) rfl rfl (s_cL_setCell (by omega) rfl) (fun r6 m7 => ?_)
      refine w_aload_n rfl rfl ?_
      refine w_gfr (r := 13) rfl rfl (Nat.le_of_ble_eq_true rfl) rfl rfl ?_
      refine w_aload_n rfl rfl ?_
      show xw _ _ _ _ 66 _ _ _ _
      refine w_gfi rfl rfl (Nat.le_of_ble_eq_true rfl) rfl rfl ?_
      refine w_iload_n rfl rfl ?_
      refine w_call0 [.ref 13, .int (i32 (ld m7 11 4)), .int (i32 v1)] [] (by omega) rfl rfl rfl rfl rfl rfl (Nat.le_of_ble_eq_true rfl) (fun z => by cases z) (Nat.le_of_ble_eq_true rfl) rfl rfl (s_cL_setCell (by omega) rfl) (fun r8 m9 => ?_)
      refine w_aload_n rfl rfl ?_
      refine w_gfr (r := 14) rfl rfl (Nat.le_of_ble_eq_true rfl) rfl rfl ?_
      refine w_aload_n rfl rfl ?_
      show xw _ _ _ _ 78 _ _ _ _
      refine w_gfi rfl rfl (Nat.le_of_ble_eq_true rfl) rfl rfl ?_
      refine w_iload_n rfl rfl ?_
      refine w_call0 [.ref 14, .int (i32 (ld m9 11 4)), .int (i32 v2)] [] (by omega) rfl rfl rfl rfl rfl rfl (Nat.le_of_ble_eq_true rfl) (fun z => by cases z) (Nat.le_of_ble_eq_true rfl) rfl rfl (s_cL_setCell (by omega) rfl) (fun r10 m11 => ?_)
      refine w_aload_n rfl rfl ?_
      refine w_gfr (r := 15) rfl rfl (Nat.le_of_ble_eq_true rfl) rfl rfl ?_
      refine w_aload_n rfl rfl ?_
      show xw _ _ _ _ 90 _ _ _ _
      refine w_gfi rfl rfl (Nat.le_of_ble_eq_true rfl) rfl rfl ?_
      refine w_iload_n rfl rfl ?_
      refine w_call0 [.ref 15, .int (i32 (ld m11 11 4)), .int (i32 v3)] [] (by omega) rfl rfl rfl rfl rfl rfl (Nat.le_of_ble_eq_true rfl) (fun z => by cases z) (Nat.le_of_ble_eq_true rfl) rfl rfl (s_cL_setCell (by omega) rfl) (fun r12 m13 => ?_)
      refine w_aload_n rfl rfl ?_
      refine w_dup rfl rfl ?_
      refine w_gfi rfl rfl (Nat.le_of_ble_eq_true rfl) rfl rfl ?_
      show xw _ _ _ _ 102 _ _ _ _
      refine w_iconst rfl ?_
      refine w_iadd rfl ?_
      refine w_pfi rfl rfl (Nat.le_of_ble_eq_true rfl) rfl rfl rfl (fun m14 => ?_)
      exact w_retv (x := 0) rfl rfl
    · exact w_retv (x := 0) rfl rfl
theorem s_cS_isSought {d : Nat} {v1 : Nat} {v2 : Int} {m : xm} (hd : 5 ≤ d) (h1 : isH v1) : xw (am_E L xs bz) d am_m74 1 0 [(0, .ref 11), (1, .ref v1), (2, .int (i32 v2))] [] m (cS_isSought v1 v2 m) := by
  unfold cS_isSought
  refine w_aload_n rfl rfl ?_
  refine w_gfi rfl rfl (Nat.le_of_ble_eq_true rfl) rfl rfl ?_
  refine w_tsw (t0 := 87) (fs := [28, 46, 69]) rfl (w32_ld _ _ _) rfl rfl rfl ?_ ?_
  · refine w_iconst rfl ?_
    exact w_retv rfl rfl
  · refine ⟨⟨32, rfl, ?_⟩, ⟨50, rfl, ?_⟩, ⟨73, rfl, ?_⟩, trivial⟩
    · refine w_aload_n rfl rfl ?_
      refine w_iload_n rfl rfl ?_
      refine w_call1 [.ref v1, .int (i32 v2)] [] (by omega) rfl rfl rfl rfl rfl rfl (Nat.le_of_ble_eq_true rfl) (fun _ => xrc_ok (rcH h1 rfl)) (Nat.le_of_ble_eq_true rfl) rfl rfl (s_cH_openDoors (by omega) h1) (fun r1 m2 => ?_)
      refine w_aload_n rfl rfl ?_
      refine w_gfi rfl rfl (Nat.le_of_ble_eq_true rfl) rfl rfl ?_
      show xw _ _ _ _ 41 _ _ _ _
      refine w_icmp_ne (tg := 48) rfl rfl rfl (w32_ld _ _ _) ?_ ?_
      · refine w_iconst rfl ?_
        exact w_retv rfl rfl
      · refine w_iconst rfl ?_
        refine w_goto (tg := 49) rfl rfl ?_
        exact w_retv rfl rfl
    · refine w_aload_n rfl rfl ?_
      refine w_iload_n rfl rfl ?_
      refine w_call1 [.ref v1, .int (i32 v2)] [] (by omega) rfl rfl rfl rfl rfl rfl (Nat.le_of_ble_eq_true rfl) (fun _ => xrc_ok (rcH h1 rfl)) (Nat.le_of_ble_eq_true rfl) rfl rfl (s_cH_openDoors (by omega) h1) (fun r3 m4 => ?_)
      refine w_aload_n rfl rfl ?_
      refine w_gfi rfl rfl (Nat.le_of_ble_eq_true rfl) rfl rfl ?_
      show xw _ _ _ _ 59 _ _ _ _
      refine w_iand rfl ?_
      refine w_aload_n rfl rfl ?_
      refine w_gfi rfl rfl (Nat.le_of_ble_eq_true rfl) rfl rfl ?_
      refine w_icmp_ne (tg := 71) rfl rfl (w32_of _) (w32_ld _ _ _) ?_ ?_
      · refine w_iconst rfl ?_
        exact w_retv rfl rfl
      · refine w_iconst rfl ?_
        refine w_goto (tg := 72) rfl rfl ?_
        exact w_retv rfl rfl
    · refine w_iload_n rfl rfl ?_
      refine w_aload_n rfl rfl ?_
      refine w_gfi rfl rfl (Nat.le_of_ble_eq_true rfl) rfl rfl ?_
      refine w_icmp_ne (tg := 85) rfl rfl rfl (w32_ld _ _ _) ?_ ?_
      · refine w_iconst rfl ?_
        exact w_retv rfl rfl
      · refine w_iconst rfl ?_
        refine w_goto (tg := 86) rfl rfl ?_
        exact w_retv rfl rfl
theorem s_cS_find_120 {d : Nat} {v1 : Nat} {k23 : Int → Int → xm → xr} (hd : 6 ≤ d) (h1 : isH v1) (hk23 : ∀ (v3 v4 : Int) (m : xm), xw (am_E L xs bz) d am_m72 1 23 [(0, .ref 11), (1, .ref v1), (3, .int (i32 v3)), (4, .int (i32 v4))] [] m (k23 v3 v4 m)) {v3 : Int} {v4 : Int} {m : xm} : xw (am_E L xs bz) d am_m72 1 120 [(0, .ref 11), (1, .ref v1), (3, .int (i32 v3)), (4, .int (i32 v4))] [] m (cS_find_120 v1 k23 v3 v4 m) := by
  unfold cS_find_120
  refine w_iinc (lsd := [(4, .int (i32 (v4 + 1))), (0, .ref 11), (1, .ref v1), (3, .int (i32 v3))]) rfl (Nat.le_of_ble_eq_true rfl) rfl rfl ?_
  refine w_goto (tg := 23) rfl rfl ?_
  exact w_weak [(0, .ref 11), (1, .ref v1), (3, .int (i32 v3)), (4, .int (i32 (v4 + 1)))] rfl ⟨rfl, rfl, rfl, rfl, trivial⟩ (hk23 v3 (v4 + 1) m)
theorem s_cS_find_114 {d : Nat} {v1 : Nat} {k23 : Int → Int → xm → xr} {k67 : Int → Int → Int → Int → xm → xr} (hd : 6 ≤ d) (h1 : isH v1) (hk23 : ∀ (v3 v4 : Int) (m : xm), xw (am_E L xs bz) d am_m72 1 23 [(0, .ref 11), (1, .ref v1), (3, .int (i32 v3)), (4, .int (i32 v4))] [] m (k23 v3 v4 m)) (hk67 : ∀ (v3 v4 v5 v6 : Int) (m : xm), xw (am_E L xs bz) d am_m72 1 67 [(0, .ref 11), (1, .ref v1), (3, .int (i32 v3)), (4, .int (i32 v4)), (5, .int (i32 v5)), (6, .int (i32 v6))] [] m (k67 v3 v4 v5 v6 m)) {v3 : Int} {v4 : Int} {v5 : Int} {v6 : Int} {m : xm} : xw (am_E L xs bz) d am_m72 1 114 [(0, .ref 11), (1, .ref v1), (3, .int (i32 v3)), (4, .int (i32 v4)), (5, .int (i32 v5)), (6, .int (i32 v6))] [] m (cS_find_114 v1 k23 k67 v3 v4 v5 v6 m) := by
  unfold cS_find_114
  refine w_iinc (lsd := [(6, .int (i32 (v6 + 1))), (0, .ref 11), (1, .ref v1), (3, .int (i32 v3)), (4, .int (i32 v4)), (5, .int (i32 v5))]) rfl (Nat.le_of_ble_eq_true rfl) rfl rfl ?_
  refine w_goto (tg := 67) rfl rfl ?_
  exact w_weak [(0, .ref 11), (1, .ref v1), (3, .int (i32 v3)), (4, .int (i32 v4)), (5, .int (i32 v5)), (6, .int (i32 (v6 + 1)))] rfl ⟨rfl, rfl, rfl, rfl, rfl, rfl, trivial⟩ (hk67 v3 v4 v5 (v6 + 1) m)
theorem s_cS_find_67 {d : Nat} {v1 : Nat} {k23 : Int → Int → xm → xr} (hd : 6 ≤ d) (h1 : isH v1) (hk23 : ∀ (v3 v4 : Int) (m : xm), xw (am_E L xs bz) d am_m72 1 23 [(0, .ref 11), (1, .ref v1), (3, .int (i32 v3)), (4, .int (i32 v4))] [] m (k23 v3 v4 m)) : ∀ (n : Nat) {v3 : Int} {v4 : Int} {v5 : Int} {v6 : Int} {m : xm}, xw (am_E L xs bz) d am_m72 1 67 [(0, .ref 11), (1, .ref v1), (3, .int (i32 v3)), (4, .int (i32 v4)), (5, .int (i32 v5)), (6, .int (i32 v6))] [] m (cS_find_67 v1 k23 n v3 v4 v5 v6 m) := by
  intro n
  induction n with
  | zero => intros; exact w_none
  | succ n ih =>
    intro v3 v4 v5 v6 m
    have hk67 := fun (v3 v4 v5 v6 : Int) (m : xm) => @ih v3 v4 v5 v6 m
    unfold cS_find_67
    refine w_iload rfl rfl ?_
    refine w_aload_n rfl rfl ?_
    refine w_iconst rfl ?_
    refine w_call1 [.ref v1, .int (i32 1)] [.int (i32 v6)] (by omega) rfl rfl rfl rfl rfl rfl (Nat.le_of_ble_eq_true rfl) (fun _ => xrc_ok (rcH h1 rfl)) (Nat.le_of_ble_eq_true rfl) rfl rfl (s_cH_count (by omega) h1) (fun r1 m2 => ?_)
    refine w_icmp_ge (tg := 120) rfl rfl rfl rfl ?_ ?_
    · exact w_weak [(0, .ref 11), (1, .ref v1), (3, .int (i32 v3)), (4, .int (i32 v4))] rfl ⟨rfl, rfl, rfl, rfl, trivial⟩ (s_cS_find_120 (by omega) h1 hk23)
    · refine w_iload_n rfl rfl ?_
      refine w_iload rfl rfl ?_
      refine w_ishr rfl ?_
      refine w_iconst rfl ?_
      refine w_iand rfl ?_
      show xw _ _ _ _ 83 _ _ _ _
      refine w_iconst rfl ?_
      refine w_icmp_ne (tg := 114) rfl rfl (w32_of _) rfl ?_ ?_
      · exact w_weak [(0, .ref 11), (1, .ref v1), (3, .int (i32 v3)), (4, .int (i32 v4)), (5, .int (i32 v5)), (6, .int (i32 v6))] rfl ⟨rfl, rfl, rfl, rfl, rfl, rfl, trivial⟩ (s_cS_find_114 (by omega) h1 hk23 hk67)
      · refine w_aload_n rfl rfl ?_
        refine w_iload rfl rfl ?_
        refine w_iload rfl rfl ?_
        refine w_call1 [.ref v1, .int (i32 v5), .int (i32 v6)] [] (by omega) rfl rfl rfl rfl rfl rfl (Nat.le_of_ble_eq_true rfl) (fun _ => xrc_ok (rcH h1 rfl)) (Nat.le_of_ble_eq_true rfl) rfl rfl (s_cH_canPlay (by omega) h1) (fun r3 m4 => ?_)
        refine w_if_eq (tg := 114) rfl rfl rfl ?_ ?_
        · exact w_weak [(0, .ref 11), (1, .ref v1), (3, .int (i32 v3)), (4, .int (i32 v4)), (5, .int (i32 v5)), (6, .int (i32 v6))] rfl ⟨rfl, rfl, rfl, rfl, rfl, rfl, trivial⟩ (s_cS_find_114 (by omega) h1 hk23 hk67)
        · refine w_aload_n rfl rfl ?_
          refine w_aload_n rfl rfl ?_
          refine w_iload rfl rfl ?_
          refine w_iload rfl rfl ?_
          refine w_call1 [.ref v1, .int (i32 v5), .int (i32 v6)] [.ref 11] (by omega) rfl rfl rfl rfl rfl rfl (Nat.le_of_ble_eq_true rfl) (fun _ => xrc_ok (rcH h1 rfl)) (Nat.le_of_ble_eq_true rfl) rfl rfl (s_cH_after (by omega) h1) (fun r5 m6 => ?_)
          show xw _ _ _ _ 107 _ _ _ _
          refine w_iload rfl rfl ?_
          refine w_iload rfl rfl ?_
          refine w_call0 [.ref 11, .int (i32 r5), .int (i32 v4), .int (i32 v6)] [] (by omega) rfl rfl rfl rfl rfl rfl (Nat.le_of_ble_eq_true rfl) (fun _ => xrc_ok rfl) (Nat.le_of_ble_eq_true rfl) rfl rfl (s_cS_reach (by omega)) (fun r7 m8 => ?_)
          exact w_weak [(0, .ref 11), (1, .ref v1), (3, .int (i32 v3)), (4, .int (i32 v4)), (5, .int (i32 v5)), (6, .int (i32 v6))] rfl ⟨rfl, rfl, rfl, rfl, rfl, rfl, trivial⟩ (s_cS_find_114 (by omega) h1 hk23 hk67)
theorem s_cS_find_23 {d : Nat} {v1 : Nat} (hd : 6 ≤ d) (h1 : isH v1) : ∀ (n : Nat) {v3 : Int} {v4 : Int} {m : xm}, xw (am_E L xs bz) d am_m72 1 23 [(0, .ref 11), (1, .ref v1), (3, .int (i32 v3)), (4, .int (i32 v4))] [] m (cS_find_23 v1 n v3 v4 m) := by
  intro n
  induction n with
  | zero => intros; exact w_none
  | succ n ih =>
    intro v3 v4 m
    have hk23 := fun (v3 v4 : Int) (m : xm) => @ih v3 v4 m
    unfold cS_find_23
    refine w_iload rfl rfl ?_
    refine w_aload_n rfl rfl ?_
    refine w_gfi rfl rfl (Nat.le_of_ble_eq_true rfl) rfl rfl ?_
    refine w_icmp_ge (tg := 126) rfl rfl rfl (w32_ld _ _ _) ?_ ?_
    · refine w_iconst rfl ?_
      exact w_retv rfl rfl
    · refine w_iload rfl rfl ?_
      refine w_sipush rfl rfl ?_
      refine w_icmp_ge (tg := 126) rfl rfl rfl rfl ?_ ?_
      · refine w_iconst rfl ?_
        exact w_retv rfl rfl
      · refine w_aload_n rfl rfl ?_
        refine w_gfr (r := 13) rfl rfl (Nat.le_of_ble_eq_true rfl) rfl rfl ?_
        refine w_iload rfl rfl ?_
        refine w_call1 [.ref 13, .int (i32 v4)] [] (by omega) rfl rfl rfl rfl rfl rfl (Nat.le_of_ble_eq_true rfl) (fun z => by cases z) (Nat.le_of_ble_eq_true rfl) rfl rfl (s_cL_cell (by omega) rfl) (fun r1 m2 => ?_)
        refine w_istore (lsd := [(5, .int (i32 r1)), (0, .ref 11), (1, .ref v1), (3, .int (i32 v3)), (4, .int (i32 v4))]) rfl (Nat.le_of_ble_eq_true rfl) rfl ?_
        show xw _ _ _ _ 51 _ _ _ _
        refine w_aload_n rfl rfl ?_
        refine w_aload_n rfl rfl ?_
        refine w_iload rfl rfl ?_
        refine w_call1 [.ref 11, .ref v1, .int (i32 r1)] [] (by omega) rfl rfl rfl rfl rfl rfl (Nat.le_of_ble_eq_true rfl) (fun _ => xrc_ok rfl) (Nat.le_of_ble_eq_true rfl) rfl rfl (s_cS_isSought (by omega) h1) (fun r3 m4 => ?_)
        refine w_if_eq (tg := 64) rfl rfl rfl ?_ ?_
        · refine w_iconst rfl ?_
          refine w_istore (lsd := [(6, .int (i32 0)), (5, .int (i32 r1)), (0, .ref 11), (1, .ref v1), (3, .int (i32 v3)), (4, .int (i32 v4))]) rfl (Nat.le_of_ble_eq_true rfl) rfl ?_
          exact w_weak [(0, .ref 11), (1, .ref v1), (3, .int (i32 v3)), (4, .int (i32 v4)), (5, .int (i32 r1)), (6, .int (i32 0))] rfl ⟨rfl, rfl, rfl, rfl, rfl, rfl, trivial⟩ (s_cS_find_67 (by omega) h1 hk23 _)
        · refine w_iload rfl rfl ?_
          exact w_retv rfl rfl
theorem s_cS_find {d : Nat} {v1 : Nat} {v2 : Int} {v3 : Int} {m : xm} (hd : 6 ≤ d) (h1 : isH v1) : xw (am_E L xs bz) d am_m72 1 0 [(0, .ref 11), (1, .ref v1), (2, .int (i32 v2)), (3, .int (i32 v3))] [] m (cS_find v1 v2 v3 m) := by
  unfold cS_find
  refine w_aload_n rfl rfl ?_
  refine w_gfr (r := 12) rfl rfl (Nat.le_of_ble_eq_true rfl) rfl rfl ?_
  refine w_iconst rfl ?_
  refine w_call0 [.ref 12, .int (i32 0)] [] (by omega) rfl rfl rfl rfl rfl rfl (Nat.le_of_ble_eq_true rfl) (fun z => by cases z) (Nat.le_of_ble_eq_true rfl) rfl rfl (s_j_fill (by omega) rfl) (fun r1 m2 => ?_)
  refine w_aload_n rfl rfl ?_
  show xw _ _ _ _ 9 _ _ _ _
  refine w_iconst rfl ?_
  refine w_pfi rfl rfl (Nat.le_of_ble_eq_true rfl) rfl rfl rfl (fun m3 => ?_)
  refine w_aload_n rfl rfl ?_
  refine w_iload_n rfl rfl ?_
  refine w_iconst rfl ?_
  refine w_iconst rfl ?_
  show xw _ _ _ _ 17 _ _ _ _
  refine w_call0 [.ref 11, .int (i32 v2), .int (i32 (-1)), .int (i32 (-1))] [] (by omega) rfl rfl rfl rfl rfl rfl (Nat.le_of_ble_eq_true rfl) (fun _ => xrc_ok rfl) (Nat.le_of_ble_eq_true rfl) rfl rfl (s_cS_reach (by omega)) (fun r4 m5 => ?_)
  refine w_iconst rfl ?_
  refine w_istore (lsd := [(4, .int (i32 0)), (0, .ref 11), (1, .ref v1), (2, .int (i32 v2)), (3, .int (i32 v3))]) rfl (Nat.le_of_ble_eq_true rfl) rfl ?_
  exact w_weak [(0, .ref 11), (1, .ref v1), (3, .int (i32 v3)), (4, .int (i32 0))] rfl ⟨rfl, rfl, rfl, rfl, trivial⟩ (s_cS_find_23 (by omega) h1 _)
theorem s_cS_lengthTo_11 {d : Nat} (hd : 1 ≤ d) : ∀ (n : Nat) {v2 : Int} {v3 : Int} {m : xm}, xw (am_E L xs bz) d am_m76 1 11 [(0, .ref 11), (2, .int (i32 v2)), (3, .int (i32 v3))] [] m (cS_lengthTo_11 n v2 v3 m) := by
  intro n
  induction n with
  | zero => intros; exact w_none
  | succ n ih =>
    intro v2 v3 m
    have hk11 := fun (v2 v3 : Int) (m : xm) => @ih v2 v3 m
    unfold cS_lengthTo_11
    refine w_iload_n rfl rfl ?_
    refine w_iconst rfl ?_
    refine w_icmp_eq (tg := 38) rfl rfl rfl rfl ?_ ?_
    · refine w_iload_n rfl rfl ?_
      exact w_retv rfl rfl
    · refine w_iload_n rfl rfl ?_
      refine w_sipush rfl rfl ?_
      refine w_icmp_ge (tg := 38) rfl rfl rfl rfl ?_ ?_
      · refine w_iload_n rfl rfl ?_
        exact w_retv rfl rfl
      · refine w_iinc (lsd := [(2, .int (i32 (v2 + 1))), (0, .ref 11), (3, .int (i32 v3))]) rfl (Nat.le_of_ble_eq_true rfl) rfl rfl ?_
        refine w_aload_n rfl rfl ?_
        refine w_gfr (r := 14) rfl rfl (Nat.le_of_ble_eq_true rfl) rfl rfl ?_
        refine w_iload_n rfl rfl ?_
        refine w_call1 [.ref 14, .int (i32 v3)] [] (by omega) rfl rfl rfl rfl rfl rfl (Nat.le_of_ble_eq_true rfl) (fun z => by cases z) (Nat.le_of_ble_eq_true rfl) rfl rfl (s_cL_cell (by omega) rfl) (fun r1 m2 => ?_)
        show xw _ _ _ _ 34 _ _ _ _
        refine w_istore_n (lsd := [(3, .int (i32 r1)), (2, .int (i32 (v2 + 1))), (0, .ref 11)]) rfl (Nat.le_of_ble_eq_true rfl) rfl ?_
        refine w_goto (tg := 11) rfl rfl ?_
        exact w_weak [(0, .ref 11), (2, .int (i32 (v2 + 1))), (3, .int (i32 r1))] rfl ⟨rfl, rfl, rfl, trivial⟩ (hk11 (v2 + 1) r1 m2)
theorem s_cS_lengthTo {d : Nat} {v1 : Int} {m : xm} (hd : 1 ≤ d) : xw (am_E L xs bz) d am_m76 1 0 [(0, .ref 11), (1, .int (i32 v1))] [] m (cS_lengthTo v1 m) := by
  unfold cS_lengthTo
  refine w_iconst rfl ?_
  refine w_istore_n (lsd := [(2, .int (i32 0)), (0, .ref 11), (1, .int (i32 v1))]) rfl (Nat.le_of_ble_eq_true rfl) rfl ?_
  refine w_aload_n rfl rfl ?_
  refine w_gfr (r := 14) rfl rfl (Nat.le_of_ble_eq_true rfl) rfl rfl ?_
  refine w_iload_n rfl rfl ?_
  show xw _ _ _ _ 7 _ _ _ _
  refine w_call1 [.ref 14, .int (i32 v1)] [] (by omega) rfl rfl rfl rfl rfl rfl (Nat.le_of_ble_eq_true rfl) (fun z => by cases z) (Nat.le_of_ble_eq_true rfl) rfl rfl (s_cL_cell (by omega) rfl) (fun r1 m2 => ?_)
  refine w_istore_n (lsd := [(3, .int (i32 r1)), (2, .int (i32 0)), (0, .ref 11), (1, .int (i32 v1))]) rfl (Nat.le_of_ble_eq_true rfl) rfl ?_
  exact w_weak [(0, .ref 11), (2, .int (i32 0)), (3, .int (i32 r1))] rfl ⟨rfl, rfl, rfl, trivial⟩ (s_cS_lengthTo_11 (by omega) _)
theorem s_cS_wayTo_62 {d : Nat} (hd : 2 ≤ d) {v4 : Int} {m : xm} : xw (am_E L xs bz) d am_m75 1 62 [(0, .ref 11), (4, .int (i32 v4))] [] m (cS_wayTo_62 v4 m) := by
  unfold cS_wayTo_62
  refine w_aload_n rfl rfl ?_
  refine w_gfr (r := 15) rfl rfl (Nat.le_of_ble_eq_true rfl) rfl rfl ?_
  refine w_iload rfl rfl ?_
  refine w_call1 [.ref 15, .int (i32 v4)] [] (by omega) rfl rfl rfl rfl rfl rfl (Nat.le_of_ble_eq_true rfl) (fun z => by cases z) (Nat.le_of_ble_eq_true rfl) rfl rfl (s_cL_cell (by omega) rfl) (fun r1 m2 => ?_)
  exact w_retv rfl rfl
theorem s_cS_wayTo_39 {d : Nat} (hd : 2 ≤ d) : ∀ (n : Nat) {v2 : Int} {v4 : Int} {v5 : Int} {m : xm}, xw (am_E L xs bz) d am_m75 1 39 [(0, .ref 11), (2, .int (i32 v2)), (4, .int (i32 v4)), (5, .int (i32 v5))] [] m (cS_wayTo_39 n v2 v4 v5 m) := by
  intro n
  induction n with
  | zero => intros; exact w_none
  | succ n ih =>
    intro v2 v4 v5 m
    have hk39 := fun (v2 v4 v5 : Int) (m : xm) => @ih v2 v4 v5 m
    unfold cS_wayTo_39
    refine w_iload rfl rfl ?_
    refine w_iload_n rfl rfl ?_
    refine w_icmp_le (tg := 62) rfl rfl rfl rfl ?_ ?_
    · exact w_weak [(0, .ref 11), (4, .int (i32 v4))] rfl ⟨rfl, rfl, trivial⟩ (s_cS_wayTo_62 (by omega))
    · refine w_aload_n rfl rfl ?_
      refine w_gfr (r := 14) rfl rfl (Nat.le_of_ble_eq_true rfl) rfl rfl ?_
      refine w_iload rfl rfl ?_
      refine w_call1 [.ref 14, .int (i32 v4)] [] (by omega) rfl rfl rfl rfl rfl rfl (Nat.le_of_ble_eq_true rfl) (fun z => by cases z) (Nat.le_of_ble_eq_true rfl) rfl rfl (s_cL_cell (by omega) rfl) (fun r1 m2 => ?_)
      refine w_istore (lsd := [(4, .int (i32 r1)), (0, .ref 11), (2, .int (i32 v2)), (5, .int (i32 v5))]) rfl (Nat.le_of_ble_eq_true rfl) rfl ?_
      show xw _ _ _ _ 56 _ _ _ _
      refine w_iinc (lsd := [(5, .int (i32 (v5 + (-1)))), (4, .int (i32 r1)), (0, .ref 11), (2, .int (i32 v2))]) rfl (Nat.le_of_ble_eq_true rfl) rfl rfl ?_
      refine w_goto (tg := 39) rfl rfl ?_
      exact w_weak [(0, .ref 11), (2, .int (i32 v2)), (4, .int (i32 r1)), (5, .int (i32 (v5 + (-1))))] rfl ⟨rfl, rfl, rfl, rfl, trivial⟩ (hk39 v2 r1 (v5 + (-1)) m2)
theorem s_cS_wayTo {d : Nat} {v1 : Int} {v2 : Int} {m : xm} (hd : 2 ≤ d) : xw (am_E L xs bz) d am_m75 1 0 [(0, .ref 11), (1, .int (i32 v1)), (2, .int (i32 v2))] [] m (cS_wayTo v1 v2 m) := by
  unfold cS_wayTo
  refine w_iload_n rfl rfl ?_
  refine w_iconst rfl ?_
  refine w_icmp_ne (tg := 7) rfl rfl rfl rfl ?_ ?_
  · refine w_aload_n rfl rfl ?_
    refine w_iload_n rfl rfl ?_
    refine w_call1 [.ref 11, .int (i32 v1)] [] (by omega) rfl rfl rfl rfl rfl rfl (Nat.le_of_ble_eq_true rfl) (fun _ => xrc_ok rfl) (Nat.le_of_ble_eq_true rfl) rfl rfl (s_cS_lengthTo (by omega)) (fun r1 m2 => ?_)
    refine w_istore_n (lsd := [(3, .int (i32 r1)), (0, .ref 11), (1, .int (i32 v1)), (2, .int (i32 v2))]) rfl (Nat.le_of_ble_eq_true rfl) rfl ?_
    refine w_iload_n rfl rfl ?_
    show xw _ _ _ _ 14 _ _ _ _
    refine w_iconst rfl ?_
    refine w_icmp_ne (tg := 20) rfl rfl rfl rfl ?_ ?_
    · refine w_iload_n rfl rfl ?_
      refine w_if_lt (tg := 29) rfl rfl rfl ?_ ?_
      · refine w_iconst rfl ?_
        exact w_retv rfl rfl
      · refine w_iload_n rfl rfl ?_
        refine w_iload_n rfl rfl ?_
        refine w_icmp_lt (tg := 31) rfl rfl rfl rfl ?_ ?_
        · refine w_iload_n rfl rfl ?_
          refine w_istore (lsd := [(4, .int (i32 v1)), (3, .int (i32 r1)), (0, .ref 11), (1, .int (i32 v1)), (2, .int (i32 v2))]) rfl (Nat.le_of_ble_eq_true rfl) rfl ?_
          refine w_iload_n rfl rfl ?_
          refine w_iconst rfl ?_
          refine w_isub rfl ?_
          show xw _ _ _ _ 37 _ _ _ _
          refine w_letI (fun x3 => ?_)
          refine w_istore (lsd := [(5, .int (i32 x3)), (4, .int (i32 v1)), (3, .int (i32 r1)), (0, .ref 11), (1, .int (i32 v1)), (2, .int (i32 v2))]) rfl (Nat.le_of_ble_eq_true rfl) rfl ?_
          exact w_weak [(0, .ref 11), (2, .int (i32 v2)), (4, .int (i32 v1)), (5, .int (i32 x3))] rfl ⟨rfl, rfl, rfl, rfl, trivial⟩ (s_cS_wayTo_39 (by omega) _)
        · refine w_iconst rfl ?_
          exact w_retv rfl rfl
    · refine w_iload_n rfl rfl ?_
      exact w_retv rfl rfl
  · refine w_iconst rfl ?_
    exact w_retv rfl rfl
theorem s_cS_seekState {d : Nat} {v1 : Int} {m : xm} (hd : 0 ≤ d) : xw (am_E L xs bz) d am_m77 0 0 [(0, .ref 11), (1, .int (i32 v1))] [] m (cS_seekState v1 m) := by
  unfold cS_seekState
  refine w_aload_n rfl rfl ?_
  refine w_iconst rfl ?_
  refine w_pfi rfl rfl (Nat.le_of_ble_eq_true rfl) rfl rfl rfl (fun m1 => ?_)
  refine w_aload_n rfl rfl ?_
  refine w_iload_n rfl rfl ?_
  show xw _ _ _ _ 7 _ _ _ _
  refine w_pfi rfl rfl (Nat.le_of_ble_eq_true rfl) rfl rfl rfl (fun m2 => ?_)
  exact w_retv (x := 0) rfl rfl
theorem s_cS_seekNothing {d : Nat} {m : xm} (hd : 0 ≤ d) : xw (am_E L xs bz) d am_m78 0 0 [(0, .ref 11)] [] m (cS_seekNothing m) := by
  unfold cS_seekNothing
  refine w_aload_n rfl rfl ?_
  refine w_iconst rfl ?_
  refine w_pfi rfl rfl (Nat.le_of_ble_eq_true rfl) rfl rfl rfl (fun m1 => ?_)
  exact w_retv (x := 0) rfl rfl
theorem s_cS_reached {d : Nat} {m : xm} (hd : 0 ≤ d) : xw (am_E L xs bz) d am_m79 1 0 [(0, .ref 11)] [] m (cS_reached m) := by
  unfold cS_reached
  refine w_aload_n rfl rfl ?_
  refine w_gfi rfl rfl (Nat.le_of_ble_eq_true rfl) rfl rfl ?_
  exact w_retv rfl rfl
theorem s_cS_seekDoors {d : Nat} {v1 : Int} {m : xm} (hd : 0 ≤ d) : xw (am_E L xs bz) d am_m80 0 0 [(0, .ref 11), (1, .int (i32 v1))] [] m (cS_seekDoors v1 m) := by
  unfold cS_seekDoors
  refine w_aload_n rfl rfl ?_
  refine w_iconst rfl ?_
  refine w_pfi rfl rfl (Nat.le_of_ble_eq_true rfl) rfl rfl rfl (fun m1 => ?_)
  refine w_aload_n rfl rfl ?_
  refine w_iload_n rfl rfl ?_
  show xw _ _ _ _ 7 _ _ _ _
  refine w_pfi rfl rfl (Nat.le_of_ble_eq_true rfl) rfl rfl rfl (fun m2 => ?_)
  exact w_retv (x := 0) rfl rfl
theorem s_cS_notesTo_11 {d : Nat} (hd : 2 ≤ d) : ∀ (n : Nat) {v2 : Int} {v3 : Int} {v4 : Int} {m : xm}, xw (am_E L xs bz) d am_m81 1 11 [(0, .ref 11), (2, .int (i32 v2)), (3, .int (i32 v3)), (4, .int (i32 v4))] [] m (cS_notesTo_11 n v2 v3 v4 m) := by
  intro n
  induction n with
  | zero => intros; exact w_none
  | succ n ih =>
    intro v2 v3 v4 m
    have hk11 := fun (v2 v3 v4 : Int) (m : xm) => @ih v2 v3 v4 m
    unfold cS_notesTo_11
    refine w_iload rfl rfl ?_
    refine w_if_le (tg := 44) rfl rfl rfl ?_ ?_
    · refine w_iload_n rfl rfl ?_
      exact w_retv rfl rfl
    · refine w_iload_n rfl rfl ?_
      refine w_iconst rfl ?_
      refine w_aload_n rfl rfl ?_
      refine w_gfr (r := 15) rfl rfl (Nat.le_of_ble_eq_true rfl) rfl rfl ?_
      refine w_iload_n rfl rfl ?_
      show xw _ _ _ _ 23 _ _ _ _
      refine w_call1 [.ref 15, .int (i32 v3)] [.int (i32 1), .int (i32 v2)] (by omega) rfl rfl rfl rfl rfl rfl (Nat.le_of_ble_eq_true rfl) (fun z => by cases z) (Nat.le_of_ble_eq_true rfl) rfl rfl (s_cL_cell (by omega) rfl) (fun r1 m2 => ?_)
      refine w_ishl rfl ?_
      refine w_ior rfl ?_
      refine w_letI (fun x3 => ?_)
      refine w_istore_n (lsd := [(2, .int (i32 x3)), (0, .ref 11), (3, .int (i32 v3)), (4, .int (i32 v4))]) rfl (Nat.le_of_ble_eq_true rfl) rfl ?_
      refine w_aload_n rfl rfl ?_
      refine w_gfr (r := 14) rfl rfl (Nat.le_of_ble_eq_true rfl) rfl rfl ?_
      show xw _ _ _ _ 33 _ _ _ _
      refine w_iload_n rfl rfl ?_
      refine w_call1 [.ref 14, .int (i32 v3)] [] (by omega) rfl rfl rfl rfl rfl rfl (Nat.le_of_ble_eq_true rfl) (fun z => by cases z) (Nat.le_of_ble_eq_true rfl) rfl rfl (s_cL_cell (by omega) rfl) (fun r4 m5 => ?_)
      refine w_istore_n (lsd := [(3, .int (i32 r4)), (2, .int (i32 x3)), (0, .ref 11), (4, .int (i32 v4))]) rfl (Nat.le_of_ble_eq_true rfl) rfl ?_
      refine w_iinc (lsd := [(4, .int (i32 (v4 + (-1)))), (3, .int (i32 r4)), (2, .int (i32 x3)), (0, .ref 11)]) rfl (Nat.le_of_ble_eq_true rfl) rfl rfl ?_
      refine w_goto (tg := 11) rfl rfl ?_
      exact w_weak [(0, .ref 11), (2, .int (i32 x3)), (3, .int (i32 r4)), (4, .int (i32 (v4 + (-1))))] rfl ⟨rfl, rfl, rfl, rfl, trivial⟩ (hk11 x3 r4 (v4 + (-1)) m5)
theorem s_cS_notesTo {d : Nat} {v1 : Int} {m : xm} (hd : 2 ≤ d) : xw (am_E L xs bz) d am_m81 1 0 [(0, .ref 11), (1, .int (i32 v1))] [] m (cS_notesTo v1 m) := by
  unfold cS_notesTo
  refine w_iconst rfl ?_
  refine w_istore_n (lsd := [(2, .int (i32 0)), (0, .ref 11), (1, .int (i32 v1))]) rfl (Nat.le_of_ble_eq_true rfl) rfl ?_
  refine w_iload_n rfl rfl ?_
  refine w_istore_n (lsd := [(3, .int (i32 v1)), (2, .int (i32 0)), (0, .ref 11), (1, .int (i32 v1))]) rfl (Nat.le_of_ble_eq_true rfl) rfl ?_
  refine w_aload_n rfl rfl ?_
  show xw _ _ _ _ 5 _ _ _ _
  refine w_iload_n rfl rfl ?_
  refine w_call1 [.ref 11, .int (i32 v1)] [] (by omega) rfl rfl rfl rfl rfl rfl (Nat.le_of_ble_eq_true rfl) (fun _ => xrc_ok rfl) (Nat.le_of_ble_eq_true rfl) rfl rfl (s_cS_lengthTo (by omega)) (fun r1 m2 => ?_)
  refine w_istore (lsd := [(4, .int (i32 r1)), (3, .int (i32 v1)), (2, .int (i32 0)), (0, .ref 11), (1, .int (i32 v1))]) rfl (Nat.le_of_ble_eq_true rfl) rfl ?_
  exact w_weak [(0, .ref 11), (2, .int (i32 0)), (3, .int (i32 v1)), (4, .int (i32 r1))] rfl ⟨rfl, rfl, rfl, rfl, trivial⟩ (s_cS_notesTo_11 (by omega) _)
theorem s_cY_start {d : Nat} {v1 : Int} {v2 : Int} {m : xm} (hd : 1 ≤ d) : xw (am_E L xs bz) d am_m83 0 0 [(0, .ref 21), (1, .int (i32 v1)), (2, .int (i32 v2))] [] m (cY_start v1 v2 m) := by
  unfold cY_start
  refine w_aload_n rfl rfl ?_
  refine w_gfr (r := 22) rfl rfl (Nat.le_of_ble_eq_true rfl) rfl rfl ?_
  refine w_iconst rfl ?_
  refine w_iload_n rfl rfl ?_
  refine w_call0 [.ref 22, .int (i32 0), .int (i32 v1)] [] (by omega) rfl rfl rfl rfl rfl rfl (Nat.le_of_ble_eq_true rfl) (fun z => by cases z) (Nat.le_of_ble_eq_true rfl) rfl rfl (s_cL_setCell (by omega) rfl) (fun r1 m2 => ?_)
  show xw _ _ _ _ 9 _ _ _ _
  refine w_aload_n rfl rfl ?_
  refine w_gfr (r := 22) rfl rfl (Nat.le_of_ble_eq_true rfl) rfl rfl ?_
  refine w_iconst rfl ?_
  refine w_iload_n rfl rfl ?_
  refine w_call0 [.ref 22, .int (i32 1), .int (i32 v2)] [] (by omega) rfl rfl rfl rfl rfl rfl (Nat.le_of_ble_eq_true rfl) (fun z => by cases z) (Nat.le_of_ble_eq_true rfl) rfl rfl (s_cL_setCell (by omega) rfl) (fun r3 m4 => ?_)
  refine w_aload_n rfl rfl ?_
  show xw _ _ _ _ 19 _ _ _ _
  refine w_gfr (r := 22) rfl rfl (Nat.le_of_ble_eq_true rfl) rfl rfl ?_
  refine w_iconst rfl ?_
  refine w_iconst rfl ?_
  refine w_call0 [.ref 22, .int (i32 2), .int (i32 0)] [] (by omega) rfl rfl rfl rfl rfl rfl (Nat.le_of_ble_eq_true rfl) (fun z => by cases z) (Nat.le_of_ble_eq_true rfl) rfl rfl (s_cL_setCell (by omega) rfl) (fun r5 m6 => ?_)
  refine w_aload_n rfl rfl ?_
  refine w_iconst rfl ?_
  show xw _ _ _ _ 29 _ _ _ _
  refine w_pfi rfl rfl (Nat.le_of_ble_eq_true rfl) rfl rfl rfl (fun m7 => ?_)
  exact w_retv (x := 0) rfl rfl
theorem s_cY_played {d : Nat} {m : xm} (hd : 1 ≤ d) : xw (am_E L xs bz) d am_m84 1 0 [(0, .ref 21)] [] m (cY_played m) := by
  unfold cY_played
  refine w_aload_n rfl rfl ?_
  refine w_gfr (r := 22) rfl rfl (Nat.le_of_ble_eq_true rfl) rfl rfl ?_
  refine w_iconst rfl ?_
  refine w_call1 [.ref 22, .int (i32 1)] [] (by omega) rfl rfl rfl rfl rfl rfl (Nat.le_of_ble_eq_true rfl) (fun z => by cases z) (Nat.le_of_ble_eq_true rfl) rfl rfl (s_cL_cell (by omega) rfl) (fun r1 m2 => ?_)
  exact w_retv rfl rfl
theorem s_cY_state {d : Nat} {m : xm} (hd : 1 ≤ d) : xw (am_E L xs bz) d am_m85 1 0 [(0, .ref 21)] [] m (cY_state m) := by
  unfold cY_state
  refine w_aload_n rfl rfl ?_
  refine w_gfr (r := 22) rfl rfl (Nat.le_of_ble_eq_true rfl) rfl rfl ?_
  refine w_iconst rfl ?_
  refine w_call1 [.ref 22, .int (i32 0)] [] (by omega) rfl rfl rfl rfl rfl rfl (Nat.le_of_ble_eq_true rfl) (fun z => by cases z) (Nat.le_of_ble_eq_true rfl) rfl rfl (s_cL_cell (by omega) rfl) (fun r1 m2 => ?_)
  exact w_retv rfl rfl
theorem s_cY_keptCount {d : Nat} {m : xm} (hd : 1 ≤ d) : xw (am_E L xs bz) d am_m86 1 0 [(0, .ref 21)] [] m (cY_keptCount m) := by
  unfold cY_keptCount
  refine w_aload_n rfl rfl ?_
  refine w_gfr (r := 22) rfl rfl (Nat.le_of_ble_eq_true rfl) rfl rfl ?_
  refine w_iconst rfl ?_
  refine w_call1 [.ref 22, .int (i32 2)] [] (by omega) rfl rfl rfl rfl rfl rfl (Nat.le_of_ble_eq_true rfl) (fun z => by cases z) (Nat.le_of_ble_eq_true rfl) rfl rfl (s_cL_cell (by omega) rfl) (fun r1 m2 => ?_)
  exact w_retv rfl rfl
theorem s_cY_acts {d : Nat} {m : xm} (hd : 0 ≤ d) : xw (am_E L xs bz) d am_m87 1 0 [(0, .ref 21)] [] m (cY_acts m) := by
  unfold cY_acts
  refine w_aload_n rfl rfl ?_
  refine w_gfi rfl rfl (Nat.le_of_ble_eq_true rfl) rfl rfl ?_
  exact w_retv rfl rfl
theorem s_cY_keptPart {d : Nat} {v1 : Int} {v2 : Int} {m : xm} (hd : 2 ≤ d) : xw (am_E L xs bz) d am_m88 1 0 [(0, .ref 21), (1, .int (i32 v1)), (2, .int (i32 v2))] [] m (cY_keptPart v1 v2 m) := by
  unfold cY_keptPart
  refine w_iload_n rfl rfl ?_
  refine w_if_lt (tg := 12) rfl rfl rfl ?_ ?_
  · refine w_iconst rfl ?_
    exact w_retv rfl rfl
  · refine w_iload_n rfl rfl ?_
    refine w_aload_n rfl rfl ?_
    refine w_call1 [.ref 21] [.int (i32 v1)] (by omega) rfl rfl rfl rfl rfl rfl (Nat.le_of_ble_eq_true rfl) (fun _ => xrc_ok rfl) (Nat.le_of_ble_eq_true rfl) rfl rfl (s_cY_keptCount (by omega)) (fun r1 m2 => ?_)
    refine w_icmp_lt (tg := 14) rfl rfl rfl rfl ?_ ?_
    · refine w_aload_n rfl rfl ?_
      refine w_gfr (r := 22) rfl rfl (Nat.le_of_ble_eq_true rfl) rfl rfl ?_
      refine w_iconst rfl ?_
      refine w_iload_n rfl rfl ?_
      refine w_iadd rfl ?_
      show xw _ _ _ _ 21 _ _ _ _
      refine w_call1 [.ref 22, .int (i32 (3 + v1))] [] (by omega) rfl rfl rfl rfl rfl rfl (Nat.le_of_ble_eq_true rfl) (fun z => by cases z) (Nat.le_of_ble_eq_true rfl) rfl rfl (s_cL_cell (by omega) rfl) (fun r3 m4 => ?_)
      refine w_istore_n (lsd := [(3, .int (i32 r3)), (0, .ref 21), (1, .int (i32 v1)), (2, .int (i32 v2))]) rfl (Nat.le_of_ble_eq_true rfl) rfl ?_
      refine w_iload_n rfl rfl ?_
      refine w_tsw (t0 := 68) (fs := [26, 31, 38]) rfl rfl rfl rfl rfl ?_ ?_
      · refine w_iconst rfl ?_
        exact w_retv rfl rfl
      · refine ⟨⟨52, rfl, ?_⟩, ⟨57, rfl, ?_⟩, ⟨64, rfl, ?_⟩, trivial⟩
        · refine w_iload_n rfl rfl ?_
          refine w_bipush rfl rfl ?_
          refine w_idivc rfl (by decide) ?_
          exact w_retv rfl rfl
        · refine w_iload_n rfl rfl ?_
          refine w_iconst rfl ?_
          refine w_idivc rfl (by decide) ?_
          refine w_bipush rfl rfl ?_
          refine w_iremc rfl (by decide) ?_
          show xw _ _ _ _ 63 _ _ _ _
          exact w_retv rfl rfl
        · refine w_iload_n rfl rfl ?_
          refine w_iconst rfl ?_
          refine w_iremc rfl (by decide) ?_
          exact w_retv rfl rfl
    · refine w_iconst rfl ?_
      exact w_retv rfl rfl
theorem s_cY_pastRow_32 {d : Nat} (hd : 0 ≤ d) {m : xm} : xw (am_E L xs bz) d am_m90 3 32 [(0, .ref 21)] [] m (cY_pastRow_32 m) := by
  unfold cY_pastRow_32
  refine w_aload_n rfl rfl ?_
  refine w_gfr (r := 22) rfl rfl (Nat.le_of_ble_eq_true rfl) rfl rfl ?_
  exact w_retv rfl rfl
theorem s_cY_pastRow {d : Nat} {v1 : Int} {m : xm} (hd : 0 ≤ d) : xw (am_E L xs bz) d am_m90 3 0 [(0, .ref 21), (1, .int (i32 v1))] [] m (cY_pastRow v1 m) := by
  unfold cY_pastRow
  refine w_aload_n rfl rfl ?_
  refine w_gfi rfl rfl (Nat.le_of_ble_eq_true rfl) rfl rfl ?_
  refine w_iload_n rfl rfl ?_
  refine w_iadd rfl ?_
  refine w_bipush rfl rfl ?_
  show xw _ _ _ _ 8 _ _ _ _
  refine w_iremc rfl (by decide) ?_
  refine w_letI (fun x1 => ?_)
  refine w_istore_n (lsd := [(2, .int (i32 x1)), (0, .ref 21), (1, .int (i32 v1))]) rfl (Nat.le_of_ble_eq_true rfl) rfl ?_
  refine w_iload_n rfl rfl ?_
  refine w_if_lt (tg := 32) rfl rfl rfl ?_ ?_
  · exact w_weak [(0, .ref 21)] rfl ⟨rfl, trivial⟩ (s_cY_pastRow_32 (by omega))
  · refine w_iload_n rfl rfl ?_
    refine w_aload_n rfl rfl ?_
    refine w_gfr (r := 23) rfl rfl (Nat.le_of_ble_eq_true rfl) rfl rfl ?_
    refine w_alen (n := 20) rfl (Nat.le_of_ble_eq_true rfl) (Nat.le_of_ble_eq_true rfl) rfl ?_
    refine w_icmp_ge (tg := 32) rfl rfl rfl rfl ?_ ?_
    · exact w_weak [(0, .ref 21)] rfl ⟨rfl, trivial⟩ (s_cY_pastRow_32 (by omega))
    · refine w_aload_n rfl rfl ?_
      refine w_gfr (r := 23) rfl rfl (Nat.le_of_ble_eq_true rfl) rfl rfl ?_
      refine w_iload_n rfl rfl ?_
      refine w_aaload rfl (fun x2 hxx2 => ?_)
      refine w_goto (tg := 36) rfl rfl ?_
      show xw _ _ _ _ 36 _ _ _ _
      exact w_retv rfl rfl
theorem s_cY_copyRow_2 {d : Nat} {v0 : Nat} {v1 : Nat} (hd : 1 ≤ d) (h0 : xia v0 = true) (h1 : xia v1 = true) : ∀ (n : Nat) {v2 : Int} {m : xm}, xw (am_E L xs bz) d am_m91 0 2 [(0, .ref v0), (1, .ref v1), (2, .int (i32 v2))] [] m (cY_copyRow_2 v0 v1 n v2 m) := by
  intro n
  induction n with
  | zero => intros; exact w_none
  | succ n ih =>
    intro v2 m
    have hk2 := fun (v2 : Int) (m : xm) => @ih v2 m
    unfold cY_copyRow_2
    refine w_iload_n rfl rfl ?_
    refine w_bipush rfl rfl ?_
    refine w_icmp_ge (tg := 24) rfl rfl rfl rfl ?_ ?_
    · exact w_retv (x := 0) rfl rfl
    · refine w_aload_n rfl rfl ?_
      refine w_iload_n rfl rfl ?_
      refine w_aload_n rfl rfl ?_
      refine w_iload_n rfl rfl ?_
      refine w_call1 [.ref v0, .int (i32 v2)] [.int (i32 v2), .ref v1] (by omega) rfl rfl rfl rfl rfl rfl (Nat.le_of_ble_eq_true rfl) (fun z => by cases z) (Nat.le_of_ble_eq_true rfl) rfl rfl (s_cL_cell (by omega) h0) (fun r1 m2 => ?_)
      show xw _ _ _ _ 15 _ _ _ _
      refine w_call0 [.ref v1, .int (i32 v2), .int (i32 r1)] [] (by omega) rfl rfl rfl rfl rfl rfl (Nat.le_of_ble_eq_true rfl) (fun z => by cases z) (Nat.le_of_ble_eq_true rfl) rfl rfl (s_cL_setCell (by omega) h1) (fun r3 m4 => ?_)
      refine w_iinc (lsd := [(2, .int (i32 (v2 + 1))), (0, .ref v0), (1, .ref v1)]) rfl (Nat.le_of_ble_eq_true rfl) rfl rfl ?_
      refine w_goto (tg := 2) rfl rfl ?_
      exact w_weak [(0, .ref v0), (1, .ref v1), (2, .int (i32 (v2 + 1)))] rfl ⟨rfl, rfl, rfl, trivial⟩ (hk2 (v2 + 1) m4)
theorem s_cY_copyRow {d : Nat} {v0 : Nat} {v1 : Nat} {m : xm} (hd : 1 ≤ d) (h0 : xia v0 = true) (h1 : xia v1 = true) : xw (am_E L xs bz) d am_m91 0 0 [(0, .ref v0), (1, .ref v1)] [] m (cY_copyRow v0 v1 m) := by
  unfold cY_copyRow
  refine w_iconst rfl ?_
  refine w_istore_n (lsd := [(2, .int (i32 0)), (0, .ref v0), (1, .ref v1)]) rfl (Nat.le_of_ble_eq_true rfl) rfl ?_
  exact w_weak [(0, .ref v0), (1, .ref v1), (2, .int (i32 0))] rfl ⟨rfl, rfl, rfl, trivial⟩ (s_cY_copyRow_2 (by omega) h0 h1 _)
theorem s_cY_beginAct {d : Nat} {m : xm} (hd : 2 ≤ d) : xw (am_E L xs bz) d am_m89 0 0 [(0, .ref 21)] [] m (cY_beginAct m) := by
  unfold cY_beginAct
  refine w_aload_n rfl rfl ?_
  refine w_gfr (r := 22) rfl rfl (Nat.le_of_ble_eq_true rfl) rfl rfl ?_
  refine w_aload_n rfl rfl ?_
  refine w_aload_n rfl rfl ?_
  refine w_gfi rfl rfl (Nat.le_of_ble_eq_true rfl) rfl rfl ?_
  show xw _ _ _ _ 9 _ _ _ _
  refine w_callA [.ref 21, .int (i32 (ld m 21 3))] [.ref 22] (by omega) rfl rfl rfl rfl rfl rfl (Nat.le_of_ble_eq_true rfl) (fun _ => xrc_ok rfl) (Nat.le_of_ble_eq_true rfl) rfl rfl (s_cY_pastRow (by omega)) (fun r1 m2 hxr1 => ?_)
  refine w_call0 [.ref 22, .ref r1.toNat] [] (by omega) rfl rfl rfl rfl rfl rfl (Nat.le_of_ble_eq_true rfl) (fun z => by cases z) (Nat.le_of_ble_eq_true rfl) rfl rfl (s_cY_copyRow (by omega) rfl hxr1) (fun r3 m4 => ?_)
  refine w_aload_n rfl rfl ?_
  refine w_gfi rfl rfl (Nat.le_of_ble_eq_true rfl) rfl rfl ?_
  refine w_bipush rfl rfl ?_
  refine w_icmp_ge (tg := 37) rfl rfl (w32_ld _ _ _) rfl ?_ ?_
  · refine w_aload_n rfl rfl ?_
    refine w_aload_n rfl rfl ?_
    refine w_gfi rfl rfl (Nat.le_of_ble_eq_true rfl) rfl rfl ?_
    refine w_iconst rfl ?_
    refine w_iadd rfl ?_
    show xw _ _ _ _ 44 _ _ _ _
    refine w_bipush rfl rfl ?_
    refine w_iremc rfl (by decide) ?_
    refine w_pfi rfl rfl (Nat.le_of_ble_eq_true rfl) rfl rfl rfl (fun m5 => ?_)
    exact w_retv (x := 0) rfl rfl
  · refine w_aload_n rfl rfl ?_
    refine w_dup rfl rfl ?_
    refine w_gfi rfl rfl (Nat.le_of_ble_eq_true rfl) rfl rfl ?_
    refine w_iconst rfl ?_
    refine w_iadd rfl ?_
    show xw _ _ _ _ 31 _ _ _ _
    refine w_pfi rfl rfl (Nat.le_of_ble_eq_true rfl) rfl rfl rfl (fun m6 => ?_)
    refine w_goto (tg := 50) rfl rfl ?_
    exact w_retv (x := 0) rfl rfl
theorem s_cY_goTo {d : Nat} {v1 : Int} {m : xm} (hd : 1 ≤ d) : xw (am_E L xs bz) d am_m92 0 0 [(0, .ref 21), (1, .int (i32 v1))] [] m (cY_goTo v1 m) := by
  unfold cY_goTo
  refine w_aload_n rfl rfl ?_
  refine w_gfr (r := 22) rfl rfl (Nat.le_of_ble_eq_true rfl) rfl rfl ?_
  refine w_iconst rfl ?_
  refine w_iload_n rfl rfl ?_
  refine w_call0 [.ref 22, .int (i32 0), .int (i32 v1)] [] (by omega) rfl rfl rfl rfl rfl rfl (Nat.le_of_ble_eq_true rfl) (fun z => by cases z) (Nat.le_of_ble_eq_true rfl) rfl rfl (s_cL_setCell (by omega) rfl) (fun r1 m2 => ?_)
  show xw _ _ _ _ 9 _ _ _ _
  exact w_retv (x := 0) rfl rfl
theorem s_cY_countPlayed {d : Nat} {m : xm} (hd : 2 ≤ d) : xw (am_E L xs bz) d am_m93 0 0 [(0, .ref 21)] [] m (cY_countPlayed m) := by
  unfold cY_countPlayed
  refine w_aload_n rfl rfl ?_
  refine w_gfr (r := 22) rfl rfl (Nat.le_of_ble_eq_true rfl) rfl rfl ?_
  refine w_iconst rfl ?_
  refine w_aload_n rfl rfl ?_
  refine w_call1 [.ref 21] [.int (i32 1), .ref 22] (by omega) rfl rfl rfl rfl rfl rfl (Nat.le_of_ble_eq_true rfl) (fun _ => xrc_ok rfl) (Nat.le_of_ble_eq_true rfl) rfl rfl (s_cY_played (by omega)) (fun r1 m2 => ?_)
  show xw _ _ _ _ 9 _ _ _ _
  refine w_iconst rfl ?_
  refine w_iadd rfl ?_
  refine w_sipush rfl rfl ?_
  refine w_call1 [.int (i32 (r1 + 1)), .int (i32 9999)] [.int (i32 1), .ref 22] (by omega) rfl rfl rfl rfl rfl rfl (Nat.le_of_ble_eq_true rfl) (fun z => by cases z) (Nat.le_of_ble_eq_true rfl) rfl rfl (s_j_minI (by omega)) (fun r3 m4 => ?_)
  refine w_call0 [.ref 22, .int (i32 1), .int (i32 r3)] [] (by omega) rfl rfl rfl rfl rfl rfl (Nat.le_of_ble_eq_true rfl) (fun z => by cases z) (Nat.le_of_ble_eq_true rfl) rfl rfl (s_cL_setCell (by omega) rfl) (fun r5 m6 => ?_)
  exact w_retv (x := 0) rfl rfl
theorem s_cY_keepOne_29 {d : Nat} (hd : 2 ≤ d) {v1 : Int} {v2 : Int} {m : xm} : xw (am_E L xs bz) d am_m95 0 29 [(0, .ref 21), (1, .int (i32 v1)), (2, .int (i32 v2))] [] m (cY_keepOne_29 v1 v2 m) := by
  unfold cY_keepOne_29
  refine w_aload_n rfl rfl ?_
  refine w_gfr (r := 22) rfl rfl (Nat.le_of_ble_eq_true rfl) rfl rfl ?_
  refine w_iconst rfl ?_
  refine w_iload_n rfl rfl ?_
  refine w_iadd rfl ?_
  show xw _ _ _ _ 36 _ _ _ _
  refine w_iload_n rfl rfl ?_
  refine w_call0 [.ref 22, .int (i32 (3 + v2)), .int (i32 v1)] [] (by omega) rfl rfl rfl rfl rfl rfl (Nat.le_of_ble_eq_true rfl) (fun z => by cases z) (Nat.le_of_ble_eq_true rfl) rfl rfl (s_cL_setCell (by omega) rfl) (fun r1 m2 => ?_)
  refine w_aload_n rfl rfl ?_
  refine w_gfr (r := 22) rfl rfl (Nat.le_of_ble_eq_true rfl) rfl rfl ?_
  refine w_iconst rfl ?_
  refine w_iload_n rfl rfl ?_
  show xw _ _ _ _ 46 _ _ _ _
  refine w_iconst rfl ?_
  refine w_iadd rfl ?_
  refine w_call0 [.ref 22, .int (i32 2), .int (i32 (v2 + 1))] [] (by omega) rfl rfl rfl rfl rfl rfl (Nat.le_of_ble_eq_true rfl) (fun z => by cases z) (Nat.le_of_ble_eq_true rfl) rfl rfl (s_cL_setCell (by omega) rfl) (fun r3 m4 => ?_)
  exact w_retv (x := 0) rfl rfl
theorem s_cY_keepOne {d : Nat} {v1 : Int} {m : xm} (hd : 2 ≤ d) : xw (am_E L xs bz) d am_m95 0 0 [(0, .ref 21), (1, .int (i32 v1))] [] m (cY_keepOne v1 m) := by
  unfold cY_keepOne
  refine w_aload_n rfl rfl ?_
  refine w_call1 [.ref 21] [] (by omega) rfl rfl rfl rfl rfl rfl (Nat.le_of_ble_eq_true rfl) (fun _ => xrc_ok rfl) (Nat.le_of_ble_eq_true rfl) rfl rfl (s_cY_keptCount (by omega)) (fun r1 m2 => ?_)
  refine w_istore_n (lsd := [(2, .int (i32 r1)), (0, .ref 21), (1, .int (i32 v1))]) rfl (Nat.le_of_ble_eq_true rfl) rfl ?_
  refine w_iload_n rfl rfl ?_
  refine w_bipush rfl rfl ?_
  show xw _ _ _ _ 8 _ _ _ _
  refine w_icmp_lt (tg := 29) rfl rfl rfl rfl ?_ ?_
  · exact w_weak [(0, .ref 21), (1, .int (i32 v1)), (2, .int (i32 r1))] rfl ⟨rfl, rfl, rfl, trivial⟩ (s_cY_keepOne_29 (by omega))
  · refine w_aload_n rfl rfl ?_
    refine w_gfr (r := 22) rfl rfl (Nat.le_of_ble_eq_true rfl) rfl rfl ?_
    refine w_iconst rfl ?_
    refine w_aload_n rfl rfl ?_
    refine w_gfr (r := 22) rfl rfl (Nat.le_of_ble_eq_true rfl) rfl rfl ?_
    show xw _ _ _ _ 20 _ _ _ _
    refine w_iconst rfl ?_
    refine w_bipush rfl rfl ?_
    refine w_acopy rfl rfl rfl rfl (Nat.le_of_ble_eq_true rfl) (fun m3 => ?_)
    refine w_bipush rfl rfl ?_
    refine w_istore_n (lsd := [(2, .int (i32 39)), (0, .ref 21), (1, .int (i32 v1))]) rfl (Nat.le_of_ble_eq_true rfl) rfl ?_
    exact w_weak [(0, .ref 21), (1, .int (i32 v1)), (2, .int (i32 39))] rfl ⟨rfl, rfl, rfl, trivial⟩ (s_cY_keepOne_29 (by omega))
theorem s_cY_keepDoors_40 {d : Nat} {k2 : Int → Int → Int → xm → xr} (hd : 3 ≤ d) (hk2 : ∀ (v1 v2 v3 : Int) (m : xm), xw (am_E L xs bz) d am_m94 0 2 [(0, .ref 21), (1, .int (i32 v1)), (2, .int (i32 v2)), (3, .int (i32 v3))] [] m (k2 v1 v2 v3 m)) {v1 : Int} {v2 : Int} {v3 : Int} {m : xm} : xw (am_E L xs bz) d am_m94 0 40 [(0, .ref 21), (1, .int (i32 v1)), (2, .int (i32 v2)), (3, .int (i32 v3))] [] m (cY_keepDoors_40 k2 v1 v2 v3 m) := by
  unfold cY_keepDoors_40
  refine w_iinc (lsd := [(3, .int (i32 (v3 + 1))), (0, .ref 21), (1, .int (i32 v1)), (2, .int (i32 v2))]) rfl (Nat.le_of_ble_eq_true rfl) rfl rfl ?_
  refine w_goto (tg := 2) rfl rfl ?_
  exact w_weak [(0, .ref 21), (1, .int (i32 v1)), (2, .int (i32 v2)), (3, .int (i32 (v3 + 1)))] rfl ⟨rfl, rfl, rfl, rfl, trivial⟩ (hk2 v1 v2 (v3 + 1) m)
theorem s_cY_keepDoors_2 {d : Nat} (hd : 3 ≤ d) : ∀ (n : Nat) {v1 : Int} {v2 : Int} {v3 : Int} {m : xm}, xw (am_E L xs bz) d am_m94 0 2 [(0, .ref 21), (1, .int (i32 v1)), (2, .int (i32 v2)), (3, .int (i32 v3))] [] m (cY_keepDoors_2 n v1 v2 v3 m) := by
  intro n
  induction n with
  | zero => intros; exact w_none
  | succ n ih =>
    intro v1 v2 v3 m
    have hk2 := fun (v1 v2 v3 : Int) (m : xm) => @ih v1 v2 v3 m
    unfold cY_keepDoors_2
    refine w_iload_n rfl rfl ?_
    refine w_bipush rfl rfl ?_
    refine w_icmp_ge (tg := 46) rfl rfl rfl rfl ?_ ?_
    · exact w_retv (x := 0) rfl rfl
    · refine w_iload_n rfl rfl ?_
      refine w_iload_n rfl rfl ?_
      refine w_ixor rfl ?_
      refine w_iload_n rfl rfl ?_
      refine w_ishr rfl ?_
      show xw _ _ _ _ 13 _ _ _ _
      refine w_iconst rfl ?_
      refine w_iand rfl ?_
      refine w_iconst rfl ?_
      refine w_icmp_ne (tg := 40) rfl rfl (w32_of _) rfl ?_ ?_
      · exact w_weak [(0, .ref 21), (1, .int (i32 v1)), (2, .int (i32 v2)), (3, .int (i32 v3))] rfl ⟨rfl, rfl, rfl, rfl, trivial⟩ (s_cY_keepDoors_40 (by omega) hk2)
      · refine w_aload_n rfl rfl ?_
        refine w_bipush rfl rfl ?_
        refine w_aload_n rfl rfl ?_
        refine w_call1 [.ref 21] [.int (i32 16), .ref 21] (by omega) rfl rfl rfl rfl rfl rfl (Nat.le_of_ble_eq_true rfl) (fun _ => xrc_ok rfl) (Nat.le_of_ble_eq_true rfl) rfl rfl (s_cY_played (by omega)) (fun r1 m2 => ?_)
        refine w_imul rfl ?_
        show xw _ _ _ _ 27 _ _ _ _
        refine w_iconst rfl ?_
        refine w_iload_n rfl rfl ?_
        refine w_imul rfl ?_
        refine w_iadd rfl ?_
        refine w_iload_n rfl rfl ?_
        refine w_iload_n rfl rfl ?_
        show xw _ _ _ _ 33 _ _ _ _
        refine w_ishr rfl ?_
        refine w_iconst rfl ?_
        refine w_iand rfl ?_
        refine w_iadd rfl ?_
        refine w_call0 [.ref 21, .int (i32 (((16 * r1) + (2 * v3)) + (ban (shr v2 v3) 1)))] [] (by omega) rfl rfl rfl rfl rfl rfl (Nat.le_of_ble_eq_true rfl) (fun _ => xrc_ok rfl) (Nat.le_of_ble_eq_true rfl) rfl rfl (s_cY_keepOne (by omega)) (fun r3 m4 => ?_)
        exact w_weak [(0, .ref 21), (1, .int (i32 v1)), (2, .int (i32 v2)), (3, .int (i32 v3))] rfl ⟨rfl, rfl, rfl, rfl, trivial⟩ (s_cY_keepDoors_40 (by omega) hk2)
theorem s_cY_keepDoors {d : Nat} {v1 : Int} {v2 : Int} {m : xm} (hd : 3 ≤ d) : xw (am_E L xs bz) d am_m94 0 0 [(0, .ref 21), (1, .int (i32 v1)), (2, .int (i32 v2))] [] m (cY_keepDoors v1 v2 m) := by
  unfold cY_keepDoors
  refine w_iconst rfl ?_
  refine w_istore_n (lsd := [(3, .int (i32 0)), (0, .ref 21), (1, .int (i32 v1)), (2, .int (i32 v2))]) rfl (Nat.le_of_ble_eq_true rfl) rfl ?_
  exact w_weak [(0, .ref 21), (1, .int (i32 v1)), (2, .int (i32 v2)), (3, .int (i32 0))] rfl ⟨rfl, rfl, rfl, rfl, trivial⟩ (s_cY_keepDoors_2 (by omega) _)
theorem s_cY_undoAct {d : Nat} {m : xm} (hd : 2 ≤ d) : xw (am_E L xs bz) d am_m96 1 0 [(0, .ref 21)] [] m (cY_undoAct m) := by
  unfold cY_undoAct
  refine w_aload_n rfl rfl ?_
  refine w_gfi rfl rfl (Nat.le_of_ble_eq_true rfl) rfl rfl ?_
  refine w_if_ne (tg := 9) rfl rfl (w32_ld _ _ _) ?_ ?_
  · refine w_aload_n rfl rfl ?_
    refine w_dup rfl rfl ?_
    refine w_gfi rfl rfl (Nat.le_of_ble_eq_true rfl) rfl rfl ?_
    refine w_iconst rfl ?_
    refine w_isub rfl ?_
    show xw _ _ _ _ 16 _ _ _ _
    refine w_pfi rfl rfl (Nat.le_of_ble_eq_true rfl) rfl rfl rfl (fun m1 => ?_)
    refine w_aload_n rfl rfl ?_
    refine w_aload_n rfl rfl ?_
    refine w_gfi rfl rfl (Nat.le_of_ble_eq_true rfl) rfl rfl ?_
    refine w_callA [.ref 21, .int (i32 (ld m1 21 3))] [] (by omega) rfl rfl rfl rfl rfl rfl (Nat.le_of_ble_eq_true rfl) (fun _ => xrc_ok rfl) (Nat.le_of_ble_eq_true rfl) rfl rfl (s_cY_pastRow (by omega)) (fun r2 m3 hxr2 => ?_)
    refine w_aload_n rfl rfl ?_
    show xw _ _ _ _ 28 _ _ _ _
    refine w_gfr (r := 22) rfl rfl (Nat.le_of_ble_eq_true rfl) rfl rfl ?_
    refine w_call0 [.ref r2.toNat, .ref 22] [] (by omega) rfl rfl rfl rfl rfl rfl (Nat.le_of_ble_eq_true rfl) (fun z => by cases z) (Nat.le_of_ble_eq_true rfl) rfl rfl (s_cY_copyRow (by omega) hxr2 rfl) (fun r4 m5 => ?_)
    refine w_iconst rfl ?_
    exact w_retv rfl rfl
  · refine w_iconst rfl ?_
    exact w_retv rfl rfl
theorem s_cT_addByte {d : Nat} {v1 : Int} {m : xm} (hd : 1 ≤ d) : xw (am_E L xs bz) d am_m100 0 0 [(0, .ref 1), (1, .int (i32 v1))] [] m (cT_addByte v1 m) := by
  unfold cT_addByte
  refine w_aload_n rfl rfl ?_
  refine w_gfi rfl rfl (Nat.le_of_ble_eq_true rfl) rfl rfl ?_
  refine w_sipush rfl rfl ?_
  refine w_icmp_ge (tg := 32) rfl rfl (w32_ld _ _ _) rfl ?_ ?_
  · exact w_retv (x := 0) rfl rfl
  · refine w_aload_n rfl rfl ?_
    refine w_gfr (r := 2) rfl rfl (Nat.le_of_ble_eq_true rfl) rfl rfl ?_
    refine w_aload_n rfl rfl ?_
    refine w_gfi rfl rfl (Nat.le_of_ble_eq_true rfl) rfl rfl ?_
    refine w_iload_n rfl rfl ?_
    show xw _ _ _ _ 19 _ _ _ _
    refine w_call0 [.ref 2, .int (i32 (ld m 1 1)), .int (i32 v1)] [] (by omega) rfl rfl rfl rfl rfl rfl (Nat.le_of_ble_eq_true rfl) (fun z => by cases z) (Nat.le_of_ble_eq_true rfl) rfl rfl (s_cL_setCell (by omega) rfl) (fun r1 m2 => ?_)
    refine w_aload_n rfl rfl ?_
    refine w_dup rfl rfl ?_
    refine w_gfi rfl rfl (Nat.le_of_ble_eq_true rfl) rfl rfl ?_
    refine w_iconst rfl ?_
    refine w_iadd rfl ?_
    show xw _ _ _ _ 29 _ _ _ _
    refine w_pfi rfl rfl (Nat.le_of_ble_eq_true rfl) rfl rfl rfl (fun m3 => ?_)
    exact w_retv (x := 0) rfl rfl
theorem s_cT_addNumber_3 {d : Nat} (hd : 2 ≤ d) : ∀ (n : Nat) {v1 : Int} {v2 : Int} {m : xm}, xw (am_E L xs bz) d am_m99 0 3 [(0, .ref 1), (1, .int (i32 v1)), (2, .int (i32 v2))] [] m (cT_addNumber_3 n v1 v2 m) := by
  intro n
  induction n with
  | zero => intros; exact w_none
  | succ n ih =>
    intro v1 v2 m
    have hk3 := fun (v1 v2 : Int) (m : xm) => @ih v1 v2 m
    unfold cT_addNumber_3
    refine w_iload_n rfl rfl ?_
    refine w_if_lt (tg := 24) rfl rfl rfl ?_ ?_
    · exact w_retv (x := 0) rfl rfl
    · refine w_aload_n rfl rfl ?_
      refine w_iload_n rfl rfl ?_
      refine w_iload_n rfl rfl ?_
      refine w_iushr rfl ?_
      refine w_sipush rfl rfl ?_
      show xw _ _ _ _ 14 _ _ _ _
      refine w_iand rfl ?_
      refine w_call0 [.ref 1, .int (i32 (ban (usr v1 v2) 255))] [] (by omega) rfl rfl rfl rfl rfl rfl (Nat.le_of_ble_eq_true rfl) (fun _ => xrc_ok rfl) (Nat.le_of_ble_eq_true rfl) rfl rfl (s_cT_addByte (by omega)) (fun r1 m2 => ?_)
      refine w_iinc (lsd := [(2, .int (i32 (v2 + (-8)))), (0, .ref 1), (1, .int (i32 v1))]) rfl (Nat.le_of_ble_eq_true rfl) rfl rfl ?_
      refine w_goto (tg := 3) rfl rfl ?_
      exact w_weak [(0, .ref 1), (1, .int (i32 v1)), (2, .int (i32 (v2 + (-8))))] rfl ⟨rfl, rfl, rfl, trivial⟩ (hk3 v1 (v2 + (-8)) m2)
theorem s_cT_addNumber {d : Nat} {v1 : Int} {m : xm} (hd : 2 ≤ d) : xw (am_E L xs bz) d am_m99 0 0 [(0, .ref 1), (1, .int (i32 v1))] [] m (cT_addNumber v1 m) := by
  unfold cT_addNumber
  refine w_bipush rfl rfl ?_
  refine w_istore_n (lsd := [(2, .int (i32 24)), (0, .ref 1), (1, .int (i32 v1))]) rfl (Nat.le_of_ble_eq_true rfl) rfl ?_
  exact w_weak [(0, .ref 1), (1, .int (i32 v1)), (2, .int (i32 24))] rfl ⟨rfl, rfl, rfl, trivial⟩ (s_cT_addNumber_3 (by omega) _)
theorem s_cW_faultPlace {d : Nat} {m : xm} (hd : 0 ≤ d) : xw (am_E L xs bz) d am_m135 1 0 [(0, .ref 3)] [] m (cW_faultPlace m) := by
  unfold cW_faultPlace
  refine w_aload_n rfl rfl ?_
  refine w_gfi rfl rfl (Nat.le_of_ble_eq_true rfl) rfl rfl ?_
  exact w_retv rfl rfl
theorem s_cL_refuse {d : Nat} {v1 : Int} {m : xm} (hd : 1 ≤ d) : xw (am_E L xs bz) d am_m138 1 0 [(0, .ref 0), (1, .int (i32 v1))] [] m (cL_refuse v1 m) := by
  unfold cL_refuse
  refine w_aload_n rfl rfl ?_
  refine w_gfr (r := 47) rfl rfl (Nat.le_of_ble_eq_true rfl) rfl rfl ?_
  refine w_iload_n rfl rfl ?_
  refine w_aload_n rfl rfl ?_
  refine w_gfr (r := 47) rfl rfl (Nat.le_of_ble_eq_true rfl) rfl rfl ?_
  show xw _ _ _ _ 9 _ _ _ _
  refine w_iload_n rfl rfl ?_
  refine w_call1 [.ref 47, .int (i32 v1)] [.int (i32 v1), .ref 47] (by omega) rfl rfl rfl rfl rfl rfl (Nat.le_of_ble_eq_true rfl) (fun z => by cases z) (Nat.le_of_ble_eq_true rfl) rfl rfl (s_cL_cell (by omega) rfl) (fun r1 m2 => ?_)
  refine w_iconst rfl ?_
  refine w_iadd rfl ?_
  refine w_call0 [.ref 47, .int (i32 v1), .int (i32 (r1 + 1))] [] (by omega) rfl rfl rfl rfl rfl rfl (Nat.le_of_ble_eq_true rfl) (fun z => by cases z) (Nat.le_of_ble_eq_true rfl) rfl rfl (s_cL_setCell (by omega) rfl) (fun r3 m4 => ?_)
  refine w_iconst rfl ?_
  show xw _ _ _ _ 19 _ _ _ _
  exact w_retv rfl rfl
theorem s_cL_feed {d : Nat} {v1 : Int} {v2 : Int} {v3 : Int} {v4 : Int} {v5 : Int} {m : xm} (hd : 3 ≤ d) : xw (am_E L xs bz) d am_m137 1 0 [(0, .ref 0), (1, .int (i32 v1)), (2, .int (i32 v2)), (3, .int (i32 v3)), (4, .int (i32 v4)), (5, .int (i32 v5))] [] m (cL_feed v1 v2 v3 v4 v5 m) := by
  unfold cL_feed
  refine w_aload_n rfl rfl ?_
  refine w_gfr (r := 1) rfl rfl (Nat.le_of_ble_eq_true rfl) rfl rfl ?_
  refine w_call1 [.ref 1] [] (by omega) rfl rfl rfl rfl rfl rfl (Nat.le_of_ble_eq_true rfl) (fun _ => xrc_ok rfl) (Nat.le_of_ble_eq_true rfl) rfl rfl (s_cT_length (by omega)) (fun r1 m2 => ?_)
  refine w_bipush rfl rfl ?_
  refine w_iadd rfl ?_
  show xw _ _ _ _ 10 _ _ _ _
  refine w_sipush rfl rfl ?_
  refine w_icmp_le (tg := 22) rfl rfl rfl rfl ?_ ?_
  · refine w_aload_n rfl rfl ?_
    refine w_gfr (r := 1) rfl rfl (Nat.le_of_ble_eq_true rfl) rfl rfl ?_
    refine w_iload_n rfl rfl ?_
    refine w_call0 [.ref 1, .int (i32 v1)] [] (by omega) rfl rfl rfl rfl rfl rfl (Nat.le_of_ble_eq_true rfl) (fun _ => xrc_ok rfl) (Nat.le_of_ble_eq_true rfl) rfl rfl (s_cT_addNumber (by omega)) (fun r3 m4 => ?_)
    refine w_aload_n rfl rfl ?_
    show xw _ _ _ _ 31 _ _ _ _
    refine w_gfr (r := 1) rfl rfl (Nat.le_of_ble_eq_true rfl) rfl rfl ?_
    refine w_iload_n rfl rfl ?_
    refine w_call0 [.ref 1, .int (i32 v2)] [] (by omega) rfl rfl rfl rfl rfl rfl (Nat.le_of_ble_eq_true rfl) (fun _ => xrc_ok rfl) (Nat.le_of_ble_eq_true rfl) rfl rfl (s_cT_addNumber (by omega)) (fun r5 m6 => ?_)
    refine w_aload_n rfl rfl ?_
    refine w_gfr (r := 1) rfl rfl (Nat.le_of_ble_eq_true rfl) rfl rfl ?_
    refine w_iload_n rfl rfl ?_
    show xw _ _ _ _ 43 _ _ _ _
    refine w_call0 [.ref 1, .int (i32 v3)] [] (by omega) rfl rfl rfl rfl rfl rfl (Nat.le_of_ble_eq_true rfl) (fun _ => xrc_ok rfl) (Nat.le_of_ble_eq_true rfl) rfl rfl (s_cT_addNumber (by omega)) (fun r7 m8 => ?_)
    refine w_aload_n rfl rfl ?_
    refine w_gfr (r := 1) rfl rfl (Nat.le_of_ble_eq_true rfl) rfl rfl ?_
    refine w_iload rfl rfl ?_
    refine w_call0 [.ref 1, .int (i32 v4)] [] (by omega) rfl rfl rfl rfl rfl rfl (Nat.le_of_ble_eq_true rfl) (fun _ => xrc_ok rfl) (Nat.le_of_ble_eq_true rfl) rfl rfl (s_cT_addNumber (by omega)) (fun r9 m10 => ?_)
    refine w_aload_n rfl rfl ?_
    show xw _ _ _ _ 56 _ _ _ _
    refine w_gfr (r := 1) rfl rfl (Nat.le_of_ble_eq_true rfl) rfl rfl ?_
    refine w_iload rfl rfl ?_
    refine w_call0 [.ref 1, .int (i32 v5)] [] (by omega) rfl rfl rfl rfl rfl rfl (Nat.le_of_ble_eq_true rfl) (fun _ => xrc_ok rfl) (Nat.le_of_ble_eq_true rfl) rfl rfl (s_cT_addNumber (by omega)) (fun r11 m12 => ?_)
    refine w_aload_n rfl rfl ?_
    refine w_gfr (r := 1) rfl rfl (Nat.le_of_ble_eq_true rfl) rfl rfl ?_
    refine w_call1 [.ref 1] [] (by omega) rfl rfl rfl rfl rfl rfl (Nat.le_of_ble_eq_true rfl) (fun _ => xrc_ok rfl) (Nat.le_of_ble_eq_true rfl) rfl rfl (s_cT_length (by omega)) (fun r13 m14 => ?_)
    show xw _ _ _ _ 71 _ _ _ _
    exact w_retv rfl rfl
  · refine w_aload_n rfl rfl ?_
    refine w_iconst rfl ?_
    refine w_call1 [.ref 0, .int (i32 0)] [] (by omega) rfl rfl rfl rfl rfl rfl (Nat.le_of_ble_eq_true rfl) (fun _ => xrc_ok rfl) (Nat.le_of_ble_eq_true rfl) rfl rfl (s_cL_refuse (by omega)) (fun r15 m16 => ?_)
    exact w_retv rfl rfl
theorem s_cL_end_15 {d : Nat} (hd : 2 ≤ d) {m : xm} : xw (am_E L xs bz) d am_m141 1 15 [(0, .ref 0)] [] m (cL_end_15 m) := by
  unfold cL_end_15
  refine w_aload_n rfl rfl ?_
  refine w_iconst rfl ?_
  refine w_call1 [.ref 0, .int (i32 0)] [] (by omega) rfl rfl rfl rfl rfl rfl (Nat.le_of_ble_eq_true rfl) (fun _ => xrc_ok rfl) (Nat.le_of_ble_eq_true rfl) rfl rfl (s_cL_refuse (by omega)) (fun r1 m2 => ?_)
  refine w_pop rfl rfl ?_
  refine w_iconst rfl ?_
  show xw _ _ _ _ 22 _ _ _ _
  exact w_retv rfl rfl
theorem s_cL_end {d : Nat} {v1 : Int} {m : xm} (hd : 2 ≤ d) : xw (am_E L xs bz) d am_m141 1 0 [(0, .ref 0), (1, .int (i32 v1))] [] m (cL_end v1 m) := by
  unfold cL_end
  refine w_iload_n rfl rfl ?_
  refine w_if_lt (tg := 15) rfl rfl rfl ?_ ?_
  · exact w_weak [(0, .ref 0)] rfl ⟨rfl, trivial⟩ (s_cL_end_15 (by omega))
  · refine w_iload_n rfl rfl ?_
    refine w_aload_n rfl rfl ?_
    refine w_gfr (r := 1) rfl rfl (Nat.le_of_ble_eq_true rfl) rfl rfl ?_
    refine w_call1 [.ref 1] [.int (i32 v1)] (by omega) rfl rfl rfl rfl rfl rfl (Nat.le_of_ble_eq_true rfl) (fun _ => xrc_ok rfl) (Nat.le_of_ble_eq_true rfl) rfl rfl (s_cT_length (by omega)) (fun r1 m2 => ?_)
    refine w_icmp_le (tg := 23) rfl rfl rfl rfl ?_ ?_
    · refine w_aload_n rfl rfl ?_
      refine w_gfr (r := 1) rfl rfl (Nat.le_of_ble_eq_true rfl) rfl rfl ?_
      refine w_iload_n rfl rfl ?_
      refine w_call0 [.ref 1, .int (i32 v1)] [] (by omega) rfl rfl rfl rfl rfl rfl (Nat.le_of_ble_eq_true rfl) (fun _ => xrc_ok rfl) (Nat.le_of_ble_eq_true rfl) rfl rfl (s_cT_cut (by omega)) (fun r3 m4 => ?_)
      refine w_iconst rfl ?_
      show xw _ _ _ _ 32 _ _ _ _
      exact w_retv rfl rfl
    · exact w_weak [(0, .ref 0)] rfl ⟨rfl, trivial⟩ (s_cL_end_15 (by omega))
theorem s_cL_hall {d : Nat} {m : xm} (hd : 143 ≤ d) : xw (am_E L xs bz) d am_m142 1 0 [(0, .ref 0)] [] m (cL_hall m) := by
  unfold cL_hall
  refine w_aload_n rfl rfl ?_
  refine w_gfr (r := 4) rfl rfl (Nat.le_of_ble_eq_true rfl) rfl rfl ?_
  refine w_aload_n rfl rfl ?_
  refine w_gfh rfl rfl rfl rfl ?_
  refine w_call1 [.ref 4, .ref (hl m 13)] [] (by omega) rfl rfl rfl rfl rfl rfl (Nat.le_of_ble_eq_true rfl) (fun _ => xrc_ok rfl) (Nat.le_of_ble_eq_true rfl) rfl rfl (s_cR_readInto (by omega) (hl_or _ _)) (fun r1 m2 => ?_)
  show xw _ _ _ _ 11 _ _ _ _
  refine w_istore_n (lsd := [(1, .int (i32 r1)), (0, .ref 0)]) rfl (Nat.le_of_ble_eq_true rfl) rfl ?_
  refine w_aload_n rfl rfl ?_
  refine w_gfr (r := 1) rfl rfl (Nat.le_of_ble_eq_true rfl) rfl rfl ?_
  refine w_iconst rfl ?_
  refine w_call0 [.ref 1, .int (i32 0)] [] (by omega) rfl rfl rfl rfl rfl rfl (Nat.le_of_ble_eq_true rfl) (fun _ => xrc_ok rfl) (Nat.le_of_ble_eq_true rfl) rfl rfl (s_cT_cut (by omega)) (fun r3 m4 => ?_)
  refine w_iload_n rfl rfl ?_
  show xw _ _ _ _ 21 _ _ _ _
  refine w_iconst rfl ?_
  refine w_icmp_ne (tg := 31) rfl rfl rfl rfl ?_ ?_
  · refine w_aload_n rfl rfl ?_
    refine w_gfh rfl rfl rfl rfl ?_
    refine w_astore_n (lsd := [(2, .ref (hl m4 13)), (1, .int (i32 r1)), (0, .ref 0)]) rfl (Nat.le_of_ble_eq_true rfl) rfl ?_
    refine w_aload_n rfl rfl ?_
    refine w_aload_n rfl rfl ?_
    show xw _ _ _ _ 38 _ _ _ _
    refine w_gfh rfl rfl rfl rfl ?_
    refine w_pfh rfl rfl (Nat.le_of_ble_eq_true rfl) rfl rfl (hl_or _ _) rfl (fun m5 => ?_)
    refine w_aload_n rfl rfl ?_
    refine w_aload_n rfl rfl ?_
    refine w_pfh rfl rfl (Nat.le_of_ble_eq_true rfl) rfl rfl (hl_or _ _) rfl (fun m6 => ?_)
    refine w_aload_n rfl rfl ?_
    show xw _ _ _ _ 50 _ _ _ _
    refine w_gfr (r := 21) rfl rfl (Nat.le_of_ble_eq_true rfl) rfl rfl ?_
    refine w_aload_n rfl rfl ?_
    refine w_gfh rfl rfl rfl rfl ?_
    refine w_call1 [.ref (hl m6 12)] [.ref 21] (by omega) rfl rfl rfl rfl rfl rfl (Nat.le_of_ble_eq_true rfl) (fun _ => xrc_ok (rcH (hl_or _ _) rfl)) (Nat.le_of_ble_eq_true rfl) rfl rfl (s_cH_firstState (by omega) (hl_or _ _)) (fun r7 m8 => ?_)
    refine w_iconst rfl ?_
    refine w_call0 [.ref 21, .int (i32 r7), .int (i32 0)] [] (by omega) rfl rfl rfl rfl rfl rfl (Nat.le_of_ble_eq_true rfl) (fun _ => xrc_ok rfl) (Nat.le_of_ble_eq_true rfl) rfl rfl (s_cY_start (by omega)) (fun r9 m10 => ?_)
    show xw _ _ _ _ 64 _ _ _ _
    refine w_aload_n rfl rfl ?_
    refine w_gfr (r := 18) rfl rfl (Nat.le_of_ble_eq_true rfl) rfl rfl ?_
    refine w_call0 [.ref 18] [] (by omega) rfl rfl rfl rfl rfl rfl (Nat.le_of_ble_eq_true rfl) (fun _ => xrc_ok rfl) (Nat.le_of_ble_eq_true rfl) rfl rfl (s_cE_forget (by omega)) (fun r11 m12 => ?_)
    refine w_aload_n rfl rfl ?_
    refine w_iconst rfl ?_
    refine w_pfi rfl rfl (Nat.le_of_ble_eq_true rfl) rfl rfl rfl (fun m13 => ?_)
    show xw _ _ _ _ 76 _ _ _ _
    refine w_aload_n rfl rfl ?_
    refine w_iconst rfl ?_
    refine w_pfi rfl rfl (Nat.le_of_ble_eq_true rfl) rfl rfl rfl (fun m14 => ?_)
    refine w_iload_n rfl rfl ?_
    exact w_retv rfl rfl
  · refine w_aload_n rfl rfl ?_
    refine w_iconst rfl ?_
    refine w_call1 [.ref 0, .int (i32 1)] [] (by omega) rfl rfl rfl rfl rfl rfl (Nat.le_of_ble_eq_true rfl) (fun _ => xrc_ok rfl) (Nat.le_of_ble_eq_true rfl) rfl rfl (s_cL_refuse (by omega)) (fun r15 m16 => ?_)
    exact w_retv rfl rfl
theorem s_cL_fault {d : Nat} {v1 : Int} {m : xm} (hd : 1 ≤ d) : xw (am_E L xs bz) d am_m143 1 0 [(0, .ref 0), (1, .int (i32 v1))] [] m (cL_fault v1 m) := by
  unfold cL_fault
  refine w_iload_n rfl rfl ?_
  refine w_if_ne (tg := 12) rfl rfl rfl ?_ ?_
  · refine w_iload_n rfl rfl ?_
    refine w_iconst rfl ?_
    refine w_icmp_ne (tg := 27) rfl rfl rfl rfl ?_ ?_
    · refine w_iconst rfl ?_
      exact w_retv rfl rfl
    · refine w_aload_n rfl rfl ?_
      refine w_gfr (r := 3) rfl rfl (Nat.le_of_ble_eq_true rfl) rfl rfl ?_
      refine w_call1 [.ref 3] [] (by omega) rfl rfl rfl rfl rfl rfl (Nat.le_of_ble_eq_true rfl) (fun _ => xrc_ok rfl) (Nat.le_of_ble_eq_true rfl) rfl rfl (s_cW_faultPlace (by omega)) (fun r1 m2 => ?_)
      refine w_goto (tg := 28) rfl rfl ?_
      exact w_retv rfl rfl
  · refine w_aload_n rfl rfl ?_
    refine w_gfr (r := 3) rfl rfl (Nat.le_of_ble_eq_true rfl) rfl rfl ?_
    refine w_call1 [.ref 3] [] (by omega) rfl rfl rfl rfl rfl rfl (Nat.le_of_ble_eq_true rfl) (fun _ => xrc_ok rfl) (Nat.le_of_ble_eq_true rfl) rfl rfl (s_cW_faultKind (by omega)) (fun r3 m4 => ?_)
    exact w_retv rfl rfl
theorem s_cL_has_60 {d : Nat} (hd : 5 ≤ d) {v1 : Int} {m : xm} : xw (am_E L xs bz) d am_m144 1 60 [(0, .ref 0), (1, .int (i32 v1))] [] m (cL_has_60 v1 m) := by
  unfold cL_has_60
  refine w_aload_n rfl rfl ?_
  refine w_gfh rfl rfl rfl rfl ?_
  refine w_iload_n rfl rfl ?_
  refine w_call1 [.ref (hl m 12), .int (i32 v1)] [] (by omega) rfl rfl rfl rfl rfl rfl (Nat.le_of_ble_eq_true rfl) (fun _ => xrc_ok (rcH (hl_or _ _) rfl)) (Nat.le_of_ble_eq_true rfl) rfl rfl (s_cH_count (by omega) (hl_or _ _)) (fun r1 m2 => ?_)
  exact w_retv rfl rfl
theorem s_cL_has {d : Nat} {v1 : Int} {m : xm} (hd : 5 ≤ d) : xw (am_E L xs bz) d am_m144 1 0 [(0, .ref 0), (1, .int (i32 v1))] [] m (cL_has v1 m) := by
  unfold cL_has
  refine w_iload_n rfl rfl ?_
  refine w_tsw (t0 := 139) (fs := [59, 59, 59, 59, 68, 76, 84, 99, 114, 122, 130]) rfl rfl rfl rfl rfl ?_ ?_
  · refine w_iconst rfl ?_
    exact w_retv rfl rfl
  · refine ⟨⟨60, rfl, ?_⟩, ⟨60, rfl, ?_⟩, ⟨60, rfl, ?_⟩, ⟨60, rfl, ?_⟩, ⟨69, rfl, ?_⟩, ⟨77, rfl, ?_⟩, ⟨85, rfl, ?_⟩, ⟨100, rfl, ?_⟩, ⟨115, rfl, ?_⟩, ⟨123, rfl, ?_⟩, ⟨131, rfl, ?_⟩, trivial⟩
    · exact w_weak [(0, .ref 0), (1, .int (i32 v1))] rfl ⟨rfl, rfl, trivial⟩ (s_cL_has_60 (by omega))
    · exact w_weak [(0, .ref 0), (1, .int (i32 v1))] rfl ⟨rfl, rfl, trivial⟩ (s_cL_has_60 (by omega))
    · exact w_weak [(0, .ref 0), (1, .int (i32 v1))] rfl ⟨rfl, rfl, trivial⟩ (s_cL_has_60 (by omega))
    · exact w_weak [(0, .ref 0), (1, .int (i32 v1))] rfl ⟨rfl, rfl, trivial⟩ (s_cL_has_60 (by omega))
    · refine w_aload_n rfl rfl ?_
      refine w_gfh rfl rfl rfl rfl ?_
      refine w_call1 [.ref (hl m 12)] [] (by omega) rfl rfl rfl rfl rfl rfl (Nat.le_of_ble_eq_true rfl) (fun _ => xrc_ok (rcH (hl_or _ _) rfl)) (Nat.le_of_ble_eq_true rfl) rfl rfl (s_cH_rust (by omega) (hl_or _ _)) (fun r1 m2 => ?_)
      exact w_retv rfl rfl
    · refine w_aload_n rfl rfl ?_
      refine w_gfr (r := 21) rfl rfl (Nat.le_of_ble_eq_true rfl) rfl rfl ?_
      refine w_call1 [.ref 21] [] (by omega) rfl rfl rfl rfl rfl rfl (Nat.le_of_ble_eq_true rfl) (fun _ => xrc_ok rfl) (Nat.le_of_ble_eq_true rfl) rfl rfl (s_cY_played (by omega)) (fun r3 m4 => ?_)
      exact w_retv rfl rfl
    · refine w_aload_n rfl rfl ?_
      refine w_gfh rfl rfl rfl rfl ?_
      refine w_aload_n rfl rfl ?_
      refine w_gfr (r := 21) rfl rfl (Nat.le_of_ble_eq_true rfl) rfl rfl ?_
      refine w_call1 [.ref 21] [.ref (hl m 12)] (by omega) rfl rfl rfl rfl rfl rfl (Nat.le_of_ble_eq_true rfl) (fun _ => xrc_ok rfl) (Nat.le_of_ble_eq_true rfl) rfl rfl (s_cY_state (by omega)) (fun r5 m6 => ?_)
      show xw _ _ _ _ 96 _ _ _ _
      refine w_call1 [.ref (hl m 12), .int (i32 r5)] [] (by omega) rfl rfl rfl rfl rfl rfl (Nat.le_of_ble_eq_true rfl) (fun _ => xrc_ok (rcH (hl_or _ _) rfl)) (Nat.le_of_ble_eq_true rfl) rfl rfl (s_cH_jamsOf (by omega) (hl_or _ _)) (fun r7 m8 => ?_)
      exact w_retv rfl rfl
    · refine w_aload_n rfl rfl ?_
      refine w_gfh rfl rfl rfl rfl ?_
      refine w_aload_n rfl rfl ?_
      refine w_gfr (r := 21) rfl rfl (Nat.le_of_ble_eq_true rfl) rfl rfl ?_
      refine w_call1 [.ref 21] [.ref (hl m 12)] (by omega) rfl rfl rfl rfl rfl rfl (Nat.le_of_ble_eq_true rfl) (fun _ => xrc_ok rfl) (Nat.le_of_ble_eq_true rfl) rfl rfl (s_cY_state (by omega)) (fun r9 m10 => ?_)
      show xw _ _ _ _ 111 _ _ _ _
      refine w_call1 [.ref (hl m 12), .int (i32 r9)] [] (by omega) rfl rfl rfl rfl rfl rfl (Nat.le_of_ble_eq_true rfl) (fun _ => xrc_ok (rcH (hl_or _ _) rfl)) (Nat.le_of_ble_eq_true rfl) rfl rfl (s_cH_openDoors (by omega) (hl_or _ _)) (fun r11 m12 => ?_)
      exact w_retv rfl rfl
    · refine w_aload_n rfl rfl ?_
      refine w_gfr (r := 21) rfl rfl (Nat.le_of_ble_eq_true rfl) rfl rfl ?_
      refine w_call1 [.ref 21] [] (by omega) rfl rfl rfl rfl rfl rfl (Nat.le_of_ble_eq_true rfl) (fun _ => xrc_ok rfl) (Nat.le_of_ble_eq_true rfl) rfl rfl (s_cY_keptCount (by omega)) (fun r13 m14 => ?_)
      exact w_retv rfl rfl
    · refine w_aload_n rfl rfl ?_
      refine w_gfr (r := 18) rfl rfl (Nat.le_of_ble_eq_true rfl) rfl rfl ?_
      refine w_call1 [.ref 18] [] (by omega) rfl rfl rfl rfl rfl rfl (Nat.le_of_ble_eq_true rfl) (fun _ => xrc_ok rfl) (Nat.le_of_ble_eq_true rfl) rfl rfl (s_cE_rows (by omega)) (fun r15 m16 => ?_)
      exact w_retv rfl rfl
    · refine w_aload_n rfl rfl ?_
      refine w_gfr (r := 21) rfl rfl (Nat.le_of_ble_eq_true rfl) rfl rfl ?_
      refine w_call1 [.ref 21] [] (by omega) rfl rfl rfl rfl rfl rfl (Nat.le_of_ble_eq_true rfl) (fun _ => xrc_ok rfl) (Nat.le_of_ble_eq_true rfl) rfl rfl (s_cY_acts (by omega)) (fun r17 m18 => ?_)
      exact w_retv rfl rfl
theorem s_cL_letter {d : Nat} {v1 : Int} {v2 : Int} {v3 : Int} {m : xm} (hd : 2 ≤ d) : xw (am_E L xs bz) d am_m145 1 0 [(0, .ref 0), (1, .int (i32 v1)), (2, .int (i32 v2)), (3, .int (i32 v3))] [] m (cL_letter v1 v2 v3 m) := by
  unfold cL_letter
  refine w_aload_n rfl rfl ?_
  refine w_gfh rfl rfl rfl rfl ?_
  refine w_iload_n rfl rfl ?_
  refine w_iload_n rfl rfl ?_
  refine w_call1 [.ref (hl m 12), .int (i32 v1), .int (i32 v2)] [] (by omega) rfl rfl rfl rfl rfl rfl (Nat.le_of_ble_eq_true rfl) (fun _ => xrc_ok (rcH (hl_or _ _) rfl)) (Nat.le_of_ble_eq_true rfl) rfl rfl (s_cH_isOne (by omega) (hl_or _ _)) (fun r1 m2 => ?_)
  show xw _ _ _ _ 9 _ _ _ _
  refine w_if_eq (tg := 22) rfl rfl rfl ?_ ?_
  · refine w_iconst rfl ?_
    exact w_retv rfl rfl
  · refine w_iload_n rfl rfl ?_
    refine w_if_lt (tg := 22) rfl rfl rfl ?_ ?_
    · refine w_iconst rfl ?_
      exact w_retv rfl rfl
    · refine w_iload_n rfl rfl ?_
      refine w_bipush rfl rfl ?_
      refine w_icmp_lt (tg := 24) rfl rfl rfl rfl ?_ ?_
      · refine w_aload_n rfl rfl ?_
        refine w_gfh rfl rfl rfl rfl ?_
        refine w_iload_n rfl rfl ?_
        refine w_iload_n rfl rfl ?_
        refine w_call1 [.ref (hl m2 12), .int (i32 v1), .int (i32 v2)] [] (by omega) rfl rfl rfl rfl rfl rfl (Nat.le_of_ble_eq_true rfl) (fun _ => xrc_ok (rcH (hl_or _ _) rfl)) (Nat.le_of_ble_eq_true rfl) rfl rfl (s_cH_nameOf (by omega) (hl_or _ _)) (fun r3 m4 => ?_)
        show xw _ _ _ _ 33 _ _ _ _
        refine w_iconst rfl ?_
        refine w_iload_n rfl rfl ?_
        refine w_imul rfl ?_
        refine w_iushr rfl ?_
        refine w_bipush rfl rfl ?_
        refine w_iand rfl ?_
        show xw _ _ _ _ 40 _ _ _ _
        exact w_retv rfl rfl
      · refine w_iconst rfl ?_
        exact w_retv rfl rfl
theorem s_cL_lock {d : Nat} {v1 : Int} {v2 : Int} {m : xm} (hd : 2 ≤ d) : xw (am_E L xs bz) d am_m146 1 0 [(0, .ref 0), (1, .int (i32 v1)), (2, .int (i32 v2))] [] m (cL_lock v1 v2 m) := by
  unfold cL_lock
  refine w_aload_n rfl rfl ?_
  refine w_gfh rfl rfl rfl rfl ?_
  refine w_iconst rfl ?_
  refine w_iload_n rfl rfl ?_
  refine w_call1 [.ref (hl m 12), .int (i32 0), .int (i32 v1)] [] (by omega) rfl rfl rfl rfl rfl rfl (Nat.le_of_ble_eq_true rfl) (fun _ => xrc_ok (rcH (hl_or _ _) rfl)) (Nat.le_of_ble_eq_true rfl) rfl rfl (s_cH_isOne (by omega) (hl_or _ _)) (fun r1 m2 => ?_)
  show xw _ _ _ _ 9 _ _ _ _
  refine w_if_ne (tg := 14) rfl rfl rfl ?_ ?_
  · refine w_iload_n rfl rfl ?_
    refine w_tsw (t0 := 122) (fs := [33, 42, 58, 74, 83]) rfl rfl rfl rfl rfl ?_ ?_
    · refine w_iconst rfl ?_
      exact w_retv rfl rfl
    · refine ⟨⟨48, rfl, ?_⟩, ⟨57, rfl, ?_⟩, ⟨73, rfl, ?_⟩, ⟨89, rfl, ?_⟩, ⟨98, rfl, ?_⟩, trivial⟩
      · refine w_aload_n rfl rfl ?_
        refine w_gfh rfl rfl rfl rfl ?_
        refine w_iload_n rfl rfl ?_
        refine w_call1 [.ref (hl m2 12), .int (i32 v1)] [] (by omega) rfl rfl rfl rfl rfl rfl (Nat.le_of_ble_eq_true rfl) (fun _ => xrc_ok (rcH (hl_or _ _) rfl)) (Nat.le_of_ble_eq_true rfl) rfl rfl (s_cH_wardsOf (by omega) (hl_or _ _)) (fun r3 m4 => ?_)
        exact w_retv rfl rfl
      · refine w_aload_n rfl rfl ?_
        refine w_gfh rfl rfl rfl rfl ?_
        refine w_aload_n rfl rfl ?_
        refine w_gfr (r := 21) rfl rfl (Nat.le_of_ble_eq_true rfl) rfl rfl ?_
        refine w_call1 [.ref 21] [.ref (hl m2 12)] (by omega) rfl rfl rfl rfl rfl rfl (Nat.le_of_ble_eq_true rfl) (fun _ => xrc_ok rfl) (Nat.le_of_ble_eq_true rfl) rfl rfl (s_cY_state (by omega)) (fun r5 m6 => ?_)
        show xw _ _ _ _ 68 _ _ _ _
        refine w_iload_n rfl rfl ?_
        refine w_call1 [.ref (hl m2 12), .int (i32 r5), .int (i32 v1)] [] (by omega) rfl rfl rfl rfl rfl rfl (Nat.le_of_ble_eq_true rfl) (fun _ => xrc_ok (rcH (hl_or _ _) rfl)) (Nat.le_of_ble_eq_true rfl) rfl rfl (s_cH_wardOf (by omega) (hl_or _ _)) (fun r7 m8 => ?_)
        exact w_retv rfl rfl
      · refine w_aload_n rfl rfl ?_
        refine w_gfh rfl rfl rfl rfl ?_
        refine w_aload_n rfl rfl ?_
        refine w_gfh rfl rfl rfl rfl ?_
        refine w_call1 [.ref (hl m2 12)] [.ref (hl m2 12)] (by omega) rfl rfl rfl rfl rfl rfl (Nat.le_of_ble_eq_true rfl) (fun _ => xrc_ok (rcH (hl_or _ _) rfl)) (Nat.le_of_ble_eq_true rfl) rfl rfl (s_cH_firstState (by omega) (hl_or _ _)) (fun r9 m10 => ?_)
        show xw _ _ _ _ 84 _ _ _ _
        refine w_iload_n rfl rfl ?_
        refine w_call1 [.ref (hl m2 12), .int (i32 r9), .int (i32 v1)] [] (by omega) rfl rfl rfl rfl rfl rfl (Nat.le_of_ble_eq_true rfl) (fun _ => xrc_ok (rcH (hl_or _ _) rfl)) (Nat.le_of_ble_eq_true rfl) rfl rfl (s_cH_wardOf (by omega) (hl_or _ _)) (fun r11 m12 => ?_)
        exact w_retv rfl rfl
      · refine w_aload_n rfl rfl ?_
        refine w_gfh rfl rfl rfl rfl ?_
        refine w_iload_n rfl rfl ?_
        refine w_call1 [.ref (hl m2 12), .int (i32 v1)] [] (by omega) rfl rfl rfl rfl rfl rfl (Nat.le_of_ble_eq_true rfl) (fun _ => xrc_ok (rcH (hl_or _ _) rfl)) (Nat.le_of_ble_eq_true rfl) rfl rfl (s_cH_jamWardOf (by omega) (hl_or _ _)) (fun r13 m14 => ?_)
        exact w_retv rfl rfl
      · refine w_aload_n rfl rfl ?_
        refine w_gfh rfl rfl rfl rfl ?_
        refine w_aload_n rfl rfl ?_
        refine w_gfr (r := 21) rfl rfl (Nat.le_of_ble_eq_true rfl) rfl rfl ?_
        refine w_call1 [.ref 21] [.ref (hl m2 12)] (by omega) rfl rfl rfl rfl rfl rfl (Nat.le_of_ble_eq_true rfl) (fun _ => xrc_ok rfl) (Nat.le_of_ble_eq_true rfl) rfl rfl (s_cY_state (by omega)) (fun r15 m16 => ?_)
        show xw _ _ _ _ 109 _ _ _ _
        refine w_iload_n rfl rfl ?_
        refine w_call1 [.ref (hl m2 12), .int (i32 r15), .int (i32 v1)] [] (by omega) rfl rfl rfl rfl rfl rfl (Nat.le_of_ble_eq_true rfl) (fun _ => xrc_ok (rcH (hl_or _ _) rfl)) (Nat.le_of_ble_eq_true rfl) rfl rfl (s_cH_isJammed (by omega) (hl_or _ _)) (fun r17 m18 => ?_)
        refine w_if_eq (tg := 120) rfl rfl rfl ?_ ?_
        · refine w_iconst rfl ?_
          exact w_retv rfl rfl
        · refine w_iconst rfl ?_
          refine w_goto (tg := 121) rfl rfl ?_
          exact w_retv rfl rfl
  · refine w_iconst rfl ?_
    exact w_retv rfl rfl
theorem s_cL_note {d : Nat} {v1 : Int} {v2 : Int} {m : xm} (hd : 3 ≤ d) : xw (am_E L xs bz) d am_m147 1 0 [(0, .ref 0), (1, .int (i32 v1)), (2, .int (i32 v2))] [] m (cL_note v1 v2 m) := by
  unfold cL_note
  refine w_aload_n rfl rfl ?_
  refine w_gfh rfl rfl rfl rfl ?_
  refine w_iconst rfl ?_
  refine w_iload_n rfl rfl ?_
  refine w_call1 [.ref (hl m 12), .int (i32 1), .int (i32 v1)] [] (by omega) rfl rfl rfl rfl rfl rfl (Nat.le_of_ble_eq_true rfl) (fun _ => xrc_ok (rcH (hl_or _ _) rfl)) (Nat.le_of_ble_eq_true rfl) rfl rfl (s_cH_isOne (by omega) (hl_or _ _)) (fun r1 m2 => ?_)
  show xw _ _ _ _ 9 _ _ _ _
  refine w_if_ne (tg := 14) rfl rfl rfl ?_ ?_
  · refine w_iload_n rfl rfl ?_
    refine w_if_ne (tg := 42) rfl rfl rfl ?_ ?_
    · refine w_iload_n rfl rfl ?_
      refine w_iconst rfl ?_
      refine w_icmp_ne (tg := 56) rfl rfl rfl rfl ?_ ?_
      · refine w_iload_n rfl rfl ?_
        refine w_bipush rfl rfl ?_
        refine w_icmp_lt (tg := 92) rfl rfl rfl rfl ?_ ?_
        · refine w_iconst rfl ?_
          exact w_retv rfl rfl
        · refine w_aload_n rfl rfl ?_
          refine w_gfh rfl rfl rfl rfl ?_
          refine w_iconst rfl ?_
          refine w_iload_n rfl rfl ?_
          refine w_bipush rfl rfl ?_
          show xw _ _ _ _ 70 _ _ _ _
          refine w_isub rfl ?_
          refine w_call1 [.ref (hl m2 12), .int (i32 0), .int (i32 (v2 - 10))] [] (by omega) rfl rfl rfl rfl rfl rfl (Nat.le_of_ble_eq_true rfl) (fun _ => xrc_ok (rcH (hl_or _ _) rfl)) (Nat.le_of_ble_eq_true rfl) rfl rfl (s_cH_isOne (by omega) (hl_or _ _)) (fun r3 m4 => ?_)
          refine w_if_eq (tg := 92) rfl rfl rfl ?_ ?_
          · refine w_iconst rfl ?_
            exact w_retv rfl rfl
          · refine w_aload_n rfl rfl ?_
            refine w_gfh rfl rfl rfl rfl ?_
            refine w_iload_n rfl rfl ?_
            refine w_iload_n rfl rfl ?_
            refine w_bipush rfl rfl ?_
            show xw _ _ _ _ 85 _ _ _ _
            refine w_isub rfl ?_
            refine w_call1 [.ref (hl m4 12), .int (i32 v1), .int (i32 (v2 - 10))] [] (by omega) rfl rfl rfl rfl rfl rfl (Nat.le_of_ble_eq_true rfl) (fun _ => xrc_ok (rcH (hl_or _ _) rfl)) (Nat.le_of_ble_eq_true rfl) rfl rfl (s_cH_turnOf (by omega) (hl_or _ _)) (fun r5 m6 => ?_)
            refine w_goto (tg := 93) rfl rfl ?_
            exact w_retv rfl rfl
      · refine w_aload_n rfl rfl ?_
        refine w_gfh rfl rfl rfl rfl ?_
        refine w_iload_n rfl rfl ?_
        refine w_call1 [.ref (hl m2 12), .int (i32 v1)] [] (by omega) rfl rfl rfl rfl rfl rfl (Nat.le_of_ble_eq_true rfl) (fun _ => xrc_ok (rcH (hl_or _ _) rfl)) (Nat.le_of_ble_eq_true rfl) rfl rfl (s_cH_playersOf (by omega) (hl_or _ _)) (fun r7 m8 => ?_)
        exact w_retv rfl rfl
    · refine w_aload_n rfl rfl ?_
      refine w_gfh rfl rfl rfl rfl ?_
      refine w_aload_n rfl rfl ?_
      refine w_gfr (r := 21) rfl rfl (Nat.le_of_ble_eq_true rfl) rfl rfl ?_
      refine w_call1 [.ref 21] [.ref (hl m2 12)] (by omega) rfl rfl rfl rfl rfl rfl (Nat.le_of_ble_eq_true rfl) (fun _ => xrc_ok rfl) (Nat.le_of_ble_eq_true rfl) rfl rfl (s_cY_state (by omega)) (fun r9 m10 => ?_)
      show xw _ _ _ _ 29 _ _ _ _
      refine w_iload_n rfl rfl ?_
      refine w_call1 [.ref (hl m2 12), .int (i32 r9), .int (i32 v1)] [] (by omega) rfl rfl rfl rfl rfl rfl (Nat.le_of_ble_eq_true rfl) (fun _ => xrc_ok (rcH (hl_or _ _) rfl)) (Nat.le_of_ble_eq_true rfl) rfl rfl (s_cH_canPlay (by omega) (hl_or _ _)) (fun r11 m12 => ?_)
      refine w_if_eq (tg := 40) rfl rfl rfl ?_ ?_
      · refine w_iconst rfl ?_
        exact w_retv rfl rfl
      · refine w_iconst rfl ?_
        refine w_goto (tg := 41) rfl rfl ?_
        exact w_retv rfl rfl
  · refine w_iconst rfl ?_
    exact w_retv rfl rfl
theorem s_cL_door {d : Nat} {v1 : Int} {m : xm} (hd : 5 ≤ d) : xw (am_E L xs bz) d am_m148 1 0 [(0, .ref 0), (1, .int (i32 v1))] [] m (cL_door v1 m) := by
  unfold cL_door
  refine w_aload_n rfl rfl ?_
  refine w_gfh rfl rfl rfl rfl ?_
  refine w_iconst rfl ?_
  refine w_iload_n rfl rfl ?_
  refine w_call1 [.ref (hl m 12), .int (i32 2), .int (i32 v1)] [] (by omega) rfl rfl rfl rfl rfl rfl (Nat.le_of_ble_eq_true rfl) (fun _ => xrc_ok (rcH (hl_or _ _) rfl)) (Nat.le_of_ble_eq_true rfl) rfl rfl (s_cH_isOne (by omega) (hl_or _ _)) (fun r1 m2 => ?_)
  show xw _ _ _ _ 9 _ _ _ _
  refine w_if_eq (tg := 33) rfl rfl rfl ?_ ?_
  · refine w_iconst rfl ?_
    exact w_retv rfl rfl
  · refine w_aload_n rfl rfl ?_
    refine w_gfh rfl rfl rfl rfl ?_
    refine w_aload_n rfl rfl ?_
    refine w_gfr (r := 21) rfl rfl (Nat.le_of_ble_eq_true rfl) rfl rfl ?_
    refine w_call1 [.ref 21] [.ref (hl m2 12)] (by omega) rfl rfl rfl rfl rfl rfl (Nat.le_of_ble_eq_true rfl) (fun _ => xrc_ok rfl) (Nat.le_of_ble_eq_true rfl) rfl rfl (s_cY_state (by omega)) (fun r3 m4 => ?_)
    show xw _ _ _ _ 23 _ _ _ _
    refine w_call1 [.ref (hl m2 12), .int (i32 r3)] [] (by omega) rfl rfl rfl rfl rfl rfl (Nat.le_of_ble_eq_true rfl) (fun _ => xrc_ok (rcH (hl_or _ _) rfl)) (Nat.le_of_ble_eq_true rfl) rfl rfl (s_cH_openDoors (by omega) (hl_or _ _)) (fun r5 m6 => ?_)
    refine w_iload_n rfl rfl ?_
    refine w_ishr rfl ?_
    refine w_iconst rfl ?_
    refine w_iand rfl ?_
    refine w_goto (tg := 34) rfl rfl ?_
    show xw _ _ _ _ 34 _ _ _ _
    exact w_retv rfl rfl
theorem s_cL_player {d : Nat} {v1 : Int} {m : xm} (hd : 2 ≤ d) : xw (am_E L xs bz) d am_m149 1 0 [(0, .ref 0), (1, .int (i32 v1))] [] m (cL_player v1 m) := by
  unfold cL_player
  refine w_aload_n rfl rfl ?_
  refine w_gfh rfl rfl rfl rfl ?_
  refine w_iconst rfl ?_
  refine w_iload_n rfl rfl ?_
  refine w_call1 [.ref (hl m 12), .int (i32 3), .int (i32 v1)] [] (by omega) rfl rfl rfl rfl rfl rfl (Nat.le_of_ble_eq_true rfl) (fun _ => xrc_ok (rcH (hl_or _ _) rfl)) (Nat.le_of_ble_eq_true rfl) rfl rfl (s_cH_isOne (by omega) (hl_or _ _)) (fun r1 m2 => ?_)
  show xw _ _ _ _ 9 _ _ _ _
  refine w_if_eq (tg := 23) rfl rfl rfl ?_ ?_
  · refine w_iconst rfl ?_
    exact w_retv rfl rfl
  · refine w_aload_n rfl rfl ?_
    refine w_gfh rfl rfl rfl rfl ?_
    refine w_iload_n rfl rfl ?_
    refine w_call1 [.ref (hl m2 12), .int (i32 v1)] [] (by omega) rfl rfl rfl rfl rfl rfl (Nat.le_of_ble_eq_true rfl) (fun _ => xrc_ok (rcH (hl_or _ _) rfl)) (Nat.le_of_ble_eq_true rfl) rfl rfl (s_cH_notesOf (by omega) (hl_or _ _)) (fun r3 m4 => ?_)
    refine w_goto (tg := 24) rfl rfl ?_
    show xw _ _ _ _ 24 _ _ _ _
    exact w_retv rfl rfl
theorem s_cL_kept {d : Nat} {v1 : Int} {v2 : Int} {m : xm} (hd : 3 ≤ d) : xw (am_E L xs bz) d am_m150 1 0 [(0, .ref 0), (1, .int (i32 v1)), (2, .int (i32 v2))] [] m (cL_kept v1 v2 m) := by
  unfold cL_kept
  refine w_aload_n rfl rfl ?_
  refine w_gfr (r := 21) rfl rfl (Nat.le_of_ble_eq_true rfl) rfl rfl ?_
  refine w_iload_n rfl rfl ?_
  refine w_iload_n rfl rfl ?_
  refine w_call1 [.ref 21, .int (i32 v1), .int (i32 v2)] [] (by omega) rfl rfl rfl rfl rfl rfl (Nat.le_of_ble_eq_true rfl) (fun _ => xrc_ok rfl) (Nat.le_of_ble_eq_true rfl) rfl rfl (s_cY_keptPart (by omega)) (fun r1 m2 => ?_)
  show xw _ _ _ _ 9 _ _ _ _
  exact w_retv rfl rfl
theorem s_cL_judge_119 {d : Nat} (hd : 5 ≤ d) {v1 : Int} {v2 : Int} {v3 : Int} {m : xm} : xw (am_E L xs bz) d am_m151 1 119 [(0, .ref 0), (1, .int (i32 v1)), (2, .int (i32 v2)), (3, .int (i32 v3))] [] m (cL_judge_119 v1 v2 v3 m) := by
  unfold cL_judge_119
  refine w_aload_n rfl rfl ?_
  refine w_gfr (r := 44) rfl rfl (Nat.le_of_ble_eq_true rfl) rfl rfl ?_
  refine w_iconst rfl ?_
  refine w_aload_n rfl rfl ?_
  refine w_gfh rfl rfl rfl rfl ?_
  show xw _ _ _ _ 128 _ _ _ _
  refine w_iload_n rfl rfl ?_
  refine w_call1 [.ref (hl m 12), .int (i32 v1)] [.int (i32 0), .ref 44] (by omega) rfl rfl rfl rfl rfl rfl (Nat.le_of_ble_eq_true rfl) (fun _ => xrc_ok (rcH (hl_or _ _) rfl)) (Nat.le_of_ble_eq_true rfl) rfl rfl (s_cH_openDoors (by omega) (hl_or _ _)) (fun r1 m2 => ?_)
  refine w_call0 [.ref 44, .int (i32 0), .int (i32 r1)] [] (by omega) rfl rfl rfl rfl rfl rfl (Nat.le_of_ble_eq_true rfl) (fun z => by cases z) (Nat.le_of_ble_eq_true rfl) rfl rfl (s_cL_setCell (by omega) rfl) (fun r3 m4 => ?_)
  refine w_aload_n rfl rfl ?_
  refine w_gfr (r := 44) rfl rfl (Nat.le_of_ble_eq_true rfl) rfl rfl ?_
  refine w_iconst rfl ?_
  show xw _ _ _ _ 140 _ _ _ _
  refine w_aload_n rfl rfl ?_
  refine w_gfh rfl rfl rfl rfl ?_
  refine w_iload_n rfl rfl ?_
  refine w_call1 [.ref (hl m4 12), .int (i32 v1)] [.int (i32 1), .ref 44] (by omega) rfl rfl rfl rfl rfl rfl (Nat.le_of_ble_eq_true rfl) (fun _ => xrc_ok (rcH (hl_or _ _) rfl)) (Nat.le_of_ble_eq_true rfl) rfl rfl (s_cH_jamsOf (by omega) (hl_or _ _)) (fun r5 m6 => ?_)
  refine w_call0 [.ref 44, .int (i32 1), .int (i32 r5)] [] (by omega) rfl rfl rfl rfl rfl rfl (Nat.le_of_ble_eq_true rfl) (fun z => by cases z) (Nat.le_of_ble_eq_true rfl) rfl rfl (s_cL_setCell (by omega) rfl) (fun r7 m8 => ?_)
  refine w_aload_n rfl rfl ?_
  show xw _ _ _ _ 152 _ _ _ _
  refine w_gfr (r := 44) rfl rfl (Nat.le_of_ble_eq_true rfl) rfl rfl ?_
  refine w_iconst rfl ?_
  refine w_iload_n rfl rfl ?_
  refine w_call0 [.ref 44, .int (i32 2), .int (i32 v2)] [] (by omega) rfl rfl rfl rfl rfl rfl (Nat.le_of_ble_eq_true rfl) (fun z => by cases z) (Nat.le_of_ble_eq_true rfl) rfl rfl (s_cL_setCell (by omega) rfl) (fun r9 m10 => ?_)
  refine w_aload_n rfl rfl ?_
  refine w_iconst rfl ?_
  show xw _ _ _ _ 162 _ _ _ _
  refine w_pfi rfl rfl (Nat.le_of_ble_eq_true rfl) rfl rfl rfl (fun m11 => ?_)
  refine w_iload_n rfl rfl ?_
  exact w_retv rfl rfl
theorem s_cL_judge_36 {d : Nat} (hd : 5 ≤ d) : ∀ (n : Nat) {v1 : Int} {v2 : Int} {v3 : Int} {m : xm}, xw (am_E L xs bz) d am_m151 1 36 [(0, .ref 0), (1, .int (i32 v1)), (2, .int (i32 v2)), (3, .int (i32 v3))] [] m (cL_judge_36 n v1 v2 v3 m) := by
  intro n
  induction n with
  | zero => intros; exact w_none
  | succ n ih =>
    intro v1 v2 v3 m
    have hk36 := fun (v1 v2 v3 : Int) (m : xm) => @ih v1 v2 v3 m
    unfold cL_judge_36
    refine w_iload_n rfl rfl ?_
    refine w_aload_n rfl rfl ?_
    refine w_gfr (r := 16) rfl rfl (Nat.le_of_ble_eq_true rfl) rfl rfl ?_
    refine w_call1 [.ref 16] [.int (i32 v3)] (by omega) rfl rfl rfl rfl rfl rfl (Nat.le_of_ble_eq_true rfl) (fun _ => xrc_ok rfl) (Nat.le_of_ble_eq_true rfl) rfl rfl (s_cP_length (by omega)) (fun r1 m2 => ?_)
    refine w_icmp_ge (tg := 119) rfl rfl rfl rfl ?_ ?_
    · exact w_weak [(0, .ref 0), (1, .int (i32 v1)), (2, .int (i32 v2)), (3, .int (i32 v3))] rfl ⟨rfl, rfl, rfl, rfl, trivial⟩ (s_cL_judge_119 (by omega))
    · refine w_aload_n rfl rfl ?_
      refine w_gfh rfl rfl rfl rfl ?_
      refine w_iload_n rfl rfl ?_
      refine w_aload_n rfl rfl ?_
      refine w_gfr (r := 16) rfl rfl (Nat.le_of_ble_eq_true rfl) rfl rfl ?_
      show xw _ _ _ _ 56 _ _ _ _
      refine w_iload_n rfl rfl ?_
      refine w_call1 [.ref 16, .int (i32 v3)] [.int (i32 v1), .ref (hl m2 12)] (by omega) rfl rfl rfl rfl rfl rfl (Nat.le_of_ble_eq_true rfl) (fun _ => xrc_ok rfl) (Nat.le_of_ble_eq_true rfl) rfl rfl (s_cP_noteAt (by omega)) (fun r3 m4 => ?_)
      refine w_call1 [.ref (hl m2 12), .int (i32 v1), .int (i32 r3)] [] (by omega) rfl rfl rfl rfl rfl rfl (Nat.le_of_ble_eq_true rfl) (fun _ => xrc_ok (rcH (hl_or _ _) rfl)) (Nat.le_of_ble_eq_true rfl) rfl rfl (s_cH_canPlay (by omega) (hl_or _ _)) (fun r5 m6 => ?_)
      refine w_if_eq (tg := 119) rfl rfl rfl ?_ ?_
      · exact w_weak [(0, .ref 0), (1, .int (i32 v1)), (2, .int (i32 v2)), (3, .int (i32 v3))] rfl ⟨rfl, rfl, rfl, rfl, trivial⟩ (s_cL_judge_119 (by omega))
      · refine w_aload_n rfl rfl ?_
        refine w_gfh rfl rfl rfl rfl ?_
        refine w_iload_n rfl rfl ?_
        refine w_aload_n rfl rfl ?_
        refine w_gfr (r := 16) rfl rfl (Nat.le_of_ble_eq_true rfl) rfl rfl ?_
        show xw _ _ _ _ 75 _ _ _ _
        refine w_iload_n rfl rfl ?_
        refine w_call1 [.ref 16, .int (i32 v3)] [.int (i32 v1), .ref (hl m6 12)] (by omega) rfl rfl rfl rfl rfl rfl (Nat.le_of_ble_eq_true rfl) (fun _ => xrc_ok rfl) (Nat.le_of_ble_eq_true rfl) rfl rfl (s_cP_noteAt (by omega)) (fun r7 m8 => ?_)
        refine w_call1 [.ref (hl m6 12), .int (i32 v1), .int (i32 r7)] [] (by omega) rfl rfl rfl rfl rfl rfl (Nat.le_of_ble_eq_true rfl) (fun _ => xrc_ok (rcH (hl_or _ _) rfl)) (Nat.le_of_ble_eq_true rfl) rfl rfl (s_cH_after (by omega) (hl_or _ _)) (fun r9 m10 => ?_)
        refine w_istore (lsd := [(4, .int (i32 r9)), (0, .ref 0), (1, .int (i32 v1)), (2, .int (i32 v2)), (3, .int (i32 v3))]) rfl (Nat.le_of_ble_eq_true rfl) rfl ?_
        refine w_iload_n rfl rfl ?_
        refine w_aload_n rfl rfl ?_
        show xw _ _ _ _ 86 _ _ _ _
        refine w_gfh rfl rfl rfl rfl ?_
        refine w_iload rfl rfl ?_
        refine w_call1 [.ref (hl m10 12), .int (i32 r9)] [.int (i32 v2)] (by omega) rfl rfl rfl rfl rfl rfl (Nat.le_of_ble_eq_true rfl) (fun _ => xrc_ok (rcH (hl_or _ _) rfl)) (Nat.le_of_ble_eq_true rfl) rfl rfl (s_cH_openDoors (by omega) (hl_or _ _)) (fun r11 m12 => ?_)
        refine w_aload_n rfl rfl ?_
        refine w_gfh rfl rfl rfl rfl ?_
        refine w_iload_n rfl rfl ?_
        show xw _ _ _ _ 99 _ _ _ _
        refine w_call1 [.ref (hl m12 12), .int (i32 v1)] [.int (i32 r11), .int (i32 v2)] (by omega) rfl rfl rfl rfl rfl rfl (Nat.le_of_ble_eq_true rfl) (fun _ => xrc_ok (rcH (hl_or _ _) rfl)) (Nat.le_of_ble_eq_true rfl) rfl rfl (s_cH_openDoors (by omega) (hl_or _ _)) (fun r13 m14 => ?_)
        refine w_iconst rfl ?_
        refine w_ixor rfl ?_
        refine w_iand rfl ?_
        refine w_call1 [.int (i32 (ban r11 (bxo r13 (-1))))] [.int (i32 v2)] (by omega) rfl rfl rfl rfl rfl rfl (Nat.le_of_ble_eq_true rfl) (fun z => by cases z) (Nat.le_of_ble_eq_true rfl) rfl rfl (s_j_bitCount (by omega)) (fun r15 m16 => ?_)
        refine w_iadd rfl ?_
        show xw _ _ _ _ 109 _ _ _ _
        refine w_letI (fun x17 => ?_)
        refine w_istore_n (lsd := [(2, .int (i32 x17)), (4, .int (i32 r9)), (0, .ref 0), (1, .int (i32 v1)), (3, .int (i32 v3))]) rfl (Nat.le_of_ble_eq_true rfl) rfl ?_
        refine w_iload rfl rfl ?_
        refine w_istore_n (lsd := [(1, .int (i32 r9)), (2, .int (i32 x17)), (4, .int (i32 r9)), (0, .ref 0), (3, .int (i32 v3))]) rfl (Nat.le_of_ble_eq_true rfl) rfl ?_
        refine w_iinc (lsd := [(3, .int (i32 (v3 + 1))), (1, .int (i32 r9)), (2, .int (i32 x17)), (4, .int (i32 r9)), (0, .ref 0)]) rfl (Nat.le_of_ble_eq_true rfl) rfl rfl ?_
        refine w_goto (tg := 36) rfl rfl ?_
        exact w_weak [(0, .ref 0), (1, .int (i32 r9)), (2, .int (i32 x17)), (3, .int (i32 (v3 + 1)))] rfl ⟨rfl, rfl, rfl, rfl, trivial⟩ (hk36 r9 x17 (v3 + 1) m16)
theorem s_cL_judge {d : Nat} {m : xm} (hd : 5 ≤ d) : xw (am_E L xs bz) d am_m151 1 0 [(0, .ref 0)] [] m (cL_judge m) := by
  unfold cL_judge
  refine w_aload_n rfl rfl ?_
  refine w_gfr (r := 16) rfl rfl (Nat.le_of_ble_eq_true rfl) rfl rfl ?_
  refine w_aload_n rfl rfl ?_
  refine w_gfr (r := 1) rfl rfl (Nat.le_of_ble_eq_true rfl) rfl rfl ?_
  refine w_aload_n rfl rfl ?_
  show xw _ _ _ _ 9 _ _ _ _
  refine w_gfh rfl rfl rfl rfl ?_
  refine w_call1 [.ref 16, .ref 1, .ref (hl m 12)] [] (by omega) rfl rfl rfl rfl rfl rfl (Nat.le_of_ble_eq_true rfl) (fun _ => xrc_ok rfl) (Nat.le_of_ble_eq_true rfl) rfl rfl (s_cP_take (by omega) (hl_or _ _)) (fun r1 m2 => ?_)
  refine w_if_ne (tg := 24) rfl rfl rfl ?_ ?_
  · refine w_aload_n rfl rfl ?_
    refine w_gfr (r := 21) rfl rfl (Nat.le_of_ble_eq_true rfl) rfl rfl ?_
    refine w_call1 [.ref 21] [] (by omega) rfl rfl rfl rfl rfl rfl (Nat.le_of_ble_eq_true rfl) (fun _ => xrc_ok rfl) (Nat.le_of_ble_eq_true rfl) rfl rfl (s_cY_state (by omega)) (fun r3 m4 => ?_)
    refine w_istore_n (lsd := [(1, .int (i32 r3)), (0, .ref 0)]) rfl (Nat.le_of_ble_eq_true rfl) rfl ?_
    refine w_iconst rfl ?_
    show xw _ _ _ _ 33 _ _ _ _
    refine w_istore_n (lsd := [(2, .int (i32 0)), (1, .int (i32 r3)), (0, .ref 0)]) rfl (Nat.le_of_ble_eq_true rfl) rfl ?_
    refine w_iconst rfl ?_
    refine w_istore_n (lsd := [(3, .int (i32 0)), (2, .int (i32 0)), (1, .int (i32 r3)), (0, .ref 0)]) rfl (Nat.le_of_ble_eq_true rfl) rfl ?_
    exact w_weak [(0, .ref 0), (1, .int (i32 r3)), (2, .int (i32 0)), (3, .int (i32 0))] rfl ⟨rfl, rfl, rfl, rfl, trivial⟩ (s_cL_judge_36 (by omega) _)
  · refine w_aload_n rfl rfl ?_
    refine w_iconst rfl ?_
    refine w_call1 [.ref 0, .int (i32 1)] [] (by omega) rfl rfl rfl rfl rfl rfl (Nat.le_of_ble_eq_true rfl) (fun _ => xrc_ok rfl) (Nat.le_of_ble_eq_true rfl) rfl rfl (s_cL_refuse (by omega)) (fun r5 m6 => ?_)
    exact w_retv rfl rfl
theorem s_cL_judged {d : Nat} {v1 : Int} {m : xm} (hd : 1 ≤ d) : xw (am_E L xs bz) d am_m152 1 0 [(0, .ref 0), (1, .int (i32 v1))] [] m (cL_judged v1 m) := by
  unfold cL_judged
  refine w_aload_n rfl rfl ?_
  refine w_gfi rfl rfl (Nat.le_of_ble_eq_true rfl) rfl rfl ?_
  refine w_if_eq (tg := 27) rfl rfl (w32_ld _ _ _) ?_ ?_
  · refine w_iconst rfl ?_
    exact w_retv rfl rfl
  · refine w_iload_n rfl rfl ?_
    refine w_if_lt (tg := 27) rfl rfl rfl ?_ ?_
    · refine w_iconst rfl ?_
      exact w_retv rfl rfl
    · refine w_iload_n rfl rfl ?_
      refine w_iconst rfl ?_
      refine w_icmp_ge (tg := 27) rfl rfl rfl rfl ?_ ?_
      · refine w_iconst rfl ?_
        exact w_retv rfl rfl
      · refine w_aload_n rfl rfl ?_
        refine w_gfr (r := 44) rfl rfl (Nat.le_of_ble_eq_true rfl) rfl rfl ?_
        refine w_iload_n rfl rfl ?_
        refine w_call1 [.ref 44, .int (i32 v1)] [] (by omega) rfl rfl rfl rfl rfl rfl (Nat.le_of_ble_eq_true rfl) (fun z => by cases z) (Nat.le_of_ble_eq_true rfl) rfl rfl (s_cL_cell (by omega) rfl) (fun r1 m2 => ?_)
        refine w_goto (tg := 28) rfl rfl ?_
        show xw _ _ _ _ 28 _ _ _ _
        exact w_retv rfl rfl
theorem s_cL_shortest {d : Nat} {v1 : Int} {v2 : Int} {m : xm} (hd : 7 ≤ d) : xw (am_E L xs bz) d am_m153 1 0 [(0, .ref 0), (1, .int (i32 v1)), (2, .int (i32 v2))] [] m (cL_shortest v1 v2 m) := by
  unfold cL_shortest
  refine w_aload_n rfl rfl ?_
  refine w_gfh rfl rfl rfl rfl ?_
  refine w_iload_n rfl rfl ?_
  refine w_call1 [.ref (hl m 12), .int (i32 v1)] [] (by omega) rfl rfl rfl rfl rfl rfl (Nat.le_of_ble_eq_true rfl) (fun _ => xrc_ok (rcH (hl_or _ _) rfl)) (Nat.le_of_ble_eq_true rfl) rfl rfl (s_cH_areDoors (by omega) (hl_or _ _)) (fun r1 m2 => ?_)
  refine w_if_ne (tg := 13) rfl rfl rfl ?_ ?_
  · refine w_aload_n rfl rfl ?_
    refine w_gfr (r := 11) rfl rfl (Nat.le_of_ble_eq_true rfl) rfl rfl ?_
    refine w_iload_n rfl rfl ?_
    refine w_call0 [.ref 11, .int (i32 v1)] [] (by omega) rfl rfl rfl rfl rfl rfl (Nat.le_of_ble_eq_true rfl) (fun _ => xrc_ok rfl) (Nat.le_of_ble_eq_true rfl) rfl rfl (s_cS_seekJustDoors (by omega)) (fun r3 m4 => ?_)
    refine w_aload_n rfl rfl ?_
    show xw _ _ _ _ 22 _ _ _ _
    refine w_gfr (r := 11) rfl rfl (Nat.le_of_ble_eq_true rfl) rfl rfl ?_
    refine w_aload_n rfl rfl ?_
    refine w_gfr (r := 11) rfl rfl (Nat.le_of_ble_eq_true rfl) rfl rfl ?_
    refine w_aload_n rfl rfl ?_
    refine w_gfh rfl rfl rfl rfl ?_
    refine w_aload_n rfl rfl ?_
    show xw _ _ _ _ 34 _ _ _ _
    refine w_gfr (r := 21) rfl rfl (Nat.le_of_ble_eq_true rfl) rfl rfl ?_
    refine w_call1 [.ref 21] [.ref (hl m4 12), .ref 11, .ref 11] (by omega) rfl rfl rfl rfl rfl rfl (Nat.le_of_ble_eq_true rfl) (fun _ => xrc_ok rfl) (Nat.le_of_ble_eq_true rfl) rfl rfl (s_cY_state (by omega)) (fun r5 m6 => ?_)
    refine w_aload_n rfl rfl ?_
    refine w_gfh rfl rfl rfl rfl ?_
    refine w_iconst rfl ?_
    refine w_call1 [.ref (hl m6 12), .int (i32 1)] [.int (i32 r5), .ref (hl m4 12), .ref 11, .ref 11] (by omega) rfl rfl rfl rfl rfl rfl (Nat.le_of_ble_eq_true rfl) (fun _ => xrc_ok (rcH (hl_or _ _) rfl)) (Nat.le_of_ble_eq_true rfl) rfl rfl (s_cH_bitsOfAll (by omega) (hl_or _ _)) (fun r7 m8 => ?_)
    show xw _ _ _ _ 48 _ _ _ _
    refine w_call1 [.ref 11, .ref (hl m4 12), .int (i32 r5), .int (i32 r7)] [.ref 11] (by omega) rfl rfl rfl rfl rfl rfl (Nat.le_of_ble_eq_true rfl) (fun _ => xrc_ok rfl) (Nat.le_of_ble_eq_true rfl) rfl rfl (s_cS_find (by omega) (hl_or _ _)) (fun r9 m10 => ?_)
    refine w_iload_n rfl rfl ?_
    refine w_call1 [.ref 11, .int (i32 r9), .int (i32 v2)] [] (by omega) rfl rfl rfl rfl rfl rfl (Nat.le_of_ble_eq_true rfl) (fun _ => xrc_ok rfl) (Nat.le_of_ble_eq_true rfl) rfl rfl (s_cS_wayTo (by omega)) (fun r11 m12 => ?_)
    exact w_retv rfl rfl
  · refine w_iconst rfl ?_
    exact w_retv rfl rfl
theorem s_cL_back {d : Nat} {v1 : Int} {m : xm} (hd : 7 ≤ d) : xw (am_E L xs bz) d am_m154 1 0 [(0, .ref 0), (1, .int (i32 v1))] [] m (cL_back v1 m) := by
  unfold cL_back
  refine w_aload_n rfl rfl ?_
  refine w_gfr (r := 11) rfl rfl (Nat.le_of_ble_eq_true rfl) rfl rfl ?_
  refine w_aload_n rfl rfl ?_
  refine w_gfh rfl rfl rfl rfl ?_
  refine w_call1 [.ref (hl m 12)] [.ref 11] (by omega) rfl rfl rfl rfl rfl rfl (Nat.le_of_ble_eq_true rfl) (fun _ => xrc_ok (rcH (hl_or _ _) rfl)) (Nat.le_of_ble_eq_true rfl) rfl rfl (s_cH_firstState (by omega) (hl_or _ _)) (fun r1 m2 => ?_)
  show xw _ _ _ _ 11 _ _ _ _
  refine w_call0 [.ref 11, .int (i32 r1)] [] (by omega) rfl rfl rfl rfl rfl rfl (Nat.le_of_ble_eq_true rfl) (fun _ => xrc_ok rfl) (Nat.le_of_ble_eq_true rfl) rfl rfl (s_cS_seekState (by omega)) (fun r3 m4 => ?_)
  refine w_aload_n rfl rfl ?_
  refine w_gfr (r := 11) rfl rfl (Nat.le_of_ble_eq_true rfl) rfl rfl ?_
  refine w_aload_n rfl rfl ?_
  refine w_gfr (r := 11) rfl rfl (Nat.le_of_ble_eq_true rfl) rfl rfl ?_
  refine w_aload_n rfl rfl ?_
  show xw _ _ _ _ 23 _ _ _ _
  refine w_gfh rfl rfl rfl rfl ?_
  refine w_aload_n rfl rfl ?_
  refine w_gfr (r := 21) rfl rfl (Nat.le_of_ble_eq_true rfl) rfl rfl ?_
  refine w_call1 [.ref 21] [.ref (hl m4 12), .ref 11, .ref 11] (by omega) rfl rfl rfl rfl rfl rfl (Nat.le_of_ble_eq_true rfl) (fun _ => xrc_ok rfl) (Nat.le_of_ble_eq_true rfl) rfl rfl (s_cY_state (by omega)) (fun r5 m6 => ?_)
  refine w_aload_n rfl rfl ?_
  refine w_gfh rfl rfl rfl rfl ?_
  show xw _ _ _ _ 37 _ _ _ _
  refine w_iconst rfl ?_
  refine w_call1 [.ref (hl m6 12), .int (i32 1)] [.int (i32 r5), .ref (hl m4 12), .ref 11, .ref 11] (by omega) rfl rfl rfl rfl rfl rfl (Nat.le_of_ble_eq_true rfl) (fun _ => xrc_ok (rcH (hl_or _ _) rfl)) (Nat.le_of_ble_eq_true rfl) rfl rfl (s_cH_bitsOfAll (by omega) (hl_or _ _)) (fun r7 m8 => ?_)
  refine w_call1 [.ref 11, .ref (hl m4 12), .int (i32 r5), .int (i32 r7)] [.ref 11] (by omega) rfl rfl rfl rfl rfl rfl (Nat.le_of_ble_eq_true rfl) (fun _ => xrc_ok rfl) (Nat.le_of_ble_eq_true rfl) rfl rfl (s_cS_find (by omega) (hl_or _ _)) (fun r9 m10 => ?_)
  refine w_iload_n rfl rfl ?_
  refine w_call1 [.ref 11, .int (i32 r9), .int (i32 v1)] [] (by omega) rfl rfl rfl rfl rfl rfl (Nat.le_of_ble_eq_true rfl) (fun _ => xrc_ok rfl) (Nat.le_of_ble_eq_true rfl) rfl rfl (s_cS_wayTo (by omega)) (fun r11 m12 => ?_)
  exact w_retv rfl rfl
theorem s_cL_states {d : Nat} {m : xm} (hd : 7 ≤ d) : xw (am_E L xs bz) d am_m155 1 0 [(0, .ref 0)] [] m (cL_states m) := by
  unfold cL_states
  refine w_aload_n rfl rfl ?_
  refine w_gfr (r := 11) rfl rfl (Nat.le_of_ble_eq_true rfl) rfl rfl ?_
  refine w_call0 [.ref 11] [] (by omega) rfl rfl rfl rfl rfl rfl (Nat.le_of_ble_eq_true rfl) (fun _ => xrc_ok rfl) (Nat.le_of_ble_eq_true rfl) rfl rfl (s_cS_seekNothing (by omega)) (fun r1 m2 => ?_)
  refine w_aload_n rfl rfl ?_
  refine w_gfr (r := 11) rfl rfl (Nat.le_of_ble_eq_true rfl) rfl rfl ?_
  show xw _ _ _ _ 11 _ _ _ _
  refine w_aload_n rfl rfl ?_
  refine w_gfh rfl rfl rfl rfl ?_
  refine w_aload_n rfl rfl ?_
  refine w_gfr (r := 21) rfl rfl (Nat.le_of_ble_eq_true rfl) rfl rfl ?_
  refine w_call1 [.ref 21] [.ref (hl m2 12), .ref 11] (by omega) rfl rfl rfl rfl rfl rfl (Nat.le_of_ble_eq_true rfl) (fun _ => xrc_ok rfl) (Nat.le_of_ble_eq_true rfl) rfl rfl (s_cY_state (by omega)) (fun r3 m4 => ?_)
  refine w_aload_n rfl rfl ?_
  show xw _ _ _ _ 23 _ _ _ _
  refine w_gfh rfl rfl rfl rfl ?_
  refine w_iconst rfl ?_
  refine w_call1 [.ref (hl m4 12), .int (i32 1)] [.int (i32 r3), .ref (hl m2 12), .ref 11] (by omega) rfl rfl rfl rfl rfl rfl (Nat.le_of_ble_eq_true rfl) (fun _ => xrc_ok (rcH (hl_or _ _) rfl)) (Nat.le_of_ble_eq_true rfl) rfl rfl (s_cH_bitsOfAll (by omega) (hl_or _ _)) (fun r5 m6 => ?_)
  refine w_call1 [.ref 11, .ref (hl m2 12), .int (i32 r3), .int (i32 r5)] [] (by omega) rfl rfl rfl rfl rfl rfl (Nat.le_of_ble_eq_true rfl) (fun _ => xrc_ok rfl) (Nat.le_of_ble_eq_true rfl) rfl rfl (s_cS_find (by omega) (hl_or _ _)) (fun r7 m8 => ?_)
  refine w_pop rfl rfl ?_
  refine w_aload_n rfl rfl ?_
  show xw _ _ _ _ 35 _ _ _ _
  refine w_gfr (r := 11) rfl rfl (Nat.le_of_ble_eq_true rfl) rfl rfl ?_
  refine w_call1 [.ref 11] [] (by omega) rfl rfl rfl rfl rfl rfl (Nat.le_of_ble_eq_true rfl) (fun _ => xrc_ok rfl) (Nat.le_of_ble_eq_true rfl) rfl rfl (s_cS_reached (by omega)) (fun r9 m10 => ?_)
  exact w_retv rfl rfl
theorem s_cL_setsWithout_24 {d : Nat} {k4 : Int → Int → Int → xm → xr} (hd : 0 ≤ d) (hk4 : ∀ (v0 v1 v3 : Int) (m : xm), xw (am_E L xs bz) d am_m157 2 4 [(0, .int (i32 v0)), (1, .long (i64 v1)), (3, .int (i32 v3))] [] m (k4 v0 v1 v3 m)) {v0 : Int} {v3 : Int} {s0 : Int} {s1 : Int} {m : xm} : xw (am_E L xs bz) d am_m157 2 24 [(0, .int (i32 v0)), (3, .int (i32 v3))] [.long (i64 s1), .long (i64 s0)] m (cL_setsWithout_24 k4 v0 v3 s0 s1 m) := by
  unfold cL_setsWithout_24
  refine w_lor rfl ?_
  refine w_letL (fun x1 => ?_)
  refine w_lstore_n (lsd := [(1, .long (i64 x1)), (0, .int (i32 v0)), (3, .int (i32 v3))]) rfl (Nat.le_of_ble_eq_true rfl) rfl ?_
  refine w_iinc (lsd := [(3, .int (i32 (v3 + 1))), (1, .long (i64 x1)), (0, .int (i32 v0))]) rfl (Nat.le_of_ble_eq_true rfl) rfl rfl ?_
  refine w_goto (tg := 4) rfl rfl ?_
  exact w_weak [(0, .int (i32 v0)), (1, .long (i64 x1)), (3, .int (i32 (v3 + 1)))] rfl ⟨rfl, rfl, rfl, trivial⟩ (hk4 v0 x1 (v3 + 1) m)
theorem s_cL_setsWithout_4 {d : Nat} (hd : 0 ≤ d) : ∀ (n : Nat) {v0 : Int} {v1 : Int} {v3 : Int} {m : xm}, xw (am_E L xs bz) d am_m157 2 4 [(0, .int (i32 v0)), (1, .long (i64 v1)), (3, .int (i32 v3))] [] m (cL_setsWithout_4 n v0 v1 v3 m) := by
  intro n
  induction n with
  | zero => intros; exact w_none
  | succ n ih =>
    intro v0 v1 v3 m
    have hk4 := fun (v0 v1 v3 : Int) (m : xm) => @ih v0 v1 v3 m
    unfold cL_setsWithout_4
    refine w_iload_n rfl rfl ?_
    refine w_bipush rfl rfl ?_
    refine w_icmp_ge (tg := 32) rfl rfl rfl rfl ?_ ?_
    · refine w_lload_n rfl rfl ?_
      exact w_retv rfl rfl
    · refine w_lload_n rfl rfl ?_
      refine w_iload_n rfl rfl ?_
      refine w_iload_n rfl rfl ?_
      refine w_iand rfl ?_
      refine w_if_ne (tg := 23) rfl rfl (w32_of _) ?_ ?_
      · refine w_lconst (z := 0) rfl rfl ?_
        exact w_weak [(0, .int (i32 v0)), (3, .int (i32 v3))] rfl ⟨rfl, rfl, trivial⟩ (s_cL_setsWithout_24 (by omega) hk4)
      · refine w_lconst (z := 1) rfl rfl ?_
        refine w_iload_n rfl rfl ?_
        refine w_lshl rfl ?_
        refine w_goto (tg := 24) rfl rfl ?_
        exact w_weak [(0, .int (i32 v0)), (3, .int (i32 v3))] rfl ⟨rfl, rfl, trivial⟩ (s_cL_setsWithout_24 (by omega) hk4)
theorem s_cL_setsWithout {d : Nat} {v0 : Int} {m : xm} (hd : 0 ≤ d) : xw (am_E L xs bz) d am_m157 2 0 [(0, .int (i32 v0))] [] m (cL_setsWithout v0 m) := by
  unfold cL_setsWithout
  refine w_lconst (z := 0) rfl rfl ?_
  refine w_lstore_n (lsd := [(1, .long (i64 0)), (0, .int (i32 v0))]) rfl (Nat.le_of_ble_eq_true rfl) rfl ?_
  refine w_iconst rfl ?_
  refine w_istore_n (lsd := [(3, .int (i32 0)), (1, .long (i64 0)), (0, .int (i32 v0))]) rfl (Nat.le_of_ble_eq_true rfl) rfl ?_
  exact w_weak [(0, .int (i32 v0)), (1, .long (i64 0)), (3, .int (i32 0))] rfl ⟨rfl, rfl, rfl, trivial⟩ (s_cL_setsWithout_4 (by omega) _)
end S03
