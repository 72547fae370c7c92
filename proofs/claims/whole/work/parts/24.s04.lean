section S04
variable {L : Nat} {xs : Nat → Int32} {bz : Bool}
theorem s_cL_forbid_151 {d : Nat} {k55 : Int → Int → Int → xm → xr} (hd : 7 ≤ d) (hk55 : ∀ (v2 v3 v5 : Int) (m : xm), xw (am_E L xs bz) d am_m156 1 55 [(0, .ref 0), (2, .int (i32 v2)), (3, .long (i64 v3)), (5, .int (i32 v5))] [] m (k55 v2 v3 v5 m)) {v2 : Int} {v3 : Int} {v5 : Int} {m : xm} : xw (am_E L xs bz) d am_m156 1 151 [(0, .ref 0), (2, .int (i32 v2)), (3, .long (i64 v3)), (5, .int (i32 v5))] [] m (cL_forbid_151 k55 v2 v3 v5 m) := by
  unfold cL_forbid_151
  refine w_iinc (lsd := [(5, .int (i32 (v5 + 1))), (0, .ref 0), (2, .int (i32 v2)), (3, .long (i64 v3))]) rfl (Nat.le_of_ble_eq_true rfl) rfl rfl ?_
  refine w_goto (tg := 55) rfl rfl ?_
  exact w_weak [(0, .ref 0), (2, .int (i32 v2)), (3, .long (i64 v3)), (5, .int (i32 (v5 + 1)))] rfl ⟨rfl, rfl, rfl, rfl, trivial⟩ (hk55 v2 v3 (v5 + 1) m)
theorem s_cL_forbid_145 {d : Nat} {k55 : Int → Int → Int → xm → xr} {k65 : Int → Int → Int → Int → xm → xr} (hd : 7 ≤ d) (hk55 : ∀ (v2 v3 v5 : Int) (m : xm), xw (am_E L xs bz) d am_m156 1 55 [(0, .ref 0), (2, .int (i32 v2)), (3, .long (i64 v3)), (5, .int (i32 v5))] [] m (k55 v2 v3 v5 m)) (hk65 : ∀ (v2 v3 v5 v6 : Int) (m : xm), xw (am_E L xs bz) d am_m156 1 65 [(0, .ref 0), (2, .int (i32 v2)), (3, .long (i64 v3)), (5, .int (i32 v5)), (6, .int (i32 v6))] [] m (k65 v2 v3 v5 v6 m)) {v2 : Int} {v3 : Int} {v5 : Int} {v6 : Int} {m : xm} : xw (am_E L xs bz) d am_m156 1 145 [(0, .ref 0), (2, .int (i32 v2)), (3, .long (i64 v3)), (5, .int (i32 v5)), (6, .int (i32 v6))] [] m (cL_forbid_145 k55 k65 v2 v3 v5 v6 m) := by
  unfold cL_forbid_145
  refine w_iinc (lsd := [(6, .int (i32 (v6 + 1))), (0, .ref 0), (2, .int (i32 v2)), (3, .long (i64 v3)), (5, .int (i32 v5))]) rfl (Nat.le_of_ble_eq_true rfl) rfl rfl ?_
  refine w_goto (tg := 65) rfl rfl ?_
  exact w_weak [(0, .ref 0), (2, .int (i32 v2)), (3, .long (i64 v3)), (5, .int (i32 v5)), (6, .int (i32 (v6 + 1)))] rfl ⟨rfl, rfl, rfl, rfl, rfl, trivial⟩ (hk65 v2 v3 v5 (v6 + 1) m)
theorem s_cL_forbid_65 {d : Nat} {k55 : Int → Int → Int → xm → xr} (hd : 7 ≤ d) (hk55 : ∀ (v2 v3 v5 : Int) (m : xm), xw (am_E L xs bz) d am_m156 1 55 [(0, .ref 0), (2, .int (i32 v2)), (3, .long (i64 v3)), (5, .int (i32 v5))] [] m (k55 v2 v3 v5 m)) : ∀ (n : Nat) {v2 : Int} {v3 : Int} {v5 : Int} {v6 : Int} {m : xm}, xw (am_E L xs bz) d am_m156 1 65 [(0, .ref 0), (2, .int (i32 v2)), (3, .long (i64 v3)), (5, .int (i32 v5)), (6, .int (i32 v6))] [] m (cL_forbid_65 k55 n v2 v3 v5 v6 m) := by
  intro n
  induction n with
  | zero => intros; exact w_none
  | succ n ih =>
    intro v2 v3 v5 v6 m
    have hk65 := fun (v2 v3 v5 v6 : Int) (m : xm) => @ih v2 v3 v5 v6 m
    unfold cL_forbid_65
    refine w_iload rfl rfl ?_
    refine w_iload_n rfl rfl ?_
    refine w_icmp_gt (tg := 151) rfl rfl rfl rfl ?_ ?_
    · exact w_weak [(0, .ref 0), (2, .int (i32 v2)), (3, .long (i64 v3)), (5, .int (i32 v5))] rfl ⟨rfl, rfl, rfl, rfl, trivial⟩ (s_cL_forbid_151 (by omega) hk55)
    · refine w_iload rfl rfl ?_
      refine w_call1 [.int (i32 v6)] [] (by omega) rfl rfl rfl rfl rfl rfl (Nat.le_of_ble_eq_true rfl) (fun z => by cases z) (Nat.le_of_ble_eq_true rfl) rfl rfl (s_j_bitCount (by omega)) (fun r1 m2 => ?_)
      refine w_iload rfl rfl ?_
      refine w_icmp_ne (tg := 145) rfl rfl rfl rfl ?_ ?_
      · exact w_weak [(0, .ref 0), (2, .int (i32 v2)), (3, .long (i64 v3)), (5, .int (i32 v5)), (6, .int (i32 v6))] rfl ⟨rfl, rfl, rfl, rfl, rfl, trivial⟩ (s_cL_forbid_145 (by omega) hk55 hk65)
      · refine w_lload_n rfl rfl ?_
        refine w_iload rfl rfl ?_
        refine w_lshr rfl ?_
        refine w_lconst (z := 1) rfl rfl ?_
        refine w_land rfl ?_
        show xw _ _ _ _ 87 _ _ _ _
        refine w_lconst (z := 1) rfl rfl ?_
        refine w_lcmp_ne (tg := 95) rfl rfl rfl (w64_of _) rfl ?_ ?_
        · refine w_aload_n rfl rfl ?_
          refine w_gfr (r := 11) rfl rfl (Nat.le_of_ble_eq_true rfl) rfl rfl ?_
          refine w_aload_n rfl rfl ?_
          refine w_gfh rfl rfl rfl rfl ?_
          refine w_aload_n rfl rfl ?_
          show xw _ _ _ _ 104 _ _ _ _
          refine w_gfr (r := 21) rfl rfl (Nat.le_of_ble_eq_true rfl) rfl rfl ?_
          refine w_call1 [.ref 21] [.ref (hl m2 12), .ref 11] (by omega) rfl rfl rfl rfl rfl rfl (Nat.le_of_ble_eq_true rfl) (fun _ => xrc_ok rfl) (Nat.le_of_ble_eq_true rfl) rfl rfl (s_cY_state (by omega)) (fun r3 m4 => ?_)
          refine w_iload_n rfl rfl ?_
          refine w_iload rfl rfl ?_
          refine w_iconst rfl ?_
          refine w_ixor rfl ?_
          show xw _ _ _ _ 115 _ _ _ _
          refine w_iand rfl ?_
          refine w_call1 [.ref 11, .ref (hl m2 12), .int (i32 r3), .int (i32 (ban v2 (bxo v6 (-1))))] [] (by omega) rfl rfl rfl rfl rfl rfl (Nat.le_of_ble_eq_true rfl) (fun _ => xrc_ok rfl) (Nat.le_of_ble_eq_true rfl) rfl rfl (s_cS_find (by omega) (hl_or _ _)) (fun r5 m6 => ?_)
          refine w_istore (lsd := [(7, .int (i32 r5)), (0, .ref 0), (2, .int (i32 v2)), (3, .long (i64 v3)), (5, .int (i32 v5)), (6, .int (i32 v6))]) rfl (Nat.le_of_ble_eq_true rfl) rfl ?_
          refine w_iload rfl rfl ?_
          refine w_iconst rfl ?_
          refine w_icmp_ne (tg := 130) rfl rfl rfl rfl ?_ ?_
          · refine w_lload_n rfl rfl ?_
            refine w_aload_n rfl rfl ?_
            refine w_gfr (r := 11) rfl rfl (Nat.le_of_ble_eq_true rfl) rfl rfl ?_
            refine w_iload rfl rfl ?_
            refine w_call1 [.ref 11, .int (i32 r5)] [.long (i64 v3)] (by omega) rfl rfl rfl rfl rfl rfl (Nat.le_of_ble_eq_true rfl) (fun _ => xrc_ok rfl) (Nat.le_of_ble_eq_true rfl) rfl rfl (s_cS_notesTo (by omega)) (fun r7 m8 => ?_)
            show xw _ _ _ _ 140 _ _ _ _
            refine w_call2 [.int (i32 r7)] [.long (i64 v3)] (by omega) rfl rfl rfl rfl rfl rfl (Nat.le_of_ble_eq_true rfl) (fun z => by cases z) (Nat.le_of_ble_eq_true rfl) rfl rfl (s_cL_setsWithout (by omega)) (fun r9 m10 => ?_)
            refine w_lor rfl ?_
            refine w_letL (fun x11 => ?_)
            refine w_lstore_n (lsd := [(3, .long (i64 x11)), (7, .int (i32 r5)), (0, .ref 0), (2, .int (i32 v2)), (5, .int (i32 v5)), (6, .int (i32 v6))]) rfl (Nat.le_of_ble_eq_true rfl) rfl ?_
            exact w_weak [(0, .ref 0), (2, .int (i32 v2)), (3, .long (i64 x11)), (5, .int (i32 v5)), (6, .int (i32 v6))] rfl ⟨rfl, rfl, rfl, rfl, rfl, trivial⟩ (s_cL_forbid_145 (by omega) hk55 hk65)
          · refine w_iload rfl rfl ?_
            exact w_retv rfl rfl
        · refine w_goto (tg := 145) rfl rfl ?_
          exact w_weak [(0, .ref 0), (2, .int (i32 v2)), (3, .long (i64 v3)), (5, .int (i32 v5)), (6, .int (i32 v6))] rfl ⟨rfl, rfl, rfl, rfl, rfl, trivial⟩ (s_cL_forbid_145 (by omega) hk55 hk65)
theorem s_cL_forbid_55 {d : Nat} (hd : 7 ≤ d) : ∀ (n : Nat) {v2 : Int} {v3 : Int} {v5 : Int} {m : xm}, xw (am_E L xs bz) d am_m156 1 55 [(0, .ref 0), (2, .int (i32 v2)), (3, .long (i64 v3)), (5, .int (i32 v5))] [] m (cL_forbid_55 n v2 v3 v5 m) := by
  intro n
  induction n with
  | zero => intros; exact w_none
  | succ n ih =>
    intro v2 v3 v5 m
    have hk55 := fun (v2 v3 v5 : Int) (m : xm) => @ih v2 v3 v5 m
    unfold cL_forbid_55
    refine w_iload rfl rfl ?_
    refine w_bipush rfl rfl ?_
    refine w_icmp_gt (tg := 157) rfl rfl rfl rfl ?_ ?_
    · refine w_iconst rfl ?_
      exact w_retv rfl rfl
    · refine w_iconst rfl ?_
      refine w_istore (lsd := [(6, .int (i32 0)), (0, .ref 0), (2, .int (i32 v2)), (3, .long (i64 v3)), (5, .int (i32 v5))]) rfl (Nat.le_of_ble_eq_true rfl) rfl ?_
      exact w_weak [(0, .ref 0), (2, .int (i32 v2)), (3, .long (i64 v3)), (5, .int (i32 v5)), (6, .int (i32 0))] rfl ⟨rfl, rfl, rfl, rfl, rfl, trivial⟩ (s_cL_forbid_65 (by omega) hk55 _)
theorem s_cL_forbid {d : Nat} {v1 : Int} {m : xm} (hd : 7 ≤ d) : xw (am_E L xs bz) d am_m156 1 0 [(0, .ref 0), (1, .int (i32 v1))] [] m (cL_forbid v1 m) := by
  unfold cL_forbid
  refine w_aload_n rfl rfl ?_
  refine w_gfh rfl rfl rfl rfl ?_
  refine w_iload_n rfl rfl ?_
  refine w_call1 [.ref (hl m 12), .int (i32 v1)] [] (by omega) rfl rfl rfl rfl rfl rfl (Nat.le_of_ble_eq_true rfl) (fun _ => xrc_ok (rcH (hl_or _ _) rfl)) (Nat.le_of_ble_eq_true rfl) rfl rfl (s_cH_areDoors (by omega) (hl_or _ _)) (fun r1 m2 => ?_)
  refine w_if_eq (tg := 31) rfl rfl rfl ?_ ?_
  · refine w_iconst rfl ?_
    exact w_retv rfl rfl
  · refine w_aload_n rfl rfl ?_
    refine w_gfh rfl rfl rfl rfl ?_
    refine w_aload_n rfl rfl ?_
    refine w_gfr (r := 21) rfl rfl (Nat.le_of_ble_eq_true rfl) rfl rfl ?_
    refine w_call1 [.ref 21] [.ref (hl m2 12)] (by omega) rfl rfl rfl rfl rfl rfl (Nat.le_of_ble_eq_true rfl) (fun _ => xrc_ok rfl) (Nat.le_of_ble_eq_true rfl) rfl rfl (s_cY_state (by omega)) (fun r3 m4 => ?_)
    show xw _ _ _ _ 22 _ _ _ _
    refine w_call1 [.ref (hl m2 12), .int (i32 r3)] [] (by omega) rfl rfl rfl rfl rfl rfl (Nat.le_of_ble_eq_true rfl) (fun _ => xrc_ok (rcH (hl_or _ _) rfl)) (Nat.le_of_ble_eq_true rfl) rfl rfl (s_cH_openDoors (by omega) (hl_or _ _)) (fun r5 m6 => ?_)
    refine w_iload_n rfl rfl ?_
    refine w_iand rfl ?_
    refine w_iload_n rfl rfl ?_
    refine w_icmp_ne (tg := 33) rfl rfl (w32_of _) rfl ?_ ?_
    · refine w_aload_n rfl rfl ?_
      refine w_gfh rfl rfl rfl rfl ?_
      refine w_iconst rfl ?_
      refine w_call1 [.ref (hl m6 12), .int (i32 1)] [] (by omega) rfl rfl rfl rfl rfl rfl (Nat.le_of_ble_eq_true rfl) (fun _ => xrc_ok (rcH (hl_or _ _) rfl)) (Nat.le_of_ble_eq_true rfl) rfl rfl (s_cH_bitsOfAll (by omega) (hl_or _ _)) (fun r7 m8 => ?_)
      refine w_istore_n (lsd := [(2, .int (i32 r7)), (0, .ref 0), (1, .int (i32 v1))]) rfl (Nat.le_of_ble_eq_true rfl) rfl ?_
      show xw _ _ _ _ 42 _ _ _ _
      refine w_aload_n rfl rfl ?_
      refine w_gfr (r := 11) rfl rfl (Nat.le_of_ble_eq_true rfl) rfl rfl ?_
      refine w_iload_n rfl rfl ?_
      refine w_call0 [.ref 11, .int (i32 v1)] [] (by omega) rfl rfl rfl rfl rfl rfl (Nat.le_of_ble_eq_true rfl) (fun _ => xrc_ok rfl) (Nat.le_of_ble_eq_true rfl) rfl rfl (s_cS_seekDoors (by omega)) (fun r9 m10 => ?_)
      refine w_lconst (z := 0) rfl rfl ?_
      refine w_lstore_n (lsd := [(3, .long (i64 0)), (2, .int (i32 r7)), (0, .ref 0), (1, .int (i32 v1))]) rfl (Nat.le_of_ble_eq_true rfl) rfl ?_
      show xw _ _ _ _ 52 _ _ _ _
      refine w_iconst rfl ?_
      refine w_istore (lsd := [(5, .int (i32 0)), (3, .long (i64 0)), (2, .int (i32 r7)), (0, .ref 0), (1, .int (i32 v1))]) rfl (Nat.le_of_ble_eq_true rfl) rfl ?_
      exact w_weak [(0, .ref 0), (2, .int (i32 r7)), (3, .long (i64 0)), (5, .int (i32 0))] rfl ⟨rfl, rfl, rfl, rfl, trivial⟩ (s_cL_forbid_55 (by omega) _)
    · refine w_iconst rfl ?_
      exact w_retv rfl rfl
theorem s_cL_share_78 {d : Nat} {k35 : Int → Int → xm → xr} (hd : 4 ≤ d) (hk35 : ∀ (v1 v2 : Int) (m : xm), xw (am_E L xs bz) d am_m158 1 35 [(0, .ref 0), (1, .int (i32 v1)), (2, .int (i32 v2))] [] m (k35 v1 v2 m)) {v1 : Int} {v2 : Int} {m : xm} : xw (am_E L xs bz) d am_m158 1 78 [(0, .ref 0), (1, .int (i32 v1)), (2, .int (i32 v2))] [] m (cL_share_78 k35 v1 v2 m) := by
  unfold cL_share_78
  refine w_iinc (lsd := [(2, .int (i32 (v2 + 1))), (0, .ref 0), (1, .int (i32 v1))]) rfl (Nat.le_of_ble_eq_true rfl) rfl rfl ?_
  refine w_goto (tg := 35) rfl rfl ?_
  exact w_weak [(0, .ref 0), (1, .int (i32 v1)), (2, .int (i32 (v2 + 1)))] rfl ⟨rfl, rfl, rfl, trivial⟩ (hk35 v1 (v2 + 1) m)
theorem s_cL_share_72 {d : Nat} {k35 : Int → Int → xm → xr} {k42 : Int → Int → Int → xm → xr} (hd : 4 ≤ d) (hk35 : ∀ (v1 v2 : Int) (m : xm), xw (am_E L xs bz) d am_m158 1 35 [(0, .ref 0), (1, .int (i32 v1)), (2, .int (i32 v2))] [] m (k35 v1 v2 m)) (hk42 : ∀ (v1 v2 v3 : Int) (m : xm), xw (am_E L xs bz) d am_m158 1 42 [(0, .ref 0), (1, .int (i32 v1)), (2, .int (i32 v2)), (3, .int (i32 v3))] [] m (k42 v1 v2 v3 m)) {v1 : Int} {v2 : Int} {v3 : Int} {m : xm} : xw (am_E L xs bz) d am_m158 1 72 [(0, .ref 0), (1, .int (i32 v1)), (2, .int (i32 v2)), (3, .int (i32 v3))] [] m (cL_share_72 k35 k42 v1 v2 v3 m) := by
  unfold cL_share_72
  refine w_iinc (lsd := [(3, .int (i32 (v3 + 1))), (0, .ref 0), (1, .int (i32 v1)), (2, .int (i32 v2))]) rfl (Nat.le_of_ble_eq_true rfl) rfl rfl ?_
  refine w_goto (tg := 42) rfl rfl ?_
  exact w_weak [(0, .ref 0), (1, .int (i32 v1)), (2, .int (i32 v2)), (3, .int (i32 (v3 + 1)))] rfl ⟨rfl, rfl, rfl, rfl, trivial⟩ (hk42 v1 v2 (v3 + 1) m)
theorem s_cL_share_42 {d : Nat} {k35 : Int → Int → xm → xr} (hd : 4 ≤ d) (hk35 : ∀ (v1 v2 : Int) (m : xm), xw (am_E L xs bz) d am_m158 1 35 [(0, .ref 0), (1, .int (i32 v1)), (2, .int (i32 v2))] [] m (k35 v1 v2 m)) : ∀ (n : Nat) {v1 : Int} {v2 : Int} {v3 : Int} {m : xm}, xw (am_E L xs bz) d am_m158 1 42 [(0, .ref 0), (1, .int (i32 v1)), (2, .int (i32 v2)), (3, .int (i32 v3))] [] m (cL_share_42 k35 n v1 v2 v3 m) := by
  intro n
  induction n with
  | zero => intros; exact w_none
  | succ n ih =>
    intro v1 v2 v3 m
    have hk42 := fun (v1 v2 v3 : Int) (m : xm) => @ih v1 v2 v3 m
    unfold cL_share_42
    refine w_iload_n rfl rfl ?_
    refine w_iload_n rfl rfl ?_
    refine w_icmp_gt (tg := 78) rfl rfl rfl rfl ?_ ?_
    · exact w_weak [(0, .ref 0), (1, .int (i32 v1)), (2, .int (i32 v2))] rfl ⟨rfl, rfl, rfl, trivial⟩ (s_cL_share_78 (by omega) hk35)
    · refine w_iload_n rfl rfl ?_
      refine w_call1 [.int (i32 v3)] [] (by omega) rfl rfl rfl rfl rfl rfl (Nat.le_of_ble_eq_true rfl) (fun z => by cases z) (Nat.le_of_ble_eq_true rfl) rfl rfl (s_j_bitCount (by omega)) (fun r1 m2 => ?_)
      refine w_iload_n rfl rfl ?_
      refine w_icmp_ne (tg := 72) rfl rfl rfl rfl ?_ ?_
      · exact w_weak [(0, .ref 0), (1, .int (i32 v1)), (2, .int (i32 v2)), (3, .int (i32 v3))] rfl ⟨rfl, rfl, rfl, rfl, trivial⟩ (s_cL_share_72 (by omega) hk35 hk42)
      · refine w_aload_n rfl rfl ?_
        refine w_gfr (r := 16) rfl rfl (Nat.le_of_ble_eq_true rfl) rfl rfl ?_
        refine w_aload_n rfl rfl ?_
        refine w_gfh rfl rfl rfl rfl ?_
        refine w_iload_n rfl rfl ?_
        show xw _ _ _ _ 64 _ _ _ _
        refine w_call1 [.ref 16, .ref (hl m2 12), .int (i32 v3)] [] (by omega) rfl rfl rfl rfl rfl rfl (Nat.le_of_ble_eq_true rfl) (fun _ => xrc_ok rfl) (Nat.le_of_ble_eq_true rfl) rfl rfl (s_cP_canBeShared (by omega) (hl_or _ _)) (fun r3 m4 => ?_)
        refine w_if_eq (tg := 72) rfl rfl rfl ?_ ?_
        · exact w_weak [(0, .ref 0), (1, .int (i32 v1)), (2, .int (i32 v2)), (3, .int (i32 v3))] rfl ⟨rfl, rfl, rfl, rfl, trivial⟩ (s_cL_share_72 (by omega) hk35 hk42)
        · refine w_iload_n rfl rfl ?_
          exact w_retv rfl rfl
theorem s_cL_share_35 {d : Nat} (hd : 4 ≤ d) : ∀ (n : Nat) {v1 : Int} {v2 : Int} {m : xm}, xw (am_E L xs bz) d am_m158 1 35 [(0, .ref 0), (1, .int (i32 v1)), (2, .int (i32 v2))] [] m (cL_share_35 n v1 v2 m) := by
  intro n
  induction n with
  | zero => intros; exact w_none
  | succ n ih =>
    intro v1 v2 m
    have hk35 := fun (v1 v2 : Int) (m : xm) => @ih v1 v2 m
    unfold cL_share_35
    refine w_iload_n rfl rfl ?_
    refine w_iconst rfl ?_
    refine w_icmp_gt (tg := 84) rfl rfl rfl rfl ?_ ?_
    · refine w_iconst rfl ?_
      exact w_retv rfl rfl
    · refine w_iconst rfl ?_
      refine w_istore_n (lsd := [(3, .int (i32 0)), (0, .ref 0), (1, .int (i32 v1)), (2, .int (i32 v2))]) rfl (Nat.le_of_ble_eq_true rfl) rfl ?_
      exact w_weak [(0, .ref 0), (1, .int (i32 v1)), (2, .int (i32 v2)), (3, .int (i32 0))] rfl ⟨rfl, rfl, rfl, rfl, trivial⟩ (s_cL_share_42 (by omega) hk35 _)
theorem s_cL_share {d : Nat} {m : xm} (hd : 4 ≤ d) : xw (am_E L xs bz) d am_m158 1 0 [(0, .ref 0)] [] m (cL_share m) := by
  unfold cL_share
  refine w_aload_n rfl rfl ?_
  refine w_gfr (r := 16) rfl rfl (Nat.le_of_ble_eq_true rfl) rfl rfl ?_
  refine w_aload_n rfl rfl ?_
  refine w_gfr (r := 1) rfl rfl (Nat.le_of_ble_eq_true rfl) rfl rfl ?_
  refine w_aload_n rfl rfl ?_
  show xw _ _ _ _ 9 _ _ _ _
  refine w_gfh rfl rfl rfl rfl ?_
  refine w_call1 [.ref 16, .ref 1, .ref (hl m 12)] [] (by omega) rfl rfl rfl rfl rfl rfl (Nat.le_of_ble_eq_true rfl) (fun _ => xrc_ok rfl) (Nat.le_of_ble_eq_true rfl) rfl rfl (s_cP_take (by omega) (hl_or _ _)) (fun r1 m2 => ?_)
  refine w_if_ne (tg := 24) rfl rfl rfl ?_ ?_
  · refine w_aload_n rfl rfl ?_
    refine w_gfh rfl rfl rfl rfl ?_
    refine w_iconst rfl ?_
    refine w_call1 [.ref (hl m2 12), .int (i32 3)] [] (by omega) rfl rfl rfl rfl rfl rfl (Nat.le_of_ble_eq_true rfl) (fun _ => xrc_ok (rcH (hl_or _ _) rfl)) (Nat.le_of_ble_eq_true rfl) rfl rfl (s_cH_bitsOfAll (by omega) (hl_or _ _)) (fun r3 m4 => ?_)
    refine w_istore_n (lsd := [(1, .int (i32 r3)), (0, .ref 0)]) rfl (Nat.le_of_ble_eq_true rfl) rfl ?_
    show xw _ _ _ _ 33 _ _ _ _
    refine w_iconst rfl ?_
    refine w_istore_n (lsd := [(2, .int (i32 0)), (1, .int (i32 r3)), (0, .ref 0)]) rfl (Nat.le_of_ble_eq_true rfl) rfl ?_
    exact w_weak [(0, .ref 0), (1, .int (i32 r3)), (2, .int (i32 0))] rfl ⟨rfl, rfl, rfl, trivial⟩ (s_cL_share_35 (by omega) _)
  · refine w_aload_n rfl rfl ?_
    refine w_iconst rfl ?_
    refine w_call1 [.ref 0, .int (i32 1)] [] (by omega) rfl rfl rfl rfl rfl rfl (Nat.le_of_ble_eq_true rfl) (fun _ => xrc_ok rfl) (Nat.le_of_ble_eq_true rfl) rfl rfl (s_cL_refuse (by omega)) (fun r5 m6 => ?_)
    exact w_retv rfl rfl
theorem s_cL_endsWith {d : Nat} {v1 : Int} {v2 : Int} {v3 : Int} {m : xm} (hd : 5 ≤ d) : xw (am_E L xs bz) d am_m160 1 0 [(0, .ref 0), (1, .int (i32 v1)), (2, .int (i32 v2)), (3, .int (i32 v3))] [] m (cL_endsWith v1 v2 v3 m) := by
  unfold cL_endsWith
  refine w_aload_n rfl rfl ?_
  refine w_gfr (r := 16) rfl rfl (Nat.le_of_ble_eq_true rfl) rfl rfl ?_
  refine w_aload_n rfl rfl ?_
  refine w_gfh rfl rfl rfl rfl ?_
  refine w_aload_n rfl rfl ?_
  show xw _ _ _ _ 9 _ _ _ _
  refine w_gfr (r := 21) rfl rfl (Nat.le_of_ble_eq_true rfl) rfl rfl ?_
  refine w_call1 [.ref 21] [.ref (hl m 12), .ref 16] (by omega) rfl rfl rfl rfl rfl rfl (Nat.le_of_ble_eq_true rfl) (fun _ => xrc_ok rfl) (Nat.le_of_ble_eq_true rfl) rfl rfl (s_cY_state (by omega)) (fun r1 m2 => ?_)
  refine w_iload_n rfl rfl ?_
  refine w_iload_n rfl rfl ?_
  refine w_call1 [.ref 16, .ref (hl m 12), .int (i32 r1), .int (i32 v1), .int (i32 v2)] [] (by omega) rfl rfl rfl rfl rfl rfl (Nat.le_of_ble_eq_true rfl) (fun _ => xrc_ok rfl) (Nat.le_of_ble_eq_true rfl) rfl rfl (s_cP_endOf (by omega) (hl_or _ _)) (fun r3 m4 => ?_)
  refine w_istore (lsd := [(4, .int (i32 r3)), (0, .ref 0), (1, .int (i32 v1)), (2, .int (i32 v2)), (3, .int (i32 v3))]) rfl (Nat.le_of_ble_eq_true rfl) rfl ?_
  show xw _ _ _ _ 22 _ _ _ _
  refine w_iload rfl rfl ?_
  refine w_iconst rfl ?_
  refine w_icmp_eq (tg := 45) rfl rfl rfl rfl ?_ ?_
  · refine w_iconst rfl ?_
    exact w_retv rfl rfl
  · refine w_aload_n rfl rfl ?_
    refine w_gfh rfl rfl rfl rfl ?_
    refine w_iload rfl rfl ?_
    refine w_call1 [.ref (hl m4 12), .int (i32 r3)] [] (by omega) rfl rfl rfl rfl rfl rfl (Nat.le_of_ble_eq_true rfl) (fun _ => xrc_ok (rcH (hl_or _ _) rfl)) (Nat.le_of_ble_eq_true rfl) rfl rfl (s_cH_openDoors (by omega) (hl_or _ _)) (fun r5 m6 => ?_)
    refine w_iload_n rfl rfl ?_
    show xw _ _ _ _ 38 _ _ _ _
    refine w_icmp_ne (tg := 45) rfl rfl rfl rfl ?_ ?_
    · refine w_iconst rfl ?_
      exact w_retv rfl rfl
    · refine w_iconst rfl ?_
      refine w_goto (tg := 46) rfl rfl ?_
      exact w_retv rfl rfl
theorem s_cL_keepFirstSlip {d : Nat} {v1 : Int} {v2 : Int} {m : xm} (hd : 1 ≤ d) : xw (am_E L xs bz) d am_m161 0 0 [(0, .ref 0), (1, .int (i32 v1)), (2, .int (i32 v2))] [] m (cL_keepFirstSlip v1 v2 m) := by
  unfold cL_keepFirstSlip
  refine w_aload_n rfl rfl ?_
  refine w_gfi rfl rfl (Nat.le_of_ble_eq_true rfl) rfl rfl ?_
  refine w_if_ne (tg := 30) rfl rfl (w32_ld _ _ _) ?_ ?_
  · exact w_retv (x := 0) rfl rfl
  · refine w_aload_n rfl rfl ?_
    refine w_gfr (r := 45) rfl rfl (Nat.le_of_ble_eq_true rfl) rfl rfl ?_
    refine w_iconst rfl ?_
    refine w_iload_n rfl rfl ?_
    refine w_call0 [.ref 45, .int (i32 0), .int (i32 v1)] [] (by omega) rfl rfl rfl rfl rfl rfl (Nat.le_of_ble_eq_true rfl) (fun z => by cases z) (Nat.le_of_ble_eq_true rfl) rfl rfl (s_cL_setCell (by omega) rfl) (fun r1 m2 => ?_)
    show xw _ _ _ _ 16 _ _ _ _
    refine w_aload_n rfl rfl ?_
    refine w_gfr (r := 45) rfl rfl (Nat.le_of_ble_eq_true rfl) rfl rfl ?_
    refine w_iconst rfl ?_
    refine w_iload_n rfl rfl ?_
    refine w_call0 [.ref 45, .int (i32 1), .int (i32 v2)] [] (by omega) rfl rfl rfl rfl rfl rfl (Nat.le_of_ble_eq_true rfl) (fun z => by cases z) (Nat.le_of_ble_eq_true rfl) rfl rfl (s_cL_setCell (by omega) rfl) (fun r3 m4 => ?_)
    refine w_aload_n rfl rfl ?_
    show xw _ _ _ _ 26 _ _ _ _
    refine w_iconst rfl ?_
    refine w_pfi rfl rfl (Nat.le_of_ble_eq_true rfl) rfl rfl rfl (fun m5 => ?_)
    exact w_retv (x := 0) rfl rfl
theorem s_cL_slip_29 {d : Nat} (hd : 6 ≤ d) {m : xm} : xw (am_E L xs bz) d am_m159 1 29 [(0, .ref 0)] [] m (cL_slip_29 m) := by
  unfold cL_slip_29
  refine w_aload_n rfl rfl ?_
  refine w_iconst rfl ?_
  refine w_call1 [.ref 0, .int (i32 1)] [] (by omega) rfl rfl rfl rfl rfl rfl (Nat.le_of_ble_eq_true rfl) (fun _ => xrc_ok rfl) (Nat.le_of_ble_eq_true rfl) rfl rfl (s_cL_refuse (by omega)) (fun r1 m2 => ?_)
  exact w_retv rfl rfl
theorem s_cL_slip_105 {d : Nat} {k44 : Int → Int → Int → xm → xr} (hd : 6 ≤ d) (hk44 : ∀ (v1 v2 v3 : Int) (m : xm), xw (am_E L xs bz) d am_m159 1 44 [(0, .ref 0), (1, .int (i32 v1)), (2, .int (i32 v2)), (3, .int (i32 v3))] [] m (k44 v1 v2 v3 m)) {v1 : Int} {v2 : Int} {v3 : Int} {m : xm} : xw (am_E L xs bz) d am_m159 1 105 [(0, .ref 0), (1, .int (i32 v1)), (2, .int (i32 v2)), (3, .int (i32 v3))] [] m (cL_slip_105 k44 v1 v2 v3 m) := by
  unfold cL_slip_105
  refine w_iinc (lsd := [(3, .int (i32 (v3 + 1))), (0, .ref 0), (1, .int (i32 v1)), (2, .int (i32 v2))]) rfl (Nat.le_of_ble_eq_true rfl) rfl rfl ?_
  refine w_goto (tg := 44) rfl rfl ?_
  exact w_weak [(0, .ref 0), (1, .int (i32 v1)), (2, .int (i32 v2)), (3, .int (i32 (v3 + 1)))] rfl ⟨rfl, rfl, rfl, rfl, trivial⟩ (hk44 v1 v2 (v3 + 1) m)
theorem s_cL_slip_99 {d : Nat} {k44 : Int → Int → Int → xm → xr} {k58 : Int → Int → Int → Int → xm → xr} (hd : 6 ≤ d) (hk44 : ∀ (v1 v2 v3 : Int) (m : xm), xw (am_E L xs bz) d am_m159 1 44 [(0, .ref 0), (1, .int (i32 v1)), (2, .int (i32 v2)), (3, .int (i32 v3))] [] m (k44 v1 v2 v3 m)) (hk58 : ∀ (v1 v2 v3 v4 : Int) (m : xm), xw (am_E L xs bz) d am_m159 1 58 [(0, .ref 0), (1, .int (i32 v1)), (2, .int (i32 v2)), (3, .int (i32 v3)), (4, .int (i32 v4))] [] m (k58 v1 v2 v3 v4 m)) {v1 : Int} {v2 : Int} {v3 : Int} {v4 : Int} {m : xm} : xw (am_E L xs bz) d am_m159 1 99 [(0, .ref 0), (1, .int (i32 v1)), (2, .int (i32 v2)), (3, .int (i32 v3)), (4, .int (i32 v4))] [] m (cL_slip_99 k44 k58 v1 v2 v3 v4 m) := by
  unfold cL_slip_99
  refine w_iinc (lsd := [(4, .int (i32 (v4 + 1))), (0, .ref 0), (1, .int (i32 v1)), (2, .int (i32 v2)), (3, .int (i32 v3))]) rfl (Nat.le_of_ble_eq_true rfl) rfl rfl ?_
  refine w_goto (tg := 58) rfl rfl ?_
  exact w_weak [(0, .ref 0), (1, .int (i32 v1)), (2, .int (i32 v2)), (3, .int (i32 v3)), (4, .int (i32 (v4 + 1)))] rfl ⟨rfl, rfl, rfl, rfl, rfl, trivial⟩ (hk58 v1 v2 v3 (v4 + 1) m)
theorem s_cL_slip_58 {d : Nat} {k44 : Int → Int → Int → xm → xr} (hd : 6 ≤ d) (hk44 : ∀ (v1 v2 v3 : Int) (m : xm), xw (am_E L xs bz) d am_m159 1 44 [(0, .ref 0), (1, .int (i32 v1)), (2, .int (i32 v2)), (3, .int (i32 v3))] [] m (k44 v1 v2 v3 m)) : ∀ (n : Nat) {v1 : Int} {v2 : Int} {v3 : Int} {v4 : Int} {m : xm}, xw (am_E L xs bz) d am_m159 1 58 [(0, .ref 0), (1, .int (i32 v1)), (2, .int (i32 v2)), (3, .int (i32 v3)), (4, .int (i32 v4))] [] m (cL_slip_58 k44 n v1 v2 v3 v4 m) := by
  intro n
  induction n with
  | zero => intros; exact w_none
  | succ n ih =>
    intro v1 v2 v3 v4 m
    have hk58 := fun (v1 v2 v3 v4 : Int) (m : xm) => @ih v1 v2 v3 v4 m
    unfold cL_slip_58
    refine w_iload rfl rfl ?_
    refine w_bipush rfl rfl ?_
    refine w_icmp_gt (tg := 105) rfl rfl rfl rfl ?_ ?_
    · exact w_weak [(0, .ref 0), (1, .int (i32 v1)), (2, .int (i32 v2)), (3, .int (i32 v3))] rfl ⟨rfl, rfl, rfl, rfl, trivial⟩ (s_cL_slip_105 (by omega) hk44)
    · refine w_iload rfl rfl ?_
      refine w_aload_n rfl rfl ?_
      refine w_gfr (r := 16) rfl rfl (Nat.le_of_ble_eq_true rfl) rfl rfl ?_
      refine w_iload_n rfl rfl ?_
      refine w_call1 [.ref 16, .int (i32 v3)] [.int (i32 v4)] (by omega) rfl rfl rfl rfl rfl rfl (Nat.le_of_ble_eq_true rfl) (fun _ => xrc_ok rfl) (Nat.le_of_ble_eq_true rfl) rfl rfl (s_cP_noteAt (by omega)) (fun r1 m2 => ?_)
      show xw _ _ _ _ 75 _ _ _ _
      refine w_icmp_eq (tg := 99) rfl rfl rfl rfl ?_ ?_
      · exact w_weak [(0, .ref 0), (1, .int (i32 v1)), (2, .int (i32 v2)), (3, .int (i32 v3)), (4, .int (i32 v4))] rfl ⟨rfl, rfl, rfl, rfl, rfl, trivial⟩ (s_cL_slip_99 (by omega) hk44 hk58)
      · refine w_aload_n rfl rfl ?_
        refine w_iload_n rfl rfl ?_
        refine w_iload rfl rfl ?_
        refine w_iload_n rfl rfl ?_
        refine w_call1 [.ref 0, .int (i32 v3), .int (i32 v4), .int (i32 v1)] [] (by omega) rfl rfl rfl rfl rfl rfl (Nat.le_of_ble_eq_true rfl) (fun _ => xrc_ok rfl) (Nat.le_of_ble_eq_true rfl) rfl rfl (s_cL_endsWith (by omega)) (fun r3 m4 => ?_)
        show xw _ _ _ _ 86 _ _ _ _
        refine w_if_eq (tg := 99) rfl rfl rfl ?_ ?_
        · exact w_weak [(0, .ref 0), (1, .int (i32 v1)), (2, .int (i32 v2)), (3, .int (i32 v3)), (4, .int (i32 v4))] rfl ⟨rfl, rfl, rfl, rfl, rfl, trivial⟩ (s_cL_slip_99 (by omega) hk44 hk58)
        · refine w_aload_n rfl rfl ?_
          refine w_iload_n rfl rfl ?_
          refine w_iload rfl rfl ?_
          refine w_call0 [.ref 0, .int (i32 v3), .int (i32 v4)] [] (by omega) rfl rfl rfl rfl rfl rfl (Nat.le_of_ble_eq_true rfl) (fun _ => xrc_ok rfl) (Nat.le_of_ble_eq_true rfl) rfl rfl (s_cL_keepFirstSlip (by omega)) (fun r5 m6 => ?_)
          refine w_iinc (lsd := [(2, .int (i32 (v2 + 1))), (0, .ref 0), (1, .int (i32 v1)), (3, .int (i32 v3)), (4, .int (i32 v4))]) rfl (Nat.le_of_ble_eq_true rfl) rfl rfl ?_
          exact w_weak [(0, .ref 0), (1, .int (i32 v1)), (2, .int (i32 (v2 + 1))), (3, .int (i32 v3)), (4, .int (i32 v4))] rfl ⟨rfl, rfl, rfl, rfl, rfl, trivial⟩ (s_cL_slip_99 (by omega) hk44 hk58)
theorem s_cL_slip_44 {d : Nat} (hd : 6 ≤ d) : ∀ (n : Nat) {v1 : Int} {v2 : Int} {v3 : Int} {m : xm}, xw (am_E L xs bz) d am_m159 1 44 [(0, .ref 0), (1, .int (i32 v1)), (2, .int (i32 v2)), (3, .int (i32 v3))] [] m (cL_slip_44 n v1 v2 v3 m) := by
  intro n
  induction n with
  | zero => intros; exact w_none
  | succ n ih =>
    intro v1 v2 v3 m
    have hk44 := fun (v1 v2 v3 : Int) (m : xm) => @ih v1 v2 v3 m
    unfold cL_slip_44
    refine w_iload_n rfl rfl ?_
    refine w_aload_n rfl rfl ?_
    refine w_gfr (r := 16) rfl rfl (Nat.le_of_ble_eq_true rfl) rfl rfl ?_
    refine w_call1 [.ref 16] [.int (i32 v3)] (by omega) rfl rfl rfl rfl rfl rfl (Nat.le_of_ble_eq_true rfl) (fun _ => xrc_ok rfl) (Nat.le_of_ble_eq_true rfl) rfl rfl (s_cP_length (by omega)) (fun r1 m2 => ?_)
    refine w_icmp_ge (tg := 111) rfl rfl rfl rfl ?_ ?_
    · refine w_iload_n rfl rfl ?_
      exact w_retv rfl rfl
    · refine w_iconst rfl ?_
      refine w_istore (lsd := [(4, .int (i32 0)), (0, .ref 0), (1, .int (i32 v1)), (2, .int (i32 v2)), (3, .int (i32 v3))]) rfl (Nat.le_of_ble_eq_true rfl) rfl ?_
      exact w_weak [(0, .ref 0), (1, .int (i32 v1)), (2, .int (i32 v2)), (3, .int (i32 v3)), (4, .int (i32 0))] rfl ⟨rfl, rfl, rfl, rfl, rfl, trivial⟩ (s_cL_slip_58 (by omega) hk44 _)
theorem s_cL_slip {d : Nat} {v1 : Int} {m : xm} (hd : 6 ≤ d) : xw (am_E L xs bz) d am_m159 1 0 [(0, .ref 0), (1, .int (i32 v1))] [] m (cL_slip v1 m) := by
  unfold cL_slip
  refine w_aload_n rfl rfl ?_
  refine w_gfr (r := 16) rfl rfl (Nat.le_of_ble_eq_true rfl) rfl rfl ?_
  refine w_aload_n rfl rfl ?_
  refine w_gfr (r := 1) rfl rfl (Nat.le_of_ble_eq_true rfl) rfl rfl ?_
  refine w_aload_n rfl rfl ?_
  show xw _ _ _ _ 9 _ _ _ _
  refine w_gfh rfl rfl rfl rfl ?_
  refine w_call1 [.ref 16, .ref 1, .ref (hl m 12)] [] (by omega) rfl rfl rfl rfl rfl rfl (Nat.le_of_ble_eq_true rfl) (fun _ => xrc_ok rfl) (Nat.le_of_ble_eq_true rfl) rfl rfl (s_cP_take (by omega) (hl_or _ _)) (fun r1 m2 => ?_)
  refine w_if_eq (tg := 29) rfl rfl rfl ?_ ?_
  · exact w_weak [(0, .ref 0)] rfl ⟨rfl, trivial⟩ (s_cL_slip_29 (by omega))
  · refine w_aload_n rfl rfl ?_
    refine w_gfh rfl rfl rfl rfl ?_
    refine w_iload_n rfl rfl ?_
    refine w_call1 [.ref (hl m2 12), .int (i32 v1)] [] (by omega) rfl rfl rfl rfl rfl rfl (Nat.le_of_ble_eq_true rfl) (fun _ => xrc_ok (rcH (hl_or _ _) rfl)) (Nat.le_of_ble_eq_true rfl) rfl rfl (s_cH_areDoors (by omega) (hl_or _ _)) (fun r3 m4 => ?_)
    refine w_if_ne (tg := 35) rfl rfl rfl ?_ ?_
    · refine w_aload_n rfl rfl ?_
      refine w_iconst rfl ?_
      refine w_pfi rfl rfl (Nat.le_of_ble_eq_true rfl) rfl rfl rfl (fun m5 => ?_)
      refine w_iconst rfl ?_
      refine w_istore_n (lsd := [(2, .int (i32 0)), (0, .ref 0), (1, .int (i32 v1))]) rfl (Nat.le_of_ble_eq_true rfl) rfl ?_
      show xw _ _ _ _ 42 _ _ _ _
      refine w_iconst rfl ?_
      refine w_istore_n (lsd := [(3, .int (i32 0)), (2, .int (i32 0)), (0, .ref 0), (1, .int (i32 v1))]) rfl (Nat.le_of_ble_eq_true rfl) rfl ?_
      exact w_weak [(0, .ref 0), (1, .int (i32 v1)), (2, .int (i32 0)), (3, .int (i32 0))] rfl ⟨rfl, rfl, rfl, rfl, trivial⟩ (s_cL_slip_44 (by omega) _)
    · exact w_weak [(0, .ref 0)] rfl ⟨rfl, trivial⟩ (s_cL_slip_29 (by omega))
theorem s_cL_slipped {d : Nat} {v1 : Int} {m : xm} (hd : 1 ≤ d) : xw (am_E L xs bz) d am_m162 1 0 [(0, .ref 0), (1, .int (i32 v1))] [] m (cL_slipped v1 m) := by
  unfold cL_slipped
  refine w_aload_n rfl rfl ?_
  refine w_gfi rfl rfl (Nat.le_of_ble_eq_true rfl) rfl rfl ?_
  refine w_if_eq (tg := 27) rfl rfl (w32_ld _ _ _) ?_ ?_
  · refine w_iconst rfl ?_
    exact w_retv rfl rfl
  · refine w_iload_n rfl rfl ?_
    refine w_if_lt (tg := 27) rfl rfl rfl ?_ ?_
    · refine w_iconst rfl ?_
      exact w_retv rfl rfl
    · refine w_iload_n rfl rfl ?_
      refine w_iconst rfl ?_
      refine w_icmp_ge (tg := 27) rfl rfl rfl rfl ?_ ?_
      · refine w_iconst rfl ?_
        exact w_retv rfl rfl
      · refine w_aload_n rfl rfl ?_
        refine w_gfr (r := 45) rfl rfl (Nat.le_of_ble_eq_true rfl) rfl rfl ?_
        refine w_iload_n rfl rfl ?_
        refine w_call1 [.ref 45, .int (i32 v1)] [] (by omega) rfl rfl rfl rfl rfl rfl (Nat.le_of_ble_eq_true rfl) (fun z => by cases z) (Nat.le_of_ble_eq_true rfl) rfl rfl (s_cL_cell (by omega) rfl) (fun r1 m2 => ?_)
        refine w_goto (tg := 28) rfl rfl ?_
        show xw _ _ _ _ 28 _ _ _ _
        exact w_retv rfl rfl
theorem s_cL_hear {d : Nat} {m : xm} (hd : 5 ≤ d) : xw (am_E L xs bz) d am_m163 1 0 [(0, .ref 0)] [] m (cL_hear m) := by
  unfold cL_hear
  refine w_aload_n rfl rfl ?_
  refine w_gfr (r := 18) rfl rfl (Nat.le_of_ble_eq_true rfl) rfl rfl ?_
  refine w_aload_n rfl rfl ?_
  refine w_gfr (r := 1) rfl rfl (Nat.le_of_ble_eq_true rfl) rfl rfl ?_
  refine w_aload_n rfl rfl ?_
  show xw _ _ _ _ 9 _ _ _ _
  refine w_gfh rfl rfl rfl rfl ?_
  refine w_call1 [.ref 18, .ref 1, .ref (hl m 12)] [] (by omega) rfl rfl rfl rfl rfl rfl (Nat.le_of_ble_eq_true rfl) (fun _ => xrc_ok rfl) (Nat.le_of_ble_eq_true rfl) rfl rfl (s_cE_take (by omega) (hl_or _ _)) (fun r1 m2 => ?_)
  refine w_if_eq (tg := 28) rfl rfl rfl ?_ ?_
  · refine w_aload_n rfl rfl ?_
    refine w_iconst rfl ?_
    refine w_call1 [.ref 0, .int (i32 1)] [] (by omega) rfl rfl rfl rfl rfl rfl (Nat.le_of_ble_eq_true rfl) (fun _ => xrc_ok rfl) (Nat.le_of_ble_eq_true rfl) rfl rfl (s_cL_refuse (by omega)) (fun r3 m4 => ?_)
    exact w_retv rfl rfl
  · refine w_aload_n rfl rfl ?_
    refine w_gfr (r := 18) rfl rfl (Nat.le_of_ble_eq_true rfl) rfl rfl ?_
    refine w_call1 [.ref 18] [] (by omega) rfl rfl rfl rfl rfl rfl (Nat.le_of_ble_eq_true rfl) (fun _ => xrc_ok rfl) (Nat.le_of_ble_eq_true rfl) rfl rfl (s_cE_rows (by omega)) (fun r5 m6 => ?_)
    refine w_goto (tg := 33) rfl rfl ?_
    exact w_retv rfl rfl
theorem s_cL_starts_92 {d : Nat} (hd : 6 ≤ d) {v1 : Int} {v2 : Int} {v3 : Int} {v4 : Int} {m : xm} : xw (am_E L xs bz) d am_m164 1 92 [(1, .int (i32 v1)), (2, .int (i32 v2)), (3, .int (i32 v3)), (4, .int (i32 v4))] [] m (cL_starts_92 v1 v2 v3 v4 m) := by
  unfold cL_starts_92
  refine w_iload_n rfl rfl ?_
  refine w_if_ne (tg := 98) rfl rfl rfl ?_ ?_
  · refine w_iload_n rfl rfl ?_
    refine w_iconst rfl ?_
    refine w_icmp_ne (tg := 107) rfl rfl rfl rfl ?_ ?_
    · refine w_iload rfl rfl ?_
      exact w_retv rfl rfl
    · refine w_iload_n rfl rfl ?_
      refine w_goto (tg := 109) rfl rfl ?_
      exact w_retv rfl rfl
  · refine w_iload_n rfl rfl ?_
    exact w_retv rfl rfl
theorem s_cL_starts_86 {d : Nat} {k31 : Int → Int → Int → Int → Int → xm → xr} (hd : 6 ≤ d) (hk31 : ∀ (v1 v2 v3 v4 v5 : Int) (m : xm), xw (am_E L xs bz) d am_m164 1 31 [(0, .ref 0), (1, .int (i32 v1)), (2, .int (i32 v2)), (3, .int (i32 v3)), (4, .int (i32 v4)), (5, .int (i32 v5))] [] m (k31 v1 v2 v3 v4 v5 m)) {v1 : Int} {v2 : Int} {v3 : Int} {v4 : Int} {v5 : Int} {m : xm} : xw (am_E L xs bz) d am_m164 1 86 [(0, .ref 0), (1, .int (i32 v1)), (2, .int (i32 v2)), (3, .int (i32 v3)), (4, .int (i32 v4)), (5, .int (i32 v5))] [] m (cL_starts_86 k31 v1 v2 v3 v4 v5 m) := by
  unfold cL_starts_86
  refine w_iinc (lsd := [(5, .int (i32 (v5 + 1))), (0, .ref 0), (1, .int (i32 v1)), (2, .int (i32 v2)), (3, .int (i32 v3)), (4, .int (i32 v4))]) rfl (Nat.le_of_ble_eq_true rfl) rfl rfl ?_
  refine w_goto (tg := 31) rfl rfl ?_
  exact w_weak [(0, .ref 0), (1, .int (i32 v1)), (2, .int (i32 v2)), (3, .int (i32 v3)), (4, .int (i32 v4)), (5, .int (i32 (v5 + 1)))] rfl ⟨rfl, rfl, rfl, rfl, rfl, rfl, trivial⟩ (hk31 v1 v2 v3 v4 (v5 + 1) m)
theorem s_cL_starts_81 {d : Nat} {k31 : Int → Int → Int → Int → Int → xm → xr} (hd : 6 ≤ d) (hk31 : ∀ (v1 v2 v3 v4 v5 : Int) (m : xm), xw (am_E L xs bz) d am_m164 1 31 [(0, .ref 0), (1, .int (i32 v1)), (2, .int (i32 v2)), (3, .int (i32 v3)), (4, .int (i32 v4)), (5, .int (i32 v5))] [] m (k31 v1 v2 v3 v4 v5 m)) {v1 : Int} {v2 : Int} {v5 : Int} {s0 : Int} {m : xm} : xw (am_E L xs bz) d am_m164 1 81 [(0, .ref 0), (1, .int (i32 v1)), (2, .int (i32 v2)), (5, .int (i32 v5))] [.int (i32 s0)] m (cL_starts_81 k31 v1 v2 v5 s0 m) := by
  unfold cL_starts_81
  refine w_letI (fun x1 => ?_)
  refine w_istore_n (lsd := [(3, .int (i32 x1)), (0, .ref 0), (1, .int (i32 v1)), (2, .int (i32 v2)), (5, .int (i32 v5))]) rfl (Nat.le_of_ble_eq_true rfl) rfl ?_
  refine w_iload rfl rfl ?_
  refine w_istore (lsd := [(4, .int (i32 v5)), (3, .int (i32 x1)), (0, .ref 0), (1, .int (i32 v1)), (2, .int (i32 v2)), (5, .int (i32 v5))]) rfl (Nat.le_of_ble_eq_true rfl) rfl ?_
  exact w_weak [(0, .ref 0), (1, .int (i32 v1)), (2, .int (i32 v2)), (3, .int (i32 x1)), (4, .int (i32 v5)), (5, .int (i32 v5))] rfl ⟨rfl, rfl, rfl, rfl, rfl, rfl, trivial⟩ (s_cL_starts_86 (by omega) hk31)
theorem s_cL_starts_31 {d : Nat} (hd : 6 ≤ d) : ∀ (n : Nat) {v1 : Int} {v2 : Int} {v3 : Int} {v4 : Int} {v5 : Int} {m : xm}, xw (am_E L xs bz) d am_m164 1 31 [(0, .ref 0), (1, .int (i32 v1)), (2, .int (i32 v2)), (3, .int (i32 v3)), (4, .int (i32 v4)), (5, .int (i32 v5))] [] m (cL_starts_31 n v1 v2 v3 v4 v5 m) := by
  intro n
  induction n with
  | zero => intros; exact w_none
  | succ n ih =>
    intro v1 v2 v3 v4 v5 m
    have hk31 := fun (v1 v2 v3 v4 v5 : Int) (m : xm) => @ih v1 v2 v3 v4 v5 m
    unfold cL_starts_31
    refine w_iload rfl rfl ?_
    refine w_aload_n rfl rfl ?_
    refine w_gfh rfl rfl rfl rfl ?_
    refine w_call1 [.ref (hl m 12)] [.int (i32 v5)] (by omega) rfl rfl rfl rfl rfl rfl (Nat.le_of_ble_eq_true rfl) (fun _ => xrc_ok (rcH (hl_or _ _) rfl)) (Nat.le_of_ble_eq_true rfl) rfl rfl (s_cH_ways (by omega) (hl_or _ _)) (fun r1 m2 => ?_)
    refine w_icmp_ge (tg := 92) rfl rfl rfl rfl ?_ ?_
    · exact w_weak [(1, .int (i32 v1)), (2, .int (i32 v2)), (3, .int (i32 v3)), (4, .int (i32 v4))] rfl ⟨rfl, rfl, rfl, rfl, trivial⟩ (s_cL_starts_92 (by omega))
    · refine w_iload rfl rfl ?_
      refine w_sipush rfl rfl ?_
      refine w_icmp_ge (tg := 92) rfl rfl rfl rfl ?_ ?_
      · exact w_weak [(1, .int (i32 v1)), (2, .int (i32 v2)), (3, .int (i32 v3)), (4, .int (i32 v4))] rfl ⟨rfl, rfl, rfl, rfl, trivial⟩ (s_cL_starts_92 (by omega))
      · refine w_aload_n rfl rfl ?_
        refine w_gfr (r := 18) rfl rfl (Nat.le_of_ble_eq_true rfl) rfl rfl ?_
        refine w_aload_n rfl rfl ?_
        refine w_gfh rfl rfl rfl rfl ?_
        refine w_iload rfl rfl ?_
        show xw _ _ _ _ 61 _ _ _ _
        refine w_call1 [.ref 18, .ref (hl m2 12), .int (i32 v5)] [] (by omega) rfl rfl rfl rfl rfl rfl (Nat.le_of_ble_eq_true rfl) (fun _ => xrc_ok rfl) (Nat.le_of_ble_eq_true rfl) rfl rfl (s_cE_fits (by omega) (hl_or _ _)) (fun r3 m4 => ?_)
        refine w_if_eq (tg := 86) rfl rfl rfl ?_ ?_
        · exact w_weak [(0, .ref 0), (1, .int (i32 v1)), (2, .int (i32 v2)), (3, .int (i32 v3)), (4, .int (i32 v4)), (5, .int (i32 v5))] rfl ⟨rfl, rfl, rfl, rfl, rfl, rfl, trivial⟩ (s_cL_starts_86 (by omega) hk31)
        · refine w_iinc (lsd := [(2, .int (i32 (v2 + 1))), (0, .ref 0), (1, .int (i32 v1)), (3, .int (i32 v3)), (4, .int (i32 v4)), (5, .int (i32 v5))]) rfl (Nat.le_of_ble_eq_true rfl) rfl rfl ?_
          refine w_iload_n rfl rfl ?_
          refine w_iconst rfl ?_
          refine w_icmp_ne (tg := 80) rfl rfl rfl rfl ?_ ?_
          · refine w_iload_n rfl rfl ?_
            exact w_weak [(0, .ref 0), (1, .int (i32 v1)), (2, .int (i32 (v2 + 1))), (5, .int (i32 v5))] rfl ⟨rfl, rfl, rfl, rfl, trivial⟩ (s_cL_starts_81 (by omega) hk31)
          · refine w_iload rfl rfl ?_
            refine w_goto (tg := 81) rfl rfl ?_
            exact w_weak [(0, .ref 0), (1, .int (i32 v1)), (2, .int (i32 (v2 + 1))), (5, .int (i32 v5))] rfl ⟨rfl, rfl, rfl, rfl, trivial⟩ (s_cL_starts_81 (by omega) hk31)
theorem s_cL_starts {d : Nat} {v1 : Int} {m : xm} (hd : 6 ≤ d) : xw (am_E L xs bz) d am_m164 1 0 [(0, .ref 0), (1, .int (i32 v1))] [] m (cL_starts v1 m) := by
  unfold cL_starts
  refine w_aload_n rfl rfl ?_
  refine w_gfr (r := 18) rfl rfl (Nat.le_of_ble_eq_true rfl) rfl rfl ?_
  refine w_call1 [.ref 18] [] (by omega) rfl rfl rfl rfl rfl rfl (Nat.le_of_ble_eq_true rfl) (fun _ => xrc_ok rfl) (Nat.le_of_ble_eq_true rfl) rfl rfl (s_cE_rows (by omega)) (fun r1 m2 => ?_)
  refine w_if_eq (tg := 19) rfl rfl rfl ?_ ?_
  · refine w_iconst rfl ?_
    exact w_retv rfl rfl
  · refine w_iload_n rfl rfl ?_
    refine w_if_lt (tg := 19) rfl rfl rfl ?_ ?_
    · refine w_iconst rfl ?_
      exact w_retv rfl rfl
    · refine w_iload_n rfl rfl ?_
      refine w_iconst rfl ?_
      refine w_icmp_le (tg := 21) rfl rfl rfl rfl ?_ ?_
      · refine w_iconst rfl ?_
        refine w_istore_n (lsd := [(2, .int (i32 0)), (0, .ref 0), (1, .int (i32 v1))]) rfl (Nat.le_of_ble_eq_true rfl) rfl ?_
        refine w_iconst rfl ?_
        refine w_istore_n (lsd := [(3, .int (i32 (-1))), (2, .int (i32 0)), (0, .ref 0), (1, .int (i32 v1))]) rfl (Nat.le_of_ble_eq_true rfl) rfl ?_
        refine w_iconst rfl ?_
        show xw _ _ _ _ 26 _ _ _ _
        refine w_istore (lsd := [(4, .int (i32 (-1))), (3, .int (i32 (-1))), (2, .int (i32 0)), (0, .ref 0), (1, .int (i32 v1))]) rfl (Nat.le_of_ble_eq_true rfl) rfl ?_
        refine w_iconst rfl ?_
        refine w_istore (lsd := [(5, .int (i32 0)), (4, .int (i32 (-1))), (3, .int (i32 (-1))), (2, .int (i32 0)), (0, .ref 0), (1, .int (i32 v1))]) rfl (Nat.le_of_ble_eq_true rfl) rfl ?_
        exact w_weak [(0, .ref 0), (1, .int (i32 v1)), (2, .int (i32 0)), (3, .int (i32 (-1))), (4, .int (i32 (-1))), (5, .int (i32 0))] rfl ⟨rfl, rfl, rfl, rfl, rfl, rfl, trivial⟩ (s_cL_starts_31 (by omega) _)
      · refine w_iconst rfl ?_
        exact w_retv rfl rfl
theorem s_cL_hangs_110 {d : Nat} {k27 : Int → Int → Int → Int → xm → xr} (hd : 5 ≤ d) (hk27 : ∀ (v1 v2 v3 v4 : Int) (m : xm), xw (am_E L xs bz) d am_m165 1 27 [(0, .ref 0), (1, .int (i32 v1)), (2, .int (i32 v2)), (3, .int (i32 v3)), (4, .int (i32 v4))] [] m (k27 v1 v2 v3 v4 m)) {v1 : Int} {v2 : Int} {v3 : Int} {v4 : Int} {m : xm} : xw (am_E L xs bz) d am_m165 1 110 [(0, .ref 0), (1, .int (i32 v1)), (2, .int (i32 v2)), (3, .int (i32 v3)), (4, .int (i32 v4))] [] m (cL_hangs_110 k27 v1 v2 v3 v4 m) := by
  unfold cL_hangs_110
  refine w_iinc (lsd := [(4, .int (i32 (v4 + 1))), (0, .ref 0), (1, .int (i32 v1)), (2, .int (i32 v2)), (3, .int (i32 v3))]) rfl (Nat.le_of_ble_eq_true rfl) rfl rfl ?_
  refine w_goto (tg := 27) rfl rfl ?_
  exact w_weak [(0, .ref 0), (1, .int (i32 v1)), (2, .int (i32 v2)), (3, .int (i32 v3)), (4, .int (i32 (v4 + 1)))] rfl ⟨rfl, rfl, rfl, rfl, rfl, trivial⟩ (hk27 v1 v2 v3 (v4 + 1) m)
theorem s_cL_hangs_104 {d : Nat} {k27 : Int → Int → Int → Int → xm → xr} {k43 : Int → Int → Int → Int → Int → xm → xr} (hd : 5 ≤ d) (hk27 : ∀ (v1 v2 v3 v4 : Int) (m : xm), xw (am_E L xs bz) d am_m165 1 27 [(0, .ref 0), (1, .int (i32 v1)), (2, .int (i32 v2)), (3, .int (i32 v3)), (4, .int (i32 v4))] [] m (k27 v1 v2 v3 v4 m)) (hk43 : ∀ (v1 v2 v3 v4 v5 : Int) (m : xm), xw (am_E L xs bz) d am_m165 1 43 [(0, .ref 0), (1, .int (i32 v1)), (2, .int (i32 v2)), (3, .int (i32 v3)), (4, .int (i32 v4)), (5, .int (i32 v5))] [] m (k43 v1 v2 v3 v4 v5 m)) {v1 : Int} {v2 : Int} {v3 : Int} {v4 : Int} {v5 : Int} {m : xm} : xw (am_E L xs bz) d am_m165 1 104 [(0, .ref 0), (1, .int (i32 v1)), (2, .int (i32 v2)), (3, .int (i32 v3)), (4, .int (i32 v4)), (5, .int (i32 v5))] [] m (cL_hangs_104 k27 k43 v1 v2 v3 v4 v5 m) := by
  unfold cL_hangs_104
  refine w_iinc (lsd := [(5, .int (i32 (v5 + 1))), (0, .ref 0), (1, .int (i32 v1)), (2, .int (i32 v2)), (3, .int (i32 v3)), (4, .int (i32 v4))]) rfl (Nat.le_of_ble_eq_true rfl) rfl rfl ?_
  refine w_goto (tg := 43) rfl rfl ?_
  exact w_weak [(0, .ref 0), (1, .int (i32 v1)), (2, .int (i32 v2)), (3, .int (i32 v3)), (4, .int (i32 v4)), (5, .int (i32 (v5 + 1)))] rfl ⟨rfl, rfl, rfl, rfl, rfl, rfl, trivial⟩ (hk43 v1 v2 v3 v4 (v5 + 1) m)
theorem s_cL_hangs_43 {d : Nat} {k27 : Int → Int → Int → Int → xm → xr} (hd : 5 ≤ d) (hk27 : ∀ (v1 v2 v3 v4 : Int) (m : xm), xw (am_E L xs bz) d am_m165 1 27 [(0, .ref 0), (1, .int (i32 v1)), (2, .int (i32 v2)), (3, .int (i32 v3)), (4, .int (i32 v4))] [] m (k27 v1 v2 v3 v4 m)) : ∀ (n : Nat) {v1 : Int} {v2 : Int} {v3 : Int} {v4 : Int} {v5 : Int} {m : xm}, xw (am_E L xs bz) d am_m165 1 43 [(0, .ref 0), (1, .int (i32 v1)), (2, .int (i32 v2)), (3, .int (i32 v3)), (4, .int (i32 v4)), (5, .int (i32 v5))] [] m (cL_hangs_43 k27 n v1 v2 v3 v4 v5 m) := by
  intro n
  induction n with
  | zero => intros; exact w_none
  | succ n ih =>
    intro v1 v2 v3 v4 v5 m
    have hk43 := fun (v1 v2 v3 v4 v5 : Int) (m : xm) => @ih v1 v2 v3 v4 v5 m
    unfold cL_hangs_43
    refine w_iload rfl rfl ?_
    refine w_aload_n rfl rfl ?_
    refine w_gfh rfl rfl rfl rfl ?_
    refine w_iload rfl rfl ?_
    refine w_call1 [.ref (hl m 12), .int (i32 v4)] [.int (i32 v5)] (by omega) rfl rfl rfl rfl rfl rfl (Nat.le_of_ble_eq_true rfl) (fun _ => xrc_ok (rcH (hl_or _ _) rfl)) (Nat.le_of_ble_eq_true rfl) rfl rfl (s_cH_wardsOf (by omega) (hl_or _ _)) (fun r1 m2 => ?_)
    show xw _ _ _ _ 54 _ _ _ _
    refine w_icmp_ge (tg := 110) rfl rfl rfl rfl ?_ ?_
    · exact w_weak [(0, .ref 0), (1, .int (i32 v1)), (2, .int (i32 v2)), (3, .int (i32 v3)), (4, .int (i32 v4))] rfl ⟨rfl, rfl, rfl, rfl, rfl, trivial⟩ (s_cL_hangs_110 (by omega) hk27)
    · refine w_aload_n rfl rfl ?_
      refine w_gfh rfl rfl rfl rfl ?_
      refine w_aload_n rfl rfl ?_
      refine w_gfh rfl rfl rfl rfl ?_
      refine w_iload_n rfl rfl ?_
      show xw _ _ _ _ 66 _ _ _ _
      refine w_iload rfl rfl ?_
      refine w_iload rfl rfl ?_
      refine w_call1 [.ref (hl m2 12), .int (i32 v3), .int (i32 v4), .int (i32 v5)] [.ref (hl m2 12)] (by omega) rfl rfl rfl rfl rfl rfl (Nat.le_of_ble_eq_true rfl) (fun _ => xrc_ok (rcH (hl_or _ _) rfl)) (Nat.le_of_ble_eq_true rfl) rfl rfl (s_cH_withWard (by omega) (hl_or _ _)) (fun r3 m4 => ?_)
      refine w_call1 [.ref (hl m2 12), .int (i32 r3)] [] (by omega) rfl rfl rfl rfl rfl rfl (Nat.le_of_ble_eq_true rfl) (fun _ => xrc_ok (rcH (hl_or _ _) rfl)) (Nat.le_of_ble_eq_true rfl) rfl rfl (s_cH_openDoors (by omega) (hl_or _ _)) (fun r5 m6 => ?_)
      refine w_istore (lsd := [(6, .int (i32 r5)), (0, .ref 0), (1, .int (i32 v1)), (2, .int (i32 v2)), (3, .int (i32 v3)), (4, .int (i32 v4)), (5, .int (i32 v5))]) rfl (Nat.le_of_ble_eq_true rfl) rfl ?_
      refine w_iload rfl rfl ?_
      show xw _ _ _ _ 80 _ _ _ _
      refine w_aload_n rfl rfl ?_
      refine w_gfh rfl rfl rfl rfl ?_
      refine w_iload_n rfl rfl ?_
      refine w_call1 [.ref (hl m6 12), .int (i32 v3)] [.int (i32 r5)] (by omega) rfl rfl rfl rfl rfl rfl (Nat.le_of_ble_eq_true rfl) (fun _ => xrc_ok (rcH (hl_or _ _) rfl)) (Nat.le_of_ble_eq_true rfl) rfl rfl (s_cH_openDoors (by omega) (hl_or _ _)) (fun r7 m8 => ?_)
      refine w_ixor rfl ?_
      refine w_iload_n rfl rfl ?_
      show xw _ _ _ _ 90 _ _ _ _
      refine w_ishr rfl ?_
      refine w_iconst rfl ?_
      refine w_iand rfl ?_
      refine w_iconst rfl ?_
      refine w_icmp_ne (tg := 104) rfl rfl (w32_of _) rfl ?_ ?_
      · exact w_weak [(0, .ref 0), (1, .int (i32 v1)), (2, .int (i32 v2)), (3, .int (i32 v3)), (4, .int (i32 v4)), (5, .int (i32 v5))] rfl ⟨rfl, rfl, rfl, rfl, rfl, rfl, trivial⟩ (s_cL_hangs_104 (by omega) hk27 hk43)
      · refine w_iload_n rfl rfl ?_
        refine w_iconst rfl ?_
        refine w_iload rfl rfl ?_
        refine w_ishl rfl ?_
        refine w_ior rfl ?_
        show xw _ _ _ _ 103 _ _ _ _
        refine w_letI (fun x9 => ?_)
        refine w_istore_n (lsd := [(2, .int (i32 x9)), (6, .int (i32 r5)), (0, .ref 0), (1, .int (i32 v1)), (3, .int (i32 v3)), (4, .int (i32 v4)), (5, .int (i32 v5))]) rfl (Nat.le_of_ble_eq_true rfl) rfl ?_
        exact w_weak [(0, .ref 0), (1, .int (i32 v1)), (2, .int (i32 x9)), (3, .int (i32 v3)), (4, .int (i32 v4)), (5, .int (i32 v5))] rfl ⟨rfl, rfl, rfl, rfl, rfl, rfl, trivial⟩ (s_cL_hangs_104 (by omega) hk27 hk43)
theorem s_cL_hangs_27 {d : Nat} (hd : 5 ≤ d) : ∀ (n : Nat) {v1 : Int} {v2 : Int} {v3 : Int} {v4 : Int} {m : xm}, xw (am_E L xs bz) d am_m165 1 27 [(0, .ref 0), (1, .int (i32 v1)), (2, .int (i32 v2)), (3, .int (i32 v3)), (4, .int (i32 v4))] [] m (cL_hangs_27 n v1 v2 v3 v4 m) := by
  intro n
  induction n with
  | zero => intros; exact w_none
  | succ n ih =>
    intro v1 v2 v3 v4 m
    have hk27 := fun (v1 v2 v3 v4 : Int) (m : xm) => @ih v1 v2 v3 v4 m
    unfold cL_hangs_27
    refine w_iload rfl rfl ?_
    refine w_aload_n rfl rfl ?_
    refine w_gfh rfl rfl rfl rfl ?_
    refine w_iconst rfl ?_
    refine w_call1 [.ref (hl m 12), .int (i32 0)] [.int (i32 v4)] (by omega) rfl rfl rfl rfl rfl rfl (Nat.le_of_ble_eq_true rfl) (fun _ => xrc_ok (rcH (hl_or _ _) rfl)) (Nat.le_of_ble_eq_true rfl) rfl rfl (s_cH_count (by omega) (hl_or _ _)) (fun r1 m2 => ?_)
    show xw _ _ _ _ 37 _ _ _ _
    refine w_icmp_ge (tg := 116) rfl rfl rfl rfl ?_ ?_
    · refine w_iload_n rfl rfl ?_
      exact w_retv rfl rfl
    · refine w_iconst rfl ?_
      refine w_istore (lsd := [(5, .int (i32 0)), (0, .ref 0), (1, .int (i32 v1)), (2, .int (i32 v2)), (3, .int (i32 v3)), (4, .int (i32 v4))]) rfl (Nat.le_of_ble_eq_true rfl) rfl ?_
      exact w_weak [(0, .ref 0), (1, .int (i32 v1)), (2, .int (i32 v2)), (3, .int (i32 v3)), (4, .int (i32 v4)), (5, .int (i32 0))] rfl ⟨rfl, rfl, rfl, rfl, rfl, rfl, trivial⟩ (s_cL_hangs_43 (by omega) hk27 _)
theorem s_cL_hangs {d : Nat} {v1 : Int} {m : xm} (hd : 5 ≤ d) : xw (am_E L xs bz) d am_m165 1 0 [(0, .ref 0), (1, .int (i32 v1))] [] m (cL_hangs v1 m) := by
  unfold cL_hangs
  refine w_aload_n rfl rfl ?_
  refine w_gfh rfl rfl rfl rfl ?_
  refine w_iconst rfl ?_
  refine w_iload_n rfl rfl ?_
  refine w_call1 [.ref (hl m 12), .int (i32 2), .int (i32 v1)] [] (by omega) rfl rfl rfl rfl rfl rfl (Nat.le_of_ble_eq_true rfl) (fun _ => xrc_ok (rcH (hl_or _ _) rfl)) (Nat.le_of_ble_eq_true rfl) rfl rfl (s_cH_isOne (by omega) (hl_or _ _)) (fun r1 m2 => ?_)
  show xw _ _ _ _ 9 _ _ _ _
  refine w_if_ne (tg := 14) rfl rfl rfl ?_ ?_
  · refine w_iconst rfl ?_
    refine w_istore_n (lsd := [(2, .int (i32 0)), (0, .ref 0), (1, .int (i32 v1))]) rfl (Nat.le_of_ble_eq_true rfl) rfl ?_
    refine w_aload_n rfl rfl ?_
    refine w_gfr (r := 21) rfl rfl (Nat.le_of_ble_eq_true rfl) rfl rfl ?_
    refine w_call1 [.ref 21] [] (by omega) rfl rfl rfl rfl rfl rfl (Nat.le_of_ble_eq_true rfl) (fun _ => xrc_ok rfl) (Nat.le_of_ble_eq_true rfl) rfl rfl (s_cY_state (by omega)) (fun r3 m4 => ?_)
    show xw _ _ _ _ 23 _ _ _ _
    refine w_istore_n (lsd := [(3, .int (i32 r3)), (2, .int (i32 0)), (0, .ref 0), (1, .int (i32 v1))]) rfl (Nat.le_of_ble_eq_true rfl) rfl ?_
    refine w_iconst rfl ?_
    refine w_istore (lsd := [(4, .int (i32 0)), (3, .int (i32 r3)), (2, .int (i32 0)), (0, .ref 0), (1, .int (i32 v1))]) rfl (Nat.le_of_ble_eq_true rfl) rfl ?_
    exact w_weak [(0, .ref 0), (1, .int (i32 v1)), (2, .int (i32 0)), (3, .int (i32 r3)), (4, .int (i32 0))] rfl ⟨rfl, rfl, rfl, rfl, rfl, trivial⟩ (s_cL_hangs_27 (by omega) _)
  · refine w_iconst rfl ?_
    exact w_retv rfl rfl
theorem s_cL_playOne {d : Nat} {v1 : Int} {m : xm} (hd : 5 ≤ d) : xw (am_E L xs bz) d am_m167 0 0 [(0, .ref 0), (1, .int (i32 v1))] [] m (cL_playOne v1 m) := by
  unfold cL_playOne
  refine w_aload_n rfl rfl ?_
  refine w_gfr (r := 21) rfl rfl (Nat.le_of_ble_eq_true rfl) rfl rfl ?_
  refine w_call1 [.ref 21] [] (by omega) rfl rfl rfl rfl rfl rfl (Nat.le_of_ble_eq_true rfl) (fun _ => xrc_ok rfl) (Nat.le_of_ble_eq_true rfl) rfl rfl (s_cY_state (by omega)) (fun r1 m2 => ?_)
  refine w_istore_n (lsd := [(2, .int (i32 r1)), (0, .ref 0), (1, .int (i32 v1))]) rfl (Nat.le_of_ble_eq_true rfl) rfl ?_
  refine w_aload_n rfl rfl ?_
  show xw _ _ _ _ 9 _ _ _ _
  refine w_gfr (r := 21) rfl rfl (Nat.le_of_ble_eq_true rfl) rfl rfl ?_
  refine w_aload_n rfl rfl ?_
  refine w_gfh rfl rfl rfl rfl ?_
  refine w_iload_n rfl rfl ?_
  refine w_iload_n rfl rfl ?_
  refine w_call1 [.ref (hl m2 12), .int (i32 r1), .int (i32 v1)] [.ref 21] (by omega) rfl rfl rfl rfl rfl rfl (Nat.le_of_ble_eq_true rfl) (fun _ => xrc_ok (rcH (hl_or _ _) rfl)) (Nat.le_of_ble_eq_true rfl) rfl rfl (s_cH_after (by omega) (hl_or _ _)) (fun r3 m4 => ?_)
  show xw _ _ _ _ 21 _ _ _ _
  refine w_call0 [.ref 21, .int (i32 r3)] [] (by omega) rfl rfl rfl rfl rfl rfl (Nat.le_of_ble_eq_true rfl) (fun _ => xrc_ok rfl) (Nat.le_of_ble_eq_true rfl) rfl rfl (s_cY_goTo (by omega)) (fun r5 m6 => ?_)
  refine w_aload_n rfl rfl ?_
  refine w_gfr (r := 21) rfl rfl (Nat.le_of_ble_eq_true rfl) rfl rfl ?_
  refine w_call0 [.ref 21] [] (by omega) rfl rfl rfl rfl rfl rfl (Nat.le_of_ble_eq_true rfl) (fun _ => xrc_ok rfl) (Nat.le_of_ble_eq_true rfl) rfl rfl (s_cY_countPlayed (by omega)) (fun r7 m8 => ?_)
  refine w_aload_n rfl rfl ?_
  refine w_gfr (r := 21) rfl rfl (Nat.le_of_ble_eq_true rfl) rfl rfl ?_
  show xw _ _ _ _ 35 _ _ _ _
  refine w_aload_n rfl rfl ?_
  refine w_gfh rfl rfl rfl rfl ?_
  refine w_iload_n rfl rfl ?_
  refine w_call1 [.ref (hl m8 12), .int (i32 r1)] [.ref 21] (by omega) rfl rfl rfl rfl rfl rfl (Nat.le_of_ble_eq_true rfl) (fun _ => xrc_ok (rcH (hl_or _ _) rfl)) (Nat.le_of_ble_eq_true rfl) rfl rfl (s_cH_openDoors (by omega) (hl_or _ _)) (fun r9 m10 => ?_)
  refine w_aload_n rfl rfl ?_
  refine w_gfh rfl rfl rfl rfl ?_
  show xw _ _ _ _ 47 _ _ _ _
  refine w_aload_n rfl rfl ?_
  refine w_gfr (r := 21) rfl rfl (Nat.le_of_ble_eq_true rfl) rfl rfl ?_
  refine w_call1 [.ref 21] [.ref (hl m10 12), .int (i32 r9), .ref 21] (by omega) rfl rfl rfl rfl rfl rfl (Nat.le_of_ble_eq_true rfl) (fun _ => xrc_ok rfl) (Nat.le_of_ble_eq_true rfl) rfl rfl (s_cY_state (by omega)) (fun r11 m12 => ?_)
  refine w_call1 [.ref (hl m10 12), .int (i32 r11)] [.int (i32 r9), .ref 21] (by omega) rfl rfl rfl rfl rfl rfl (Nat.le_of_ble_eq_true rfl) (fun _ => xrc_ok (rcH (hl_or _ _) rfl)) (Nat.le_of_ble_eq_true rfl) rfl rfl (s_cH_openDoors (by omega) (hl_or _ _)) (fun r13 m14 => ?_)
  refine w_call0 [.ref 21, .int (i32 r9), .int (i32 r13)] [] (by omega) rfl rfl rfl rfl rfl rfl (Nat.le_of_ble_eq_true rfl) (fun _ => xrc_ok rfl) (Nat.le_of_ble_eq_true rfl) rfl rfl (s_cY_keepDoors (by omega)) (fun r15 m16 => ?_)
  exact w_retv (x := 0) rfl rfl
theorem s_cL_play {d : Nat} {v1 : Int} {m : xm} (hd : 6 ≤ d) : xw (am_E L xs bz) d am_m166 1 0 [(0, .ref 0), (1, .int (i32 v1))] [] m (cL_play v1 m) := by
  unfold cL_play
  refine w_aload_n rfl rfl ?_
  refine w_gfh rfl rfl rfl rfl ?_
  refine w_aload_n rfl rfl ?_
  refine w_gfr (r := 21) rfl rfl (Nat.le_of_ble_eq_true rfl) rfl rfl ?_
  refine w_call1 [.ref 21] [.ref (hl m 12)] (by omega) rfl rfl rfl rfl rfl rfl (Nat.le_of_ble_eq_true rfl) (fun _ => xrc_ok rfl) (Nat.le_of_ble_eq_true rfl) rfl rfl (s_cY_state (by omega)) (fun r1 m2 => ?_)
  show xw _ _ _ _ 11 _ _ _ _
  refine w_iload_n rfl rfl ?_
  refine w_call1 [.ref (hl m 12), .int (i32 r1), .int (i32 v1)] [] (by omega) rfl rfl rfl rfl rfl rfl (Nat.le_of_ble_eq_true rfl) (fun _ => xrc_ok (rcH (hl_or _ _) rfl)) (Nat.le_of_ble_eq_true rfl) rfl rfl (s_cH_canPlay (by omega) (hl_or _ _)) (fun r3 m4 => ?_)
  refine w_if_ne (tg := 24) rfl rfl rfl ?_ ?_
  · refine w_aload_n rfl rfl ?_
    refine w_gfr (r := 21) rfl rfl (Nat.le_of_ble_eq_true rfl) rfl rfl ?_
    refine w_call0 [.ref 21] [] (by omega) rfl rfl rfl rfl rfl rfl (Nat.le_of_ble_eq_true rfl) (fun _ => xrc_ok rfl) (Nat.le_of_ble_eq_true rfl) rfl rfl (s_cY_beginAct (by omega)) (fun r5 m6 => ?_)
    refine w_aload_n rfl rfl ?_
    refine w_iload_n rfl rfl ?_
    show xw _ _ _ _ 33 _ _ _ _
    refine w_call0 [.ref 0, .int (i32 v1)] [] (by omega) rfl rfl rfl rfl rfl rfl (Nat.le_of_ble_eq_true rfl) (fun _ => xrc_ok rfl) (Nat.le_of_ble_eq_true rfl) rfl rfl (s_cL_playOne (by omega)) (fun r7 m8 => ?_)
    refine w_aload_n rfl rfl ?_
    refine w_gfh rfl rfl rfl rfl ?_
    refine w_aload_n rfl rfl ?_
    refine w_gfr (r := 21) rfl rfl (Nat.le_of_ble_eq_true rfl) rfl rfl ?_
    refine w_call1 [.ref 21] [.ref (hl m8 12)] (by omega) rfl rfl rfl rfl rfl rfl (Nat.le_of_ble_eq_true rfl) (fun _ => xrc_ok rfl) (Nat.le_of_ble_eq_true rfl) rfl rfl (s_cY_state (by omega)) (fun r9 m10 => ?_)
    show xw _ _ _ _ 47 _ _ _ _
    refine w_call1 [.ref (hl m8 12), .int (i32 r9)] [] (by omega) rfl rfl rfl rfl rfl rfl (Nat.le_of_ble_eq_true rfl) (fun _ => xrc_ok (rcH (hl_or _ _) rfl)) (Nat.le_of_ble_eq_true rfl) rfl rfl (s_cH_openDoors (by omega) (hl_or _ _)) (fun r11 m12 => ?_)
    exact w_retv rfl rfl
  · refine w_aload_n rfl rfl ?_
    refine w_iconst rfl ?_
    refine w_call1 [.ref 0, .int (i32 2)] [] (by omega) rfl rfl rfl rfl rfl rfl (Nat.le_of_ble_eq_true rfl) (fun _ => xrc_ok rfl) (Nat.le_of_ble_eq_true rfl) rfl rfl (s_cL_refuse (by omega)) (fun r13 m14 => ?_)
    exact w_retv rfl rfl
theorem s_cL_piece_28 {d : Nat} (hd : 6 ≤ d) {m : xm} : xw (am_E L xs bz) d am_m168 1 28 [(0, .ref 0)] [] m (cL_piece_28 m) := by
  unfold cL_piece_28
  refine w_aload_n rfl rfl ?_
  refine w_iconst rfl ?_
  refine w_call1 [.ref 0, .int (i32 2)] [] (by omega) rfl rfl rfl rfl rfl rfl (Nat.le_of_ble_eq_true rfl) (fun _ => xrc_ok rfl) (Nat.le_of_ble_eq_true rfl) rfl rfl (s_cL_refuse (by omega)) (fun r1 m2 => ?_)
  exact w_retv rfl rfl
theorem s_cL_piece_43 {d : Nat} (hd : 6 ≤ d) : ∀ (n : Nat) {v1 : Int} {m : xm}, xw (am_E L xs bz) d am_m168 1 43 [(0, .ref 0), (1, .int (i32 v1))] [] m (cL_piece_43 n v1 m) := by
  intro n
  induction n with
  | zero => intros; exact w_none
  | succ n ih =>
    intro v1 m
    have hk43 := fun (v1 : Int) (m : xm) => @ih v1 m
    unfold cL_piece_43
    refine w_iload_n rfl rfl ?_
    refine w_aload_n rfl rfl ?_
    refine w_gfr (r := 16) rfl rfl (Nat.le_of_ble_eq_true rfl) rfl rfl ?_
    refine w_call1 [.ref 16] [.int (i32 v1)] (by omega) rfl rfl rfl rfl rfl rfl (Nat.le_of_ble_eq_true rfl) (fun _ => xrc_ok rfl) (Nat.le_of_ble_eq_true rfl) rfl rfl (s_cP_length (by omega)) (fun r1 m2 => ?_)
    refine w_icmp_ge (tg := 97) rfl rfl rfl rfl ?_ ?_
    · refine w_iload_n rfl rfl ?_
      exact w_retv rfl rfl
    · refine w_aload_n rfl rfl ?_
      refine w_gfh rfl rfl rfl rfl ?_
      refine w_aload_n rfl rfl ?_
      refine w_gfr (r := 21) rfl rfl (Nat.le_of_ble_eq_true rfl) rfl rfl ?_
      refine w_call1 [.ref 21] [.ref (hl m2 12)] (by omega) rfl rfl rfl rfl rfl rfl (Nat.le_of_ble_eq_true rfl) (fun _ => xrc_ok rfl) (Nat.le_of_ble_eq_true rfl) rfl rfl (s_cY_state (by omega)) (fun r3 m4 => ?_)
      show xw _ _ _ _ 65 _ _ _ _
      refine w_aload_n rfl rfl ?_
      refine w_gfr (r := 16) rfl rfl (Nat.le_of_ble_eq_true rfl) rfl rfl ?_
      refine w_iload_n rfl rfl ?_
      refine w_call1 [.ref 16, .int (i32 v1)] [.int (i32 r3), .ref (hl m2 12)] (by omega) rfl rfl rfl rfl rfl rfl (Nat.le_of_ble_eq_true rfl) (fun _ => xrc_ok rfl) (Nat.le_of_ble_eq_true rfl) rfl rfl (s_cP_noteAt (by omega)) (fun r5 m6 => ?_)
      refine w_call1 [.ref (hl m2 12), .int (i32 r3), .int (i32 r5)] [] (by omega) rfl rfl rfl rfl rfl rfl (Nat.le_of_ble_eq_true rfl) (fun _ => xrc_ok (rcH (hl_or _ _) rfl)) (Nat.le_of_ble_eq_true rfl) rfl rfl (s_cH_canPlay (by omega) (hl_or _ _)) (fun r7 m8 => ?_)
      refine w_if_eq (tg := 97) rfl rfl rfl ?_ ?_
      · refine w_iload_n rfl rfl ?_
        exact w_retv rfl rfl
      · refine w_aload_n rfl rfl ?_
        refine w_aload_n rfl rfl ?_
        refine w_gfr (r := 16) rfl rfl (Nat.le_of_ble_eq_true rfl) rfl rfl ?_
        refine w_iload_n rfl rfl ?_
        refine w_call1 [.ref 16, .int (i32 v1)] [.ref 0] (by omega) rfl rfl rfl rfl rfl rfl (Nat.le_of_ble_eq_true rfl) (fun _ => xrc_ok rfl) (Nat.le_of_ble_eq_true rfl) rfl rfl (s_cP_noteAt (by omega)) (fun r9 m10 => ?_)
        show xw _ _ _ _ 88 _ _ _ _
        refine w_call0 [.ref 0, .int (i32 r9)] [] (by omega) rfl rfl rfl rfl rfl rfl (Nat.le_of_ble_eq_true rfl) (fun _ => xrc_ok rfl) (Nat.le_of_ble_eq_true rfl) rfl rfl (s_cL_playOne (by omega)) (fun r11 m12 => ?_)
        refine w_iinc (lsd := [(1, .int (i32 (v1 + 1))), (0, .ref 0)]) rfl (Nat.le_of_ble_eq_true rfl) rfl rfl ?_
        refine w_goto (tg := 43) rfl rfl ?_
        exact w_weak [(0, .ref 0), (1, .int (i32 (v1 + 1)))] rfl ⟨rfl, rfl, trivial⟩ (hk43 (v1 + 1) m12)
theorem s_cL_piece {d : Nat} {m : xm} (hd : 6 ≤ d) : xw (am_E L xs bz) d am_m168 1 0 [(0, .ref 0)] [] m (cL_piece m) := by
  unfold cL_piece
  refine w_aload_n rfl rfl ?_
  refine w_gfr (r := 16) rfl rfl (Nat.le_of_ble_eq_true rfl) rfl rfl ?_
  refine w_aload_n rfl rfl ?_
  refine w_gfr (r := 1) rfl rfl (Nat.le_of_ble_eq_true rfl) rfl rfl ?_
  refine w_aload_n rfl rfl ?_
  show xw _ _ _ _ 9 _ _ _ _
  refine w_gfh rfl rfl rfl rfl ?_
  refine w_call1 [.ref 16, .ref 1, .ref (hl m 12)] [] (by omega) rfl rfl rfl rfl rfl rfl (Nat.le_of_ble_eq_true rfl) (fun _ => xrc_ok rfl) (Nat.le_of_ble_eq_true rfl) rfl rfl (s_cP_take (by omega) (hl_or _ _)) (fun r1 m2 => ?_)
  refine w_if_eq (tg := 28) rfl rfl rfl ?_ ?_
  · exact w_weak [(0, .ref 0)] rfl ⟨rfl, trivial⟩ (s_cL_piece_28 (by omega))
  · refine w_aload_n rfl rfl ?_
    refine w_gfr (r := 16) rfl rfl (Nat.le_of_ble_eq_true rfl) rfl rfl ?_
    refine w_call1 [.ref 16] [] (by omega) rfl rfl rfl rfl rfl rfl (Nat.le_of_ble_eq_true rfl) (fun _ => xrc_ok rfl) (Nat.le_of_ble_eq_true rfl) rfl rfl (s_cP_length (by omega)) (fun r3 m4 => ?_)
    refine w_if_ne (tg := 34) rfl rfl rfl ?_ ?_
    · refine w_aload_n rfl rfl ?_
      refine w_gfr (r := 21) rfl rfl (Nat.le_of_ble_eq_true rfl) rfl rfl ?_
      refine w_call0 [.ref 21] [] (by omega) rfl rfl rfl rfl rfl rfl (Nat.le_of_ble_eq_true rfl) (fun _ => xrc_ok rfl) (Nat.le_of_ble_eq_true rfl) rfl rfl (s_cY_beginAct (by omega)) (fun r5 m6 => ?_)
      refine w_iconst rfl ?_
      refine w_istore_n (lsd := [(1, .int (i32 0)), (0, .ref 0)]) rfl (Nat.le_of_ble_eq_true rfl) rfl ?_
      exact w_weak [(0, .ref 0), (1, .int (i32 0))] rfl ⟨rfl, rfl, trivial⟩ (s_cL_piece_43 (by omega) _)
    · exact w_weak [(0, .ref 0)] rfl ⟨rfl, trivial⟩ (s_cL_piece_28 (by omega))
theorem s_cL_oil_32 {d : Nat} (hd : 5 ≤ d) {m : xm} : xw (am_E L xs bz) d am_m169 1 32 [(0, .ref 0)] [] m (cL_oil_32 m) := by
  unfold cL_oil_32
  refine w_aload_n rfl rfl ?_
  refine w_iconst rfl ?_
  refine w_call1 [.ref 0, .int (i32 3)] [] (by omega) rfl rfl rfl rfl rfl rfl (Nat.le_of_ble_eq_true rfl) (fun _ => xrc_ok rfl) (Nat.le_of_ble_eq_true rfl) rfl rfl (s_cL_refuse (by omega)) (fun r1 m2 => ?_)
  refine w_pop rfl rfl ?_
  refine w_iconst rfl ?_
  show xw _ _ _ _ 39 _ _ _ _
  exact w_retv rfl rfl
theorem s_cL_oil {d : Nat} {v1 : Int} {m : xm} (hd : 5 ≤ d) : xw (am_E L xs bz) d am_m169 1 0 [(0, .ref 0), (1, .int (i32 v1))] [] m (cL_oil v1 m) := by
  unfold cL_oil
  refine w_aload_n rfl rfl ?_
  refine w_gfr (r := 21) rfl rfl (Nat.le_of_ble_eq_true rfl) rfl rfl ?_
  refine w_call1 [.ref 21] [] (by omega) rfl rfl rfl rfl rfl rfl (Nat.le_of_ble_eq_true rfl) (fun _ => xrc_ok rfl) (Nat.le_of_ble_eq_true rfl) rfl rfl (s_cY_state (by omega)) (fun r1 m2 => ?_)
  refine w_istore_n (lsd := [(2, .int (i32 r1)), (0, .ref 0), (1, .int (i32 v1))]) rfl (Nat.le_of_ble_eq_true rfl) rfl ?_
  refine w_aload_n rfl rfl ?_
  show xw _ _ _ _ 9 _ _ _ _
  refine w_gfh rfl rfl rfl rfl ?_
  refine w_iconst rfl ?_
  refine w_iload_n rfl rfl ?_
  refine w_call1 [.ref (hl m2 12), .int (i32 0), .int (i32 v1)] [] (by omega) rfl rfl rfl rfl rfl rfl (Nat.le_of_ble_eq_true rfl) (fun _ => xrc_ok (rcH (hl_or _ _) rfl)) (Nat.le_of_ble_eq_true rfl) rfl rfl (s_cH_isOne (by omega) (hl_or _ _)) (fun r3 m4 => ?_)
  refine w_if_eq (tg := 32) rfl rfl rfl ?_ ?_
  · exact w_weak [(0, .ref 0)] rfl ⟨rfl, trivial⟩ (s_cL_oil_32 (by omega))
  · refine w_aload_n rfl rfl ?_
    refine w_gfh rfl rfl rfl rfl ?_
    refine w_iload_n rfl rfl ?_
    refine w_iload_n rfl rfl ?_
    refine w_call1 [.ref (hl m4 12), .int (i32 r1), .int (i32 v1)] [] (by omega) rfl rfl rfl rfl rfl rfl (Nat.le_of_ble_eq_true rfl) (fun _ => xrc_ok (rcH (hl_or _ _) rfl)) (Nat.le_of_ble_eq_true rfl) rfl rfl (s_cH_isJammed (by omega) (hl_or _ _)) (fun r5 m6 => ?_)
    show xw _ _ _ _ 29 _ _ _ _
    refine w_if_ne (tg := 40) rfl rfl rfl ?_ ?_
    · refine w_aload_n rfl rfl ?_
      refine w_gfr (r := 21) rfl rfl (Nat.le_of_ble_eq_true rfl) rfl rfl ?_
      refine w_call0 [.ref 21] [] (by omega) rfl rfl rfl rfl rfl rfl (Nat.le_of_ble_eq_true rfl) (fun _ => xrc_ok rfl) (Nat.le_of_ble_eq_true rfl) rfl rfl (s_cY_beginAct (by omega)) (fun r7 m8 => ?_)
      refine w_aload_n rfl rfl ?_
      refine w_gfr (r := 21) rfl rfl (Nat.le_of_ble_eq_true rfl) rfl rfl ?_
      show xw _ _ _ _ 51 _ _ _ _
      refine w_aload_n rfl rfl ?_
      refine w_gfh rfl rfl rfl rfl ?_
      refine w_iload_n rfl rfl ?_
      refine w_iload_n rfl rfl ?_
      refine w_call1 [.ref (hl m8 12), .int (i32 r1), .int (i32 v1)] [.ref 21] (by omega) rfl rfl rfl rfl rfl rfl (Nat.le_of_ble_eq_true rfl) (fun _ => xrc_ok (rcH (hl_or _ _) rfl)) (Nat.le_of_ble_eq_true rfl) rfl rfl (s_cH_withoutJam (by omega) (hl_or _ _)) (fun r9 m10 => ?_)
      refine w_call0 [.ref 21, .int (i32 r9)] [] (by omega) rfl rfl rfl rfl rfl rfl (Nat.le_of_ble_eq_true rfl) (fun _ => xrc_ok rfl) (Nat.le_of_ble_eq_true rfl) rfl rfl (s_cY_goTo (by omega)) (fun r11 m12 => ?_)
      show xw _ _ _ _ 63 _ _ _ _
      refine w_aload_n rfl rfl ?_
      refine w_gfr (r := 21) rfl rfl (Nat.le_of_ble_eq_true rfl) rfl rfl ?_
      refine w_aload_n rfl rfl ?_
      refine w_gfh rfl rfl rfl rfl ?_
      refine w_iload_n rfl rfl ?_
      refine w_call1 [.ref (hl m12 12), .int (i32 r1)] [.ref 21] (by omega) rfl rfl rfl rfl rfl rfl (Nat.le_of_ble_eq_true rfl) (fun _ => xrc_ok (rcH (hl_or _ _) rfl)) (Nat.le_of_ble_eq_true rfl) rfl rfl (s_cH_openDoors (by omega) (hl_or _ _)) (fun r13 m14 => ?_)
      show xw _ _ _ _ 75 _ _ _ _
      refine w_aload_n rfl rfl ?_
      refine w_gfh rfl rfl rfl rfl ?_
      refine w_aload_n rfl rfl ?_
      refine w_gfr (r := 21) rfl rfl (Nat.le_of_ble_eq_true rfl) rfl rfl ?_
      refine w_call1 [.ref 21] [.ref (hl m14 12), .int (i32 r13), .ref 21] (by omega) rfl rfl rfl rfl rfl rfl (Nat.le_of_ble_eq_true rfl) (fun _ => xrc_ok rfl) (Nat.le_of_ble_eq_true rfl) rfl rfl (s_cY_state (by omega)) (fun r15 m16 => ?_)
      refine w_call1 [.ref (hl m14 12), .int (i32 r15)] [.int (i32 r13), .ref 21] (by omega) rfl rfl rfl rfl rfl rfl (Nat.le_of_ble_eq_true rfl) (fun _ => xrc_ok (rcH (hl_or _ _) rfl)) (Nat.le_of_ble_eq_true rfl) rfl rfl (s_cH_openDoors (by omega) (hl_or _ _)) (fun r17 m18 => ?_)
      show xw _ _ _ _ 89 _ _ _ _
      refine w_call0 [.ref 21, .int (i32 r13), .int (i32 r17)] [] (by omega) rfl rfl rfl rfl rfl rfl (Nat.le_of_ble_eq_true rfl) (fun _ => xrc_ok rfl) (Nat.le_of_ble_eq_true rfl) rfl rfl (s_cY_keepDoors (by omega)) (fun r19 m20 => ?_)
      refine w_iconst rfl ?_
      exact w_retv rfl rfl
    · exact w_weak [(0, .ref 0)] rfl ⟨rfl, trivial⟩ (s_cL_oil_32 (by omega))
theorem s_cL_draw {d : Nat} {v1 : Int} {m : xm} (hd : 0 ≤ d) : xw (am_E L xs bz) d am_m171 1 0 [(0, .ref 0), (1, .int (i32 v1))] [] m (cL_draw v1 m) := by
  unfold cL_draw
  refine w_aload_n rfl rfl ?_
  refine w_ldc2w (z := 1103515245) rfl rfl rfl ?_
  refine w_aload_n rfl rfl ?_
  refine w_gfl rfl rfl (Nat.le_of_ble_eq_true rfl) rfl rfl ?_
  refine w_lmul rfl ?_
  show xw _ _ _ _ 9 _ _ _ _
  refine w_ldc2w (z := 12345) rfl rfl rfl ?_
  refine w_ladd rfl ?_
  refine w_ldc2w (z := 2147483648) rfl rfl rfl ?_
  refine w_lremc rfl (by decide) ?_
  refine w_pfl rfl rfl (Nat.le_of_ble_eq_true rfl) rfl rfl rfl (fun m1 => ?_)
  refine w_iload_n rfl rfl ?_
  show xw _ _ _ _ 21 _ _ _ _
  refine w_if_le (tg := 39) rfl rfl rfl ?_ ?_
  · refine w_iconst rfl ?_
    exact w_retv rfl rfl
  · refine w_aload_n rfl rfl ?_
    refine w_gfl rfl rfl (Nat.le_of_ble_eq_true rfl) rfl rfl ?_
    refine w_ldc2w (z := 64) rfl rfl rfl ?_
    refine w_ldivc rfl (by decide) ?_
    refine w_iload_n rfl rfl ?_
    show xw _ _ _ _ 33 _ _ _ _
    refine w_i2l (x' := w32 v1) rfl rfl ?_
    refine w_lrem rfl (w64_w32 _) ?_
    refine w_l2i rfl ?_
    refine w_goto (tg := 40) rfl rfl ?_
    exact w_retv rfl rfl
theorem s_cL_evening_22 {d : Nat} (hd : 6 ≤ d) {m : xm} : xw (am_E L xs bz) d am_m170 1 22 [(0, .ref 0)] [] m (cL_evening_22 m) := by
  unfold cL_evening_22
  refine w_aload_n rfl rfl ?_
  refine w_iconst rfl ?_
  refine w_call1 [.ref 0, .int (i32 3)] [] (by omega) rfl rfl rfl rfl rfl rfl (Nat.le_of_ble_eq_true rfl) (fun _ => xrc_ok rfl) (Nat.le_of_ble_eq_true rfl) rfl rfl (s_cL_refuse (by omega)) (fun r1 m2 => ?_)
  exact w_retv rfl rfl
theorem s_cL_evening_144 {d : Nat} {k39 : Int → Int → Int → xm → xr} (hd : 6 ≤ d) (hk39 : ∀ (v1 v2 v3 : Int) (m : xm), xw (am_E L xs bz) d am_m170 1 39 [(0, .ref 0), (1, .int (i32 v1)), (2, .int (i32 v2)), (3, .int (i32 v3))] [] m (k39 v1 v2 v3 m)) {v1 : Int} {v2 : Int} {v3 : Int} {m : xm} : xw (am_E L xs bz) d am_m170 1 144 [(0, .ref 0), (1, .int (i32 v1)), (2, .int (i32 v2)), (3, .int (i32 v3))] [] m (cL_evening_144 k39 v1 v2 v3 m) := by
  unfold cL_evening_144
  refine w_iinc (lsd := [(3, .int (i32 (v3 + 1))), (0, .ref 0), (1, .int (i32 v1)), (2, .int (i32 v2))]) rfl (Nat.le_of_ble_eq_true rfl) rfl rfl ?_
  refine w_goto (tg := 39) rfl rfl ?_
  exact w_weak [(0, .ref 0), (1, .int (i32 v1)), (2, .int (i32 v2)), (3, .int (i32 (v3 + 1)))] rfl ⟨rfl, rfl, rfl, rfl, trivial⟩ (hk39 v1 v2 (v3 + 1) m)
theorem s_cL_evening_95 {d : Nat} {k39 : Int → Int → Int → xm → xr} (hd : 6 ≤ d) (hk39 : ∀ (v1 v2 v3 : Int) (m : xm), xw (am_E L xs bz) d am_m170 1 39 [(0, .ref 0), (1, .int (i32 v1)), (2, .int (i32 v2)), (3, .int (i32 v3))] [] m (k39 v1 v2 v3 m)) {v1 : Int} {v2 : Int} {v3 : Int} {m : xm} : xw (am_E L xs bz) d am_m170 1 95 [(0, .ref 0), (1, .int (i32 v1)), (2, .int (i32 v2)), (3, .int (i32 v3))] [] m (cL_evening_95 k39 v1 v2 v3 m) := by
  unfold cL_evening_95
  refine w_aload_n rfl rfl ?_
  refine w_bipush rfl rfl ?_
  refine w_call1 [.ref 0, .int (i32 100)] [] (by omega) rfl rfl rfl rfl rfl rfl (Nat.le_of_ble_eq_true rfl) (fun _ => xrc_ok rfl) (Nat.le_of_ble_eq_true rfl) rfl rfl (s_cL_draw (by omega)) (fun r1 m2 => ?_)
  refine w_aload_n rfl rfl ?_
  refine w_gfh rfl rfl rfl rfl ?_
  show xw _ _ _ _ 105 _ _ _ _
  refine w_call1 [.ref (hl m2 12)] [.int (i32 r1)] (by omega) rfl rfl rfl rfl rfl rfl (Nat.le_of_ble_eq_true rfl) (fun _ => xrc_ok (rcH (hl_or _ _) rfl)) (Nat.le_of_ble_eq_true rfl) rfl rfl (s_cH_rust (by omega) (hl_or _ _)) (fun r3 m4 => ?_)
  refine w_icmp_ge (tg := 144) rfl rfl rfl rfl ?_ ?_
  · exact w_weak [(0, .ref 0), (1, .int (i32 v1)), (2, .int (i32 v2)), (3, .int (i32 v3))] rfl ⟨rfl, rfl, rfl, rfl, trivial⟩ (s_cL_evening_144 (by omega) hk39)
  · refine w_aload_n rfl rfl ?_
    refine w_gfr (r := 21) rfl rfl (Nat.le_of_ble_eq_true rfl) rfl rfl ?_
    refine w_aload_n rfl rfl ?_
    refine w_gfh rfl rfl rfl rfl ?_
    refine w_aload_n rfl rfl ?_
    show xw _ _ _ _ 120 _ _ _ _
    refine w_gfr (r := 21) rfl rfl (Nat.le_of_ble_eq_true rfl) rfl rfl ?_
    refine w_call1 [.ref 21] [.ref (hl m4 12), .ref 21] (by omega) rfl rfl rfl rfl rfl rfl (Nat.le_of_ble_eq_true rfl) (fun _ => xrc_ok rfl) (Nat.le_of_ble_eq_true rfl) rfl rfl (s_cY_state (by omega)) (fun r5 m6 => ?_)
    refine w_aload_n rfl rfl ?_
    refine w_aload_n rfl rfl ?_
    refine w_gfh rfl rfl rfl rfl ?_
    refine w_iconst rfl ?_
    show xw _ _ _ _ 132 _ _ _ _
    refine w_call1 [.ref (hl m6 12), .int (i32 0)] [.ref 0, .int (i32 r5), .ref (hl m4 12), .ref 21] (by omega) rfl rfl rfl rfl rfl rfl (Nat.le_of_ble_eq_true rfl) (fun _ => xrc_ok (rcH (hl_or _ _) rfl)) (Nat.le_of_ble_eq_true rfl) rfl rfl (s_cH_count (by omega) (hl_or _ _)) (fun r7 m8 => ?_)
    refine w_call1 [.ref 0, .int (i32 r7)] [.int (i32 r5), .ref (hl m4 12), .ref 21] (by omega) rfl rfl rfl rfl rfl rfl (Nat.le_of_ble_eq_true rfl) (fun _ => xrc_ok rfl) (Nat.le_of_ble_eq_true rfl) rfl rfl (s_cL_draw (by omega)) (fun r9 m10 => ?_)
    refine w_call1 [.ref (hl m4 12), .int (i32 r5), .int (i32 r9)] [.ref 21] (by omega) rfl rfl rfl rfl rfl rfl (Nat.le_of_ble_eq_true rfl) (fun _ => xrc_ok (rcH (hl_or _ _) rfl)) (Nat.le_of_ble_eq_true rfl) rfl rfl (s_cH_withJam (by omega) (hl_or _ _)) (fun r11 m12 => ?_)
    refine w_call0 [.ref 21, .int (i32 r11)] [] (by omega) rfl rfl rfl rfl rfl rfl (Nat.le_of_ble_eq_true rfl) (fun _ => xrc_ok rfl) (Nat.le_of_ble_eq_true rfl) rfl rfl (s_cY_goTo (by omega)) (fun r13 m14 => ?_)
    exact w_weak [(0, .ref 0), (1, .int (i32 v1)), (2, .int (i32 v2)), (3, .int (i32 v3))] rfl ⟨rfl, rfl, rfl, rfl, trivial⟩ (s_cL_evening_144 (by omega) hk39)
theorem s_cL_evening_39 {d : Nat} (hd : 6 ≤ d) : ∀ (n : Nat) {v1 : Int} {v2 : Int} {v3 : Int} {m : xm}, xw (am_E L xs bz) d am_m170 1 39 [(0, .ref 0), (1, .int (i32 v1)), (2, .int (i32 v2)), (3, .int (i32 v3))] [] m (cL_evening_39 n v1 v2 v3 m) := by
  intro n
  induction n with
  | zero => intros; exact w_none
  | succ n ih =>
    intro v1 v2 v3 m
    have hk39 := fun (v1 v2 v3 : Int) (m : xm) => @ih v1 v2 v3 m
    unfold cL_evening_39
    refine w_iload_n rfl rfl ?_
    refine w_iload_n rfl rfl ?_
    refine w_icmp_ge (tg := 150) rfl rfl rfl rfl ?_ ?_
    · refine w_iload_n rfl rfl ?_
      exact w_retv rfl rfl
    · refine w_aload_n rfl rfl ?_
      refine w_aload_n rfl rfl ?_
      refine w_gfh rfl rfl rfl rfl ?_
      refine w_iconst rfl ?_
      refine w_call1 [.ref (hl m 12), .int (i32 1)] [.ref 0] (by omega) rfl rfl rfl rfl rfl rfl (Nat.le_of_ble_eq_true rfl) (fun _ => xrc_ok (rcH (hl_or _ _) rfl)) (Nat.le_of_ble_eq_true rfl) rfl rfl (s_cH_count (by omega) (hl_or _ _)) (fun r1 m2 => ?_)
      show xw _ _ _ _ 53 _ _ _ _
      refine w_call1 [.ref 0, .int (i32 r1)] [] (by omega) rfl rfl rfl rfl rfl rfl (Nat.le_of_ble_eq_true rfl) (fun _ => xrc_ok rfl) (Nat.le_of_ble_eq_true rfl) rfl rfl (s_cL_draw (by omega)) (fun r3 m4 => ?_)
      refine w_istore (lsd := [(4, .int (i32 r3)), (0, .ref 0), (1, .int (i32 v1)), (2, .int (i32 v2)), (3, .int (i32 v3))]) rfl (Nat.le_of_ble_eq_true rfl) rfl ?_
      refine w_aload_n rfl rfl ?_
      refine w_gfh rfl rfl rfl rfl ?_
      refine w_aload_n rfl rfl ?_
      refine w_gfr (r := 21) rfl rfl (Nat.le_of_ble_eq_true rfl) rfl rfl ?_
      show xw _ _ _ _ 66 _ _ _ _
      refine w_call1 [.ref 21] [.ref (hl m4 12)] (by omega) rfl rfl rfl rfl rfl rfl (Nat.le_of_ble_eq_true rfl) (fun _ => xrc_ok rfl) (Nat.le_of_ble_eq_true rfl) rfl rfl (s_cY_state (by omega)) (fun r5 m6 => ?_)
      refine w_iload rfl rfl ?_
      refine w_call1 [.ref (hl m4 12), .int (i32 r5), .int (i32 r3)] [] (by omega) rfl rfl rfl rfl rfl rfl (Nat.le_of_ble_eq_true rfl) (fun _ => xrc_ok (rcH (hl_or _ _) rfl)) (Nat.le_of_ble_eq_true rfl) rfl rfl (s_cH_canPlay (by omega) (hl_or _ _)) (fun r7 m8 => ?_)
      refine w_if_eq (tg := 89) rfl rfl rfl ?_ ?_
      · refine w_aload_n rfl rfl ?_
        refine w_bipush rfl rfl ?_
        refine w_call0 [.ref 0, .int (i32 6)] [] (by omega) rfl rfl rfl rfl rfl rfl (Nat.le_of_ble_eq_true rfl) (fun _ => xrc_ok rfl) (Nat.le_of_ble_eq_true rfl) rfl rfl (s_cL_playOne (by omega)) (fun r9 m10 => ?_)
        exact w_weak [(0, .ref 0), (1, .int (i32 v1)), (2, .int (i32 v2)), (3, .int (i32 v3))] rfl ⟨rfl, rfl, rfl, rfl, trivial⟩ (s_cL_evening_95 (by omega) hk39)
      · refine w_aload_n rfl rfl ?_
        refine w_iload rfl rfl ?_
        refine w_call0 [.ref 0, .int (i32 r3)] [] (by omega) rfl rfl rfl rfl rfl rfl (Nat.le_of_ble_eq_true rfl) (fun _ => xrc_ok rfl) (Nat.le_of_ble_eq_true rfl) rfl rfl (s_cL_playOne (by omega)) (fun r11 m12 => ?_)
        refine w_iinc (lsd := [(2, .int (i32 (v2 + 1))), (4, .int (i32 r3)), (0, .ref 0), (1, .int (i32 v1)), (3, .int (i32 v3))]) rfl (Nat.le_of_ble_eq_true rfl) rfl rfl ?_
        refine w_goto (tg := 95) rfl rfl ?_
        exact w_weak [(0, .ref 0), (1, .int (i32 v1)), (2, .int (i32 (v2 + 1))), (3, .int (i32 v3))] rfl ⟨rfl, rfl, rfl, rfl, trivial⟩ (s_cL_evening_95 (by omega) hk39)
theorem s_cL_evening {d : Nat} {v1 : Int} {m : xm} (hd : 6 ≤ d) : xw (am_E L xs bz) d am_m170 1 0 [(0, .ref 0), (1, .int (i32 v1))] [] m (cL_evening v1 m) := by
  unfold cL_evening
  refine w_iload_n rfl rfl ?_
  refine w_iconst rfl ?_
  refine w_icmp_lt (tg := 22) rfl rfl rfl rfl ?_ ?_
  · exact w_weak [(0, .ref 0)] rfl ⟨rfl, trivial⟩ (s_cL_evening_22 (by omega))
  · refine w_iload_n rfl rfl ?_
    refine w_bipush rfl rfl ?_
    refine w_icmp_gt (tg := 22) rfl rfl rfl rfl ?_ ?_
    · exact w_weak [(0, .ref 0)] rfl ⟨rfl, trivial⟩ (s_cL_evening_22 (by omega))
    · refine w_aload_n rfl rfl ?_
      refine w_gfh rfl rfl rfl rfl ?_
      refine w_iconst rfl ?_
      refine w_call1 [.ref (hl m 12), .int (i32 1)] [] (by omega) rfl rfl rfl rfl rfl rfl (Nat.le_of_ble_eq_true rfl) (fun _ => xrc_ok (rcH (hl_or _ _) rfl)) (Nat.le_of_ble_eq_true rfl) rfl rfl (s_cH_count (by omega) (hl_or _ _)) (fun r1 m2 => ?_)
      refine w_if_ne (tg := 28) rfl rfl rfl ?_ ?_
      · refine w_aload_n rfl rfl ?_
        refine w_gfr (r := 21) rfl rfl (Nat.le_of_ble_eq_true rfl) rfl rfl ?_
        refine w_call0 [.ref 21] [] (by omega) rfl rfl rfl rfl rfl rfl (Nat.le_of_ble_eq_true rfl) (fun _ => xrc_ok rfl) (Nat.le_of_ble_eq_true rfl) rfl rfl (s_cY_beginAct (by omega)) (fun r3 m4 => ?_)
        refine w_iconst rfl ?_
        refine w_istore_n (lsd := [(2, .int (i32 0)), (0, .ref 0), (1, .int (i32 v1))]) rfl (Nat.le_of_ble_eq_true rfl) rfl ?_
        show xw _ _ _ _ 37 _ _ _ _
        refine w_iconst rfl ?_
        refine w_istore_n (lsd := [(3, .int (i32 0)), (2, .int (i32 0)), (0, .ref 0), (1, .int (i32 v1))]) rfl (Nat.le_of_ble_eq_true rfl) rfl ?_
        exact w_weak [(0, .ref 0), (1, .int (i32 v1)), (2, .int (i32 0)), (3, .int (i32 0))] rfl ⟨rfl, rfl, rfl, rfl, trivial⟩ (s_cL_evening_39 (by omega) _)
      · exact w_weak [(0, .ref 0)] rfl ⟨rfl, trivial⟩ (s_cL_evening_22 (by omega))
theorem s_cL_undo {d : Nat} {m : xm} (hd : 3 ≤ d) : xw (am_E L xs bz) d am_m172 1 0 [(0, .ref 0)] [] m (cL_undo m) := by
  unfold cL_undo
  refine w_aload_n rfl rfl ?_
  refine w_gfr (r := 21) rfl rfl (Nat.le_of_ble_eq_true rfl) rfl rfl ?_
  refine w_call1 [.ref 21] [] (by omega) rfl rfl rfl rfl rfl rfl (Nat.le_of_ble_eq_true rfl) (fun _ => xrc_ok rfl) (Nat.le_of_ble_eq_true rfl) rfl rfl (s_cY_undoAct (by omega)) (fun r1 m2 => ?_)
  refine w_if_ne (tg := 18) rfl rfl rfl ?_ ?_
  · refine w_iconst rfl ?_
    exact w_retv rfl rfl
  · refine w_aload_n rfl rfl ?_
    refine w_iconst rfl ?_
    refine w_call1 [.ref 0, .int (i32 4)] [] (by omega) rfl rfl rfl rfl rfl rfl (Nat.le_of_ble_eq_true rfl) (fun _ => xrc_ok rfl) (Nat.le_of_ble_eq_true rfl) rfl rfl (s_cL_refuse (by omega)) (fun r3 m4 => ?_)
    refine w_pop rfl rfl ?_
    refine w_iconst rfl ?_
    show xw _ _ _ _ 17 _ _ _ _
    exact w_retv rfl rfl
theorem s_cL_seed {d : Nat} {v1 : Int} {m : xm} (hd : 2 ≤ d) : xw (am_E L xs bz) d am_m173 1 0 [(0, .ref 0), (1, .int (i32 v1))] [] m (cL_seed v1 m) := by
  unfold cL_seed
  refine w_iload_n rfl rfl ?_
  refine w_if_ge (tg := 12) rfl rfl rfl ?_ ?_
  · refine w_aload_n rfl rfl ?_
    refine w_iload_n rfl rfl ?_
    refine w_i2l (x' := w32 v1) rfl rfl ?_
    refine w_pfl rfl rfl (Nat.le_of_ble_eq_true rfl) rfl rfl rfl (fun m1 => ?_)
    refine w_iconst rfl ?_
    show xw _ _ _ _ 19 _ _ _ _
    exact w_retv rfl rfl
  · refine w_aload_n rfl rfl ?_
    refine w_iconst rfl ?_
    refine w_call1 [.ref 0, .int (i32 5)] [] (by omega) rfl rfl rfl rfl rfl rfl (Nat.le_of_ble_eq_true rfl) (fun _ => xrc_ok rfl) (Nat.le_of_ble_eq_true rfl) rfl rfl (s_cL_refuse (by omega)) (fun r2 m3 => ?_)
    refine w_pop rfl rfl ?_
    refine w_iconst rfl ?_
    show xw _ _ _ _ 11 _ _ _ _
    exact w_retv rfl rfl
theorem s_cL_ask {d : Nat} {m : xm} (hd : 142 ≤ d) : xw (am_E L xs bz) d am_m174 2 0 [(0, .ref 0)] [] m (cL_ask m) := by
  unfold cL_ask
  refine w_aload_n rfl rfl ?_
  refine w_gfr (r := 6) rfl rfl (Nat.le_of_ble_eq_true rfl) rfl rfl ?_
  refine w_call1 [.ref 6] [] (by omega) rfl rfl rfl rfl rfl rfl (Nat.le_of_ble_eq_true rfl) (fun _ => xrc_ok rfl) (Nat.le_of_ble_eq_true rfl) rfl rfl (s_cQ_read (by omega)) (fun r1 m2 => ?_)
  refine w_istore_n (lsd := [(1, .int (i32 r1)), (0, .ref 0)]) rfl (Nat.le_of_ble_eq_true rfl) rfl ?_
  refine w_aload_n rfl rfl ?_
  show xw _ _ _ _ 9 _ _ _ _
  refine w_gfr (r := 1) rfl rfl (Nat.le_of_ble_eq_true rfl) rfl rfl ?_
  refine w_iconst rfl ?_
  refine w_call0 [.ref 1, .int (i32 0)] [] (by omega) rfl rfl rfl rfl rfl rfl (Nat.le_of_ble_eq_true rfl) (fun _ => xrc_ok rfl) (Nat.le_of_ble_eq_true rfl) rfl rfl (s_cT_cut (by omega)) (fun r3 m4 => ?_)
  refine w_iload_n rfl rfl ?_
  refine w_if_eq (tg := 41) rfl rfl rfl ?_ ?_
  · refine w_ldc2w (z := (-1000000000000000)) rfl rfl rfl ?_
    exact w_retv rfl rfl
  · refine w_aload_n rfl rfl ?_
    refine w_gfr (r := 6) rfl rfl (Nat.le_of_ble_eq_true rfl) rfl rfl ?_
    refine w_aload_n rfl rfl ?_
    refine w_gfh rfl rfl rfl rfl ?_
    refine w_aload_n rfl rfl ?_
    show xw _ _ _ _ 29 _ _ _ _
    refine w_gfr (r := 21) rfl rfl (Nat.le_of_ble_eq_true rfl) rfl rfl ?_
    refine w_call1 [.ref 21] [.ref (hl m4 12), .ref 6] (by omega) rfl rfl rfl rfl rfl rfl (Nat.le_of_ble_eq_true rfl) (fun _ => xrc_ok rfl) (Nat.le_of_ble_eq_true rfl) rfl rfl (s_cY_state (by omega)) (fun r5 m6 => ?_)
    refine w_call2 [.ref 6, .ref (hl m4 12), .int (i32 r5)] [] (by omega) rfl rfl rfl rfl rfl rfl (Nat.le_of_ble_eq_true rfl) (fun _ => xrc_ok rfl) (Nat.le_of_ble_eq_true rfl) rfl rfl (s_cQ_answer (by omega) (hl_or _ _)) (fun r7 m8 => ?_)
    refine w_goto (tg := 44) rfl rfl ?_
    exact w_retv rfl rfl
theorem s_cL_nextCheck {d : Nat} {v0 : Int} {v1 : Int} {m : xm} (hd : 0 ≤ d) : xw (am_E L xs bz) d am_m176 1 0 [(0, .int (i32 v0)), (1, .int (i32 v1))] [] m (cL_nextCheck v0 v1 m) := by
  unfold cL_nextCheck
  refine w_iconst rfl ?_
  refine w_iload_n rfl rfl ?_
  refine w_imul rfl ?_
  refine w_iload_n rfl rfl ?_
  refine w_iadd rfl ?_
  show xw _ _ _ _ 5 _ _ _ _
  refine w_sipush rfl rfl ?_
  refine w_iremc rfl (by decide) ?_
  exact w_retv rfl rfl
theorem s_cL_image_155 {d : Nat} (hd : 2 ≤ d) {v1 : Int} {v2 : Int} {m : xm} : xw (am_E L xs bz) d am_m175 1 155 [(0, .ref 0), (1, .int (i32 v1)), (2, .int (i32 v2))] [] m (cL_image_155 v1 v2 m) := by
  unfold cL_image_155
  refine w_aload_n rfl rfl ?_
  refine w_gfr (r := 46) rfl rfl (Nat.le_of_ble_eq_true rfl) rfl rfl ?_
  refine w_iload_n rfl rfl ?_
  refine w_iinc (lsd := [(1, .int (i32 (v1 + 1))), (0, .ref 0), (2, .int (i32 v2))]) rfl (Nat.le_of_ble_eq_true rfl) rfl rfl ?_
  refine w_iload_n rfl rfl ?_
  show xw _ _ _ _ 164 _ _ _ _
  refine w_call0 [.ref 46, .int (i32 v1), .int (i32 v2)] [] (by omega) rfl rfl rfl rfl rfl rfl (Nat.le_of_ble_eq_true rfl) (fun z => by cases z) (Nat.le_of_ble_eq_true rfl) rfl rfl (s_cL_setCell (by omega) rfl) (fun r1 m2 => ?_)
  refine w_aload_n rfl rfl ?_
  refine w_iload_n rfl rfl ?_
  refine w_pfi rfl rfl (Nat.le_of_ble_eq_true rfl) rfl rfl rfl (fun m3 => ?_)
  refine w_iload_n rfl rfl ?_
  exact w_retv rfl rfl
theorem s_cL_image_131 {d : Nat} (hd : 2 ≤ d) : ∀ (n : Nat) {v1 : Int} {v2 : Int} {v3 : Int} {m : xm}, xw (am_E L xs bz) d am_m175 1 131 [(0, .ref 0), (1, .int (i32 v1)), (2, .int (i32 v2)), (3, .int (i32 v3))] [] m (cL_image_131 n v1 v2 v3 m) := by
  intro n
  induction n with
  | zero => intros; exact w_none
  | succ n ih =>
    intro v1 v2 v3 m
    have hk131 := fun (v1 v2 v3 : Int) (m : xm) => @ih v1 v2 v3 m
    unfold cL_image_131
    refine w_iload_n rfl rfl ?_
    refine w_iload_n rfl rfl ?_
    refine w_icmp_ge (tg := 155) rfl rfl rfl rfl ?_ ?_
    · exact w_weak [(0, .ref 0), (1, .int (i32 v1)), (2, .int (i32 v2))] rfl ⟨rfl, rfl, rfl, trivial⟩ (s_cL_image_155 (by omega))
    · refine w_iload_n rfl rfl ?_
      refine w_aload_n rfl rfl ?_
      refine w_gfr (r := 46) rfl rfl (Nat.le_of_ble_eq_true rfl) rfl rfl ?_
      refine w_iload_n rfl rfl ?_
      refine w_call1 [.ref 46, .int (i32 v3)] [.int (i32 v2)] (by omega) rfl rfl rfl rfl rfl rfl (Nat.le_of_ble_eq_true rfl) (fun z => by cases z) (Nat.le_of_ble_eq_true rfl) rfl rfl (s_cL_cell (by omega) rfl) (fun r1 m2 => ?_)
      show xw _ _ _ _ 145 _ _ _ _
      refine w_call1 [.int (i32 v2), .int (i32 r1)] [] (by omega) rfl rfl rfl rfl rfl rfl (Nat.le_of_ble_eq_true rfl) (fun z => by cases z) (Nat.le_of_ble_eq_true rfl) rfl rfl (s_cL_nextCheck (by omega)) (fun r3 m4 => ?_)
      refine w_istore_n (lsd := [(2, .int (i32 r3)), (0, .ref 0), (1, .int (i32 v1)), (3, .int (i32 v3))]) rfl (Nat.le_of_ble_eq_true rfl) rfl ?_
      refine w_iinc (lsd := [(3, .int (i32 (v3 + 1))), (2, .int (i32 r3)), (0, .ref 0), (1, .int (i32 v1))]) rfl (Nat.le_of_ble_eq_true rfl) rfl rfl ?_
      refine w_goto (tg := 131) rfl rfl ?_
      exact w_weak [(0, .ref 0), (1, .int (i32 v1)), (2, .int (i32 r3)), (3, .int (i32 (v3 + 1)))] rfl ⟨rfl, rfl, rfl, rfl, trivial⟩ (hk131 v1 r3 (v3 + 1) m4)
theorem s_cL_image_126 {d : Nat} (hd : 2 ≤ d) {v1 : Int} {m : xm} : xw (am_E L xs bz) d am_m175 1 126 [(0, .ref 0), (1, .int (i32 v1))] [] m (cL_image_126 v1 m) := by
  unfold cL_image_126
  refine w_bipush rfl rfl ?_
  refine w_istore_n (lsd := [(2, .int (i32 11)), (0, .ref 0), (1, .int (i32 v1))]) rfl (Nat.le_of_ble_eq_true rfl) rfl ?_
  refine w_iconst rfl ?_
  refine w_istore_n (lsd := [(3, .int (i32 0)), (2, .int (i32 11)), (0, .ref 0), (1, .int (i32 v1))]) rfl (Nat.le_of_ble_eq_true rfl) rfl ?_
  exact w_weak [(0, .ref 0), (1, .int (i32 v1)), (2, .int (i32 11)), (3, .int (i32 0))] rfl ⟨rfl, rfl, rfl, rfl, trivial⟩ (s_cL_image_131 (by omega) _)
theorem s_cL_image_117 {d : Nat} {k48 : Int → Int → xm → xr} (hd : 2 ≤ d) (hk48 : ∀ (v1 v2 : Int) (m : xm), xw (am_E L xs bz) d am_m175 1 48 [(0, .ref 0), (1, .int (i32 v1)), (2, .int (i32 v2))] [] m (k48 v1 v2 m)) {v1 : Int} {v2 : Int} {s1 : Int} {s2 : Int} {m : xm} : xw (am_E L xs bz) d am_m175 1 117 [(0, .ref 0), (1, .int (i32 v1)), (2, .int (i32 v2))] [.int (i32 s2), .int (i32 s1), .ref 46] m (cL_image_117 k48 v1 v2 s1 s2 m) := by
  unfold cL_image_117
  refine w_call0 [.ref 46, .int (i32 s1), .int (i32 s2)] [] (by omega) rfl rfl rfl rfl rfl rfl (Nat.le_of_ble_eq_true rfl) (fun z => by cases z) (Nat.le_of_ble_eq_true rfl) rfl rfl (s_cL_setCell (by omega) rfl) (fun r1 m2 => ?_)
  refine w_iinc (lsd := [(2, .int (i32 (v2 + 1))), (0, .ref 0), (1, .int (i32 v1))]) rfl (Nat.le_of_ble_eq_true rfl) rfl rfl ?_
  refine w_goto (tg := 48) rfl rfl ?_
  exact w_weak [(0, .ref 0), (1, .int (i32 v1)), (2, .int (i32 (v2 + 1)))] rfl ⟨rfl, rfl, rfl, trivial⟩ (hk48 v1 (v2 + 1) m2)
theorem s_cL_image_48 {d : Nat} (hd : 2 ≤ d) : ∀ (n : Nat) {v1 : Int} {v2 : Int} {m : xm}, xw (am_E L xs bz) d am_m175 1 48 [(0, .ref 0), (1, .int (i32 v1)), (2, .int (i32 v2))] [] m (cL_image_48 n v1 v2 m) := by
  intro n
  induction n with
  | zero => intros; exact w_none
  | succ n ih =>
    intro v1 v2 m
    have hk48 := fun (v1 v2 : Int) (m : xm) => @ih v1 v2 m
    unfold cL_image_48
    refine w_iload_n rfl rfl ?_
    refine w_aload_n rfl rfl ?_
    refine w_gfh rfl rfl rfl rfl ?_
    refine w_iconst rfl ?_
    refine w_call1 [.ref (hl m 12), .int (i32 0)] [.int (i32 v2)] (by omega) rfl rfl rfl rfl rfl rfl (Nat.le_of_ble_eq_true rfl) (fun _ => xrc_ok (rcH (hl_or _ _) rfl)) (Nat.le_of_ble_eq_true rfl) rfl rfl (s_cH_count (by omega) (hl_or _ _)) (fun r1 m2 => ?_)
    show xw _ _ _ _ 57 _ _ _ _
    refine w_icmp_ge (tg := 126) rfl rfl rfl rfl ?_ ?_
    · exact w_weak [(0, .ref 0), (1, .int (i32 v1))] rfl ⟨rfl, rfl, trivial⟩ (s_cL_image_126 (by omega))
    · refine w_aload_n rfl rfl ?_
      refine w_gfr (r := 46) rfl rfl (Nat.le_of_ble_eq_true rfl) rfl rfl ?_
      refine w_iload_n rfl rfl ?_
      refine w_iinc (lsd := [(1, .int (i32 (v1 + 1))), (0, .ref 0), (2, .int (i32 v2))]) rfl (Nat.le_of_ble_eq_true rfl) rfl rfl ?_
      refine w_aload_n rfl rfl ?_
      show xw _ _ _ _ 69 _ _ _ _
      refine w_gfh rfl rfl rfl rfl ?_
      refine w_aload_n rfl rfl ?_
      refine w_gfr (r := 21) rfl rfl (Nat.le_of_ble_eq_true rfl) rfl rfl ?_
      refine w_call1 [.ref 21] [.ref (hl m2 12), .int (i32 v1), .ref 46] (by omega) rfl rfl rfl rfl rfl rfl (Nat.le_of_ble_eq_true rfl) (fun _ => xrc_ok rfl) (Nat.le_of_ble_eq_true rfl) rfl rfl (s_cY_state (by omega)) (fun r3 m4 => ?_)
      refine w_iload_n rfl rfl ?_
      refine w_call1 [.ref (hl m2 12), .int (i32 r3), .int (i32 v2)] [.int (i32 v1), .ref 46] (by omega) rfl rfl rfl rfl rfl rfl (Nat.le_of_ble_eq_true rfl) (fun _ => xrc_ok (rcH (hl_or _ _) rfl)) (Nat.le_of_ble_eq_true rfl) rfl rfl (s_cH_wardOf (by omega) (hl_or _ _)) (fun r5 m6 => ?_)
      show xw _ _ _ _ 83 _ _ _ _
      refine w_call0 [.ref 46, .int (i32 v1), .int (i32 r5)] [] (by omega) rfl rfl rfl rfl rfl rfl (Nat.le_of_ble_eq_true rfl) (fun z => by cases z) (Nat.le_of_ble_eq_true rfl) rfl rfl (s_cL_setCell (by omega) rfl) (fun r7 m8 => ?_)
      refine w_aload_n rfl rfl ?_
      refine w_gfr (r := 46) rfl rfl (Nat.le_of_ble_eq_true rfl) rfl rfl ?_
      refine w_iload_n rfl rfl ?_
      refine w_iinc (lsd := [(1, .int (i32 ((v1 + 1) + 1))), (0, .ref 0), (2, .int (i32 v2))]) rfl (Nat.le_of_ble_eq_true rfl) rfl rfl ?_
      refine w_aload_n rfl rfl ?_
      show xw _ _ _ _ 95 _ _ _ _
      refine w_gfh rfl rfl rfl rfl ?_
      refine w_aload_n rfl rfl ?_
      refine w_gfr (r := 21) rfl rfl (Nat.le_of_ble_eq_true rfl) rfl rfl ?_
      refine w_call1 [.ref 21] [.ref (hl m8 12), .int (i32 (v1 + 1)), .ref 46] (by omega) rfl rfl rfl rfl rfl rfl (Nat.le_of_ble_eq_true rfl) (fun _ => xrc_ok rfl) (Nat.le_of_ble_eq_true rfl) rfl rfl (s_cY_state (by omega)) (fun r9 m10 => ?_)
      refine w_iload_n rfl rfl ?_
      refine w_call1 [.ref (hl m8 12), .int (i32 r9), .int (i32 v2)] [.int (i32 (v1 + 1)), .ref 46] (by omega) rfl rfl rfl rfl rfl rfl (Nat.le_of_ble_eq_true rfl) (fun _ => xrc_ok (rcH (hl_or _ _) rfl)) (Nat.le_of_ble_eq_true rfl) rfl rfl (s_cH_isJammed (by omega) (hl_or _ _)) (fun r11 m12 => ?_)
      show xw _ _ _ _ 109 _ _ _ _
      refine w_if_eq (tg := 116) rfl rfl rfl ?_ ?_
      · refine w_iconst rfl ?_
        exact w_weak [(0, .ref 0), (1, .int (i32 ((v1 + 1) + 1))), (2, .int (i32 v2))] rfl ⟨rfl, rfl, rfl, trivial⟩ (s_cL_image_117 (by omega) hk48)
      · refine w_iconst rfl ?_
        refine w_goto (tg := 117) rfl rfl ?_
        exact w_weak [(0, .ref 0), (1, .int (i32 ((v1 + 1) + 1))), (2, .int (i32 v2))] rfl ⟨rfl, rfl, rfl, trivial⟩ (s_cL_image_117 (by omega) hk48)
theorem s_cL_image {d : Nat} {m : xm} (hd : 2 ≤ d) : xw (am_E L xs bz) d am_m175 1 0 [(0, .ref 0)] [] m (cL_image m) := by
  unfold cL_image
  refine w_iconst rfl ?_
  refine w_istore_n (lsd := [(1, .int (i32 0)), (0, .ref 0)]) rfl (Nat.le_of_ble_eq_true rfl) rfl ?_
  refine w_aload_n rfl rfl ?_
  refine w_gfr (r := 46) rfl rfl (Nat.le_of_ble_eq_true rfl) rfl rfl ?_
  refine w_iload_n rfl rfl ?_
  show xw _ _ _ _ 7 _ _ _ _
  refine w_iinc (lsd := [(1, .int (i32 (0 + 1))), (0, .ref 0)]) rfl (Nat.le_of_ble_eq_true rfl) rfl rfl ?_
  refine w_aload_n rfl rfl ?_
  refine w_gfr (r := 21) rfl rfl (Nat.le_of_ble_eq_true rfl) rfl rfl ?_
  refine w_call1 [.ref 21] [.int (i32 0), .ref 46] (by omega) rfl rfl rfl rfl rfl rfl (Nat.le_of_ble_eq_true rfl) (fun _ => xrc_ok rfl) (Nat.le_of_ble_eq_true rfl) rfl rfl (s_cY_played (by omega)) (fun r1 m2 => ?_)
  refine w_sipush rfl rfl ?_
  refine w_idivc rfl (by decide) ?_
  show xw _ _ _ _ 21 _ _ _ _
  refine w_call0 [.ref 46, .int (i32 0), .int (i32 (idv r1 256))] [] (by omega) rfl rfl rfl rfl rfl rfl (Nat.le_of_ble_eq_true rfl) (fun z => by cases z) (Nat.le_of_ble_eq_true rfl) rfl rfl (s_cL_setCell (by omega) rfl) (fun r3 m4 => ?_)
  refine w_aload_n rfl rfl ?_
  refine w_gfr (r := 46) rfl rfl (Nat.le_of_ble_eq_true rfl) rfl rfl ?_
  refine w_iload_n rfl rfl ?_
  refine w_iinc (lsd := [(1, .int (i32 ((0 + 1) + 1))), (0, .ref 0)]) rfl (Nat.le_of_ble_eq_true rfl) rfl rfl ?_
  refine w_aload_n rfl rfl ?_
  show xw _ _ _ _ 33 _ _ _ _
  refine w_gfr (r := 21) rfl rfl (Nat.le_of_ble_eq_true rfl) rfl rfl ?_
  refine w_call1 [.ref 21] [.int (i32 (0 + 1)), .ref 46] (by omega) rfl rfl rfl rfl rfl rfl (Nat.le_of_ble_eq_true rfl) (fun _ => xrc_ok rfl) (Nat.le_of_ble_eq_true rfl) rfl rfl (s_cY_played (by omega)) (fun r5 m6 => ?_)
  refine w_sipush rfl rfl ?_
  refine w_iremc rfl (by decide) ?_
  refine w_call0 [.ref 46, .int (i32 (0 + 1)), .int (i32 (irm r5 256))] [] (by omega) rfl rfl rfl rfl rfl rfl (Nat.le_of_ble_eq_true rfl) (fun z => by cases z) (Nat.le_of_ble_eq_true rfl) rfl rfl (s_cL_setCell (by omega) rfl) (fun r7 m8 => ?_)
  refine w_iconst rfl ?_
  show xw _ _ _ _ 47 _ _ _ _
  refine w_istore_n (lsd := [(2, .int (i32 0)), (1, .int (i32 ((0 + 1) + 1))), (0, .ref 0)]) rfl (Nat.le_of_ble_eq_true rfl) rfl ?_
  exact w_weak [(0, .ref 0), (1, .int (i32 ((0 + 1) + 1))), (2, .int (i32 0))] rfl ⟨rfl, rfl, rfl, trivial⟩ (s_cL_image_48 (by omega) _)
theorem s_cL_octet {d : Nat} {v1 : Int} {m : xm} (hd : 1 ≤ d) : xw (am_E L xs bz) d am_m177 1 0 [(0, .ref 0), (1, .int (i32 v1))] [] m (cL_octet v1 m) := by
  unfold cL_octet
  refine w_iload_n rfl rfl ?_
  refine w_if_lt (tg := 23) rfl rfl rfl ?_ ?_
  · refine w_iconst rfl ?_
    exact w_retv rfl rfl
  · refine w_iload_n rfl rfl ?_
    refine w_aload_n rfl rfl ?_
    refine w_gfi rfl rfl (Nat.le_of_ble_eq_true rfl) rfl rfl ?_
    refine w_icmp_ge (tg := 23) rfl rfl rfl (w32_ld _ _ _) ?_ ?_
    · refine w_iconst rfl ?_
      exact w_retv rfl rfl
    · refine w_aload_n rfl rfl ?_
      refine w_gfr (r := 46) rfl rfl (Nat.le_of_ble_eq_true rfl) rfl rfl ?_
      refine w_iload_n rfl rfl ?_
      refine w_call1 [.ref 46, .int (i32 v1)] [] (by omega) rfl rfl rfl rfl rfl rfl (Nat.le_of_ble_eq_true rfl) (fun z => by cases z) (Nat.le_of_ble_eq_true rfl) rfl rfl (s_cL_cell (by omega) rfl) (fun r1 m2 => ?_)
      refine w_goto (tg := 24) rfl rfl ?_
      show xw _ _ _ _ 24 _ _ _ _
      exact w_retv rfl rfl
theorem s_cL_imagedState_182 {d : Nat} {k84 : Int → Int → xm → xr} (hd : 3 ≤ d) (hk84 : ∀ (v3 v4 : Int) (m : xm), xw (am_E L xs bz) d am_m179 1 84 [(0, .ref 0), (3, .int (i32 v3)), (4, .int (i32 v4))] [] m (k84 v3 v4 m)) {v4 : Int} {s0 : Int} {m : xm} : xw (am_E L xs bz) d am_m179 1 182 [(0, .ref 0), (4, .int (i32 v4))] [.int (i32 s0)] m (cL_imagedState_182 k84 v4 s0 m) := by
  unfold cL_imagedState_182
  refine w_letI (fun x1 => ?_)
  refine w_istore_n (lsd := [(3, .int (i32 x1)), (0, .ref 0), (4, .int (i32 v4))]) rfl (Nat.le_of_ble_eq_true rfl) rfl ?_
  refine w_iinc (lsd := [(4, .int (i32 (v4 + 1))), (3, .int (i32 x1)), (0, .ref 0)]) rfl (Nat.le_of_ble_eq_true rfl) rfl rfl ?_
  refine w_goto (tg := 84) rfl rfl ?_
  exact w_weak [(0, .ref 0), (3, .int (i32 x1)), (4, .int (i32 (v4 + 1)))] rfl ⟨rfl, rfl, rfl, trivial⟩ (hk84 x1 (v4 + 1) m)
theorem s_cL_imagedState_84 {d : Nat} (hd : 3 ≤ d) : ∀ (n : Nat) {v3 : Int} {v4 : Int} {m : xm}, xw (am_E L xs bz) d am_m179 1 84 [(0, .ref 0), (3, .int (i32 v3)), (4, .int (i32 v4))] [] m (cL_imagedState_84 n v3 v4 m) := by
  intro n
  induction n with
  | zero => intros; exact w_none
  | succ n ih =>
    intro v3 v4 m
    have hk84 := fun (v3 v4 : Int) (m : xm) => @ih v3 v4 m
    unfold cL_imagedState_84
    refine w_iload rfl rfl ?_
    refine w_aload_n rfl rfl ?_
    refine w_gfh rfl rfl rfl rfl ?_
    refine w_iconst rfl ?_
    refine w_call1 [.ref (hl m 12), .int (i32 0)] [.int (i32 v4)] (by omega) rfl rfl rfl rfl rfl rfl (Nat.le_of_ble_eq_true rfl) (fun _ => xrc_ok (rcH (hl_or _ _) rfl)) (Nat.le_of_ble_eq_true rfl) rfl rfl (s_cH_count (by omega) (hl_or _ _)) (fun r1 m2 => ?_)
    show xw _ _ _ _ 94 _ _ _ _
    refine w_icmp_ge (tg := 189) rfl rfl rfl rfl ?_ ?_
    · refine w_iload_n rfl rfl ?_
      exact w_retv rfl rfl
    · refine w_aload_n rfl rfl ?_
      refine w_gfr (r := 1) rfl rfl (Nat.le_of_ble_eq_true rfl) rfl rfl ?_
      refine w_iconst rfl ?_
      refine w_iconst rfl ?_
      refine w_iload rfl rfl ?_
      show xw _ _ _ _ 105 _ _ _ _
      refine w_imul rfl ?_
      refine w_iadd rfl ?_
      refine w_call1 [.ref 1, .int (i32 (2 + (2 * v4)))] [] (by omega) rfl rfl rfl rfl rfl rfl (Nat.le_of_ble_eq_true rfl) (fun _ => xrc_ok rfl) (Nat.le_of_ble_eq_true rfl) rfl rfl (s_cT_byteAt (by omega)) (fun r3 m4 => ?_)
      refine w_istore (lsd := [(5, .int (i32 r3)), (0, .ref 0), (3, .int (i32 v3)), (4, .int (i32 v4))]) rfl (Nat.le_of_ble_eq_true rfl) rfl ?_
      refine w_aload_n rfl rfl ?_
      refine w_gfr (r := 1) rfl rfl (Nat.le_of_ble_eq_true rfl) rfl rfl ?_
      show xw _ _ _ _ 116 _ _ _ _
      refine w_iconst rfl ?_
      refine w_iconst rfl ?_
      refine w_iload rfl rfl ?_
      refine w_imul rfl ?_
      refine w_iadd rfl ?_
      refine w_call1 [.ref 1, .int (i32 (3 + (2 * v4)))] [] (by omega) rfl rfl rfl rfl rfl rfl (Nat.le_of_ble_eq_true rfl) (fun _ => xrc_ok rfl) (Nat.le_of_ble_eq_true rfl) rfl rfl (s_cT_byteAt (by omega)) (fun r5 m6 => ?_)
      show xw _ _ _ _ 125 _ _ _ _
      refine w_istore (lsd := [(6, .int (i32 r5)), (5, .int (i32 r3)), (0, .ref 0), (3, .int (i32 v3)), (4, .int (i32 v4))]) rfl (Nat.le_of_ble_eq_true rfl) rfl ?_
      refine w_iload rfl rfl ?_
      refine w_aload_n rfl rfl ?_
      refine w_gfh rfl rfl rfl rfl ?_
      refine w_iload rfl rfl ?_
      refine w_call1 [.ref (hl m6 12), .int (i32 v4)] [.int (i32 r3)] (by omega) rfl rfl rfl rfl rfl rfl (Nat.le_of_ble_eq_true rfl) (fun _ => xrc_ok (rcH (hl_or _ _) rfl)) (Nat.le_of_ble_eq_true rfl) rfl rfl (s_cH_wardsOf (by omega) (hl_or _ _)) (fun r7 m8 => ?_)
      show xw _ _ _ _ 138 _ _ _ _
      refine w_icmp_ge (tg := 147) rfl rfl rfl rfl ?_ ?_
      · refine w_iconst rfl ?_
        exact w_retv rfl rfl
      · refine w_iload rfl rfl ?_
        refine w_iconst rfl ?_
        refine w_icmp_le (tg := 149) rfl rfl rfl rfl ?_ ?_
        · refine w_aload_n rfl rfl ?_
          refine w_gfh rfl rfl rfl rfl ?_
          refine w_iload_n rfl rfl ?_
          refine w_iload rfl rfl ?_
          refine w_iload rfl rfl ?_
          show xw _ _ _ _ 158 _ _ _ _
          refine w_call1 [.ref (hl m8 12), .int (i32 v3), .int (i32 v4), .int (i32 r3)] [] (by omega) rfl rfl rfl rfl rfl rfl (Nat.le_of_ble_eq_true rfl) (fun _ => xrc_ok (rcH (hl_or _ _) rfl)) (Nat.le_of_ble_eq_true rfl) rfl rfl (s_cH_withWard (by omega) (hl_or _ _)) (fun r9 m10 => ?_)
          refine w_istore_n (lsd := [(3, .int (i32 r9)), (6, .int (i32 r5)), (5, .int (i32 r3)), (0, .ref 0), (4, .int (i32 v4))]) rfl (Nat.le_of_ble_eq_true rfl) rfl ?_
          refine w_iload rfl rfl ?_
          refine w_iconst rfl ?_
          refine w_icmp_ne (tg := 181) rfl rfl rfl rfl ?_ ?_
          · refine w_iload_n rfl rfl ?_
            exact w_weak [(0, .ref 0), (4, .int (i32 v4))] rfl ⟨rfl, rfl, trivial⟩ (s_cL_imagedState_182 (by omega) hk84)
          · refine w_aload_n rfl rfl ?_
            refine w_gfh rfl rfl rfl rfl ?_
            refine w_iload_n rfl rfl ?_
            refine w_iload rfl rfl ?_
            refine w_call1 [.ref (hl m10 12), .int (i32 r9), .int (i32 v4)] [] (by omega) rfl rfl rfl rfl rfl rfl (Nat.le_of_ble_eq_true rfl) (fun _ => xrc_ok (rcH (hl_or _ _) rfl)) (Nat.le_of_ble_eq_true rfl) rfl rfl (s_cH_withJam (by omega) (hl_or _ _)) (fun r11 m12 => ?_)
            show xw _ _ _ _ 178 _ _ _ _
            refine w_goto (tg := 182) rfl rfl ?_
            exact w_weak [(0, .ref 0), (4, .int (i32 v4))] rfl ⟨rfl, rfl, trivial⟩ (s_cL_imagedState_182 (by omega) hk84)
        · refine w_iconst rfl ?_
          exact w_retv rfl rfl
theorem s_cL_imagedState_57 {d : Nat} (hd : 3 ≤ d) {v1 : Int} {v2 : Int} {m : xm} : xw (am_E L xs bz) d am_m179 1 57 [(0, .ref 0), (1, .int (i32 v1)), (2, .int (i32 v2))] [] m (cL_imagedState_57 v1 v2 m) := by
  unfold cL_imagedState_57
  refine w_iload_n rfl rfl ?_
  refine w_aload_n rfl rfl ?_
  refine w_gfr (r := 1) rfl rfl (Nat.le_of_ble_eq_true rfl) rfl rfl ?_
  refine w_iload_n rfl rfl ?_
  refine w_iconst rfl ?_
  show xw _ _ _ _ 64 _ _ _ _
  refine w_isub rfl ?_
  refine w_call1 [.ref 1, .int (i32 (v1 - 1))] [.int (i32 v2)] (by omega) rfl rfl rfl rfl rfl rfl (Nat.le_of_ble_eq_true rfl) (fun _ => xrc_ok rfl) (Nat.le_of_ble_eq_true rfl) rfl rfl (s_cT_byteAt (by omega)) (fun r1 m2 => ?_)
  refine w_icmp_eq (tg := 73) rfl rfl rfl rfl ?_ ?_
  · refine w_aload_n rfl rfl ?_
    refine w_gfh rfl rfl rfl rfl ?_
    refine w_call1 [.ref (hl m2 12)] [] (by omega) rfl rfl rfl rfl rfl rfl (Nat.le_of_ble_eq_true rfl) (fun _ => xrc_ok (rcH (hl_or _ _) rfl)) (Nat.le_of_ble_eq_true rfl) rfl rfl (s_cH_firstState (by omega) (hl_or _ _)) (fun r3 m4 => ?_)
    refine w_istore_n (lsd := [(3, .int (i32 r3)), (0, .ref 0), (1, .int (i32 v1)), (2, .int (i32 v2))]) rfl (Nat.le_of_ble_eq_true rfl) rfl ?_
    refine w_iconst rfl ?_
    show xw _ _ _ _ 82 _ _ _ _
    refine w_istore (lsd := [(4, .int (i32 0)), (3, .int (i32 r3)), (0, .ref 0), (1, .int (i32 v1)), (2, .int (i32 v2))]) rfl (Nat.le_of_ble_eq_true rfl) rfl ?_
    exact w_weak [(0, .ref 0), (3, .int (i32 r3)), (4, .int (i32 0))] rfl ⟨rfl, rfl, rfl, trivial⟩ (s_cL_imagedState_84 (by omega) _)
  · refine w_iconst rfl ?_
    exact w_retv rfl rfl
theorem s_cL_imagedState_31 {d : Nat} (hd : 3 ≤ d) : ∀ (n : Nat) {v1 : Int} {v2 : Int} {v3 : Int} {m : xm}, xw (am_E L xs bz) d am_m179 1 31 [(0, .ref 0), (1, .int (i32 v1)), (2, .int (i32 v2)), (3, .int (i32 v3))] [] m (cL_imagedState_31 n v1 v2 v3 m) := by
  intro n
  induction n with
  | zero => intros; exact w_none
  | succ n ih =>
    intro v1 v2 v3 m
    have hk31 := fun (v1 v2 v3 : Int) (m : xm) => @ih v1 v2 v3 m
    unfold cL_imagedState_31
    refine w_iload_n rfl rfl ?_
    refine w_iload_n rfl rfl ?_
    refine w_iconst rfl ?_
    refine w_isub rfl ?_
    refine w_icmp_ge (tg := 57) rfl rfl rfl rfl ?_ ?_
    · exact w_weak [(0, .ref 0), (1, .int (i32 v1)), (2, .int (i32 v2))] rfl ⟨rfl, rfl, rfl, trivial⟩ (s_cL_imagedState_57 (by omega))
    · refine w_iload_n rfl rfl ?_
      refine w_aload_n rfl rfl ?_
      refine w_gfr (r := 1) rfl rfl (Nat.le_of_ble_eq_true rfl) rfl rfl ?_
      refine w_iload_n rfl rfl ?_
      refine w_call1 [.ref 1, .int (i32 v3)] [.int (i32 v2)] (by omega) rfl rfl rfl rfl rfl rfl (Nat.le_of_ble_eq_true rfl) (fun _ => xrc_ok rfl) (Nat.le_of_ble_eq_true rfl) rfl rfl (s_cT_byteAt (by omega)) (fun r1 m2 => ?_)
      show xw _ _ _ _ 47 _ _ _ _
      refine w_call1 [.int (i32 v2), .int (i32 r1)] [] (by omega) rfl rfl rfl rfl rfl rfl (Nat.le_of_ble_eq_true rfl) (fun z => by cases z) (Nat.le_of_ble_eq_true rfl) rfl rfl (s_cL_nextCheck (by omega)) (fun r3 m4 => ?_)
      refine w_istore_n (lsd := [(2, .int (i32 r3)), (0, .ref 0), (1, .int (i32 v1)), (3, .int (i32 v3))]) rfl (Nat.le_of_ble_eq_true rfl) rfl ?_
      refine w_iinc (lsd := [(3, .int (i32 (v3 + 1))), (2, .int (i32 r3)), (0, .ref 0), (1, .int (i32 v1))]) rfl (Nat.le_of_ble_eq_true rfl) rfl rfl ?_
      refine w_goto (tg := 31) rfl rfl ?_
      exact w_weak [(0, .ref 0), (1, .int (i32 v1)), (2, .int (i32 r3)), (3, .int (i32 (v3 + 1)))] rfl ⟨rfl, rfl, rfl, rfl, trivial⟩ (hk31 v1 r3 (v3 + 1) m4)
theorem s_cL_imagedState {d : Nat} {m : xm} (hd : 3 ≤ d) : xw (am_E L xs bz) d am_m179 1 0 [(0, .ref 0)] [] m (cL_imagedState m) := by
  unfold cL_imagedState
  refine w_iconst rfl ?_
  refine w_iconst rfl ?_
  refine w_aload_n rfl rfl ?_
  refine w_gfh rfl rfl rfl rfl ?_
  refine w_iconst rfl ?_
  show xw _ _ _ _ 7 _ _ _ _
  refine w_call1 [.ref (hl m 12), .int (i32 0)] [.int (i32 2), .int (i32 3)] (by omega) rfl rfl rfl rfl rfl rfl (Nat.le_of_ble_eq_true rfl) (fun _ => xrc_ok (rcH (hl_or _ _) rfl)) (Nat.le_of_ble_eq_true rfl) rfl rfl (s_cH_count (by omega) (hl_or _ _)) (fun r1 m2 => ?_)
  refine w_imul rfl ?_
  refine w_iadd rfl ?_
  refine w_letI (fun x3 => ?_)
  refine w_istore_n (lsd := [(1, .int (i32 x3)), (0, .ref 0)]) rfl (Nat.le_of_ble_eq_true rfl) rfl ?_
  refine w_aload_n rfl rfl ?_
  refine w_gfr (r := 1) rfl rfl (Nat.le_of_ble_eq_true rfl) rfl rfl ?_
  show xw _ _ _ _ 17 _ _ _ _
  refine w_call1 [.ref 1] [] (by omega) rfl rfl rfl rfl rfl rfl (Nat.le_of_ble_eq_true rfl) (fun _ => xrc_ok rfl) (Nat.le_of_ble_eq_true rfl) rfl rfl (s_cT_length (by omega)) (fun r4 m5 => ?_)
  refine w_iload_n rfl rfl ?_
  refine w_icmp_eq (tg := 26) rfl rfl rfl rfl ?_ ?_
  · refine w_bipush rfl rfl ?_
    refine w_istore_n (lsd := [(2, .int (i32 11)), (1, .int (i32 x3)), (0, .ref 0)]) rfl (Nat.le_of_ble_eq_true rfl) rfl ?_
    refine w_iconst rfl ?_
    refine w_istore_n (lsd := [(3, .int (i32 0)), (2, .int (i32 11)), (1, .int (i32 x3)), (0, .ref 0)]) rfl (Nat.le_of_ble_eq_true rfl) rfl ?_
    exact w_weak [(0, .ref 0), (1, .int (i32 x3)), (2, .int (i32 11)), (3, .int (i32 0))] rfl ⟨rfl, rfl, rfl, rfl, trivial⟩ (s_cL_imagedState_31 (by omega) _)
  · refine w_iconst rfl ?_
    exact w_retv rfl rfl
end S04
