section S02
variable {L : Nat} {xs : Nat → Int32} {bz : Bool}
theorem s_cW_nameHere_15 {d : Nat} (hd : 8 ≤ d) {m : xm} : xw (am_E L xs bz) d am_m125 1 15 [(0, .ref 3)] [] m (cW_nameHere_15 m) := by
  unfold cW_nameHere_15
  refine w_aload_n rfl rfl ?_
  refine w_iconst rfl ?_
  refine w_call0 [.ref 3, .int (i32 1)] [] (by omega) rfl rfl rfl rfl rfl rfl (Nat.le_of_ble_eq_true rfl) (fun _ => xrc_ok rfl) (Nat.le_of_ble_eq_true rfl) rfl rfl (s_cW_failHere (by omega)) (fun r1 m2 => ?_)
  refine w_iconst rfl ?_
  exact w_retv rfl rfl
theorem s_cW_nameHere_57 {d : Nat} (hd : 8 ≤ d) : ∀ (n : Nat) {v1 : Int} {v2 : Int} {m : xm}, xw (am_E L xs bz) d am_m125 1 57 [(0, .ref 3), (1, .int (i32 v1)), (2, .int (i32 v2))] [] m (cW_nameHere_57 n v1 v2 m) := by
  intro n
  induction n with
  | zero => intros; exact w_none
  | succ n ih =>
    intro v1 v2 m
    have hk57 := fun (v1 v2 : Int) (m : xm) => @ih v1 v2 m
    unfold cW_nameHere_57
    refine w_iload_n rfl rfl ?_
    refine w_aload_n rfl rfl ?_
    refine w_gfi rfl rfl (Nat.le_of_ble_eq_true rfl) rfl rfl ?_
    refine w_icmp_ge (tg := 96) rfl rfl rfl (w32_ld _ _ _) ?_ ?_
    · refine w_iload_n rfl rfl ?_
      exact w_retv rfl rfl
    · refine w_iload_n rfl rfl ?_
      refine w_aload_n rfl rfl ?_
      refine w_gfr (r := 1) rfl rfl (Nat.le_of_ble_eq_true rfl) rfl rfl ?_
      refine w_iload_n rfl rfl ?_
      refine w_call1 [.ref 1, .int (i32 v2)] [.int (i32 v1)] (by omega) rfl rfl rfl rfl rfl rfl (Nat.le_of_ble_eq_true rfl) (fun _ => xrc_ok rfl) (Nat.le_of_ble_eq_true rfl) rfl rfl (s_cT_byteAt (by omega)) (fun r1 m2 => ?_)
      show xw _ _ _ _ 74 _ _ _ _
      refine w_bipush rfl rfl ?_
      refine w_isub rfl ?_
      refine w_iconst rfl ?_
      refine w_iadd rfl ?_
      refine w_iconst rfl ?_
      refine w_iload_n rfl rfl ?_
      show xw _ _ _ _ 81 _ _ _ _
      refine w_aload_n rfl rfl ?_
      refine w_gfi rfl rfl (Nat.le_of_ble_eq_true rfl) rfl rfl ?_
      refine w_isub rfl ?_
      refine w_imul rfl ?_
      refine w_ishl rfl ?_
      refine w_ior rfl ?_
      show xw _ _ _ _ 89 _ _ _ _
      refine w_letI (fun x3 => ?_)
      refine w_istore_n (lsd := [(1, .int (i32 x3)), (0, .ref 3), (2, .int (i32 v2))]) rfl (Nat.le_of_ble_eq_true rfl) rfl ?_
      refine w_iinc (lsd := [(2, .int (i32 (v2 + 1))), (1, .int (i32 x3)), (0, .ref 3)]) rfl (Nat.le_of_ble_eq_true rfl) rfl rfl ?_
      refine w_goto (tg := 57) rfl rfl ?_
      exact w_weak [(0, .ref 3), (1, .int (i32 x3)), (2, .int (i32 (v2 + 1)))] rfl ⟨rfl, rfl, rfl, trivial⟩ (hk57 x3 (v2 + 1) m2)
theorem s_cW_nameHere {d : Nat} {m : xm} (hd : 8 ≤ d) : xw (am_E L xs bz) d am_m125 1 0 [(0, .ref 3)] [] m (cW_nameHere m) := by
  unfold cW_nameHere
  refine w_aload_n rfl rfl ?_
  refine w_gfi rfl rfl (Nat.le_of_ble_eq_true rfl) rfl rfl ?_
  refine w_iconst rfl ?_
  refine w_icmp_ne (tg := 15) rfl rfl (w32_ld _ _ _) rfl ?_ ?_
  · exact w_weak [(0, .ref 3)] rfl ⟨rfl, trivial⟩ (s_cW_nameHere_15 (by omega))
  · refine w_aload_n rfl rfl ?_
    refine w_call1 [.ref 3] [] (by omega) rfl rfl rfl rfl rfl rfl (Nat.le_of_ble_eq_true rfl) (fun _ => xrc_ok rfl) (Nat.le_of_ble_eq_true rfl) rfl rfl (s_cW_isOwnWord (by omega)) (fun r1 m2 => ?_)
    refine w_if_eq (tg := 22) rfl rfl rfl ?_ ?_
    · refine w_aload_n rfl rfl ?_
      refine w_gfi rfl rfl (Nat.le_of_ble_eq_true rfl) rfl rfl ?_
      refine w_aload_n rfl rfl ?_
      refine w_gfi rfl rfl (Nat.le_of_ble_eq_true rfl) rfl rfl ?_
      refine w_isub rfl ?_
      show xw _ _ _ _ 31 _ _ _ _
      refine w_bipush rfl rfl ?_
      refine w_icmp_le (tg := 50) rfl rfl rfl rfl ?_ ?_
      · refine w_iconst rfl ?_
        refine w_istore_n (lsd := [(1, .int (i32 0)), (0, .ref 3)]) rfl (Nat.le_of_ble_eq_true rfl) rfl ?_
        refine w_aload_n rfl rfl ?_
        refine w_gfi rfl rfl (Nat.le_of_ble_eq_true rfl) rfl rfl ?_
        refine w_istore_n (lsd := [(2, .int (i32 (ld m2 3 2))), (1, .int (i32 0)), (0, .ref 3)]) rfl (Nat.le_of_ble_eq_true rfl) rfl ?_
        exact w_weak [(0, .ref 3), (1, .int (i32 0)), (2, .int (i32 (ld m2 3 2)))] rfl ⟨rfl, rfl, rfl, trivial⟩ (s_cW_nameHere_57 (by omega) _)
      · refine w_aload_n rfl rfl ?_
        refine w_iconst rfl ?_
        refine w_aload_n rfl rfl ?_
        refine w_gfi rfl rfl (Nat.le_of_ble_eq_true rfl) rfl rfl ?_
        refine w_bipush rfl rfl ?_
        show xw _ _ _ _ 44 _ _ _ _
        refine w_iadd rfl ?_
        refine w_call0 [.ref 3, .int (i32 1), .int (i32 ((ld m2 3 2) + 6))] [] (by omega) rfl rfl rfl rfl rfl rfl (Nat.le_of_ble_eq_true rfl) (fun _ => xrc_ok rfl) (Nat.le_of_ble_eq_true rfl) rfl rfl (s_cW_fail (by omega)) (fun r3 m4 => ?_)
        refine w_iconst rfl ?_
        exact w_retv rfl rfl
    · exact w_weak [(0, .ref 3)] rfl ⟨rfl, trivial⟩ (s_cW_nameHere_15 (by omega))
theorem s_cR_readNew_47 {d : Nat} {v1 : Nat} (hd : 9 ≤ d) (h1 : isH v1) {v2 : Int} {v3 : Int} {m : xm} : xw (am_E L xs bz) d am_m49 1 47 [(0, .ref 4), (1, .ref v1), (2, .int (i32 v2)), (3, .int (i32 v3))] [] m (cR_readNew_47 v1 v2 v3 m) := by
  unfold cR_readNew_47
  refine w_aload_n rfl rfl ?_
  refine w_gfr (r := 3) rfl rfl (Nat.le_of_ble_eq_true rfl) rfl rfl ?_
  refine w_call0 [.ref 3] [] (by omega) rfl rfl rfl rfl rfl rfl (Nat.le_of_ble_eq_true rfl) (fun _ => xrc_ok rfl) (Nat.le_of_ble_eq_true rfl) rfl rfl (s_cW_next (by omega)) (fun r1 m2 => ?_)
  refine w_aload_n rfl rfl ?_
  refine w_gfr (r := 3) rfl rfl (Nat.le_of_ble_eq_true rfl) rfl rfl ?_
  show xw _ _ _ _ 58 _ _ _ _
  refine w_call1 [.ref 3] [] (by omega) rfl rfl rfl rfl rfl rfl (Nat.le_of_ble_eq_true rfl) (fun _ => xrc_ok rfl) (Nat.le_of_ble_eq_true rfl) rfl rfl (s_cW_faultKind (by omega)) (fun r3 m4 => ?_)
  refine w_if_ne (tg := 73) rfl rfl rfl ?_ ?_
  · refine w_iconst rfl ?_
    exact w_retv rfl rfl
  · refine w_aload_n rfl rfl ?_
    refine w_iload_n rfl rfl ?_
    refine w_iload_n rfl rfl ?_
    refine w_call1 [.ref v1, .int (i32 v2), .int (i32 v3)] [] (by omega) rfl rfl rfl rfl rfl rfl (Nat.le_of_ble_eq_true rfl) (fun _ => xrc_ok (rcH h1 rfl)) (Nat.le_of_ble_eq_true rfl) rfl rfl (s_cH_addOne (by omega) h1) (fun r5 m6 => ?_)
    refine w_goto (tg := 74) rfl rfl ?_
    show xw _ _ _ _ 74 _ _ _ _
    exact w_retv rfl rfl
theorem s_cR_readNew_16 {d : Nat} {v1 : Nat} (hd : 9 ≤ d) (h1 : isH v1) {v2 : Int} {m : xm} : xw (am_E L xs bz) d am_m49 1 16 [(0, .ref 4), (1, .ref v1), (2, .int (i32 v2))] [] m (cR_readNew_16 v1 v2 m) := by
  unfold cR_readNew_16
  refine w_aload_n rfl rfl ?_
  refine w_gfr (r := 3) rfl rfl (Nat.le_of_ble_eq_true rfl) rfl rfl ?_
  refine w_call0 [.ref 3] [] (by omega) rfl rfl rfl rfl rfl rfl (Nat.le_of_ble_eq_true rfl) (fun _ => xrc_ok rfl) (Nat.le_of_ble_eq_true rfl) rfl rfl (s_cW_next (by omega)) (fun r1 m2 => ?_)
  refine w_aload_n rfl rfl ?_
  refine w_gfr (r := 3) rfl rfl (Nat.le_of_ble_eq_true rfl) rfl rfl ?_
  show xw _ _ _ _ 27 _ _ _ _
  refine w_call1 [.ref 3] [] (by omega) rfl rfl rfl rfl rfl rfl (Nat.le_of_ble_eq_true rfl) (fun _ => xrc_ok rfl) (Nat.le_of_ble_eq_true rfl) rfl rfl (s_cW_nameHere (by omega)) (fun r3 m4 => ?_)
  refine w_istore_n (lsd := [(3, .int (i32 r3)), (0, .ref 4), (1, .ref v1), (2, .int (i32 v2))]) rfl (Nat.le_of_ble_eq_true rfl) rfl ?_
  refine w_aload_n rfl rfl ?_
  refine w_iload_n rfl rfl ?_
  refine w_call1 [.ref v1, .int (i32 r3)] [] (by omega) rfl rfl rfl rfl rfl rfl (Nat.le_of_ble_eq_true rfl) (fun _ => xrc_ok (rcH h1 rfl)) (Nat.le_of_ble_eq_true rfl) rfl rfl (s_cH_knows (by omega) h1) (fun r5 m6 => ?_)
  refine w_if_eq (tg := 47) rfl rfl rfl ?_ ?_
  · exact w_weak [(0, .ref 4), (1, .ref v1), (2, .int (i32 v2)), (3, .int (i32 r3))] rfl ⟨rfl, rfl, rfl, rfl, trivial⟩ (s_cR_readNew_47 (by omega) h1)
  · refine w_aload_n rfl rfl ?_
    refine w_gfr (r := 3) rfl rfl (Nat.le_of_ble_eq_true rfl) rfl rfl ?_
    refine w_iconst rfl ?_
    refine w_call0 [.ref 3, .int (i32 3)] [] (by omega) rfl rfl rfl rfl rfl rfl (Nat.le_of_ble_eq_true rfl) (fun _ => xrc_ok rfl) (Nat.le_of_ble_eq_true rfl) rfl rfl (s_cW_failHere (by omega)) (fun r7 m8 => ?_)
    exact w_weak [(0, .ref 4), (1, .ref v1), (2, .int (i32 v2)), (3, .int (i32 r3))] rfl ⟨rfl, rfl, rfl, rfl, trivial⟩ (s_cR_readNew_47 (by omega) h1)
theorem s_cR_readNew {d : Nat} {v1 : Nat} {v2 : Int} {m : xm} (hd : 9 ≤ d) (h1 : isH v1) : xw (am_E L xs bz) d am_m49 1 0 [(0, .ref 4), (1, .ref v1), (2, .int (i32 v2))] [] m (cR_readNew v1 v2 m) := by
  unfold cR_readNew
  refine w_aload_n rfl rfl ?_
  refine w_iload_n rfl rfl ?_
  refine w_call1 [.ref v1, .int (i32 v2)] [] (by omega) rfl rfl rfl rfl rfl rfl (Nat.le_of_ble_eq_true rfl) (fun _ => xrc_ok (rcH h1 rfl)) (Nat.le_of_ble_eq_true rfl) rfl rfl (s_cH_isFull (by omega) h1) (fun r1 m2 => ?_)
  refine w_if_eq (tg := 16) rfl rfl rfl ?_ ?_
  · exact w_weak [(0, .ref 4), (1, .ref v1), (2, .int (i32 v2))] rfl ⟨rfl, rfl, rfl, trivial⟩ (s_cR_readNew_16 (by omega) h1)
  · refine w_aload_n rfl rfl ?_
    refine w_gfr (r := 3) rfl rfl (Nat.le_of_ble_eq_true rfl) rfl rfl ?_
    refine w_iconst rfl ?_
    refine w_call0 [.ref 3, .int (i32 5)] [] (by omega) rfl rfl rfl rfl rfl rfl (Nat.le_of_ble_eq_true rfl) (fun _ => xrc_ok rfl) (Nat.le_of_ble_eq_true rfl) rfl rfl (s_cW_failHere (by omega)) (fun r3 m4 => ?_)
    exact w_weak [(0, .ref 4), (1, .ref v1), (2, .int (i32 v2))] rfl ⟨rfl, rfl, rfl, trivial⟩ (s_cR_readNew_16 (by omega) h1)
theorem s_cR_readKnown_38 {d : Nat} {v1 : Nat} (hd : 9 ≤ d) (h1 : isH v1) {v4 : Int} {m : xm} : xw (am_E L xs bz) d am_m51 1 38 [(0, .ref 4), (4, .int (i32 v4))] [] m (cR_readKnown_38 v1 v4 m) := by
  unfold cR_readKnown_38
  refine w_aload_n rfl rfl ?_
  refine w_gfr (r := 3) rfl rfl (Nat.le_of_ble_eq_true rfl) rfl rfl ?_
  refine w_call0 [.ref 3] [] (by omega) rfl rfl rfl rfl rfl rfl (Nat.le_of_ble_eq_true rfl) (fun _ => xrc_ok rfl) (Nat.le_of_ble_eq_true rfl) rfl rfl (s_cW_next (by omega)) (fun r1 m2 => ?_)
  refine w_iload rfl rfl ?_
  exact w_retv rfl rfl
theorem s_cR_readKnown_30 {d : Nat} {v1 : Nat} (hd : 9 ≤ d) (h1 : isH v1) {v4 : Int} {m : xm} : xw (am_E L xs bz) d am_m51 1 30 [(0, .ref 4), (4, .int (i32 v4))] [] m (cR_readKnown_30 v1 v4 m) := by
  unfold cR_readKnown_30
  refine w_aload_n rfl rfl ?_
  refine w_gfr (r := 3) rfl rfl (Nat.le_of_ble_eq_true rfl) rfl rfl ?_
  refine w_iconst rfl ?_
  refine w_call0 [.ref 3, .int (i32 3)] [] (by omega) rfl rfl rfl rfl rfl rfl (Nat.le_of_ble_eq_true rfl) (fun _ => xrc_ok rfl) (Nat.le_of_ble_eq_true rfl) rfl rfl (s_cW_failHere (by omega)) (fun r1 m2 => ?_)
  exact w_weak [(0, .ref 4), (4, .int (i32 v4))] rfl ⟨rfl, rfl, trivial⟩ (s_cR_readKnown_38 (by omega) h1)
theorem s_cR_readKnown {d : Nat} {v1 : Nat} {v2 : Int} {v3 : Int} {m : xm} (hd : 9 ≤ d) (h1 : isH v1) : xw (am_E L xs bz) d am_m51 1 0 [(0, .ref 4), (1, .ref v1), (2, .int (i32 v2)), (3, .int (i32 v3))] [] m (cR_readKnown v1 v2 v3 m) := by
  unfold cR_readKnown
  refine w_aload_n rfl rfl ?_
  refine w_iload_n rfl rfl ?_
  refine w_aload_n rfl rfl ?_
  refine w_gfr (r := 3) rfl rfl (Nat.le_of_ble_eq_true rfl) rfl rfl ?_
  refine w_call1 [.ref 3] [.int (i32 v2), .ref v1] (by omega) rfl rfl rfl rfl rfl rfl (Nat.le_of_ble_eq_true rfl) (fun _ => xrc_ok rfl) (Nat.le_of_ble_eq_true rfl) rfl rfl (s_cW_nameHere (by omega)) (fun r1 m2 => ?_)
  show xw _ _ _ _ 9 _ _ _ _
  refine w_call1 [.ref v1, .int (i32 v2), .int (i32 r1)] [] (by omega) rfl rfl rfl rfl rfl rfl (Nat.le_of_ble_eq_true rfl) (fun _ => xrc_ok (rcH h1 rfl)) (Nat.le_of_ble_eq_true rfl) rfl rfl (s_cH_named (by omega) h1) (fun r3 m4 => ?_)
  refine w_istore (lsd := [(4, .int (i32 r3)), (0, .ref 4), (1, .ref v1), (2, .int (i32 v2)), (3, .int (i32 v3))]) rfl (Nat.le_of_ble_eq_true rfl) rfl ?_
  refine w_iload rfl rfl ?_
  refine w_iconst rfl ?_
  refine w_icmp_eq (tg := 30) rfl rfl rfl rfl ?_ ?_
  · exact w_weak [(0, .ref 4), (4, .int (i32 r3))] rfl ⟨rfl, rfl, trivial⟩ (s_cR_readKnown_30 (by omega) h1)
  · refine w_iload_n rfl rfl ?_
    refine w_iload rfl rfl ?_
    refine w_ishr rfl ?_
    refine w_iconst rfl ?_
    refine w_iand rfl ?_
    show xw _ _ _ _ 26 _ _ _ _
    refine w_iconst rfl ?_
    refine w_icmp_ne (tg := 38) rfl rfl (w32_of _) rfl ?_ ?_
    · exact w_weak [(0, .ref 4), (4, .int (i32 r3))] rfl ⟨rfl, rfl, trivial⟩ (s_cR_readKnown_38 (by omega) h1)
    · exact w_weak [(0, .ref 4), (4, .int (i32 r3))] rfl ⟨rfl, rfl, trivial⟩ (s_cR_readKnown_30 (by omega) h1)
theorem s_cW_isAnyWord {d : Nat} {m : xm} (hd : 0 ≤ d) : xw (am_E L xs bz) d am_m131 1 0 [(0, .ref 3)] [] m (cW_isAnyWord m) := by
  unfold cW_isAnyWord
  refine w_aload_n rfl rfl ?_
  refine w_gfi rfl rfl (Nat.le_of_ble_eq_true rfl) rfl rfl ?_
  refine w_iconst rfl ?_
  refine w_icmp_ne (tg := 12) rfl rfl (w32_ld _ _ _) rfl ?_ ?_
  · refine w_iconst rfl ?_
    exact w_retv rfl rfl
  · refine w_iconst rfl ?_
    refine w_goto (tg := 13) rfl rfl ?_
    exact w_retv rfl rfl
theorem s_cR_readPlayer_76 {d : Nat} {v1 : Nat} {k21 : Int → Int → Int → xm → xr} (hd : 10 ≤ d) (h1 : isH v1) (hk21 : ∀ (v2 v3 v4 : Int) (m : xm), xw (am_E L xs bz) d am_m53 0 21 [(0, .ref 4), (1, .ref v1), (2, .int (i32 v2)), (3, .int (i32 v3)), (4, .int (i32 v4))] [] m (k21 v2 v3 v4 m)) {v2 : Int} {v3 : Int} {v4 : Int} {m : xm} : xw (am_E L xs bz) d am_m53 0 76 [(0, .ref 4), (1, .ref v1), (2, .int (i32 v2)), (3, .int (i32 v3)), (4, .int (i32 v4))] [] m (cR_readPlayer_76 v1 k21 v2 v3 v4 m) := by
  unfold cR_readPlayer_76
  refine w_iinc (lsd := [(4, .int (i32 (v4 + 1))), (0, .ref 4), (1, .ref v1), (2, .int (i32 v2)), (3, .int (i32 v3))]) rfl (Nat.le_of_ble_eq_true rfl) rfl rfl ?_
  refine w_goto (tg := 21) rfl rfl ?_
  exact w_weak [(0, .ref 4), (1, .ref v1), (2, .int (i32 v2)), (3, .int (i32 v3)), (4, .int (i32 (v4 + 1)))] rfl ⟨rfl, rfl, rfl, rfl, rfl, trivial⟩ (hk21 v2 v3 (v4 + 1) m)
theorem s_cR_readPlayer_43 {d : Nat} {v1 : Nat} {k21 : Int → Int → Int → xm → xr} (hd : 10 ≤ d) (h1 : isH v1) (hk21 : ∀ (v2 v3 v4 : Int) (m : xm), xw (am_E L xs bz) d am_m53 0 21 [(0, .ref 4), (1, .ref v1), (2, .int (i32 v2)), (3, .int (i32 v3)), (4, .int (i32 v4))] [] m (k21 v2 v3 v4 m)) {v2 : Int} {v3 : Int} {v4 : Int} {m : xm} : xw (am_E L xs bz) d am_m53 0 43 [(0, .ref 4), (1, .ref v1), (2, .int (i32 v2)), (3, .int (i32 v3)), (4, .int (i32 v4))] [] m (cR_readPlayer_43 v1 k21 v2 v3 v4 m) := by
  unfold cR_readPlayer_43
  refine w_aload_n rfl rfl ?_
  refine w_aload_n rfl rfl ?_
  refine w_iconst rfl ?_
  refine w_iload_n rfl rfl ?_
  refine w_call1 [.ref 4, .ref v1, .int (i32 1), .int (i32 v3)] [] (by omega) rfl rfl rfl rfl rfl rfl (Nat.le_of_ble_eq_true rfl) (fun _ => xrc_ok rfl) (Nat.le_of_ble_eq_true rfl) rfl rfl (s_cR_readKnown (by omega) h1) (fun r1 m2 => ?_)
  show xw _ _ _ _ 50 _ _ _ _
  refine w_istore (lsd := [(5, .int (i32 r1)), (0, .ref 4), (1, .ref v1), (2, .int (i32 v2)), (3, .int (i32 v3)), (4, .int (i32 v4))]) rfl (Nat.le_of_ble_eq_true rfl) rfl ?_
  refine w_aload_n rfl rfl ?_
  refine w_gfr (r := 3) rfl rfl (Nat.le_of_ble_eq_true rfl) rfl rfl ?_
  refine w_call1 [.ref 3] [] (by omega) rfl rfl rfl rfl rfl rfl (Nat.le_of_ble_eq_true rfl) (fun _ => xrc_ok rfl) (Nat.le_of_ble_eq_true rfl) rfl rfl (s_cW_faultKind (by omega)) (fun r3 m4 => ?_)
  refine w_if_ne (tg := 76) rfl rfl rfl ?_ ?_
  · exact w_weak [(0, .ref 4), (1, .ref v1), (2, .int (i32 v2)), (3, .int (i32 v3)), (4, .int (i32 v4))] rfl ⟨rfl, rfl, rfl, rfl, rfl, trivial⟩ (s_cR_readPlayer_76 (by omega) h1 hk21)
  · refine w_aload_n rfl rfl ?_
    refine w_iload_n rfl rfl ?_
    refine w_iload rfl rfl ?_
    refine w_call0 [.ref v1, .int (i32 v2), .int (i32 r1)] [] (by omega) rfl rfl rfl rfl rfl rfl (Nat.le_of_ble_eq_true rfl) (fun _ => xrc_ok (rcH h1 rfl)) (Nat.le_of_ble_eq_true rfl) rfl rfl (s_cH_tellPlays (by omega) h1) (fun r5 m6 => ?_)
    refine w_iload_n rfl rfl ?_
    show xw _ _ _ _ 70 _ _ _ _
    refine w_iconst rfl ?_
    refine w_iload rfl rfl ?_
    refine w_ishl rfl ?_
    refine w_ior rfl ?_
    refine w_letI (fun x7 => ?_)
    refine w_istore_n (lsd := [(3, .int (i32 x7)), (5, .int (i32 r1)), (0, .ref 4), (1, .ref v1), (2, .int (i32 v2)), (4, .int (i32 v4))]) rfl (Nat.le_of_ble_eq_true rfl) rfl ?_
    exact w_weak [(0, .ref 4), (1, .ref v1), (2, .int (i32 v2)), (3, .int (i32 x7)), (4, .int (i32 v4))] rfl ⟨rfl, rfl, rfl, rfl, rfl, trivial⟩ (s_cR_readPlayer_76 (by omega) h1 hk21)
theorem s_cR_readPlayer_21 {d : Nat} {v1 : Nat} (hd : 10 ≤ d) (h1 : isH v1) : ∀ (n : Nat) {v2 : Int} {v3 : Int} {v4 : Int} {m : xm}, xw (am_E L xs bz) d am_m53 0 21 [(0, .ref 4), (1, .ref v1), (2, .int (i32 v2)), (3, .int (i32 v3)), (4, .int (i32 v4))] [] m (cR_readPlayer_21 v1 n v2 v3 v4 m) := by
  intro n
  induction n with
  | zero => intros; exact w_none
  | succ n ih =>
    intro v2 v3 v4 m
    have hk21 := fun (v2 v3 v4 : Int) (m : xm) => @ih v2 v3 v4 m
    unfold cR_readPlayer_21
    refine w_iload rfl rfl ?_
    refine w_bipush rfl rfl ?_
    refine w_icmp_gt (tg := 82) rfl rfl rfl rfl ?_ ?_
    · exact w_retv (x := 0) rfl rfl
    · refine w_iload rfl rfl ?_
      refine w_if_eq (tg := 43) rfl rfl rfl ?_ ?_
      · exact w_weak [(0, .ref 4), (1, .ref v1), (2, .int (i32 v2)), (3, .int (i32 v3)), (4, .int (i32 v4))] rfl ⟨rfl, rfl, rfl, rfl, rfl, trivial⟩ (s_cR_readPlayer_43 (by omega) h1 hk21)
      · refine w_aload_n rfl rfl ?_
        refine w_gfr (r := 3) rfl rfl (Nat.le_of_ble_eq_true rfl) rfl rfl ?_
        refine w_call1 [.ref 3] [] (by omega) rfl rfl rfl rfl rfl rfl (Nat.le_of_ble_eq_true rfl) (fun _ => xrc_ok rfl) (Nat.le_of_ble_eq_true rfl) rfl rfl (s_cW_isAnyWord (by omega)) (fun r1 m2 => ?_)
        refine w_if_eq (tg := 82) rfl rfl rfl ?_ ?_
        · exact w_retv (x := 0) rfl rfl
        · exact w_weak [(0, .ref 4), (1, .ref v1), (2, .int (i32 v2)), (3, .int (i32 v3)), (4, .int (i32 v4))] rfl ⟨rfl, rfl, rfl, rfl, rfl, trivial⟩ (s_cR_readPlayer_43 (by omega) h1 hk21)
theorem s_cR_readPlayer {d : Nat} {v1 : Nat} {m : xm} (hd : 10 ≤ d) (h1 : isH v1) : xw (am_E L xs bz) d am_m53 0 0 [(0, .ref 4), (1, .ref v1)] [] m (cR_readPlayer v1 m) := by
  unfold cR_readPlayer
  refine w_aload_n rfl rfl ?_
  refine w_aload_n rfl rfl ?_
  refine w_iconst rfl ?_
  refine w_call1 [.ref 4, .ref v1, .int (i32 3)] [] (by omega) rfl rfl rfl rfl rfl rfl (Nat.le_of_ble_eq_true rfl) (fun _ => xrc_ok rfl) (Nat.le_of_ble_eq_true rfl) rfl rfl (s_cR_readNew (by omega) h1) (fun r1 m2 => ?_)
  refine w_istore_n (lsd := [(2, .int (i32 r1)), (0, .ref 4), (1, .ref v1)]) rfl (Nat.le_of_ble_eq_true rfl) rfl ?_
  show xw _ _ _ _ 7 _ _ _ _
  refine w_aload_n rfl rfl ?_
  refine w_gfr (r := 3) rfl rfl (Nat.le_of_ble_eq_true rfl) rfl rfl ?_
  refine w_ldc rfl rfl ?_
  refine w_call0 [.ref 3, .ref (1000000 + 2 * 23)] [] (by omega) rfl rfl rfl rfl rfl rfl (Nat.le_of_ble_eq_true rfl) (fun _ => xrc_ok rfl) (Nat.le_of_ble_eq_true rfl) rfl rfl (s_cW_needWord (by omega) (Nat.le_of_ble_eq_true rfl)) (fun r3 m4 => ?_)
  refine w_iconst rfl ?_
  refine w_istore_n (lsd := [(3, .int (i32 0)), (2, .int (i32 r1)), (0, .ref 4), (1, .ref v1)]) rfl (Nat.le_of_ble_eq_true rfl) rfl ?_
  show xw _ _ _ _ 18 _ _ _ _
  refine w_iconst rfl ?_
  refine w_istore (lsd := [(4, .int (i32 0)), (3, .int (i32 0)), (2, .int (i32 r1)), (0, .ref 4), (1, .ref v1)]) rfl (Nat.le_of_ble_eq_true rfl) rfl ?_
  exact w_weak [(0, .ref 4), (1, .ref v1), (2, .int (i32 r1)), (3, .int (i32 0)), (4, .int (i32 0))] rfl ⟨rfl, rfl, rfl, rfl, rfl, trivial⟩ (s_cR_readPlayer_21 (by omega) h1 _)
theorem s_cR_readDoor {d : Nat} {v1 : Nat} {m : xm} (hd : 141 ≤ d) (h1 : isH v1) : xw (am_E L xs bz) d am_m52 0 0 [(0, .ref 4), (1, .ref v1)] [] m (cR_readDoor v1 m) := by
  unfold cR_readDoor
  refine w_aload_n rfl rfl ?_
  refine w_aload_n rfl rfl ?_
  refine w_iconst rfl ?_
  refine w_call1 [.ref 4, .ref v1, .int (i32 2)] [] (by omega) rfl rfl rfl rfl rfl rfl (Nat.le_of_ble_eq_true rfl) (fun _ => xrc_ok rfl) (Nat.le_of_ble_eq_true rfl) rfl rfl (s_cR_readNew (by omega) h1) (fun r1 m2 => ?_)
  refine w_istore_n (lsd := [(2, .int (i32 r1)), (0, .ref 4), (1, .ref v1)]) rfl (Nat.le_of_ble_eq_true rfl) rfl ?_
  show xw _ _ _ _ 7 _ _ _ _
  refine w_aload_n rfl rfl ?_
  refine w_gfr (r := 3) rfl rfl (Nat.le_of_ble_eq_true rfl) rfl rfl ?_
  refine w_ldc rfl rfl ?_
  refine w_call0 [.ref 3, .ref (1000000 + 2 * 8)] [] (by omega) rfl rfl rfl rfl rfl rfl (Nat.le_of_ble_eq_true rfl) (fun _ => xrc_ok rfl) (Nat.le_of_ble_eq_true rfl) rfl rfl (s_cW_needWord (by omega) (Nat.le_of_ble_eq_true rfl)) (fun r3 m4 => ?_)
  refine w_aload_n rfl rfl ?_
  refine w_callR [.ref v1] [] (by omega) rfl rfl rfl rfl rfl rfl (Nat.le_of_ble_eq_true rfl) (fun _ => xrc_ok (rcH h1 rfl)) (Nat.le_of_ble_eq_true rfl) rfl rfl (s_cH_code (by omega) h1) ?_
  show xw _ _ _ _ 20 _ _ _ _
  refine w_call1 [.ref (v1 + 1)] [] (by omega) rfl rfl rfl rfl rfl rfl (Nat.le_of_ble_eq_true rfl) (fun _ => xrc_ok (rcC (isC_H h1) rfl)) (Nat.le_of_ble_eq_true rfl) rfl rfl (s_cC_size (by omega) (isC_H h1)) (fun r5 m6 => ?_)
  refine w_istore_n (lsd := [(3, .int (i32 r5)), (2, .int (i32 r1)), (0, .ref 4), (1, .ref v1)]) rfl (Nat.le_of_ble_eq_true rfl) rfl ?_
  refine w_aload_n rfl rfl ?_
  refine w_gfr (r := 5) rfl rfl (Nat.le_of_ble_eq_true rfl) rfl rfl ?_
  refine w_aload_n rfl rfl ?_
  refine w_callR [.ref v1] [.ref 5] (by omega) rfl rfl rfl rfl rfl rfl (Nat.le_of_ble_eq_true rfl) (fun _ => xrc_ok (rcH h1 rfl)) (Nat.le_of_ble_eq_true rfl) rfl rfl (s_cH_code (by omega) h1) ?_
  show xw _ _ _ _ 32 _ _ _ _
  refine w_iconst rfl ?_
  refine w_call0 [.ref 5, .ref (v1 + 1), .int (i32 0)] [] (by omega) rfl rfl rfl rfl rfl rfl (Nat.le_of_ble_eq_true rfl) (fun _ => xrc_ok rfl) (Nat.le_of_ble_eq_true rfl) rfl rfl (s_cX_readTest (by omega) (Or.inl rfl) (isC_H h1)) (fun r7 m8 => ?_)
  refine w_aload_n rfl rfl ?_
  refine w_iload_n rfl rfl ?_
  refine w_iload_n rfl rfl ?_
  refine w_aload_n rfl rfl ?_
  show xw _ _ _ _ 40 _ _ _ _
  refine w_callR [.ref v1] [.int (i32 r5), .int (i32 r1), .ref v1] (by omega) rfl rfl rfl rfl rfl rfl (Nat.le_of_ble_eq_true rfl) (fun _ => xrc_ok (rcH h1 rfl)) (Nat.le_of_ble_eq_true rfl) rfl rfl (s_cH_code (by omega) h1) ?_
  refine w_call1 [.ref (v1 + 1)] [.int (i32 r5), .int (i32 r1), .ref v1] (by omega) rfl rfl rfl rfl rfl rfl (Nat.le_of_ble_eq_true rfl) (fun _ => xrc_ok (rcC (isC_H h1) rfl)) (Nat.le_of_ble_eq_true rfl) rfl rfl (s_cC_size (by omega) (isC_H h1)) (fun r9 m10 => ?_)
  refine w_call0 [.ref v1, .int (i32 r1), .int (i32 r5), .int (i32 r9)] [] (by omega) rfl rfl rfl rfl rfl rfl (Nat.le_of_ble_eq_true rfl) (fun _ => xrc_ok (rcH h1 rfl)) (Nat.le_of_ble_eq_true rfl) rfl rfl (s_cH_tellDoor (by omega) h1) (fun r11 m12 => ?_)
  exact w_retv (x := 0) rfl rfl
theorem s_cR_readNote_88 {d : Nat} {v1 : Nat} {k21 : Int → Int → Int → xm → xr} (hd : 10 ≤ d) (h1 : isH v1) (hk21 : ∀ (v2 v3 v4 : Int) (m : xm), xw (am_E L xs bz) d am_m50 0 21 [(0, .ref 4), (1, .ref v1), (2, .int (i32 v2)), (3, .int (i32 v3)), (4, .int (i32 v4))] [] m (k21 v2 v3 v4 m)) {v2 : Int} {v3 : Int} {v4 : Int} {m : xm} : xw (am_E L xs bz) d am_m50 0 88 [(0, .ref 4), (1, .ref v1), (2, .int (i32 v2)), (3, .int (i32 v3)), (4, .int (i32 v4))] [] m (cR_readNote_88 v1 k21 v2 v3 v4 m) := by
  unfold cR_readNote_88
  refine w_iinc (lsd := [(4, .int (i32 (v4 + 1))), (0, .ref 4), (1, .ref v1), (2, .int (i32 v2)), (3, .int (i32 v3))]) rfl (Nat.le_of_ble_eq_true rfl) rfl rfl ?_
  refine w_goto (tg := 21) rfl rfl ?_
  exact w_weak [(0, .ref 4), (1, .ref v1), (2, .int (i32 v2)), (3, .int (i32 v3)), (4, .int (i32 (v4 + 1)))] rfl ⟨rfl, rfl, rfl, rfl, rfl, trivial⟩ (hk21 v2 v3 (v4 + 1) m)
theorem s_cR_readNote_42 {d : Nat} {v1 : Nat} {k21 : Int → Int → Int → xm → xr} (hd : 10 ≤ d) (h1 : isH v1) (hk21 : ∀ (v2 v3 v4 : Int) (m : xm), xw (am_E L xs bz) d am_m50 0 21 [(0, .ref 4), (1, .ref v1), (2, .int (i32 v2)), (3, .int (i32 v3)), (4, .int (i32 v4))] [] m (k21 v2 v3 v4 m)) {v2 : Int} {v3 : Int} {v4 : Int} {m : xm} : xw (am_E L xs bz) d am_m50 0 42 [(0, .ref 4), (1, .ref v1), (2, .int (i32 v2)), (3, .int (i32 v3)), (4, .int (i32 v4))] [] m (cR_readNote_42 v1 k21 v2 v3 v4 m) := by
  unfold cR_readNote_42
  refine w_aload_n rfl rfl ?_
  refine w_aload_n rfl rfl ?_
  refine w_iconst rfl ?_
  refine w_iload_n rfl rfl ?_
  refine w_call1 [.ref 4, .ref v1, .int (i32 0), .int (i32 v3)] [] (by omega) rfl rfl rfl rfl rfl rfl (Nat.le_of_ble_eq_true rfl) (fun _ => xrc_ok rfl) (Nat.le_of_ble_eq_true rfl) rfl rfl (s_cR_readKnown (by omega) h1) (fun r1 m2 => ?_)
  show xw _ _ _ _ 49 _ _ _ _
  refine w_istore (lsd := [(5, .int (i32 r1)), (0, .ref 4), (1, .ref v1), (2, .int (i32 v2)), (3, .int (i32 v3)), (4, .int (i32 v4))]) rfl (Nat.le_of_ble_eq_true rfl) rfl ?_
  refine w_aload_n rfl rfl ?_
  refine w_gfr (r := 3) rfl rfl (Nat.le_of_ble_eq_true rfl) rfl rfl ?_
  refine w_iconst rfl ?_
  refine w_iconst rfl ?_
  refine w_call1 [.ref 3, .int (i32 1), .int (i32 4)] [] (by omega) rfl rfl rfl rfl rfl rfl (Nat.le_of_ble_eq_true rfl) (fun _ => xrc_ok rfl) (Nat.le_of_ble_eq_true rfl) rfl rfl (s_cW_needNumber (by omega)) (fun r3 m4 => ?_)
  show xw _ _ _ _ 60 _ _ _ _
  refine w_istore (lsd := [(6, .int (i32 r3)), (5, .int (i32 r1)), (0, .ref 4), (1, .ref v1), (2, .int (i32 v2)), (3, .int (i32 v3)), (4, .int (i32 v4))]) rfl (Nat.le_of_ble_eq_true rfl) rfl ?_
  refine w_aload_n rfl rfl ?_
  refine w_gfr (r := 3) rfl rfl (Nat.le_of_ble_eq_true rfl) rfl rfl ?_
  refine w_call1 [.ref 3] [] (by omega) rfl rfl rfl rfl rfl rfl (Nat.le_of_ble_eq_true rfl) (fun _ => xrc_ok rfl) (Nat.le_of_ble_eq_true rfl) rfl rfl (s_cW_faultKind (by omega)) (fun r5 m6 => ?_)
  refine w_if_ne (tg := 88) rfl rfl rfl ?_ ?_
  · exact w_weak [(0, .ref 4), (1, .ref v1), (2, .int (i32 v2)), (3, .int (i32 v3)), (4, .int (i32 v4))] rfl ⟨rfl, rfl, rfl, rfl, rfl, trivial⟩ (s_cR_readNote_88 (by omega) h1 hk21)
  · refine w_aload_n rfl rfl ?_
    refine w_iload_n rfl rfl ?_
    refine w_iload rfl rfl ?_
    refine w_iload rfl rfl ?_
    refine w_call0 [.ref v1, .int (i32 v2), .int (i32 r1), .int (i32 r3)] [] (by omega) rfl rfl rfl rfl rfl rfl (Nat.le_of_ble_eq_true rfl) (fun _ => xrc_ok (rcH h1 rfl)) (Nat.le_of_ble_eq_true rfl) rfl rfl (s_cH_tellTurn (by omega) h1) (fun r7 m8 => ?_)
    show xw _ _ _ _ 81 _ _ _ _
    refine w_iload_n rfl rfl ?_
    refine w_iconst rfl ?_
    refine w_iload rfl rfl ?_
    refine w_ishl rfl ?_
    refine w_ior rfl ?_
    refine w_letI (fun x9 => ?_)
    refine w_istore_n (lsd := [(3, .int (i32 x9)), (6, .int (i32 r3)), (5, .int (i32 r1)), (0, .ref 4), (1, .ref v1), (2, .int (i32 v2)), (4, .int (i32 v4))]) rfl (Nat.le_of_ble_eq_true rfl) rfl ?_
    exact w_weak [(0, .ref 4), (1, .ref v1), (2, .int (i32 v2)), (3, .int (i32 x9)), (4, .int (i32 v4))] rfl ⟨rfl, rfl, rfl, rfl, rfl, trivial⟩ (s_cR_readNote_88 (by omega) h1 hk21)
theorem s_cR_readNote_21 {d : Nat} {v1 : Nat} (hd : 10 ≤ d) (h1 : isH v1) : ∀ (n : Nat) {v2 : Int} {v3 : Int} {v4 : Int} {m : xm}, xw (am_E L xs bz) d am_m50 0 21 [(0, .ref 4), (1, .ref v1), (2, .int (i32 v2)), (3, .int (i32 v3)), (4, .int (i32 v4))] [] m (cR_readNote_21 v1 n v2 v3 v4 m) := by
  intro n
  induction n with
  | zero => intros; exact w_none
  | succ n ih =>
    intro v2 v3 v4 m
    have hk21 := fun (v2 v3 v4 : Int) (m : xm) => @ih v2 v3 v4 m
    unfold cR_readNote_21
    refine w_iload rfl rfl ?_
    refine w_iconst rfl ?_
    refine w_icmp_gt (tg := 94) rfl rfl rfl rfl ?_ ?_
    · exact w_retv (x := 0) rfl rfl
    · refine w_iload rfl rfl ?_
      refine w_if_eq (tg := 42) rfl rfl rfl ?_ ?_
      · exact w_weak [(0, .ref 4), (1, .ref v1), (2, .int (i32 v2)), (3, .int (i32 v3)), (4, .int (i32 v4))] rfl ⟨rfl, rfl, rfl, rfl, rfl, trivial⟩ (s_cR_readNote_42 (by omega) h1 hk21)
      · refine w_aload_n rfl rfl ?_
        refine w_gfr (r := 3) rfl rfl (Nat.le_of_ble_eq_true rfl) rfl rfl ?_
        refine w_call1 [.ref 3] [] (by omega) rfl rfl rfl rfl rfl rfl (Nat.le_of_ble_eq_true rfl) (fun _ => xrc_ok rfl) (Nat.le_of_ble_eq_true rfl) rfl rfl (s_cW_isAnyWord (by omega)) (fun r1 m2 => ?_)
        refine w_if_eq (tg := 94) rfl rfl rfl ?_ ?_
        · exact w_retv (x := 0) rfl rfl
        · exact w_weak [(0, .ref 4), (1, .ref v1), (2, .int (i32 v2)), (3, .int (i32 v3)), (4, .int (i32 v4))] rfl ⟨rfl, rfl, rfl, rfl, rfl, trivial⟩ (s_cR_readNote_42 (by omega) h1 hk21)
theorem s_cR_readNote {d : Nat} {v1 : Nat} {m : xm} (hd : 10 ≤ d) (h1 : isH v1) : xw (am_E L xs bz) d am_m50 0 0 [(0, .ref 4), (1, .ref v1)] [] m (cR_readNote v1 m) := by
  unfold cR_readNote
  refine w_aload_n rfl rfl ?_
  refine w_aload_n rfl rfl ?_
  refine w_iconst rfl ?_
  refine w_call1 [.ref 4, .ref v1, .int (i32 1)] [] (by omega) rfl rfl rfl rfl rfl rfl (Nat.le_of_ble_eq_true rfl) (fun _ => xrc_ok rfl) (Nat.le_of_ble_eq_true rfl) rfl rfl (s_cR_readNew (by omega) h1) (fun r1 m2 => ?_)
  refine w_istore_n (lsd := [(2, .int (i32 r1)), (0, .ref 4), (1, .ref v1)]) rfl (Nat.le_of_ble_eq_true rfl) rfl ?_
  show xw _ _ _ _ 7 _ _ _ _
  refine w_aload_n rfl rfl ?_
  refine w_gfr (r := 3) rfl rfl (Nat.le_of_ble_eq_true rfl) rfl rfl ?_
  refine w_ldc rfl rfl ?_
  refine w_call0 [.ref 3, .ref (1000000 + 2 * 6)] [] (by omega) rfl rfl rfl rfl rfl rfl (Nat.le_of_ble_eq_true rfl) (fun _ => xrc_ok rfl) (Nat.le_of_ble_eq_true rfl) rfl rfl (s_cW_needWord (by omega) (Nat.le_of_ble_eq_true rfl)) (fun r3 m4 => ?_)
  refine w_iconst rfl ?_
  refine w_istore_n (lsd := [(3, .int (i32 0)), (2, .int (i32 r1)), (0, .ref 4), (1, .ref v1)]) rfl (Nat.le_of_ble_eq_true rfl) rfl ?_
  show xw _ _ _ _ 18 _ _ _ _
  refine w_iconst rfl ?_
  refine w_istore (lsd := [(4, .int (i32 0)), (3, .int (i32 0)), (2, .int (i32 r1)), (0, .ref 4), (1, .ref v1)]) rfl (Nat.le_of_ble_eq_true rfl) rfl ?_
  exact w_weak [(0, .ref 4), (1, .ref v1), (2, .int (i32 r1)), (3, .int (i32 0)), (4, .int (i32 0))] rfl ⟨rfl, rfl, rfl, rfl, rfl, trivial⟩ (s_cR_readNote_21 (by omega) h1 _)
theorem s_cR_readLock_75 {d : Nat} {v1 : Nat} (hd : 10 ≤ d) (h1 : isH v1) {v2 : Int} {v3 : Int} {v4 : Int} {s0 : Int} {m : xm} : xw (am_E L xs bz) d am_m48 0 75 [(1, .ref v1), (2, .int (i32 v2)), (3, .int (i32 v3)), (4, .int (i32 v4))] [.int (i32 s0)] m (cR_readLock_75 v1 v2 v3 v4 s0 m) := by
  unfold cR_readLock_75
  refine w_letI (fun x1 => ?_)
  refine w_istore (lsd := [(5, .int (i32 x1)), (1, .ref v1), (2, .int (i32 v2)), (3, .int (i32 v3)), (4, .int (i32 v4))]) rfl (Nat.le_of_ble_eq_true rfl) rfl ?_
  refine w_aload_n rfl rfl ?_
  refine w_iload_n rfl rfl ?_
  refine w_iload_n rfl rfl ?_
  refine w_iload rfl rfl ?_
  show xw _ _ _ _ 82 _ _ _ _
  refine w_iload rfl rfl ?_
  refine w_call0 [.ref v1, .int (i32 v2), .int (i32 v3), .int (i32 v4), .int (i32 x1)] [] (by omega) rfl rfl rfl rfl rfl rfl (Nat.le_of_ble_eq_true rfl) (fun _ => xrc_ok (rcH h1 rfl)) (Nat.le_of_ble_eq_true rfl) rfl rfl (s_cH_tellLock (by omega) h1) (fun r2 m3 => ?_)
  exact w_retv (x := 0) rfl rfl
theorem s_cR_readLock {d : Nat} {v1 : Nat} {m : xm} (hd : 10 ≤ d) (h1 : isH v1) : xw (am_E L xs bz) d am_m48 0 0 [(0, .ref 4), (1, .ref v1)] [] m (cR_readLock v1 m) := by
  unfold cR_readLock
  refine w_aload_n rfl rfl ?_
  refine w_aload_n rfl rfl ?_
  refine w_iconst rfl ?_
  refine w_call1 [.ref 4, .ref v1, .int (i32 0)] [] (by omega) rfl rfl rfl rfl rfl rfl (Nat.le_of_ble_eq_true rfl) (fun _ => xrc_ok rfl) (Nat.le_of_ble_eq_true rfl) rfl rfl (s_cR_readNew (by omega) h1) (fun r1 m2 => ?_)
  refine w_istore_n (lsd := [(2, .int (i32 r1)), (0, .ref 4), (1, .ref v1)]) rfl (Nat.le_of_ble_eq_true rfl) rfl ?_
  show xw _ _ _ _ 7 _ _ _ _
  refine w_aload_n rfl rfl ?_
  refine w_gfr (r := 3) rfl rfl (Nat.le_of_ble_eq_true rfl) rfl rfl ?_
  refine w_ldc rfl rfl ?_
  refine w_call0 [.ref 3, .ref (1000000 + 2 * 2)] [] (by omega) rfl rfl rfl rfl rfl rfl (Nat.le_of_ble_eq_true rfl) (fun _ => xrc_ok rfl) (Nat.le_of_ble_eq_true rfl) rfl rfl (s_cW_needWord (by omega) (Nat.le_of_ble_eq_true rfl)) (fun r3 m4 => ?_)
  refine w_aload_n rfl rfl ?_
  refine w_gfr (r := 3) rfl rfl (Nat.le_of_ble_eq_true rfl) rfl rfl ?_
  show xw _ _ _ _ 20 _ _ _ _
  refine w_iconst rfl ?_
  refine w_iconst rfl ?_
  refine w_call1 [.ref 3, .int (i32 2), .int (i32 5)] [] (by omega) rfl rfl rfl rfl rfl rfl (Nat.le_of_ble_eq_true rfl) (fun _ => xrc_ok rfl) (Nat.le_of_ble_eq_true rfl) rfl rfl (s_cW_needNumber (by omega)) (fun r5 m6 => ?_)
  refine w_istore_n (lsd := [(3, .int (i32 r5)), (2, .int (i32 r1)), (0, .ref 4), (1, .ref v1)]) rfl (Nat.le_of_ble_eq_true rfl) rfl ?_
  refine w_aload_n rfl rfl ?_
  refine w_gfr (r := 3) rfl rfl (Nat.le_of_ble_eq_true rfl) rfl rfl ?_
  show xw _ _ _ _ 30 _ _ _ _
  refine w_ldc rfl rfl ?_
  refine w_call0 [.ref 3, .ref (1000000 + 2 * 3)] [] (by omega) rfl rfl rfl rfl rfl rfl (Nat.le_of_ble_eq_true rfl) (fun _ => xrc_ok rfl) (Nat.le_of_ble_eq_true rfl) rfl rfl (s_cW_needWord (by omega) (Nat.le_of_ble_eq_true rfl)) (fun r7 m8 => ?_)
  refine w_aload_n rfl rfl ?_
  refine w_gfr (r := 3) rfl rfl (Nat.le_of_ble_eq_true rfl) rfl rfl ?_
  refine w_iconst rfl ?_
  refine w_iload_n rfl rfl ?_
  show xw _ _ _ _ 41 _ _ _ _
  refine w_iconst rfl ?_
  refine w_isub rfl ?_
  refine w_call1 [.ref 3, .int (i32 0), .int (i32 (r5 - 1))] [] (by omega) rfl rfl rfl rfl rfl rfl (Nat.le_of_ble_eq_true rfl) (fun _ => xrc_ok rfl) (Nat.le_of_ble_eq_true rfl) rfl rfl (s_cW_needNumber (by omega)) (fun r9 m10 => ?_)
  refine w_istore (lsd := [(4, .int (i32 r9)), (3, .int (i32 r5)), (2, .int (i32 r1)), (0, .ref 4), (1, .ref v1)]) rfl (Nat.le_of_ble_eq_true rfl) rfl ?_
  refine w_aload_n rfl rfl ?_
  refine w_gfr (r := 3) rfl rfl (Nat.le_of_ble_eq_true rfl) rfl rfl ?_
  show xw _ _ _ _ 52 _ _ _ _
  refine w_ldc rfl rfl ?_
  refine w_call1 [.ref 3, .ref (1000000 + 2 * 4)] [] (by omega) rfl rfl rfl rfl rfl rfl (Nat.le_of_ble_eq_true rfl) (fun _ => xrc_ok rfl) (Nat.le_of_ble_eq_true rfl) rfl rfl (s_cW_takeWord (by omega) (Nat.le_of_ble_eq_true rfl)) (fun r11 m12 => ?_)
  refine w_if_eq (tg := 74) rfl rfl rfl ?_ ?_
  · refine w_iconst rfl ?_
    exact w_weak [(1, .ref v1), (2, .int (i32 r1)), (3, .int (i32 r5)), (4, .int (i32 r9))] rfl ⟨rfl, rfl, rfl, rfl, trivial⟩ (s_cR_readLock_75 (by omega) h1)
  · refine w_aload_n rfl rfl ?_
    refine w_gfr (r := 3) rfl rfl (Nat.le_of_ble_eq_true rfl) rfl rfl ?_
    refine w_iconst rfl ?_
    refine w_iload_n rfl rfl ?_
    refine w_iconst rfl ?_
    show xw _ _ _ _ 67 _ _ _ _
    refine w_isub rfl ?_
    refine w_call1 [.ref 3, .int (i32 0), .int (i32 (r5 - 1))] [] (by omega) rfl rfl rfl rfl rfl rfl (Nat.le_of_ble_eq_true rfl) (fun _ => xrc_ok rfl) (Nat.le_of_ble_eq_true rfl) rfl rfl (s_cW_needNumber (by omega)) (fun r13 m14 => ?_)
    refine w_goto (tg := 75) rfl rfl ?_
    exact w_weak [(1, .ref v1), (2, .int (i32 r1)), (3, .int (i32 r5)), (4, .int (i32 r9))] rfl ⟨rfl, rfl, rfl, rfl, trivial⟩ (s_cR_readLock_75 (by omega) h1)
theorem s_cR_readInto_165 {d : Nat} {v1 : Nat} (hd : 142 ≤ d) (h1 : isH v1) {v2 : Int} {m : xm} : xw (am_E L xs bz) d am_m47 1 165 [(0, .ref 4), (2, .int (i32 v2))] [] m (cR_readInto_165 v1 v2 m) := by
  unfold cR_readInto_165
  refine w_aload_n rfl rfl ?_
  refine w_gfr (r := 3) rfl rfl (Nat.le_of_ble_eq_true rfl) rfl rfl ?_
  refine w_call1 [.ref 3] [] (by omega) rfl rfl rfl rfl rfl rfl (Nat.le_of_ble_eq_true rfl) (fun _ => xrc_ok rfl) (Nat.le_of_ble_eq_true rfl) rfl rfl (s_cW_faultKind (by omega)) (fun r1 m2 => ?_)
  refine w_if_ne (tg := 179) rfl rfl rfl ?_ ?_
  · refine w_iconst rfl ?_
    exact w_retv rfl rfl
  · refine w_iload_n rfl rfl ?_
    refine w_goto (tg := 180) rfl rfl ?_
    exact w_retv rfl rfl
theorem s_cR_readInto_147 {d : Nat} {v1 : Nat} (hd : 142 ≤ d) (h1 : isH v1) {v2 : Int} {m : xm} : xw (am_E L xs bz) d am_m47 1 147 [(0, .ref 4), (2, .int (i32 v2))] [] m (cR_readInto_147 v1 v2 m) := by
  unfold cR_readInto_147
  refine w_aload_n rfl rfl ?_
  refine w_gfr (r := 3) rfl rfl (Nat.le_of_ble_eq_true rfl) rfl rfl ?_
  refine w_call1 [.ref 3] [] (by omega) rfl rfl rfl rfl rfl rfl (Nat.le_of_ble_eq_true rfl) (fun _ => xrc_ok rfl) (Nat.le_of_ble_eq_true rfl) rfl rfl (s_cW_isEnd (by omega)) (fun r1 m2 => ?_)
  refine w_if_ne (tg := 165) rfl rfl rfl ?_ ?_
  · exact w_weak [(0, .ref 4), (2, .int (i32 v2))] rfl ⟨rfl, rfl, trivial⟩ (s_cR_readInto_165 (by omega) h1)
  · refine w_aload_n rfl rfl ?_
    refine w_gfr (r := 3) rfl rfl (Nat.le_of_ble_eq_true rfl) rfl rfl ?_
    refine w_iconst rfl ?_
    refine w_call0 [.ref 3, .int (i32 5)] [] (by omega) rfl rfl rfl rfl rfl rfl (Nat.le_of_ble_eq_true rfl) (fun _ => xrc_ok rfl) (Nat.le_of_ble_eq_true rfl) rfl rfl (s_cW_failHere (by omega)) (fun r3 m4 => ?_)
    exact w_weak [(0, .ref 4), (2, .int (i32 v2))] rfl ⟨rfl, rfl, trivial⟩ (s_cR_readInto_165 (by omega) h1)
theorem s_cR_readInto_132 {d : Nat} {v1 : Nat} {k13 : Int → xm → xr} (hd : 142 ≤ d) (h1 : isH v1) (hk13 : ∀ (v2 : Int) (m : xm), xw (am_E L xs bz) d am_m47 1 13 [(0, .ref 4), (1, .ref v1), (2, .int (i32 v2))] [] m (k13 v2 m)) {v2 : Int} {m : xm} : xw (am_E L xs bz) d am_m47 1 132 [(0, .ref 4), (1, .ref v1), (2, .int (i32 v2))] [] m (cR_readInto_132 v1 k13 v2 m) := by
  unfold cR_readInto_132
  refine w_aload_n rfl rfl ?_
  refine w_gfr (r := 3) rfl rfl (Nat.le_of_ble_eq_true rfl) rfl rfl ?_
  refine w_bipush rfl rfl ?_
  refine w_call0 [.ref 3, .int (i32 59)] [] (by omega) rfl rfl rfl rfl rfl rfl (Nat.le_of_ble_eq_true rfl) (fun _ => xrc_ok rfl) (Nat.le_of_ble_eq_true rfl) rfl rfl (s_cW_needSign (by omega)) (fun r1 m2 => ?_)
  refine w_iinc (lsd := [(2, .int (i32 (v2 + 1))), (0, .ref 4), (1, .ref v1)]) rfl (Nat.le_of_ble_eq_true rfl) rfl rfl ?_
  show xw _ _ _ _ 144 _ _ _ _
  refine w_goto (tg := 13) rfl rfl ?_
  exact w_weak [(0, .ref 4), (1, .ref v1), (2, .int (i32 (v2 + 1)))] rfl ⟨rfl, rfl, rfl, trivial⟩ (hk13 (v2 + 1) m2)
theorem s_cR_readInto_13 {d : Nat} {v1 : Nat} (hd : 142 ≤ d) (h1 : isH v1) : ∀ (n : Nat) {v2 : Int} {m : xm}, xw (am_E L xs bz) d am_m47 1 13 [(0, .ref 4), (1, .ref v1), (2, .int (i32 v2))] [] m (cR_readInto_13 v1 n v2 m) := by
  intro n
  induction n with
  | zero => intros; exact w_none
  | succ n ih =>
    intro v2 m
    have hk13 := fun (v2 : Int) (m : xm) => @ih v2 m
    unfold cR_readInto_13
    refine w_iload_n rfl rfl ?_
    refine w_bipush rfl rfl ?_
    refine w_icmp_ge (tg := 147) rfl rfl rfl rfl ?_ ?_
    · exact w_weak [(0, .ref 4), (2, .int (i32 v2))] rfl ⟨rfl, rfl, trivial⟩ (s_cR_readInto_147 (by omega) h1)
    · refine w_aload_n rfl rfl ?_
      refine w_gfr (r := 3) rfl rfl (Nat.le_of_ble_eq_true rfl) rfl rfl ?_
      refine w_call1 [.ref 3] [] (by omega) rfl rfl rfl rfl rfl rfl (Nat.le_of_ble_eq_true rfl) (fun _ => xrc_ok rfl) (Nat.le_of_ble_eq_true rfl) rfl rfl (s_cW_isEnd (by omega)) (fun r1 m2 => ?_)
      refine w_if_ne (tg := 147) rfl rfl rfl ?_ ?_
      · exact w_weak [(0, .ref 4), (2, .int (i32 v2))] rfl ⟨rfl, rfl, trivial⟩ (s_cR_readInto_147 (by omega) h1)
      · refine w_aload_n rfl rfl ?_
        refine w_gfr (r := 3) rfl rfl (Nat.le_of_ble_eq_true rfl) rfl rfl ?_
        refine w_ldc rfl rfl ?_
        refine w_call1 [.ref 3, .ref (1000000 + 2 * 0)] [] (by omega) rfl rfl rfl rfl rfl rfl (Nat.le_of_ble_eq_true rfl) (fun _ => xrc_ok rfl) (Nat.le_of_ble_eq_true rfl) rfl rfl (s_cW_isWord (by omega) (Nat.le_of_ble_eq_true rfl)) (fun r3 m4 => ?_)
        refine w_if_eq (tg := 49) rfl rfl rfl ?_ ?_
        · refine w_aload_n rfl rfl ?_
          refine w_gfr (r := 3) rfl rfl (Nat.le_of_ble_eq_true rfl) rfl rfl ?_
          refine w_ldc rfl rfl ?_
          refine w_call1 [.ref 3, .ref (1000000 + 2 * 5)] [] (by omega) rfl rfl rfl rfl rfl rfl (Nat.le_of_ble_eq_true rfl) (fun _ => xrc_ok rfl) (Nat.le_of_ble_eq_true rfl) rfl rfl (s_cW_isWord (by omega) (Nat.le_of_ble_eq_true rfl)) (fun r5 m6 => ?_)
          refine w_if_eq (tg := 69) rfl rfl rfl ?_ ?_
          · refine w_aload_n rfl rfl ?_
            refine w_gfr (r := 3) rfl rfl (Nat.le_of_ble_eq_true rfl) rfl rfl ?_
            refine w_ldc rfl rfl ?_
            refine w_call1 [.ref 3, .ref (1000000 + 2 * 7)] [] (by omega) rfl rfl rfl rfl rfl rfl (Nat.le_of_ble_eq_true rfl) (fun _ => xrc_ok rfl) (Nat.le_of_ble_eq_true rfl) rfl rfl (s_cW_isWord (by omega) (Nat.le_of_ble_eq_true rfl)) (fun r7 m8 => ?_)
            refine w_if_eq (tg := 89) rfl rfl rfl ?_ ?_
            · refine w_aload_n rfl rfl ?_
              refine w_gfr (r := 3) rfl rfl (Nat.le_of_ble_eq_true rfl) rfl rfl ?_
              refine w_ldc rfl rfl ?_
              refine w_call1 [.ref 3, .ref (1000000 + 2 * 22)] [] (by omega) rfl rfl rfl rfl rfl rfl (Nat.le_of_ble_eq_true rfl) (fun _ => xrc_ok rfl) (Nat.le_of_ble_eq_true rfl) rfl rfl (s_cW_isWord (by omega) (Nat.le_of_ble_eq_true rfl)) (fun r9 m10 => ?_)
              refine w_if_eq (tg := 109) rfl rfl rfl ?_ ?_
              · refine w_aload_n rfl rfl ?_
                refine w_gfr (r := 3) rfl rfl (Nat.le_of_ble_eq_true rfl) rfl rfl ?_
                refine w_ldc rfl rfl ?_
                refine w_call0 [.ref 3, .ref (1000000 + 2 * 24)] [] (by omega) rfl rfl rfl rfl rfl rfl (Nat.le_of_ble_eq_true rfl) (fun _ => xrc_ok rfl) (Nat.le_of_ble_eq_true rfl) rfl rfl (s_cW_needWord (by omega) (Nat.le_of_ble_eq_true rfl)) (fun r11 m12 => ?_)
                refine w_aload_n rfl rfl ?_
                show xw _ _ _ _ 119 _ _ _ _
                refine w_aload_n rfl rfl ?_
                refine w_gfr (r := 3) rfl rfl (Nat.le_of_ble_eq_true rfl) rfl rfl ?_
                refine w_iconst rfl ?_
                refine w_bipush rfl rfl ?_
                refine w_call1 [.ref 3, .int (i32 0), .int (i32 100)] [.ref v1] (by omega) rfl rfl rfl rfl rfl rfl (Nat.le_of_ble_eq_true rfl) (fun _ => xrc_ok rfl) (Nat.le_of_ble_eq_true rfl) rfl rfl (s_cW_needNumber (by omega)) (fun r13 m14 => ?_)
                refine w_call0 [.ref v1, .int (i32 r13)] [] (by omega) rfl rfl rfl rfl rfl rfl (Nat.le_of_ble_eq_true rfl) (fun _ => xrc_ok (rcH h1 rfl)) (Nat.le_of_ble_eq_true rfl) rfl rfl (s_cH_tellRust (by omega) h1) (fun r15 m16 => ?_)
                exact w_weak [(0, .ref 4), (1, .ref v1), (2, .int (i32 v2))] rfl ⟨rfl, rfl, rfl, trivial⟩ (s_cR_readInto_132 (by omega) h1 hk13)
              · refine w_aload_n rfl rfl ?_
                refine w_aload_n rfl rfl ?_
                refine w_call0 [.ref 4, .ref v1] [] (by omega) rfl rfl rfl rfl rfl rfl (Nat.le_of_ble_eq_true rfl) (fun _ => xrc_ok rfl) (Nat.le_of_ble_eq_true rfl) rfl rfl (s_cR_readPlayer (by omega) h1) (fun r17 m18 => ?_)
                refine w_goto (tg := 132) rfl rfl ?_
                exact w_weak [(0, .ref 4), (1, .ref v1), (2, .int (i32 v2))] rfl ⟨rfl, rfl, rfl, trivial⟩ (s_cR_readInto_132 (by omega) h1 hk13)
            · refine w_aload_n rfl rfl ?_
              refine w_aload_n rfl rfl ?_
              refine w_call0 [.ref 4, .ref v1] [] (by omega) rfl rfl rfl rfl rfl rfl (Nat.le_of_ble_eq_true rfl) (fun _ => xrc_ok rfl) (Nat.le_of_ble_eq_true rfl) rfl rfl (s_cR_readDoor (by omega) h1) (fun r19 m20 => ?_)
              refine w_goto (tg := 132) rfl rfl ?_
              exact w_weak [(0, .ref 4), (1, .ref v1), (2, .int (i32 v2))] rfl ⟨rfl, rfl, rfl, trivial⟩ (s_cR_readInto_132 (by omega) h1 hk13)
          · refine w_aload_n rfl rfl ?_
            refine w_aload_n rfl rfl ?_
            refine w_call0 [.ref 4, .ref v1] [] (by omega) rfl rfl rfl rfl rfl rfl (Nat.le_of_ble_eq_true rfl) (fun _ => xrc_ok rfl) (Nat.le_of_ble_eq_true rfl) rfl rfl (s_cR_readNote (by omega) h1) (fun r21 m22 => ?_)
            refine w_goto (tg := 132) rfl rfl ?_
            exact w_weak [(0, .ref 4), (1, .ref v1), (2, .int (i32 v2))] rfl ⟨rfl, rfl, rfl, trivial⟩ (s_cR_readInto_132 (by omega) h1 hk13)
        · refine w_aload_n rfl rfl ?_
          refine w_aload_n rfl rfl ?_
          refine w_call0 [.ref 4, .ref v1] [] (by omega) rfl rfl rfl rfl rfl rfl (Nat.le_of_ble_eq_true rfl) (fun _ => xrc_ok rfl) (Nat.le_of_ble_eq_true rfl) rfl rfl (s_cR_readLock (by omega) h1) (fun r23 m24 => ?_)
          refine w_goto (tg := 132) rfl rfl ?_
          exact w_weak [(0, .ref 4), (1, .ref v1), (2, .int (i32 v2))] rfl ⟨rfl, rfl, rfl, trivial⟩ (s_cR_readInto_132 (by omega) h1 hk13)
theorem s_cR_readInto {d : Nat} {v1 : Nat} {m : xm} (hd : 142 ≤ d) (h1 : isH v1) : xw (am_E L xs bz) d am_m47 1 0 [(0, .ref 4), (1, .ref v1)] [] m (cR_readInto v1 m) := by
  unfold cR_readInto
  refine w_aload_n rfl rfl ?_
  refine w_call0 [.ref v1] [] (by omega) rfl rfl rfl rfl rfl rfl (Nat.le_of_ble_eq_true rfl) (fun _ => xrc_ok (rcH h1 rfl)) (Nat.le_of_ble_eq_true rfl) rfl rfl (s_cH_clear (by omega) h1) (fun r1 m2 => ?_)
  refine w_aload_n rfl rfl ?_
  refine w_gfr (r := 3) rfl rfl (Nat.le_of_ble_eq_true rfl) rfl rfl ?_
  refine w_call0 [.ref 3] [] (by omega) rfl rfl rfl rfl rfl rfl (Nat.le_of_ble_eq_true rfl) (fun _ => xrc_ok rfl) (Nat.le_of_ble_eq_true rfl) rfl rfl (s_cW_begin (by omega)) (fun r3 m4 => ?_)
  show xw _ _ _ _ 11 _ _ _ _
  refine w_iconst rfl ?_
  refine w_istore_n (lsd := [(2, .int (i32 0)), (0, .ref 4), (1, .ref v1)]) rfl (Nat.le_of_ble_eq_true rfl) rfl ?_
  exact w_weak [(0, .ref 4), (1, .ref v1), (2, .int (i32 0))] rfl ⟨rfl, rfl, rfl, trivial⟩ (s_cR_readInto_13 (by omega) h1 _)
theorem s_cE_forget {d : Nat} {m : xm} (hd : 0 ≤ d) : xw (am_E L xs bz) d am_m55 0 0 [(0, .ref 18)] [] m (cE_forget m) := by
  unfold cE_forget
  refine w_aload_n rfl rfl ?_
  refine w_iconst rfl ?_
  refine w_pfi rfl rfl (Nat.le_of_ble_eq_true rfl) rfl rfl rfl (fun m1 => ?_)
  exact w_retv (x := 0) rfl rfl
theorem s_cE_rows {d : Nat} {m : xm} (hd : 0 ≤ d) : xw (am_E L xs bz) d am_m56 1 0 [(0, .ref 18)] [] m (cE_rows m) := by
  unfold cE_rows
  refine w_aload_n rfl rfl ?_
  refine w_gfi rfl rfl (Nat.le_of_ble_eq_true rfl) rfl rfl ?_
  exact w_retv rfl rfl
theorem s_cT_cut {d : Nat} {v1 : Int} {m : xm} (hd : 1 ≤ d) : xw (am_E L xs bz) d am_m101 0 0 [(0, .ref 1), (1, .int (i32 v1))] [] m (cT_cut v1 m) := by
  unfold cT_cut
  refine w_aload_n rfl rfl ?_
  refine w_iconst rfl ?_
  refine w_iload_n rfl rfl ?_
  refine w_aload_n rfl rfl ?_
  refine w_gfi rfl rfl (Nat.le_of_ble_eq_true rfl) rfl rfl ?_
  show xw _ _ _ _ 7 _ _ _ _
  refine w_call1 [.int (i32 v1), .int (i32 (ld m 1 1))] [.int (i32 0), .ref 1] (by omega) rfl rfl rfl rfl rfl rfl (Nat.le_of_ble_eq_true rfl) (fun z => by cases z) (Nat.le_of_ble_eq_true rfl) rfl rfl (s_j_minI (by omega)) (fun r1 m2 => ?_)
  refine w_call1 [.int (i32 0), .int (i32 r1)] [.ref 1] (by omega) rfl rfl rfl rfl rfl rfl (Nat.le_of_ble_eq_true rfl) (fun z => by cases z) (Nat.le_of_ble_eq_true rfl) rfl rfl (s_j_maxI (by omega)) (fun r3 m4 => ?_)
  refine w_pfi rfl rfl (Nat.le_of_ble_eq_true rfl) rfl rfl rfl (fun m5 => ?_)
  exact w_retv (x := 0) rfl rfl
theorem s_cE_take_175 {d : Nat} {v2 : Nat} (hd : 4 ≤ d) (h2 : isH v2) {v4 : Int} {s1 : Int} {m : xm} : xw (am_E L xs bz) d am_m57 1 175 [(1, .ref 1), (4, .int (i32 v4))] [.int (i32 s1), .ref 18] m (cE_take_175 v2 v4 s1 m) := by
  unfold cE_take_175
  refine w_pfi rfl rfl (Nat.le_of_ble_eq_true rfl) rfl rfl rfl (fun m1 => ?_)
  refine w_aload_n rfl rfl ?_
  refine w_iconst rfl ?_
  refine w_call0 [.ref 1, .int (i32 0)] [] (by omega) rfl rfl rfl rfl rfl rfl (Nat.le_of_ble_eq_true rfl) (fun _ => xrc_ok rfl) (Nat.le_of_ble_eq_true rfl) rfl rfl (s_cT_cut (by omega)) (fun r2 m3 => ?_)
  refine w_iload rfl rfl ?_
  show xw _ _ _ _ 185 _ _ _ _
  exact w_retb rfl rfl
theorem s_cE_take_161 {d : Nat} {v2 : Nat} (hd : 4 ≤ d) (h2 : isH v2) {v3 : Int} {v4 : Int} {m : xm} : xw (am_E L xs bz) d am_m57 1 161 [(0, .ref 18), (1, .ref 1), (3, .int (i32 v3)), (4, .int (i32 v4))] [] m (cE_take_161 v2 v3 v4 m) := by
  unfold cE_take_161
  refine w_aload_n rfl rfl ?_
  refine w_iload rfl rfl ?_
  refine w_if_eq (tg := 171) rfl rfl rfl ?_ ?_
  · refine w_aload_n rfl rfl ?_
    refine w_gfi rfl rfl (Nat.le_of_ble_eq_true rfl) rfl rfl ?_
    exact w_weak [(1, .ref 1), (4, .int (i32 v4))] rfl ⟨rfl, rfl, trivial⟩ (s_cE_take_175 (by omega) h2)
  · refine w_iload_n rfl rfl ?_
    refine w_goto (tg := 175) rfl rfl ?_
    exact w_weak [(1, .ref 1), (4, .int (i32 v4))] rfl ⟨rfl, rfl, trivial⟩ (s_cE_take_175 (by omega) h2)
theorem s_cE_take_108 {d : Nat} {v2 : Nat} (hd : 4 ≤ d) (h2 : isH v2) : ∀ (n : Nat) {v3 : Int} {v4 : Int} {v5 : Int} {m : xm}, xw (am_E L xs bz) d am_m57 1 108 [(0, .ref 18), (1, .ref 1), (3, .int (i32 v3)), (4, .int (i32 v4)), (5, .int (i32 v5))] [] m (cE_take_108 v2 n v3 v4 v5 m) := by
  intro n
  induction n with
  | zero => intros; exact w_none
  | succ n ih =>
    intro v3 v4 v5 m
    have hk108 := fun (v3 v4 v5 : Int) (m : xm) => @ih v3 v4 v5 m
    unfold cE_take_108
    refine w_iload rfl rfl ?_
    refine w_iload_n rfl rfl ?_
    refine w_icmp_ge (tg := 161) rfl rfl rfl rfl ?_ ?_
    · exact w_weak [(0, .ref 18), (1, .ref 1), (3, .int (i32 v3)), (4, .int (i32 v4))] rfl ⟨rfl, rfl, rfl, rfl, trivial⟩ (s_cE_take_161 (by omega) h2)
    · refine w_iload rfl rfl ?_
      refine w_if_eq (tg := 161) rfl rfl rfl ?_ ?_
      · exact w_weak [(0, .ref 18), (1, .ref 1), (3, .int (i32 v3)), (4, .int (i32 v4))] rfl ⟨rfl, rfl, rfl, rfl, trivial⟩ (s_cE_take_161 (by omega) h2)
      · refine w_aload_n rfl rfl ?_
        refine w_gfr (r := 19) rfl rfl (Nat.le_of_ble_eq_true rfl) rfl rfl ?_
        refine w_iload rfl rfl ?_
        refine w_aload_n rfl rfl ?_
        refine w_iconst rfl ?_
        show xw _ _ _ _ 127 _ _ _ _
        refine w_iload rfl rfl ?_
        refine w_imul rfl ?_
        refine w_call1 [.ref 1, .int (i32 (2 * v5))] [.int (i32 v5), .ref 19] (by omega) rfl rfl rfl rfl rfl rfl (Nat.le_of_ble_eq_true rfl) (fun _ => xrc_ok rfl) (Nat.le_of_ble_eq_true rfl) rfl rfl (s_cT_byteAt (by omega)) (fun r1 m2 => ?_)
        refine w_call0 [.ref 19, .int (i32 v5), .int (i32 r1)] [] (by omega) rfl rfl rfl rfl rfl rfl (Nat.le_of_ble_eq_true rfl) (fun z => by cases z) (Nat.le_of_ble_eq_true rfl) rfl rfl (s_cL_setCell (by omega) rfl) (fun r3 m4 => ?_)
        refine w_aload_n rfl rfl ?_
        refine w_gfr (r := 20) rfl rfl (Nat.le_of_ble_eq_true rfl) rfl rfl ?_
        show xw _ _ _ _ 140 _ _ _ _
        refine w_iload rfl rfl ?_
        refine w_aload_n rfl rfl ?_
        refine w_iconst rfl ?_
        refine w_iload rfl rfl ?_
        refine w_imul rfl ?_
        refine w_iconst rfl ?_
        show xw _ _ _ _ 148 _ _ _ _
        refine w_iadd rfl ?_
        refine w_call1 [.ref 1, .int (i32 ((2 * v5) + 1))] [.int (i32 v5), .ref 20] (by omega) rfl rfl rfl rfl rfl rfl (Nat.le_of_ble_eq_true rfl) (fun _ => xrc_ok rfl) (Nat.le_of_ble_eq_true rfl) rfl rfl (s_cT_byteAt (by omega)) (fun r5 m6 => ?_)
        refine w_call0 [.ref 20, .int (i32 v5), .int (i32 r5)] [] (by omega) rfl rfl rfl rfl rfl rfl (Nat.le_of_ble_eq_true rfl) (fun z => by cases z) (Nat.le_of_ble_eq_true rfl) rfl rfl (s_cL_setCell (by omega) rfl) (fun r7 m8 => ?_)
        refine w_iinc (lsd := [(5, .int (i32 (v5 + 1))), (0, .ref 18), (1, .ref 1), (3, .int (i32 v3)), (4, .int (i32 v4))]) rfl (Nat.le_of_ble_eq_true rfl) rfl rfl ?_
        refine w_goto (tg := 108) rfl rfl ?_
        exact w_weak [(0, .ref 18), (1, .ref 1), (3, .int (i32 v3)), (4, .int (i32 v4)), (5, .int (i32 (v5 + 1)))] rfl ⟨rfl, rfl, rfl, rfl, rfl, trivial⟩ (hk108 v3 v4 (v5 + 1) m8)
theorem s_cE_take_105 {d : Nat} {v2 : Nat} (hd : 4 ≤ d) (h2 : isH v2) {v3 : Int} {v4 : Int} {m : xm} : xw (am_E L xs bz) d am_m57 1 105 [(0, .ref 18), (1, .ref 1), (3, .int (i32 v3)), (4, .int (i32 v4))] [] m (cE_take_105 v2 v3 v4 m) := by
  unfold cE_take_105
  refine w_iconst rfl ?_
  refine w_istore (lsd := [(5, .int (i32 0)), (0, .ref 18), (1, .ref 1), (3, .int (i32 v3)), (4, .int (i32 v4))]) rfl (Nat.le_of_ble_eq_true rfl) rfl ?_
  exact w_weak [(0, .ref 18), (1, .ref 1), (3, .int (i32 v3)), (4, .int (i32 v4)), (5, .int (i32 0))] rfl ⟨rfl, rfl, rfl, rfl, rfl, trivial⟩ (s_cE_take_108 (by omega) h2 _)
theorem s_cE_take_97 {d : Nat} {v2 : Nat} {k37 : Int → Int → Int → xm → xr} (hd : 4 ≤ d) (h2 : isH v2) (hk37 : ∀ (v3 v4 v5 : Int) (m : xm), xw (am_E L xs bz) d am_m57 1 37 [(0, .ref 18), (1, .ref 1), (2, .ref v2), (3, .int (i32 v3)), (4, .int (i32 v4)), (5, .int (i32 v5))] [] m (k37 v3 v4 v5 m)) {v3 : Int} {v5 : Int} {s0 : Int} {m : xm} : xw (am_E L xs bz) d am_m57 1 97 [(0, .ref 18), (1, .ref 1), (2, .ref v2), (3, .int (i32 v3)), (5, .int (i32 v5))] [.int (i32 s0)] m (cE_take_97 v2 k37 v3 v5 s0 m) := by
  unfold cE_take_97
  refine w_letI (fun x1 => ?_)
  refine w_istore (lsd := [(4, .int (i32 x1)), (0, .ref 18), (1, .ref 1), (2, .ref v2), (3, .int (i32 v3)), (5, .int (i32 v5))]) rfl (Nat.le_of_ble_eq_true rfl) rfl ?_
  refine w_iinc (lsd := [(5, .int (i32 (v5 + 1))), (4, .int (i32 x1)), (0, .ref 18), (1, .ref 1), (2, .ref v2), (3, .int (i32 v3))]) rfl (Nat.le_of_ble_eq_true rfl) rfl rfl ?_
  refine w_goto (tg := 37) rfl rfl ?_
  exact w_weak [(0, .ref 18), (1, .ref 1), (2, .ref v2), (3, .int (i32 v3)), (4, .int (i32 x1)), (5, .int (i32 (v5 + 1)))] rfl ⟨rfl, rfl, rfl, rfl, rfl, rfl, trivial⟩ (hk37 v3 x1 (v5 + 1) m)
theorem s_cE_take_96 {d : Nat} {v2 : Nat} {k37 : Int → Int → Int → xm → xr} (hd : 4 ≤ d) (h2 : isH v2) (hk37 : ∀ (v3 v4 v5 : Int) (m : xm), xw (am_E L xs bz) d am_m57 1 37 [(0, .ref 18), (1, .ref 1), (2, .ref v2), (3, .int (i32 v3)), (4, .int (i32 v4)), (5, .int (i32 v5))] [] m (k37 v3 v4 v5 m)) {v3 : Int} {v5 : Int} {m : xm} : xw (am_E L xs bz) d am_m57 1 96 [(0, .ref 18), (1, .ref 1), (2, .ref v2), (3, .int (i32 v3)), (5, .int (i32 v5))] [] m (cE_take_96 v2 k37 v3 v5 m) := by
  unfold cE_take_96
  refine w_iconst rfl ?_
  exact w_weak [(0, .ref 18), (1, .ref 1), (2, .ref v2), (3, .int (i32 v3)), (5, .int (i32 v5))] rfl ⟨rfl, rfl, rfl, rfl, rfl, trivial⟩ (s_cE_take_97 (by omega) h2 hk37)
theorem s_cE_take_75 {d : Nat} {v2 : Nat} {k37 : Int → Int → Int → xm → xr} (hd : 4 ≤ d) (h2 : isH v2) (hk37 : ∀ (v3 v4 v5 : Int) (m : xm), xw (am_E L xs bz) d am_m57 1 37 [(0, .ref 18), (1, .ref 1), (2, .ref v2), (3, .int (i32 v3)), (4, .int (i32 v4)), (5, .int (i32 v5))] [] m (k37 v3 v4 v5 m)) {v3 : Int} {v5 : Int} {m : xm} : xw (am_E L xs bz) d am_m57 1 75 [(0, .ref 18), (1, .ref 1), (2, .ref v2), (3, .int (i32 v3)), (5, .int (i32 v5))] [] m (cE_take_75 v2 k37 v3 v5 m) := by
  unfold cE_take_75
  refine w_aload_n rfl rfl ?_
  refine w_aload_n rfl rfl ?_
  refine w_iconst rfl ?_
  refine w_iload rfl rfl ?_
  refine w_imul rfl ?_
  show xw _ _ _ _ 81 _ _ _ _
  refine w_iconst rfl ?_
  refine w_iadd rfl ?_
  refine w_call1 [.ref 1, .int (i32 ((2 * v5) + 1))] [.ref v2] (by omega) rfl rfl rfl rfl rfl rfl (Nat.le_of_ble_eq_true rfl) (fun _ => xrc_ok rfl) (Nat.le_of_ble_eq_true rfl) rfl rfl (s_cT_byteAt (by omega)) (fun r1 m2 => ?_)
  refine w_call1 [.ref v2, .int (i32 r1)] [] (by omega) rfl rfl rfl rfl rfl rfl (Nat.le_of_ble_eq_true rfl) (fun _ => xrc_ok (rcH h2 rfl)) (Nat.le_of_ble_eq_true rfl) rfl rfl (s_cH_areDoors (by omega) h2) (fun r3 m4 => ?_)
  refine w_if_eq (tg := 96) rfl rfl rfl ?_ ?_
  · exact w_weak [(0, .ref 18), (1, .ref 1), (2, .ref v2), (3, .int (i32 v3)), (5, .int (i32 v5))] rfl ⟨rfl, rfl, rfl, rfl, rfl, trivial⟩ (s_cE_take_96 (by omega) h2 hk37)
  · refine w_iconst rfl ?_
    refine w_goto (tg := 97) rfl rfl ?_
    exact w_weak [(0, .ref 18), (1, .ref 1), (2, .ref v2), (3, .int (i32 v3)), (5, .int (i32 v5))] rfl ⟨rfl, rfl, rfl, rfl, rfl, trivial⟩ (s_cE_take_97 (by omega) h2 hk37)
theorem s_cE_take_37 {d : Nat} {v2 : Nat} (hd : 4 ≤ d) (h2 : isH v2) : ∀ (n : Nat) {v3 : Int} {v4 : Int} {v5 : Int} {m : xm}, xw (am_E L xs bz) d am_m57 1 37 [(0, .ref 18), (1, .ref 1), (2, .ref v2), (3, .int (i32 v3)), (4, .int (i32 v4)), (5, .int (i32 v5))] [] m (cE_take_37 v2 n v3 v4 v5 m) := by
  intro n
  induction n with
  | zero => intros; exact w_none
  | succ n ih =>
    intro v3 v4 v5 m
    have hk37 := fun (v3 v4 v5 : Int) (m : xm) => @ih v3 v4 v5 m
    unfold cE_take_37
    refine w_iload rfl rfl ?_
    refine w_iload_n rfl rfl ?_
    refine w_icmp_ge (tg := 105) rfl rfl rfl rfl ?_ ?_
    · exact w_weak [(0, .ref 18), (1, .ref 1), (3, .int (i32 v3)), (4, .int (i32 v4))] rfl ⟨rfl, rfl, rfl, rfl, trivial⟩ (s_cE_take_105 (by omega) h2)
    · refine w_iload rfl rfl ?_
      refine w_if_eq (tg := 105) rfl rfl rfl ?_ ?_
      · exact w_weak [(0, .ref 18), (1, .ref 1), (3, .int (i32 v3)), (4, .int (i32 v4))] rfl ⟨rfl, rfl, rfl, rfl, trivial⟩ (s_cE_take_105 (by omega) h2)
      · refine w_aload_n rfl rfl ?_
        refine w_iconst rfl ?_
        refine w_iload rfl rfl ?_
        refine w_imul rfl ?_
        refine w_call1 [.ref 1, .int (i32 (2 * v5))] [] (by omega) rfl rfl rfl rfl rfl rfl (Nat.le_of_ble_eq_true rfl) (fun _ => xrc_ok rfl) (Nat.le_of_ble_eq_true rfl) rfl rfl (s_cT_byteAt (by omega)) (fun r1 m2 => ?_)
        show xw _ _ _ _ 56 _ _ _ _
        refine w_istore (lsd := [(6, .int (i32 r1)), (0, .ref 18), (1, .ref 1), (2, .ref v2), (3, .int (i32 v3)), (4, .int (i32 v4)), (5, .int (i32 v5))]) rfl (Nat.le_of_ble_eq_true rfl) rfl ?_
        refine w_iload rfl rfl ?_
        refine w_bipush rfl rfl ?_
        refine w_icmp_eq (tg := 75) rfl rfl rfl rfl ?_ ?_
        · exact w_weak [(0, .ref 18), (1, .ref 1), (2, .ref v2), (3, .int (i32 v3)), (5, .int (i32 v5))] rfl ⟨rfl, rfl, rfl, rfl, rfl, trivial⟩ (s_cE_take_75 (by omega) h2 hk37)
        · refine w_aload_n rfl rfl ?_
          refine w_iconst rfl ?_
          refine w_iload rfl rfl ?_
          refine w_call1 [.ref v2, .int (i32 1), .int (i32 r1)] [] (by omega) rfl rfl rfl rfl rfl rfl (Nat.le_of_ble_eq_true rfl) (fun _ => xrc_ok (rcH h2 rfl)) (Nat.le_of_ble_eq_true rfl) rfl rfl (s_cH_isOne (by omega) h2) (fun r3 m4 => ?_)
          refine w_if_eq (tg := 96) rfl rfl rfl ?_ ?_
          · exact w_weak [(0, .ref 18), (1, .ref 1), (2, .ref v2), (3, .int (i32 v3)), (5, .int (i32 v5))] rfl ⟨rfl, rfl, rfl, rfl, rfl, trivial⟩ (s_cE_take_96 (by omega) h2 hk37)
          · exact w_weak [(0, .ref 18), (1, .ref 1), (2, .ref v2), (3, .int (i32 v3)), (5, .int (i32 v5))] rfl ⟨rfl, rfl, rfl, rfl, rfl, trivial⟩ (s_cE_take_75 (by omega) h2 hk37)
theorem s_cE_take_32 {d : Nat} {v2 : Nat} (hd : 4 ≤ d) (h2 : isH v2) {v3 : Int} {s0 : Int} {m : xm} : xw (am_E L xs bz) d am_m57 1 32 [(0, .ref 18), (1, .ref 1), (2, .ref v2), (3, .int (i32 v3))] [.int (i32 s0)] m (cE_take_32 v2 v3 s0 m) := by
  unfold cE_take_32
  refine w_letI (fun x1 => ?_)
  refine w_istore (lsd := [(4, .int (i32 x1)), (0, .ref 18), (1, .ref 1), (2, .ref v2), (3, .int (i32 v3))]) rfl (Nat.le_of_ble_eq_true rfl) rfl ?_
  refine w_iconst rfl ?_
  refine w_istore (lsd := [(5, .int (i32 0)), (4, .int (i32 x1)), (0, .ref 18), (1, .ref 1), (2, .ref v2), (3, .int (i32 v3))]) rfl (Nat.le_of_ble_eq_true rfl) rfl ?_
  exact w_weak [(0, .ref 18), (1, .ref 1), (2, .ref v2), (3, .int (i32 v3)), (4, .int (i32 x1)), (5, .int (i32 0))] rfl ⟨rfl, rfl, rfl, rfl, rfl, rfl, trivial⟩ (s_cE_take_37 (by omega) h2 _)
theorem s_cE_take_31 {d : Nat} {v2 : Nat} (hd : 4 ≤ d) (h2 : isH v2) {v3 : Int} {m : xm} : xw (am_E L xs bz) d am_m57 1 31 [(0, .ref 18), (1, .ref 1), (2, .ref v2), (3, .int (i32 v3))] [] m (cE_take_31 v2 v3 m) := by
  unfold cE_take_31
  refine w_iconst rfl ?_
  exact w_weak [(0, .ref 18), (1, .ref 1), (2, .ref v2), (3, .int (i32 v3))] rfl ⟨rfl, rfl, rfl, rfl, trivial⟩ (s_cE_take_32 (by omega) h2)
theorem s_cE_take {d : Nat} {v2 : Nat} {m : xm} (hd : 4 ≤ d) (h2 : isH v2) : xw (am_E L xs bz) d am_m57 1 0 [(0, .ref 18), (1, .ref 1), (2, .ref v2)] [] m (cE_take v2 m) := by
  unfold cE_take
  refine w_aload_n rfl rfl ?_
  refine w_call1 [.ref 1] [] (by omega) rfl rfl rfl rfl rfl rfl (Nat.le_of_ble_eq_true rfl) (fun _ => xrc_ok rfl) (Nat.le_of_ble_eq_true rfl) rfl rfl (s_cT_length (by omega)) (fun r1 m2 => ?_)
  refine w_iconst rfl ?_
  refine w_idivc rfl (by decide) ?_
  refine w_letI (fun x3 => ?_)
  refine w_istore_n (lsd := [(3, .int (i32 x3)), (0, .ref 18), (1, .ref 1), (2, .ref v2)]) rfl (Nat.le_of_ble_eq_true rfl) rfl ?_
  show xw _ _ _ _ 7 _ _ _ _
  refine w_iload_n rfl rfl ?_
  refine w_iconst rfl ?_
  refine w_icmp_lt (tg := 31) rfl rfl rfl rfl ?_ ?_
  · exact w_weak [(0, .ref 18), (1, .ref 1), (2, .ref v2), (3, .int (i32 x3))] rfl ⟨rfl, rfl, rfl, rfl, trivial⟩ (s_cE_take_31 (by omega) h2)
  · refine w_iload_n rfl rfl ?_
    refine w_bipush rfl rfl ?_
    refine w_icmp_gt (tg := 31) rfl rfl rfl rfl ?_ ?_
    · exact w_weak [(0, .ref 18), (1, .ref 1), (2, .ref v2), (3, .int (i32 x3))] rfl ⟨rfl, rfl, rfl, rfl, trivial⟩ (s_cE_take_31 (by omega) h2)
    · refine w_aload_n rfl rfl ?_
      refine w_call1 [.ref 1] [] (by omega) rfl rfl rfl rfl rfl rfl (Nat.le_of_ble_eq_true rfl) (fun _ => xrc_ok rfl) (Nat.le_of_ble_eq_true rfl) rfl rfl (s_cT_length (by omega)) (fun r4 m5 => ?_)
      refine w_iconst rfl ?_
      refine w_iremc rfl (by decide) ?_
      refine w_if_ne (tg := 31) rfl rfl (w32_of _) ?_ ?_
      · exact w_weak [(0, .ref 18), (1, .ref 1), (2, .ref v2), (3, .int (i32 x3))] rfl ⟨rfl, rfl, rfl, rfl, trivial⟩ (s_cE_take_31 (by omega) h2)
      · refine w_iconst rfl ?_
        refine w_goto (tg := 32) rfl rfl ?_
        exact w_weak [(0, .ref 18), (1, .ref 1), (2, .ref v2), (3, .int (i32 x3))] rfl ⟨rfl, rfl, rfl, rfl, trivial⟩ (s_cE_take_32 (by omega) h2)
theorem s_cE_fits_5 {d : Nat} {v1 : Nat} (hd : 5 ≤ d) (h1 : isH v1) : ∀ (n : Nat) {v3 : Int} {v4 : Int} {m : xm}, xw (am_E L xs bz) d am_m58 1 5 [(0, .ref 18), (1, .ref v1), (3, .int (i32 v3)), (4, .int (i32 v4))] [] m (cE_fits_5 v1 n v3 v4 m) := by
  intro n
  induction n with
  | zero => intros; exact w_none
  | succ n ih =>
    intro v3 v4 m
    have hk5 := fun (v3 v4 : Int) (m : xm) => @ih v3 v4 m
    unfold cE_fits_5
    refine w_iload rfl rfl ?_
    refine w_aload_n rfl rfl ?_
    refine w_gfi rfl rfl (Nat.le_of_ble_eq_true rfl) rfl rfl ?_
    refine w_icmp_ge (tg := 70) rfl rfl rfl (w32_ld _ _ _) ?_ ?_
    · refine w_iconst rfl ?_
      exact w_retv rfl rfl
    · refine w_aload_n rfl rfl ?_
      refine w_gfr (r := 19) rfl rfl (Nat.le_of_ble_eq_true rfl) rfl rfl ?_
      refine w_iload rfl rfl ?_
      refine w_call1 [.ref 19, .int (i32 v4)] [] (by omega) rfl rfl rfl rfl rfl rfl (Nat.le_of_ble_eq_true rfl) (fun z => by cases z) (Nat.le_of_ble_eq_true rfl) rfl rfl (s_cL_cell (by omega) rfl) (fun r1 m2 => ?_)
      refine w_istore (lsd := [(5, .int (i32 r1)), (0, .ref 18), (1, .ref v1), (3, .int (i32 v3)), (4, .int (i32 v4))]) rfl (Nat.le_of_ble_eq_true rfl) rfl ?_
      show xw _ _ _ _ 25 _ _ _ _
      refine w_aload_n rfl rfl ?_
      refine w_iload_n rfl rfl ?_
      refine w_iload rfl rfl ?_
      refine w_call1 [.ref v1, .int (i32 v3), .int (i32 r1)] [] (by omega) rfl rfl rfl rfl rfl rfl (Nat.le_of_ble_eq_true rfl) (fun _ => xrc_ok (rcH h1 rfl)) (Nat.le_of_ble_eq_true rfl) rfl rfl (s_cH_canPlay (by omega) h1) (fun r3 m4 => ?_)
      refine w_if_ne (tg := 37) rfl rfl rfl ?_ ?_
      · refine w_aload_n rfl rfl ?_
        refine w_iload_n rfl rfl ?_
        refine w_iload rfl rfl ?_
        refine w_call1 [.ref v1, .int (i32 v3), .int (i32 r1)] [] (by omega) rfl rfl rfl rfl rfl rfl (Nat.le_of_ble_eq_true rfl) (fun _ => xrc_ok (rcH h1 rfl)) (Nat.le_of_ble_eq_true rfl) rfl rfl (s_cH_after (by omega) h1) (fun r5 m6 => ?_)
        refine w_istore_n (lsd := [(3, .int (i32 r5)), (5, .int (i32 r1)), (0, .ref 18), (1, .ref v1), (4, .int (i32 v4))]) rfl (Nat.le_of_ble_eq_true rfl) rfl ?_
        show xw _ _ _ _ 45 _ _ _ _
        refine w_aload_n rfl rfl ?_
        refine w_iload_n rfl rfl ?_
        refine w_call1 [.ref v1, .int (i32 r5)] [] (by omega) rfl rfl rfl rfl rfl rfl (Nat.le_of_ble_eq_true rfl) (fun _ => xrc_ok (rcH h1 rfl)) (Nat.le_of_ble_eq_true rfl) rfl rfl (s_cH_openDoors (by omega) h1) (fun r7 m8 => ?_)
        refine w_aload_n rfl rfl ?_
        refine w_gfr (r := 20) rfl rfl (Nat.le_of_ble_eq_true rfl) rfl rfl ?_
        refine w_iload rfl rfl ?_
        show xw _ _ _ _ 56 _ _ _ _
        refine w_call1 [.ref 20, .int (i32 v4)] [.int (i32 r7)] (by omega) rfl rfl rfl rfl rfl rfl (Nat.le_of_ble_eq_true rfl) (fun z => by cases z) (Nat.le_of_ble_eq_true rfl) rfl rfl (s_cL_cell (by omega) rfl) (fun r9 m10 => ?_)
        refine w_icmp_eq (tg := 64) rfl rfl rfl rfl ?_ ?_
        · refine w_iinc (lsd := [(4, .int (i32 (v4 + 1))), (3, .int (i32 r5)), (5, .int (i32 r1)), (0, .ref 18), (1, .ref v1)]) rfl (Nat.le_of_ble_eq_true rfl) rfl rfl ?_
          refine w_goto (tg := 5) rfl rfl ?_
          exact w_weak [(0, .ref 18), (1, .ref v1), (3, .int (i32 r5)), (4, .int (i32 (v4 + 1)))] rfl ⟨rfl, rfl, rfl, rfl, trivial⟩ (hk5 r5 (v4 + 1) m10)
        · refine w_iconst rfl ?_
          exact w_retv rfl rfl
      · refine w_iconst rfl ?_
        exact w_retv rfl rfl
theorem s_cE_fits {d : Nat} {v1 : Nat} {v2 : Int} {m : xm} (hd : 5 ≤ d) (h1 : isH v1) : xw (am_E L xs bz) d am_m58 1 0 [(0, .ref 18), (1, .ref v1), (2, .int (i32 v2))] [] m (cE_fits v1 v2 m) := by
  unfold cE_fits
  refine w_iload_n rfl rfl ?_
  refine w_istore_n (lsd := [(3, .int (i32 v2)), (0, .ref 18), (1, .ref v1), (2, .int (i32 v2))]) rfl (Nat.le_of_ble_eq_true rfl) rfl ?_
  refine w_iconst rfl ?_
  refine w_istore (lsd := [(4, .int (i32 0)), (3, .int (i32 v2)), (0, .ref 18), (1, .ref v1), (2, .int (i32 v2))]) rfl (Nat.le_of_ble_eq_true rfl) rfl ?_
  exact w_weak [(0, .ref 18), (1, .ref v1), (3, .int (i32 v2)), (4, .int (i32 0))] rfl ⟨rfl, rfl, rfl, rfl, trivial⟩ (s_cE_fits_5 (by omega) h1 _)
theorem s_cP_take_94 {d : Nat} {v2 : Nat} (hd : 2 ≤ d) (h2 : isH v2) {v3 : Int} {m : xm} : xw (am_E L xs bz) d am_m60 1 94 [(1, .ref 1), (3, .int (i32 v3))] [] m (cP_take_94 v2 v3 m) := by
  unfold cP_take_94
  refine w_aload_n rfl rfl ?_
  refine w_iconst rfl ?_
  refine w_call0 [.ref 1, .int (i32 0)] [] (by omega) rfl rfl rfl rfl rfl rfl (Nat.le_of_ble_eq_true rfl) (fun _ => xrc_ok rfl) (Nat.le_of_ble_eq_true rfl) rfl rfl (s_cT_cut (by omega)) (fun r1 m2 => ?_)
  refine w_iload_n rfl rfl ?_
  exact w_retb rfl rfl
theorem s_cP_take_66 {d : Nat} {v2 : Nat} {k23 : Int → Int → xm → xr} (hd : 2 ≤ d) (h2 : isH v2) (hk23 : ∀ (v3 v4 : Int) (m : xm), xw (am_E L xs bz) d am_m60 1 23 [(0, .ref 16), (1, .ref 1), (2, .ref v2), (3, .int (i32 v3)), (4, .int (i32 v4))] [] m (k23 v3 v4 m)) {v4 : Int} {v5 : Int} {s0 : Int} {m : xm} : xw (am_E L xs bz) d am_m60 1 66 [(0, .ref 16), (1, .ref 1), (2, .ref v2), (4, .int (i32 v4)), (5, .int (i32 v5))] [.int (i32 s0)] m (cP_take_66 v2 k23 v4 v5 s0 m) := by
  unfold cP_take_66
  refine w_letI (fun x1 => ?_)
  refine w_istore_n (lsd := [(3, .int (i32 x1)), (0, .ref 16), (1, .ref 1), (2, .ref v2), (4, .int (i32 v4)), (5, .int (i32 v5))]) rfl (Nat.le_of_ble_eq_true rfl) rfl ?_
  refine w_aload_n rfl rfl ?_
  refine w_gfr (r := 17) rfl rfl (Nat.le_of_ble_eq_true rfl) rfl rfl ?_
  refine w_iload rfl rfl ?_
  refine w_iload rfl rfl ?_
  show xw _ _ _ _ 75 _ _ _ _
  refine w_call0 [.ref 17, .int (i32 v4), .int (i32 v5)] [] (by omega) rfl rfl rfl rfl rfl rfl (Nat.le_of_ble_eq_true rfl) (fun z => by cases z) (Nat.le_of_ble_eq_true rfl) rfl rfl (s_cL_setCell (by omega) rfl) (fun r2 m3 => ?_)
  refine w_aload_n rfl rfl ?_
  refine w_dup rfl rfl ?_
  refine w_gfi rfl rfl (Nat.le_of_ble_eq_true rfl) rfl rfl ?_
  refine w_iconst rfl ?_
  refine w_iadd rfl ?_
  show xw _ _ _ _ 85 _ _ _ _
  refine w_pfi rfl rfl (Nat.le_of_ble_eq_true rfl) rfl rfl rfl (fun m4 => ?_)
  refine w_iinc (lsd := [(4, .int (i32 (v4 + 1))), (3, .int (i32 x1)), (0, .ref 16), (1, .ref 1), (2, .ref v2), (5, .int (i32 v5))]) rfl (Nat.le_of_ble_eq_true rfl) rfl rfl ?_
  refine w_goto (tg := 23) rfl rfl ?_
  exact w_weak [(0, .ref 16), (1, .ref 1), (2, .ref v2), (3, .int (i32 x1)), (4, .int (i32 (v4 + 1)))] rfl ⟨rfl, rfl, rfl, rfl, rfl, trivial⟩ (hk23 x1 (v4 + 1) m4)
theorem s_cP_take_61 {d : Nat} {v2 : Nat} {k23 : Int → Int → xm → xr} (hd : 2 ≤ d) (h2 : isH v2) (hk23 : ∀ (v3 v4 : Int) (m : xm), xw (am_E L xs bz) d am_m60 1 23 [(0, .ref 16), (1, .ref 1), (2, .ref v2), (3, .int (i32 v3)), (4, .int (i32 v4))] [] m (k23 v3 v4 m)) {v4 : Int} {v5 : Int} {m : xm} : xw (am_E L xs bz) d am_m60 1 61 [(0, .ref 16), (1, .ref 1), (2, .ref v2), (4, .int (i32 v4)), (5, .int (i32 v5))] [] m (cP_take_61 v2 k23 v4 v5 m) := by
  unfold cP_take_61
  refine w_iconst rfl ?_
  refine w_goto (tg := 66) rfl rfl ?_
  exact w_weak [(0, .ref 16), (1, .ref 1), (2, .ref v2), (4, .int (i32 v4)), (5, .int (i32 v5))] rfl ⟨rfl, rfl, rfl, rfl, rfl, trivial⟩ (s_cP_take_66 (by omega) h2 hk23)
theorem s_cP_take_23 {d : Nat} {v2 : Nat} (hd : 2 ≤ d) (h2 : isH v2) : ∀ (n : Nat) {v3 : Int} {v4 : Int} {m : xm}, xw (am_E L xs bz) d am_m60 1 23 [(0, .ref 16), (1, .ref 1), (2, .ref v2), (3, .int (i32 v3)), (4, .int (i32 v4))] [] m (cP_take_23 v2 n v3 v4 m) := by
  intro n
  induction n with
  | zero => intros; exact w_none
  | succ n ih =>
    intro v3 v4 m
    have hk23 := fun (v3 v4 : Int) (m : xm) => @ih v3 v4 m
    unfold cP_take_23
    refine w_iload rfl rfl ?_
    refine w_aload_n rfl rfl ?_
    refine w_call1 [.ref 1] [.int (i32 v4)] (by omega) rfl rfl rfl rfl rfl rfl (Nat.le_of_ble_eq_true rfl) (fun _ => xrc_ok rfl) (Nat.le_of_ble_eq_true rfl) rfl rfl (s_cT_length (by omega)) (fun r1 m2 => ?_)
    refine w_icmp_ge (tg := 94) rfl rfl rfl rfl ?_ ?_
    · exact w_weak [(1, .ref 1), (3, .int (i32 v3))] rfl ⟨rfl, rfl, trivial⟩ (s_cP_take_94 (by omega) h2)
    · refine w_iload_n rfl rfl ?_
      refine w_if_eq (tg := 94) rfl rfl rfl ?_ ?_
      · exact w_weak [(1, .ref 1), (3, .int (i32 v3))] rfl ⟨rfl, rfl, trivial⟩ (s_cP_take_94 (by omega) h2)
      · refine w_aload_n rfl rfl ?_
        refine w_iload rfl rfl ?_
        refine w_call1 [.ref 1, .int (i32 v4)] [] (by omega) rfl rfl rfl rfl rfl rfl (Nat.le_of_ble_eq_true rfl) (fun _ => xrc_ok rfl) (Nat.le_of_ble_eq_true rfl) rfl rfl (s_cT_byteAt (by omega)) (fun r3 m4 => ?_)
        refine w_istore (lsd := [(5, .int (i32 r3)), (0, .ref 16), (1, .ref 1), (2, .ref v2), (3, .int (i32 v3)), (4, .int (i32 v4))]) rfl (Nat.le_of_ble_eq_true rfl) rfl ?_
        refine w_iload rfl rfl ?_
        show xw _ _ _ _ 46 _ _ _ _
        refine w_bipush rfl rfl ?_
        refine w_icmp_eq (tg := 61) rfl rfl rfl rfl ?_ ?_
        · exact w_weak [(0, .ref 16), (1, .ref 1), (2, .ref v2), (4, .int (i32 v4)), (5, .int (i32 r3))] rfl ⟨rfl, rfl, rfl, rfl, rfl, trivial⟩ (s_cP_take_61 (by omega) h2 hk23)
        · refine w_aload_n rfl rfl ?_
          refine w_iconst rfl ?_
          refine w_iload rfl rfl ?_
          refine w_call1 [.ref v2, .int (i32 1), .int (i32 r3)] [] (by omega) rfl rfl rfl rfl rfl rfl (Nat.le_of_ble_eq_true rfl) (fun _ => xrc_ok (rcH h2 rfl)) (Nat.le_of_ble_eq_true rfl) rfl rfl (s_cH_isOne (by omega) h2) (fun r5 m6 => ?_)
          refine w_if_eq (tg := 65) rfl rfl rfl ?_ ?_
          · refine w_iconst rfl ?_
            exact w_weak [(0, .ref 16), (1, .ref 1), (2, .ref v2), (4, .int (i32 v4)), (5, .int (i32 r3))] rfl ⟨rfl, rfl, rfl, rfl, rfl, trivial⟩ (s_cP_take_66 (by omega) h2 hk23)
          · exact w_weak [(0, .ref 16), (1, .ref 1), (2, .ref v2), (4, .int (i32 v4)), (5, .int (i32 r3))] rfl ⟨rfl, rfl, rfl, rfl, rfl, trivial⟩ (s_cP_take_61 (by omega) h2 hk23)
theorem s_cP_take_19 {d : Nat} {v2 : Nat} (hd : 2 ≤ d) (h2 : isH v2) {s0 : Int} {m : xm} : xw (am_E L xs bz) d am_m60 1 19 [(0, .ref 16), (1, .ref 1), (2, .ref v2)] [.int (i32 s0)] m (cP_take_19 v2 s0 m) := by
  unfold cP_take_19
  refine w_letI (fun x1 => ?_)
  refine w_istore_n (lsd := [(3, .int (i32 x1)), (0, .ref 16), (1, .ref 1), (2, .ref v2)]) rfl (Nat.le_of_ble_eq_true rfl) rfl ?_
  refine w_iconst rfl ?_
  refine w_istore (lsd := [(4, .int (i32 0)), (3, .int (i32 x1)), (0, .ref 16), (1, .ref 1), (2, .ref v2)]) rfl (Nat.le_of_ble_eq_true rfl) rfl ?_
  exact w_weak [(0, .ref 16), (1, .ref 1), (2, .ref v2), (3, .int (i32 x1)), (4, .int (i32 0))] rfl ⟨rfl, rfl, rfl, rfl, rfl, trivial⟩ (s_cP_take_23 (by omega) h2 _)
theorem s_cP_take {d : Nat} {v2 : Nat} {m : xm} (hd : 2 ≤ d) (h2 : isH v2) : xw (am_E L xs bz) d am_m60 1 0 [(0, .ref 16), (1, .ref 1), (2, .ref v2)] [] m (cP_take v2 m) := by
  unfold cP_take
  refine w_aload_n rfl rfl ?_
  refine w_iconst rfl ?_
  refine w_pfi rfl rfl (Nat.le_of_ble_eq_true rfl) rfl rfl rfl (fun m1 => ?_)
  refine w_aload_n rfl rfl ?_
  refine w_call1 [.ref 1] [] (by omega) rfl rfl rfl rfl rfl rfl (Nat.le_of_ble_eq_true rfl) (fun _ => xrc_ok rfl) (Nat.le_of_ble_eq_true rfl) rfl rfl (s_cT_length (by omega)) (fun r2 m3 => ?_)
  show xw _ _ _ _ 9 _ _ _ _
  refine w_bipush rfl rfl ?_
  refine w_icmp_gt (tg := 18) rfl rfl rfl rfl ?_ ?_
  · refine w_iconst rfl ?_
    exact w_weak [(0, .ref 16), (1, .ref 1), (2, .ref v2)] rfl ⟨rfl, rfl, rfl, trivial⟩ (s_cP_take_19 (by omega) h2)
  · refine w_iconst rfl ?_
    refine w_goto (tg := 19) rfl rfl ?_
    exact w_weak [(0, .ref 16), (1, .ref 1), (2, .ref v2)] rfl ⟨rfl, rfl, rfl, trivial⟩ (s_cP_take_19 (by omega) h2)
theorem s_cP_length {d : Nat} {m : xm} (hd : 0 ≤ d) : xw (am_E L xs bz) d am_m61 1 0 [(0, .ref 16)] [] m (cP_length m) := by
  unfold cP_length
  refine w_aload_n rfl rfl ?_
  refine w_gfi rfl rfl (Nat.le_of_ble_eq_true rfl) rfl rfl ?_
  exact w_retv rfl rfl
theorem s_cP_noteAt {d : Nat} {v1 : Int} {m : xm} (hd : 1 ≤ d) : xw (am_E L xs bz) d am_m62 1 0 [(0, .ref 16), (1, .int (i32 v1))] [] m (cP_noteAt v1 m) := by
  unfold cP_noteAt
  refine w_aload_n rfl rfl ?_
  refine w_gfr (r := 17) rfl rfl (Nat.le_of_ble_eq_true rfl) rfl rfl ?_
  refine w_iload_n rfl rfl ?_
  refine w_call1 [.ref 17, .int (i32 v1)] [] (by omega) rfl rfl rfl rfl rfl rfl (Nat.le_of_ble_eq_true rfl) (fun z => by cases z) (Nat.le_of_ble_eq_true rfl) rfl rfl (s_cL_cell (by omega) rfl) (fun r1 m2 => ?_)
  exact w_retv rfl rfl
theorem s_cP_canBeShared_79 {d : Nat} {v1 : Nat} {k5 : Int → Int → Int → xm → xr} (hd : 3 ≤ d) (h1 : isH v1) (hk5 : ∀ (v2 v3 v4 : Int) (m : xm), xw (am_E L xs bz) d am_m63 1 5 [(0, .ref 16), (1, .ref v1), (2, .int (i32 v2)), (3, .int (i32 v3)), (4, .int (i32 v4))] [] m (k5 v2 v3 v4 m)) {v2 : Int} {v4 : Int} {s0 : Int} {m : xm} : xw (am_E L xs bz) d am_m63 1 79 [(0, .ref 16), (1, .ref v1), (2, .int (i32 v2)), (4, .int (i32 v4))] [.int (i32 s0)] m (cP_canBeShared_79 v1 k5 v2 v4 s0 m) := by
  unfold cP_canBeShared_79
  refine w_letI (fun x1 => ?_)
  refine w_istore_n (lsd := [(3, .int (i32 x1)), (0, .ref 16), (1, .ref v1), (2, .int (i32 v2)), (4, .int (i32 v4))]) rfl (Nat.le_of_ble_eq_true rfl) rfl ?_
  refine w_iinc (lsd := [(4, .int (i32 (v4 + 1))), (3, .int (i32 x1)), (0, .ref 16), (1, .ref v1), (2, .int (i32 v2))]) rfl (Nat.le_of_ble_eq_true rfl) rfl rfl ?_
  refine w_goto (tg := 5) rfl rfl ?_
  exact w_weak [(0, .ref 16), (1, .ref v1), (2, .int (i32 v2)), (3, .int (i32 x1)), (4, .int (i32 (v4 + 1)))] rfl ⟨rfl, rfl, rfl, rfl, rfl, trivial⟩ (hk5 v2 x1 (v4 + 1) m)
theorem s_cP_canBeShared_62 {d : Nat} {v1 : Nat} {k5 : Int → Int → Int → xm → xr} (hd : 3 ≤ d) (h1 : isH v1) (hk5 : ∀ (v2 v3 v4 : Int) (m : xm), xw (am_E L xs bz) d am_m63 1 5 [(0, .ref 16), (1, .ref v1), (2, .int (i32 v2)), (3, .int (i32 v3)), (4, .int (i32 v4))] [] m (k5 v2 v3 v4 m)) {v2 : Int} {v4 : Int} {v5 : Int} {m : xm} : xw (am_E L xs bz) d am_m63 1 62 [(0, .ref 16), (1, .ref v1), (2, .int (i32 v2)), (4, .int (i32 v4)), (5, .int (i32 v5))] [] m (cP_canBeShared_62 v1 k5 v2 v4 v5 m) := by
  unfold cP_canBeShared_62
  refine w_aload_n rfl rfl ?_
  refine w_iload rfl rfl ?_
  refine w_call1 [.ref 16, .int (i32 v4)] [] (by omega) rfl rfl rfl rfl rfl rfl (Nat.le_of_ble_eq_true rfl) (fun _ => xrc_ok rfl) (Nat.le_of_ble_eq_true rfl) rfl rfl (s_cP_noteAt (by omega)) (fun r1 m2 => ?_)
  refine w_bipush rfl rfl ?_
  refine w_icmp_ne (tg := 77) rfl rfl rfl rfl ?_ ?_
  · refine w_iload rfl rfl ?_
    exact w_weak [(0, .ref 16), (1, .ref v1), (2, .int (i32 v2)), (4, .int (i32 v4))] rfl ⟨rfl, rfl, rfl, rfl, trivial⟩ (s_cP_canBeShared_79 (by omega) h1 hk5)
  · refine w_iconst rfl ?_
    refine w_goto (tg := 79) rfl rfl ?_
    exact w_weak [(0, .ref 16), (1, .ref v1), (2, .int (i32 v2)), (4, .int (i32 v4))] rfl ⟨rfl, rfl, rfl, rfl, trivial⟩ (s_cP_canBeShared_79 (by omega) h1 hk5)
theorem s_cP_canBeShared_44 {d : Nat} {v1 : Nat} {k5 : Int → Int → Int → xm → xr} (hd : 3 ≤ d) (h1 : isH v1) (hk5 : ∀ (v2 v3 v4 : Int) (m : xm), xw (am_E L xs bz) d am_m63 1 5 [(0, .ref 16), (1, .ref v1), (2, .int (i32 v2)), (3, .int (i32 v3)), (4, .int (i32 v4))] [] m (k5 v2 v3 v4 m)) {v2 : Int} {v4 : Int} {v5 : Int} {m : xm} : xw (am_E L xs bz) d am_m63 1 44 [(0, .ref 16), (1, .ref v1), (2, .int (i32 v2)), (4, .int (i32 v4)), (5, .int (i32 v5))] [] m (cP_canBeShared_44 v1 k5 v2 v4 v5 m) := by
  unfold cP_canBeShared_44
  refine w_aload_n rfl rfl ?_
  refine w_iload rfl rfl ?_
  refine w_call1 [.ref 16, .int (i32 v4)] [] (by omega) rfl rfl rfl rfl rfl rfl (Nat.le_of_ble_eq_true rfl) (fun _ => xrc_ok rfl) (Nat.le_of_ble_eq_true rfl) rfl rfl (s_cP_noteAt (by omega)) (fun r1 m2 => ?_)
  refine w_bipush rfl rfl ?_
  refine w_icmp_eq (tg := 62) rfl rfl rfl rfl ?_ ?_
  · exact w_weak [(0, .ref 16), (1, .ref v1), (2, .int (i32 v2)), (4, .int (i32 v4)), (5, .int (i32 v5))] rfl ⟨rfl, rfl, rfl, rfl, rfl, trivial⟩ (s_cP_canBeShared_62 (by omega) h1 hk5)
  · refine w_iload rfl rfl ?_
    refine w_if_ne (tg := 62) rfl rfl rfl ?_ ?_
    · exact w_weak [(0, .ref 16), (1, .ref v1), (2, .int (i32 v2)), (4, .int (i32 v4)), (5, .int (i32 v5))] rfl ⟨rfl, rfl, rfl, rfl, rfl, trivial⟩ (s_cP_canBeShared_62 (by omega) h1 hk5)
    · refine w_iconst rfl ?_
      exact w_retv rfl rfl
theorem s_cP_canBeShared_5 {d : Nat} {v1 : Nat} (hd : 3 ≤ d) (h1 : isH v1) : ∀ (n : Nat) {v2 : Int} {v3 : Int} {v4 : Int} {m : xm}, xw (am_E L xs bz) d am_m63 1 5 [(0, .ref 16), (1, .ref v1), (2, .int (i32 v2)), (3, .int (i32 v3)), (4, .int (i32 v4))] [] m (cP_canBeShared_5 v1 n v2 v3 v4 m) := by
  intro n
  induction n with
  | zero => intros; exact w_none
  | succ n ih =>
    intro v2 v3 v4 m
    have hk5 := fun (v2 v3 v4 : Int) (m : xm) => @ih v2 v3 v4 m
    unfold cP_canBeShared_5
    refine w_iload rfl rfl ?_
    refine w_aload_n rfl rfl ?_
    refine w_gfi rfl rfl (Nat.le_of_ble_eq_true rfl) rfl rfl ?_
    refine w_icmp_ge (tg := 86) rfl rfl rfl (w32_ld _ _ _) ?_ ?_
    · refine w_iconst rfl ?_
      exact w_retv rfl rfl
    · refine w_aload_n rfl rfl ?_
      refine w_aload_n rfl rfl ?_
      refine w_iload rfl rfl ?_
      refine w_call1 [.ref 16, .int (i32 v4)] [.ref v1] (by omega) rfl rfl rfl rfl rfl rfl (Nat.le_of_ble_eq_true rfl) (fun _ => xrc_ok rfl) (Nat.le_of_ble_eq_true rfl) rfl rfl (s_cP_noteAt (by omega)) (fun r1 m2 => ?_)
      refine w_call1 [.ref v1, .int (i32 r1)] [] (by omega) rfl rfl rfl rfl rfl rfl (Nat.le_of_ble_eq_true rfl) (fun _ => xrc_ok (rcH h1 rfl)) (Nat.le_of_ble_eq_true rfl) rfl rfl (s_cH_playersOf (by omega) h1) (fun r3 m4 => ?_)
      show xw _ _ _ _ 24 _ _ _ _
      refine w_iload_n rfl rfl ?_
      refine w_iand rfl ?_
      refine w_letI (fun x5 => ?_)
      refine w_istore (lsd := [(5, .int (i32 x5)), (0, .ref 16), (1, .ref v1), (2, .int (i32 v2)), (3, .int (i32 v3)), (4, .int (i32 v4))]) rfl (Nat.le_of_ble_eq_true rfl) rfl ?_
      refine w_iload_n rfl rfl ?_
      refine w_call1 [.int (i32 v3)] [] (by omega) rfl rfl rfl rfl rfl rfl (Nat.le_of_ble_eq_true rfl) (fun z => by cases z) (Nat.le_of_ble_eq_true rfl) rfl rfl (s_j_bitCount (by omega)) (fun r6 m7 => ?_)
      refine w_iconst rfl ?_
      show xw _ _ _ _ 33 _ _ _ _
      refine w_icmp_ne (tg := 44) rfl rfl rfl rfl ?_ ?_
      · exact w_weak [(0, .ref 16), (1, .ref v1), (2, .int (i32 v2)), (4, .int (i32 v4)), (5, .int (i32 x5))] rfl ⟨rfl, rfl, rfl, rfl, rfl, trivial⟩ (s_cP_canBeShared_44 (by omega) h1 hk5)
      · refine w_iload rfl rfl ?_
        refine w_iload_n rfl rfl ?_
        refine w_iconst rfl ?_
        refine w_ixor rfl ?_
        refine w_iand rfl ?_
        show xw _ _ _ _ 42 _ _ _ _
        refine w_letI (fun x8 => ?_)
        refine w_istore (lsd := [(5, .int (i32 x8)), (0, .ref 16), (1, .ref v1), (2, .int (i32 v2)), (3, .int (i32 v3)), (4, .int (i32 v4))]) rfl (Nat.le_of_ble_eq_true rfl) rfl ?_
        exact w_weak [(0, .ref 16), (1, .ref v1), (2, .int (i32 v2)), (4, .int (i32 v4)), (5, .int (i32 x8))] rfl ⟨rfl, rfl, rfl, rfl, rfl, trivial⟩ (s_cP_canBeShared_44 (by omega) h1 hk5)
theorem s_cP_canBeShared {d : Nat} {v1 : Nat} {v2 : Int} {m : xm} (hd : 3 ≤ d) (h1 : isH v1) : xw (am_E L xs bz) d am_m63 1 0 [(0, .ref 16), (1, .ref v1), (2, .int (i32 v2))] [] m (cP_canBeShared v1 v2 m) := by
  unfold cP_canBeShared
  refine w_iconst rfl ?_
  refine w_istore_n (lsd := [(3, .int (i32 0)), (0, .ref 16), (1, .ref v1), (2, .int (i32 v2))]) rfl (Nat.le_of_ble_eq_true rfl) rfl ?_
  refine w_iconst rfl ?_
  refine w_istore (lsd := [(4, .int (i32 0)), (3, .int (i32 0)), (0, .ref 16), (1, .ref v1), (2, .int (i32 v2))]) rfl (Nat.le_of_ble_eq_true rfl) rfl ?_
  exact w_weak [(0, .ref 16), (1, .ref v1), (2, .int (i32 v2)), (3, .int (i32 0)), (4, .int (i32 0))] rfl ⟨rfl, rfl, rfl, rfl, rfl, trivial⟩ (s_cP_canBeShared_5 (by omega) h1 _)
theorem s_cP_endOf_32 {d : Nat} {v1 : Nat} {k6 : Int → Int → Int → Int → xm → xr} (hd : 4 ≤ d) (h1 : isH v1) (hk6 : ∀ (v3 v4 v5 v6 : Int) (m : xm), xw (am_E L xs bz) d am_m64 1 6 [(0, .ref 16), (1, .ref v1), (3, .int (i32 v3)), (4, .int (i32 v4)), (5, .int (i32 v5)), (6, .int (i32 v6))] [] m (k6 v3 v4 v5 v6 m)) {v3 : Int} {v4 : Int} {v5 : Int} {v6 : Int} {s0 : Int} {m : xm} : xw (am_E L xs bz) d am_m64 1 32 [(0, .ref 16), (1, .ref v1), (3, .int (i32 v3)), (4, .int (i32 v4)), (5, .int (i32 v5)), (6, .int (i32 v6))] [.int (i32 s0)] m (cP_endOf_32 v1 k6 v3 v4 v5 v6 s0 m) := by
  unfold cP_endOf_32
  refine w_letI (fun x1 => ?_)
  refine w_istore (lsd := [(7, .int (i32 x1)), (0, .ref 16), (1, .ref v1), (3, .int (i32 v3)), (4, .int (i32 v4)), (5, .int (i32 v5)), (6, .int (i32 v6))]) rfl (Nat.le_of_ble_eq_true rfl) rfl ?_
  refine w_aload_n rfl rfl ?_
  refine w_iload rfl rfl ?_
  refine w_iload rfl rfl ?_
  refine w_call1 [.ref v1, .int (i32 v5), .int (i32 x1)] [] (by omega) rfl rfl rfl rfl rfl rfl (Nat.le_of_ble_eq_true rfl) (fun _ => xrc_ok (rcH h1 rfl)) (Nat.le_of_ble_eq_true rfl) rfl rfl (s_cH_canPlay (by omega) h1) (fun r2 m3 => ?_)
  show xw _ _ _ _ 42 _ _ _ _
  refine w_if_ne (tg := 47) rfl rfl rfl ?_ ?_
  · refine w_aload_n rfl rfl ?_
    refine w_iload rfl rfl ?_
    refine w_iload rfl rfl ?_
    refine w_call1 [.ref v1, .int (i32 v5), .int (i32 x1)] [] (by omega) rfl rfl rfl rfl rfl rfl (Nat.le_of_ble_eq_true rfl) (fun _ => xrc_ok (rcH h1 rfl)) (Nat.le_of_ble_eq_true rfl) rfl rfl (s_cH_after (by omega) h1) (fun r4 m5 => ?_)
    refine w_istore (lsd := [(5, .int (i32 r4)), (7, .int (i32 x1)), (0, .ref 16), (1, .ref v1), (3, .int (i32 v3)), (4, .int (i32 v4)), (6, .int (i32 v6))]) rfl (Nat.le_of_ble_eq_true rfl) rfl ?_
    show xw _ _ _ _ 57 _ _ _ _
    refine w_iinc (lsd := [(6, .int (i32 (v6 + 1))), (5, .int (i32 r4)), (7, .int (i32 x1)), (0, .ref 16), (1, .ref v1), (3, .int (i32 v3)), (4, .int (i32 v4))]) rfl (Nat.le_of_ble_eq_true rfl) rfl rfl ?_
    refine w_goto (tg := 6) rfl rfl ?_
    exact w_weak [(0, .ref 16), (1, .ref v1), (3, .int (i32 v3)), (4, .int (i32 v4)), (5, .int (i32 r4)), (6, .int (i32 (v6 + 1)))] rfl ⟨rfl, rfl, rfl, rfl, rfl, rfl, trivial⟩ (hk6 v3 v4 r4 (v6 + 1) m5)
  · refine w_iconst rfl ?_
    exact w_retv rfl rfl
theorem s_cP_endOf_6 {d : Nat} {v1 : Nat} (hd : 4 ≤ d) (h1 : isH v1) : ∀ (n : Nat) {v3 : Int} {v4 : Int} {v5 : Int} {v6 : Int} {m : xm}, xw (am_E L xs bz) d am_m64 1 6 [(0, .ref 16), (1, .ref v1), (3, .int (i32 v3)), (4, .int (i32 v4)), (5, .int (i32 v5)), (6, .int (i32 v6))] [] m (cP_endOf_6 v1 n v3 v4 v5 v6 m) := by
  intro n
  induction n with
  | zero => intros; exact w_none
  | succ n ih =>
    intro v3 v4 v5 v6 m
    have hk6 := fun (v3 v4 v5 v6 : Int) (m : xm) => @ih v3 v4 v5 v6 m
    unfold cP_endOf_6
    refine w_iload rfl rfl ?_
    refine w_aload_n rfl rfl ?_
    refine w_gfi rfl rfl (Nat.le_of_ble_eq_true rfl) rfl rfl ?_
    refine w_icmp_ge (tg := 63) rfl rfl rfl (w32_ld _ _ _) ?_ ?_
    · refine w_iload rfl rfl ?_
      exact w_retv rfl rfl
    · refine w_iload rfl rfl ?_
      refine w_iload_n rfl rfl ?_
      refine w_icmp_ne (tg := 26) rfl rfl rfl rfl ?_ ?_
      · refine w_aload_n rfl rfl ?_
        refine w_iload rfl rfl ?_
        refine w_call1 [.ref 16, .int (i32 v6)] [] (by omega) rfl rfl rfl rfl rfl rfl (Nat.le_of_ble_eq_true rfl) (fun _ => xrc_ok rfl) (Nat.le_of_ble_eq_true rfl) rfl rfl (s_cP_noteAt (by omega)) (fun r1 m2 => ?_)
        exact w_weak [(0, .ref 16), (1, .ref v1), (3, .int (i32 v3)), (4, .int (i32 v4)), (5, .int (i32 v5)), (6, .int (i32 v6))] rfl ⟨rfl, rfl, rfl, rfl, rfl, rfl, trivial⟩ (s_cP_endOf_32 (by omega) h1 hk6)
      · refine w_iload rfl rfl ?_
        refine w_goto (tg := 32) rfl rfl ?_
        exact w_weak [(0, .ref 16), (1, .ref v1), (3, .int (i32 v3)), (4, .int (i32 v4)), (5, .int (i32 v5)), (6, .int (i32 v6))] rfl ⟨rfl, rfl, rfl, rfl, rfl, rfl, trivial⟩ (s_cP_endOf_32 (by omega) h1 hk6)
theorem s_cP_endOf {d : Nat} {v1 : Nat} {v2 : Int} {v3 : Int} {v4 : Int} {m : xm} (hd : 4 ≤ d) (h1 : isH v1) : xw (am_E L xs bz) d am_m64 1 0 [(0, .ref 16), (1, .ref v1), (2, .int (i32 v2)), (3, .int (i32 v3)), (4, .int (i32 v4))] [] m (cP_endOf v1 v2 v3 v4 m) := by
  unfold cP_endOf
  refine w_iload_n rfl rfl ?_
  refine w_istore (lsd := [(5, .int (i32 v2)), (0, .ref 16), (1, .ref v1), (2, .int (i32 v2)), (3, .int (i32 v3)), (4, .int (i32 v4))]) rfl (Nat.le_of_ble_eq_true rfl) rfl ?_
  refine w_iconst rfl ?_
  refine w_istore (lsd := [(6, .int (i32 0)), (5, .int (i32 v2)), (0, .ref 16), (1, .ref v1), (2, .int (i32 v2)), (3, .int (i32 v3)), (4, .int (i32 v4))]) rfl (Nat.le_of_ble_eq_true rfl) rfl ?_
  exact w_weak [(0, .ref 16), (1, .ref v1), (3, .int (i32 v3)), (4, .int (i32 v4)), (5, .int (i32 v2)), (6, .int (i32 0))] rfl ⟨rfl, rfl, rfl, rfl, rfl, rfl, trivial⟩ (s_cP_endOf_6 (by omega) h1 _)
theorem s_cQ_takeAsked {d : Nat} {m : xm} (hd : 9 ≤ d) : xw (am_E L xs bz) d am_m67 1 0 [(0, .ref 6)] [] m (cQ_takeAsked m) := by
  unfold cQ_takeAsked
  refine w_aload_n rfl rfl ?_
  refine w_gfr (r := 3) rfl rfl (Nat.le_of_ble_eq_true rfl) rfl rfl ?_
  refine w_ldc rfl rfl ?_
  refine w_call1 [.ref 3, .ref (1000000 + 2 * 25)] [] (by omega) rfl rfl rfl rfl rfl rfl (Nat.le_of_ble_eq_true rfl) (fun _ => xrc_ok rfl) (Nat.le_of_ble_eq_true rfl) rfl rfl (s_cW_takeWord (by omega) (Nat.le_of_ble_eq_true rfl)) (fun r1 m2 => ?_)
  refine w_if_eq (tg := 14) rfl rfl rfl ?_ ?_
  · refine w_aload_n rfl rfl ?_
    refine w_gfr (r := 3) rfl rfl (Nat.le_of_ble_eq_true rfl) rfl rfl ?_
    refine w_ldc rfl rfl ?_
    refine w_call1 [.ref 3, .ref (1000000 + 2 * 26)] [] (by omega) rfl rfl rfl rfl rfl rfl (Nat.le_of_ble_eq_true rfl) (fun _ => xrc_ok rfl) (Nat.le_of_ble_eq_true rfl) rfl rfl (s_cW_takeWord (by omega) (Nat.le_of_ble_eq_true rfl)) (fun r3 m4 => ?_)
    refine w_if_eq (tg := 28) rfl rfl rfl ?_ ?_
    · refine w_aload_n rfl rfl ?_
      refine w_gfr (r := 3) rfl rfl (Nat.le_of_ble_eq_true rfl) rfl rfl ?_
      refine w_ldc rfl rfl ?_
      refine w_call1 [.ref 3, .ref (1000000 + 2 * 27)] [] (by omega) rfl rfl rfl rfl rfl rfl (Nat.le_of_ble_eq_true rfl) (fun _ => xrc_ok rfl) (Nat.le_of_ble_eq_true rfl) rfl rfl (s_cW_takeWord (by omega) (Nat.le_of_ble_eq_true rfl)) (fun r5 m6 => ?_)
      refine w_if_eq (tg := 42) rfl rfl rfl ?_ ?_
      · refine w_aload_n rfl rfl ?_
        refine w_gfr (r := 3) rfl rfl (Nat.le_of_ble_eq_true rfl) rfl rfl ?_
        refine w_ldc rfl rfl ?_
        refine w_call1 [.ref 3, .ref (1000000 + 2 * 28)] [] (by omega) rfl rfl rfl rfl rfl rfl (Nat.le_of_ble_eq_true rfl) (fun _ => xrc_ok rfl) (Nat.le_of_ble_eq_true rfl) rfl rfl (s_cW_takeWord (by omega) (Nat.le_of_ble_eq_true rfl)) (fun r7 m8 => ?_)
        refine w_if_eq (tg := 56) rfl rfl rfl ?_ ?_
        · refine w_aload_n rfl rfl ?_
          refine w_gfr (r := 3) rfl rfl (Nat.le_of_ble_eq_true rfl) rfl rfl ?_
          refine w_ldc rfl rfl ?_
          refine w_call1 [.ref 3, .ref (1000000 + 2 * 29)] [] (by omega) rfl rfl rfl rfl rfl rfl (Nat.le_of_ble_eq_true rfl) (fun _ => xrc_ok rfl) (Nat.le_of_ble_eq_true rfl) rfl rfl (s_cW_takeWord (by omega) (Nat.le_of_ble_eq_true rfl)) (fun r9 m10 => ?_)
          refine w_if_eq (tg := 70) rfl rfl rfl ?_ ?_
          · refine w_aload_n rfl rfl ?_
            refine w_gfr (r := 3) rfl rfl (Nat.le_of_ble_eq_true rfl) rfl rfl ?_
            refine w_ldc rfl rfl ?_
            refine w_call1 [.ref 3, .ref (1000000 + 2 * 30)] [] (by omega) rfl rfl rfl rfl rfl rfl (Nat.le_of_ble_eq_true rfl) (fun _ => xrc_ok rfl) (Nat.le_of_ble_eq_true rfl) rfl rfl (s_cW_takeWord (by omega) (Nat.le_of_ble_eq_true rfl)) (fun r11 m12 => ?_)
            refine w_if_eq (tg := 86) rfl rfl rfl ?_ ?_
            · refine w_iconst rfl ?_
              exact w_retv rfl rfl
            · refine w_iconst rfl ?_
              refine w_goto (tg := 87) rfl rfl ?_
              exact w_retv rfl rfl
          · refine w_iconst rfl ?_
            exact w_retv rfl rfl
        · refine w_iconst rfl ?_
          exact w_retv rfl rfl
      · refine w_iconst rfl ?_
        exact w_retv rfl rfl
    · refine w_iconst rfl ?_
      exact w_retv rfl rfl
  · refine w_iconst rfl ?_
    exact w_retv rfl rfl
theorem s_cQ_read_94 {d : Nat} (hd : 141 ≤ d) {m : xm} : xw (am_E L xs bz) d am_m66 1 94 [(0, .ref 6)] [] m (cQ_read_94 m) := by
  unfold cQ_read_94
  refine w_aload_n rfl rfl ?_
  refine w_gfr (r := 3) rfl rfl (Nat.le_of_ble_eq_true rfl) rfl rfl ?_
  refine w_call1 [.ref 3] [] (by omega) rfl rfl rfl rfl rfl rfl (Nat.le_of_ble_eq_true rfl) (fun _ => xrc_ok rfl) (Nat.le_of_ble_eq_true rfl) rfl rfl (s_cW_faultKind (by omega)) (fun r1 m2 => ?_)
  refine w_if_ne (tg := 108) rfl rfl rfl ?_ ?_
  · refine w_iconst rfl ?_
    exact w_retv rfl rfl
  · refine w_iconst rfl ?_
    refine w_goto (tg := 109) rfl rfl ?_
    exact w_retv rfl rfl
theorem s_cQ_read_76 {d : Nat} (hd : 141 ≤ d) {m : xm} : xw (am_E L xs bz) d am_m66 1 76 [(0, .ref 6)] [] m (cQ_read_76 m) := by
  unfold cQ_read_76
  refine w_aload_n rfl rfl ?_
  refine w_gfr (r := 3) rfl rfl (Nat.le_of_ble_eq_true rfl) rfl rfl ?_
  refine w_call1 [.ref 3] [] (by omega) rfl rfl rfl rfl rfl rfl (Nat.le_of_ble_eq_true rfl) (fun _ => xrc_ok rfl) (Nat.le_of_ble_eq_true rfl) rfl rfl (s_cW_isEnd (by omega)) (fun r1 m2 => ?_)
  refine w_if_ne (tg := 94) rfl rfl rfl ?_ ?_
  · exact w_weak [(0, .ref 6)] rfl ⟨rfl, trivial⟩ (s_cQ_read_94 (by omega))
  · refine w_aload_n rfl rfl ?_
    refine w_gfr (r := 3) rfl rfl (Nat.le_of_ble_eq_true rfl) rfl rfl ?_
    refine w_iconst rfl ?_
    refine w_call0 [.ref 3, .int (i32 1)] [] (by omega) rfl rfl rfl rfl rfl rfl (Nat.le_of_ble_eq_true rfl) (fun _ => xrc_ok rfl) (Nat.le_of_ble_eq_true rfl) rfl rfl (s_cW_failHere (by omega)) (fun r3 m4 => ?_)
    exact w_weak [(0, .ref 6)] rfl ⟨rfl, trivial⟩ (s_cQ_read_94 (by omega))
theorem s_cQ_read {d : Nat} {m : xm} (hd : 141 ≤ d) : xw (am_E L xs bz) d am_m66 1 0 [(0, .ref 6)] [] m (cQ_read m) := by
  unfold cQ_read
  refine w_aload_n rfl rfl ?_
  refine w_gfr (r := 3) rfl rfl (Nat.le_of_ble_eq_true rfl) rfl rfl ?_
  refine w_call0 [.ref 3] [] (by omega) rfl rfl rfl rfl rfl rfl (Nat.le_of_ble_eq_true rfl) (fun _ => xrc_ok rfl) (Nat.le_of_ble_eq_true rfl) rfl rfl (s_cW_begin (by omega)) (fun r1 m2 => ?_)
  refine w_aload_n rfl rfl ?_
  refine w_gfr (r := 7) rfl rfl (Nat.le_of_ble_eq_true rfl) rfl rfl ?_
  show xw _ _ _ _ 11 _ _ _ _
  refine w_call0 [.ref 7] [] (by omega) rfl rfl rfl rfl rfl rfl (Nat.le_of_ble_eq_true rfl) (fun _ => xrc_ok rfl) (Nat.le_of_ble_eq_true rfl) rfl rfl (s_cC_clear (by omega) (Or.inl rfl)) (fun r3 m4 => ?_)
  refine w_aload_n rfl rfl ?_
  refine w_aload_n rfl rfl ?_
  refine w_call1 [.ref 6] [.ref 6] (by omega) rfl rfl rfl rfl rfl rfl (Nat.le_of_ble_eq_true rfl) (fun _ => xrc_ok rfl) (Nat.le_of_ble_eq_true rfl) rfl rfl (s_cQ_takeAsked (by omega)) (fun r5 m6 => ?_)
  refine w_pfi rfl rfl (Nat.le_of_ble_eq_true rfl) rfl rfl rfl (fun m7 => ?_)
  refine w_aload_n rfl rfl ?_
  show xw _ _ _ _ 23 _ _ _ _
  refine w_gfi rfl rfl (Nat.le_of_ble_eq_true rfl) rfl rfl ?_
  refine w_iconst rfl ?_
  refine w_icmp_ne (tg := 41) rfl rfl (w32_ld _ _ _) rfl ?_ ?_
  · refine w_aload_n rfl rfl ?_
    refine w_gfi rfl rfl (Nat.le_of_ble_eq_true rfl) rfl rfl ?_
    refine w_iconst rfl ?_
    refine w_icmp_gt (tg := 64) rfl rfl (w32_ld _ _ _) rfl ?_ ?_
    · refine w_aload_n rfl rfl ?_
      refine w_gfr (r := 10) rfl rfl (Nat.le_of_ble_eq_true rfl) rfl rfl ?_
      refine w_aload_n rfl rfl ?_
      refine w_gfr (r := 7) rfl rfl (Nat.le_of_ble_eq_true rfl) rfl rfl ?_
      refine w_iconst rfl ?_
      show xw _ _ _ _ 73 _ _ _ _
      refine w_call0 [.ref 10, .ref 7, .int (i32 0)] [] (by omega) rfl rfl rfl rfl rfl rfl (Nat.le_of_ble_eq_true rfl) (fun _ => xrc_ok rfl) (Nat.le_of_ble_eq_true rfl) rfl rfl (s_cX_readSum (by omega) (Or.inr rfl) (Or.inl rfl)) (fun r8 m9 => ?_)
      exact w_weak [(0, .ref 6)] rfl ⟨rfl, trivial⟩ (s_cQ_read_76 (by omega))
    · refine w_aload_n rfl rfl ?_
      refine w_gfr (r := 10) rfl rfl (Nat.le_of_ble_eq_true rfl) rfl rfl ?_
      refine w_aload_n rfl rfl ?_
      refine w_gfr (r := 7) rfl rfl (Nat.le_of_ble_eq_true rfl) rfl rfl ?_
      refine w_iconst rfl ?_
      show xw _ _ _ _ 58 _ _ _ _
      refine w_call0 [.ref 10, .ref 7, .int (i32 0)] [] (by omega) rfl rfl rfl rfl rfl rfl (Nat.le_of_ble_eq_true rfl) (fun _ => xrc_ok rfl) (Nat.le_of_ble_eq_true rfl) rfl rfl (s_cX_readTest (by omega) (Or.inr rfl) (Or.inl rfl)) (fun r10 m11 => ?_)
      refine w_goto (tg := 76) rfl rfl ?_
      exact w_weak [(0, .ref 6)] rfl ⟨rfl, trivial⟩ (s_cQ_read_76 (by omega))
  · refine w_aload_n rfl rfl ?_
    refine w_gfr (r := 3) rfl rfl (Nat.le_of_ble_eq_true rfl) rfl rfl ?_
    refine w_iconst rfl ?_
    refine w_call0 [.ref 3, .int (i32 1)] [] (by omega) rfl rfl rfl rfl rfl rfl (Nat.le_of_ble_eq_true rfl) (fun _ => xrc_ok rfl) (Nat.le_of_ble_eq_true rfl) rfl rfl (s_cW_failHere (by omega)) (fun r12 m13 => ?_)
    refine w_goto (tg := 76) rfl rfl ?_
    exact w_weak [(0, .ref 6)] rfl ⟨rfl, trivial⟩ (s_cQ_read_76 (by omega))
theorem s_cQ_withLock_112 {d : Nat} (hd : 1 ≤ d) {v1 : Int} {v4 : Int} {m : xm} : xw (am_E L xs bz) d am_m69 2 112 [(1, .long (i64 v1)), (4, .int (i32 v4))] [] m (cQ_withLock_112 v1 v4 m) := by
  unfold cQ_withLock_112
  refine w_lload_n rfl rfl ?_
  refine w_iload rfl rfl ?_
  refine w_i2l (x' := w32 v4) rfl rfl ?_
  refine w_ladd rfl ?_
  exact w_retv rfl rfl
theorem s_cQ_withLock {d : Nat} {v1 : Int} {v3 : Int} {v4 : Int} {m : xm} (hd : 1 ≤ d) : xw (am_E L xs bz) d am_m69 2 0 [(0, .ref 6), (1, .long (i64 v1)), (3, .int (i32 v3)), (4, .int (i32 v4))] [] m (cQ_withLock v1 v3 v4 m) := by
  unfold cQ_withLock
  refine w_aload_n rfl rfl ?_
  refine w_gfi rfl rfl (Nat.le_of_ble_eq_true rfl) rfl rfl ?_
  refine w_tsw (t0 := 112) (fs := [40, 60, 108, 108, 72, 90]) rfl (w32_ld _ _ _) rfl rfl rfl ?_ ?_
  · exact w_weak [(1, .long (i64 v1)), (4, .int (i32 v4))] rfl ⟨rfl, rfl, trivial⟩ (s_cQ_withLock_112 (by omega))
  · refine ⟨⟨44, rfl, ?_⟩, ⟨64, rfl, ?_⟩, ⟨112, rfl, ?_⟩, ⟨112, rfl, ?_⟩, ⟨76, rfl, ?_⟩, ⟨94, rfl, ?_⟩, trivial⟩
    · refine w_lload_n rfl rfl ?_
      refine w_ldc2w (z := (-1)) rfl rfl rfl ?_
      refine w_lcmp_ne (tg := 62) rfl rfl rfl rfl rfl ?_ ?_
      · refine w_lload_n rfl rfl ?_
        exact w_retv rfl rfl
      · refine w_iload rfl rfl ?_
        refine w_if_eq (tg := 62) rfl rfl rfl ?_ ?_
        · refine w_lload_n rfl rfl ?_
          exact w_retv rfl rfl
        · refine w_iload_n rfl rfl ?_
          refine w_i2l (x' := w32 v3) rfl rfl ?_
          refine w_goto (tg := 63) rfl rfl ?_
          exact w_retv rfl rfl
    · refine w_iload rfl rfl ?_
      refine w_if_eq (tg := 74) rfl rfl rfl ?_ ?_
      · refine w_lload_n rfl rfl ?_
        exact w_retv rfl rfl
      · refine w_iload_n rfl rfl ?_
        refine w_i2l (x' := w32 v3) rfl rfl ?_
        refine w_goto (tg := 75) rfl rfl ?_
        exact w_retv rfl rfl
    · exact w_weak [(1, .long (i64 v1)), (4, .int (i32 v4))] rfl ⟨rfl, rfl, trivial⟩ (s_cQ_withLock_112 (by omega))
    · exact w_weak [(1, .long (i64 v1)), (4, .int (i32 v4))] rfl ⟨rfl, rfl, trivial⟩ (s_cQ_withLock_112 (by omega))
    · refine w_iload_n rfl rfl ?_
      refine w_if_ne (tg := 86) rfl rfl rfl ?_ ?_
      · refine w_lload_n rfl rfl ?_
        refine w_iload rfl rfl ?_
        refine w_i2l (x' := w32 v4) rfl rfl ?_
        refine w_call2 [.long (i64 v1), .long (i64 (w32 v4))] [] (by omega) rfl rfl rfl rfl rfl rfl (Nat.le_of_ble_eq_true rfl) (fun z => by cases z) (Nat.le_of_ble_eq_true rfl) rfl rfl (s_j_maxL (by omega)) (fun r1 m2 => ?_)
        exact w_retv rfl rfl
      · refine w_iload rfl rfl ?_
        refine w_i2l (x' := w32 v4) rfl rfl ?_
        refine w_goto (tg := 93) rfl rfl ?_
        exact w_retv rfl rfl
    · refine w_iload_n rfl rfl ?_
      refine w_if_ne (tg := 104) rfl rfl rfl ?_ ?_
      · refine w_lload_n rfl rfl ?_
        refine w_iload rfl rfl ?_
        refine w_i2l (x' := w32 v4) rfl rfl ?_
        refine w_call2 [.long (i64 v1), .long (i64 (w32 v4))] [] (by omega) rfl rfl rfl rfl rfl rfl (Nat.le_of_ble_eq_true rfl) (fun z => by cases z) (Nat.le_of_ble_eq_true rfl) rfl rfl (s_j_minL (by omega)) (fun r3 m4 => ?_)
        exact w_retv rfl rfl
      · refine w_iload rfl rfl ?_
        refine w_i2l (x' := w32 v4) rfl rfl ?_
        refine w_goto (tg := 111) rfl rfl ?_
        exact w_retv rfl rfl
theorem s_cQ_answer_26 {d : Nat} {v1 : Nat} (hd : 4 ≤ d) (h1 : isH v1) : ∀ (n : Nat) {v2 : Int} {v3 : Int} {v5 : Int} {m : xm}, xw (am_E L xs bz) d am_m68 2 26 [(0, .ref 6), (1, .ref v1), (2, .int (i32 v2)), (3, .long (i64 v3)), (5, .int (i32 v5))] [] m (cQ_answer_26 v1 n v2 v3 v5 m) := by
  intro n
  induction n with
  | zero => intros; exact w_none
  | succ n ih =>
    intro v2 v3 v5 m
    have hk26 := fun (v2 v3 v5 : Int) (m : xm) => @ih v2 v3 v5 m
    unfold cQ_answer_26
    refine w_iload rfl rfl ?_
    refine w_aload_n rfl rfl ?_
    refine w_iconst rfl ?_
    refine w_call1 [.ref v1, .int (i32 0)] [.int (i32 v5)] (by omega) rfl rfl rfl rfl rfl rfl (Nat.le_of_ble_eq_true rfl) (fun _ => xrc_ok (rcH h1 rfl)) (Nat.le_of_ble_eq_true rfl) rfl rfl (s_cH_count (by omega) h1) (fun r1 m2 => ?_)
    refine w_icmp_ge (tg := 69) rfl rfl rfl rfl ?_ ?_
    · refine w_lload_n rfl rfl ?_
      exact w_retv rfl rfl
    · refine w_aload_n rfl rfl ?_
      refine w_lload_n rfl rfl ?_
      refine w_iload rfl rfl ?_
      refine w_aload_n rfl rfl ?_
      refine w_gfr (r := 7) rfl rfl (Nat.le_of_ble_eq_true rfl) rfl rfl ?_
      show xw _ _ _ _ 44 _ _ _ _
      refine w_iconst rfl ?_
      refine w_aload_n rfl rfl ?_
      refine w_gfr (r := 7) rfl rfl (Nat.le_of_ble_eq_true rfl) rfl rfl ?_
      refine w_call1 [.ref 7] [.int (i32 0), .ref 7, .int (i32 v5), .long (i64 v3), .ref 6] (by omega) rfl rfl rfl rfl rfl rfl (Nat.le_of_ble_eq_true rfl) (fun _ => xrc_ok rfl) (Nat.le_of_ble_eq_true rfl) rfl rfl (s_cC_size (by omega) (Or.inl rfl)) (fun r3 m4 => ?_)
      refine w_aload_n rfl rfl ?_
      refine w_iload_n rfl rfl ?_
      show xw _ _ _ _ 54 _ _ _ _
      refine w_iload rfl rfl ?_
      refine w_call1 [.ref 7, .int (i32 0), .int (i32 r3), .ref v1, .int (i32 v2), .int (i32 v5)] [.int (i32 v5), .long (i64 v3), .ref 6] (by omega) rfl rfl rfl rfl rfl rfl (Nat.le_of_ble_eq_true rfl) (fun _ => xrc_ok rfl) (Nat.le_of_ble_eq_true rfl) rfl rfl (s_cC_valueOf (by omega) (Or.inl rfl) h1) (fun r5 m6 => ?_)
      refine w_call2 [.ref 6, .long (i64 v3), .int (i32 v5), .int (i32 r5)] [] (by omega) rfl rfl rfl rfl rfl rfl (Nat.le_of_ble_eq_true rfl) (fun _ => xrc_ok rfl) (Nat.le_of_ble_eq_true rfl) rfl rfl (s_cQ_withLock (by omega)) (fun r7 m8 => ?_)
      refine w_lstore_n (lsd := [(3, .long (i64 r7)), (0, .ref 6), (1, .ref v1), (2, .int (i32 v2)), (5, .int (i32 v5))]) rfl (Nat.le_of_ble_eq_true rfl) rfl ?_
      refine w_iinc (lsd := [(5, .int (i32 (v5 + 1))), (3, .long (i64 r7)), (0, .ref 6), (1, .ref v1), (2, .int (i32 v2))]) rfl (Nat.le_of_ble_eq_true rfl) rfl rfl ?_
      refine w_goto (tg := 26) rfl rfl ?_
      exact w_weak [(0, .ref 6), (1, .ref v1), (2, .int (i32 v2)), (3, .long (i64 r7)), (5, .int (i32 (v5 + 1)))] rfl ⟨rfl, rfl, rfl, rfl, rfl, trivial⟩ (hk26 v2 r7 (v5 + 1) m8)
theorem s_cQ_answer_22 {d : Nat} {v1 : Nat} (hd : 4 ≤ d) (h1 : isH v1) {v2 : Int} {s0 : Int} {m : xm} : xw (am_E L xs bz) d am_m68 2 22 [(0, .ref 6), (1, .ref v1), (2, .int (i32 v2))] [.long (i64 s0)] m (cQ_answer_22 v1 v2 s0 m) := by
  unfold cQ_answer_22
  refine w_letL (fun x1 => ?_)
  refine w_lstore_n (lsd := [(3, .long (i64 x1)), (0, .ref 6), (1, .ref v1), (2, .int (i32 v2))]) rfl (Nat.le_of_ble_eq_true rfl) rfl ?_
  refine w_iconst rfl ?_
  refine w_istore (lsd := [(5, .int (i32 0)), (3, .long (i64 x1)), (0, .ref 6), (1, .ref v1), (2, .int (i32 v2))]) rfl (Nat.le_of_ble_eq_true rfl) rfl ?_
  exact w_weak [(0, .ref 6), (1, .ref v1), (2, .int (i32 v2)), (3, .long (i64 x1)), (5, .int (i32 0))] rfl ⟨rfl, rfl, rfl, rfl, rfl, trivial⟩ (s_cQ_answer_26 (by omega) h1 _)
theorem s_cQ_answer_15 {d : Nat} {v1 : Nat} (hd : 4 ≤ d) (h1 : isH v1) {v2 : Int} {m : xm} : xw (am_E L xs bz) d am_m68 2 15 [(0, .ref 6), (1, .ref v1), (2, .int (i32 v2))] [] m (cQ_answer_15 v1 v2 m) := by
  unfold cQ_answer_15
  refine w_ldc2w (z := (-1)) rfl rfl rfl ?_
  refine w_goto (tg := 22) rfl rfl ?_
  exact w_weak [(0, .ref 6), (1, .ref v1), (2, .int (i32 v2))] rfl ⟨rfl, rfl, rfl, trivial⟩ (s_cQ_answer_22 (by omega) h1)
theorem s_cQ_answer {d : Nat} {v1 : Nat} {v2 : Int} {m : xm} (hd : 4 ≤ d) (h1 : isH v1) : xw (am_E L xs bz) d am_m68 2 0 [(0, .ref 6), (1, .ref v1), (2, .int (i32 v2))] [] m (cQ_answer v1 v2 m) := by
  unfold cQ_answer
  refine w_aload_n rfl rfl ?_
  refine w_gfi rfl rfl (Nat.le_of_ble_eq_true rfl) rfl rfl ?_
  refine w_if_eq (tg := 15) rfl rfl (w32_ld _ _ _) ?_ ?_
  · exact w_weak [(0, .ref 6), (1, .ref v1), (2, .int (i32 v2))] rfl ⟨rfl, rfl, rfl, trivial⟩ (s_cQ_answer_15 (by omega) h1)
  · refine w_aload_n rfl rfl ?_
    refine w_gfi rfl rfl (Nat.le_of_ble_eq_true rfl) rfl rfl ?_
    refine w_iconst rfl ?_
    refine w_icmp_ne (tg := 21) rfl rfl (w32_ld _ _ _) rfl ?_ ?_
    · refine w_lconst (z := 0) rfl rfl ?_
      exact w_weak [(0, .ref 6), (1, .ref v1), (2, .int (i32 v2))] rfl ⟨rfl, rfl, rfl, trivial⟩ (s_cQ_answer_22 (by omega) h1)
    · exact w_weak [(0, .ref 6), (1, .ref v1), (2, .int (i32 v2))] rfl ⟨rfl, rfl, rfl, trivial⟩ (s_cQ_answer_15 (by omega) h1)
end S02
