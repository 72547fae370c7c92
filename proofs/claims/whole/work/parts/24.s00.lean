section S00
variable {L : Nat} {xs : Nat → Int32} {bz : Bool}
theorem s_cT_byteAt {d : Nat} {v1 : Int} {m : xm} (hd : 0 ≤ d) : xw (am_E L xs bz) d am_m102 1 0 [(0, .ref 1), (1, .int (i32 v1))] [] m (cT_byteAt v1 m) := by
  unfold cT_byteAt
  refine w_iload_n rfl rfl ?_
  refine w_if_lt (tg := 30) rfl rfl rfl ?_ ?_
  · refine w_iconst rfl ?_
    exact w_retv rfl rfl
  · refine w_iload_n rfl rfl ?_
    refine w_aload_n rfl rfl ?_
    refine w_gfi rfl rfl (Nat.le_of_ble_eq_true rfl) rfl rfl ?_
    refine w_icmp_ge (tg := 30) rfl rfl rfl (w32_ld _ _ _) ?_ ?_
    · refine w_iconst rfl ?_
      exact w_retv rfl rfl
    · refine w_iload_n rfl rfl ?_
      refine w_aload_n rfl rfl ?_
      refine w_gfr (r := 2) rfl rfl (Nat.le_of_ble_eq_true rfl) rfl rfl ?_
      refine w_alen (n := 1600) rfl (Nat.le_of_ble_eq_true rfl) (Nat.le_of_ble_eq_true rfl) rfl ?_
      refine w_icmp_ge (tg := 30) rfl rfl rfl rfl ?_ ?_
      · refine w_iconst rfl ?_
        exact w_retv rfl rfl
      · refine w_aload_n rfl rfl ?_
        refine w_gfr (r := 2) rfl rfl (Nat.le_of_ble_eq_true rfl) rfl rfl ?_
        refine w_iload_n rfl rfl ?_
        refine w_iaload rfl rfl (fun x1 => ?_)
        refine w_goto (tg := 31) rfl rfl ?_
        show xw _ _ _ _ 31 _ _ _ _
        exact w_retv rfl rfl
theorem s_cW_isWord_70 {d : Nat} {v1 : Nat} {k32 : Int → Int → xm → xr} (hd : 7 ≤ d) (h1 : v1 < 31) (hk32 : ∀ (v2 v3 : Int) (m : xm), xw (am_E L xs bz) d am_m122 1 32 [(0, .ref 3), (1, .ref (1000000 + 2 * v1)), (2, .int (i32 v2)), (3, .int (i32 v3))] [] m (k32 v2 v3 m)) {v3 : Int} {s0 : Int} {m : xm} : xw (am_E L xs bz) d am_m122 1 70 [(0, .ref 3), (1, .ref (1000000 + 2 * v1)), (3, .int (i32 v3))] [.int (i32 s0)] m (cW_isWord_70 v1 k32 v3 s0 m) := by
  unfold cW_isWord_70
  refine w_letI (fun x1 => ?_)
  refine w_istore_n (lsd := [(2, .int (i32 x1)), (0, .ref 3), (1, .ref (1000000 + 2 * v1)), (3, .int (i32 v3))]) rfl (Nat.le_of_ble_eq_true rfl) rfl ?_
  refine w_iinc (lsd := [(3, .int (i32 (v3 + 1))), (2, .int (i32 x1)), (0, .ref 3), (1, .ref (1000000 + 2 * v1))]) rfl (Nat.le_of_ble_eq_true rfl) rfl rfl ?_
  refine w_goto (tg := 32) rfl rfl ?_
  exact w_weak [(0, .ref 3), (1, .ref (1000000 + 2 * v1)), (2, .int (i32 x1)), (3, .int (i32 (v3 + 1)))] rfl ⟨rfl, rfl, rfl, rfl, trivial⟩ (hk32 x1 (v3 + 1) m)
theorem s_cW_isWord_32 {d : Nat} {v1 : Nat} (hd : 7 ≤ d) (h1 : v1 < 31) : ∀ (n : Nat) {v2 : Int} {v3 : Int} {m : xm}, xw (am_E L xs bz) d am_m122 1 32 [(0, .ref 3), (1, .ref (1000000 + 2 * v1)), (2, .int (i32 v2)), (3, .int (i32 v3))] [] m (cW_isWord_32 v1 n v2 v3 m) := by
  intro n
  induction n with
  | zero => intros; exact w_none
  | succ n ih =>
    intro v2 v3 m
    have hk32 := fun (v2 v3 : Int) (m : xm) => @ih v2 v3 m
    unfold cW_isWord_32
    refine w_iload_n rfl rfl ?_
    refine w_aload_n rfl rfl ?_
    refine w_call1 [.ref (1000000 + 2 * v1)] [.int (i32 v3)] (by omega) rfl rfl rfl rfl rfl rfl (Nat.le_of_ble_eq_true rfl) (fun _ => rcv_S h1 rfl) (Nat.le_of_ble_eq_true rfl) rfl rfl (s_j_len (by omega) h1) (fun r1 m2 => ?_)
    refine w_icmp_ge (tg := 77) rfl rfl rfl rfl ?_ ?_
    · refine w_iload_n rfl rfl ?_
      exact w_retb rfl rfl
    · refine w_iload_n rfl rfl ?_
      refine w_if_eq (tg := 77) rfl rfl rfl ?_ ?_
      · refine w_iload_n rfl rfl ?_
        exact w_retb rfl rfl
      · refine w_aload_n rfl rfl ?_
        refine w_iload_n rfl rfl ?_
        refine w_call1 [.ref (1000000 + 2 * v1), .int (i32 v3)] [] (by omega) rfl rfl rfl rfl rfl rfl (Nat.le_of_ble_eq_true rfl) (fun _ => rcv_S h1 rfl) (Nat.le_of_ble_eq_true rfl) rfl rfl (s_j_chr (by omega) h1) (fun r3 m4 => ?_)
        refine w_aload_n rfl rfl ?_
        refine w_gfr (r := 1) rfl rfl (Nat.le_of_ble_eq_true rfl) rfl rfl ?_
        show xw _ _ _ _ 53 _ _ _ _
        refine w_aload_n rfl rfl ?_
        refine w_gfi rfl rfl (Nat.le_of_ble_eq_true rfl) rfl rfl ?_
        refine w_iload_n rfl rfl ?_
        refine w_iadd rfl ?_
        refine w_call1 [.ref 1, .int (i32 ((ld m4 3 2) + v3))] [.int (i32 r3)] (by omega) rfl rfl rfl rfl rfl rfl (Nat.le_of_ble_eq_true rfl) (fun _ => xrc_ok rfl) (Nat.le_of_ble_eq_true rfl) rfl rfl (s_cT_byteAt (by omega)) (fun r5 m6 => ?_)
        refine w_icmp_ne (tg := 69) rfl rfl rfl rfl ?_ ?_
        · refine w_iconst rfl ?_
          exact w_weak [(0, .ref 3), (1, .ref (1000000 + 2 * v1)), (3, .int (i32 v3))] rfl ⟨rfl, rfl, rfl, trivial⟩ (s_cW_isWord_70 (by omega) h1 hk32)
        · refine w_iconst rfl ?_
          refine w_goto (tg := 70) rfl rfl ?_
          exact w_weak [(0, .ref 3), (1, .ref (1000000 + 2 * v1)), (3, .int (i32 v3))] rfl ⟨rfl, rfl, rfl, trivial⟩ (s_cW_isWord_70 (by omega) h1 hk32)
theorem s_cW_isWord_29 {d : Nat} {v1 : Nat} (hd : 7 ≤ d) (h1 : v1 < 31) {s0 : Int} {m : xm} : xw (am_E L xs bz) d am_m122 1 29 [(0, .ref 3), (1, .ref (1000000 + 2 * v1))] [.int (i32 s0)] m (cW_isWord_29 v1 s0 m) := by
  unfold cW_isWord_29
  refine w_letI (fun x1 => ?_)
  refine w_istore_n (lsd := [(2, .int (i32 x1)), (0, .ref 3), (1, .ref (1000000 + 2 * v1))]) rfl (Nat.le_of_ble_eq_true rfl) rfl ?_
  refine w_iconst rfl ?_
  refine w_istore_n (lsd := [(3, .int (i32 0)), (2, .int (i32 x1)), (0, .ref 3), (1, .ref (1000000 + 2 * v1))]) rfl (Nat.le_of_ble_eq_true rfl) rfl ?_
  exact w_weak [(0, .ref 3), (1, .ref (1000000 + 2 * v1)), (2, .int (i32 x1)), (3, .int (i32 0))] rfl ⟨rfl, rfl, rfl, rfl, trivial⟩ (s_cW_isWord_32 (by omega) h1 _)
theorem s_cW_isWord_28 {d : Nat} {v1 : Nat} (hd : 7 ≤ d) (h1 : v1 < 31) {m : xm} : xw (am_E L xs bz) d am_m122 1 28 [(0, .ref 3), (1, .ref (1000000 + 2 * v1))] [] m (cW_isWord_28 v1 m) := by
  unfold cW_isWord_28
  refine w_iconst rfl ?_
  exact w_weak [(0, .ref 3), (1, .ref (1000000 + 2 * v1))] rfl ⟨rfl, rfl, trivial⟩ (s_cW_isWord_29 (by omega) h1)
theorem s_cW_isWord {d : Nat} {v1 : Nat} {m : xm} (hd : 7 ≤ d) (h1 : v1 < 31) : xw (am_E L xs bz) d am_m122 1 0 [(0, .ref 3), (1, .ref (1000000 + 2 * v1))] [] m (cW_isWord v1 m) := by
  unfold cW_isWord
  refine w_aload_n rfl rfl ?_
  refine w_gfi rfl rfl (Nat.le_of_ble_eq_true rfl) rfl rfl ?_
  refine w_iconst rfl ?_
  refine w_icmp_ne (tg := 28) rfl rfl (w32_ld _ _ _) rfl ?_ ?_
  · exact w_weak [(0, .ref 3), (1, .ref (1000000 + 2 * v1))] rfl ⟨rfl, rfl, trivial⟩ (s_cW_isWord_28 (by omega) h1)
  · refine w_aload_n rfl rfl ?_
    refine w_gfi rfl rfl (Nat.le_of_ble_eq_true rfl) rfl rfl ?_
    refine w_aload_n rfl rfl ?_
    refine w_gfi rfl rfl (Nat.le_of_ble_eq_true rfl) rfl rfl ?_
    refine w_isub rfl ?_
    show xw _ _ _ _ 17 _ _ _ _
    refine w_aload_n rfl rfl ?_
    refine w_call1 [.ref (1000000 + 2 * v1)] [.int (i32 ((ld m 3 3) - (ld m 3 2)))] (by omega) rfl rfl rfl rfl rfl rfl (Nat.le_of_ble_eq_true rfl) (fun _ => rcv_S h1 rfl) (Nat.le_of_ble_eq_true rfl) rfl rfl (s_j_len (by omega) h1) (fun r1 m2 => ?_)
    refine w_icmp_ne (tg := 28) rfl rfl rfl rfl ?_ ?_
    · exact w_weak [(0, .ref 3), (1, .ref (1000000 + 2 * v1))] rfl ⟨rfl, rfl, trivial⟩ (s_cW_isWord_28 (by omega) h1)
    · refine w_iconst rfl ?_
      refine w_goto (tg := 29) rfl rfl ?_
      exact w_weak [(0, .ref 3), (1, .ref (1000000 + 2 * v1))] rfl ⟨rfl, rfl, trivial⟩ (s_cW_isWord_29 (by omega) h1)
theorem s_cT_length {d : Nat} {m : xm} (hd : 0 ≤ d) : xw (am_E L xs bz) d am_m98 1 0 [(0, .ref 1)] [] m (cT_length m) := by
  unfold cT_length
  refine w_aload_n rfl rfl ?_
  refine w_gfi rfl rfl (Nat.le_of_ble_eq_true rfl) rfl rfl ?_
  exact w_retv rfl rfl
theorem s_cW_kindOf_21 {d : Nat} (hd : 0 ≤ d) {v0 : Int} {m : xm} : xw (am_E L xs bz) d am_m120 1 21 [(0, .int (i32 v0))] [] m (cW_kindOf_21 v0 m) := by
  unfold cW_kindOf_21
  refine w_iload_n rfl rfl ?_
  refine w_bipush rfl rfl ?_
  refine w_icmp_lt (tg := 37) rfl rfl rfl rfl ?_ ?_
  · refine w_iconst rfl ?_
    exact w_retv rfl rfl
  · refine w_iload_n rfl rfl ?_
    refine w_bipush rfl rfl ?_
    refine w_icmp_gt (tg := 37) rfl rfl rfl rfl ?_ ?_
    · refine w_iconst rfl ?_
      exact w_retv rfl rfl
    · refine w_iconst rfl ?_
      refine w_goto (tg := 38) rfl rfl ?_
      exact w_retv rfl rfl
theorem s_cW_kindOf {d : Nat} {v0 : Int} {m : xm} (hd : 0 ≤ d) : xw (am_E L xs bz) d am_m120 1 0 [(0, .int (i32 v0))] [] m (cW_kindOf v0 m) := by
  unfold cW_kindOf
  refine w_iload_n rfl rfl ?_
  refine w_iconst rfl ?_
  refine w_icmp_ne (tg := 7) rfl rfl rfl rfl ?_ ?_
  · refine w_iload_n rfl rfl ?_
    refine w_bipush rfl rfl ?_
    refine w_icmp_lt (tg := 21) rfl rfl rfl rfl ?_ ?_
    · exact w_weak [(0, .int (i32 v0))] rfl ⟨rfl, trivial⟩ (s_cW_kindOf_21 (by omega))
    · refine w_iload_n rfl rfl ?_
      refine w_bipush rfl rfl ?_
      refine w_icmp_gt (tg := 21) rfl rfl rfl rfl ?_ ?_
      · exact w_weak [(0, .int (i32 v0))] rfl ⟨rfl, trivial⟩ (s_cW_kindOf_21 (by omega))
      · refine w_iconst rfl ?_
        exact w_retv rfl rfl
  · refine w_iconst rfl ?_
    exact w_retv rfl rfl
theorem s_cW_isBlank {d : Nat} {v0 : Int} {m : xm} (hd : 0 ≤ d) : xw (am_E L xs bz) d am_m119 1 0 [(0, .int (i32 v0))] [] m (cW_isBlank v0 m) := by
  unfold cW_isBlank
  refine w_iload_n rfl rfl ?_
  refine w_bipush rfl rfl ?_
  refine w_icmp_eq (tg := 12) rfl rfl rfl rfl ?_ ?_
  · refine w_iconst rfl ?_
    refine w_goto (tg := 17) rfl rfl ?_
    exact w_retv rfl rfl
  · refine w_iload_n rfl rfl ?_
    refine w_bipush rfl rfl ?_
    refine w_icmp_ne (tg := 16) rfl rfl rfl rfl ?_ ?_
    · refine w_iconst rfl ?_
      exact w_retv rfl rfl
    · refine w_iconst rfl ?_
      refine w_goto (tg := 17) rfl rfl ?_
      exact w_retv rfl rfl
theorem s_cW_next_218 {d : Nat} (hd : 1 ≤ d) {m : xm} : xw (am_E L xs bz) d am_m118 0 218 [(0, .ref 3)] [] m (cW_next_218 m) := by
  unfold cW_next_218
  refine w_aload_n rfl rfl ?_
  refine w_iconst rfl ?_
  refine w_pfi rfl rfl (Nat.le_of_ble_eq_true rfl) rfl rfl rfl (fun m1 => ?_)
  exact w_retv (x := 0) rfl rfl
theorem s_cW_next_190 {d : Nat} (hd : 1 ≤ d) {v1 : Int} {v2 : Int} {m : xm} : xw (am_E L xs bz) d am_m118 0 190 [(0, .ref 3), (1, .int (i32 v1)), (2, .int (i32 v2))] [] m (cW_next_190 v1 v2 m) := by
  unfold cW_next_190
  refine w_iload_n rfl rfl ?_
  refine w_if_eq (tg := 223) rfl rfl rfl ?_ ?_
  · exact w_retv (x := 0) rfl rfl
  · refine w_aload_n rfl rfl ?_
    refine w_gfi rfl rfl (Nat.le_of_ble_eq_true rfl) rfl rfl ?_
    refine w_iload_n rfl rfl ?_
    refine w_icmp_ne (tg := 223) rfl rfl (w32_ld _ _ _) rfl ?_ ?_
    · exact w_retv (x := 0) rfl rfl
    · refine w_aload_n rfl rfl ?_
      refine w_gfi rfl rfl (Nat.le_of_ble_eq_true rfl) rfl rfl ?_
      refine w_iconst rfl ?_
      refine w_icmp_eq (tg := 218) rfl rfl (w32_ld _ _ _) rfl ?_ ?_
      · exact w_weak [(0, .ref 3)] rfl ⟨rfl, trivial⟩ (s_cW_next_218 (by omega))
      · refine w_aload_n rfl rfl ?_
        refine w_gfi rfl rfl (Nat.le_of_ble_eq_true rfl) rfl rfl ?_
        refine w_iconst rfl ?_
        refine w_icmp_ne (tg := 223) rfl rfl (w32_ld _ _ _) rfl ?_ ?_
        · exact w_retv (x := 0) rfl rfl
        · exact w_weak [(0, .ref 3)] rfl ⟨rfl, trivial⟩ (s_cW_next_218 (by omega))
theorem s_cW_next_142 {d : Nat} {k126 : Int → Int → xm → xr} (hd : 1 ≤ d) (hk126 : ∀ (v1 v2 : Int) (m : xm), xw (am_E L xs bz) d am_m118 0 126 [(0, .ref 3), (1, .int (i32 v1)), (2, .int (i32 v2))] [] m (k126 v1 v2 m)) {v1 : Int} {v2 : Int} {m : xm} : xw (am_E L xs bz) d am_m118 0 142 [(0, .ref 3), (1, .int (i32 v1)), (2, .int (i32 v2))] [] m (cW_next_142 k126 v1 v2 m) := by
  unfold cW_next_142
  refine w_aload_n rfl rfl ?_
  refine w_gfi rfl rfl (Nat.le_of_ble_eq_true rfl) rfl rfl ?_
  refine w_aload_n rfl rfl ?_
  refine w_gfr (r := 1) rfl rfl (Nat.le_of_ble_eq_true rfl) rfl rfl ?_
  refine w_call1 [.ref 1] [.int (i32 (ld m 3 3))] (by omega) rfl rfl rfl rfl rfl rfl (Nat.le_of_ble_eq_true rfl) (fun _ => xrc_ok rfl) (Nat.le_of_ble_eq_true rfl) rfl rfl (s_cT_length (by omega)) (fun r1 m2 => ?_)
  show xw _ _ _ _ 153 _ _ _ _
  refine w_icmp_ge (tg := 190) rfl rfl (w32_ld _ _ _) rfl ?_ ?_
  · exact w_weak [(0, .ref 3), (1, .int (i32 v1)), (2, .int (i32 v2))] rfl ⟨rfl, rfl, rfl, trivial⟩ (s_cW_next_190 (by omega))
  · refine w_aload_n rfl rfl ?_
    refine w_gfr (r := 1) rfl rfl (Nat.le_of_ble_eq_true rfl) rfl rfl ?_
    refine w_aload_n rfl rfl ?_
    refine w_gfi rfl rfl (Nat.le_of_ble_eq_true rfl) rfl rfl ?_
    refine w_call1 [.ref 1, .int (i32 (ld m2 3 3))] [] (by omega) rfl rfl rfl rfl rfl rfl (Nat.le_of_ble_eq_true rfl) (fun _ => xrc_ok rfl) (Nat.le_of_ble_eq_true rfl) rfl rfl (s_cT_byteAt (by omega)) (fun r3 m4 => ?_)
    show xw _ _ _ _ 167 _ _ _ _
    refine w_call1 [.int (i32 r3)] [] (by omega) rfl rfl rfl rfl rfl rfl (Nat.le_of_ble_eq_true rfl) (fun z => by cases z) (Nat.le_of_ble_eq_true rfl) rfl rfl (s_cW_kindOf (by omega)) (fun r5 m6 => ?_)
    refine w_aload_n rfl rfl ?_
    refine w_gfi rfl rfl (Nat.le_of_ble_eq_true rfl) rfl rfl ?_
    refine w_icmp_ne (tg := 190) rfl rfl rfl (w32_ld _ _ _) ?_ ?_
    · exact w_weak [(0, .ref 3), (1, .int (i32 v1)), (2, .int (i32 v2))] rfl ⟨rfl, rfl, rfl, trivial⟩ (s_cW_next_190 (by omega))
    · refine w_aload_n rfl rfl ?_
      refine w_dup rfl rfl ?_
      refine w_gfi rfl rfl (Nat.le_of_ble_eq_true rfl) rfl rfl ?_
      refine w_iconst rfl ?_
      refine w_iadd rfl ?_
      show xw _ _ _ _ 184 _ _ _ _
      refine w_pfi rfl rfl (Nat.le_of_ble_eq_true rfl) rfl rfl rfl (fun m7 => ?_)
      refine w_goto (tg := 126) rfl rfl ?_
      exact w_weak [(0, .ref 3), (1, .int (i32 v1)), (2, .int (i32 v2))] rfl ⟨rfl, rfl, rfl, trivial⟩ (hk126 v1 v2 m7)
theorem s_cW_next_126 {d : Nat} (hd : 1 ≤ d) : ∀ (n : Nat) {v1 : Int} {v2 : Int} {m : xm}, xw (am_E L xs bz) d am_m118 0 126 [(0, .ref 3), (1, .int (i32 v1)), (2, .int (i32 v2))] [] m (cW_next_126 n v1 v2 m) := by
  intro n
  induction n with
  | zero => intros; exact w_none
  | succ n ih =>
    intro v1 v2 m
    have hk126 := fun (v1 v2 : Int) (m : xm) => @ih v1 v2 m
    unfold cW_next_126
    refine w_aload_n rfl rfl ?_
    refine w_gfi rfl rfl (Nat.le_of_ble_eq_true rfl) rfl rfl ?_
    refine w_iconst rfl ?_
    refine w_icmp_eq (tg := 142) rfl rfl (w32_ld _ _ _) rfl ?_ ?_
    · exact w_weak [(0, .ref 3), (1, .int (i32 v1)), (2, .int (i32 v2))] rfl ⟨rfl, rfl, rfl, trivial⟩ (s_cW_next_142 (by omega) hk126)
    · refine w_aload_n rfl rfl ?_
      refine w_gfi rfl rfl (Nat.le_of_ble_eq_true rfl) rfl rfl ?_
      refine w_iconst rfl ?_
      refine w_icmp_ne (tg := 190) rfl rfl (w32_ld _ _ _) rfl ?_ ?_
      · exact w_weak [(0, .ref 3), (1, .int (i32 v1)), (2, .int (i32 v2))] rfl ⟨rfl, rfl, rfl, trivial⟩ (s_cW_next_190 (by omega))
      · exact w_weak [(0, .ref 3), (1, .int (i32 v1)), (2, .int (i32 v2))] rfl ⟨rfl, rfl, rfl, trivial⟩ (s_cW_next_142 (by omega) hk126)
theorem s_cW_next_123 {d : Nat} (hd : 1 ≤ d) {v1 : Int} {v2 : Int} {s1 : Int} {m : xm} : xw (am_E L xs bz) d am_m118 0 123 [(0, .ref 3), (1, .int (i32 v1)), (2, .int (i32 v2))] [.int (i32 s1), .ref 3] m (cW_next_123 v1 v2 s1 m) := by
  unfold cW_next_123
  refine w_pfi rfl rfl (Nat.le_of_ble_eq_true rfl) rfl rfl rfl (fun m1 => ?_)
  exact w_weak [(0, .ref 3), (1, .int (i32 v1)), (2, .int (i32 v2))] rfl ⟨rfl, rfl, rfl, trivial⟩ (s_cW_next_126 (by omega) _)
theorem s_cW_next_84 {d : Nat} (hd : 1 ≤ d) {v1 : Int} {v2 : Int} {m : xm} : xw (am_E L xs bz) d am_m118 0 84 [(0, .ref 3), (1, .int (i32 v1)), (2, .int (i32 v2))] [] m (cW_next_84 v1 v2 m) := by
  unfold cW_next_84
  refine w_aload_n rfl rfl ?_
  refine w_aload_n rfl rfl ?_
  refine w_gfr (r := 1) rfl rfl (Nat.le_of_ble_eq_true rfl) rfl rfl ?_
  refine w_aload_n rfl rfl ?_
  refine w_gfi rfl rfl (Nat.le_of_ble_eq_true rfl) rfl rfl ?_
  show xw _ _ _ _ 93 _ _ _ _
  refine w_call1 [.ref 1, .int (i32 (ld m 3 2))] [.ref 3] (by omega) rfl rfl rfl rfl rfl rfl (Nat.le_of_ble_eq_true rfl) (fun _ => xrc_ok rfl) (Nat.le_of_ble_eq_true rfl) rfl rfl (s_cT_byteAt (by omega)) (fun r1 m2 => ?_)
  refine w_call1 [.int (i32 r1)] [.ref 3] (by omega) rfl rfl rfl rfl rfl rfl (Nat.le_of_ble_eq_true rfl) (fun z => by cases z) (Nat.le_of_ble_eq_true rfl) rfl rfl (s_cW_kindOf (by omega)) (fun r3 m4 => ?_)
  refine w_pfi rfl rfl (Nat.le_of_ble_eq_true rfl) rfl rfl rfl (fun m5 => ?_)
  refine w_aload_n rfl rfl ?_
  refine w_aload_n rfl rfl ?_
  refine w_gfi rfl rfl (Nat.le_of_ble_eq_true rfl) rfl rfl ?_
  show xw _ _ _ _ 107 _ _ _ _
  refine w_if_ne (tg := 117) rfl rfl (w32_ld _ _ _) ?_ ?_
  · refine w_aload_n rfl rfl ?_
    refine w_gfi rfl rfl (Nat.le_of_ble_eq_true rfl) rfl rfl ?_
    refine w_iconst rfl ?_
    refine w_iadd rfl ?_
    exact w_weak [(0, .ref 3), (1, .int (i32 v1)), (2, .int (i32 v2))] rfl ⟨rfl, rfl, rfl, trivial⟩ (s_cW_next_123 (by omega))
  · refine w_aload_n rfl rfl ?_
    refine w_gfi rfl rfl (Nat.le_of_ble_eq_true rfl) rfl rfl ?_
    refine w_goto (tg := 123) rfl rfl ?_
    exact w_weak [(0, .ref 3), (1, .int (i32 v1)), (2, .int (i32 v2))] rfl ⟨rfl, rfl, rfl, trivial⟩ (s_cW_next_123 (by omega))
theorem s_cW_next_40 {d : Nat} (hd : 1 ≤ d) : ∀ (n : Nat) {v1 : Int} {v2 : Int} {m : xm}, xw (am_E L xs bz) d am_m118 0 40 [(0, .ref 3), (1, .int (i32 v1)), (2, .int (i32 v2))] [] m (cW_next_40 n v1 v2 m) := by
  intro n
  induction n with
  | zero => intros; exact w_none
  | succ n ih =>
    intro v1 v2 m
    have hk40 := fun (v1 v2 : Int) (m : xm) => @ih v1 v2 m
    unfold cW_next_40
    refine w_aload_n rfl rfl ?_
    refine w_gfi rfl rfl (Nat.le_of_ble_eq_true rfl) rfl rfl ?_
    refine w_aload_n rfl rfl ?_
    refine w_gfr (r := 1) rfl rfl (Nat.le_of_ble_eq_true rfl) rfl rfl ?_
    refine w_call1 [.ref 1] [.int (i32 (ld m 3 2))] (by omega) rfl rfl rfl rfl rfl rfl (Nat.le_of_ble_eq_true rfl) (fun _ => xrc_ok rfl) (Nat.le_of_ble_eq_true rfl) rfl rfl (s_cT_length (by omega)) (fun r1 m2 => ?_)
    show xw _ _ _ _ 51 _ _ _ _
    refine w_icmp_ge (tg := 84) rfl rfl (w32_ld _ _ _) rfl ?_ ?_
    · exact w_weak [(0, .ref 3), (1, .int (i32 v1)), (2, .int (i32 v2))] rfl ⟨rfl, rfl, rfl, trivial⟩ (s_cW_next_84 (by omega))
    · refine w_aload_n rfl rfl ?_
      refine w_gfr (r := 1) rfl rfl (Nat.le_of_ble_eq_true rfl) rfl rfl ?_
      refine w_aload_n rfl rfl ?_
      refine w_gfi rfl rfl (Nat.le_of_ble_eq_true rfl) rfl rfl ?_
      refine w_call1 [.ref 1, .int (i32 (ld m2 3 2))] [] (by omega) rfl rfl rfl rfl rfl rfl (Nat.le_of_ble_eq_true rfl) (fun _ => xrc_ok rfl) (Nat.le_of_ble_eq_true rfl) rfl rfl (s_cT_byteAt (by omega)) (fun r3 m4 => ?_)
      show xw _ _ _ _ 65 _ _ _ _
      refine w_call1 [.int (i32 r3)] [] (by omega) rfl rfl rfl rfl rfl rfl (Nat.le_of_ble_eq_true rfl) (fun z => by cases z) (Nat.le_of_ble_eq_true rfl) rfl rfl (s_cW_isBlank (by omega)) (fun r5 m6 => ?_)
      refine w_if_eq (tg := 84) rfl rfl rfl ?_ ?_
      · exact w_weak [(0, .ref 3), (1, .int (i32 v1)), (2, .int (i32 v2))] rfl ⟨rfl, rfl, rfl, trivial⟩ (s_cW_next_84 (by omega))
      · refine w_aload_n rfl rfl ?_
        refine w_dup rfl rfl ?_
        refine w_gfi rfl rfl (Nat.le_of_ble_eq_true rfl) rfl rfl ?_
        refine w_iconst rfl ?_
        refine w_iadd rfl ?_
        show xw _ _ _ _ 78 _ _ _ _
        refine w_pfi rfl rfl (Nat.le_of_ble_eq_true rfl) rfl rfl rfl (fun m7 => ?_)
        refine w_goto (tg := 40) rfl rfl ?_
        exact w_weak [(0, .ref 3), (1, .int (i32 v1)), (2, .int (i32 v2))] rfl ⟨rfl, rfl, rfl, trivial⟩ (hk40 v1 v2 m7)
theorem s_cW_next_29 {d : Nat} (hd : 1 ≤ d) {s0 : Int} {m : xm} : xw (am_E L xs bz) d am_m118 0 29 [(0, .ref 3)] [.int (i32 s0)] m (cW_next_29 s0 m) := by
  unfold cW_next_29
  refine w_letI (fun x1 => ?_)
  refine w_istore_n (lsd := [(1, .int (i32 x1)), (0, .ref 3)]) rfl (Nat.le_of_ble_eq_true rfl) rfl ?_
  refine w_aload_n rfl rfl ?_
  refine w_gfi rfl rfl (Nat.le_of_ble_eq_true rfl) rfl rfl ?_
  refine w_istore_n (lsd := [(2, .int (i32 (ld m 3 3))), (1, .int (i32 x1)), (0, .ref 3)]) rfl (Nat.le_of_ble_eq_true rfl) rfl ?_
  refine w_aload_n rfl rfl ?_
  show xw _ _ _ _ 36 _ _ _ _
  refine w_iload_n rfl rfl ?_
  refine w_pfi rfl rfl (Nat.le_of_ble_eq_true rfl) rfl rfl rfl (fun m2 => ?_)
  exact w_weak [(0, .ref 3), (1, .int (i32 x1)), (2, .int (i32 (ld m 3 3)))] rfl ⟨rfl, rfl, rfl, trivial⟩ (s_cW_next_40 (by omega) _)
theorem s_cW_next_24 {d : Nat} (hd : 1 ≤ d) {m : xm} : xw (am_E L xs bz) d am_m118 0 24 [(0, .ref 3)] [] m (cW_next_24 m) := by
  unfold cW_next_24
  refine w_iconst rfl ?_
  refine w_goto (tg := 29) rfl rfl ?_
  exact w_weak [(0, .ref 3)] rfl ⟨rfl, trivial⟩ (s_cW_next_29 (by omega))
theorem s_cW_next {d : Nat} {m : xm} (hd : 1 ≤ d) : xw (am_E L xs bz) d am_m118 0 0 [(0, .ref 3)] [] m (cW_next m) := by
  unfold cW_next
  refine w_aload_n rfl rfl ?_
  refine w_gfi rfl rfl (Nat.le_of_ble_eq_true rfl) rfl rfl ?_
  refine w_if_eq (tg := 8) rfl rfl (w32_ld _ _ _) ?_ ?_
  · refine w_aload_n rfl rfl ?_
    refine w_gfi rfl rfl (Nat.le_of_ble_eq_true rfl) rfl rfl ?_
    refine w_iconst rfl ?_
    refine w_icmp_eq (tg := 24) rfl rfl (w32_ld _ _ _) rfl ?_ ?_
    · exact w_weak [(0, .ref 3)] rfl ⟨rfl, trivial⟩ (s_cW_next_24 (by omega))
    · refine w_aload_n rfl rfl ?_
      refine w_gfi rfl rfl (Nat.le_of_ble_eq_true rfl) rfl rfl ?_
      refine w_iconst rfl ?_
      refine w_icmp_ne (tg := 28) rfl rfl (w32_ld _ _ _) rfl ?_ ?_
      · refine w_iconst rfl ?_
        exact w_weak [(0, .ref 3)] rfl ⟨rfl, trivial⟩ (s_cW_next_29 (by omega))
      · exact w_weak [(0, .ref 3)] rfl ⟨rfl, trivial⟩ (s_cW_next_24 (by omega))
  · exact w_retv (x := 0) rfl rfl
theorem s_cW_takeWord {d : Nat} {v1 : Nat} {m : xm} (hd : 8 ≤ d) (h1 : v1 < 31) : xw (am_E L xs bz) d am_m130 1 0 [(0, .ref 3), (1, .ref (1000000 + 2 * v1))] [] m (cW_takeWord v1 m) := by
  unfold cW_takeWord
  refine w_aload_n rfl rfl ?_
  refine w_aload_n rfl rfl ?_
  refine w_call1 [.ref 3, .ref (1000000 + 2 * v1)] [] (by omega) rfl rfl rfl rfl rfl rfl (Nat.le_of_ble_eq_true rfl) (fun _ => xrc_ok rfl) (Nat.le_of_ble_eq_true rfl) rfl rfl (s_cW_isWord (by omega) h1) (fun r1 m2 => ?_)
  refine w_istore_n (lsd := [(2, .int (i32 r1)), (0, .ref 3), (1, .ref (1000000 + 2 * v1))]) rfl (Nat.le_of_ble_eq_true rfl) rfl ?_
  refine w_iload_n rfl rfl ?_
  show xw _ _ _ _ 7 _ _ _ _
  refine w_if_eq (tg := 14) rfl rfl rfl ?_ ?_
  · refine w_iload_n rfl rfl ?_
    exact w_retb rfl rfl
  · refine w_aload_n rfl rfl ?_
    refine w_call0 [.ref 3] [] (by omega) rfl rfl rfl rfl rfl rfl (Nat.le_of_ble_eq_true rfl) (fun _ => xrc_ok rfl) (Nat.le_of_ble_eq_true rfl) rfl rfl (s_cW_next (by omega)) (fun r3 m4 => ?_)
    refine w_iload_n rfl rfl ?_
    exact w_retb rfl rfl
theorem s_cL_setCell {d : Nat} {v0 : Nat} {v1 : Int} {v2 : Int} {m : xm} (hd : 0 ≤ d) (h0 : xia v0 = true) : xw (am_E L xs bz) d am_m140 0 0 [(0, .ref v0), (1, .int (i32 v1)), (2, .int (i32 v2))] [] m (cL_setCell v0 v1 v2 m) := by
  unfold cL_setCell
  refine w_iload_n rfl rfl ?_
  refine w_if_lt (tg := 14) rfl rfl rfl ?_ ?_
  · exact w_retv (x := 0) rfl rfl
  · refine w_iload_n rfl rfl ?_
    refine w_aload_n rfl rfl ?_
    refine w_alen rfl (xia_lt h0) (xia_t4 h0) rfl ?_
    refine w_icmp_ge (tg := 14) rfl rfl rfl (w32_aln _) ?_ ?_
    · exact w_retv (x := 0) rfl rfl
    · refine w_aload_n rfl rfl ?_
      refine w_iload_n rfl rfl ?_
      refine w_iload_n rfl rfl ?_
      refine w_iastore rfl h0 (fun m1 => ?_)
      exact w_retv (x := 0) rfl rfl
theorem s_cC_add {d : Nat} {v0 : Nat} {v1 : Int} {m : xm} (hd : 1 ≤ d) (h0 : isC v0) : xw (am_E L xs bz) d am_m3 0 0 [(0, .ref v0), (1, .int (i32 v1))] [] m (cC_add v0 v1 m) := by
  unfold cC_add
  refine w_aload_n rfl rfl ?_
  refine w_gfi rfl rfl (isC_lt h0) (gfC_2 h0) rfl ?_
  refine w_sipush rfl rfl ?_
  refine w_icmp_ge (tg := 32) rfl rfl (w32_ld _ _ _) rfl ?_ ?_
  · exact w_retv (x := 0) rfl rfl
  · refine w_aload_n rfl rfl ?_
    refine w_gfr (r := v0 + 1) rfl rfl (isC_lt h0) (gfC_0 h0) rfl ?_
    refine w_aload_n rfl rfl ?_
    refine w_gfi rfl rfl (isC_lt h0) (gfC_2 h0) rfl ?_
    refine w_iload_n rfl rfl ?_
    show xw _ _ _ _ 19 _ _ _ _
    refine w_call0 [.ref (v0 + 1), .int (i32 (ld m v0 2)), .int (i32 v1)] [] (by omega) rfl rfl rfl rfl rfl rfl (Nat.le_of_ble_eq_true rfl) (fun z => by cases z) (Nat.le_of_ble_eq_true rfl) rfl rfl (s_cL_setCell (by omega) (xiaC_1 h0)) (fun r1 m2 => ?_)
    refine w_aload_n rfl rfl ?_
    refine w_dup rfl rfl ?_
    refine w_gfi rfl rfl (isC_lt h0) (gfC_2 h0) rfl ?_
    refine w_iconst rfl ?_
    refine w_iadd rfl ?_
    show xw _ _ _ _ 29 _ _ _ _
    refine w_pfi rfl rfl (isC_lt h0) (gfC_2 h0) rfl rfl (fun m3 => ?_)
    exact w_retv (x := 0) rfl rfl
theorem s_cX_readTest_8 {d : Nat} {self : Nat → Nat → Nat → Int → Int → xm → xr} {v0 : Nat} {v1 : Nat} (hd : 9 ≤ d) (hself0 : ∀ (t c : Nat) (o s : Int) (m : xm), isT t → isC c → xw (am_E L xs bz) (d - 1) am_m104 0 0 [(0, .ref t), (1, .ref c), (2, .int (i32 o))] [] m (self 0 t c o s m)) (hself1 : ∀ (t c : Nat) (o s : Int) (m : xm), isT t → isC c → xw (am_E L xs bz) (d - 1) am_m105 0 0 [(0, .ref t), (1, .ref c), (2, .int (i32 o))] [] m (self 1 t c o s m)) (hself2 : ∀ (t c : Nat) (o s : Int) (m : xm), isT t → isC c → xw (am_E L xs bz) (d - 1) am_m106 0 0 [(0, .ref t), (1, .ref c), (2, .int (i32 o))] [] m (self 2 t c o s m)) (hself3 : ∀ (t c : Nat) (o s : Int) (m : xm), isT t → isC c → xw (am_E L xs bz) (d - 1) am_m108 0 0 [(0, .ref t), (1, .ref c), (2, .int (i32 o))] [] m (self 3 t c o s m)) (hself4 : ∀ (t c : Nat) (o s : Int) (m : xm), isT t → isC c → xw (am_E L xs bz) (d - 1) am_m109 0 0 [(0, .ref t), (1, .ref c), (2, .int (i32 o))] [] m (self 4 t c o s m)) (hself5 : ∀ (t c : Nat) (o s : Int) (m : xm), isT t → isC c → xw (am_E L xs bz) (d - 1) am_m110 0 0 [(0, .ref t), (1, .ref c), (2, .int (i32 o))] [] m (self 5 t c o s m)) (hself6 : ∀ (t c : Nat) (o s : Int) (m : xm), isT t → isC c → xw (am_E L xs bz) (d - 1) am_m111 0 0 [(0, .ref t), (1, .ref c), (2, .int (i32 o)), (3, .int (i32 s))] [] m (self 6 t c o s m)) (hself7 : ∀ (t c : Nat) (o s : Int) (m : xm), isT t → isC c → xw (am_E L xs bz) (d - 1) am_m112 0 0 [(0, .ref t), (1, .ref c), (2, .int (i32 o)), (3, .int (i32 s))] [] m (self 7 t c o s m)) (h0 : isT v0) (h1 : isC v1) : ∀ (n : Nat) {v2 : Int} {v3 : Int} {m : xm}, xw (am_E L xs bz) d am_m104 0 8 [(0, .ref v0), (1, .ref v1), (2, .int (i32 v2)), (3, .int (i32 v3))] [] m (cX_readTest_8 self v0 v1 n v2 v3 m) := by
  intro n
  induction n with
  | zero => intros; exact w_none
  | succ n ih =>
    intro v2 v3 m
    have hk8 := fun (v2 v3 : Int) (m : xm) => @ih v2 v3 m
    unfold cX_readTest_8
    refine w_iload_n rfl rfl ?_
    refine w_sipush rfl rfl ?_
    refine w_icmp_ge (tg := 46) rfl rfl rfl rfl ?_ ?_
    · exact w_retv (x := 0) rfl rfl
    · refine w_aload_n rfl rfl ?_
      refine w_gfr (r := 3) rfl rfl (isT_lt h0) (gfT_0 h0) rfl ?_
      refine w_ldc rfl rfl ?_
      refine w_call1 [.ref 3, .ref (1000000 + 2 * 21)] [] (by omega) rfl rfl rfl rfl rfl rfl (Nat.le_of_ble_eq_true rfl) (fun _ => xrc_ok rfl) (Nat.le_of_ble_eq_true rfl) rfl rfl (s_cW_takeWord (by omega) (Nat.le_of_ble_eq_true rfl)) (fun r1 m2 => ?_)
      refine w_if_eq (tg := 46) rfl rfl rfl ?_ ?_
      · exact w_retv (x := 0) rfl rfl
      · refine w_aload_n rfl rfl ?_
        refine w_aload_n rfl rfl ?_
        refine w_iload_n rfl rfl ?_
        refine w_call0 [.ref v0, .ref v1, .int (i32 v2)] [] (by omega) rfl rfl rfl rfl rfl rfl (Nat.le_of_ble_eq_true rfl) (fun _ => xrc_ok (rcT h0 rfl)) (Nat.le_of_ble_eq_true rfl) rfl rfl (hself1 v0 v1 v2 0 m2 h0 h1) (fun r3 m4 => ?_)
        refine w_aload_n rfl rfl ?_
        show xw _ _ _ _ 34 _ _ _ _
        refine w_sipush rfl rfl ?_
        refine w_call0 [.ref v1, .int (i32 10020)] [] (by omega) rfl rfl rfl rfl rfl rfl (Nat.le_of_ble_eq_true rfl) (fun _ => xrc_ok (rcC h1 rfl)) (Nat.le_of_ble_eq_true rfl) rfl rfl (s_cC_add (by omega) h1) (fun r5 m6 => ?_)
        refine w_iinc (lsd := [(3, .int (i32 (v3 + 1))), (0, .ref v0), (1, .ref v1), (2, .int (i32 v2))]) rfl (Nat.le_of_ble_eq_true rfl) rfl rfl ?_
        refine w_goto (tg := 8) rfl rfl ?_
        exact w_weak [(0, .ref v0), (1, .ref v1), (2, .int (i32 v2)), (3, .int (i32 (v3 + 1)))] rfl ⟨rfl, rfl, rfl, rfl, trivial⟩ (hk8 v2 (v3 + 1) m6)
theorem s_cX_readTest0 {d : Nat} {self : Nat → Nat → Nat → Int → Int → xm → xr} {v0 : Nat} {v1 : Nat} {v2 : Int} {m : xm} (hd : 9 ≤ d) (hself0 : ∀ (t c : Nat) (o s : Int) (m : xm), isT t → isC c → xw (am_E L xs bz) (d - 1) am_m104 0 0 [(0, .ref t), (1, .ref c), (2, .int (i32 o))] [] m (self 0 t c o s m)) (hself1 : ∀ (t c : Nat) (o s : Int) (m : xm), isT t → isC c → xw (am_E L xs bz) (d - 1) am_m105 0 0 [(0, .ref t), (1, .ref c), (2, .int (i32 o))] [] m (self 1 t c o s m)) (hself2 : ∀ (t c : Nat) (o s : Int) (m : xm), isT t → isC c → xw (am_E L xs bz) (d - 1) am_m106 0 0 [(0, .ref t), (1, .ref c), (2, .int (i32 o))] [] m (self 2 t c o s m)) (hself3 : ∀ (t c : Nat) (o s : Int) (m : xm), isT t → isC c → xw (am_E L xs bz) (d - 1) am_m108 0 0 [(0, .ref t), (1, .ref c), (2, .int (i32 o))] [] m (self 3 t c o s m)) (hself4 : ∀ (t c : Nat) (o s : Int) (m : xm), isT t → isC c → xw (am_E L xs bz) (d - 1) am_m109 0 0 [(0, .ref t), (1, .ref c), (2, .int (i32 o))] [] m (self 4 t c o s m)) (hself5 : ∀ (t c : Nat) (o s : Int) (m : xm), isT t → isC c → xw (am_E L xs bz) (d - 1) am_m110 0 0 [(0, .ref t), (1, .ref c), (2, .int (i32 o))] [] m (self 5 t c o s m)) (hself6 : ∀ (t c : Nat) (o s : Int) (m : xm), isT t → isC c → xw (am_E L xs bz) (d - 1) am_m111 0 0 [(0, .ref t), (1, .ref c), (2, .int (i32 o)), (3, .int (i32 s))] [] m (self 6 t c o s m)) (hself7 : ∀ (t c : Nat) (o s : Int) (m : xm), isT t → isC c → xw (am_E L xs bz) (d - 1) am_m112 0 0 [(0, .ref t), (1, .ref c), (2, .int (i32 o)), (3, .int (i32 s))] [] m (self 7 t c o s m)) (h0 : isT v0) (h1 : isC v1) : xw (am_E L xs bz) d am_m104 0 0 [(0, .ref v0), (1, .ref v1), (2, .int (i32 v2))] [] m (cX_readTest0 self v0 v1 v2 m) := by
  unfold cX_readTest0
  refine w_aload_n rfl rfl ?_
  refine w_aload_n rfl rfl ?_
  refine w_iload_n rfl rfl ?_
  refine w_call0 [.ref v0, .ref v1, .int (i32 v2)] [] (by omega) rfl rfl rfl rfl rfl rfl (Nat.le_of_ble_eq_true rfl) (fun _ => xrc_ok (rcT h0 rfl)) (Nat.le_of_ble_eq_true rfl) rfl rfl (hself1 v0 v1 v2 0 m h0 h1) (fun r1 m2 => ?_)
  refine w_iconst rfl ?_
  show xw _ _ _ _ 7 _ _ _ _
  refine w_istore_n (lsd := [(3, .int (i32 0)), (0, .ref v0), (1, .ref v1), (2, .int (i32 v2))]) rfl (Nat.le_of_ble_eq_true rfl) rfl ?_
  exact w_weak [(0, .ref v0), (1, .ref v1), (2, .int (i32 v2)), (3, .int (i32 0))] rfl ⟨rfl, rfl, rfl, rfl, trivial⟩ (s_cX_readTest_8 (by omega) hself0 hself1 hself2 hself3 hself4 hself5 hself6 hself7 h0 h1 _)
theorem s_cX_readBoth_8 {d : Nat} {self : Nat → Nat → Nat → Int → Int → xm → xr} {v0 : Nat} {v1 : Nat} (hd : 9 ≤ d) (hself0 : ∀ (t c : Nat) (o s : Int) (m : xm), isT t → isC c → xw (am_E L xs bz) (d - 1) am_m104 0 0 [(0, .ref t), (1, .ref c), (2, .int (i32 o))] [] m (self 0 t c o s m)) (hself1 : ∀ (t c : Nat) (o s : Int) (m : xm), isT t → isC c → xw (am_E L xs bz) (d - 1) am_m105 0 0 [(0, .ref t), (1, .ref c), (2, .int (i32 o))] [] m (self 1 t c o s m)) (hself2 : ∀ (t c : Nat) (o s : Int) (m : xm), isT t → isC c → xw (am_E L xs bz) (d - 1) am_m106 0 0 [(0, .ref t), (1, .ref c), (2, .int (i32 o))] [] m (self 2 t c o s m)) (hself3 : ∀ (t c : Nat) (o s : Int) (m : xm), isT t → isC c → xw (am_E L xs bz) (d - 1) am_m108 0 0 [(0, .ref t), (1, .ref c), (2, .int (i32 o))] [] m (self 3 t c o s m)) (hself4 : ∀ (t c : Nat) (o s : Int) (m : xm), isT t → isC c → xw (am_E L xs bz) (d - 1) am_m109 0 0 [(0, .ref t), (1, .ref c), (2, .int (i32 o))] [] m (self 4 t c o s m)) (hself5 : ∀ (t c : Nat) (o s : Int) (m : xm), isT t → isC c → xw (am_E L xs bz) (d - 1) am_m110 0 0 [(0, .ref t), (1, .ref c), (2, .int (i32 o))] [] m (self 5 t c o s m)) (hself6 : ∀ (t c : Nat) (o s : Int) (m : xm), isT t → isC c → xw (am_E L xs bz) (d - 1) am_m111 0 0 [(0, .ref t), (1, .ref c), (2, .int (i32 o)), (3, .int (i32 s))] [] m (self 6 t c o s m)) (hself7 : ∀ (t c : Nat) (o s : Int) (m : xm), isT t → isC c → xw (am_E L xs bz) (d - 1) am_m112 0 0 [(0, .ref t), (1, .ref c), (2, .int (i32 o)), (3, .int (i32 s))] [] m (self 7 t c o s m)) (h0 : isT v0) (h1 : isC v1) : ∀ (n : Nat) {v2 : Int} {v3 : Int} {m : xm}, xw (am_E L xs bz) d am_m105 0 8 [(0, .ref v0), (1, .ref v1), (2, .int (i32 v2)), (3, .int (i32 v3))] [] m (cX_readBoth_8 self v0 v1 n v2 v3 m) := by
  intro n
  induction n with
  | zero => intros; exact w_none
  | succ n ih =>
    intro v2 v3 m
    have hk8 := fun (v2 v3 : Int) (m : xm) => @ih v2 v3 m
    unfold cX_readBoth_8
    refine w_iload_n rfl rfl ?_
    refine w_sipush rfl rfl ?_
    refine w_icmp_ge (tg := 46) rfl rfl rfl rfl ?_ ?_
    · exact w_retv (x := 0) rfl rfl
    · refine w_aload_n rfl rfl ?_
      refine w_gfr (r := 3) rfl rfl (isT_lt h0) (gfT_0 h0) rfl ?_
      refine w_ldc rfl rfl ?_
      refine w_call1 [.ref 3, .ref (1000000 + 2 * 20)] [] (by omega) rfl rfl rfl rfl rfl rfl (Nat.le_of_ble_eq_true rfl) (fun _ => xrc_ok rfl) (Nat.le_of_ble_eq_true rfl) rfl rfl (s_cW_takeWord (by omega) (Nat.le_of_ble_eq_true rfl)) (fun r1 m2 => ?_)
      refine w_if_eq (tg := 46) rfl rfl rfl ?_ ?_
      · exact w_retv (x := 0) rfl rfl
      · refine w_aload_n rfl rfl ?_
        refine w_aload_n rfl rfl ?_
        refine w_iload_n rfl rfl ?_
        refine w_call0 [.ref v0, .ref v1, .int (i32 v2)] [] (by omega) rfl rfl rfl rfl rfl rfl (Nat.le_of_ble_eq_true rfl) (fun _ => xrc_ok (rcT h0 rfl)) (Nat.le_of_ble_eq_true rfl) rfl rfl (hself2 v0 v1 v2 0 m2 h0 h1) (fun r3 m4 => ?_)
        refine w_aload_n rfl rfl ?_
        show xw _ _ _ _ 34 _ _ _ _
        refine w_sipush rfl rfl ?_
        refine w_call0 [.ref v1, .int (i32 10021)] [] (by omega) rfl rfl rfl rfl rfl rfl (Nat.le_of_ble_eq_true rfl) (fun _ => xrc_ok (rcC h1 rfl)) (Nat.le_of_ble_eq_true rfl) rfl rfl (s_cC_add (by omega) h1) (fun r5 m6 => ?_)
        refine w_iinc (lsd := [(3, .int (i32 (v3 + 1))), (0, .ref v0), (1, .ref v1), (2, .int (i32 v2))]) rfl (Nat.le_of_ble_eq_true rfl) rfl rfl ?_
        refine w_goto (tg := 8) rfl rfl ?_
        exact w_weak [(0, .ref v0), (1, .ref v1), (2, .int (i32 v2)), (3, .int (i32 (v3 + 1)))] rfl ⟨rfl, rfl, rfl, rfl, trivial⟩ (hk8 v2 (v3 + 1) m6)
theorem s_cX_readBoth0 {d : Nat} {self : Nat → Nat → Nat → Int → Int → xm → xr} {v0 : Nat} {v1 : Nat} {v2 : Int} {m : xm} (hd : 9 ≤ d) (hself0 : ∀ (t c : Nat) (o s : Int) (m : xm), isT t → isC c → xw (am_E L xs bz) (d - 1) am_m104 0 0 [(0, .ref t), (1, .ref c), (2, .int (i32 o))] [] m (self 0 t c o s m)) (hself1 : ∀ (t c : Nat) (o s : Int) (m : xm), isT t → isC c → xw (am_E L xs bz) (d - 1) am_m105 0 0 [(0, .ref t), (1, .ref c), (2, .int (i32 o))] [] m (self 1 t c o s m)) (hself2 : ∀ (t c : Nat) (o s : Int) (m : xm), isT t → isC c → xw (am_E L xs bz) (d - 1) am_m106 0 0 [(0, .ref t), (1, .ref c), (2, .int (i32 o))] [] m (self 2 t c o s m)) (hself3 : ∀ (t c : Nat) (o s : Int) (m : xm), isT t → isC c → xw (am_E L xs bz) (d - 1) am_m108 0 0 [(0, .ref t), (1, .ref c), (2, .int (i32 o))] [] m (self 3 t c o s m)) (hself4 : ∀ (t c : Nat) (o s : Int) (m : xm), isT t → isC c → xw (am_E L xs bz) (d - 1) am_m109 0 0 [(0, .ref t), (1, .ref c), (2, .int (i32 o))] [] m (self 4 t c o s m)) (hself5 : ∀ (t c : Nat) (o s : Int) (m : xm), isT t → isC c → xw (am_E L xs bz) (d - 1) am_m110 0 0 [(0, .ref t), (1, .ref c), (2, .int (i32 o))] [] m (self 5 t c o s m)) (hself6 : ∀ (t c : Nat) (o s : Int) (m : xm), isT t → isC c → xw (am_E L xs bz) (d - 1) am_m111 0 0 [(0, .ref t), (1, .ref c), (2, .int (i32 o)), (3, .int (i32 s))] [] m (self 6 t c o s m)) (hself7 : ∀ (t c : Nat) (o s : Int) (m : xm), isT t → isC c → xw (am_E L xs bz) (d - 1) am_m112 0 0 [(0, .ref t), (1, .ref c), (2, .int (i32 o)), (3, .int (i32 s))] [] m (self 7 t c o s m)) (h0 : isT v0) (h1 : isC v1) : xw (am_E L xs bz) d am_m105 0 0 [(0, .ref v0), (1, .ref v1), (2, .int (i32 v2))] [] m (cX_readBoth0 self v0 v1 v2 m) := by
  unfold cX_readBoth0
  refine w_aload_n rfl rfl ?_
  refine w_aload_n rfl rfl ?_
  refine w_iload_n rfl rfl ?_
  refine w_call0 [.ref v0, .ref v1, .int (i32 v2)] [] (by omega) rfl rfl rfl rfl rfl rfl (Nat.le_of_ble_eq_true rfl) (fun _ => xrc_ok (rcT h0 rfl)) (Nat.le_of_ble_eq_true rfl) rfl rfl (hself2 v0 v1 v2 0 m h0 h1) (fun r1 m2 => ?_)
  refine w_iconst rfl ?_
  show xw _ _ _ _ 7 _ _ _ _
  refine w_istore_n (lsd := [(3, .int (i32 0)), (0, .ref v0), (1, .ref v1), (2, .int (i32 v2))]) rfl (Nat.le_of_ble_eq_true rfl) rfl ?_
  exact w_weak [(0, .ref v0), (1, .ref v1), (2, .int (i32 v2)), (3, .int (i32 0))] rfl ⟨rfl, rfl, rfl, rfl, trivial⟩ (s_cX_readBoth_8 (by omega) hself0 hself1 hself2 hself3 hself4 hself5 hself6 hself7 h0 h1 _)
theorem s_cW_isSign {d : Nat} {v1 : Int} {m : xm} (hd : 1 ≤ d) : xw (am_E L xs bz) d am_m132 1 0 [(0, .ref 3), (1, .int (i32 v1))] [] m (cW_isSign v1 m) := by
  unfold cW_isSign
  refine w_aload_n rfl rfl ?_
  refine w_gfi rfl rfl (Nat.le_of_ble_eq_true rfl) rfl rfl ?_
  refine w_iconst rfl ?_
  refine w_icmp_ne (tg := 27) rfl rfl (w32_ld _ _ _) rfl ?_ ?_
  · refine w_iconst rfl ?_
    exact w_retv rfl rfl
  · refine w_aload_n rfl rfl ?_
    refine w_gfr (r := 1) rfl rfl (Nat.le_of_ble_eq_true rfl) rfl rfl ?_
    refine w_aload_n rfl rfl ?_
    refine w_gfi rfl rfl (Nat.le_of_ble_eq_true rfl) rfl rfl ?_
    refine w_call1 [.ref 1, .int (i32 (ld m 3 2))] [] (by omega) rfl rfl rfl rfl rfl rfl (Nat.le_of_ble_eq_true rfl) (fun _ => xrc_ok rfl) (Nat.le_of_ble_eq_true rfl) rfl rfl (s_cT_byteAt (by omega)) (fun r1 m2 => ?_)
    show xw _ _ _ _ 19 _ _ _ _
    refine w_iload_n rfl rfl ?_
    refine w_icmp_ne (tg := 27) rfl rfl rfl rfl ?_ ?_
    · refine w_iconst rfl ?_
      exact w_retv rfl rfl
    · refine w_iconst rfl ?_
      refine w_goto (tg := 28) rfl rfl ?_
      exact w_retv rfl rfl
theorem s_cW_fail {d : Nat} {v1 : Int} {v2 : Int} {m : xm} (hd : 0 ≤ d) : xw (am_E L xs bz) d am_m124 0 0 [(0, .ref 3), (1, .int (i32 v1)), (2, .int (i32 v2))] [] m (cW_fail v1 v2 m) := by
  unfold cW_fail
  refine w_aload_n rfl rfl ?_
  refine w_gfi rfl rfl (Nat.le_of_ble_eq_true rfl) rfl rfl ?_
  refine w_if_ne (tg := 22) rfl rfl (w32_ld _ _ _) ?_ ?_
  · exact w_retv (x := 0) rfl rfl
  · refine w_aload_n rfl rfl ?_
    refine w_iload_n rfl rfl ?_
    refine w_pfi rfl rfl (Nat.le_of_ble_eq_true rfl) rfl rfl rfl (fun m1 => ?_)
    refine w_aload_n rfl rfl ?_
    refine w_iload_n rfl rfl ?_
    show xw _ _ _ _ 14 _ _ _ _
    refine w_pfi rfl rfl (Nat.le_of_ble_eq_true rfl) rfl rfl rfl (fun m2 => ?_)
    refine w_aload_n rfl rfl ?_
    refine w_iconst rfl ?_
    refine w_pfi rfl rfl (Nat.le_of_ble_eq_true rfl) rfl rfl rfl (fun m3 => ?_)
    exact w_retv (x := 0) rfl rfl
theorem s_cW_failHere {d : Nat} {v1 : Int} {m : xm} (hd : 1 ≤ d) : xw (am_E L xs bz) d am_m123 0 0 [(0, .ref 3), (1, .int (i32 v1))] [] m (cW_failHere v1 m) := by
  unfold cW_failHere
  refine w_aload_n rfl rfl ?_
  refine w_iload_n rfl rfl ?_
  refine w_aload_n rfl rfl ?_
  refine w_gfi rfl rfl (Nat.le_of_ble_eq_true rfl) rfl rfl ?_
  refine w_call0 [.ref 3, .int (i32 v1), .int (i32 (ld m 3 2))] [] (by omega) rfl rfl rfl rfl rfl rfl (Nat.le_of_ble_eq_true rfl) (fun _ => xrc_ok rfl) (Nat.le_of_ble_eq_true rfl) rfl rfl (s_cW_fail (by omega)) (fun r1 m2 => ?_)
  show xw _ _ _ _ 9 _ _ _ _
  exact w_retv (x := 0) rfl rfl
theorem s_cX_takeComparison_62 {d : Nat} {v0 : Nat} (hd : 2 ≤ d) (h0 : isT v0) {v1 : Int} {m : xm} : xw (am_E L xs bz) d am_m115 1 62 [(0, .ref v0), (1, .int (i32 v1))] [] m (cX_takeComparison_62 v0 v1 m) := by
  unfold cX_takeComparison_62
  refine w_aload_n rfl rfl ?_
  refine w_gfr (r := 3) rfl rfl (isT_lt h0) (gfT_0 h0) rfl ?_
  refine w_call0 [.ref 3] [] (by omega) rfl rfl rfl rfl rfl rfl (Nat.le_of_ble_eq_true rfl) (fun _ => xrc_ok rfl) (Nat.le_of_ble_eq_true rfl) rfl rfl (s_cW_next (by omega)) (fun r1 m2 => ?_)
  refine w_iload_n rfl rfl ?_
  exact w_retv rfl rfl
theorem s_cX_takeComparison {d : Nat} {v0 : Nat} {m : xm} (hd : 2 ≤ d) (h0 : isT v0) : xw (am_E L xs bz) d am_m115 1 0 [(0, .ref v0)] [] m (cX_takeComparison v0 m) := by
  unfold cX_takeComparison
  refine w_sipush rfl rfl ?_
  refine w_istore_n (lsd := [(1, .int (i32 10024)), (0, .ref v0)]) rfl (Nat.le_of_ble_eq_true rfl) rfl ?_
  refine w_aload_n rfl rfl ?_
  refine w_gfr (r := 3) rfl rfl (isT_lt h0) (gfT_0 h0) rfl ?_
  refine w_bipush rfl rfl ?_
  show xw _ _ _ _ 10 _ _ _ _
  refine w_call1 [.ref 3, .int (i32 60)] [] (by omega) rfl rfl rfl rfl rfl rfl (Nat.le_of_ble_eq_true rfl) (fun _ => xrc_ok rfl) (Nat.le_of_ble_eq_true rfl) rfl rfl (s_cW_isSign (by omega)) (fun r1 m2 => ?_)
  refine w_if_eq (tg := 23) rfl rfl rfl ?_ ?_
  · refine w_aload_n rfl rfl ?_
    refine w_gfr (r := 3) rfl rfl (isT_lt h0) (gfT_0 h0) rfl ?_
    refine w_bipush rfl rfl ?_
    refine w_call1 [.ref 3, .int (i32 62)] [] (by omega) rfl rfl rfl rfl rfl rfl (Nat.le_of_ble_eq_true rfl) (fun _ => xrc_ok rfl) (Nat.le_of_ble_eq_true rfl) rfl rfl (s_cW_isSign (by omega)) (fun r3 m4 => ?_)
    refine w_if_eq (tg := 42) rfl rfl rfl ?_ ?_
    · refine w_aload_n rfl rfl ?_
      refine w_gfr (r := 3) rfl rfl (isT_lt h0) (gfT_0 h0) rfl ?_
      refine w_bipush rfl rfl ?_
      refine w_call1 [.ref 3, .int (i32 61)] [] (by omega) rfl rfl rfl rfl rfl rfl (Nat.le_of_ble_eq_true rfl) (fun _ => xrc_ok rfl) (Nat.le_of_ble_eq_true rfl) rfl rfl (s_cW_isSign (by omega)) (fun r5 m6 => ?_)
      refine w_if_ne (tg := 62) rfl rfl rfl ?_ ?_
      · exact w_weak [(0, .ref v0), (1, .int (i32 10024))] rfl ⟨rfl, rfl, trivial⟩ (s_cX_takeComparison_62 (by omega) h0)
      · refine w_aload_n rfl rfl ?_
        refine w_gfr (r := 3) rfl rfl (isT_lt h0) (gfT_0 h0) rfl ?_
        refine w_iconst rfl ?_
        refine w_call0 [.ref 3, .int (i32 1)] [] (by omega) rfl rfl rfl rfl rfl rfl (Nat.le_of_ble_eq_true rfl) (fun _ => xrc_ok rfl) (Nat.le_of_ble_eq_true rfl) rfl rfl (s_cW_failHere (by omega)) (fun r7 m8 => ?_)
        exact w_weak [(0, .ref v0), (1, .int (i32 10024))] rfl ⟨rfl, rfl, trivial⟩ (s_cX_takeComparison_62 (by omega) h0)
    · refine w_sipush rfl rfl ?_
      refine w_istore_n (lsd := [(1, .int (i32 10023)), (0, .ref v0)]) rfl (Nat.le_of_ble_eq_true rfl) rfl ?_
      refine w_goto (tg := 62) rfl rfl ?_
      exact w_weak [(0, .ref v0), (1, .int (i32 10023))] rfl ⟨rfl, rfl, trivial⟩ (s_cX_takeComparison_62 (by omega) h0)
  · refine w_sipush rfl rfl ?_
    refine w_istore_n (lsd := [(1, .int (i32 10022)), (0, .ref v0)]) rfl (Nat.le_of_ble_eq_true rfl) rfl ?_
    refine w_goto (tg := 62) rfl rfl ?_
    exact w_weak [(0, .ref v0), (1, .int (i32 10022))] rfl ⟨rfl, rfl, trivial⟩ (s_cX_takeComparison_62 (by omega) h0)
theorem s_cX_opensOneMore {d : Nat} {v0 : Nat} {v1 : Int} {m : xm} (hd : 2 ≤ d) (h0 : isT v0) : xw (am_E L xs bz) d am_m107 1 0 [(0, .ref v0), (1, .int (i32 v1))] [] m (cX_opensOneMore v0 v1 m) := by
  unfold cX_opensOneMore
  refine w_iload_n rfl rfl ?_
  refine w_bipush rfl rfl ?_
  refine w_icmp_lt (tg := 16) rfl rfl rfl rfl ?_ ?_
  · refine w_aload_n rfl rfl ?_
    refine w_gfr (r := 3) rfl rfl (isT_lt h0) (gfT_0 h0) rfl ?_
    refine w_call0 [.ref 3] [] (by omega) rfl rfl rfl rfl rfl rfl (Nat.le_of_ble_eq_true rfl) (fun _ => xrc_ok rfl) (Nat.le_of_ble_eq_true rfl) rfl rfl (s_cW_next (by omega)) (fun r1 m2 => ?_)
    refine w_iconst rfl ?_
    exact w_retv rfl rfl
  · refine w_aload_n rfl rfl ?_
    refine w_gfr (r := 3) rfl rfl (isT_lt h0) (gfT_0 h0) rfl ?_
    refine w_iconst rfl ?_
    refine w_call0 [.ref 3, .int (i32 4)] [] (by omega) rfl rfl rfl rfl rfl rfl (Nat.le_of_ble_eq_true rfl) (fun _ => xrc_ok rfl) (Nat.le_of_ble_eq_true rfl) rfl rfl (s_cW_failHere (by omega)) (fun r3 m4 => ?_)
    refine w_iconst rfl ?_
    show xw _ _ _ _ 15 _ _ _ _
    exact w_retv rfl rfl
theorem s_cW_needSign {d : Nat} {v1 : Int} {m : xm} (hd : 2 ≤ d) : xw (am_E L xs bz) d am_m133 0 0 [(0, .ref 3), (1, .int (i32 v1))] [] m (cW_needSign v1 m) := by
  unfold cW_needSign
  refine w_aload_n rfl rfl ?_
  refine w_iload_n rfl rfl ?_
  refine w_call1 [.ref 3, .int (i32 v1)] [] (by omega) rfl rfl rfl rfl rfl rfl (Nat.le_of_ble_eq_true rfl) (fun _ => xrc_ok rfl) (Nat.le_of_ble_eq_true rfl) rfl rfl (s_cW_isSign (by omega)) (fun r1 m2 => ?_)
  refine w_if_eq (tg := 15) rfl rfl rfl ?_ ?_
  · refine w_aload_n rfl rfl ?_
    refine w_iconst rfl ?_
    refine w_call0 [.ref 3, .int (i32 1)] [] (by omega) rfl rfl rfl rfl rfl rfl (Nat.le_of_ble_eq_true rfl) (fun _ => xrc_ok rfl) (Nat.le_of_ble_eq_true rfl) rfl rfl (s_cW_failHere (by omega)) (fun r3 m4 => ?_)
    exact w_retv (x := 0) rfl rfl
  · refine w_aload_n rfl rfl ?_
    refine w_call0 [.ref 3] [] (by omega) rfl rfl rfl rfl rfl rfl (Nat.le_of_ble_eq_true rfl) (fun _ => xrc_ok rfl) (Nat.le_of_ble_eq_true rfl) rfl rfl (s_cW_next (by omega)) (fun r5 m6 => ?_)
    refine w_goto (tg := 20) rfl rfl ?_
    exact w_retv (x := 0) rfl rfl
theorem s_cX_readFact0 {d : Nat} {self : Nat → Nat → Nat → Int → Int → xm → xr} {v0 : Nat} {v1 : Nat} {v2 : Int} {m : xm} (hd : 9 ≤ d) (hself0 : ∀ (t c : Nat) (o s : Int) (m : xm), isT t → isC c → xw (am_E L xs bz) (d - 1) am_m104 0 0 [(0, .ref t), (1, .ref c), (2, .int (i32 o))] [] m (self 0 t c o s m)) (hself1 : ∀ (t c : Nat) (o s : Int) (m : xm), isT t → isC c → xw (am_E L xs bz) (d - 1) am_m105 0 0 [(0, .ref t), (1, .ref c), (2, .int (i32 o))] [] m (self 1 t c o s m)) (hself2 : ∀ (t c : Nat) (o s : Int) (m : xm), isT t → isC c → xw (am_E L xs bz) (d - 1) am_m106 0 0 [(0, .ref t), (1, .ref c), (2, .int (i32 o))] [] m (self 2 t c o s m)) (hself3 : ∀ (t c : Nat) (o s : Int) (m : xm), isT t → isC c → xw (am_E L xs bz) (d - 1) am_m108 0 0 [(0, .ref t), (1, .ref c), (2, .int (i32 o))] [] m (self 3 t c o s m)) (hself4 : ∀ (t c : Nat) (o s : Int) (m : xm), isT t → isC c → xw (am_E L xs bz) (d - 1) am_m109 0 0 [(0, .ref t), (1, .ref c), (2, .int (i32 o))] [] m (self 4 t c o s m)) (hself5 : ∀ (t c : Nat) (o s : Int) (m : xm), isT t → isC c → xw (am_E L xs bz) (d - 1) am_m110 0 0 [(0, .ref t), (1, .ref c), (2, .int (i32 o))] [] m (self 5 t c o s m)) (hself6 : ∀ (t c : Nat) (o s : Int) (m : xm), isT t → isC c → xw (am_E L xs bz) (d - 1) am_m111 0 0 [(0, .ref t), (1, .ref c), (2, .int (i32 o)), (3, .int (i32 s))] [] m (self 6 t c o s m)) (hself7 : ∀ (t c : Nat) (o s : Int) (m : xm), isT t → isC c → xw (am_E L xs bz) (d - 1) am_m112 0 0 [(0, .ref t), (1, .ref c), (2, .int (i32 o)), (3, .int (i32 s))] [] m (self 7 t c o s m)) (h0 : isT v0) (h1 : isC v1) : xw (am_E L xs bz) d am_m106 0 0 [(0, .ref v0), (1, .ref v1), (2, .int (i32 v2))] [] m (cX_readFact0 self v0 v1 v2 m) := by
  unfold cX_readFact0
  refine w_aload_n rfl rfl ?_
  refine w_gfr (r := 3) rfl rfl (isT_lt h0) (gfT_0 h0) rfl ?_
  refine w_ldc rfl rfl ?_
  refine w_call1 [.ref 3, .ref (1000000 + 2 * 9)] [] (by omega) rfl rfl rfl rfl rfl rfl (Nat.le_of_ble_eq_true rfl) (fun _ => xrc_ok rfl) (Nat.le_of_ble_eq_true rfl) rfl rfl (s_cW_isWord (by omega) (Nat.le_of_ble_eq_true rfl)) (fun r1 m2 => ?_)
  refine w_if_eq (tg := 38) rfl rfl rfl ?_ ?_
  · refine w_aload_n rfl rfl ?_
    refine w_gfr (r := 3) rfl rfl (isT_lt h0) (gfT_0 h0) rfl ?_
    refine w_bipush rfl rfl ?_
    refine w_call1 [.ref 3, .int (i32 91)] [] (by omega) rfl rfl rfl rfl rfl rfl (Nat.le_of_ble_eq_true rfl) (fun _ => xrc_ok rfl) (Nat.le_of_ble_eq_true rfl) rfl rfl (s_cW_isSign (by omega)) (fun r3 m4 => ?_)
    refine w_if_eq (tg := 78) rfl rfl rfl ?_ ?_
    · refine w_aload_n rfl rfl ?_
      refine w_gfr (r := 3) rfl rfl (isT_lt h0) (gfT_0 h0) rfl ?_
      refine w_ldc rfl rfl ?_
      refine w_call1 [.ref 3, .ref (1000000 + 2 * 10)] [] (by omega) rfl rfl rfl rfl rfl rfl (Nat.le_of_ble_eq_true rfl) (fun _ => xrc_ok rfl) (Nat.le_of_ble_eq_true rfl) rfl rfl (s_cW_takeWord (by omega) (Nat.le_of_ble_eq_true rfl)) (fun r5 m6 => ?_)
      refine w_if_eq (tg := 100) rfl rfl rfl ?_ ?_
      · refine w_aload_n rfl rfl ?_
        refine w_aload_n rfl rfl ?_
        refine w_iload_n rfl rfl ?_
        refine w_call0 [.ref v0, .ref v1, .int (i32 v2)] [] (by omega) rfl rfl rfl rfl rfl rfl (Nat.le_of_ble_eq_true rfl) (fun _ => xrc_ok (rcT h0 rfl)) (Nat.le_of_ble_eq_true rfl) rfl rfl (hself3 v0 v1 v2 0 m6 h0 h1) (fun r7 m8 => ?_)
        refine w_aload_n rfl rfl ?_
        show xw _ _ _ _ 107 _ _ _ _
        refine w_call1 [.ref v0] [] (by omega) rfl rfl rfl rfl rfl rfl (Nat.le_of_ble_eq_true rfl) (fun _ => xrc_ok (rcT h0 rfl)) (Nat.le_of_ble_eq_true rfl) rfl rfl (s_cX_takeComparison (by omega) h0) (fun r9 m10 => ?_)
        refine w_istore_n (lsd := [(3, .int (i32 r9)), (0, .ref v0), (1, .ref v1), (2, .int (i32 v2))]) rfl (Nat.le_of_ble_eq_true rfl) rfl ?_
        refine w_aload_n rfl rfl ?_
        refine w_aload_n rfl rfl ?_
        refine w_iload_n rfl rfl ?_
        refine w_call0 [.ref v0, .ref v1, .int (i32 v2)] [] (by omega) rfl rfl rfl rfl rfl rfl (Nat.le_of_ble_eq_true rfl) (fun _ => xrc_ok (rcT h0 rfl)) (Nat.le_of_ble_eq_true rfl) rfl rfl (hself3 v0 v1 v2 0 m10 h0 h1) (fun r11 m12 => ?_)
        show xw _ _ _ _ 117 _ _ _ _
        refine w_aload_n rfl rfl ?_
        refine w_iload_n rfl rfl ?_
        refine w_call0 [.ref v1, .int (i32 r9)] [] (by omega) rfl rfl rfl rfl rfl rfl (Nat.le_of_ble_eq_true rfl) (fun _ => xrc_ok (rcC h1 rfl)) (Nat.le_of_ble_eq_true rfl) rfl rfl (s_cC_add (by omega) h1) (fun r13 m14 => ?_)
        exact w_retv (x := 0) rfl rfl
      · refine w_aload_n rfl rfl ?_
        refine w_sipush rfl rfl ?_
        refine w_call0 [.ref v1, .int (i32 10000)] [] (by omega) rfl rfl rfl rfl rfl rfl (Nat.le_of_ble_eq_true rfl) (fun _ => xrc_ok (rcC h1 rfl)) (Nat.le_of_ble_eq_true rfl) rfl rfl (s_cC_add (by omega) h1) (fun r15 m16 => ?_)
        refine w_goto (tg := 122) rfl rfl ?_
        exact w_retv (x := 0) rfl rfl
    · refine w_aload_n rfl rfl ?_
      refine w_iload_n rfl rfl ?_
      refine w_call1 [.ref v0, .int (i32 v2)] [] (by omega) rfl rfl rfl rfl rfl rfl (Nat.le_of_ble_eq_true rfl) (fun _ => xrc_ok (rcT h0 rfl)) (Nat.le_of_ble_eq_true rfl) rfl rfl (s_cX_opensOneMore (by omega) h0) (fun r17 m18 => ?_)
      refine w_if_eq (tg := 122) rfl rfl rfl ?_ ?_
      · exact w_retv (x := 0) rfl rfl
      · refine w_aload_n rfl rfl ?_
        refine w_aload_n rfl rfl ?_
        refine w_iload_n rfl rfl ?_
        refine w_iconst rfl ?_
        refine w_iadd rfl ?_
        show xw _ _ _ _ 63 _ _ _ _
        refine w_call0 [.ref v0, .ref v1, .int (i32 (v2 + 1))] [] (by omega) rfl rfl rfl rfl rfl rfl (Nat.le_of_ble_eq_true rfl) (fun _ => xrc_ok (rcT h0 rfl)) (Nat.le_of_ble_eq_true rfl) rfl rfl (hself0 v0 v1 (v2 + 1) 0 m18 h0 h1) (fun r19 m20 => ?_)
        refine w_aload_n rfl rfl ?_
        refine w_gfr (r := 3) rfl rfl (isT_lt h0) (gfT_0 h0) rfl ?_
        refine w_bipush rfl rfl ?_
        refine w_call0 [.ref 3, .int (i32 93)] [] (by omega) rfl rfl rfl rfl rfl rfl (Nat.le_of_ble_eq_true rfl) (fun _ => xrc_ok rfl) (Nat.le_of_ble_eq_true rfl) rfl rfl (s_cW_needSign (by omega)) (fun r21 m22 => ?_)
        refine w_goto (tg := 122) rfl rfl ?_
        show xw _ _ _ _ 122 _ _ _ _
        exact w_retv (x := 0) rfl rfl
  · refine w_aload_n rfl rfl ?_
    refine w_iload_n rfl rfl ?_
    refine w_call1 [.ref v0, .int (i32 v2)] [] (by omega) rfl rfl rfl rfl rfl rfl (Nat.le_of_ble_eq_true rfl) (fun _ => xrc_ok (rcT h0 rfl)) (Nat.le_of_ble_eq_true rfl) rfl rfl (s_cX_opensOneMore (by omega) h0) (fun r23 m24 => ?_)
    refine w_if_eq (tg := 122) rfl rfl rfl ?_ ?_
    · exact w_retv (x := 0) rfl rfl
    · refine w_aload_n rfl rfl ?_
      refine w_aload_n rfl rfl ?_
      refine w_iload_n rfl rfl ?_
      refine w_iconst rfl ?_
      refine w_iadd rfl ?_
      show xw _ _ _ _ 25 _ _ _ _
      refine w_call0 [.ref v0, .ref v1, .int (i32 (v2 + 1))] [] (by omega) rfl rfl rfl rfl rfl rfl (Nat.le_of_ble_eq_true rfl) (fun _ => xrc_ok (rcT h0 rfl)) (Nat.le_of_ble_eq_true rfl) rfl rfl (hself2 v0 v1 (v2 + 1) 0 m24 h0 h1) (fun r25 m26 => ?_)
      refine w_aload_n rfl rfl ?_
      refine w_sipush rfl rfl ?_
      refine w_call0 [.ref v1, .int (i32 10010)] [] (by omega) rfl rfl rfl rfl rfl rfl (Nat.le_of_ble_eq_true rfl) (fun _ => xrc_ok (rcC h1 rfl)) (Nat.le_of_ble_eq_true rfl) rfl rfl (s_cC_add (by omega) h1) (fun r27 m28 => ?_)
      refine w_goto (tg := 122) rfl rfl ?_
      exact w_retv (x := 0) rfl rfl
theorem s_cX_takeEither_36 {d : Nat} {v0 : Nat} (hd : 2 ≤ d) (h0 : isT v0) {s0 : Int} {m : xm} : xw (am_E L xs bz) d am_m114 1 36 [(0, .ref v0)] [.int (i32 s0)] m (cX_takeEither_36 v0 s0 m) := by
  unfold cX_takeEither_36
  refine w_letI (fun x1 => ?_)
  refine w_istore (lsd := [(5, .int (i32 x1)), (0, .ref v0)]) rfl (Nat.le_of_ble_eq_true rfl) rfl ?_
  refine w_iload rfl rfl ?_
  refine w_iconst rfl ?_
  refine w_icmp_eq (tg := 51) rfl rfl rfl rfl ?_ ?_
  · refine w_iload rfl rfl ?_
    exact w_retv rfl rfl
  · refine w_aload_n rfl rfl ?_
    refine w_gfr (r := 3) rfl rfl (isT_lt h0) (gfT_0 h0) rfl ?_
    refine w_call0 [.ref 3] [] (by omega) rfl rfl rfl rfl rfl rfl (Nat.le_of_ble_eq_true rfl) (fun _ => xrc_ok rfl) (Nat.le_of_ble_eq_true rfl) rfl rfl (s_cW_next (by omega)) (fun r2 m3 => ?_)
    refine w_iload rfl rfl ?_
    exact w_retv rfl rfl
theorem s_cX_takeEither_16 {d : Nat} {v0 : Nat} (hd : 2 ≤ d) (h0 : isT v0) {v3 : Int} {v4 : Int} {s0 : Int} {m : xm} : xw (am_E L xs bz) d am_m114 1 16 [(0, .ref v0), (3, .int (i32 v3)), (4, .int (i32 v4))] [.int (i32 s0)] m (cX_takeEither_16 v0 v3 v4 s0 m) := by
  unfold cX_takeEither_16
  refine w_letI (fun x1 => ?_)
  refine w_istore (lsd := [(5, .int (i32 x1)), (0, .ref v0), (3, .int (i32 v3)), (4, .int (i32 v4))]) rfl (Nat.le_of_ble_eq_true rfl) rfl ?_
  refine w_aload_n rfl rfl ?_
  refine w_gfr (r := 3) rfl rfl (isT_lt h0) (gfT_0 h0) rfl ?_
  refine w_iload_n rfl rfl ?_
  refine w_call1 [.ref 3, .int (i32 v3)] [] (by omega) rfl rfl rfl rfl rfl rfl (Nat.le_of_ble_eq_true rfl) (fun _ => xrc_ok rfl) (Nat.le_of_ble_eq_true rfl) rfl rfl (s_cW_isSign (by omega)) (fun r2 m3 => ?_)
  show xw _ _ _ _ 26 _ _ _ _
  refine w_if_eq (tg := 34) rfl rfl rfl ?_ ?_
  · refine w_iload rfl rfl ?_
    exact w_weak [(0, .ref v0)] rfl ⟨rfl, trivial⟩ (s_cX_takeEither_36 (by omega) h0)
  · refine w_iload rfl rfl ?_
    refine w_goto (tg := 36) rfl rfl ?_
    exact w_weak [(0, .ref v0)] rfl ⟨rfl, trivial⟩ (s_cX_takeEither_36 (by omega) h0)
theorem s_cX_takeEither {d : Nat} {v0 : Nat} {v1 : Int} {v2 : Int} {v3 : Int} {v4 : Int} {m : xm} (hd : 2 ≤ d) (h0 : isT v0) : xw (am_E L xs bz) d am_m114 1 0 [(0, .ref v0), (1, .int (i32 v1)), (2, .int (i32 v2)), (3, .int (i32 v3)), (4, .int (i32 v4))] [] m (cX_takeEither v0 v1 v2 v3 v4 m) := by
  unfold cX_takeEither
  refine w_aload_n rfl rfl ?_
  refine w_gfr (r := 3) rfl rfl (isT_lt h0) (gfT_0 h0) rfl ?_
  refine w_iload_n rfl rfl ?_
  refine w_call1 [.ref 3, .int (i32 v1)] [] (by omega) rfl rfl rfl rfl rfl rfl (Nat.le_of_ble_eq_true rfl) (fun _ => xrc_ok rfl) (Nat.le_of_ble_eq_true rfl) rfl rfl (s_cW_isSign (by omega)) (fun r1 m2 => ?_)
  refine w_if_eq (tg := 15) rfl rfl rfl ?_ ?_
  · refine w_iconst rfl ?_
    exact w_weak [(0, .ref v0), (3, .int (i32 v3)), (4, .int (i32 v4))] rfl ⟨rfl, rfl, rfl, trivial⟩ (s_cX_takeEither_16 (by omega) h0)
  · refine w_iload_n rfl rfl ?_
    refine w_goto (tg := 16) rfl rfl ?_
    exact w_weak [(0, .ref v0), (3, .int (i32 v3)), (4, .int (i32 v4))] rfl ⟨rfl, rfl, rfl, trivial⟩ (s_cX_takeEither_16 (by omega) h0)
theorem s_cX_readSum_8 {d : Nat} {self : Nat → Nat → Nat → Int → Int → xm → xr} {v0 : Nat} {v1 : Nat} (hd : 3 ≤ d) (hself0 : ∀ (t c : Nat) (o s : Int) (m : xm), isT t → isC c → xw (am_E L xs bz) (d - 1) am_m104 0 0 [(0, .ref t), (1, .ref c), (2, .int (i32 o))] [] m (self 0 t c o s m)) (hself1 : ∀ (t c : Nat) (o s : Int) (m : xm), isT t → isC c → xw (am_E L xs bz) (d - 1) am_m105 0 0 [(0, .ref t), (1, .ref c), (2, .int (i32 o))] [] m (self 1 t c o s m)) (hself2 : ∀ (t c : Nat) (o s : Int) (m : xm), isT t → isC c → xw (am_E L xs bz) (d - 1) am_m106 0 0 [(0, .ref t), (1, .ref c), (2, .int (i32 o))] [] m (self 2 t c o s m)) (hself3 : ∀ (t c : Nat) (o s : Int) (m : xm), isT t → isC c → xw (am_E L xs bz) (d - 1) am_m108 0 0 [(0, .ref t), (1, .ref c), (2, .int (i32 o))] [] m (self 3 t c o s m)) (hself4 : ∀ (t c : Nat) (o s : Int) (m : xm), isT t → isC c → xw (am_E L xs bz) (d - 1) am_m109 0 0 [(0, .ref t), (1, .ref c), (2, .int (i32 o))] [] m (self 4 t c o s m)) (hself5 : ∀ (t c : Nat) (o s : Int) (m : xm), isT t → isC c → xw (am_E L xs bz) (d - 1) am_m110 0 0 [(0, .ref t), (1, .ref c), (2, .int (i32 o))] [] m (self 5 t c o s m)) (hself6 : ∀ (t c : Nat) (o s : Int) (m : xm), isT t → isC c → xw (am_E L xs bz) (d - 1) am_m111 0 0 [(0, .ref t), (1, .ref c), (2, .int (i32 o)), (3, .int (i32 s))] [] m (self 6 t c o s m)) (hself7 : ∀ (t c : Nat) (o s : Int) (m : xm), isT t → isC c → xw (am_E L xs bz) (d - 1) am_m112 0 0 [(0, .ref t), (1, .ref c), (2, .int (i32 o)), (3, .int (i32 s))] [] m (self 7 t c o s m)) (h0 : isT v0) (h1 : isC v1) : ∀ (n : Nat) {v2 : Int} {v3 : Int} {m : xm}, xw (am_E L xs bz) d am_m108 0 8 [(0, .ref v0), (1, .ref v1), (2, .int (i32 v2)), (3, .int (i32 v3))] [] m (cX_readSum_8 self v0 v1 n v2 v3 m) := by
  intro n
  induction n with
  | zero => intros; exact w_none
  | succ n ih =>
    intro v2 v3 m
    have hk8 := fun (v2 v3 : Int) (m : xm) => @ih v2 v3 m
    unfold cX_readSum_8
    refine w_iload_n rfl rfl ?_
    refine w_sipush rfl rfl ?_
    refine w_icmp_ge (tg := 56) rfl rfl rfl rfl ?_ ?_
    · exact w_retv (x := 0) rfl rfl
    · refine w_aload_n rfl rfl ?_
      refine w_bipush rfl rfl ?_
      refine w_sipush rfl rfl ?_
      refine w_bipush rfl rfl ?_
      refine w_sipush rfl rfl ?_
      show xw _ _ _ _ 26 _ _ _ _
      refine w_call1 [.ref v0, .int (i32 43), .int (i32 10030), .int (i32 45), .int (i32 10031)] [] (by omega) rfl rfl rfl rfl rfl rfl (Nat.le_of_ble_eq_true rfl) (fun _ => xrc_ok (rcT h0 rfl)) (Nat.le_of_ble_eq_true rfl) rfl rfl (s_cX_takeEither (by omega) h0) (fun r1 m2 => ?_)
      refine w_istore (lsd := [(4, .int (i32 r1)), (0, .ref v0), (1, .ref v1), (2, .int (i32 v2)), (3, .int (i32 v3))]) rfl (Nat.le_of_ble_eq_true rfl) rfl ?_
      refine w_iload rfl rfl ?_
      refine w_iconst rfl ?_
      refine w_icmp_ne (tg := 38) rfl rfl rfl rfl ?_ ?_
      · refine w_aload_n rfl rfl ?_
        refine w_aload_n rfl rfl ?_
        refine w_iload_n rfl rfl ?_
        refine w_call0 [.ref v0, .ref v1, .int (i32 v2)] [] (by omega) rfl rfl rfl rfl rfl rfl (Nat.le_of_ble_eq_true rfl) (fun _ => xrc_ok (rcT h0 rfl)) (Nat.le_of_ble_eq_true rfl) rfl rfl (hself4 v0 v1 v2 0 m2 h0 h1) (fun r3 m4 => ?_)
        refine w_aload_n rfl rfl ?_
        show xw _ _ _ _ 45 _ _ _ _
        refine w_iload rfl rfl ?_
        refine w_call0 [.ref v1, .int (i32 r1)] [] (by omega) rfl rfl rfl rfl rfl rfl (Nat.le_of_ble_eq_true rfl) (fun _ => xrc_ok (rcC h1 rfl)) (Nat.le_of_ble_eq_true rfl) rfl rfl (s_cC_add (by omega) h1) (fun r5 m6 => ?_)
        refine w_iinc (lsd := [(3, .int (i32 (v3 + 1))), (4, .int (i32 r1)), (0, .ref v0), (1, .ref v1), (2, .int (i32 v2))]) rfl (Nat.le_of_ble_eq_true rfl) rfl rfl ?_
        refine w_goto (tg := 8) rfl rfl ?_
        exact w_weak [(0, .ref v0), (1, .ref v1), (2, .int (i32 v2)), (3, .int (i32 (v3 + 1)))] rfl ⟨rfl, rfl, rfl, rfl, trivial⟩ (hk8 v2 (v3 + 1) m6)
      · exact w_retv (x := 0) rfl rfl
theorem s_cX_readSum0 {d : Nat} {self : Nat → Nat → Nat → Int → Int → xm → xr} {v0 : Nat} {v1 : Nat} {v2 : Int} {m : xm} (hd : 3 ≤ d) (hself0 : ∀ (t c : Nat) (o s : Int) (m : xm), isT t → isC c → xw (am_E L xs bz) (d - 1) am_m104 0 0 [(0, .ref t), (1, .ref c), (2, .int (i32 o))] [] m (self 0 t c o s m)) (hself1 : ∀ (t c : Nat) (o s : Int) (m : xm), isT t → isC c → xw (am_E L xs bz) (d - 1) am_m105 0 0 [(0, .ref t), (1, .ref c), (2, .int (i32 o))] [] m (self 1 t c o s m)) (hself2 : ∀ (t c : Nat) (o s : Int) (m : xm), isT t → isC c → xw (am_E L xs bz) (d - 1) am_m106 0 0 [(0, .ref t), (1, .ref c), (2, .int (i32 o))] [] m (self 2 t c o s m)) (hself3 : ∀ (t c : Nat) (o s : Int) (m : xm), isT t → isC c → xw (am_E L xs bz) (d - 1) am_m108 0 0 [(0, .ref t), (1, .ref c), (2, .int (i32 o))] [] m (self 3 t c o s m)) (hself4 : ∀ (t c : Nat) (o s : Int) (m : xm), isT t → isC c → xw (am_E L xs bz) (d - 1) am_m109 0 0 [(0, .ref t), (1, .ref c), (2, .int (i32 o))] [] m (self 4 t c o s m)) (hself5 : ∀ (t c : Nat) (o s : Int) (m : xm), isT t → isC c → xw (am_E L xs bz) (d - 1) am_m110 0 0 [(0, .ref t), (1, .ref c), (2, .int (i32 o))] [] m (self 5 t c o s m)) (hself6 : ∀ (t c : Nat) (o s : Int) (m : xm), isT t → isC c → xw (am_E L xs bz) (d - 1) am_m111 0 0 [(0, .ref t), (1, .ref c), (2, .int (i32 o)), (3, .int (i32 s))] [] m (self 6 t c o s m)) (hself7 : ∀ (t c : Nat) (o s : Int) (m : xm), isT t → isC c → xw (am_E L xs bz) (d - 1) am_m112 0 0 [(0, .ref t), (1, .ref c), (2, .int (i32 o)), (3, .int (i32 s))] [] m (self 7 t c o s m)) (h0 : isT v0) (h1 : isC v1) : xw (am_E L xs bz) d am_m108 0 0 [(0, .ref v0), (1, .ref v1), (2, .int (i32 v2))] [] m (cX_readSum0 self v0 v1 v2 m) := by
  unfold cX_readSum0
  refine w_aload_n rfl rfl ?_
  refine w_aload_n rfl rfl ?_
  refine w_iload_n rfl rfl ?_
  refine w_call0 [.ref v0, .ref v1, .int (i32 v2)] [] (by omega) rfl rfl rfl rfl rfl rfl (Nat.le_of_ble_eq_true rfl) (fun _ => xrc_ok (rcT h0 rfl)) (Nat.le_of_ble_eq_true rfl) rfl rfl (hself4 v0 v1 v2 0 m h0 h1) (fun r1 m2 => ?_)
  refine w_iconst rfl ?_
  show xw _ _ _ _ 7 _ _ _ _
  refine w_istore_n (lsd := [(3, .int (i32 0)), (0, .ref v0), (1, .ref v1), (2, .int (i32 v2))]) rfl (Nat.le_of_ble_eq_true rfl) rfl ?_
  exact w_weak [(0, .ref v0), (1, .ref v1), (2, .int (i32 v2)), (3, .int (i32 0))] rfl ⟨rfl, rfl, rfl, rfl, trivial⟩ (s_cX_readSum_8 (by omega) hself0 hself1 hself2 hself3 hself4 hself5 hself6 hself7 h0 h1 _)
theorem s_cX_readProduct_8 {d : Nat} {self : Nat → Nat → Nat → Int → Int → xm → xr} {v0 : Nat} {v1 : Nat} (hd : 3 ≤ d) (hself0 : ∀ (t c : Nat) (o s : Int) (m : xm), isT t → isC c → xw (am_E L xs bz) (d - 1) am_m104 0 0 [(0, .ref t), (1, .ref c), (2, .int (i32 o))] [] m (self 0 t c o s m)) (hself1 : ∀ (t c : Nat) (o s : Int) (m : xm), isT t → isC c → xw (am_E L xs bz) (d - 1) am_m105 0 0 [(0, .ref t), (1, .ref c), (2, .int (i32 o))] [] m (self 1 t c o s m)) (hself2 : ∀ (t c : Nat) (o s : Int) (m : xm), isT t → isC c → xw (am_E L xs bz) (d - 1) am_m106 0 0 [(0, .ref t), (1, .ref c), (2, .int (i32 o))] [] m (self 2 t c o s m)) (hself3 : ∀ (t c : Nat) (o s : Int) (m : xm), isT t → isC c → xw (am_E L xs bz) (d - 1) am_m108 0 0 [(0, .ref t), (1, .ref c), (2, .int (i32 o))] [] m (self 3 t c o s m)) (hself4 : ∀ (t c : Nat) (o s : Int) (m : xm), isT t → isC c → xw (am_E L xs bz) (d - 1) am_m109 0 0 [(0, .ref t), (1, .ref c), (2, .int (i32 o))] [] m (self 4 t c o s m)) (hself5 : ∀ (t c : Nat) (o s : Int) (m : xm), isT t → isC c → xw (am_E L xs bz) (d - 1) am_m110 0 0 [(0, .ref t), (1, .ref c), (2, .int (i32 o))] [] m (self 5 t c o s m)) (hself6 : ∀ (t c : Nat) (o s : Int) (m : xm), isT t → isC c → xw (am_E L xs bz) (d - 1) am_m111 0 0 [(0, .ref t), (1, .ref c), (2, .int (i32 o)), (3, .int (i32 s))] [] m (self 6 t c o s m)) (hself7 : ∀ (t c : Nat) (o s : Int) (m : xm), isT t → isC c → xw (am_E L xs bz) (d - 1) am_m112 0 0 [(0, .ref t), (1, .ref c), (2, .int (i32 o)), (3, .int (i32 s))] [] m (self 7 t c o s m)) (h0 : isT v0) (h1 : isC v1) : ∀ (n : Nat) {v2 : Int} {v3 : Int} {m : xm}, xw (am_E L xs bz) d am_m109 0 8 [(0, .ref v0), (1, .ref v1), (2, .int (i32 v2)), (3, .int (i32 v3))] [] m (cX_readProduct_8 self v0 v1 n v2 v3 m) := by
  intro n
  induction n with
  | zero => intros; exact w_none
  | succ n ih =>
    intro v2 v3 m
    have hk8 := fun (v2 v3 : Int) (m : xm) => @ih v2 v3 m
    unfold cX_readProduct_8
    refine w_iload_n rfl rfl ?_
    refine w_sipush rfl rfl ?_
    refine w_icmp_ge (tg := 56) rfl rfl rfl rfl ?_ ?_
    · exact w_retv (x := 0) rfl rfl
    · refine w_aload_n rfl rfl ?_
      refine w_bipush rfl rfl ?_
      refine w_sipush rfl rfl ?_
      refine w_bipush rfl rfl ?_
      refine w_sipush rfl rfl ?_
      show xw _ _ _ _ 26 _ _ _ _
      refine w_call1 [.ref v0, .int (i32 42), .int (i32 10032), .int (i32 47), .int (i32 10033)] [] (by omega) rfl rfl rfl rfl rfl rfl (Nat.le_of_ble_eq_true rfl) (fun _ => xrc_ok (rcT h0 rfl)) (Nat.le_of_ble_eq_true rfl) rfl rfl (s_cX_takeEither (by omega) h0) (fun r1 m2 => ?_)
      refine w_istore (lsd := [(4, .int (i32 r1)), (0, .ref v0), (1, .ref v1), (2, .int (i32 v2)), (3, .int (i32 v3))]) rfl (Nat.le_of_ble_eq_true rfl) rfl ?_
      refine w_iload rfl rfl ?_
      refine w_iconst rfl ?_
      refine w_icmp_ne (tg := 38) rfl rfl rfl rfl ?_ ?_
      · refine w_aload_n rfl rfl ?_
        refine w_aload_n rfl rfl ?_
        refine w_iload_n rfl rfl ?_
        refine w_call0 [.ref v0, .ref v1, .int (i32 v2)] [] (by omega) rfl rfl rfl rfl rfl rfl (Nat.le_of_ble_eq_true rfl) (fun _ => xrc_ok (rcT h0 rfl)) (Nat.le_of_ble_eq_true rfl) rfl rfl (hself5 v0 v1 v2 0 m2 h0 h1) (fun r3 m4 => ?_)
        refine w_aload_n rfl rfl ?_
        show xw _ _ _ _ 45 _ _ _ _
        refine w_iload rfl rfl ?_
        refine w_call0 [.ref v1, .int (i32 r1)] [] (by omega) rfl rfl rfl rfl rfl rfl (Nat.le_of_ble_eq_true rfl) (fun _ => xrc_ok (rcC h1 rfl)) (Nat.le_of_ble_eq_true rfl) rfl rfl (s_cC_add (by omega) h1) (fun r5 m6 => ?_)
        refine w_iinc (lsd := [(3, .int (i32 (v3 + 1))), (4, .int (i32 r1)), (0, .ref v0), (1, .ref v1), (2, .int (i32 v2))]) rfl (Nat.le_of_ble_eq_true rfl) rfl rfl ?_
        refine w_goto (tg := 8) rfl rfl ?_
        exact w_weak [(0, .ref v0), (1, .ref v1), (2, .int (i32 v2)), (3, .int (i32 (v3 + 1)))] rfl ⟨rfl, rfl, rfl, rfl, trivial⟩ (hk8 v2 (v3 + 1) m6)
      · exact w_retv (x := 0) rfl rfl
theorem s_cX_readProduct0 {d : Nat} {self : Nat → Nat → Nat → Int → Int → xm → xr} {v0 : Nat} {v1 : Nat} {v2 : Int} {m : xm} (hd : 3 ≤ d) (hself0 : ∀ (t c : Nat) (o s : Int) (m : xm), isT t → isC c → xw (am_E L xs bz) (d - 1) am_m104 0 0 [(0, .ref t), (1, .ref c), (2, .int (i32 o))] [] m (self 0 t c o s m)) (hself1 : ∀ (t c : Nat) (o s : Int) (m : xm), isT t → isC c → xw (am_E L xs bz) (d - 1) am_m105 0 0 [(0, .ref t), (1, .ref c), (2, .int (i32 o))] [] m (self 1 t c o s m)) (hself2 : ∀ (t c : Nat) (o s : Int) (m : xm), isT t → isC c → xw (am_E L xs bz) (d - 1) am_m106 0 0 [(0, .ref t), (1, .ref c), (2, .int (i32 o))] [] m (self 2 t c o s m)) (hself3 : ∀ (t c : Nat) (o s : Int) (m : xm), isT t → isC c → xw (am_E L xs bz) (d - 1) am_m108 0 0 [(0, .ref t), (1, .ref c), (2, .int (i32 o))] [] m (self 3 t c o s m)) (hself4 : ∀ (t c : Nat) (o s : Int) (m : xm), isT t → isC c → xw (am_E L xs bz) (d - 1) am_m109 0 0 [(0, .ref t), (1, .ref c), (2, .int (i32 o))] [] m (self 4 t c o s m)) (hself5 : ∀ (t c : Nat) (o s : Int) (m : xm), isT t → isC c → xw (am_E L xs bz) (d - 1) am_m110 0 0 [(0, .ref t), (1, .ref c), (2, .int (i32 o))] [] m (self 5 t c o s m)) (hself6 : ∀ (t c : Nat) (o s : Int) (m : xm), isT t → isC c → xw (am_E L xs bz) (d - 1) am_m111 0 0 [(0, .ref t), (1, .ref c), (2, .int (i32 o)), (3, .int (i32 s))] [] m (self 6 t c o s m)) (hself7 : ∀ (t c : Nat) (o s : Int) (m : xm), isT t → isC c → xw (am_E L xs bz) (d - 1) am_m112 0 0 [(0, .ref t), (1, .ref c), (2, .int (i32 o)), (3, .int (i32 s))] [] m (self 7 t c o s m)) (h0 : isT v0) (h1 : isC v1) : xw (am_E L xs bz) d am_m109 0 0 [(0, .ref v0), (1, .ref v1), (2, .int (i32 v2))] [] m (cX_readProduct0 self v0 v1 v2 m) := by
  unfold cX_readProduct0
  refine w_aload_n rfl rfl ?_
  refine w_aload_n rfl rfl ?_
  refine w_iload_n rfl rfl ?_
  refine w_call0 [.ref v0, .ref v1, .int (i32 v2)] [] (by omega) rfl rfl rfl rfl rfl rfl (Nat.le_of_ble_eq_true rfl) (fun _ => xrc_ok (rcT h0 rfl)) (Nat.le_of_ble_eq_true rfl) rfl rfl (hself5 v0 v1 v2 0 m h0 h1) (fun r1 m2 => ?_)
  refine w_iconst rfl ?_
  show xw _ _ _ _ 7 _ _ _ _
  refine w_istore_n (lsd := [(3, .int (i32 0)), (0, .ref v0), (1, .ref v1), (2, .int (i32 v2))]) rfl (Nat.le_of_ble_eq_true rfl) rfl ?_
  exact w_weak [(0, .ref v0), (1, .ref v1), (2, .int (i32 v2)), (3, .int (i32 0))] rfl ⟨rfl, rfl, rfl, rfl, trivial⟩ (s_cX_readProduct_8 (by omega) hself0 hself1 hself2 hself3 hself4 hself5 hself6 hself7 h0 h1 _)
theorem s_cW_isAnyNumber {d : Nat} {m : xm} (hd : 0 ≤ d) : xw (am_E L xs bz) d am_m134 1 0 [(0, .ref 3)] [] m (cW_isAnyNumber m) := by
  unfold cW_isAnyNumber
  refine w_aload_n rfl rfl ?_
  refine w_gfi rfl rfl (Nat.le_of_ble_eq_true rfl) rfl rfl ?_
  refine w_iconst rfl ?_
  refine w_icmp_ne (tg := 12) rfl rfl (w32_ld _ _ _) rfl ?_ ?_
  · refine w_iconst rfl ?_
    exact w_retv rfl rfl
  · refine w_iconst rfl ?_
    refine w_goto (tg := 13) rfl rfl ?_
    exact w_retv rfl rfl
theorem s_cX_leafHere {d : Nat} {v0 : Nat} {m : xm} (hd : 8 ≤ d) (h0 : isT v0) : xw (am_E L xs bz) d am_m113 1 0 [(0, .ref v0)] [] m (cX_leafHere v0 m) := by
  unfold cX_leafHere
  refine w_aload_n rfl rfl ?_
  refine w_gfr (r := 3) rfl rfl (isT_lt h0) (gfT_0 h0) rfl ?_
  refine w_ldc rfl rfl ?_
  refine w_call1 [.ref 3, .ref (1000000 + 2 * 15)] [] (by omega) rfl rfl rfl rfl rfl rfl (Nat.le_of_ble_eq_true rfl) (fun _ => xrc_ok rfl) (Nat.le_of_ble_eq_true rfl) rfl rfl (s_cW_isWord (by omega) (Nat.le_of_ble_eq_true rfl)) (fun r1 m2 => ?_)
  refine w_if_eq (tg := 16) rfl rfl rfl ?_ ?_
  · refine w_aload_n rfl rfl ?_
    refine w_gfc rfl rfl (isT_lt h0) (gfT_1 h0) ?_
    refine w_if_ne (tg := 25) rfl rfl (w32_tol _) ?_ ?_
    · refine w_aload_n rfl rfl ?_
      refine w_gfr (r := 3) rfl rfl (isT_lt h0) (gfT_0 h0) rfl ?_
      refine w_ldc rfl rfl ?_
      refine w_call1 [.ref 3, .ref (1000000 + 2 * 16)] [] (by omega) rfl rfl rfl rfl rfl rfl (Nat.le_of_ble_eq_true rfl) (fun _ => xrc_ok rfl) (Nat.le_of_ble_eq_true rfl) rfl rfl (s_cW_isWord (by omega) (Nat.le_of_ble_eq_true rfl)) (fun r3 m4 => ?_)
      refine w_if_eq (tg := 41) rfl rfl rfl ?_ ?_
      · refine w_aload_n rfl rfl ?_
        refine w_gfr (r := 3) rfl rfl (isT_lt h0) (gfT_0 h0) rfl ?_
        refine w_ldc rfl rfl ?_
        refine w_call1 [.ref 3, .ref (1000000 + 2 * 17)] [] (by omega) rfl rfl rfl rfl rfl rfl (Nat.le_of_ble_eq_true rfl) (fun _ => xrc_ok rfl) (Nat.le_of_ble_eq_true rfl) rfl rfl (s_cW_isWord (by omega) (Nat.le_of_ble_eq_true rfl)) (fun r5 m6 => ?_)
        refine w_if_eq (tg := 57) rfl rfl rfl ?_ ?_
        · refine w_aload_n rfl rfl ?_
          refine w_gfr (r := 3) rfl rfl (isT_lt h0) (gfT_0 h0) rfl ?_
          refine w_ldc rfl rfl ?_
          refine w_call1 [.ref 3, .ref (1000000 + 2 * 18)] [] (by omega) rfl rfl rfl rfl rfl rfl (Nat.le_of_ble_eq_true rfl) (fun _ => xrc_ok rfl) (Nat.le_of_ble_eq_true rfl) rfl rfl (s_cW_isWord (by omega) (Nat.le_of_ble_eq_true rfl)) (fun r7 m8 => ?_)
          refine w_if_eq (tg := 73) rfl rfl rfl ?_ ?_
          · refine w_aload_n rfl rfl ?_
            refine w_gfr (r := 3) rfl rfl (isT_lt h0) (gfT_0 h0) rfl ?_
            refine w_ldc rfl rfl ?_
            refine w_call1 [.ref 3, .ref (1000000 + 2 * 19)] [] (by omega) rfl rfl rfl rfl rfl rfl (Nat.le_of_ble_eq_true rfl) (fun _ => xrc_ok rfl) (Nat.le_of_ble_eq_true rfl) rfl rfl (s_cW_isWord (by omega) (Nat.le_of_ble_eq_true rfl)) (fun r9 m10 => ?_)
            refine w_if_eq (tg := 91) rfl rfl rfl ?_ ?_
            · refine w_iconst rfl ?_
              exact w_retv rfl rfl
            · refine w_sipush rfl rfl ?_
              refine w_goto (tg := 92) rfl rfl ?_
              exact w_retv rfl rfl
          · refine w_sipush rfl rfl ?_
            exact w_retv rfl rfl
        · refine w_sipush rfl rfl ?_
          exact w_retv rfl rfl
      · refine w_sipush rfl rfl ?_
        exact w_retv rfl rfl
    · refine w_iconst rfl ?_
      exact w_retv rfl rfl
  · refine w_sipush rfl rfl ?_
    exact w_retv rfl rfl
theorem s_cW_needNumber_92 {d : Nat} (hd : 2 ≤ d) {v1 : Int} {m : xm} : xw (am_E L xs bz) d am_m129 1 92 [(0, .ref 3), (1, .int (i32 v1))] [] m (cW_needNumber_92 v1 m) := by
  unfold cW_needNumber_92
  refine w_aload_n rfl rfl ?_
  refine w_iconst rfl ?_
  refine w_call0 [.ref 3, .int (i32 2)] [] (by omega) rfl rfl rfl rfl rfl rfl (Nat.le_of_ble_eq_true rfl) (fun _ => xrc_ok rfl) (Nat.le_of_ble_eq_true rfl) rfl rfl (s_cW_failHere (by omega)) (fun r1 m2 => ?_)
  refine w_iload_n rfl rfl ?_
  exact w_retv rfl rfl
theorem s_cW_needNumber_82 {d : Nat} (hd : 2 ≤ d) {v1 : Int} {v2 : Int} {v3 : Int} {m : xm} : xw (am_E L xs bz) d am_m129 1 82 [(0, .ref 3), (1, .int (i32 v1)), (2, .int (i32 v2)), (3, .int (i32 v3))] [] m (cW_needNumber_82 v1 v2 v3 m) := by
  unfold cW_needNumber_82
  refine w_iload_n rfl rfl ?_
  refine w_iload_n rfl rfl ?_
  refine w_icmp_lt (tg := 92) rfl rfl rfl rfl ?_ ?_
  · exact w_weak [(0, .ref 3), (1, .int (i32 v1))] rfl ⟨rfl, rfl, trivial⟩ (s_cW_needNumber_92 (by omega))
  · refine w_iload_n rfl rfl ?_
    refine w_iload_n rfl rfl ?_
    refine w_icmp_le (tg := 99) rfl rfl rfl rfl ?_ ?_
    · refine w_aload_n rfl rfl ?_
      refine w_call0 [.ref 3] [] (by omega) rfl rfl rfl rfl rfl rfl (Nat.le_of_ble_eq_true rfl) (fun _ => xrc_ok rfl) (Nat.le_of_ble_eq_true rfl) rfl rfl (s_cW_next (by omega)) (fun r1 m2 => ?_)
      refine w_iload_n rfl rfl ?_
      exact w_retv rfl rfl
    · exact w_weak [(0, .ref 3), (1, .int (i32 v1))] rfl ⟨rfl, rfl, trivial⟩ (s_cW_needNumber_92 (by omega))
theorem s_cW_needNumber_49 {d : Nat} (hd : 2 ≤ d) : ∀ (n : Nat) {v1 : Int} {v2 : Int} {v3 : Int} {v4 : Int} {m : xm}, xw (am_E L xs bz) d am_m129 1 49 [(0, .ref 3), (1, .int (i32 v1)), (2, .int (i32 v2)), (3, .int (i32 v3)), (4, .int (i32 v4))] [] m (cW_needNumber_49 n v1 v2 v3 v4 m) := by
  intro n
  induction n with
  | zero => intros; exact w_none
  | succ n ih =>
    intro v1 v2 v3 v4 m
    have hk49 := fun (v1 v2 v3 v4 : Int) (m : xm) => @ih v1 v2 v3 v4 m
    unfold cW_needNumber_49
    refine w_iload rfl rfl ?_
    refine w_aload_n rfl rfl ?_
    refine w_gfi rfl rfl (Nat.le_of_ble_eq_true rfl) rfl rfl ?_
    refine w_icmp_ge (tg := 82) rfl rfl rfl (w32_ld _ _ _) ?_ ?_
    · exact w_weak [(0, .ref 3), (1, .int (i32 v1)), (2, .int (i32 v2)), (3, .int (i32 v3))] rfl ⟨rfl, rfl, rfl, rfl, trivial⟩ (s_cW_needNumber_82 (by omega))
    · refine w_bipush rfl rfl ?_
      refine w_iload_n rfl rfl ?_
      refine w_imul rfl ?_
      refine w_aload_n rfl rfl ?_
      refine w_gfr (r := 1) rfl rfl (Nat.le_of_ble_eq_true rfl) rfl rfl ?_
      show xw _ _ _ _ 66 _ _ _ _
      refine w_iload rfl rfl ?_
      refine w_call1 [.ref 1, .int (i32 v4)] [.int (i32 (10 * v3))] (by omega) rfl rfl rfl rfl rfl rfl (Nat.le_of_ble_eq_true rfl) (fun _ => xrc_ok rfl) (Nat.le_of_ble_eq_true rfl) rfl rfl (s_cT_byteAt (by omega)) (fun r1 m2 => ?_)
      refine w_iadd rfl ?_
      refine w_bipush rfl rfl ?_
      refine w_isub rfl ?_
      refine w_letI (fun x3 => ?_)
      refine w_istore_n (lsd := [(3, .int (i32 x3)), (0, .ref 3), (1, .int (i32 v1)), (2, .int (i32 v2)), (4, .int (i32 v4))]) rfl (Nat.le_of_ble_eq_true rfl) rfl ?_
      show xw _ _ _ _ 76 _ _ _ _
      refine w_iinc (lsd := [(4, .int (i32 (v4 + 1))), (3, .int (i32 x3)), (0, .ref 3), (1, .int (i32 v1)), (2, .int (i32 v2))]) rfl (Nat.le_of_ble_eq_true rfl) rfl rfl ?_
      refine w_goto (tg := 49) rfl rfl ?_
      exact w_weak [(0, .ref 3), (1, .int (i32 v1)), (2, .int (i32 v2)), (3, .int (i32 x3)), (4, .int (i32 (v4 + 1)))] rfl ⟨rfl, rfl, rfl, rfl, rfl, trivial⟩ (hk49 v1 v2 x3 (v4 + 1) m2)
theorem s_cW_needNumber {d : Nat} {v1 : Int} {v2 : Int} {m : xm} (hd : 2 ≤ d) : xw (am_E L xs bz) d am_m129 1 0 [(0, .ref 3), (1, .int (i32 v1)), (2, .int (i32 v2))] [] m (cW_needNumber v1 v2 m) := by
  unfold cW_needNumber
  refine w_aload_n rfl rfl ?_
  refine w_gfi rfl rfl (Nat.le_of_ble_eq_true rfl) rfl rfl ?_
  refine w_iconst rfl ?_
  refine w_icmp_eq (tg := 15) rfl rfl (w32_ld _ _ _) rfl ?_ ?_
  · refine w_aload_n rfl rfl ?_
    refine w_gfi rfl rfl (Nat.le_of_ble_eq_true rfl) rfl rfl ?_
    refine w_aload_n rfl rfl ?_
    refine w_gfi rfl rfl (Nat.le_of_ble_eq_true rfl) rfl rfl ?_
    refine w_isub rfl ?_
    show xw _ _ _ _ 24 _ _ _ _
    refine w_iconst rfl ?_
    refine w_icmp_le (tg := 41) rfl rfl rfl rfl ?_ ?_
    · refine w_iconst rfl ?_
      refine w_istore_n (lsd := [(3, .int (i32 0)), (0, .ref 3), (1, .int (i32 v1)), (2, .int (i32 v2))]) rfl (Nat.le_of_ble_eq_true rfl) rfl ?_
      refine w_aload_n rfl rfl ?_
      refine w_gfi rfl rfl (Nat.le_of_ble_eq_true rfl) rfl rfl ?_
      refine w_istore (lsd := [(4, .int (i32 (ld m 3 2))), (3, .int (i32 0)), (0, .ref 3), (1, .int (i32 v1)), (2, .int (i32 v2))]) rfl (Nat.le_of_ble_eq_true rfl) rfl ?_
      exact w_weak [(0, .ref 3), (1, .int (i32 v1)), (2, .int (i32 v2)), (3, .int (i32 0)), (4, .int (i32 (ld m 3 2)))] rfl ⟨rfl, rfl, rfl, rfl, rfl, trivial⟩ (s_cW_needNumber_49 (by omega) _)
    · refine w_aload_n rfl rfl ?_
      refine w_iconst rfl ?_
      refine w_aload_n rfl rfl ?_
      refine w_gfi rfl rfl (Nat.le_of_ble_eq_true rfl) rfl rfl ?_
      refine w_iconst rfl ?_
      show xw _ _ _ _ 35 _ _ _ _
      refine w_iadd rfl ?_
      refine w_call0 [.ref 3, .int (i32 1), .int (i32 ((ld m 3 2) + 4))] [] (by omega) rfl rfl rfl rfl rfl rfl (Nat.le_of_ble_eq_true rfl) (fun _ => xrc_ok rfl) (Nat.le_of_ble_eq_true rfl) rfl rfl (s_cW_fail (by omega)) (fun r1 m2 => ?_)
      refine w_iload_n rfl rfl ?_
      exact w_retv rfl rfl
  · refine w_aload_n rfl rfl ?_
    refine w_iconst rfl ?_
    refine w_call0 [.ref 3, .int (i32 1)] [] (by omega) rfl rfl rfl rfl rfl rfl (Nat.le_of_ble_eq_true rfl) (fun _ => xrc_ok rfl) (Nat.le_of_ble_eq_true rfl) rfl rfl (s_cW_failHere (by omega)) (fun r3 m4 => ?_)
    refine w_iload_n rfl rfl ?_
    exact w_retv rfl rfl
theorem s_cX_readPart_189 {d : Nat} {self : Nat → Nat → Nat → Int → Int → xm → xr} {v0 : Nat} {v1 : Nat} (hd : 9 ≤ d) (hself0 : ∀ (t c : Nat) (o s : Int) (m : xm), isT t → isC c → xw (am_E L xs bz) (d - 1) am_m104 0 0 [(0, .ref t), (1, .ref c), (2, .int (i32 o))] [] m (self 0 t c o s m)) (hself1 : ∀ (t c : Nat) (o s : Int) (m : xm), isT t → isC c → xw (am_E L xs bz) (d - 1) am_m105 0 0 [(0, .ref t), (1, .ref c), (2, .int (i32 o))] [] m (self 1 t c o s m)) (hself2 : ∀ (t c : Nat) (o s : Int) (m : xm), isT t → isC c → xw (am_E L xs bz) (d - 1) am_m106 0 0 [(0, .ref t), (1, .ref c), (2, .int (i32 o))] [] m (self 2 t c o s m)) (hself3 : ∀ (t c : Nat) (o s : Int) (m : xm), isT t → isC c → xw (am_E L xs bz) (d - 1) am_m108 0 0 [(0, .ref t), (1, .ref c), (2, .int (i32 o))] [] m (self 3 t c o s m)) (hself4 : ∀ (t c : Nat) (o s : Int) (m : xm), isT t → isC c → xw (am_E L xs bz) (d - 1) am_m109 0 0 [(0, .ref t), (1, .ref c), (2, .int (i32 o))] [] m (self 4 t c o s m)) (hself5 : ∀ (t c : Nat) (o s : Int) (m : xm), isT t → isC c → xw (am_E L xs bz) (d - 1) am_m110 0 0 [(0, .ref t), (1, .ref c), (2, .int (i32 o))] [] m (self 5 t c o s m)) (hself6 : ∀ (t c : Nat) (o s : Int) (m : xm), isT t → isC c → xw (am_E L xs bz) (d - 1) am_m111 0 0 [(0, .ref t), (1, .ref c), (2, .int (i32 o)), (3, .int (i32 s))] [] m (self 6 t c o s m)) (hself7 : ∀ (t c : Nat) (o s : Int) (m : xm), isT t → isC c → xw (am_E L xs bz) (d - 1) am_m112 0 0 [(0, .ref t), (1, .ref c), (2, .int (i32 o)), (3, .int (i32 s))] [] m (self 7 t c o s m)) (h0 : isT v0) (h1 : isC v1) {v3 : Int} {m : xm} : xw (am_E L xs bz) d am_m110 0 189 [(0, .ref v0), (1, .ref v1), (3, .int (i32 v3))] [] m (cX_readPart_189 self v0 v1 v3 m) := by
  unfold cX_readPart_189
  refine w_aload_n rfl rfl ?_
  refine w_gfr (r := 3) rfl rfl (isT_lt h0) (gfT_0 h0) rfl ?_
  refine w_call0 [.ref 3] [] (by omega) rfl rfl rfl rfl rfl rfl (Nat.le_of_ble_eq_true rfl) (fun _ => xrc_ok rfl) (Nat.le_of_ble_eq_true rfl) rfl rfl (s_cW_next (by omega)) (fun r1 m2 => ?_)
  refine w_aload_n rfl rfl ?_
  refine w_iload_n rfl rfl ?_
  show xw _ _ _ _ 198 _ _ _ _
  refine w_call0 [.ref v1, .int (i32 v3)] [] (by omega) rfl rfl rfl rfl rfl rfl (Nat.le_of_ble_eq_true rfl) (fun _ => xrc_ok (rcC h1 rfl)) (Nat.le_of_ble_eq_true rfl) rfl rfl (s_cC_add (by omega) h1) (fun r3 m4 => ?_)
  exact w_retv (x := 0) rfl rfl
theorem s_cX_readPart_171 {d : Nat} {self : Nat → Nat → Nat → Int → Int → xm → xr} {v0 : Nat} {v1 : Nat} (hd : 9 ≤ d) (hself0 : ∀ (t c : Nat) (o s : Int) (m : xm), isT t → isC c → xw (am_E L xs bz) (d - 1) am_m104 0 0 [(0, .ref t), (1, .ref c), (2, .int (i32 o))] [] m (self 0 t c o s m)) (hself1 : ∀ (t c : Nat) (o s : Int) (m : xm), isT t → isC c → xw (am_E L xs bz) (d - 1) am_m105 0 0 [(0, .ref t), (1, .ref c), (2, .int (i32 o))] [] m (self 1 t c o s m)) (hself2 : ∀ (t c : Nat) (o s : Int) (m : xm), isT t → isC c → xw (am_E L xs bz) (d - 1) am_m106 0 0 [(0, .ref t), (1, .ref c), (2, .int (i32 o))] [] m (self 2 t c o s m)) (hself3 : ∀ (t c : Nat) (o s : Int) (m : xm), isT t → isC c → xw (am_E L xs bz) (d - 1) am_m108 0 0 [(0, .ref t), (1, .ref c), (2, .int (i32 o))] [] m (self 3 t c o s m)) (hself4 : ∀ (t c : Nat) (o s : Int) (m : xm), isT t → isC c → xw (am_E L xs bz) (d - 1) am_m109 0 0 [(0, .ref t), (1, .ref c), (2, .int (i32 o))] [] m (self 4 t c o s m)) (hself5 : ∀ (t c : Nat) (o s : Int) (m : xm), isT t → isC c → xw (am_E L xs bz) (d - 1) am_m110 0 0 [(0, .ref t), (1, .ref c), (2, .int (i32 o))] [] m (self 5 t c o s m)) (hself6 : ∀ (t c : Nat) (o s : Int) (m : xm), isT t → isC c → xw (am_E L xs bz) (d - 1) am_m111 0 0 [(0, .ref t), (1, .ref c), (2, .int (i32 o)), (3, .int (i32 s))] [] m (self 6 t c o s m)) (hself7 : ∀ (t c : Nat) (o s : Int) (m : xm), isT t → isC c → xw (am_E L xs bz) (d - 1) am_m112 0 0 [(0, .ref t), (1, .ref c), (2, .int (i32 o)), (3, .int (i32 s))] [] m (self 7 t c o s m)) (h0 : isT v0) (h1 : isC v1) {m : xm} : xw (am_E L xs bz) d am_m110 0 171 [(0, .ref v0), (1, .ref v1)] [] m (cX_readPart_171 self v0 v1 m) := by
  unfold cX_readPart_171
  refine w_aload_n rfl rfl ?_
  refine w_call1 [.ref v0] [] (by omega) rfl rfl rfl rfl rfl rfl (Nat.le_of_ble_eq_true rfl) (fun _ => xrc_ok (rcT h0 rfl)) (Nat.le_of_ble_eq_true rfl) rfl rfl (s_cX_leafHere (by omega) h0) (fun r1 m2 => ?_)
  refine w_istore_n (lsd := [(3, .int (i32 r1)), (0, .ref v0), (1, .ref v1)]) rfl (Nat.le_of_ble_eq_true rfl) rfl ?_
  refine w_iload_n rfl rfl ?_
  refine w_iconst rfl ?_
  show xw _ _ _ _ 178 _ _ _ _
  refine w_icmp_ne (tg := 189) rfl rfl rfl rfl ?_ ?_
  · exact w_weak [(0, .ref v0), (1, .ref v1), (3, .int (i32 r1))] rfl ⟨rfl, rfl, rfl, trivial⟩ (s_cX_readPart_189 (by omega) hself0 hself1 hself2 hself3 hself4 hself5 hself6 hself7 h0 h1)
  · refine w_aload_n rfl rfl ?_
    refine w_gfr (r := 3) rfl rfl (isT_lt h0) (gfT_0 h0) rfl ?_
    refine w_iconst rfl ?_
    refine w_call0 [.ref 3, .int (i32 1)] [] (by omega) rfl rfl rfl rfl rfl rfl (Nat.le_of_ble_eq_true rfl) (fun _ => xrc_ok rfl) (Nat.le_of_ble_eq_true rfl) rfl rfl (s_cW_failHere (by omega)) (fun r3 m4 => ?_)
    exact w_weak [(0, .ref v0), (1, .ref v1), (3, .int (i32 r1))] rfl ⟨rfl, rfl, rfl, trivial⟩ (s_cX_readPart_189 (by omega) hself0 hself1 hself2 hself3 hself4 hself5 hself6 hself7 h0 h1)
theorem s_cX_readPart0 {d : Nat} {self : Nat → Nat → Nat → Int → Int → xm → xr} {v0 : Nat} {v1 : Nat} {v2 : Int} {m : xm} (hd : 9 ≤ d) (hself0 : ∀ (t c : Nat) (o s : Int) (m : xm), isT t → isC c → xw (am_E L xs bz) (d - 1) am_m104 0 0 [(0, .ref t), (1, .ref c), (2, .int (i32 o))] [] m (self 0 t c o s m)) (hself1 : ∀ (t c : Nat) (o s : Int) (m : xm), isT t → isC c → xw (am_E L xs bz) (d - 1) am_m105 0 0 [(0, .ref t), (1, .ref c), (2, .int (i32 o))] [] m (self 1 t c o s m)) (hself2 : ∀ (t c : Nat) (o s : Int) (m : xm), isT t → isC c → xw (am_E L xs bz) (d - 1) am_m106 0 0 [(0, .ref t), (1, .ref c), (2, .int (i32 o))] [] m (self 2 t c o s m)) (hself3 : ∀ (t c : Nat) (o s : Int) (m : xm), isT t → isC c → xw (am_E L xs bz) (d - 1) am_m108 0 0 [(0, .ref t), (1, .ref c), (2, .int (i32 o))] [] m (self 3 t c o s m)) (hself4 : ∀ (t c : Nat) (o s : Int) (m : xm), isT t → isC c → xw (am_E L xs bz) (d - 1) am_m109 0 0 [(0, .ref t), (1, .ref c), (2, .int (i32 o))] [] m (self 4 t c o s m)) (hself5 : ∀ (t c : Nat) (o s : Int) (m : xm), isT t → isC c → xw (am_E L xs bz) (d - 1) am_m110 0 0 [(0, .ref t), (1, .ref c), (2, .int (i32 o))] [] m (self 5 t c o s m)) (hself6 : ∀ (t c : Nat) (o s : Int) (m : xm), isT t → isC c → xw (am_E L xs bz) (d - 1) am_m111 0 0 [(0, .ref t), (1, .ref c), (2, .int (i32 o)), (3, .int (i32 s))] [] m (self 6 t c o s m)) (hself7 : ∀ (t c : Nat) (o s : Int) (m : xm), isT t → isC c → xw (am_E L xs bz) (d - 1) am_m112 0 0 [(0, .ref t), (1, .ref c), (2, .int (i32 o)), (3, .int (i32 s))] [] m (self 7 t c o s m)) (h0 : isT v0) (h1 : isC v1) : xw (am_E L xs bz) d am_m110 0 0 [(0, .ref v0), (1, .ref v1), (2, .int (i32 v2))] [] m (cX_readPart0 self v0 v1 v2 m) := by
  unfold cX_readPart0
  refine w_aload_n rfl rfl ?_
  refine w_gfr (r := 3) rfl rfl (isT_lt h0) (gfT_0 h0) rfl ?_
  refine w_call1 [.ref 3] [] (by omega) rfl rfl rfl rfl rfl rfl (Nat.le_of_ble_eq_true rfl) (fun _ => xrc_ok rfl) (Nat.le_of_ble_eq_true rfl) rfl rfl (s_cW_isAnyNumber (by omega)) (fun r1 m2 => ?_)
  refine w_if_eq (tg := 28) rfl rfl rfl ?_ ?_
  · refine w_aload_n rfl rfl ?_
    refine w_gfr (r := 3) rfl rfl (isT_lt h0) (gfT_0 h0) rfl ?_
    refine w_bipush rfl rfl ?_
    refine w_call1 [.ref 3, .int (i32 40)] [] (by omega) rfl rfl rfl rfl rfl rfl (Nat.le_of_ble_eq_true rfl) (fun _ => xrc_ok rfl) (Nat.le_of_ble_eq_true rfl) rfl rfl (s_cW_isSign (by omega)) (fun r3 m4 => ?_)
    refine w_if_eq (tg := 68) rfl rfl rfl ?_ ?_
    · refine w_aload_n rfl rfl ?_
      refine w_gfr (r := 3) rfl rfl (isT_lt h0) (gfT_0 h0) rfl ?_
      refine w_ldc rfl rfl ?_
      refine w_call1 [.ref 3, .ref (1000000 + 2 * 11)] [] (by omega) rfl rfl rfl rfl rfl rfl (Nat.le_of_ble_eq_true rfl) (fun _ => xrc_ok rfl) (Nat.le_of_ble_eq_true rfl) rfl rfl (s_cW_takeWord (by omega) (Nat.le_of_ble_eq_true rfl)) (fun r5 m6 => ?_)
      refine w_if_eq (tg := 92) rfl rfl rfl ?_ ?_
      · refine w_aload_n rfl rfl ?_
        refine w_gfr (r := 3) rfl rfl (isT_lt h0) (gfT_0 h0) rfl ?_
        refine w_ldc rfl rfl ?_
        refine w_call1 [.ref 3, .ref (1000000 + 2 * 12)] [] (by omega) rfl rfl rfl rfl rfl rfl (Nat.le_of_ble_eq_true rfl) (fun _ => xrc_ok rfl) (Nat.le_of_ble_eq_true rfl) rfl rfl (s_cW_takeWord (by omega) (Nat.le_of_ble_eq_true rfl)) (fun r7 m8 => ?_)
        refine w_if_eq (tg := 116) rfl rfl rfl ?_ ?_
        · refine w_aload_n rfl rfl ?_
          refine w_gfr (r := 3) rfl rfl (isT_lt h0) (gfT_0 h0) rfl ?_
          refine w_ldc rfl rfl ?_
          refine w_call1 [.ref 3, .ref (1000000 + 2 * 13)] [] (by omega) rfl rfl rfl rfl rfl rfl (Nat.le_of_ble_eq_true rfl) (fun _ => xrc_ok rfl) (Nat.le_of_ble_eq_true rfl) rfl rfl (s_cW_isWord (by omega) (Nat.le_of_ble_eq_true rfl)) (fun r9 m10 => ?_)
          refine w_if_eq (tg := 140) rfl rfl rfl ?_ ?_
          · refine w_aload_n rfl rfl ?_
            refine w_gfc rfl rfl (isT_lt h0) (gfT_1 h0) ?_
            refine w_if_eq (tg := 171) rfl rfl (w32_tol _) ?_ ?_
            · exact w_weak [(0, .ref v0), (1, .ref v1)] rfl ⟨rfl, rfl, trivial⟩ (s_cX_readPart_171 (by omega) hself0 hself1 hself2 hself3 hself4 hself5 hself6 hself7 h0 h1)
            · refine w_aload_n rfl rfl ?_
              refine w_gfr (r := 3) rfl rfl (isT_lt h0) (gfT_0 h0) rfl ?_
              refine w_ldc rfl rfl ?_
              refine w_call1 [.ref 3, .ref (1000000 + 2 * 14)] [] (by omega) rfl rfl rfl rfl rfl rfl (Nat.le_of_ble_eq_true rfl) (fun _ => xrc_ok rfl) (Nat.le_of_ble_eq_true rfl) rfl rfl (s_cW_isWord (by omega) (Nat.le_of_ble_eq_true rfl)) (fun r11 m12 => ?_)
              refine w_if_eq (tg := 171) rfl rfl rfl ?_ ?_
              · exact w_weak [(0, .ref v0), (1, .ref v1)] rfl ⟨rfl, rfl, trivial⟩ (s_cX_readPart_171 (by omega) hself0 hself1 hself2 hself3 hself4 hself5 hself6 hself7 h0 h1)
              · refine w_aload_n rfl rfl ?_
                refine w_aload_n rfl rfl ?_
                refine w_iload_n rfl rfl ?_
                refine w_sipush rfl rfl ?_
                refine w_call0 [.ref v0, .ref v1, .int (i32 v2), .int (i32 10012)] [] (by omega) rfl rfl rfl rfl rfl rfl (Nat.le_of_ble_eq_true rfl) (fun _ => xrc_ok (rcT h0 rfl)) (Nat.le_of_ble_eq_true rfl) rfl rfl (hself7 v0 v1 v2 10012 m12 h0 h1) (fun r13 m14 => ?_)
                show xw _ _ _ _ 168 _ _ _ _
                refine w_goto (tg := 201) rfl rfl ?_
                exact w_retv (x := 0) rfl rfl
          · refine w_aload_n rfl rfl ?_
            refine w_aload_n rfl rfl ?_
            refine w_iload_n rfl rfl ?_
            refine w_sipush rfl rfl ?_
            refine w_call0 [.ref v0, .ref v1, .int (i32 v2), .int (i32 10011)] [] (by omega) rfl rfl rfl rfl rfl rfl (Nat.le_of_ble_eq_true rfl) (fun _ => xrc_ok (rcT h0 rfl)) (Nat.le_of_ble_eq_true rfl) rfl rfl (hself7 v0 v1 v2 10011 m10 h0 h1) (fun r15 m16 => ?_)
            show xw _ _ _ _ 137 _ _ _ _
            refine w_goto (tg := 201) rfl rfl ?_
            exact w_retv (x := 0) rfl rfl
        · refine w_aload_n rfl rfl ?_
          refine w_aload_n rfl rfl ?_
          refine w_iload_n rfl rfl ?_
          refine w_sipush rfl rfl ?_
          refine w_call0 [.ref v0, .ref v1, .int (i32 v2), .int (i32 10035)] [] (by omega) rfl rfl rfl rfl rfl rfl (Nat.le_of_ble_eq_true rfl) (fun _ => xrc_ok (rcT h0 rfl)) (Nat.le_of_ble_eq_true rfl) rfl rfl (hself6 v0 v1 v2 10035 m8 h0 h1) (fun r17 m18 => ?_)
          show xw _ _ _ _ 113 _ _ _ _
          refine w_goto (tg := 201) rfl rfl ?_
          exact w_retv (x := 0) rfl rfl
      · refine w_aload_n rfl rfl ?_
        refine w_aload_n rfl rfl ?_
        refine w_iload_n rfl rfl ?_
        refine w_sipush rfl rfl ?_
        refine w_call0 [.ref v0, .ref v1, .int (i32 v2), .int (i32 10034)] [] (by omega) rfl rfl rfl rfl rfl rfl (Nat.le_of_ble_eq_true rfl) (fun _ => xrc_ok (rcT h0 rfl)) (Nat.le_of_ble_eq_true rfl) rfl rfl (hself6 v0 v1 v2 10034 m6 h0 h1) (fun r19 m20 => ?_)
        show xw _ _ _ _ 89 _ _ _ _
        refine w_goto (tg := 201) rfl rfl ?_
        exact w_retv (x := 0) rfl rfl
    · refine w_aload_n rfl rfl ?_
      refine w_iload_n rfl rfl ?_
      refine w_call1 [.ref v0, .int (i32 v2)] [] (by omega) rfl rfl rfl rfl rfl rfl (Nat.le_of_ble_eq_true rfl) (fun _ => xrc_ok (rcT h0 rfl)) (Nat.le_of_ble_eq_true rfl) rfl rfl (s_cX_opensOneMore (by omega) h0) (fun r21 m22 => ?_)
      refine w_if_eq (tg := 201) rfl rfl rfl ?_ ?_
      · exact w_retv (x := 0) rfl rfl
      · refine w_aload_n rfl rfl ?_
        refine w_aload_n rfl rfl ?_
        refine w_iload_n rfl rfl ?_
        refine w_iconst rfl ?_
        refine w_iadd rfl ?_
        show xw _ _ _ _ 53 _ _ _ _
        refine w_call0 [.ref v0, .ref v1, .int (i32 (v2 + 1))] [] (by omega) rfl rfl rfl rfl rfl rfl (Nat.le_of_ble_eq_true rfl) (fun _ => xrc_ok (rcT h0 rfl)) (Nat.le_of_ble_eq_true rfl) rfl rfl (hself3 v0 v1 (v2 + 1) 0 m22 h0 h1) (fun r23 m24 => ?_)
        refine w_aload_n rfl rfl ?_
        refine w_gfr (r := 3) rfl rfl (isT_lt h0) (gfT_0 h0) rfl ?_
        refine w_bipush rfl rfl ?_
        refine w_call0 [.ref 3, .int (i32 41)] [] (by omega) rfl rfl rfl rfl rfl rfl (Nat.le_of_ble_eq_true rfl) (fun _ => xrc_ok rfl) (Nat.le_of_ble_eq_true rfl) rfl rfl (s_cW_needSign (by omega)) (fun r25 m26 => ?_)
        refine w_goto (tg := 201) rfl rfl ?_
        show xw _ _ _ _ 201 _ _ _ _
        exact w_retv (x := 0) rfl rfl
  · refine w_aload_n rfl rfl ?_
    refine w_aload_n rfl rfl ?_
    refine w_gfr (r := 3) rfl rfl (isT_lt h0) (gfT_0 h0) rfl ?_
    refine w_iconst rfl ?_
    refine w_sipush rfl rfl ?_
    show xw _ _ _ _ 19 _ _ _ _
    refine w_call1 [.ref 3, .int (i32 0), .int (i32 9999)] [.ref v1] (by omega) rfl rfl rfl rfl rfl rfl (Nat.le_of_ble_eq_true rfl) (fun _ => xrc_ok rfl) (Nat.le_of_ble_eq_true rfl) rfl rfl (s_cW_needNumber (by omega)) (fun r27 m28 => ?_)
    refine w_call0 [.ref v1, .int (i32 r27)] [] (by omega) rfl rfl rfl rfl rfl rfl (Nat.le_of_ble_eq_true rfl) (fun _ => xrc_ok (rcC h1 rfl)) (Nat.le_of_ble_eq_true rfl) rfl rfl (s_cC_add (by omega) h1) (fun r29 m30 => ?_)
    refine w_goto (tg := 201) rfl rfl ?_
    exact w_retv (x := 0) rfl rfl
theorem s_cX_readPair0 {d : Nat} {self : Nat → Nat → Nat → Int → Int → xm → xr} {v0 : Nat} {v1 : Nat} {v2 : Int} {v3 : Int} {m : xm} (hd : 3 ≤ d) (hself0 : ∀ (t c : Nat) (o s : Int) (m : xm), isT t → isC c → xw (am_E L xs bz) (d - 1) am_m104 0 0 [(0, .ref t), (1, .ref c), (2, .int (i32 o))] [] m (self 0 t c o s m)) (hself1 : ∀ (t c : Nat) (o s : Int) (m : xm), isT t → isC c → xw (am_E L xs bz) (d - 1) am_m105 0 0 [(0, .ref t), (1, .ref c), (2, .int (i32 o))] [] m (self 1 t c o s m)) (hself2 : ∀ (t c : Nat) (o s : Int) (m : xm), isT t → isC c → xw (am_E L xs bz) (d - 1) am_m106 0 0 [(0, .ref t), (1, .ref c), (2, .int (i32 o))] [] m (self 2 t c o s m)) (hself3 : ∀ (t c : Nat) (o s : Int) (m : xm), isT t → isC c → xw (am_E L xs bz) (d - 1) am_m108 0 0 [(0, .ref t), (1, .ref c), (2, .int (i32 o))] [] m (self 3 t c o s m)) (hself4 : ∀ (t c : Nat) (o s : Int) (m : xm), isT t → isC c → xw (am_E L xs bz) (d - 1) am_m109 0 0 [(0, .ref t), (1, .ref c), (2, .int (i32 o))] [] m (self 4 t c o s m)) (hself5 : ∀ (t c : Nat) (o s : Int) (m : xm), isT t → isC c → xw (am_E L xs bz) (d - 1) am_m110 0 0 [(0, .ref t), (1, .ref c), (2, .int (i32 o))] [] m (self 5 t c o s m)) (hself6 : ∀ (t c : Nat) (o s : Int) (m : xm), isT t → isC c → xw (am_E L xs bz) (d - 1) am_m111 0 0 [(0, .ref t), (1, .ref c), (2, .int (i32 o)), (3, .int (i32 s))] [] m (self 6 t c o s m)) (hself7 : ∀ (t c : Nat) (o s : Int) (m : xm), isT t → isC c → xw (am_E L xs bz) (d - 1) am_m112 0 0 [(0, .ref t), (1, .ref c), (2, .int (i32 o)), (3, .int (i32 s))] [] m (self 7 t c o s m)) (h0 : isT v0) (h1 : isC v1) : xw (am_E L xs bz) d am_m111 0 0 [(0, .ref v0), (1, .ref v1), (2, .int (i32 v2)), (3, .int (i32 v3))] [] m (cX_readPair0 self v0 v1 v2 v3 m) := by
  unfold cX_readPair0
  refine w_aload_n rfl rfl ?_
  refine w_gfr (r := 3) rfl rfl (isT_lt h0) (gfT_0 h0) rfl ?_
  refine w_bipush rfl rfl ?_
  refine w_call1 [.ref 3, .int (i32 40)] [] (by omega) rfl rfl rfl rfl rfl rfl (Nat.le_of_ble_eq_true rfl) (fun _ => xrc_ok rfl) (Nat.le_of_ble_eq_true rfl) rfl rfl (s_cW_isSign (by omega)) (fun r1 m2 => ?_)
  refine w_if_ne (tg := 23) rfl rfl rfl ?_ ?_
  · refine w_aload_n rfl rfl ?_
    refine w_iload_n rfl rfl ?_
    refine w_call1 [.ref v0, .int (i32 v2)] [] (by omega) rfl rfl rfl rfl rfl rfl (Nat.le_of_ble_eq_true rfl) (fun _ => xrc_ok (rcT h0 rfl)) (Nat.le_of_ble_eq_true rfl) rfl rfl (s_cX_opensOneMore (by omega) h0) (fun r3 m4 => ?_)
    refine w_if_eq (tg := 70) rfl rfl rfl ?_ ?_
    · exact w_retv (x := 0) rfl rfl
    · refine w_aload_n rfl rfl ?_
      refine w_aload_n rfl rfl ?_
      refine w_iload_n rfl rfl ?_
      refine w_iconst rfl ?_
      refine w_iadd rfl ?_
      show xw _ _ _ _ 36 _ _ _ _
      refine w_call0 [.ref v0, .ref v1, .int (i32 (v2 + 1))] [] (by omega) rfl rfl rfl rfl rfl rfl (Nat.le_of_ble_eq_true rfl) (fun _ => xrc_ok (rcT h0 rfl)) (Nat.le_of_ble_eq_true rfl) rfl rfl (hself3 v0 v1 (v2 + 1) 0 m4 h0 h1) (fun r5 m6 => ?_)
      refine w_aload_n rfl rfl ?_
      refine w_gfr (r := 3) rfl rfl (isT_lt h0) (gfT_0 h0) rfl ?_
      refine w_bipush rfl rfl ?_
      refine w_call0 [.ref 3, .int (i32 44)] [] (by omega) rfl rfl rfl rfl rfl rfl (Nat.le_of_ble_eq_true rfl) (fun _ => xrc_ok rfl) (Nat.le_of_ble_eq_true rfl) rfl rfl (s_cW_needSign (by omega)) (fun r7 m8 => ?_)
      refine w_aload_n rfl rfl ?_
      show xw _ _ _ _ 49 _ _ _ _
      refine w_aload_n rfl rfl ?_
      refine w_iload_n rfl rfl ?_
      refine w_iconst rfl ?_
      refine w_iadd rfl ?_
      refine w_call0 [.ref v0, .ref v1, .int (i32 (v2 + 1))] [] (by omega) rfl rfl rfl rfl rfl rfl (Nat.le_of_ble_eq_true rfl) (fun _ => xrc_ok (rcT h0 rfl)) (Nat.le_of_ble_eq_true rfl) rfl rfl (hself3 v0 v1 (v2 + 1) 0 m8 h0 h1) (fun r9 m10 => ?_)
      refine w_aload_n rfl rfl ?_
      show xw _ _ _ _ 57 _ _ _ _
      refine w_gfr (r := 3) rfl rfl (isT_lt h0) (gfT_0 h0) rfl ?_
      refine w_bipush rfl rfl ?_
      refine w_call0 [.ref 3, .int (i32 41)] [] (by omega) rfl rfl rfl rfl rfl rfl (Nat.le_of_ble_eq_true rfl) (fun _ => xrc_ok rfl) (Nat.le_of_ble_eq_true rfl) rfl rfl (s_cW_needSign (by omega)) (fun r11 m12 => ?_)
      refine w_aload_n rfl rfl ?_
      refine w_iload_n rfl rfl ?_
      refine w_call0 [.ref v1, .int (i32 v3)] [] (by omega) rfl rfl rfl rfl rfl rfl (Nat.le_of_ble_eq_true rfl) (fun _ => xrc_ok (rcC h1 rfl)) (Nat.le_of_ble_eq_true rfl) rfl rfl (s_cC_add (by omega) h1) (fun r13 m14 => ?_)
      show xw _ _ _ _ 70 _ _ _ _
      exact w_retv (x := 0) rfl rfl
  · refine w_aload_n rfl rfl ?_
    refine w_gfr (r := 3) rfl rfl (isT_lt h0) (gfT_0 h0) rfl ?_
    refine w_iconst rfl ?_
    refine w_call0 [.ref 3, .int (i32 1)] [] (by omega) rfl rfl rfl rfl rfl rfl (Nat.le_of_ble_eq_true rfl) (fun _ => xrc_ok rfl) (Nat.le_of_ble_eq_true rfl) rfl rfl (s_cW_failHere (by omega)) (fun r15 m16 => ?_)
    refine w_goto (tg := 70) rfl rfl ?_
    show xw _ _ _ _ 70 _ _ _ _
    exact w_retv (x := 0) rfl rfl
theorem s_cX_readPartOf0 {d : Nat} {self : Nat → Nat → Nat → Int → Int → xm → xr} {v0 : Nat} {v1 : Nat} {v2 : Int} {v3 : Int} {m : xm} (hd : 3 ≤ d) (hself0 : ∀ (t c : Nat) (o s : Int) (m : xm), isT t → isC c → xw (am_E L xs bz) (d - 1) am_m104 0 0 [(0, .ref t), (1, .ref c), (2, .int (i32 o))] [] m (self 0 t c o s m)) (hself1 : ∀ (t c : Nat) (o s : Int) (m : xm), isT t → isC c → xw (am_E L xs bz) (d - 1) am_m105 0 0 [(0, .ref t), (1, .ref c), (2, .int (i32 o))] [] m (self 1 t c o s m)) (hself2 : ∀ (t c : Nat) (o s : Int) (m : xm), isT t → isC c → xw (am_E L xs bz) (d - 1) am_m106 0 0 [(0, .ref t), (1, .ref c), (2, .int (i32 o))] [] m (self 2 t c o s m)) (hself3 : ∀ (t c : Nat) (o s : Int) (m : xm), isT t → isC c → xw (am_E L xs bz) (d - 1) am_m108 0 0 [(0, .ref t), (1, .ref c), (2, .int (i32 o))] [] m (self 3 t c o s m)) (hself4 : ∀ (t c : Nat) (o s : Int) (m : xm), isT t → isC c → xw (am_E L xs bz) (d - 1) am_m109 0 0 [(0, .ref t), (1, .ref c), (2, .int (i32 o))] [] m (self 4 t c o s m)) (hself5 : ∀ (t c : Nat) (o s : Int) (m : xm), isT t → isC c → xw (am_E L xs bz) (d - 1) am_m110 0 0 [(0, .ref t), (1, .ref c), (2, .int (i32 o))] [] m (self 5 t c o s m)) (hself6 : ∀ (t c : Nat) (o s : Int) (m : xm), isT t → isC c → xw (am_E L xs bz) (d - 1) am_m111 0 0 [(0, .ref t), (1, .ref c), (2, .int (i32 o)), (3, .int (i32 s))] [] m (self 6 t c o s m)) (hself7 : ∀ (t c : Nat) (o s : Int) (m : xm), isT t → isC c → xw (am_E L xs bz) (d - 1) am_m112 0 0 [(0, .ref t), (1, .ref c), (2, .int (i32 o)), (3, .int (i32 s))] [] m (self 7 t c o s m)) (h0 : isT v0) (h1 : isC v1) : xw (am_E L xs bz) d am_m112 0 0 [(0, .ref v0), (1, .ref v1), (2, .int (i32 v2)), (3, .int (i32 v3))] [] m (cX_readPartOf0 self v0 v1 v2 v3 m) := by
  unfold cX_readPartOf0
  refine w_aload_n rfl rfl ?_
  refine w_iload_n rfl rfl ?_
  refine w_call1 [.ref v0, .int (i32 v2)] [] (by omega) rfl rfl rfl rfl rfl rfl (Nat.le_of_ble_eq_true rfl) (fun _ => xrc_ok (rcT h0 rfl)) (Nat.le_of_ble_eq_true rfl) rfl rfl (s_cX_opensOneMore (by omega) h0) (fun r1 m2 => ?_)
  refine w_if_eq (tg := 21) rfl rfl rfl ?_ ?_
  · exact w_retv (x := 0) rfl rfl
  · refine w_aload_n rfl rfl ?_
    refine w_aload_n rfl rfl ?_
    refine w_iload_n rfl rfl ?_
    refine w_iconst rfl ?_
    refine w_iadd rfl ?_
    show xw _ _ _ _ 13 _ _ _ _
    refine w_call0 [.ref v0, .ref v1, .int (i32 (v2 + 1))] [] (by omega) rfl rfl rfl rfl rfl rfl (Nat.le_of_ble_eq_true rfl) (fun _ => xrc_ok (rcT h0 rfl)) (Nat.le_of_ble_eq_true rfl) rfl rfl (hself5 v0 v1 (v2 + 1) 0 m2 h0 h1) (fun r3 m4 => ?_)
    refine w_aload_n rfl rfl ?_
    refine w_iload_n rfl rfl ?_
    refine w_call0 [.ref v1, .int (i32 v3)] [] (by omega) rfl rfl rfl rfl rfl rfl (Nat.le_of_ble_eq_true rfl) (fun _ => xrc_ok (rcC h1 rfl)) (Nat.le_of_ble_eq_true rfl) rfl rfl (s_cC_add (by omega) h1) (fun r5 m6 => ?_)
    exact w_retv (x := 0) rfl rfl
theorem s_cX_rec : ∀ (n d : Nat) (_ : 9 + n ≤ d), (∀ (t c : Nat) (o s : Int) (m : xm), isT t → isC c → xw (am_E L xs bz) d am_m104 0 0 [(0, .ref t), (1, .ref c), (2, .int (i32 o))] [] m (cX_rec n 0 t c o s m)) ∧ (∀ (t c : Nat) (o s : Int) (m : xm), isT t → isC c → xw (am_E L xs bz) d am_m105 0 0 [(0, .ref t), (1, .ref c), (2, .int (i32 o))] [] m (cX_rec n 1 t c o s m)) ∧ (∀ (t c : Nat) (o s : Int) (m : xm), isT t → isC c → xw (am_E L xs bz) d am_m106 0 0 [(0, .ref t), (1, .ref c), (2, .int (i32 o))] [] m (cX_rec n 2 t c o s m)) ∧ (∀ (t c : Nat) (o s : Int) (m : xm), isT t → isC c → xw (am_E L xs bz) d am_m108 0 0 [(0, .ref t), (1, .ref c), (2, .int (i32 o))] [] m (cX_rec n 3 t c o s m)) ∧ (∀ (t c : Nat) (o s : Int) (m : xm), isT t → isC c → xw (am_E L xs bz) d am_m109 0 0 [(0, .ref t), (1, .ref c), (2, .int (i32 o))] [] m (cX_rec n 4 t c o s m)) ∧ (∀ (t c : Nat) (o s : Int) (m : xm), isT t → isC c → xw (am_E L xs bz) d am_m110 0 0 [(0, .ref t), (1, .ref c), (2, .int (i32 o))] [] m (cX_rec n 5 t c o s m)) ∧ (∀ (t c : Nat) (o s : Int) (m : xm), isT t → isC c → xw (am_E L xs bz) d am_m111 0 0 [(0, .ref t), (1, .ref c), (2, .int (i32 o)), (3, .int (i32 s))] [] m (cX_rec n 6 t c o s m)) ∧ (∀ (t c : Nat) (o s : Int) (m : xm), isT t → isC c → xw (am_E L xs bz) d am_m112 0 0 [(0, .ref t), (1, .ref c), (2, .int (i32 o)), (3, .int (i32 s))] [] m (cX_rec n 7 t c o s m)) := by
  intro n
  induction n with
  | zero =>
    intro d _
    exact ⟨fun _ _ _ _ _ _ _ => w_none, fun _ _ _ _ _ _ _ => w_none, fun _ _ _ _ _ _ _ => w_none, fun _ _ _ _ _ _ _ => w_none, fun _ _ _ _ _ _ _ => w_none, fun _ _ _ _ _ _ _ => w_none, fun _ _ _ _ _ _ _ => w_none, fun _ _ _ _ _ _ _ => w_none⟩
  | succ n ih =>
    intro d hd
    obtain ⟨g0, g1, g2, g3, g4, g5, g6, g7⟩ := ih (d - 1) (by omega)
    refine ⟨fun t c o s m ht hc => ?_, fun t c o s m ht hc => ?_, fun t c o s m ht hc => ?_, fun t c o s m ht hc => ?_, fun t c o s m ht hc => ?_, fun t c o s m ht hc => ?_, fun t c o s m ht hc => ?_, fun t c o s m ht hc => ?_⟩
    · exact s_cX_readTest0 (by omega) g0 g1 g2 g3 g4 g5 g6 g7 ht hc
    · exact s_cX_readBoth0 (by omega) g0 g1 g2 g3 g4 g5 g6 g7 ht hc
    · exact s_cX_readFact0 (by omega) g0 g1 g2 g3 g4 g5 g6 g7 ht hc
    · exact s_cX_readSum0 (by omega) g0 g1 g2 g3 g4 g5 g6 g7 ht hc
    · exact s_cX_readProduct0 (by omega) g0 g1 g2 g3 g4 g5 g6 g7 ht hc
    · exact s_cX_readPart0 (by omega) g0 g1 g2 g3 g4 g5 g6 g7 ht hc
    · exact s_cX_readPair0 (by omega) g0 g1 g2 g3 g4 g5 g6 g7 ht hc
    · exact s_cX_readPartOf0 (by omega) g0 g1 g2 g3 g4 g5 g6 g7 ht hc
theorem s_cX_readTest {d : Nat} {t c : Nat} {o : Int} {m : xm} (hd : 140 ≤ d) (ht : isT t) (hc : isC c) : xw (am_E L xs bz) d am_m104 0 0 [(0, .ref t), (1, .ref c), (2, .int (i32 o))] [] m (cX_rec 100 0 t c o 0 m) := (s_cX_rec 100 d (by omega)).1 t c o 0 m ht hc
theorem s_cX_readBoth {d : Nat} {t c : Nat} {o : Int} {m : xm} (hd : 140 ≤ d) (ht : isT t) (hc : isC c) : xw (am_E L xs bz) d am_m105 0 0 [(0, .ref t), (1, .ref c), (2, .int (i32 o))] [] m (cX_rec 100 1 t c o 0 m) := (s_cX_rec 100 d (by omega)).2.1 t c o 0 m ht hc
theorem s_cX_readFact {d : Nat} {t c : Nat} {o : Int} {m : xm} (hd : 140 ≤ d) (ht : isT t) (hc : isC c) : xw (am_E L xs bz) d am_m106 0 0 [(0, .ref t), (1, .ref c), (2, .int (i32 o))] [] m (cX_rec 100 2 t c o 0 m) := (s_cX_rec 100 d (by omega)).2.2.1 t c o 0 m ht hc
theorem s_cX_readSum {d : Nat} {t c : Nat} {o : Int} {m : xm} (hd : 140 ≤ d) (ht : isT t) (hc : isC c) : xw (am_E L xs bz) d am_m108 0 0 [(0, .ref t), (1, .ref c), (2, .int (i32 o))] [] m (cX_rec 100 3 t c o 0 m) := (s_cX_rec 100 d (by omega)).2.2.2.1 t c o 0 m ht hc
theorem s_cX_readProduct {d : Nat} {t c : Nat} {o : Int} {m : xm} (hd : 140 ≤ d) (ht : isT t) (hc : isC c) : xw (am_E L xs bz) d am_m109 0 0 [(0, .ref t), (1, .ref c), (2, .int (i32 o))] [] m (cX_rec 100 4 t c o 0 m) := (s_cX_rec 100 d (by omega)).2.2.2.2.1 t c o 0 m ht hc
theorem s_cX_readPart {d : Nat} {t c : Nat} {o : Int} {m : xm} (hd : 140 ≤ d) (ht : isT t) (hc : isC c) : xw (am_E L xs bz) d am_m110 0 0 [(0, .ref t), (1, .ref c), (2, .int (i32 o))] [] m (cX_rec 100 5 t c o 0 m) := (s_cX_rec 100 d (by omega)).2.2.2.2.2.1 t c o 0 m ht hc
theorem s_cX_readPair {d : Nat} {t c : Nat} {o : Int} {s : Int} {m : xm} (hd : 140 ≤ d) (ht : isT t) (hc : isC c) : xw (am_E L xs bz) d am_m111 0 0 [(0, .ref t), (1, .ref c), (2, .int (i32 o)), (3, .int (i32 s))] [] m (cX_rec 100 6 t c o s m) := (s_cX_rec 100 d (by omega)).2.2.2.2.2.2.1 t c o s m ht hc
theorem s_cX_readPartOf {d : Nat} {t c : Nat} {o : Int} {s : Int} {m : xm} (hd : 140 ≤ d) (ht : isT t) (hc : isC c) : xw (am_E L xs bz) d am_m112 0 0 [(0, .ref t), (1, .ref c), (2, .int (i32 o)), (3, .int (i32 s))] [] m (cX_rec 100 7 t c o s m) := (s_cX_rec 100 d (by omega)).2.2.2.2.2.2.2 t c o s m ht hc
end S00
