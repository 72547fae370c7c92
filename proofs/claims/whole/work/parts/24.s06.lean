section S06
variable {L : Nat} {xs : Nat → Int32} {bz : Bool}
theorem s_r_qAsksWord {d : Nat} {v1 : Int} {m : xm} (hd : 4 ≤ d) : xw (am_E L xs bz) d am_m215 0 0 [(0, .ref 78), (1, .int (i32 v1))] [] m (r_qAsksWord v1 m) := by
  unfold r_qAsksWord
  refine w_iload_n rfl rfl ?_
  refine w_tsw (t0 := 106) (fs := [39, 50, 61, 72, 83, 94]) rfl rfl rfl rfl rfl ?_ ?_
  · refine w_aload_n rfl rfl ?_
    refine w_aload_n rfl rfl ?_
    refine w_gfr (r := 137) rfl rfl (Nat.le_of_ble_eq_true rfl) rfl rfl ?_
    refine w_call0 [.ref 78, .ref 137] [] (by omega) rfl rfl rfl rfl rfl rfl (Nat.le_of_ble_eq_true rfl) (fun _ => xrc_ok rfl) (Nat.le_of_ble_eq_true rfl) rfl rfl (s_r_asks (by omega) rfl) (fun r1 m2 => ?_)
    exact w_retv (x := 0) rfl rfl
  · refine ⟨⟨40, rfl, ?_⟩, ⟨51, rfl, ?_⟩, ⟨62, rfl, ?_⟩, ⟨73, rfl, ?_⟩, ⟨84, rfl, ?_⟩, ⟨95, rfl, ?_⟩, trivial⟩
    · refine w_aload_n rfl rfl ?_
      refine w_aload_n rfl rfl ?_
      refine w_gfr (r := 131) rfl rfl (Nat.le_of_ble_eq_true rfl) rfl rfl ?_
      refine w_call0 [.ref 78, .ref 131] [] (by omega) rfl rfl rfl rfl rfl rfl (Nat.le_of_ble_eq_true rfl) (fun _ => xrc_ok rfl) (Nat.le_of_ble_eq_true rfl) rfl rfl (s_r_asks (by omega) rfl) (fun r3 m4 => ?_)
      refine w_goto (tg := 114) rfl rfl ?_
      show xw _ _ _ _ 114 _ _ _ _
      exact w_retv (x := 0) rfl rfl
    · refine w_aload_n rfl rfl ?_
      refine w_aload_n rfl rfl ?_
      refine w_gfr (r := 132) rfl rfl (Nat.le_of_ble_eq_true rfl) rfl rfl ?_
      refine w_call0 [.ref 78, .ref 132] [] (by omega) rfl rfl rfl rfl rfl rfl (Nat.le_of_ble_eq_true rfl) (fun _ => xrc_ok rfl) (Nat.le_of_ble_eq_true rfl) rfl rfl (s_r_asks (by omega) rfl) (fun r5 m6 => ?_)
      refine w_goto (tg := 114) rfl rfl ?_
      show xw _ _ _ _ 114 _ _ _ _
      exact w_retv (x := 0) rfl rfl
    · refine w_aload_n rfl rfl ?_
      refine w_aload_n rfl rfl ?_
      refine w_gfr (r := 133) rfl rfl (Nat.le_of_ble_eq_true rfl) rfl rfl ?_
      refine w_call0 [.ref 78, .ref 133] [] (by omega) rfl rfl rfl rfl rfl rfl (Nat.le_of_ble_eq_true rfl) (fun _ => xrc_ok rfl) (Nat.le_of_ble_eq_true rfl) rfl rfl (s_r_asks (by omega) rfl) (fun r7 m8 => ?_)
      refine w_goto (tg := 114) rfl rfl ?_
      show xw _ _ _ _ 114 _ _ _ _
      exact w_retv (x := 0) rfl rfl
    · refine w_aload_n rfl rfl ?_
      refine w_aload_n rfl rfl ?_
      refine w_gfr (r := 134) rfl rfl (Nat.le_of_ble_eq_true rfl) rfl rfl ?_
      refine w_call0 [.ref 78, .ref 134] [] (by omega) rfl rfl rfl rfl rfl rfl (Nat.le_of_ble_eq_true rfl) (fun _ => xrc_ok rfl) (Nat.le_of_ble_eq_true rfl) rfl rfl (s_r_asks (by omega) rfl) (fun r9 m10 => ?_)
      refine w_goto (tg := 114) rfl rfl ?_
      show xw _ _ _ _ 114 _ _ _ _
      exact w_retv (x := 0) rfl rfl
    · refine w_aload_n rfl rfl ?_
      refine w_aload_n rfl rfl ?_
      refine w_gfr (r := 135) rfl rfl (Nat.le_of_ble_eq_true rfl) rfl rfl ?_
      refine w_call0 [.ref 78, .ref 135] [] (by omega) rfl rfl rfl rfl rfl rfl (Nat.le_of_ble_eq_true rfl) (fun _ => xrc_ok rfl) (Nat.le_of_ble_eq_true rfl) rfl rfl (s_r_asks (by omega) rfl) (fun r11 m12 => ?_)
      refine w_goto (tg := 114) rfl rfl ?_
      show xw _ _ _ _ 114 _ _ _ _
      exact w_retv (x := 0) rfl rfl
    · refine w_aload_n rfl rfl ?_
      refine w_aload_n rfl rfl ?_
      refine w_gfr (r := 136) rfl rfl (Nat.le_of_ble_eq_true rfl) rfl rfl ?_
      refine w_call0 [.ref 78, .ref 136] [] (by omega) rfl rfl rfl rfl rfl rfl (Nat.le_of_ble_eq_true rfl) (fun _ => xrc_ok rfl) (Nat.le_of_ble_eq_true rfl) rfl rfl (s_r_asks (by omega) rfl) (fun r13 m14 => ?_)
      refine w_goto (tg := 114) rfl rfl ?_
      show xw _ _ _ _ 114 _ _ _ _
      exact w_retv (x := 0) rfl rfl
theorem s_r_qOpens {d : Nat} {v1 : Int} {v2 : Int} {m : xm} (hd : 1 ≤ d) : xw (am_E L xs bz) d am_m205 0 0 [(0, .ref 78), (1, .int (i32 v1)), (2, .int (i32 v2))] [] m (r_qOpens v1 v2 m) := by
  unfold r_qOpens
  refine w_aload_n rfl rfl ?_
  refine w_gfi rfl rfl (Nat.le_of_ble_eq_true rfl) rfl rfl ?_
  refine w_if_eq (tg := 8) rfl rfl (w32_ld _ _ _) ?_ ?_
  · refine w_aload_n rfl rfl ?_
    refine w_gfi rfl rfl (Nat.le_of_ble_eq_true rfl) rfl rfl ?_
    refine w_bipush rfl rfl ?_
    refine w_icmp_ne (tg := 24) rfl rfl (w32_ld _ _ _) rfl ?_ ?_
    · refine w_aload_n rfl rfl ?_
      refine w_dup rfl rfl ?_
      refine w_gfi rfl rfl (Nat.le_of_ble_eq_true rfl) rfl rfl ?_
      refine w_iconst rfl ?_
      refine w_iadd rfl ?_
      show xw _ _ _ _ 31 _ _ _ _
      refine w_pfi rfl rfl (Nat.le_of_ble_eq_true rfl) rfl rfl rfl (fun m1 => ?_)
      refine w_aload_n rfl rfl ?_
      refine w_gfr (r := 139) rfl rfl (Nat.le_of_ble_eq_true rfl) rfl rfl ?_
      refine w_aload_n rfl rfl ?_
      refine w_gfi rfl rfl (Nat.le_of_ble_eq_true rfl) rfl rfl ?_
      refine w_iload_n rfl rfl ?_
      show xw _ _ _ _ 43 _ _ _ _
      refine w_iastore rfl rfl (fun m2 => ?_)
      refine w_aload_n rfl rfl ?_
      refine w_dup rfl rfl ?_
      refine w_gfi rfl rfl (Nat.le_of_ble_eq_true rfl) rfl rfl ?_
      refine w_iconst rfl ?_
      refine w_iadd rfl ?_
      show xw _ _ _ _ 51 _ _ _ _
      refine w_pfi rfl rfl (Nat.le_of_ble_eq_true rfl) rfl rfl rfl (fun m3 => ?_)
      exact w_retv (x := 0) rfl rfl
    · refine w_aload_n rfl rfl ?_
      refine w_iconst rfl ?_
      refine w_iload_n rfl rfl ?_
      refine w_call0 [.ref 78, .int (i32 4), .int (i32 v2)] [] (by omega) rfl rfl rfl rfl rfl rfl (Nat.le_of_ble_eq_true rfl) (fun _ => xrc_ok rfl) (Nat.le_of_ble_eq_true rfl) rfl rfl (s_r_fail (by omega)) (fun r4 m5 => ?_)
      exact w_retv (x := 0) rfl rfl
  · exact w_retv (x := 0) rfl rfl
theorem s_r_qPartTold_234 {d : Nat} (hd : 5 ≤ d) {s1 : Int} {m : xm} : xw (am_E L xs bz) d am_m209 0 234 [(0, .ref 78)] [.int (i32 s1), .ref 78] m (r_qPartTold_234 s1 m) := by
  unfold r_qPartTold_234
  refine w_call0 [.ref 78, .int (i32 s1)] [] (by omega) rfl rfl rfl rfl rfl rfl (Nat.le_of_ble_eq_true rfl) (fun _ => xrc_ok rfl) (Nat.le_of_ble_eq_true rfl) rfl rfl (s_r_qCode (by omega)) (fun r1 m2 => ?_)
  refine w_aload_n rfl rfl ?_
  refine w_call0 [.ref 78] [] (by omega) rfl rfl rfl rfl rfl rfl (Nat.le_of_ble_eq_true rfl) (fun _ => xrc_ok rfl) (Nat.le_of_ble_eq_true rfl) rfl rfl (s_r_qEndsPart (by omega)) (fun r3 m4 => ?_)
  exact w_retv (x := 0) rfl rfl
theorem s_r_qPartTold_209 {d : Nat} (hd : 5 ≤ d) {v2 : Int} {m : xm} : xw (am_E L xs bz) d am_m209 0 209 [(0, .ref 78), (2, .int (i32 v2))] [] m (r_qPartTold_209 v2 m) := by
  unfold r_qPartTold_209
  refine w_aload_n rfl rfl ?_
  refine w_iload_n rfl rfl ?_
  refine w_iconst rfl ?_
  refine w_icmp_eq (tg := 222) rfl rfl rfl rfl ?_ ?_
  · refine w_sipush rfl rfl ?_
    refine w_aload_n rfl rfl ?_
    refine w_iconst rfl ?_
    refine w_sipush rfl rfl ?_
    refine w_call1 [.ref 78, .int (i32 0), .int (i32 9999)] [.int (i32 1000), .ref 78] (by omega) rfl rfl rfl rfl rfl rfl (Nat.le_of_ble_eq_true rfl) (fun _ => xrc_ok rfl) (Nat.le_of_ble_eq_true rfl) rfl rfl (s_r_number (by omega)) (fun r1 m2 => ?_)
    show xw _ _ _ _ 233 _ _ _ _
    refine w_iadd rfl ?_
    exact w_weak [(0, .ref 78)] rfl ⟨rfl, trivial⟩ (s_r_qPartTold_234 (by omega))
  · refine w_bipush rfl rfl ?_
    refine w_iload_n rfl rfl ?_
    refine w_iadd rfl ?_
    refine w_goto (tg := 234) rfl rfl ?_
    exact w_weak [(0, .ref 78)] rfl ⟨rfl, trivial⟩ (s_r_qPartTold_234 (by omega))
theorem s_r_qPartTold_184 {d : Nat} (hd : 5 ≤ d) {m : xm} : xw (am_E L xs bz) d am_m209 0 184 [(0, .ref 78)] [] m (r_qPartTold_184 m) := by
  unfold r_qPartTold_184
  refine w_aload_n rfl rfl ?_
  refine w_gfi rfl rfl (Nat.le_of_ble_eq_true rfl) rfl rfl ?_
  refine w_if_eq (tg := 192) rfl rfl (w32_ld _ _ _) ?_ ?_
  · refine w_aload_n rfl rfl ?_
    refine w_iconst rfl ?_
    refine w_iconst rfl ?_
    refine w_call1 [.ref 78, .int (i32 0), .int (i32 5)] [] (by omega) rfl rfl rfl rfl rfl rfl (Nat.le_of_ble_eq_true rfl) (fun _ => xrc_ok rfl) (Nat.le_of_ble_eq_true rfl) rfl rfl (s_r_qWordOf (by omega)) (fun r1 m2 => ?_)
    refine w_istore_n (lsd := [(2, .int (i32 r1)), (0, .ref 78)]) rfl (Nat.le_of_ble_eq_true rfl) rfl ?_
    show xw _ _ _ _ 199 _ _ _ _
    refine w_iload_n rfl rfl ?_
    refine w_iconst rfl ?_
    refine w_icmp_eq (tg := 209) rfl rfl rfl rfl ?_ ?_
    · exact w_weak [(0, .ref 78), (2, .int (i32 r1))] rfl ⟨rfl, rfl, trivial⟩ (s_r_qPartTold_209 (by omega))
    · refine w_aload_n rfl rfl ?_
      refine w_iload_n rfl rfl ?_
      refine w_call0 [.ref 78, .int (i32 r1)] [] (by omega) rfl rfl rfl rfl rfl rfl (Nat.le_of_ble_eq_true rfl) (fun _ => xrc_ok rfl) (Nat.le_of_ble_eq_true rfl) rfl rfl (s_r_qAsksWord (by omega)) (fun r3 m4 => ?_)
      exact w_weak [(0, .ref 78), (2, .int (i32 r1))] rfl ⟨rfl, rfl, trivial⟩ (s_r_qPartTold_209 (by omega))
  · exact w_retv (x := 0) rfl rfl
theorem s_r_qPartTold_143 {d : Nat} {k2 : Int → xm → xr} (hd : 5 ≤ d) (hk2 : ∀ (v1 : Int) (m : xm), xw (am_E L xs bz) d am_m209 0 2 [(0, .ref 78), (1, .int (i32 v1))] [] m (k2 v1 m)) {v1 : Int} {m : xm} : xw (am_E L xs bz) d am_m209 0 143 [(0, .ref 78), (1, .int (i32 v1))] [] m (r_qPartTold_143 k2 v1 m) := by
  unfold r_qPartTold_143
  refine w_aload_n rfl rfl ?_
  refine w_bipush rfl rfl ?_
  refine w_call0 [.ref 78, .int (i32 40)] [] (by omega) rfl rfl rfl rfl rfl rfl (Nat.le_of_ble_eq_true rfl) (fun _ => xrc_ok rfl) (Nat.le_of_ble_eq_true rfl) rfl rfl (s_r_asksSign (by omega)) (fun r1 m2 => ?_)
  refine w_goto (tg := 181) rfl rfl ?_
  refine w_goto (tg := 2) rfl rfl ?_
  exact w_weak [(0, .ref 78), (1, .int (i32 v1))] rfl ⟨rfl, rfl, trivial⟩ (hk2 v1 m2)
theorem s_r_qPartTold_138 {d : Nat} {k2 : Int → xm → xr} (hd : 5 ≤ d) (hk2 : ∀ (v1 : Int) (m : xm), xw (am_E L xs bz) d am_m209 0 2 [(0, .ref 78), (1, .int (i32 v1))] [] m (k2 v1 m)) {v1 : Int} {v5 : Int} {s1 : Int} {m : xm} : xw (am_E L xs bz) d am_m209 0 138 [(0, .ref 78), (1, .int (i32 v1)), (5, .int (i32 v5))] [.int (i32 s1), .ref 78] m (r_qPartTold_138 k2 v1 v5 s1 m) := by
  unfold r_qPartTold_138
  refine w_iload rfl rfl ?_
  refine w_call0 [.ref 78, .int (i32 s1), .int (i32 v5)] [] (by omega) rfl rfl rfl rfl rfl rfl (Nat.le_of_ble_eq_true rfl) (fun _ => xrc_ok rfl) (Nat.le_of_ble_eq_true rfl) rfl rfl (s_r_qOpens (by omega)) (fun r1 m2 => ?_)
  exact w_weak [(0, .ref 78), (1, .int (i32 v1))] rfl ⟨rfl, rfl, trivial⟩ (s_r_qPartTold_143 (by omega) hk2)
theorem s_r_qPartTold_117 {d : Nat} {k2 : Int → xm → xr} (hd : 5 ≤ d) (hk2 : ∀ (v1 : Int) (m : xm), xw (am_E L xs bz) d am_m209 0 2 [(0, .ref 78), (1, .int (i32 v1))] [] m (k2 v1 m)) {v1 : Int} {v4 : Int} {s0 : Int} {m : xm} : xw (am_E L xs bz) d am_m209 0 117 [(0, .ref 78), (1, .int (i32 v1)), (4, .int (i32 v4))] [.int (i32 s0)] m (r_qPartTold_117 k2 v1 v4 s0 m) := by
  unfold r_qPartTold_117
  refine w_letI (fun x1 => ?_)
  refine w_istore (lsd := [(5, .int (i32 x1)), (0, .ref 78), (1, .int (i32 v1)), (4, .int (i32 v4))]) rfl (Nat.le_of_ble_eq_true rfl) rfl ?_
  refine w_iload rfl rfl ?_
  refine w_iconst rfl ?_
  refine w_icmp_eq (tg := 143) rfl rfl rfl rfl ?_ ?_
  · exact w_weak [(0, .ref 78), (1, .int (i32 v1))] rfl ⟨rfl, rfl, trivial⟩ (s_r_qPartTold_143 (by omega) hk2)
  · refine w_aload_n rfl rfl ?_
    refine w_iload rfl rfl ?_
    refine w_if_eq (tg := 136) rfl rfl rfl ?_ ?_
    · refine w_bipush rfl rfl ?_
      exact w_weak [(0, .ref 78), (1, .int (i32 v1)), (5, .int (i32 x1))] rfl ⟨rfl, rfl, rfl, trivial⟩ (s_r_qPartTold_138 (by omega) hk2)
    · refine w_bipush rfl rfl ?_
      refine w_goto (tg := 138) rfl rfl ?_
      exact w_weak [(0, .ref 78), (1, .int (i32 v1)), (5, .int (i32 x1))] rfl ⟨rfl, rfl, rfl, trivial⟩ (s_r_qPartTold_138 (by omega) hk2)
theorem s_r_qPartTold_100 {d : Nat} {k2 : Int → xm → xr} (hd : 5 ≤ d) (hk2 : ∀ (v1 : Int) (m : xm), xw (am_E L xs bz) d am_m209 0 2 [(0, .ref 78), (1, .int (i32 v1))] [] m (k2 v1 m)) {v1 : Int} {v4 : Int} {m : xm} : xw (am_E L xs bz) d am_m209 0 100 [(0, .ref 78), (1, .int (i32 v1)), (4, .int (i32 v4))] [] m (r_qPartTold_100 k2 v1 v4 m) := by
  unfold r_qPartTold_100
  refine w_aload_n rfl rfl ?_
  refine w_call1 [.ref 78] [] (by omega) rfl rfl rfl rfl rfl rfl (Nat.le_of_ble_eq_true rfl) (fun _ => xrc_ok rfl) (Nat.le_of_ble_eq_true rfl) rfl rfl (s_r_look (by omega)) (fun r1 m2 => ?_)
  refine w_bipush rfl rfl ?_
  refine w_icmp_ne (tg := 116) rfl rfl rfl rfl ?_ ?_
  · refine w_iconst rfl ?_
    exact w_weak [(0, .ref 78), (1, .int (i32 v1)), (4, .int (i32 v4))] rfl ⟨rfl, rfl, rfl, trivial⟩ (s_r_qPartTold_117 (by omega) hk2)
  · refine w_aload_n rfl rfl ?_
    refine w_gfi rfl rfl (Nat.le_of_ble_eq_true rfl) rfl rfl ?_
    refine w_goto (tg := 117) rfl rfl ?_
    exact w_weak [(0, .ref 78), (1, .int (i32 v1)), (4, .int (i32 v4))] rfl ⟨rfl, rfl, rfl, trivial⟩ (s_r_qPartTold_117 (by omega) hk2)
theorem s_r_qPartTold_77 {d : Nat} {k2 : Int → xm → xr} (hd : 5 ≤ d) (hk2 : ∀ (v1 : Int) (m : xm), xw (am_E L xs bz) d am_m209 0 2 [(0, .ref 78), (1, .int (i32 v1))] [] m (k2 v1 m)) {v1 : Int} {m : xm} : xw (am_E L xs bz) d am_m209 0 77 [(0, .ref 78), (1, .int (i32 v1))] [] m (r_qPartTold_77 k2 v1 m) := by
  unfold r_qPartTold_77
  refine w_aload_n rfl rfl ?_
  refine w_aload_n rfl rfl ?_
  refine w_gfr (r := 129) rfl rfl (Nat.le_of_ble_eq_true rfl) rfl rfl ?_
  refine w_call1 [.ref 78, .ref 129] [] (by omega) rfl rfl rfl rfl rfl rfl (Nat.le_of_ble_eq_true rfl) (fun _ => xrc_ok rfl) (Nat.le_of_ble_eq_true rfl) rfl rfl (s_r_takes (by omega) rfl) (fun r1 m2 => ?_)
  refine w_istore (lsd := [(4, .int (i32 r1)), (0, .ref 78), (1, .int (i32 v1))]) rfl (Nat.le_of_ble_eq_true rfl) rfl ?_
  show xw _ _ _ _ 87 _ _ _ _
  refine w_iload rfl rfl ?_
  refine w_if_ne (tg := 100) rfl rfl rfl ?_ ?_
  · exact w_weak [(0, .ref 78), (1, .int (i32 v1)), (4, .int (i32 r1))] rfl ⟨rfl, rfl, rfl, trivial⟩ (s_r_qPartTold_100 (by omega) hk2)
  · refine w_aload_n rfl rfl ?_
    refine w_aload_n rfl rfl ?_
    refine w_gfr (r := 130) rfl rfl (Nat.le_of_ble_eq_true rfl) rfl rfl ?_
    refine w_call0 [.ref 78, .ref 130] [] (by omega) rfl rfl rfl rfl rfl rfl (Nat.le_of_ble_eq_true rfl) (fun _ => xrc_ok rfl) (Nat.le_of_ble_eq_true rfl) rfl rfl (s_r_asks (by omega) rfl) (fun r3 m4 => ?_)
    exact w_weak [(0, .ref 78), (1, .int (i32 v1)), (4, .int (i32 r1))] rfl ⟨rfl, rfl, rfl, trivial⟩ (s_r_qPartTold_100 (by omega) hk2)
theorem s_r_qPartTold_2 {d : Nat} (hd : 5 ≤ d) : ∀ (n : Nat) {v1 : Int} {m : xm}, xw (am_E L xs bz) d am_m209 0 2 [(0, .ref 78), (1, .int (i32 v1))] [] m (r_qPartTold_2 n v1 m) := by
  intro n
  induction n with
  | zero => intros; exact w_none
  | succ n ih =>
    intro v1 m
    have hk2 := fun (v1 : Int) (m : xm) => @ih v1 m
    unfold r_qPartTold_2
    refine w_iload_n rfl rfl ?_
    refine w_if_eq (tg := 184) rfl rfl rfl ?_ ?_
    · exact w_weak [(0, .ref 78)] rfl ⟨rfl, trivial⟩ (s_r_qPartTold_184 (by omega))
    · refine w_aload_n rfl rfl ?_
      refine w_gfi rfl rfl (Nat.le_of_ble_eq_true rfl) rfl rfl ?_
      refine w_if_ne (tg := 184) rfl rfl (w32_ld _ _ _) ?_ ?_
      · exact w_weak [(0, .ref 78)] rfl ⟨rfl, trivial⟩ (s_r_qPartTold_184 (by omega))
      · refine w_aload_n rfl rfl ?_
        refine w_call1 [.ref 78] [] (by omega) rfl rfl rfl rfl rfl rfl (Nat.le_of_ble_eq_true rfl) (fun _ => xrc_ok rfl) (Nat.le_of_ble_eq_true rfl) rfl rfl (s_r_look (by omega)) (fun r1 m2 => ?_)
        refine w_istore_n (lsd := [(2, .int (i32 r1)), (0, .ref 78), (1, .int (i32 v1))]) rfl (Nat.le_of_ble_eq_true rfl) rfl ?_
        refine w_aload_n rfl rfl ?_
        refine w_iconst rfl ?_
        show xw _ _ _ _ 20 _ _ _ _
        refine w_bipush rfl rfl ?_
        refine w_call1 [.ref 78, .int (i32 5), .int (i32 7)] [] (by omega) rfl rfl rfl rfl rfl rfl (Nat.le_of_ble_eq_true rfl) (fun _ => xrc_ok rfl) (Nat.le_of_ble_eq_true rfl) rfl rfl (s_r_qWordOf (by omega)) (fun r3 m4 => ?_)
        refine w_istore_n (lsd := [(3, .int (i32 r3)), (2, .int (i32 r1)), (0, .ref 78), (1, .int (i32 v1))]) rfl (Nat.le_of_ble_eq_true rfl) rfl ?_
        refine w_iload_n rfl rfl ?_
        refine w_bipush rfl rfl ?_
        refine w_icmp_ne (tg := 55) rfl rfl rfl rfl ?_ ?_
        · refine w_aload_n rfl rfl ?_
          refine w_aload_n rfl rfl ?_
          refine w_gfr (r := 129) rfl rfl (Nat.le_of_ble_eq_true rfl) rfl rfl ?_
          refine w_call1 [.ref 78, .ref 129] [] (by omega) rfl rfl rfl rfl rfl rfl (Nat.le_of_ble_eq_true rfl) (fun _ => xrc_ok rfl) (Nat.le_of_ble_eq_true rfl) rfl rfl (s_r_isHere (by omega) rfl) (fun r5 m6 => ?_)
          refine w_if_ne (tg := 77) rfl rfl rfl ?_ ?_
          · exact w_weak [(0, .ref 78), (1, .int (i32 v1))] rfl ⟨rfl, rfl, trivial⟩ (s_r_qPartTold_77 (by omega) hk2)
          · refine w_aload_n rfl rfl ?_
            refine w_aload_n rfl rfl ?_
            refine w_gfr (r := 130) rfl rfl (Nat.le_of_ble_eq_true rfl) rfl rfl ?_
            refine w_call1 [.ref 78, .ref 130] [] (by omega) rfl rfl rfl rfl rfl rfl (Nat.le_of_ble_eq_true rfl) (fun _ => xrc_ok rfl) (Nat.le_of_ble_eq_true rfl) rfl rfl (s_r_isHere (by omega) rfl) (fun r7 m8 => ?_)
            refine w_if_eq (tg := 152) rfl rfl rfl ?_ ?_
            · refine w_iload_n rfl rfl ?_
              refine w_iconst rfl ?_
              refine w_icmp_eq (tg := 179) rfl rfl rfl rfl ?_ ?_
              · refine w_iconst rfl ?_
                refine w_istore_n (lsd := [(1, .int (i32 0)), (3, .int (i32 r3)), (2, .int (i32 r1)), (0, .ref 78)]) rfl (Nat.le_of_ble_eq_true rfl) rfl ?_
                refine w_goto (tg := 2) rfl rfl ?_
                exact w_weak [(0, .ref 78), (1, .int (i32 0))] rfl ⟨rfl, rfl, trivial⟩ (hk2 0 m8)
              · refine w_aload_n rfl rfl ?_
                refine w_bipush rfl rfl ?_
                refine w_iload_n rfl rfl ?_
                refine w_iadd rfl ?_
                refine w_iconst rfl ?_
                show xw _ _ _ _ 163 _ _ _ _
                refine w_isub rfl ?_
                refine w_aload_n rfl rfl ?_
                refine w_gfi rfl rfl (Nat.le_of_ble_eq_true rfl) rfl rfl ?_
                refine w_call0 [.ref 78, .int (i32 ((60 + r3) - 5)), .int (i32 (ld m8 78 2))] [] (by omega) rfl rfl rfl rfl rfl rfl (Nat.le_of_ble_eq_true rfl) (fun _ => xrc_ok rfl) (Nat.le_of_ble_eq_true rfl) rfl rfl (s_r_qOpens (by omega)) (fun r9 m10 => ?_)
                refine w_aload_n rfl rfl ?_
                refine w_iload_n rfl rfl ?_
                show xw _ _ _ _ 173 _ _ _ _
                refine w_call0 [.ref 78, .int (i32 r3)] [] (by omega) rfl rfl rfl rfl rfl rfl (Nat.le_of_ble_eq_true rfl) (fun _ => xrc_ok rfl) (Nat.le_of_ble_eq_true rfl) rfl rfl (s_r_qAsksWord (by omega)) (fun r11 m12 => ?_)
                refine w_goto (tg := 181) rfl rfl ?_
                refine w_goto (tg := 2) rfl rfl ?_
                exact w_weak [(0, .ref 78), (1, .int (i32 v1))] rfl ⟨rfl, rfl, trivial⟩ (hk2 v1 m12)
            · exact w_weak [(0, .ref 78), (1, .int (i32 v1))] rfl ⟨rfl, rfl, trivial⟩ (s_r_qPartTold_77 (by omega) hk2)
        · refine w_aload_n rfl rfl ?_
          refine w_bipush rfl rfl ?_
          refine w_aload_n rfl rfl ?_
          refine w_gfi rfl rfl (Nat.le_of_ble_eq_true rfl) rfl rfl ?_
          refine w_call0 [.ref 78, .int (i32 20), .int (i32 (ld m4 78 2))] [] (by omega) rfl rfl rfl rfl rfl rfl (Nat.le_of_ble_eq_true rfl) (fun _ => xrc_ok rfl) (Nat.le_of_ble_eq_true rfl) rfl rfl (s_r_qOpens (by omega)) (fun r13 m14 => ?_)
          show xw _ _ _ _ 42 _ _ _ _
          refine w_aload_n rfl rfl ?_
          refine w_dup rfl rfl ?_
          refine w_gfi rfl rfl (Nat.le_of_ble_eq_true rfl) rfl rfl ?_
          refine w_iconst rfl ?_
          refine w_iadd rfl ?_
          refine w_pfi rfl rfl (Nat.le_of_ble_eq_true rfl) rfl rfl rfl (fun m15 => ?_)
          show xw _ _ _ _ 52 _ _ _ _
          refine w_goto (tg := 181) rfl rfl ?_
          refine w_goto (tg := 2) rfl rfl ?_
          exact w_weak [(0, .ref 78), (1, .int (i32 v1))] rfl ⟨rfl, rfl, trivial⟩ (hk2 v1 m15)
theorem s_r_qPartTold {d : Nat} {m : xm} (hd : 5 ≤ d) : xw (am_E L xs bz) d am_m209 0 0 [(0, .ref 78)] [] m (r_qPartTold m) := by
  unfold r_qPartTold
  refine w_iconst rfl ?_
  refine w_istore_n (lsd := [(1, .int (i32 1)), (0, .ref 78)]) rfl (Nat.le_of_ble_eq_true rfl) rfl ?_
  exact w_weak [(0, .ref 78), (1, .int (i32 1))] rfl ⟨rfl, rfl, trivial⟩ (s_r_qPartTold_2 (by omega) _)
theorem s_r_qIsOn {d : Nat} {v1 : Int} {m : xm} (hd : 0 ≤ d) : xw (am_E L xs bz) d am_m222 1 0 [(0, .ref 78), (1, .int (i32 v1))] [] m (r_qIsOn v1 m) := by
  unfold r_qIsOn
  refine w_aload_n rfl rfl ?_
  refine w_gfi rfl rfl (Nat.le_of_ble_eq_true rfl) rfl rfl ?_
  refine w_if_le (tg := 26) rfl rfl (w32_ld _ _ _) ?_ ?_
  · refine w_iconst rfl ?_
    exact w_retv rfl rfl
  · refine w_aload_n rfl rfl ?_
    refine w_gfr (r := 139) rfl rfl (Nat.le_of_ble_eq_true rfl) rfl rfl ?_
    refine w_aload_n rfl rfl ?_
    refine w_gfi rfl rfl (Nat.le_of_ble_eq_true rfl) rfl rfl ?_
    refine w_iconst rfl ?_
    show xw _ _ _ _ 16 _ _ _ _
    refine w_isub rfl ?_
    refine w_iaload rfl rfl (fun x1 => ?_)
    refine w_iload_n rfl rfl ?_
    refine w_icmp_ne (tg := 26) rfl rfl rfl rfl ?_ ?_
    · refine w_iconst rfl ?_
      exact w_retv rfl rfl
    · refine w_iconst rfl ?_
      refine w_goto (tg := 27) rfl rfl ?_
      exact w_retv rfl rfl
theorem s_r_qIsBracket {d : Nat} {v0 : Int} {m : xm} (hd : 0 ≤ d) : xw (am_E L xs bz) d am_m220 1 0 [(0, .int (i32 v0))] [] m (r_qIsBracket v0 m) := by
  unfold r_qIsBracket
  refine w_iload_n rfl rfl ?_
  refine w_bipush rfl rfl ?_
  refine w_icmp_lt (tg := 16) rfl rfl rfl rfl ?_ ?_
  · refine w_iconst rfl ?_
    exact w_retv rfl rfl
  · refine w_iload_n rfl rfl ?_
    refine w_bipush rfl rfl ?_
    refine w_icmp_gt (tg := 16) rfl rfl rfl rfl ?_ ?_
    · refine w_iconst rfl ?_
      exact w_retv rfl rfl
    · refine w_iconst rfl ?_
      refine w_goto (tg := 17) rfl rfl ?_
      exact w_retv rfl rfl
theorem s_r_qBracket_33 {d : Nat} (hd : 1 ≤ d) {v1 : Int} {m : xm} : xw (am_E L xs bz) d am_m219 1 33 [(0, .ref 78), (1, .int (i32 v1))] [] m (r_qBracket_33 v1 m) := by
  unfold r_qBracket_33
  refine w_iload_n rfl rfl ?_
  refine w_aload_n rfl rfl ?_
  refine w_gfi rfl rfl (Nat.le_of_ble_eq_true rfl) rfl rfl ?_
  refine w_icmp_lt (tg := 50) rfl rfl rfl (w32_ld _ _ _) ?_ ?_
  · refine w_iconst rfl ?_
    exact w_retv rfl rfl
  · refine w_aload_n rfl rfl ?_
    refine w_gfr (r := 139) rfl rfl (Nat.le_of_ble_eq_true rfl) rfl rfl ?_
    refine w_iload_n rfl rfl ?_
    refine w_iaload rfl rfl (fun x1 => ?_)
    refine w_goto (tg := 51) rfl rfl ?_
    show xw _ _ _ _ 51 _ _ _ _
    exact w_retv rfl rfl
theorem s_r_qBracket_7 {d : Nat} (hd : 1 ≤ d) : ∀ (n : Nat) {v1 : Int} {m : xm}, xw (am_E L xs bz) d am_m219 1 7 [(0, .ref 78), (1, .int (i32 v1))] [] m (r_qBracket_7 n v1 m) := by
  intro n
  induction n with
  | zero => intros; exact w_none
  | succ n ih =>
    intro v1 m
    have hk7 := fun (v1 : Int) (m : xm) => @ih v1 m
    unfold r_qBracket_7
    refine w_iload_n rfl rfl ?_
    refine w_aload_n rfl rfl ?_
    refine w_gfi rfl rfl (Nat.le_of_ble_eq_true rfl) rfl rfl ?_
    refine w_icmp_lt (tg := 33) rfl rfl rfl (w32_ld _ _ _) ?_ ?_
    · exact w_weak [(0, .ref 78), (1, .int (i32 v1))] rfl ⟨rfl, rfl, trivial⟩ (s_r_qBracket_33 (by omega))
    · refine w_aload_n rfl rfl ?_
      refine w_gfr (r := 139) rfl rfl (Nat.le_of_ble_eq_true rfl) rfl rfl ?_
      refine w_iload_n rfl rfl ?_
      refine w_iaload rfl rfl (fun x1 => ?_)
      refine w_call1 [.int (i32 x1)] [] (by omega) rfl rfl rfl rfl rfl rfl (Nat.le_of_ble_eq_true rfl) (fun z => by cases z) (Nat.le_of_ble_eq_true rfl) rfl rfl (s_r_qIsBracket (by omega)) (fun r2 m3 => ?_)
      show xw _ _ _ _ 24 _ _ _ _
      refine w_if_ne (tg := 33) rfl rfl rfl ?_ ?_
      · exact w_weak [(0, .ref 78), (1, .int (i32 v1))] rfl ⟨rfl, rfl, trivial⟩ (s_r_qBracket_33 (by omega))
      · refine w_iinc (lsd := [(1, .int (i32 (v1 + (-1)))), (0, .ref 78)]) rfl (Nat.le_of_ble_eq_true rfl) rfl rfl ?_
        refine w_goto (tg := 7) rfl rfl ?_
        exact w_weak [(0, .ref 78), (1, .int (i32 (v1 + (-1))))] rfl ⟨rfl, rfl, trivial⟩ (hk7 (v1 + (-1)) m3)
theorem s_r_qBracket {d : Nat} {m : xm} (hd : 1 ≤ d) : xw (am_E L xs bz) d am_m219 1 0 [(0, .ref 78)] [] m (r_qBracket m) := by
  unfold r_qBracket
  refine w_aload_n rfl rfl ?_
  refine w_gfi rfl rfl (Nat.le_of_ble_eq_true rfl) rfl rfl ?_
  refine w_iconst rfl ?_
  refine w_isub rfl ?_
  refine w_letI (fun x1 => ?_)
  refine w_istore_n (lsd := [(1, .int (i32 x1)), (0, .ref 78)]) rfl (Nat.le_of_ble_eq_true rfl) rfl ?_
  exact w_weak [(0, .ref 78), (1, .int (i32 x1))] rfl ⟨rfl, rfl, trivial⟩ (s_r_qBracket_7 (by omega) _)
theorem s_r_qDropsToBracket_0 {d : Nat} (hd : 2 ≤ d) : ∀ (n : Nat) {m : xm}, xw (am_E L xs bz) d am_m221 0 0 [(0, .ref 78)] [] m (r_qDropsToBracket_0 n m) := by
  intro n
  induction n with
  | zero => intros; exact w_none
  | succ n ih =>
    intro m
    have hk0 := fun (m : xm) => @ih m
    unfold r_qDropsToBracket_0
    refine w_aload_n rfl rfl ?_
    refine w_gfi rfl rfl (Nat.le_of_ble_eq_true rfl) rfl rfl ?_
    refine w_aload_n rfl rfl ?_
    refine w_gfi rfl rfl (Nat.le_of_ble_eq_true rfl) rfl rfl ?_
    refine w_icmp_le (tg := 35) rfl rfl (w32_ld _ _ _) (w32_ld _ _ _) ?_ ?_
    · exact w_retv (x := 0) rfl rfl
    · refine w_aload_n rfl rfl ?_
      refine w_gfr (r := 139) rfl rfl (Nat.le_of_ble_eq_true rfl) rfl rfl ?_
      refine w_aload_n rfl rfl ?_
      refine w_gfi rfl rfl (Nat.le_of_ble_eq_true rfl) rfl rfl ?_
      refine w_iconst rfl ?_
      show xw _ _ _ _ 20 _ _ _ _
      refine w_isub rfl ?_
      refine w_iaload rfl rfl (fun x1 => ?_)
      refine w_call1 [.int (i32 x1)] [] (by omega) rfl rfl rfl rfl rfl rfl (Nat.le_of_ble_eq_true rfl) (fun z => by cases z) (Nat.le_of_ble_eq_true rfl) rfl rfl (s_r_qIsBracket (by omega)) (fun r2 m3 => ?_)
      refine w_if_ne (tg := 35) rfl rfl rfl ?_ ?_
      · exact w_retv (x := 0) rfl rfl
      · refine w_aload_n rfl rfl ?_
        refine w_call0 [.ref 78] [] (by omega) rfl rfl rfl rfl rfl rfl (Nat.le_of_ble_eq_true rfl) (fun _ => xrc_ok rfl) (Nat.le_of_ble_eq_true rfl) rfl rfl (s_r_qDrops (by omega)) (fun r4 m5 => ?_)
        refine w_goto (tg := 0) rfl rfl ?_
        exact w_weak [(0, .ref 78)] rfl ⟨rfl, trivial⟩ (hk0 m5)
theorem s_r_qDropsToBracket {d : Nat} {m : xm} (hd : 2 ≤ d) : xw (am_E L xs bz) d am_m221 0 0 [(0, .ref 78)] [] m (r_qDropsToBracket m) := by
  unfold r_qDropsToBracket
  exact w_weak [(0, .ref 78)] rfl ⟨rfl, trivial⟩ (s_r_qDropsToBracket_0 (by omega) _)
theorem s_r_qGoesOn_178 {d : Nat} {k162 : Int → xm → xr} (hd : 3 ≤ d) (hk162 : ∀ (v1 : Int) (m : xm), xw (am_E L xs bz) d am_m218 1 162 [(0, .ref 78), (1, .int (i32 v1))] [] m (k162 v1 m)) {v1 : Int} {m : xm} : xw (am_E L xs bz) d am_m218 1 178 [(0, .ref 78), (1, .int (i32 v1))] [] m (r_qGoesOn_178 k162 v1 m) := by
  unfold r_qGoesOn_178
  refine w_aload_n rfl rfl ?_
  refine w_call0 [.ref 78] [] (by omega) rfl rfl rfl rfl rfl rfl (Nat.le_of_ble_eq_true rfl) (fun _ => xrc_ok rfl) (Nat.le_of_ble_eq_true rfl) rfl rfl (s_r_qDrops (by omega)) (fun r1 m2 => ?_)
  refine w_goto (tg := 162) rfl rfl ?_
  exact w_weak [(0, .ref 78), (1, .int (i32 v1))] rfl ⟨rfl, rfl, trivial⟩ (hk162 v1 m2)
theorem s_r_qGoesOn_185 {d : Nat} (hd : 3 ≤ d) {v1 : Int} {m : xm} : xw (am_E L xs bz) d am_m218 1 185 [(0, .ref 78), (1, .int (i32 v1))] [] m (r_qGoesOn_185 v1 m) := by
  unfold r_qGoesOn_185
  refine w_aload_n rfl rfl ?_
  refine w_gfr (r := 139) rfl rfl (Nat.le_of_ble_eq_true rfl) rfl rfl ?_
  refine w_aload_n rfl rfl ?_
  refine w_gfi rfl rfl (Nat.le_of_ble_eq_true rfl) rfl rfl ?_
  refine w_iload_n rfl rfl ?_
  show xw _ _ _ _ 194 _ _ _ _
  refine w_iastore rfl rfl (fun m1 => ?_)
  refine w_aload_n rfl rfl ?_
  refine w_dup rfl rfl ?_
  refine w_gfi rfl rfl (Nat.le_of_ble_eq_true rfl) rfl rfl ?_
  refine w_iconst rfl ?_
  refine w_iadd rfl ?_
  show xw _ _ _ _ 202 _ _ _ _
  refine w_pfi rfl rfl (Nat.le_of_ble_eq_true rfl) rfl rfl rfl (fun m2 => ?_)
  refine w_iconst rfl ?_
  exact w_retv rfl rfl
theorem s_r_qGoesOn_162 {d : Nat} (hd : 3 ≤ d) : ∀ (n : Nat) {v1 : Int} {m : xm}, xw (am_E L xs bz) d am_m218 1 162 [(0, .ref 78), (1, .int (i32 v1))] [] m (r_qGoesOn_162 n v1 m) := by
  intro n
  induction n with
  | zero => intros; exact w_none
  | succ n ih =>
    intro v1 m
    have hk162 := fun (v1 : Int) (m : xm) => @ih v1 m
    unfold r_qGoesOn_162
    refine w_aload_n rfl rfl ?_
    refine w_iconst rfl ?_
    refine w_call1 [.ref 78, .int (i32 3)] [] (by omega) rfl rfl rfl rfl rfl rfl (Nat.le_of_ble_eq_true rfl) (fun _ => xrc_ok rfl) (Nat.le_of_ble_eq_true rfl) rfl rfl (s_r_qIsOn (by omega)) (fun r1 m2 => ?_)
    refine w_if_ne (tg := 178) rfl rfl rfl ?_ ?_
    · exact w_weak [(0, .ref 78), (1, .int (i32 v1))] rfl ⟨rfl, rfl, trivial⟩ (s_r_qGoesOn_178 (by omega) hk162)
    · refine w_aload_n rfl rfl ?_
      refine w_iconst rfl ?_
      refine w_call1 [.ref 78, .int (i32 4)] [] (by omega) rfl rfl rfl rfl rfl rfl (Nat.le_of_ble_eq_true rfl) (fun _ => xrc_ok rfl) (Nat.le_of_ble_eq_true rfl) rfl rfl (s_r_qIsOn (by omega)) (fun r3 m4 => ?_)
      refine w_if_eq (tg := 185) rfl rfl rfl ?_ ?_
      · exact w_weak [(0, .ref 78), (1, .int (i32 v1))] rfl ⟨rfl, rfl, trivial⟩ (s_r_qGoesOn_185 (by omega))
      · exact w_weak [(0, .ref 78), (1, .int (i32 v1))] rfl ⟨rfl, rfl, trivial⟩ (s_r_qGoesOn_178 (by omega) hk162)
theorem s_r_qGoesOn_161 {d : Nat} (hd : 3 ≤ d) {s0 : Int} {m : xm} : xw (am_E L xs bz) d am_m218 1 161 [(0, .ref 78)] [.int (i32 s0)] m (r_qGoesOn_161 s0 m) := by
  unfold r_qGoesOn_161
  refine w_letI (fun x1 => ?_)
  refine w_istore_n (lsd := [(1, .int (i32 x1)), (0, .ref 78)]) rfl (Nat.le_of_ble_eq_true rfl) rfl ?_
  exact w_weak [(0, .ref 78), (1, .int (i32 x1))] rfl ⟨rfl, rfl, trivial⟩ (s_r_qGoesOn_162 (by omega) _)
theorem s_r_qGoesOn_140 {d : Nat} (hd : 3 ≤ d) {m : xm} : xw (am_E L xs bz) d am_m218 1 140 [(0, .ref 78)] [] m (r_qGoesOn_140 m) := by
  unfold r_qGoesOn_140
  refine w_aload_n rfl rfl ?_
  refine w_gfr (r := 79) rfl rfl (Nat.le_of_ble_eq_true rfl) rfl rfl ?_
  refine w_aload_n rfl rfl ?_
  refine w_gfi rfl rfl (Nat.le_of_ble_eq_true rfl) rfl rfl ?_
  refine w_iconst rfl ?_
  show xw _ _ _ _ 149 _ _ _ _
  refine w_isub rfl ?_
  refine w_iaload rfl rfl (fun x1 => ?_)
  refine w_bipush rfl rfl ?_
  refine w_icmp_ne (tg := 160) rfl rfl rfl rfl ?_ ?_
  · refine w_iconst rfl ?_
    exact w_weak [(0, .ref 78)] rfl ⟨rfl, trivial⟩ (s_r_qGoesOn_161 (by omega))
  · refine w_iconst rfl ?_
    refine w_goto (tg := 161) rfl rfl ?_
    exact w_weak [(0, .ref 78)] rfl ⟨rfl, trivial⟩ (s_r_qGoesOn_161 (by omega))
theorem s_r_qGoesOn_279 {d : Nat} {k247 : Int → xm → xr} (hd : 3 ≤ d) (hk247 : ∀ (v1 : Int) (m : xm), xw (am_E L xs bz) d am_m218 1 247 [(0, .ref 78), (1, .int (i32 v1))] [] m (k247 v1 m)) {v1 : Int} {m : xm} : xw (am_E L xs bz) d am_m218 1 279 [(0, .ref 78), (1, .int (i32 v1))] [] m (r_qGoesOn_279 k247 v1 m) := by
  unfold r_qGoesOn_279
  refine w_aload_n rfl rfl ?_
  refine w_call0 [.ref 78] [] (by omega) rfl rfl rfl rfl rfl rfl (Nat.le_of_ble_eq_true rfl) (fun _ => xrc_ok rfl) (Nat.le_of_ble_eq_true rfl) rfl rfl (s_r_qDrops (by omega)) (fun r1 m2 => ?_)
  refine w_goto (tg := 247) rfl rfl ?_
  exact w_weak [(0, .ref 78), (1, .int (i32 v1))] rfl ⟨rfl, rfl, trivial⟩ (hk247 v1 m2)
theorem s_r_qGoesOn_286 {d : Nat} (hd : 3 ≤ d) {v1 : Int} {m : xm} : xw (am_E L xs bz) d am_m218 1 286 [(0, .ref 78), (1, .int (i32 v1))] [] m (r_qGoesOn_286 v1 m) := by
  unfold r_qGoesOn_286
  refine w_aload_n rfl rfl ?_
  refine w_gfr (r := 139) rfl rfl (Nat.le_of_ble_eq_true rfl) rfl rfl ?_
  refine w_aload_n rfl rfl ?_
  refine w_gfi rfl rfl (Nat.le_of_ble_eq_true rfl) rfl rfl ?_
  refine w_iload_n rfl rfl ?_
  show xw _ _ _ _ 295 _ _ _ _
  refine w_iastore rfl rfl (fun m1 => ?_)
  refine w_aload_n rfl rfl ?_
  refine w_dup rfl rfl ?_
  refine w_gfi rfl rfl (Nat.le_of_ble_eq_true rfl) rfl rfl ?_
  refine w_iconst rfl ?_
  refine w_iadd rfl ?_
  show xw _ _ _ _ 303 _ _ _ _
  refine w_pfi rfl rfl (Nat.le_of_ble_eq_true rfl) rfl rfl rfl (fun m2 => ?_)
  refine w_iconst rfl ?_
  exact w_retv rfl rfl
theorem s_r_qGoesOn_247 {d : Nat} (hd : 3 ≤ d) : ∀ (n : Nat) {v1 : Int} {m : xm}, xw (am_E L xs bz) d am_m218 1 247 [(0, .ref 78), (1, .int (i32 v1))] [] m (r_qGoesOn_247 n v1 m) := by
  intro n
  induction n with
  | zero => intros; exact w_none
  | succ n ih =>
    intro v1 m
    have hk247 := fun (v1 : Int) (m : xm) => @ih v1 m
    unfold r_qGoesOn_247
    refine w_aload_n rfl rfl ?_
    refine w_iconst rfl ?_
    refine w_call1 [.ref 78, .int (i32 3)] [] (by omega) rfl rfl rfl rfl rfl rfl (Nat.le_of_ble_eq_true rfl) (fun _ => xrc_ok rfl) (Nat.le_of_ble_eq_true rfl) rfl rfl (s_r_qIsOn (by omega)) (fun r1 m2 => ?_)
    refine w_if_ne (tg := 279) rfl rfl rfl ?_ ?_
    · exact w_weak [(0, .ref 78), (1, .int (i32 v1))] rfl ⟨rfl, rfl, trivial⟩ (s_r_qGoesOn_279 (by omega) hk247)
    · refine w_aload_n rfl rfl ?_
      refine w_iconst rfl ?_
      refine w_call1 [.ref 78, .int (i32 4)] [] (by omega) rfl rfl rfl rfl rfl rfl (Nat.le_of_ble_eq_true rfl) (fun _ => xrc_ok rfl) (Nat.le_of_ble_eq_true rfl) rfl rfl (s_r_qIsOn (by omega)) (fun r3 m4 => ?_)
      refine w_if_ne (tg := 279) rfl rfl rfl ?_ ?_
      · exact w_weak [(0, .ref 78), (1, .int (i32 v1))] rfl ⟨rfl, rfl, trivial⟩ (s_r_qGoesOn_279 (by omega) hk247)
      · refine w_aload_n rfl rfl ?_
        refine w_iconst rfl ?_
        refine w_call1 [.ref 78, .int (i32 1)] [] (by omega) rfl rfl rfl rfl rfl rfl (Nat.le_of_ble_eq_true rfl) (fun _ => xrc_ok rfl) (Nat.le_of_ble_eq_true rfl) rfl rfl (s_r_qIsOn (by omega)) (fun r5 m6 => ?_)
        refine w_if_ne (tg := 279) rfl rfl rfl ?_ ?_
        · exact w_weak [(0, .ref 78), (1, .int (i32 v1))] rfl ⟨rfl, rfl, trivial⟩ (s_r_qGoesOn_279 (by omega) hk247)
        · refine w_aload_n rfl rfl ?_
          refine w_iconst rfl ?_
          refine w_call1 [.ref 78, .int (i32 2)] [] (by omega) rfl rfl rfl rfl rfl rfl (Nat.le_of_ble_eq_true rfl) (fun _ => xrc_ok rfl) (Nat.le_of_ble_eq_true rfl) rfl rfl (s_r_qIsOn (by omega)) (fun r7 m8 => ?_)
          refine w_if_eq (tg := 286) rfl rfl rfl ?_ ?_
          · exact w_weak [(0, .ref 78), (1, .int (i32 v1))] rfl ⟨rfl, rfl, trivial⟩ (s_r_qGoesOn_286 (by omega))
          · exact w_weak [(0, .ref 78), (1, .int (i32 v1))] rfl ⟨rfl, rfl, trivial⟩ (s_r_qGoesOn_279 (by omega) hk247)
theorem s_r_qGoesOn_246 {d : Nat} (hd : 3 ≤ d) {s0 : Int} {m : xm} : xw (am_E L xs bz) d am_m218 1 246 [(0, .ref 78)] [.int (i32 s0)] m (r_qGoesOn_246 s0 m) := by
  unfold r_qGoesOn_246
  refine w_letI (fun x1 => ?_)
  refine w_istore_n (lsd := [(1, .int (i32 x1)), (0, .ref 78)]) rfl (Nat.le_of_ble_eq_true rfl) rfl ?_
  exact w_weak [(0, .ref 78), (1, .int (i32 x1))] rfl ⟨rfl, rfl, trivial⟩ (s_r_qGoesOn_247 (by omega) _)
theorem s_r_qGoesOn_225 {d : Nat} (hd : 3 ≤ d) {m : xm} : xw (am_E L xs bz) d am_m218 1 225 [(0, .ref 78)] [] m (r_qGoesOn_225 m) := by
  unfold r_qGoesOn_225
  refine w_aload_n rfl rfl ?_
  refine w_gfr (r := 79) rfl rfl (Nat.le_of_ble_eq_true rfl) rfl rfl ?_
  refine w_aload_n rfl rfl ?_
  refine w_gfi rfl rfl (Nat.le_of_ble_eq_true rfl) rfl rfl ?_
  refine w_iconst rfl ?_
  show xw _ _ _ _ 234 _ _ _ _
  refine w_isub rfl ?_
  refine w_iaload rfl rfl (fun x1 => ?_)
  refine w_bipush rfl rfl ?_
  refine w_icmp_ne (tg := 245) rfl rfl rfl rfl ?_ ?_
  · refine w_iconst rfl ?_
    exact w_weak [(0, .ref 78)] rfl ⟨rfl, trivial⟩ (s_r_qGoesOn_246 (by omega))
  · refine w_iconst rfl ?_
    refine w_goto (tg := 246) rfl rfl ?_
    exact w_weak [(0, .ref 78)] rfl ⟨rfl, trivial⟩ (s_r_qGoesOn_246 (by omega))
theorem s_r_qGoesOn_326 {d : Nat} (hd : 3 ≤ d) {m : xm} : xw (am_E L xs bz) d am_m218 1 326 [(0, .ref 78)] [] m (r_qGoesOn_326 m) := by
  unfold r_qGoesOn_326
  refine w_aload_n rfl rfl ?_
  refine w_bipush rfl rfl ?_
  refine w_call0 [.ref 78, .int (i32 44)] [] (by omega) rfl rfl rfl rfl rfl rfl (Nat.le_of_ble_eq_true rfl) (fun _ => xrc_ok rfl) (Nat.le_of_ble_eq_true rfl) rfl rfl (s_r_asksSign (by omega)) (fun r1 m2 => ?_)
  refine w_aload_n rfl rfl ?_
  refine w_gfi rfl rfl (Nat.le_of_ble_eq_true rfl) rfl rfl ?_
  show xw _ _ _ _ 336 _ _ _ _
  refine w_if_eq (tg := 341) rfl rfl (w32_ld _ _ _) ?_ ?_
  · refine w_aload_n rfl rfl ?_
    refine w_call0 [.ref 78] [] (by omega) rfl rfl rfl rfl rfl rfl (Nat.le_of_ble_eq_true rfl) (fun _ => xrc_ok rfl) (Nat.le_of_ble_eq_true rfl) rfl rfl (s_r_qDropsToBracket (by omega)) (fun r3 m4 => ?_)
    refine w_aload_n rfl rfl ?_
    refine w_gfr (r := 139) rfl rfl (Nat.le_of_ble_eq_true rfl) rfl rfl ?_
    refine w_aload_n rfl rfl ?_
    show xw _ _ _ _ 350 _ _ _ _
    refine w_gfi rfl rfl (Nat.le_of_ble_eq_true rfl) rfl rfl ?_
    refine w_iconst rfl ?_
    refine w_isub rfl ?_
    refine w_dup2 rfl rfl rfl ?_
    refine w_iaload rfl rfl (fun x5 => ?_)
    refine w_iconst rfl ?_
    show xw _ _ _ _ 358 _ _ _ _
    refine w_iadd rfl ?_
    refine w_iastore rfl rfl (fun m6 => ?_)
    refine w_iconst rfl ?_
    exact w_retv rfl rfl
  · refine w_iconst rfl ?_
    exact w_retv rfl rfl
theorem s_r_qGoesOn_122 {d : Nat} (hd : 3 ≤ d) {m : xm} : xw (am_E L xs bz) d am_m218 1 122 [(0, .ref 78)] [] m (r_qGoesOn_122 m) := by
  unfold r_qGoesOn_122
  refine w_aload_n rfl rfl ?_
  refine w_bipush rfl rfl ?_
  refine w_call1 [.ref 78, .int (i32 42)] [] (by omega) rfl rfl rfl rfl rfl rfl (Nat.le_of_ble_eq_true rfl) (fun _ => xrc_ok rfl) (Nat.le_of_ble_eq_true rfl) rfl rfl (s_r_takesSign (by omega)) (fun r1 m2 => ?_)
  refine w_if_ne (tg := 140) rfl rfl rfl ?_ ?_
  · exact w_weak [(0, .ref 78)] rfl ⟨rfl, trivial⟩ (s_r_qGoesOn_140 (by omega))
  · refine w_aload_n rfl rfl ?_
    refine w_bipush rfl rfl ?_
    refine w_call1 [.ref 78, .int (i32 47)] [] (by omega) rfl rfl rfl rfl rfl rfl (Nat.le_of_ble_eq_true rfl) (fun _ => xrc_ok rfl) (Nat.le_of_ble_eq_true rfl) rfl rfl (s_r_takesSign (by omega)) (fun r3 m4 => ?_)
    refine w_if_eq (tg := 207) rfl rfl rfl ?_ ?_
    · refine w_aload_n rfl rfl ?_
      refine w_bipush rfl rfl ?_
      refine w_call1 [.ref 78, .int (i32 43)] [] (by omega) rfl rfl rfl rfl rfl rfl (Nat.le_of_ble_eq_true rfl) (fun _ => xrc_ok rfl) (Nat.le_of_ble_eq_true rfl) rfl rfl (s_r_takesSign (by omega)) (fun r5 m6 => ?_)
      refine w_if_ne (tg := 225) rfl rfl rfl ?_ ?_
      · exact w_weak [(0, .ref 78)] rfl ⟨rfl, trivial⟩ (s_r_qGoesOn_225 (by omega))
      · refine w_aload_n rfl rfl ?_
        refine w_bipush rfl rfl ?_
        refine w_call1 [.ref 78, .int (i32 45)] [] (by omega) rfl rfl rfl rfl rfl rfl (Nat.le_of_ble_eq_true rfl) (fun _ => xrc_ok rfl) (Nat.le_of_ble_eq_true rfl) rfl rfl (s_r_takesSign (by omega)) (fun r7 m8 => ?_)
        refine w_if_eq (tg := 308) rfl rfl rfl ?_ ?_
        · refine w_aload_n rfl rfl ?_
          refine w_call1 [.ref 78] [] (by omega) rfl rfl rfl rfl rfl rfl (Nat.le_of_ble_eq_true rfl) (fun _ => xrc_ok rfl) (Nat.le_of_ble_eq_true rfl) rfl rfl (s_r_qBracket (by omega)) (fun r9 m10 => ?_)
          refine w_bipush rfl rfl ?_
          refine w_icmp_eq (tg := 326) rfl rfl rfl rfl ?_ ?_
          · exact w_weak [(0, .ref 78)] rfl ⟨rfl, trivial⟩ (s_r_qGoesOn_326 (by omega))
          · refine w_aload_n rfl rfl ?_
            refine w_call1 [.ref 78] [] (by omega) rfl rfl rfl rfl rfl rfl (Nat.le_of_ble_eq_true rfl) (fun _ => xrc_ok rfl) (Nat.le_of_ble_eq_true rfl) rfl rfl (s_r_qBracket (by omega)) (fun r11 m12 => ?_)
            refine w_bipush rfl rfl ?_
            refine w_icmp_ne (tg := 362) rfl rfl rfl rfl ?_ ?_
            · refine w_aload_n rfl rfl ?_
              refine w_call1 [.ref 78] [] (by omega) rfl rfl rfl rfl rfl rfl (Nat.le_of_ble_eq_true rfl) (fun _ => xrc_ok rfl) (Nat.le_of_ble_eq_true rfl) rfl rfl (s_r_qBracket (by omega)) (fun r13 m14 => ?_)
              refine w_iconst rfl ?_
              refine w_icmp_eq (tg := 386) rfl rfl rfl rfl ?_ ?_
              · refine w_iconst rfl ?_
                exact w_retv rfl rfl
              · refine w_aload_n rfl rfl ?_
                refine w_gfi rfl rfl (Nat.le_of_ble_eq_true rfl) rfl rfl ?_
                refine w_if_ne (tg := 386) rfl rfl (w32_ld _ _ _) ?_ ?_
                · refine w_iconst rfl ?_
                  exact w_retv rfl rfl
                · refine w_aload_n rfl rfl ?_
                  refine w_iconst rfl ?_
                  refine w_aload_n rfl rfl ?_
                  refine w_gfi rfl rfl (Nat.le_of_ble_eq_true rfl) rfl rfl ?_
                  refine w_call0 [.ref 78, .int (i32 1), .int (i32 (ld m14 78 2))] [] (by omega) rfl rfl rfl rfl rfl rfl (Nat.le_of_ble_eq_true rfl) (fun _ => xrc_ok rfl) (Nat.le_of_ble_eq_true rfl) rfl rfl (s_r_fail (by omega)) (fun r15 m16 => ?_)
                  show xw _ _ _ _ 386 _ _ _ _
                  refine w_iconst rfl ?_
                  exact w_retv rfl rfl
            · exact w_weak [(0, .ref 78)] rfl ⟨rfl, trivial⟩ (s_r_qGoesOn_326 (by omega))
        · exact w_weak [(0, .ref 78)] rfl ⟨rfl, trivial⟩ (s_r_qGoesOn_225 (by omega))
    · exact w_weak [(0, .ref 78)] rfl ⟨rfl, trivial⟩ (s_r_qGoesOn_140 (by omega))
theorem s_r_qGoesOn_115 {d : Nat} {k0 : xm → xr} (hd : 3 ≤ d) (hk0 : ∀ (m : xm), xw (am_E L xs bz) d am_m218 1 0 [(0, .ref 78)] [] m (k0 m)) {m : xm} : xw (am_E L xs bz) d am_m218 1 115 [(0, .ref 78)] [] m (r_qGoesOn_115 k0 m) := by
  unfold r_qGoesOn_115
  refine w_aload_n rfl rfl ?_
  refine w_call0 [.ref 78] [] (by omega) rfl rfl rfl rfl rfl rfl (Nat.le_of_ble_eq_true rfl) (fun _ => xrc_ok rfl) (Nat.le_of_ble_eq_true rfl) rfl rfl (s_r_qEndsPart (by omega)) (fun r1 m2 => ?_)
  refine w_goto (tg := 0) rfl rfl ?_
  exact w_weak [(0, .ref 78)] rfl ⟨rfl, trivial⟩ (hk0 m2)
theorem s_r_qGoesOn_112 {d : Nat} {k0 : xm → xr} (hd : 3 ≤ d) (hk0 : ∀ (m : xm), xw (am_E L xs bz) d am_m218 1 0 [(0, .ref 78)] [] m (k0 m)) {s1 : Int} {m : xm} : xw (am_E L xs bz) d am_m218 1 112 [(0, .ref 78)] [.int (i32 s1), .ref 78] m (r_qGoesOn_112 k0 s1 m) := by
  unfold r_qGoesOn_112
  refine w_call0 [.ref 78, .int (i32 s1)] [] (by omega) rfl rfl rfl rfl rfl rfl (Nat.le_of_ble_eq_true rfl) (fun _ => xrc_ok rfl) (Nat.le_of_ble_eq_true rfl) rfl rfl (s_r_qCode (by omega)) (fun r1 m2 => ?_)
  exact w_weak [(0, .ref 78)] rfl ⟨rfl, trivial⟩ (s_r_qGoesOn_115 (by omega) hk0)
theorem s_r_qGoesOn_43 {d : Nat} {k0 : xm → xr} (hd : 3 ≤ d) (hk0 : ∀ (m : xm), xw (am_E L xs bz) d am_m218 1 0 [(0, .ref 78)] [] m (k0 m)) {m : xm} : xw (am_E L xs bz) d am_m218 1 43 [(0, .ref 78)] [] m (r_qGoesOn_43 k0 m) := by
  unfold r_qGoesOn_43
  refine w_aload_n rfl rfl ?_
  refine w_dup rfl rfl ?_
  refine w_gfi rfl rfl (Nat.le_of_ble_eq_true rfl) rfl rfl ?_
  refine w_iconst rfl ?_
  refine w_iadd rfl ?_
  show xw _ _ _ _ 50 _ _ _ _
  refine w_pfi rfl rfl (Nat.le_of_ble_eq_true rfl) rfl rfl rfl (fun m1 => ?_)
  refine w_aload_n rfl rfl ?_
  refine w_call0 [.ref 78] [] (by omega) rfl rfl rfl rfl rfl rfl (Nat.le_of_ble_eq_true rfl) (fun _ => xrc_ok rfl) (Nat.le_of_ble_eq_true rfl) rfl rfl (s_r_qDropsToBracket (by omega)) (fun r2 m3 => ?_)
  refine w_aload_n rfl rfl ?_
  refine w_dup rfl rfl ?_
  refine w_gfi rfl rfl (Nat.le_of_ble_eq_true rfl) rfl rfl ?_
  show xw _ _ _ _ 62 _ _ _ _
  refine w_iconst rfl ?_
  refine w_isub rfl ?_
  refine w_pfi rfl rfl (Nat.le_of_ble_eq_true rfl) rfl rfl rfl (fun m4 => ?_)
  refine w_aload_n rfl rfl ?_
  refine w_dup rfl rfl ?_
  refine w_gfi rfl rfl (Nat.le_of_ble_eq_true rfl) rfl rfl ?_
  show xw _ _ _ _ 72 _ _ _ _
  refine w_iconst rfl ?_
  refine w_isub rfl ?_
  refine w_pfi rfl rfl (Nat.le_of_ble_eq_true rfl) rfl rfl rfl (fun m5 => ?_)
  refine w_aload_n rfl rfl ?_
  refine w_gfr (r := 139) rfl rfl (Nat.le_of_ble_eq_true rfl) rfl rfl ?_
  refine w_aload_n rfl rfl ?_
  show xw _ _ _ _ 82 _ _ _ _
  refine w_gfi rfl rfl (Nat.le_of_ble_eq_true rfl) rfl rfl ?_
  refine w_iaload rfl rfl (fun x6 => ?_)
  refine w_bipush rfl rfl ?_
  refine w_icmp_eq (tg := 115) rfl rfl rfl rfl ?_ ?_
  · exact w_weak [(0, .ref 78)] rfl ⟨rfl, trivial⟩ (s_r_qGoesOn_115 (by omega) hk0)
  · refine w_aload_n rfl rfl ?_
    refine w_aload_n rfl rfl ?_
    refine w_gfr (r := 139) rfl rfl (Nat.le_of_ble_eq_true rfl) rfl rfl ?_
    refine w_aload_n rfl rfl ?_
    refine w_gfi rfl rfl (Nat.le_of_ble_eq_true rfl) rfl rfl ?_
    show xw _ _ _ _ 100 _ _ _ _
    refine w_iaload rfl rfl (fun x7 => ?_)
    refine w_bipush rfl rfl ?_
    refine w_icmp_ne (tg := 110) rfl rfl rfl rfl ?_ ?_
    · refine w_bipush rfl rfl ?_
      exact w_weak [(0, .ref 78)] rfl ⟨rfl, trivial⟩ (s_r_qGoesOn_112 (by omega) hk0)
    · refine w_iconst rfl ?_
      refine w_goto (tg := 112) rfl rfl ?_
      exact w_weak [(0, .ref 78)] rfl ⟨rfl, trivial⟩ (s_r_qGoesOn_112 (by omega) hk0)
theorem s_r_qGoesOn_0 {d : Nat} (hd : 3 ≤ d) : ∀ (n : Nat) {m : xm}, xw (am_E L xs bz) d am_m218 1 0 [(0, .ref 78)] [] m (r_qGoesOn_0 n m) := by
  intro n
  induction n with
  | zero => intros; exact w_none
  | succ n ih =>
    intro m
    have hk0 := fun (m : xm) => @ih m
    unfold r_qGoesOn_0
    refine w_aload_n rfl rfl ?_
    refine w_gfi rfl rfl (Nat.le_of_ble_eq_true rfl) rfl rfl ?_
    refine w_if_ne (tg := 122) rfl rfl (w32_ld _ _ _) ?_ ?_
    · exact w_weak [(0, .ref 78)] rfl ⟨rfl, trivial⟩ (s_r_qGoesOn_122 (by omega))
    · refine w_aload_n rfl rfl ?_
      refine w_call1 [.ref 78] [] (by omega) rfl rfl rfl rfl rfl rfl (Nat.le_of_ble_eq_true rfl) (fun _ => xrc_ok rfl) (Nat.le_of_ble_eq_true rfl) rfl rfl (s_r_look (by omega)) (fun r1 m2 => ?_)
      refine w_bipush rfl rfl ?_
      refine w_icmp_ne (tg := 122) rfl rfl rfl rfl ?_ ?_
      · exact w_weak [(0, .ref 78)] rfl ⟨rfl, trivial⟩ (s_r_qGoesOn_122 (by omega))
      · refine w_aload_n rfl rfl ?_
        refine w_call1 [.ref 78] [] (by omega) rfl rfl rfl rfl rfl rfl (Nat.le_of_ble_eq_true rfl) (fun _ => xrc_ok rfl) (Nat.le_of_ble_eq_true rfl) rfl rfl (s_r_qBracket (by omega)) (fun r3 m4 => ?_)
        refine w_bipush rfl rfl ?_
        refine w_icmp_eq (tg := 43) rfl rfl rfl rfl ?_ ?_
        · exact w_weak [(0, .ref 78)] rfl ⟨rfl, trivial⟩ (s_r_qGoesOn_43 (by omega) hk0)
        · refine w_aload_n rfl rfl ?_
          refine w_call1 [.ref 78] [] (by omega) rfl rfl rfl rfl rfl rfl (Nat.le_of_ble_eq_true rfl) (fun _ => xrc_ok rfl) (Nat.le_of_ble_eq_true rfl) rfl rfl (s_r_qBracket (by omega)) (fun r5 m6 => ?_)
          refine w_bipush rfl rfl ?_
          refine w_icmp_eq (tg := 43) rfl rfl rfl rfl ?_ ?_
          · exact w_weak [(0, .ref 78)] rfl ⟨rfl, trivial⟩ (s_r_qGoesOn_43 (by omega) hk0)
          · refine w_aload_n rfl rfl ?_
            refine w_call1 [.ref 78] [] (by omega) rfl rfl rfl rfl rfl rfl (Nat.le_of_ble_eq_true rfl) (fun _ => xrc_ok rfl) (Nat.le_of_ble_eq_true rfl) rfl rfl (s_r_qBracket (by omega)) (fun r7 m8 => ?_)
            refine w_bipush rfl rfl ?_
            refine w_icmp_ne (tg := 122) rfl rfl rfl rfl ?_ ?_
            · exact w_weak [(0, .ref 78)] rfl ⟨rfl, trivial⟩ (s_r_qGoesOn_122 (by omega))
            · exact w_weak [(0, .ref 78)] rfl ⟨rfl, trivial⟩ (s_r_qGoesOn_43 (by omega) hk0)
theorem s_r_qGoesOn {d : Nat} {m : xm} (hd : 3 ≤ d) : xw (am_E L xs bz) d am_m218 1 0 [(0, .ref 78)] [] m (r_qGoesOn m) := by
  unfold r_qGoesOn
  exact w_weak [(0, .ref 78)] rfl ⟨rfl, trivial⟩ (s_r_qGoesOn_0 (by omega) _)
theorem s_r_qSums_78 {d : Nat} (hd : 6 ≤ d) {v1 : Int} {m : xm} : xw (am_E L xs bz) d am_m208 0 78 [(0, .ref 78), (1, .int (i32 v1))] [] m (r_qSums_78 v1 m) := by
  unfold r_qSums_78
  refine w_aload_n rfl rfl ?_
  refine w_iload_n rfl rfl ?_
  refine w_pfi rfl rfl (Nat.le_of_ble_eq_true rfl) rfl rfl rfl (fun m1 => ?_)
  exact w_retv (x := 0) rfl rfl
theorem s_r_qSums_53 {d : Nat} (hd : 6 ≤ d) : ∀ (n : Nat) {v1 : Int} {m : xm}, xw (am_E L xs bz) d am_m208 0 53 [(0, .ref 78), (1, .int (i32 v1))] [] m (r_qSums_53 n v1 m) := by
  intro n
  induction n with
  | zero => intros; exact w_none
  | succ n ih =>
    intro v1 m
    have hk53 := fun (v1 : Int) (m : xm) => @ih v1 m
    unfold r_qSums_53
    refine w_aload_n rfl rfl ?_
    refine w_gfi rfl rfl (Nat.le_of_ble_eq_true rfl) rfl rfl ?_
    refine w_if_ne (tg := 78) rfl rfl (w32_ld _ _ _) ?_ ?_
    · exact w_weak [(0, .ref 78), (1, .int (i32 v1))] rfl ⟨rfl, rfl, trivial⟩ (s_r_qSums_78 (by omega))
    · refine w_aload_n rfl rfl ?_
      refine w_gfi rfl rfl (Nat.le_of_ble_eq_true rfl) rfl rfl ?_
      refine w_aload_n rfl rfl ?_
      refine w_gfi rfl rfl (Nat.le_of_ble_eq_true rfl) rfl rfl ?_
      refine w_icmp_le (tg := 78) rfl rfl (w32_ld _ _ _) (w32_ld _ _ _) ?_ ?_
      · exact w_weak [(0, .ref 78), (1, .int (i32 v1))] rfl ⟨rfl, rfl, trivial⟩ (s_r_qSums_78 (by omega))
      · refine w_aload_n rfl rfl ?_
        refine w_call0 [.ref 78] [] (by omega) rfl rfl rfl rfl rfl rfl (Nat.le_of_ble_eq_true rfl) (fun _ => xrc_ok rfl) (Nat.le_of_ble_eq_true rfl) rfl rfl (s_r_qDrops (by omega)) (fun r1 m2 => ?_)
        refine w_goto (tg := 53) rfl rfl ?_
        exact w_weak [(0, .ref 78), (1, .int (i32 v1))] rfl ⟨rfl, rfl, trivial⟩ (hk53 v1 m2)
theorem s_r_qSums_49 {d : Nat} {k15 : Int → Int → xm → xr} (hd : 6 ≤ d) (hk15 : ∀ (v1 v2 : Int) (m : xm), xw (am_E L xs bz) d am_m208 0 15 [(0, .ref 78), (1, .int (i32 v1)), (2, .int (i32 v2))] [] m (k15 v1 v2 m)) {v1 : Int} {s0 : Int} {m : xm} : xw (am_E L xs bz) d am_m208 0 49 [(0, .ref 78), (1, .int (i32 v1))] [.int (i32 s0)] m (r_qSums_49 k15 v1 s0 m) := by
  unfold r_qSums_49
  refine w_letI (fun x1 => ?_)
  refine w_istore_n (lsd := [(2, .int (i32 x1)), (0, .ref 78), (1, .int (i32 v1))]) rfl (Nat.le_of_ble_eq_true rfl) rfl ?_
  refine w_goto (tg := 15) rfl rfl ?_
  exact w_weak [(0, .ref 78), (1, .int (i32 v1)), (2, .int (i32 x1))] rfl ⟨rfl, rfl, rfl, trivial⟩ (hk15 v1 x1 m)
theorem s_r_qSums_48 {d : Nat} {k15 : Int → Int → xm → xr} (hd : 6 ≤ d) (hk15 : ∀ (v1 v2 : Int) (m : xm), xw (am_E L xs bz) d am_m208 0 15 [(0, .ref 78), (1, .int (i32 v1)), (2, .int (i32 v2))] [] m (k15 v1 v2 m)) {v1 : Int} {m : xm} : xw (am_E L xs bz) d am_m208 0 48 [(0, .ref 78), (1, .int (i32 v1))] [] m (r_qSums_48 k15 v1 m) := by
  unfold r_qSums_48
  refine w_iconst rfl ?_
  exact w_weak [(0, .ref 78), (1, .int (i32 v1))] rfl ⟨rfl, rfl, trivial⟩ (s_r_qSums_49 (by omega) hk15)
theorem s_r_qSums_15 {d : Nat} (hd : 6 ≤ d) : ∀ (n : Nat) {v1 : Int} {v2 : Int} {m : xm}, xw (am_E L xs bz) d am_m208 0 15 [(0, .ref 78), (1, .int (i32 v1)), (2, .int (i32 v2))] [] m (r_qSums_15 n v1 v2 m) := by
  intro n
  induction n with
  | zero => intros; exact w_none
  | succ n ih =>
    intro v1 v2 m
    have hk15 := fun (v1 v2 : Int) (m : xm) => @ih v1 v2 m
    unfold r_qSums_15
    refine w_iload_n rfl rfl ?_
    refine w_if_eq (tg := 53) rfl rfl rfl ?_ ?_
    · exact w_weak [(0, .ref 78), (1, .int (i32 v1))] rfl ⟨rfl, rfl, trivial⟩ (s_r_qSums_53 (by omega) _)
    · refine w_aload_n rfl rfl ?_
      refine w_gfi rfl rfl (Nat.le_of_ble_eq_true rfl) rfl rfl ?_
      refine w_if_ne (tg := 53) rfl rfl (w32_ld _ _ _) ?_ ?_
      · exact w_weak [(0, .ref 78), (1, .int (i32 v1))] rfl ⟨rfl, rfl, trivial⟩ (s_r_qSums_53 (by omega) _)
      · refine w_aload_n rfl rfl ?_
        refine w_call0 [.ref 78] [] (by omega) rfl rfl rfl rfl rfl rfl (Nat.le_of_ble_eq_true rfl) (fun _ => xrc_ok rfl) (Nat.le_of_ble_eq_true rfl) rfl rfl (s_r_qPartTold (by omega)) (fun r1 m2 => ?_)
        refine w_aload_n rfl rfl ?_
        refine w_gfi rfl rfl (Nat.le_of_ble_eq_true rfl) rfl rfl ?_
        refine w_if_ne (tg := 48) rfl rfl (w32_ld _ _ _) ?_ ?_
        · exact w_weak [(0, .ref 78), (1, .int (i32 v1))] rfl ⟨rfl, rfl, trivial⟩ (s_r_qSums_48 (by omega) hk15)
        · refine w_aload_n rfl rfl ?_
          refine w_call1 [.ref 78] [] (by omega) rfl rfl rfl rfl rfl rfl (Nat.le_of_ble_eq_true rfl) (fun _ => xrc_ok rfl) (Nat.le_of_ble_eq_true rfl) rfl rfl (s_r_qGoesOn (by omega)) (fun r3 m4 => ?_)
          refine w_if_eq (tg := 48) rfl rfl rfl ?_ ?_
          · exact w_weak [(0, .ref 78), (1, .int (i32 v1))] rfl ⟨rfl, rfl, trivial⟩ (s_r_qSums_48 (by omega) hk15)
          · refine w_iconst rfl ?_
            refine w_goto (tg := 49) rfl rfl ?_
            exact w_weak [(0, .ref 78), (1, .int (i32 v1))] rfl ⟨rfl, rfl, trivial⟩ (s_r_qSums_49 (by omega) hk15)
theorem s_r_qSums {d : Nat} {m : xm} (hd : 6 ≤ d) : xw (am_E L xs bz) d am_m208 0 0 [(0, .ref 78)] [] m (r_qSums m) := by
  unfold r_qSums
  refine w_aload_n rfl rfl ?_
  refine w_gfi rfl rfl (Nat.le_of_ble_eq_true rfl) rfl rfl ?_
  refine w_istore_n (lsd := [(1, .int (i32 (ld m 78 88))), (0, .ref 78)]) rfl (Nat.le_of_ble_eq_true rfl) rfl ?_
  refine w_aload_n rfl rfl ?_
  refine w_aload_n rfl rfl ?_
  show xw _ _ _ _ 7 _ _ _ _
  refine w_gfi rfl rfl (Nat.le_of_ble_eq_true rfl) rfl rfl ?_
  refine w_pfi rfl rfl (Nat.le_of_ble_eq_true rfl) rfl rfl rfl (fun m1 => ?_)
  refine w_iconst rfl ?_
  refine w_istore_n (lsd := [(2, .int (i32 1)), (1, .int (i32 (ld m 78 88))), (0, .ref 78)]) rfl (Nat.le_of_ble_eq_true rfl) rfl ?_
  exact w_weak [(0, .ref 78), (1, .int (i32 (ld m 78 88))), (2, .int (i32 1))] rfl ⟨rfl, rfl, rfl, trivial⟩ (s_r_qSums_15 (by omega) _)
theorem s_r_qFact_102 {d : Nat} (hd : 7 ≤ d) {s1 : Int} {m : xm} : xw (am_E L xs bz) d am_m206 0 102 [] [.int (i32 s1), .ref 78] m (r_qFact_102 s1 m) := by
  unfold r_qFact_102
  refine w_call0 [.ref 78, .int (i32 s1)] [] (by omega) rfl rfl rfl rfl rfl rfl (Nat.le_of_ble_eq_true rfl) (fun _ => xrc_ok rfl) (Nat.le_of_ble_eq_true rfl) rfl rfl (s_r_qCode (by omega)) (fun r1 m2 => ?_)
  exact w_retv (x := 0) rfl rfl
theorem s_r_qFact_63 {d : Nat} (hd : 7 ≤ d) {v1 : Int} {m : xm} : xw (am_E L xs bz) d am_m206 0 63 [(0, .ref 78), (1, .int (i32 v1))] [] m (r_qFact_63 v1 m) := by
  unfold r_qFact_63
  refine w_aload_n rfl rfl ?_
  refine w_dup rfl rfl ?_
  refine w_gfi rfl rfl (Nat.le_of_ble_eq_true rfl) rfl rfl ?_
  refine w_iconst rfl ?_
  refine w_iadd rfl ?_
  show xw _ _ _ _ 70 _ _ _ _
  refine w_pfi rfl rfl (Nat.le_of_ble_eq_true rfl) rfl rfl rfl (fun m1 => ?_)
  refine w_aload_n rfl rfl ?_
  refine w_call0 [.ref 78] [] (by omega) rfl rfl rfl rfl rfl rfl (Nat.le_of_ble_eq_true rfl) (fun _ => xrc_ok rfl) (Nat.le_of_ble_eq_true rfl) rfl rfl (s_r_qSums (by omega)) (fun r2 m3 => ?_)
  refine w_aload_n rfl rfl ?_
  refine w_iload_n rfl rfl ?_
  refine w_bipush rfl rfl ?_
  show xw _ _ _ _ 81 _ _ _ _
  refine w_icmp_ne (tg := 89) rfl rfl rfl rfl ?_ ?_
  · refine w_iload_n rfl rfl ?_
    refine w_bipush rfl rfl ?_
    refine w_icmp_ne (tg := 100) rfl rfl rfl rfl ?_ ?_
    · refine w_bipush rfl rfl ?_
      exact w_weak [] rfl trivial (s_r_qFact_102 (by omega))
    · refine w_bipush rfl rfl ?_
      refine w_goto (tg := 102) rfl rfl ?_
      exact w_weak [] rfl trivial (s_r_qFact_102 (by omega))
  · refine w_bipush rfl rfl ?_
    refine w_goto (tg := 102) rfl rfl ?_
    exact w_weak [] rfl trivial (s_r_qFact_102 (by omega))
theorem s_r_qFact {d : Nat} {m : xm} (hd : 7 ≤ d) : xw (am_E L xs bz) d am_m206 0 0 [(0, .ref 78)] [] m (r_qFact m) := by
  unfold r_qFact
  refine w_aload_n rfl rfl ?_
  refine w_aload_n rfl rfl ?_
  refine w_gfr (r := 128) rfl rfl (Nat.le_of_ble_eq_true rfl) rfl rfl ?_
  refine w_call1 [.ref 78, .ref 128] [] (by omega) rfl rfl rfl rfl rfl rfl (Nat.le_of_ble_eq_true rfl) (fun _ => xrc_ok rfl) (Nat.le_of_ble_eq_true rfl) rfl rfl (s_r_takes (by omega) rfl) (fun r1 m2 => ?_)
  refine w_if_eq (tg := 18) rfl rfl rfl ?_ ?_
  · refine w_aload_n rfl rfl ?_
    refine w_call0 [.ref 78] [] (by omega) rfl rfl rfl rfl rfl rfl (Nat.le_of_ble_eq_true rfl) (fun _ => xrc_ok rfl) (Nat.le_of_ble_eq_true rfl) rfl rfl (s_r_qSums (by omega)) (fun r3 m4 => ?_)
    refine w_aload_n rfl rfl ?_
    refine w_gfi rfl rfl (Nat.le_of_ble_eq_true rfl) rfl rfl ?_
    refine w_if_eq (tg := 30) rfl rfl (w32_ld _ _ _) ?_ ?_
    · refine w_aload_n rfl rfl ?_
      refine w_call1 [.ref 78] [] (by omega) rfl rfl rfl rfl rfl rfl (Nat.le_of_ble_eq_true rfl) (fun _ => xrc_ok rfl) (Nat.le_of_ble_eq_true rfl) rfl rfl (s_r_look (by omega)) (fun r5 m6 => ?_)
      refine w_istore_n (lsd := [(1, .int (i32 r5)), (0, .ref 78)]) rfl (Nat.le_of_ble_eq_true rfl) rfl ?_
      refine w_iload_n rfl rfl ?_
      refine w_bipush rfl rfl ?_
      show xw _ _ _ _ 38 _ _ _ _
      refine w_icmp_eq (tg := 63) rfl rfl rfl rfl ?_ ?_
      · exact w_weak [(0, .ref 78), (1, .int (i32 r5))] rfl ⟨rfl, rfl, trivial⟩ (s_r_qFact_63 (by omega))
      · refine w_iload_n rfl rfl ?_
        refine w_bipush rfl rfl ?_
        refine w_icmp_eq (tg := 63) rfl rfl rfl rfl ?_ ?_
        · exact w_weak [(0, .ref 78), (1, .int (i32 r5))] rfl ⟨rfl, rfl, trivial⟩ (s_r_qFact_63 (by omega))
        · refine w_iload_n rfl rfl ?_
          refine w_bipush rfl rfl ?_
          refine w_icmp_eq (tg := 63) rfl rfl rfl rfl ?_ ?_
          · exact w_weak [(0, .ref 78), (1, .int (i32 r5))] rfl ⟨rfl, rfl, trivial⟩ (s_r_qFact_63 (by omega))
          · refine w_aload_n rfl rfl ?_
            refine w_iconst rfl ?_
            refine w_aload_n rfl rfl ?_
            refine w_gfi rfl rfl (Nat.le_of_ble_eq_true rfl) rfl rfl ?_
            refine w_call0 [.ref 78, .int (i32 1), .int (i32 (ld m6 78 2))] [] (by omega) rfl rfl rfl rfl rfl rfl (Nat.le_of_ble_eq_true rfl) (fun _ => xrc_ok rfl) (Nat.le_of_ble_eq_true rfl) rfl rfl (s_r_fail (by omega)) (fun r7 m8 => ?_)
            show xw _ _ _ _ 62 _ _ _ _
            exact w_retv (x := 0) rfl rfl
    · exact w_retv (x := 0) rfl rfl
  · refine w_aload_n rfl rfl ?_
    refine w_bipush rfl rfl ?_
    refine w_call0 [.ref 78, .int (i32 13)] [] (by omega) rfl rfl rfl rfl rfl rfl (Nat.le_of_ble_eq_true rfl) (fun _ => xrc_ok rfl) (Nat.le_of_ble_eq_true rfl) rfl rfl (s_r_qCode (by omega)) (fun r9 m10 => ?_)
    exact w_retv (x := 0) rfl rfl
theorem s_r_qDropsNots_0 {d : Nat} (hd : 2 ≤ d) : ∀ (n : Nat) {m : xm}, xw (am_E L xs bz) d am_m223 0 0 [(0, .ref 78)] [] m (r_qDropsNots_0 n m) := by
  intro n
  induction n with
  | zero => intros; exact w_none
  | succ n ih =>
    intro m
    have hk0 := fun (m : xm) => @ih m
    unfold r_qDropsNots_0
    refine w_aload_n rfl rfl ?_
    refine w_gfi rfl rfl (Nat.le_of_ble_eq_true rfl) rfl rfl ?_
    refine w_if_ne (tg := 33) rfl rfl (w32_ld _ _ _) ?_ ?_
    · exact w_retv (x := 0) rfl rfl
    · refine w_aload_n rfl rfl ?_
      refine w_bipush rfl rfl ?_
      refine w_call1 [.ref 78, .int (i32 12)] [] (by omega) rfl rfl rfl rfl rfl rfl (Nat.le_of_ble_eq_true rfl) (fun _ => xrc_ok rfl) (Nat.le_of_ble_eq_true rfl) rfl rfl (s_r_qIsOn (by omega)) (fun r1 m2 => ?_)
      refine w_if_eq (tg := 33) rfl rfl rfl ?_ ?_
      · exact w_retv (x := 0) rfl rfl
      · refine w_aload_n rfl rfl ?_
        refine w_dup rfl rfl ?_
        refine w_gfi rfl rfl (Nat.le_of_ble_eq_true rfl) rfl rfl ?_
        refine w_iconst rfl ?_
        refine w_isub rfl ?_
        show xw _ _ _ _ 23 _ _ _ _
        refine w_pfi rfl rfl (Nat.le_of_ble_eq_true rfl) rfl rfl rfl (fun m3 => ?_)
        refine w_aload_n rfl rfl ?_
        refine w_call0 [.ref 78] [] (by omega) rfl rfl rfl rfl rfl rfl (Nat.le_of_ble_eq_true rfl) (fun _ => xrc_ok rfl) (Nat.le_of_ble_eq_true rfl) rfl rfl (s_r_qDrops (by omega)) (fun r4 m5 => ?_)
        refine w_goto (tg := 0) rfl rfl ?_
        exact w_weak [(0, .ref 78)] rfl ⟨rfl, trivial⟩ (hk0 m5)
theorem s_r_qDropsNots {d : Nat} {m : xm} (hd : 2 ≤ d) : xw (am_E L xs bz) d am_m223 0 0 [(0, .ref 78)] [] m (r_qDropsNots m) := by
  unfold r_qDropsNots
  exact w_weak [(0, .ref 78)] rfl ⟨rfl, trivial⟩ (s_r_qDropsNots_0 (by omega) _)
theorem s_r_qHasSquare_2 {d : Nat} (hd : 0 ≤ d) : ∀ (n : Nat) {v1 : Int} {m : xm}, xw (am_E L xs bz) d am_m225 1 2 [(0, .ref 78), (1, .int (i32 v1))] [] m (r_qHasSquare_2 n v1 m) := by
  intro n
  induction n with
  | zero => intros; exact w_none
  | succ n ih =>
    intro v1 m
    have hk2 := fun (v1 : Int) (m : xm) => @ih v1 m
    unfold r_qHasSquare_2
    refine w_iload_n rfl rfl ?_
    refine w_aload_n rfl rfl ?_
    refine w_gfi rfl rfl (Nat.le_of_ble_eq_true rfl) rfl rfl ?_
    refine w_icmp_ge (tg := 29) rfl rfl rfl (w32_ld _ _ _) ?_ ?_
    · refine w_iconst rfl ?_
      exact w_retv rfl rfl
    · refine w_aload_n rfl rfl ?_
      refine w_gfr (r := 139) rfl rfl (Nat.le_of_ble_eq_true rfl) rfl rfl ?_
      refine w_iload_n rfl rfl ?_
      refine w_iaload rfl rfl (fun x1 => ?_)
      refine w_bipush rfl rfl ?_
      show xw _ _ _ _ 18 _ _ _ _
      refine w_icmp_ne (tg := 23) rfl rfl rfl rfl ?_ ?_
      · refine w_iinc (lsd := [(1, .int (i32 (v1 + 1))), (0, .ref 78)]) rfl (Nat.le_of_ble_eq_true rfl) rfl rfl ?_
        refine w_goto (tg := 2) rfl rfl ?_
        exact w_weak [(0, .ref 78), (1, .int (i32 (v1 + 1)))] rfl ⟨rfl, rfl, trivial⟩ (hk2 (v1 + 1) m)
      · refine w_iconst rfl ?_
        exact w_retv rfl rfl
theorem s_r_qHasSquare {d : Nat} {m : xm} (hd : 0 ≤ d) : xw (am_E L xs bz) d am_m225 1 0 [(0, .ref 78)] [] m (r_qHasSquare m) := by
  unfold r_qHasSquare
  refine w_iconst rfl ?_
  refine w_istore_n (lsd := [(1, .int (i32 0)), (0, .ref 78)]) rfl (Nat.le_of_ble_eq_true rfl) rfl ?_
  exact w_weak [(0, .ref 78), (1, .int (i32 0))] rfl ⟨rfl, rfl, trivial⟩ (s_r_qHasSquare_2 (by omega) _)
theorem s_r_qGoesOnTest_155 {d : Nat} {k137 : xm → xr} (hd : 3 ≤ d) (hk137 : ∀ (m : xm), xw (am_E L xs bz) d am_m224 1 137 [(0, .ref 78)] [] m (k137 m)) {m : xm} : xw (am_E L xs bz) d am_m224 1 155 [(0, .ref 78)] [] m (r_qGoesOnTest_155 k137 m) := by
  unfold r_qGoesOnTest_155
  refine w_aload_n rfl rfl ?_
  refine w_call0 [.ref 78] [] (by omega) rfl rfl rfl rfl rfl rfl (Nat.le_of_ble_eq_true rfl) (fun _ => xrc_ok rfl) (Nat.le_of_ble_eq_true rfl) rfl rfl (s_r_qDrops (by omega)) (fun r1 m2 => ?_)
  refine w_goto (tg := 137) rfl rfl ?_
  exact w_weak [(0, .ref 78)] rfl ⟨rfl, trivial⟩ (hk137 m2)
theorem s_r_qGoesOnTest_162 {d : Nat} (hd : 3 ≤ d) {m : xm} : xw (am_E L xs bz) d am_m224 1 162 [(0, .ref 78)] [] m (r_qGoesOnTest_162 m) := by
  unfold r_qGoesOnTest_162
  refine w_aload_n rfl rfl ?_
  refine w_gfr (r := 139) rfl rfl (Nat.le_of_ble_eq_true rfl) rfl rfl ?_
  refine w_aload_n rfl rfl ?_
  refine w_gfi rfl rfl (Nat.le_of_ble_eq_true rfl) rfl rfl ?_
  refine w_bipush rfl rfl ?_
  show xw _ _ _ _ 172 _ _ _ _
  refine w_iastore rfl rfl (fun m1 => ?_)
  refine w_aload_n rfl rfl ?_
  refine w_dup rfl rfl ?_
  refine w_gfi rfl rfl (Nat.le_of_ble_eq_true rfl) rfl rfl ?_
  refine w_iconst rfl ?_
  refine w_iadd rfl ?_
  show xw _ _ _ _ 180 _ _ _ _
  refine w_pfi rfl rfl (Nat.le_of_ble_eq_true rfl) rfl rfl rfl (fun m2 => ?_)
  refine w_iconst rfl ?_
  exact w_retv rfl rfl
theorem s_r_qGoesOnTest_137 {d : Nat} (hd : 3 ≤ d) : ∀ (n : Nat) {m : xm}, xw (am_E L xs bz) d am_m224 1 137 [(0, .ref 78)] [] m (r_qGoesOnTest_137 n m) := by
  intro n
  induction n with
  | zero => intros; exact w_none
  | succ n ih =>
    intro m
    have hk137 := fun (m : xm) => @ih m
    unfold r_qGoesOnTest_137
    refine w_aload_n rfl rfl ?_
    refine w_bipush rfl rfl ?_
    refine w_call1 [.ref 78, .int (i32 10)] [] (by omega) rfl rfl rfl rfl rfl rfl (Nat.le_of_ble_eq_true rfl) (fun _ => xrc_ok rfl) (Nat.le_of_ble_eq_true rfl) rfl rfl (s_r_qIsOn (by omega)) (fun r1 m2 => ?_)
    refine w_if_ne (tg := 155) rfl rfl rfl ?_ ?_
    · exact w_weak [(0, .ref 78)] rfl ⟨rfl, trivial⟩ (s_r_qGoesOnTest_155 (by omega) hk137)
    · refine w_aload_n rfl rfl ?_
      refine w_bipush rfl rfl ?_
      refine w_call1 [.ref 78, .int (i32 11)] [] (by omega) rfl rfl rfl rfl rfl rfl (Nat.le_of_ble_eq_true rfl) (fun _ => xrc_ok rfl) (Nat.le_of_ble_eq_true rfl) rfl rfl (s_r_qIsOn (by omega)) (fun r3 m4 => ?_)
      refine w_if_eq (tg := 162) rfl rfl rfl ?_ ?_
      · exact w_weak [(0, .ref 78)] rfl ⟨rfl, trivial⟩ (s_r_qGoesOnTest_162 (by omega))
      · exact w_weak [(0, .ref 78)] rfl ⟨rfl, trivial⟩ (s_r_qGoesOnTest_155 (by omega) hk137)
theorem s_r_qGoesOnTest_103 {d : Nat} (hd : 3 ≤ d) {m : xm} : xw (am_E L xs bz) d am_m224 1 103 [(0, .ref 78)] [] m (r_qGoesOnTest_103 m) := by
  unfold r_qGoesOnTest_103
  refine w_aload_n rfl rfl ?_
  refine w_gfr (r := 139) rfl rfl (Nat.le_of_ble_eq_true rfl) rfl rfl ?_
  refine w_aload_n rfl rfl ?_
  refine w_gfi rfl rfl (Nat.le_of_ble_eq_true rfl) rfl rfl ?_
  refine w_bipush rfl rfl ?_
  show xw _ _ _ _ 113 _ _ _ _
  refine w_iastore rfl rfl (fun m1 => ?_)
  refine w_aload_n rfl rfl ?_
  refine w_dup rfl rfl ?_
  refine w_gfi rfl rfl (Nat.le_of_ble_eq_true rfl) rfl rfl ?_
  refine w_iconst rfl ?_
  refine w_iadd rfl ?_
  show xw _ _ _ _ 121 _ _ _ _
  refine w_pfi rfl rfl (Nat.le_of_ble_eq_true rfl) rfl rfl rfl (fun m2 => ?_)
  refine w_iconst rfl ?_
  exact w_retv rfl rfl
theorem s_r_qGoesOnTest_87 {d : Nat} (hd : 3 ≤ d) : ∀ (n : Nat) {m : xm}, xw (am_E L xs bz) d am_m224 1 87 [(0, .ref 78)] [] m (r_qGoesOnTest_87 n m) := by
  intro n
  induction n with
  | zero => intros; exact w_none
  | succ n ih =>
    intro m
    have hk87 := fun (m : xm) => @ih m
    unfold r_qGoesOnTest_87
    refine w_aload_n rfl rfl ?_
    refine w_bipush rfl rfl ?_
    refine w_call1 [.ref 78, .int (i32 10)] [] (by omega) rfl rfl rfl rfl rfl rfl (Nat.le_of_ble_eq_true rfl) (fun _ => xrc_ok rfl) (Nat.le_of_ble_eq_true rfl) rfl rfl (s_r_qIsOn (by omega)) (fun r1 m2 => ?_)
    refine w_if_eq (tg := 103) rfl rfl rfl ?_ ?_
    · exact w_weak [(0, .ref 78)] rfl ⟨rfl, trivial⟩ (s_r_qGoesOnTest_103 (by omega))
    · refine w_aload_n rfl rfl ?_
      refine w_call0 [.ref 78] [] (by omega) rfl rfl rfl rfl rfl rfl (Nat.le_of_ble_eq_true rfl) (fun _ => xrc_ok rfl) (Nat.le_of_ble_eq_true rfl) rfl rfl (s_r_qDrops (by omega)) (fun r3 m4 => ?_)
      refine w_goto (tg := 87) rfl rfl ?_
      exact w_weak [(0, .ref 78)] rfl ⟨rfl, trivial⟩ (hk87 m4)
theorem s_r_qGoesOnTest_76 {d : Nat} (hd : 3 ≤ d) {m : xm} : xw (am_E L xs bz) d am_m224 1 76 [(0, .ref 78)] [] m (r_qGoesOnTest_76 m) := by
  unfold r_qGoesOnTest_76
  refine w_aload_n rfl rfl ?_
  refine w_aload_n rfl rfl ?_
  refine w_gfr (r := 126) rfl rfl (Nat.le_of_ble_eq_true rfl) rfl rfl ?_
  refine w_call1 [.ref 78, .ref 126] [] (by omega) rfl rfl rfl rfl rfl rfl (Nat.le_of_ble_eq_true rfl) (fun _ => xrc_ok rfl) (Nat.le_of_ble_eq_true rfl) rfl rfl (s_r_takes (by omega) rfl) (fun r1 m2 => ?_)
  refine w_if_eq (tg := 126) rfl rfl rfl ?_ ?_
  · refine w_aload_n rfl rfl ?_
    refine w_aload_n rfl rfl ?_
    refine w_gfr (r := 127) rfl rfl (Nat.le_of_ble_eq_true rfl) rfl rfl ?_
    refine w_call1 [.ref 78, .ref 127] [] (by omega) rfl rfl rfl rfl rfl rfl (Nat.le_of_ble_eq_true rfl) (fun _ => xrc_ok rfl) (Nat.le_of_ble_eq_true rfl) rfl rfl (s_r_takes (by omega) rfl) (fun r3 m4 => ?_)
    refine w_if_eq (tg := 185) rfl rfl rfl ?_ ?_
    · refine w_aload_n rfl rfl ?_
      refine w_gfi rfl rfl (Nat.le_of_ble_eq_true rfl) rfl rfl ?_
      refine w_if_ne (tg := 208) rfl rfl (w32_ld _ _ _) ?_ ?_
      · refine w_iconst rfl ?_
        exact w_retv rfl rfl
      · refine w_aload_n rfl rfl ?_
        refine w_call1 [.ref 78] [] (by omega) rfl rfl rfl rfl rfl rfl (Nat.le_of_ble_eq_true rfl) (fun _ => xrc_ok rfl) (Nat.le_of_ble_eq_true rfl) rfl rfl (s_r_qHasSquare (by omega)) (fun r5 m6 => ?_)
        refine w_if_eq (tg := 208) rfl rfl rfl ?_ ?_
        · refine w_iconst rfl ?_
          exact w_retv rfl rfl
        · refine w_aload_n rfl rfl ?_
          refine w_iconst rfl ?_
          refine w_aload_n rfl rfl ?_
          refine w_gfi rfl rfl (Nat.le_of_ble_eq_true rfl) rfl rfl ?_
          refine w_call0 [.ref 78, .int (i32 1), .int (i32 (ld m6 78 2))] [] (by omega) rfl rfl rfl rfl rfl rfl (Nat.le_of_ble_eq_true rfl) (fun _ => xrc_ok rfl) (Nat.le_of_ble_eq_true rfl) rfl rfl (s_r_fail (by omega)) (fun r7 m8 => ?_)
          show xw _ _ _ _ 208 _ _ _ _
          refine w_iconst rfl ?_
          exact w_retv rfl rfl
    · exact w_weak [(0, .ref 78)] rfl ⟨rfl, trivial⟩ (s_r_qGoesOnTest_137 (by omega) _)
  · exact w_weak [(0, .ref 78)] rfl ⟨rfl, trivial⟩ (s_r_qGoesOnTest_87 (by omega) _)
theorem s_r_qGoesOnTest_49 {d : Nat} {k0 : xm → xr} (hd : 3 ≤ d) (hk0 : ∀ (m : xm), xw (am_E L xs bz) d am_m224 1 0 [(0, .ref 78)] [] m (k0 m)) {m : xm} : xw (am_E L xs bz) d am_m224 1 49 [(0, .ref 78)] [] m (r_qGoesOnTest_49 k0 m) := by
  unfold r_qGoesOnTest_49
  refine w_aload_n rfl rfl ?_
  refine w_dup rfl rfl ?_
  refine w_gfi rfl rfl (Nat.le_of_ble_eq_true rfl) rfl rfl ?_
  refine w_iconst rfl ?_
  refine w_isub rfl ?_
  show xw _ _ _ _ 56 _ _ _ _
  refine w_pfi rfl rfl (Nat.le_of_ble_eq_true rfl) rfl rfl rfl (fun m1 => ?_)
  refine w_aload_n rfl rfl ?_
  refine w_dup rfl rfl ?_
  refine w_gfi rfl rfl (Nat.le_of_ble_eq_true rfl) rfl rfl ?_
  refine w_iconst rfl ?_
  refine w_isub rfl ?_
  show xw _ _ _ _ 66 _ _ _ _
  refine w_pfi rfl rfl (Nat.le_of_ble_eq_true rfl) rfl rfl rfl (fun m2 => ?_)
  refine w_aload_n rfl rfl ?_
  refine w_call0 [.ref 78] [] (by omega) rfl rfl rfl rfl rfl rfl (Nat.le_of_ble_eq_true rfl) (fun _ => xrc_ok rfl) (Nat.le_of_ble_eq_true rfl) rfl rfl (s_r_qDropsNots (by omega)) (fun r3 m4 => ?_)
  refine w_goto (tg := 0) rfl rfl ?_
  exact w_weak [(0, .ref 78)] rfl ⟨rfl, trivial⟩ (hk0 m4)
theorem s_r_qGoesOnTest_33 {d : Nat} {k0 : xm → xr} (hd : 3 ≤ d) (hk0 : ∀ (m : xm), xw (am_E L xs bz) d am_m224 1 0 [(0, .ref 78)] [] m (k0 m)) : ∀ (n : Nat) {m : xm}, xw (am_E L xs bz) d am_m224 1 33 [(0, .ref 78)] [] m (r_qGoesOnTest_33 k0 n m) := by
  intro n
  induction n with
  | zero => intros; exact w_none
  | succ n ih =>
    intro m
    have hk33 := fun (m : xm) => @ih m
    unfold r_qGoesOnTest_33
    refine w_aload_n rfl rfl ?_
    refine w_bipush rfl rfl ?_
    refine w_call1 [.ref 78, .int (i32 25)] [] (by omega) rfl rfl rfl rfl rfl rfl (Nat.le_of_ble_eq_true rfl) (fun _ => xrc_ok rfl) (Nat.le_of_ble_eq_true rfl) rfl rfl (s_r_qIsOn (by omega)) (fun r1 m2 => ?_)
    refine w_if_ne (tg := 49) rfl rfl rfl ?_ ?_
    · exact w_weak [(0, .ref 78)] rfl ⟨rfl, trivial⟩ (s_r_qGoesOnTest_49 (by omega) hk0)
    · refine w_aload_n rfl rfl ?_
      refine w_call0 [.ref 78] [] (by omega) rfl rfl rfl rfl rfl rfl (Nat.le_of_ble_eq_true rfl) (fun _ => xrc_ok rfl) (Nat.le_of_ble_eq_true rfl) rfl rfl (s_r_qDrops (by omega)) (fun r3 m4 => ?_)
      refine w_goto (tg := 33) rfl rfl ?_
      exact w_weak [(0, .ref 78)] rfl ⟨rfl, trivial⟩ (hk33 m4)
theorem s_r_qGoesOnTest_0 {d : Nat} (hd : 3 ≤ d) : ∀ (n : Nat) {m : xm}, xw (am_E L xs bz) d am_m224 1 0 [(0, .ref 78)] [] m (r_qGoesOnTest_0 n m) := by
  intro n
  induction n with
  | zero => intros; exact w_none
  | succ n ih =>
    intro m
    have hk0 := fun (m : xm) => @ih m
    unfold r_qGoesOnTest_0
    refine w_aload_n rfl rfl ?_
    refine w_gfi rfl rfl (Nat.le_of_ble_eq_true rfl) rfl rfl ?_
    refine w_if_ne (tg := 76) rfl rfl (w32_ld _ _ _) ?_ ?_
    · exact w_weak [(0, .ref 78)] rfl ⟨rfl, trivial⟩ (s_r_qGoesOnTest_76 (by omega))
    · refine w_aload_n rfl rfl ?_
      refine w_call1 [.ref 78] [] (by omega) rfl rfl rfl rfl rfl rfl (Nat.le_of_ble_eq_true rfl) (fun _ => xrc_ok rfl) (Nat.le_of_ble_eq_true rfl) rfl rfl (s_r_look (by omega)) (fun r1 m2 => ?_)
      refine w_bipush rfl rfl ?_
      refine w_icmp_ne (tg := 76) rfl rfl rfl rfl ?_ ?_
      · exact w_weak [(0, .ref 78)] rfl ⟨rfl, trivial⟩ (s_r_qGoesOnTest_76 (by omega))
      · refine w_aload_n rfl rfl ?_
        refine w_call1 [.ref 78] [] (by omega) rfl rfl rfl rfl rfl rfl (Nat.le_of_ble_eq_true rfl) (fun _ => xrc_ok rfl) (Nat.le_of_ble_eq_true rfl) rfl rfl (s_r_qHasSquare (by omega)) (fun r3 m4 => ?_)
        refine w_if_eq (tg := 76) rfl rfl rfl ?_ ?_
        · exact w_weak [(0, .ref 78)] rfl ⟨rfl, trivial⟩ (s_r_qGoesOnTest_76 (by omega))
        · refine w_aload_n rfl rfl ?_
          refine w_dup rfl rfl ?_
          refine w_gfi rfl rfl (Nat.le_of_ble_eq_true rfl) rfl rfl ?_
          refine w_iconst rfl ?_
          refine w_iadd rfl ?_
          show xw _ _ _ _ 30 _ _ _ _
          refine w_pfi rfl rfl (Nat.le_of_ble_eq_true rfl) rfl rfl rfl (fun m5 => ?_)
          exact w_weak [(0, .ref 78)] rfl ⟨rfl, trivial⟩ (s_r_qGoesOnTest_33 (by omega) hk0 _)
theorem s_r_qGoesOnTest {d : Nat} {m : xm} (hd : 3 ≤ d) : xw (am_E L xs bz) d am_m224 1 0 [(0, .ref 78)] [] m (r_qGoesOnTest m) := by
  unfold r_qGoesOnTest
  exact w_weak [(0, .ref 78)] rfl ⟨rfl, trivial⟩ (s_r_qGoesOnTest_0 (by omega) _)
theorem s_r_qTest_110 {d : Nat} (hd : 8 ≤ d) : ∀ (n : Nat) {m : xm}, xw (am_E L xs bz) d am_m204 0 110 [(0, .ref 78)] [] m (r_qTest_110 n m) := by
  intro n
  induction n with
  | zero => intros; exact w_none
  | succ n ih =>
    intro m
    have hk110 := fun (m : xm) => @ih m
    unfold r_qTest_110
    refine w_aload_n rfl rfl ?_
    refine w_gfi rfl rfl (Nat.le_of_ble_eq_true rfl) rfl rfl ?_
    refine w_if_ne (tg := 131) rfl rfl (w32_ld _ _ _) ?_ ?_
    · exact w_retv (x := 0) rfl rfl
    · refine w_aload_n rfl rfl ?_
      refine w_gfi rfl rfl (Nat.le_of_ble_eq_true rfl) rfl rfl ?_
      refine w_if_le (tg := 131) rfl rfl (w32_ld _ _ _) ?_ ?_
      · exact w_retv (x := 0) rfl rfl
      · refine w_aload_n rfl rfl ?_
        refine w_call0 [.ref 78] [] (by omega) rfl rfl rfl rfl rfl rfl (Nat.le_of_ble_eq_true rfl) (fun _ => xrc_ok rfl) (Nat.le_of_ble_eq_true rfl) rfl rfl (s_r_qDrops (by omega)) (fun r1 m2 => ?_)
        refine w_goto (tg := 110) rfl rfl ?_
        exact w_weak [(0, .ref 78)] rfl ⟨rfl, trivial⟩ (hk110 m2)
theorem s_r_qTest_106 {d : Nat} {k2 : Int → xm → xr} (hd : 8 ≤ d) (hk2 : ∀ (v1 : Int) (m : xm), xw (am_E L xs bz) d am_m204 0 2 [(0, .ref 78), (1, .int (i32 v1))] [] m (k2 v1 m)) {s0 : Int} {m : xm} : xw (am_E L xs bz) d am_m204 0 106 [(0, .ref 78)] [.int (i32 s0)] m (r_qTest_106 k2 s0 m) := by
  unfold r_qTest_106
  refine w_letI (fun x1 => ?_)
  refine w_istore_n (lsd := [(1, .int (i32 x1)), (0, .ref 78)]) rfl (Nat.le_of_ble_eq_true rfl) rfl ?_
  refine w_goto (tg := 2) rfl rfl ?_
  exact w_weak [(0, .ref 78), (1, .int (i32 x1))] rfl ⟨rfl, rfl, trivial⟩ (hk2 x1 m)
theorem s_r_qTest_105 {d : Nat} {k2 : Int → xm → xr} (hd : 8 ≤ d) (hk2 : ∀ (v1 : Int) (m : xm), xw (am_E L xs bz) d am_m204 0 2 [(0, .ref 78), (1, .int (i32 v1))] [] m (k2 v1 m)) {m : xm} : xw (am_E L xs bz) d am_m204 0 105 [(0, .ref 78)] [] m (r_qTest_105 k2 m) := by
  unfold r_qTest_105
  refine w_iconst rfl ?_
  exact w_weak [(0, .ref 78)] rfl ⟨rfl, trivial⟩ (s_r_qTest_106 (by omega) hk2)
theorem s_r_qTest_2 {d : Nat} (hd : 8 ≤ d) : ∀ (n : Nat) {v1 : Int} {m : xm}, xw (am_E L xs bz) d am_m204 0 2 [(0, .ref 78), (1, .int (i32 v1))] [] m (r_qTest_2 n v1 m) := by
  intro n
  induction n with
  | zero => intros; exact w_none
  | succ n ih =>
    intro v1 m
    have hk2 := fun (v1 : Int) (m : xm) => @ih v1 m
    unfold r_qTest_2
    refine w_iload_n rfl rfl ?_
    refine w_if_eq (tg := 110) rfl rfl rfl ?_ ?_
    · exact w_weak [(0, .ref 78)] rfl ⟨rfl, trivial⟩ (s_r_qTest_110 (by omega) _)
    · refine w_aload_n rfl rfl ?_
      refine w_gfi rfl rfl (Nat.le_of_ble_eq_true rfl) rfl rfl ?_
      refine w_if_ne (tg := 110) rfl rfl (w32_ld _ _ _) ?_ ?_
      · exact w_weak [(0, .ref 78)] rfl ⟨rfl, trivial⟩ (s_r_qTest_110 (by omega) _)
      · refine w_aload_n rfl rfl ?_
        refine w_call1 [.ref 78] [] (by omega) rfl rfl rfl rfl rfl rfl (Nat.le_of_ble_eq_true rfl) (fun _ => xrc_ok rfl) (Nat.le_of_ble_eq_true rfl) rfl rfl (s_r_look (by omega)) (fun r1 m2 => ?_)
        refine w_istore_n (lsd := [(2, .int (i32 r1)), (0, .ref 78), (1, .int (i32 v1))]) rfl (Nat.le_of_ble_eq_true rfl) rfl ?_
        refine w_iload_n rfl rfl ?_
        refine w_bipush rfl rfl ?_
        show xw _ _ _ _ 21 _ _ _ _
        refine w_icmp_ne (tg := 47) rfl rfl rfl rfl ?_ ?_
        · refine w_aload_n rfl rfl ?_
          refine w_aload_n rfl rfl ?_
          refine w_gfr (r := 125) rfl rfl (Nat.le_of_ble_eq_true rfl) rfl rfl ?_
          refine w_call1 [.ref 78, .ref 125] [] (by omega) rfl rfl rfl rfl rfl rfl (Nat.le_of_ble_eq_true rfl) (fun _ => xrc_ok rfl) (Nat.le_of_ble_eq_true rfl) rfl rfl (s_r_isHere (by omega) rfl) (fun r3 m4 => ?_)
          refine w_if_eq (tg := 79) rfl rfl rfl ?_ ?_
          · refine w_aload_n rfl rfl ?_
            refine w_call0 [.ref 78] [] (by omega) rfl rfl rfl rfl rfl rfl (Nat.le_of_ble_eq_true rfl) (fun _ => xrc_ok rfl) (Nat.le_of_ble_eq_true rfl) rfl rfl (s_r_qFact (by omega)) (fun r5 m6 => ?_)
            refine w_aload_n rfl rfl ?_
            refine w_call0 [.ref 78] [] (by omega) rfl rfl rfl rfl rfl rfl (Nat.le_of_ble_eq_true rfl) (fun _ => xrc_ok rfl) (Nat.le_of_ble_eq_true rfl) rfl rfl (s_r_qDropsNots (by omega)) (fun r7 m8 => ?_)
            refine w_aload_n rfl rfl ?_
            show xw _ _ _ _ 88 _ _ _ _
            refine w_gfi rfl rfl (Nat.le_of_ble_eq_true rfl) rfl rfl ?_
            refine w_if_ne (tg := 105) rfl rfl (w32_ld _ _ _) ?_ ?_
            · exact w_weak [(0, .ref 78)] rfl ⟨rfl, trivial⟩ (s_r_qTest_105 (by omega) hk2)
            · refine w_aload_n rfl rfl ?_
              refine w_call1 [.ref 78] [] (by omega) rfl rfl rfl rfl rfl rfl (Nat.le_of_ble_eq_true rfl) (fun _ => xrc_ok rfl) (Nat.le_of_ble_eq_true rfl) rfl rfl (s_r_qGoesOnTest (by omega)) (fun r9 m10 => ?_)
              refine w_if_eq (tg := 105) rfl rfl rfl ?_ ?_
              · exact w_weak [(0, .ref 78)] rfl ⟨rfl, trivial⟩ (s_r_qTest_105 (by omega) hk2)
              · refine w_iconst rfl ?_
                refine w_goto (tg := 106) rfl rfl ?_
                exact w_weak [(0, .ref 78)] rfl ⟨rfl, trivial⟩ (s_r_qTest_106 (by omega) hk2)
          · refine w_aload_n rfl rfl ?_
            refine w_bipush rfl rfl ?_
            refine w_aload_n rfl rfl ?_
            refine w_gfi rfl rfl (Nat.le_of_ble_eq_true rfl) rfl rfl ?_
            refine w_call0 [.ref 78, .int (i32 12), .int (i32 (ld m4 78 2))] [] (by omega) rfl rfl rfl rfl rfl rfl (Nat.le_of_ble_eq_true rfl) (fun _ => xrc_ok rfl) (Nat.le_of_ble_eq_true rfl) rfl rfl (s_r_qOpens (by omega)) (fun r11 m12 => ?_)
            show xw _ _ _ _ 68 _ _ _ _
            refine w_aload_n rfl rfl ?_
            refine w_aload_n rfl rfl ?_
            refine w_gfr (r := 125) rfl rfl (Nat.le_of_ble_eq_true rfl) rfl rfl ?_
            refine w_call0 [.ref 78, .ref 125] [] (by omega) rfl rfl rfl rfl rfl rfl (Nat.le_of_ble_eq_true rfl) (fun _ => xrc_ok rfl) (Nat.le_of_ble_eq_true rfl) rfl rfl (s_r_asks (by omega) rfl) (fun r13 m14 => ?_)
            refine w_goto (tg := 2) rfl rfl ?_
            exact w_weak [(0, .ref 78), (1, .int (i32 v1))] rfl ⟨rfl, rfl, trivial⟩ (hk2 v1 m14)
        · refine w_aload_n rfl rfl ?_
          refine w_bipush rfl rfl ?_
          refine w_aload_n rfl rfl ?_
          refine w_gfi rfl rfl (Nat.le_of_ble_eq_true rfl) rfl rfl ?_
          refine w_call0 [.ref 78, .int (i32 25), .int (i32 (ld m2 78 2))] [] (by omega) rfl rfl rfl rfl rfl rfl (Nat.le_of_ble_eq_true rfl) (fun _ => xrc_ok rfl) (Nat.le_of_ble_eq_true rfl) rfl rfl (s_r_qOpens (by omega)) (fun r15 m16 => ?_)
          show xw _ _ _ _ 34 _ _ _ _
          refine w_aload_n rfl rfl ?_
          refine w_dup rfl rfl ?_
          refine w_gfi rfl rfl (Nat.le_of_ble_eq_true rfl) rfl rfl ?_
          refine w_iconst rfl ?_
          refine w_iadd rfl ?_
          refine w_pfi rfl rfl (Nat.le_of_ble_eq_true rfl) rfl rfl rfl (fun m17 => ?_)
          show xw _ _ _ _ 44 _ _ _ _
          refine w_goto (tg := 2) rfl rfl ?_
          exact w_weak [(0, .ref 78), (1, .int (i32 v1))] rfl ⟨rfl, rfl, trivial⟩ (hk2 v1 m17)
theorem s_r_qTest {d : Nat} {m : xm} (hd : 8 ≤ d) : xw (am_E L xs bz) d am_m204 0 0 [(0, .ref 78)] [] m (r_qTest m) := by
  unfold r_qTest
  refine w_iconst rfl ?_
  refine w_istore_n (lsd := [(1, .int (i32 1)), (0, .ref 78)]) rfl (Nat.le_of_ble_eq_true rfl) rfl ?_
  exact w_weak [(0, .ref 78), (1, .int (i32 1))] rfl ⟨rfl, rfl, trivial⟩ (s_r_qTest_2 (by omega) _)
theorem s_r_doorTold_144 {d : Nat} (hd : 9 ≤ d) {v4 : Int} {m : xm} : xw (am_E L xs bz) d am_m203 0 144 [(0, .ref 78), (4, .int (i32 v4))] [] m (r_doorTold_144 v4 m) := by
  unfold r_doorTold_144
  refine w_aload_n rfl rfl ?_
  refine w_gfr (r := 108) rfl rfl (Nat.le_of_ble_eq_true rfl) rfl rfl ?_
  refine w_iload rfl rfl ?_
  refine w_aload_n rfl rfl ?_
  refine w_gfi rfl rfl (Nat.le_of_ble_eq_true rfl) rfl rfl ?_
  show xw _ _ _ _ 154 _ _ _ _
  refine w_iastore rfl rfl (fun m1 => ?_)
  refine w_aload_n rfl rfl ?_
  refine w_gfr (r := 101) rfl rfl (Nat.le_of_ble_eq_true rfl) rfl rfl ?_
  refine w_iconst rfl ?_
  refine w_dup2 rfl rfl rfl ?_
  refine w_iaload rfl rfl (fun x2 => ?_)
  show xw _ _ _ _ 162 _ _ _ _
  refine w_iconst rfl ?_
  refine w_iadd rfl ?_
  refine w_iastore rfl rfl (fun m3 => ?_)
  exact w_retv (x := 0) rfl rfl
theorem s_r_doorTold_103 {d : Nat} (hd : 9 ≤ d) : ∀ (n : Nat) {v4 : Int} {v5 : Int} {m : xm}, xw (am_E L xs bz) d am_m203 0 103 [(0, .ref 78), (4, .int (i32 v4)), (5, .int (i32 v5))] [] m (r_doorTold_103 n v4 v5 m) := by
  intro n
  induction n with
  | zero => intros; exact w_none
  | succ n ih =>
    intro v4 v5 m
    have hk103 := fun (v4 v5 : Int) (m : xm) => @ih v4 v5 m
    unfold r_doorTold_103
    refine w_iload rfl rfl ?_
    refine w_aload_n rfl rfl ?_
    refine w_gfi rfl rfl (Nat.le_of_ble_eq_true rfl) rfl rfl ?_
    refine w_icmp_ge (tg := 144) rfl rfl rfl (w32_ld _ _ _) ?_ ?_
    · exact w_weak [(0, .ref 78), (4, .int (i32 v4))] rfl ⟨rfl, rfl, trivial⟩ (s_r_doorTold_144 (by omega))
    · refine w_aload_n rfl rfl ?_
      refine w_gfr (r := 109) rfl rfl (Nat.le_of_ble_eq_true rfl) rfl rfl ?_
      refine w_aload_n rfl rfl ?_
      refine w_gfi rfl rfl (Nat.le_of_ble_eq_true rfl) rfl rfl ?_
      refine w_aload_n rfl rfl ?_
      show xw _ _ _ _ 121 _ _ _ _
      refine w_gfr (r := 138) rfl rfl (Nat.le_of_ble_eq_true rfl) rfl rfl ?_
      refine w_iload rfl rfl ?_
      refine w_iaload rfl rfl (fun x1 => ?_)
      refine w_iastore rfl rfl (fun m2 => ?_)
      refine w_aload_n rfl rfl ?_
      refine w_dup rfl rfl ?_
      show xw _ _ _ _ 130 _ _ _ _
      refine w_gfi rfl rfl (Nat.le_of_ble_eq_true rfl) rfl rfl ?_
      refine w_iconst rfl ?_
      refine w_iadd rfl ?_
      refine w_pfi rfl rfl (Nat.le_of_ble_eq_true rfl) rfl rfl rfl (fun m3 => ?_)
      refine w_iinc (lsd := [(5, .int (i32 (v5 + 1))), (0, .ref 78), (4, .int (i32 v4))]) rfl (Nat.le_of_ble_eq_true rfl) rfl rfl ?_
      refine w_goto (tg := 103) rfl rfl ?_
      exact w_weak [(0, .ref 78), (4, .int (i32 v4)), (5, .int (i32 (v5 + 1)))] rfl ⟨rfl, rfl, rfl, trivial⟩ (hk103 v4 (v5 + 1) m3)
theorem s_r_doorTold {d : Nat} {v1 : Int} {m : xm} (hd : 9 ≤ d) : xw (am_E L xs bz) d am_m203 0 0 [(0, .ref 78), (1, .int (i32 v1))] [] m (r_doorTold v1 m) := by
  unfold r_doorTold
  refine w_aload_n rfl rfl ?_
  refine w_iconst rfl ?_
  refine w_bipush rfl rfl ?_
  refine w_iload_n rfl rfl ?_
  refine w_call1 [.ref 78, .int (i32 2), .int (i32 6), .int (i32 v1)] [] (by omega) rfl rfl rfl rfl rfl rfl (Nat.le_of_ble_eq_true rfl) (fun _ => xrc_ok rfl) (Nat.le_of_ble_eq_true rfl) rfl rfl (s_r_isFull (by omega)) (fun r1 m2 => ?_)
  show xw _ _ _ _ 8 _ _ _ _
  refine w_if_eq (tg := 12) rfl rfl rfl ?_ ?_
  · refine w_aload_n rfl rfl ?_
    refine w_call2 [.ref 78] [] (by omega) rfl rfl rfl rfl rfl rfl (Nat.le_of_ble_eq_true rfl) (fun _ => xrc_ok rfl) (Nat.le_of_ble_eq_true rfl) rfl rfl (s_r_newName (by omega)) (fun r3 m4 => ?_)
    refine w_lstore_n (lsd := [(2, .long (i64 r3)), (0, .ref 78), (1, .int (i32 v1))]) rfl (Nat.le_of_ble_eq_true rfl) rfl ?_
    refine w_aload_n rfl rfl ?_
    refine w_aload_n rfl rfl ?_
    show xw _ _ _ _ 19 _ _ _ _
    refine w_gfr (r := 88) rfl rfl (Nat.le_of_ble_eq_true rfl) rfl rfl ?_
    refine w_call0 [.ref 78, .ref 88] [] (by omega) rfl rfl rfl rfl rfl rfl (Nat.le_of_ble_eq_true rfl) (fun _ => xrc_ok rfl) (Nat.le_of_ble_eq_true rfl) rfl rfl (s_r_asks (by omega) rfl) (fun r5 m6 => ?_)
    refine w_aload_n rfl rfl ?_
    refine w_gfi rfl rfl (Nat.le_of_ble_eq_true rfl) rfl rfl ?_
    refine w_if_eq (tg := 33) rfl rfl (w32_ld _ _ _) ?_ ?_
    · refine w_aload_n rfl rfl ?_
      refine w_iconst rfl ?_
      refine w_pfi rfl rfl (Nat.le_of_ble_eq_true rfl) rfl rfl rfl (fun m7 => ?_)
      refine w_aload_n rfl rfl ?_
      refine w_iconst rfl ?_
      show xw _ _ _ _ 40 _ _ _ _
      refine w_pfi rfl rfl (Nat.le_of_ble_eq_true rfl) rfl rfl rfl (fun m8 => ?_)
      refine w_aload_n rfl rfl ?_
      refine w_iconst rfl ?_
      refine w_pfi rfl rfl (Nat.le_of_ble_eq_true rfl) rfl rfl rfl (fun m9 => ?_)
      refine w_aload_n rfl rfl ?_
      refine w_iconst rfl ?_
      show xw _ _ _ _ 50 _ _ _ _
      refine w_pfi rfl rfl (Nat.le_of_ble_eq_true rfl) rfl rfl rfl (fun m10 => ?_)
      refine w_aload_n rfl rfl ?_
      refine w_iconst rfl ?_
      refine w_pfi rfl rfl (Nat.le_of_ble_eq_true rfl) rfl rfl rfl (fun m11 => ?_)
      refine w_aload_n rfl rfl ?_
      refine w_call0 [.ref 78] [] (by omega) rfl rfl rfl rfl rfl rfl (Nat.le_of_ble_eq_true rfl) (fun _ => xrc_ok rfl) (Nat.le_of_ble_eq_true rfl) rfl rfl (s_r_qTest (by omega)) (fun r12 m13 => ?_)
      show xw _ _ _ _ 62 _ _ _ _
      refine w_aload_n rfl rfl ?_
      refine w_gfi rfl rfl (Nat.le_of_ble_eq_true rfl) rfl rfl ?_
      refine w_if_eq (tg := 70) rfl rfl (w32_ld _ _ _) ?_ ?_
      · refine w_aload_n rfl rfl ?_
        refine w_gfr (r := 101) rfl rfl (Nat.le_of_ble_eq_true rfl) rfl rfl ?_
        refine w_iconst rfl ?_
        refine w_iaload rfl rfl (fun x14 => ?_)
        refine w_letI (fun x15 => ?_)
        refine w_istore (lsd := [(4, .int (i32 x15)), (2, .long (i64 r3)), (0, .ref 78), (1, .int (i32 v1))]) rfl (Nat.le_of_ble_eq_true rfl) rfl ?_
        show xw _ _ _ _ 78 _ _ _ _
        refine w_aload_n rfl rfl ?_
        refine w_gfr (r := 102) rfl rfl (Nat.le_of_ble_eq_true rfl) rfl rfl ?_
        refine w_bipush rfl rfl ?_
        refine w_iload rfl rfl ?_
        refine w_iadd rfl ?_
        refine w_lload_n rfl rfl ?_
        show xw _ _ _ _ 88 _ _ _ _
        refine w_lastore rfl (Nat.le_of_ble_eq_true rfl) rfl (fun m16 => ?_)
        refine w_aload_n rfl rfl ?_
        refine w_gfr (r := 107) rfl rfl (Nat.le_of_ble_eq_true rfl) rfl rfl ?_
        refine w_iload rfl rfl ?_
        refine w_aload_n rfl rfl ?_
        refine w_gfi rfl rfl (Nat.le_of_ble_eq_true rfl) rfl rfl ?_
        show xw _ _ _ _ 99 _ _ _ _
        refine w_iastore rfl rfl (fun m17 => ?_)
        refine w_iconst rfl ?_
        refine w_istore (lsd := [(5, .int (i32 0)), (4, .int (i32 x15)), (2, .long (i64 r3)), (0, .ref 78), (1, .int (i32 v1))]) rfl (Nat.le_of_ble_eq_true rfl) rfl ?_
        exact w_weak [(0, .ref 78), (4, .int (i32 x15)), (5, .int (i32 0))] rfl ⟨rfl, rfl, rfl, trivial⟩ (s_r_doorTold_103 (by omega) _)
      · exact w_retv (x := 0) rfl rfl
    · exact w_retv (x := 0) rfl rfl
  · exact w_retv (x := 0) rfl rfl
theorem s_r_noteTold_139 {d : Nat} (hd : 5 ≤ d) {v2 : Int} {v4 : Int} {m : xm} : xw (am_E L xs bz) d am_m201 0 139 [(0, .ref 78), (2, .long (i64 v2)), (4, .int (i32 v4))] [] m (r_noteTold_139 v2 v4 m) := by
  unfold r_noteTold_139
  refine w_aload_n rfl rfl ?_
  refine w_gfi rfl rfl (Nat.le_of_ble_eq_true rfl) rfl rfl ?_
  refine w_if_eq (tg := 147) rfl rfl (w32_ld _ _ _) ?_ ?_
  · refine w_aload_n rfl rfl ?_
    refine w_gfr (r := 102) rfl rfl (Nat.le_of_ble_eq_true rfl) rfl rfl ?_
    refine w_bipush rfl rfl ?_
    refine w_iload rfl rfl ?_
    refine w_iadd rfl ?_
    show xw _ _ _ _ 156 _ _ _ _
    refine w_lload_n rfl rfl ?_
    refine w_lastore rfl (Nat.le_of_ble_eq_true rfl) rfl (fun m1 => ?_)
    refine w_aload_n rfl rfl ?_
    refine w_gfr (r := 101) rfl rfl (Nat.le_of_ble_eq_true rfl) rfl rfl ?_
    refine w_iconst rfl ?_
    refine w_dup2 rfl rfl rfl ?_
    show xw _ _ _ _ 164 _ _ _ _
    refine w_iaload rfl rfl (fun x2 => ?_)
    refine w_iconst rfl ?_
    refine w_iadd rfl ?_
    refine w_iastore rfl rfl (fun m3 => ?_)
    exact w_retv (x := 0) rfl rfl
  · exact w_retv (x := 0) rfl rfl
theorem s_r_noteTold_67 {d : Nat} (hd : 5 ≤ d) : ∀ (n : Nat) {v2 : Int} {v4 : Int} {v5 : Int} {v6 : Int} {m : xm}, xw (am_E L xs bz) d am_m201 0 67 [(0, .ref 78), (2, .long (i64 v2)), (4, .int (i32 v4)), (5, .int (i32 v5)), (6, .int (i32 v6))] [] m (r_noteTold_67 n v2 v4 v5 v6 m) := by
  intro n
  induction n with
  | zero => intros; exact w_none
  | succ n ih =>
    intro v2 v4 v5 v6 m
    have hk67 := fun (v2 v4 v5 v6 : Int) (m : xm) => @ih v2 v4 v5 v6 m
    unfold r_noteTold_67
    refine w_aload_n rfl rfl ?_
    refine w_gfi rfl rfl (Nat.le_of_ble_eq_true rfl) rfl rfl ?_
    refine w_if_ne (tg := 139) rfl rfl (w32_ld _ _ _) ?_ ?_
    · exact w_weak [(0, .ref 78), (2, .long (i64 v2)), (4, .int (i32 v4))] rfl ⟨rfl, rfl, rfl, trivial⟩ (s_r_noteTold_139 (by omega))
    · refine w_iload rfl rfl ?_
      refine w_if_eq (tg := 139) rfl rfl rfl ?_ ?_
      · exact w_weak [(0, .ref 78), (2, .long (i64 v2)), (4, .int (i32 v4))] rfl ⟨rfl, rfl, rfl, trivial⟩ (s_r_noteTold_139 (by omega))
      · refine w_aload_n rfl rfl ?_
        refine w_iconst rfl ?_
        refine w_iload rfl rfl ?_
        refine w_call1 [.ref 78, .int (i32 0), .int (i32 v5)] [] (by omega) rfl rfl rfl rfl rfl rfl (Nat.le_of_ble_eq_true rfl) (fun _ => xrc_ok rfl) (Nat.le_of_ble_eq_true rfl) rfl rfl (s_r_oneOf (by omega)) (fun r1 m2 => ?_)
        refine w_istore (lsd := [(7, .int (i32 r1)), (0, .ref 78), (2, .long (i64 v2)), (4, .int (i32 v4)), (5, .int (i32 v5)), (6, .int (i32 v6))]) rfl (Nat.le_of_ble_eq_true rfl) rfl ?_
        show xw _ _ _ _ 88 _ _ _ _
        refine w_aload_n rfl rfl ?_
        refine w_iconst rfl ?_
        refine w_iconst rfl ?_
        refine w_call1 [.ref 78, .int (i32 1), .int (i32 4)] [] (by omega) rfl rfl rfl rfl rfl rfl (Nat.le_of_ble_eq_true rfl) (fun _ => xrc_ok rfl) (Nat.le_of_ble_eq_true rfl) rfl rfl (s_r_number (by omega)) (fun r3 m4 => ?_)
        refine w_istore (lsd := [(8, .int (i32 r3)), (7, .int (i32 r1)), (0, .ref 78), (2, .long (i64 v2)), (4, .int (i32 v4)), (5, .int (i32 v5)), (6, .int (i32 v6))]) rfl (Nat.le_of_ble_eq_true rfl) rfl ?_
        refine w_aload_n rfl rfl ?_
        show xw _ _ _ _ 97 _ _ _ _
        refine w_gfi rfl rfl (Nat.le_of_ble_eq_true rfl) rfl rfl ?_
        refine w_if_eq (tg := 104) rfl rfl (w32_ld _ _ _) ?_ ?_
        · refine w_iload rfl rfl ?_
          refine w_iconst rfl ?_
          refine w_iload rfl rfl ?_
          refine w_ishl rfl ?_
          refine w_ior rfl ?_
          show xw _ _ _ _ 111 _ _ _ _
          refine w_letI (fun x5 => ?_)
          refine w_istore (lsd := [(5, .int (i32 x5)), (8, .int (i32 r3)), (7, .int (i32 r1)), (0, .ref 78), (2, .long (i64 v2)), (4, .int (i32 v4)), (6, .int (i32 v6))]) rfl (Nat.le_of_ble_eq_true rfl) rfl ?_
          refine w_aload_n rfl rfl ?_
          refine w_gfr (r := 104) rfl rfl (Nat.le_of_ble_eq_true rfl) rfl rfl ?_
          refine w_iconst rfl ?_
          refine w_iload rfl rfl ?_
          refine w_imul rfl ?_
          show xw _ _ _ _ 121 _ _ _ _
          refine w_iload rfl rfl ?_
          refine w_iadd rfl ?_
          refine w_iload rfl rfl ?_
          refine w_iastore rfl rfl (fun m6 => ?_)
          refine w_aload_n rfl rfl ?_
          refine w_call1 [.ref 78] [] (by omega) rfl rfl rfl rfl rfl rfl (Nat.le_of_ble_eq_true rfl) (fun _ => xrc_ok rfl) (Nat.le_of_ble_eq_true rfl) rfl rfl (s_r_look (by omega)) (fun r7 m8 => ?_)
          show xw _ _ _ _ 131 _ _ _ _
          refine w_call1 [.int (i32 r7)] [] (by omega) rfl rfl rfl rfl rfl rfl (Nat.le_of_ble_eq_true rfl) (fun z => by cases z) (Nat.le_of_ble_eq_true rfl) rfl rfl (s_r_isLetter (by omega)) (fun r9 m10 => ?_)
          refine w_istore (lsd := [(6, .int (i32 r9)), (5, .int (i32 x5)), (8, .int (i32 r3)), (7, .int (i32 r1)), (0, .ref 78), (2, .long (i64 v2)), (4, .int (i32 v4))]) rfl (Nat.le_of_ble_eq_true rfl) rfl ?_
          refine w_goto (tg := 67) rfl rfl ?_
          exact w_weak [(0, .ref 78), (2, .long (i64 v2)), (4, .int (i32 v4)), (5, .int (i32 x5)), (6, .int (i32 r9))] rfl ⟨rfl, rfl, rfl, rfl, rfl, trivial⟩ (hk67 v2 v4 x5 r9 m10)
        · exact w_retv (x := 0) rfl rfl
theorem s_r_noteTold_61 {d : Nat} (hd : 5 ≤ d) {v2 : Int} {v4 : Int} {m : xm} : xw (am_E L xs bz) d am_m201 0 61 [(0, .ref 78), (2, .long (i64 v2)), (4, .int (i32 v4))] [] m (r_noteTold_61 v2 v4 m) := by
  unfold r_noteTold_61
  refine w_iconst rfl ?_
  refine w_istore (lsd := [(5, .int (i32 0)), (0, .ref 78), (2, .long (i64 v2)), (4, .int (i32 v4))]) rfl (Nat.le_of_ble_eq_true rfl) rfl ?_
  refine w_iconst rfl ?_
  refine w_istore (lsd := [(6, .int (i32 1)), (5, .int (i32 0)), (0, .ref 78), (2, .long (i64 v2)), (4, .int (i32 v4))]) rfl (Nat.le_of_ble_eq_true rfl) rfl ?_
  exact w_weak [(0, .ref 78), (2, .long (i64 v2)), (4, .int (i32 v4)), (5, .int (i32 0)), (6, .int (i32 1))] rfl ⟨rfl, rfl, rfl, rfl, rfl, trivial⟩ (s_r_noteTold_67 (by omega) _)
theorem s_r_noteTold_36 {d : Nat} (hd : 5 ≤ d) : ∀ (n : Nat) {v2 : Int} {v4 : Int} {v5 : Int} {m : xm}, xw (am_E L xs bz) d am_m201 0 36 [(0, .ref 78), (2, .long (i64 v2)), (4, .int (i32 v4)), (5, .int (i32 v5))] [] m (r_noteTold_36 n v2 v4 v5 m) := by
  intro n
  induction n with
  | zero => intros; exact w_none
  | succ n ih =>
    intro v2 v4 v5 m
    have hk36 := fun (v2 v4 v5 : Int) (m : xm) => @ih v2 v4 v5 m
    unfold r_noteTold_36
    refine w_iload rfl rfl ?_
    refine w_iconst rfl ?_
    refine w_icmp_ge (tg := 61) rfl rfl rfl rfl ?_ ?_
    · exact w_weak [(0, .ref 78), (2, .long (i64 v2)), (4, .int (i32 v4))] rfl ⟨rfl, rfl, rfl, trivial⟩ (s_r_noteTold_61 (by omega))
    · refine w_aload_n rfl rfl ?_
      refine w_gfr (r := 104) rfl rfl (Nat.le_of_ble_eq_true rfl) rfl rfl ?_
      refine w_iconst rfl ?_
      refine w_iload rfl rfl ?_
      refine w_imul rfl ?_
      show xw _ _ _ _ 50 _ _ _ _
      refine w_iload rfl rfl ?_
      refine w_iadd rfl ?_
      refine w_iconst rfl ?_
      refine w_iastore rfl rfl (fun m1 => ?_)
      refine w_iinc (lsd := [(5, .int (i32 (v5 + 1))), (0, .ref 78), (2, .long (i64 v2)), (4, .int (i32 v4))]) rfl (Nat.le_of_ble_eq_true rfl) rfl rfl ?_
      refine w_goto (tg := 36) rfl rfl ?_
      exact w_weak [(0, .ref 78), (2, .long (i64 v2)), (4, .int (i32 v4)), (5, .int (i32 (v5 + 1)))] rfl ⟨rfl, rfl, rfl, rfl, trivial⟩ (hk36 v2 v4 (v5 + 1) m1)
theorem s_r_noteTold {d : Nat} {v1 : Int} {m : xm} (hd : 5 ≤ d) : xw (am_E L xs bz) d am_m201 0 0 [(0, .ref 78), (1, .int (i32 v1))] [] m (r_noteTold v1 m) := by
  unfold r_noteTold
  refine w_aload_n rfl rfl ?_
  refine w_iconst rfl ?_
  refine w_bipush rfl rfl ?_
  refine w_iload_n rfl rfl ?_
  refine w_call1 [.ref 78, .int (i32 1), .int (i32 6), .int (i32 v1)] [] (by omega) rfl rfl rfl rfl rfl rfl (Nat.le_of_ble_eq_true rfl) (fun _ => xrc_ok rfl) (Nat.le_of_ble_eq_true rfl) rfl rfl (s_r_isFull (by omega)) (fun r1 m2 => ?_)
  show xw _ _ _ _ 8 _ _ _ _
  refine w_if_eq (tg := 12) rfl rfl rfl ?_ ?_
  · refine w_aload_n rfl rfl ?_
    refine w_call2 [.ref 78] [] (by omega) rfl rfl rfl rfl rfl rfl (Nat.le_of_ble_eq_true rfl) (fun _ => xrc_ok rfl) (Nat.le_of_ble_eq_true rfl) rfl rfl (s_r_newName (by omega)) (fun r3 m4 => ?_)
    refine w_lstore_n (lsd := [(2, .long (i64 r3)), (0, .ref 78), (1, .int (i32 v1))]) rfl (Nat.le_of_ble_eq_true rfl) rfl ?_
    refine w_aload_n rfl rfl ?_
    refine w_aload_n rfl rfl ?_
    show xw _ _ _ _ 19 _ _ _ _
    refine w_gfr (r := 86) rfl rfl (Nat.le_of_ble_eq_true rfl) rfl rfl ?_
    refine w_call0 [.ref 78, .ref 86] [] (by omega) rfl rfl rfl rfl rfl rfl (Nat.le_of_ble_eq_true rfl) (fun _ => xrc_ok rfl) (Nat.le_of_ble_eq_true rfl) rfl rfl (s_r_asks (by omega) rfl) (fun r5 m6 => ?_)
    refine w_aload_n rfl rfl ?_
    refine w_gfr (r := 101) rfl rfl (Nat.le_of_ble_eq_true rfl) rfl rfl ?_
    refine w_iconst rfl ?_
    refine w_iaload rfl rfl (fun x7 => ?_)
    show xw _ _ _ _ 31 _ _ _ _
    refine w_letI (fun x8 => ?_)
    refine w_istore (lsd := [(4, .int (i32 x8)), (2, .long (i64 r3)), (0, .ref 78), (1, .int (i32 v1))]) rfl (Nat.le_of_ble_eq_true rfl) rfl ?_
    refine w_iconst rfl ?_
    refine w_istore (lsd := [(5, .int (i32 0)), (4, .int (i32 x8)), (2, .long (i64 r3)), (0, .ref 78), (1, .int (i32 v1))]) rfl (Nat.le_of_ble_eq_true rfl) rfl ?_
    exact w_weak [(0, .ref 78), (2, .long (i64 r3)), (4, .int (i32 x8)), (5, .int (i32 0))] rfl ⟨rfl, rfl, rfl, rfl, trivial⟩ (s_r_noteTold_36 (by omega) _)
  · exact w_retv (x := 0) rfl rfl
theorem s_r_lockTold_76 {d : Nat} (hd : 5 ≤ d) {v2 : Int} {v4 : Int} {v5 : Int} {v6 : Int} {m : xm} : xw (am_E L xs bz) d am_m191 0 76 [(0, .ref 78), (2, .long (i64 v2)), (4, .int (i32 v4)), (5, .int (i32 v5)), (6, .int (i32 v6))] [] m (r_lockTold_76 v2 v4 v5 v6 m) := by
  unfold r_lockTold_76
  refine w_aload_n rfl rfl ?_
  refine w_gfi rfl rfl (Nat.le_of_ble_eq_true rfl) rfl rfl ?_
  refine w_if_eq (tg := 84) rfl rfl (w32_ld _ _ _) ?_ ?_
  · refine w_iconst rfl ?_
    refine w_aload_n rfl rfl ?_
    refine w_gfr (r := 101) rfl rfl (Nat.le_of_ble_eq_true rfl) rfl rfl ?_
    refine w_iconst rfl ?_
    refine w_iaload rfl rfl (fun x1 => ?_)
    show xw _ _ _ _ 91 _ _ _ _
    refine w_imul rfl ?_
    refine w_letI (fun x2 => ?_)
    refine w_istore (lsd := [(7, .int (i32 x2)), (0, .ref 78), (2, .long (i64 v2)), (4, .int (i32 v4)), (5, .int (i32 v5)), (6, .int (i32 v6))]) rfl (Nat.le_of_ble_eq_true rfl) rfl ?_
    refine w_aload_n rfl rfl ?_
    refine w_gfr (r := 102) rfl rfl (Nat.le_of_ble_eq_true rfl) rfl rfl ?_
    refine w_aload_n rfl rfl ?_
    refine w_gfr (r := 101) rfl rfl (Nat.le_of_ble_eq_true rfl) rfl rfl ?_
    show xw _ _ _ _ 102 _ _ _ _
    refine w_iconst rfl ?_
    refine w_iaload rfl rfl (fun x3 => ?_)
    refine w_lload_n rfl rfl ?_
    refine w_lastore rfl (Nat.le_of_ble_eq_true rfl) rfl (fun m4 => ?_)
    refine w_aload_n rfl rfl ?_
    refine w_gfr (r := 103) rfl rfl (Nat.le_of_ble_eq_true rfl) rfl rfl ?_
    show xw _ _ _ _ 110 _ _ _ _
    refine w_iload rfl rfl ?_
    refine w_iload rfl rfl ?_
    refine w_iastore rfl rfl (fun m5 => ?_)
    refine w_aload_n rfl rfl ?_
    refine w_gfr (r := 103) rfl rfl (Nat.le_of_ble_eq_true rfl) rfl rfl ?_
    refine w_iload rfl rfl ?_
    show xw _ _ _ _ 121 _ _ _ _
    refine w_iconst rfl ?_
    refine w_iadd rfl ?_
    refine w_iload rfl rfl ?_
    refine w_iastore rfl rfl (fun m6 => ?_)
    refine w_aload_n rfl rfl ?_
    refine w_gfr (r := 103) rfl rfl (Nat.le_of_ble_eq_true rfl) rfl rfl ?_
    show xw _ _ _ _ 130 _ _ _ _
    refine w_iload rfl rfl ?_
    refine w_iconst rfl ?_
    refine w_iadd rfl ?_
    refine w_iload rfl rfl ?_
    refine w_iastore rfl rfl (fun m7 => ?_)
    refine w_aload_n rfl rfl ?_
    show xw _ _ _ _ 138 _ _ _ _
    refine w_gfr (r := 101) rfl rfl (Nat.le_of_ble_eq_true rfl) rfl rfl ?_
    refine w_iconst rfl ?_
    refine w_dup2 rfl rfl rfl ?_
    refine w_iaload rfl rfl (fun x8 => ?_)
    refine w_iconst rfl ?_
    refine w_iadd rfl ?_
    show xw _ _ _ _ 146 _ _ _ _
    refine w_iastore rfl rfl (fun m9 => ?_)
    exact w_retv (x := 0) rfl rfl
  · exact w_retv (x := 0) rfl rfl
theorem s_r_lockTold {d : Nat} {v1 : Int} {m : xm} (hd : 5 ≤ d) : xw (am_E L xs bz) d am_m191 0 0 [(0, .ref 78), (1, .int (i32 v1))] [] m (r_lockTold v1 m) := by
  unfold r_lockTold
  refine w_aload_n rfl rfl ?_
  refine w_iconst rfl ?_
  refine w_iconst rfl ?_
  refine w_iload_n rfl rfl ?_
  refine w_call1 [.ref 78, .int (i32 0), .int (i32 4), .int (i32 v1)] [] (by omega) rfl rfl rfl rfl rfl rfl (Nat.le_of_ble_eq_true rfl) (fun _ => xrc_ok rfl) (Nat.le_of_ble_eq_true rfl) rfl rfl (s_r_isFull (by omega)) (fun r1 m2 => ?_)
  show xw _ _ _ _ 7 _ _ _ _
  refine w_if_eq (tg := 11) rfl rfl rfl ?_ ?_
  · refine w_aload_n rfl rfl ?_
    refine w_call2 [.ref 78] [] (by omega) rfl rfl rfl rfl rfl rfl (Nat.le_of_ble_eq_true rfl) (fun _ => xrc_ok rfl) (Nat.le_of_ble_eq_true rfl) rfl rfl (s_r_newName (by omega)) (fun r3 m4 => ?_)
    refine w_lstore_n (lsd := [(2, .long (i64 r3)), (0, .ref 78), (1, .int (i32 v1))]) rfl (Nat.le_of_ble_eq_true rfl) rfl ?_
    refine w_aload_n rfl rfl ?_
    refine w_aload_n rfl rfl ?_
    show xw _ _ _ _ 18 _ _ _ _
    refine w_gfr (r := 82) rfl rfl (Nat.le_of_ble_eq_true rfl) rfl rfl ?_
    refine w_call0 [.ref 78, .ref 82] [] (by omega) rfl rfl rfl rfl rfl rfl (Nat.le_of_ble_eq_true rfl) (fun _ => xrc_ok rfl) (Nat.le_of_ble_eq_true rfl) rfl rfl (s_r_asks (by omega) rfl) (fun r5 m6 => ?_)
    refine w_aload_n rfl rfl ?_
    refine w_iconst rfl ?_
    refine w_iconst rfl ?_
    refine w_call1 [.ref 78, .int (i32 2), .int (i32 5)] [] (by omega) rfl rfl rfl rfl rfl rfl (Nat.le_of_ble_eq_true rfl) (fun _ => xrc_ok rfl) (Nat.le_of_ble_eq_true rfl) rfl rfl (s_r_number (by omega)) (fun r7 m8 => ?_)
    show xw _ _ _ _ 30 _ _ _ _
    refine w_istore (lsd := [(4, .int (i32 r7)), (2, .long (i64 r3)), (0, .ref 78), (1, .int (i32 v1))]) rfl (Nat.le_of_ble_eq_true rfl) rfl ?_
    refine w_aload_n rfl rfl ?_
    refine w_aload_n rfl rfl ?_
    refine w_gfr (r := 83) rfl rfl (Nat.le_of_ble_eq_true rfl) rfl rfl ?_
    refine w_call0 [.ref 78, .ref 83] [] (by omega) rfl rfl rfl rfl rfl rfl (Nat.le_of_ble_eq_true rfl) (fun _ => xrc_ok rfl) (Nat.le_of_ble_eq_true rfl) rfl rfl (s_r_asks (by omega) rfl) (fun r9 m10 => ?_)
    refine w_aload_n rfl rfl ?_
    show xw _ _ _ _ 41 _ _ _ _
    refine w_iconst rfl ?_
    refine w_iload rfl rfl ?_
    refine w_iconst rfl ?_
    refine w_isub rfl ?_
    refine w_call1 [.ref 78, .int (i32 0), .int (i32 (r7 - 1))] [] (by omega) rfl rfl rfl rfl rfl rfl (Nat.le_of_ble_eq_true rfl) (fun _ => xrc_ok rfl) (Nat.le_of_ble_eq_true rfl) rfl rfl (s_r_number (by omega)) (fun r11 m12 => ?_)
    refine w_istore (lsd := [(5, .int (i32 r11)), (4, .int (i32 r7)), (2, .long (i64 r3)), (0, .ref 78), (1, .int (i32 v1))]) rfl (Nat.le_of_ble_eq_true rfl) rfl ?_
    show xw _ _ _ _ 51 _ _ _ _
    refine w_iconst rfl ?_
    refine w_istore (lsd := [(6, .int (i32 (-1))), (5, .int (i32 r11)), (4, .int (i32 r7)), (2, .long (i64 r3)), (0, .ref 78), (1, .int (i32 v1))]) rfl (Nat.le_of_ble_eq_true rfl) rfl ?_
    refine w_aload_n rfl rfl ?_
    refine w_aload_n rfl rfl ?_
    refine w_gfr (r := 84) rfl rfl (Nat.le_of_ble_eq_true rfl) rfl rfl ?_
    refine w_call1 [.ref 78, .ref 84] [] (by omega) rfl rfl rfl rfl rfl rfl (Nat.le_of_ble_eq_true rfl) (fun _ => xrc_ok rfl) (Nat.le_of_ble_eq_true rfl) rfl rfl (s_r_takes (by omega) rfl) (fun r13 m14 => ?_)
    show xw _ _ _ _ 62 _ _ _ _
    refine w_if_eq (tg := 76) rfl rfl rfl ?_ ?_
    · exact w_weak [(0, .ref 78), (2, .long (i64 r3)), (4, .int (i32 r7)), (5, .int (i32 r11)), (6, .int (i32 (-1)))] rfl ⟨rfl, rfl, rfl, rfl, rfl, trivial⟩ (s_r_lockTold_76 (by omega))
    · refine w_aload_n rfl rfl ?_
      refine w_iconst rfl ?_
      refine w_iload rfl rfl ?_
      refine w_iconst rfl ?_
      refine w_isub rfl ?_
      show xw _ _ _ _ 71 _ _ _ _
      refine w_call1 [.ref 78, .int (i32 0), .int (i32 (r7 - 1))] [] (by omega) rfl rfl rfl rfl rfl rfl (Nat.le_of_ble_eq_true rfl) (fun _ => xrc_ok rfl) (Nat.le_of_ble_eq_true rfl) rfl rfl (s_r_number (by omega)) (fun r15 m16 => ?_)
      refine w_istore (lsd := [(6, .int (i32 r15)), (5, .int (i32 r11)), (4, .int (i32 r7)), (2, .long (i64 r3)), (0, .ref 78), (1, .int (i32 v1))]) rfl (Nat.le_of_ble_eq_true rfl) rfl ?_
      exact w_weak [(0, .ref 78), (2, .long (i64 r3)), (4, .int (i32 r7)), (5, .int (i32 r11)), (6, .int (i32 r15))] rfl ⟨rfl, rfl, rfl, rfl, rfl, trivial⟩ (s_r_lockTold_76 (by omega))
  · exact w_retv (x := 0) rfl rfl
end S06
