/-! the methods as functions over the cells: printed by wip/gen/dec.py -/
/-- LockOrchestraModel.putsAside()V -/
def r_putsAside_2 : Nat → Int → xm → xr
  | 0, _, _ => none
  | n + 1, v1, m =>
    if 127 ≤ w32 v1 then
      some (0, m)
    else
    ial m 110 v1 fun x1 =>
    ias m 111 v1 x1 fun m2 =>
    r_putsAside_2 n (v1 + 1) m2
def r_putsAside (m : xm) : xr :=
  r_putsAside_2 xLF 0 m
/-- LockOrchestraModel.takesBack()V -/
def r_takesBack_2 : Nat → Int → xm → xr
  | 0, _, _ => none
  | n + 1, v1, m =>
    if 127 ≤ w32 v1 then
      some (0, m)
    else
    ial m 111 v1 fun x1 =>
    ias m 110 v1 x1 fun m2 =>
    r_takesBack_2 n (v1 + 1) m2
def r_takesBack (m : xm) : xr :=
  r_takesBack_2 xLF 0 m
/-- LockOrchestraModel.turns(I)V -/
def r_turns_86 (k9 : Int → Int → xm → xr) (v1 : Int) (v2 : Int) (m : xm) : xr :=
  k9 v1 (v2 + 1) m
def r_turns_9 : Nat → Int → Int → xm → xr
  | 0, _, _, _ => none
  | n + 1, v1, v2, m =>
    bnd (r_lockMany m) fun r1 m2 =>
    if w32 r1 ≤ w32 v2 then
      some (0, m2)
    else
    bnd (r_turnOf v1 v2 m2) fun r3 m4 =>
    if w32 r3 = 0 then
      r_turns_86 (fun v1 v2 m => r_turns_9 n v1 v2 m) v1 v2 m4
    else
    bnd (r_wardNow v2 m4) fun r5 m6 =>
    bnd (r_turnOf v1 v2 m6) fun r7 m8 =>
    bnd (r_wardsOf v2 m8) fun r9 m10 =>
    if w32 r9 = 0 then none else
    ias m10 110 (1 + v2) (irm (r5 + r7) r9) fun m11 =>
    bnd (r_wardNow v2 m11) fun r12 m13 =>
    ial m13 103 (14 + (3 * v2)) fun x14 =>
    if w32 r12 = w32 x14 then
      ial m13 110 5 fun x15 =>
      ias m13 110 5 (bor x15 (shl 1 v2)) fun m16 =>
      r_turns_86 (fun v1 v2 m => r_turns_9 n v1 v2 m) v1 v2 m16
    else
    r_turns_86 (fun v1 v2 m => r_turns_9 n v1 v2 m) v1 v2 m13
def r_turns (v1 : Int) (m : xm) : xr :=
  if w32 v1 = 6 then
    some (0, m)
  else
  r_turns_9 xLF v1 0 m
/-- LockOrchestraModel.refuses(I)I -/
def r_refuses (v1 : Int) (m : xm) : xr :=
  ial m 80 v1 fun x1 =>
  ias m 80 v1 (x1 + 1) fun m2 =>
  some ((-1), m2)
/-- LockOrchestraModel.judge()I -/
def r_judge_87 (v1 : Int) (m : xm) : xr :=
  bnd (r_openNow m) fun r1 m2 =>
  stf m2 78 48 r1 fun m3 =>
  bnd (r_jammedNow m3) fun r4 m5 =>
  stf m5 78 49 r4 fun m6 =>
  stf m6 78 47 1 fun m7 =>
  bnd (r_takesBack m7) fun r8 m9 =>
  some (v1, m9)
def r_judge_25 : Nat → Int → xm → xr
  | 0, _, _ => none
  | n + 1, v1, m =>
    if ld m 78 46 ≤ w32 v1 then
      r_judge_87 v1 m
    else
    ial m 112 v1 fun x1 =>
    bnd (r_canPlay x1 m) fun r2 m3 =>
    if w32 r2 = 0 then
      r_judge_87 v1 m3
    else
    bnd (r_openNow m3) fun r4 m5 =>
    ial m5 112 v1 fun x6 =>
    bnd (r_turns x6 m5) fun r7 m8 =>
    bnd (r_openNow m8) fun r9 m10 =>
    bnd (r_bits (ban r9 (bxo r4 (-1))) m10) fun r11 m12 =>
    stf m12 78 50 ((ld m8 78 50) + r11) fun m13 =>
    r_judge_25 n (v1 + 1) m13
def r_judge (m : xm) : xr :=
  bnd (r_isPiece 0 m) fun r1 m2 =>
  if w32 r1 = 0 then
    bnd (r_refuses 1 m2) fun r6 m7 =>
    some (r6, m7)
  else
  bnd (r_putsAside m2) fun r3 m4 =>
  stf m4 78 50 0 fun m5 =>
  r_judge_25 xLF 0 m5
/-- LockOrchestraModel.judged(I)I -/
def r_judged (v1 : Int) (m : xm) : xr :=
  if ld m 78 47 = 0 then
    some ((-1), m)
  else
  if w32 v1 = 0 then
    some (ld m 78 48, m)
  else
  if w32 v1 = 1 then
    some (ld m 78 49, m)
  else
  if w32 v1 = 2 then
    some (ld m 78 50, m)
  else
  some ((-1), m)
/-- LockOrchestraModel.areDoors(I)Z -/
def r_areDoors (v1 : Int) (m : xm) : xr :=
  bnd (r_doorMany m) fun r1 m2 =>
  bnd (r_isIn (w32 v1) 0 (w32 ((shl 1 r1) - 1)) m2) fun r3 m4 =>
  xrb r3 m4
/-- LockOrchestraModel.wardWays()I -/
def r_wardWays_4 : Nat → Int → Int → xm → xr
  | 0, _, _, _ => none
  | n + 1, v1, v2, m =>
    bnd (r_lockMany m) fun r1 m2 =>
    if w32 r1 ≤ w32 v2 then
      some (v1, m2)
    else
    bnd (r_wardsOf v2 m2) fun r3 m4 =>
    xlt (v1 * r3) fun x5 =>
    r_wardWays_4 n x5 (v2 + 1) m4
def r_wardWays (m : xm) : xr :=
  r_wardWays_4 xLF 1 0 m
/-- LockOrchestraModel.stateNow()I -/
def r_stateNow_33 (v1 : Int) (m : xm) : xr :=
  bnd (r_wardWays m) fun r1 m2 =>
  bnd (r_jammedNow m2) fun r3 m4 =>
  some (v1 + (r1 * r3), m4)
def r_stateNow_9 : Nat → Int → Int → xm → xr
  | 0, _, _, _ => none
  | n + 1, v1, v2, m =>
    if w32 v2 < 0 then
      r_stateNow_33 v1 m
    else
    bnd (r_wardsOf v2 m) fun r1 m2 =>
    bnd (r_wardNow v2 m2) fun r3 m4 =>
    xlt ((v1 * r1) + r3) fun x5 =>
    r_stateNow_9 n x5 (v2 + (-1)) m4
def r_stateNow (m : xm) : xr :=
  bnd (r_lockMany m) fun r1 m2 =>
  xlt (r1 - 1) fun x3 =>
  r_stateNow_9 xLF 0 x3 m2
/-- LockOrchestraModel.isState(I)V -/
def r_isState_46 (v1 : Int) (m : xm) : xr :=
  bnd (r_wardWays m) fun r1 m2 =>
  if w32 r1 = 0 then none else
  ias m2 110 5 (idv v1 r1) fun m3 =>
  some (0, m3)
def r_isState_9 : Nat → Int → Int → Int → xm → xr
  | 0, _, _, _, _ => none
  | n + 1, v1, v2, v3, m =>
    bnd (r_lockMany m) fun r1 m2 =>
    if w32 r1 ≤ w32 v3 then
      r_isState_46 v1 m2
    else
    bnd (r_wardsOf v3 m2) fun r3 m4 =>
    if w32 r3 = 0 then none else
    ias m4 110 (1 + v3) (irm v2 r3) fun m5 =>
    bnd (r_wardsOf v3 m5) fun r6 m7 =>
    if w32 r6 = 0 then none else
    xlt (idv v2 r6) fun x8 =>
    r_isState_9 n v1 x8 (v3 + 1) m7
def r_isState (v1 : Int) (m : xm) : xr :=
  bnd (r_wardWays m) fun r1 m2 =>
  if w32 r1 = 0 then none else
  xlt (irm v1 r1) fun x3 =>
  r_isState_9 xLF v1 x3 0 m2
/-- LockOrchestraModel.isAsTold()Z -/
def r_isAsTold_37 (m : xm) : xr :=
  bnd (r_jammedNow m) fun r1 m2 =>
  if w32 r1 = 0 then
    some (1, m2)
  else
  some (0, m2)
def r_isAsTold_2 : Nat → Int → xm → xr
  | 0, _, _ => none
  | n + 1, v1, m =>
    bnd (r_lockMany m) fun r1 m2 =>
    if w32 r1 ≤ w32 v1 then
      r_isAsTold_37 m2
    else
    bnd (r_wardNow v1 m2) fun r3 m4 =>
    ial m4 103 (13 + (3 * v1)) fun x5 =>
    if w32 r3 = w32 x5 then
      r_isAsTold_2 n (v1 + 1) m4
    else
    some (0, m4)
def r_isAsTold (m : xm) : xr :=
  r_isAsTold_2 xLF 0 m
/-- LockOrchestraModel.isThere(II)Z -/
def r_isThere (v1 : Int) (v2 : Int) (m : xm) : xr :=
  xsw (w32 v1) 0 [
    ( bnd (r_openNow m) fun r1 m2 =>
      if w32 r1 = w32 v2 then
        some (1, m2)
      else
      some (0, m2)),
    ( bnd (r_openNow m) fun r3 m4 =>
      if ban v2 (bxo r3 (-1)) = 0 then
        some (1, m4)
      else
      some (0, m4)),
    ( bnd (r_isAsTold m) fun r5 m6 =>
      xrb r5 m6)
    ] (
      some (0, m)
    )
/-- LockOrchestraModel.comesTo(II)V -/
def r_comesTo (v1 : Int) (v2 : Int) (m : xm) : xr :=
  bnd (r_stateNow m) fun r1 m2 =>
  ial m2 113 r1 fun x3 =>
  if w32 x3 = (-1) then
    ial m2 113 v1 fun x4 =>
    ias m2 113 r1 (x4 + 1) fun m5 =>
    ias m5 114 r1 v1 fun m6 =>
    ias m6 115 r1 v2 fun m7 =>
    ias m7 116 (ld m7 78 55) r1 fun m8 =>
    stf m8 78 55 ((ld m8 78 55) + 1) fun m9 =>
    some (0, m9)
  else
  some (0, m2)
/-- LockOrchestraModel.seeks(III)I -/
def r_seeks_184 (v4 : Int) (v5 : Int) (m : xm) : xr :=
  bnd (r_isState v4 m) fun r1 m2 =>
  some (v5, m2)
def r_seeks_178 (k58 : Int → Int → Int → Int → Int → Int → xm → xr) (v1 : Int) (v2 : Int) (v3 : Int) (v4 : Int) (v5 : Int) (v6 : Int) (m : xm) : xr :=
  k58 v1 v2 v3 v4 v5 (v6 + 1) m
def r_seeks_172 (k58 : Int → Int → Int → Int → Int → Int → xm → xr) (k105 : Int → Int → Int → Int → Int → Int → Int → xm → xr) (v1 : Int) (v2 : Int) (v3 : Int) (v4 : Int) (v5 : Int) (v6 : Int) (v7 : Int) (m : xm) : xr :=
  k105 v1 v2 v3 v4 v5 v6 (v7 + 1) m
def r_seeks_105 (k58 : Int → Int → Int → Int → Int → Int → xm → xr) : Nat → Int → Int → Int → Int → Int → Int → Int → xm → xr
  | 0, _, _, _, _, _, _, _, _ => none
  | n + 1, v1, v2, v3, v4, v5, v6, v7, m =>
    bnd (r_noteMany m) fun r1 m2 =>
    if w32 r1 ≤ w32 v7 then
      r_seeks_178 k58 v1 v2 v3 v4 v5 v6 m2
    else
    if w32 v5 = (-1) then
      if ban (shr v1 v7) 1 = 1 then
        r_seeks_172 k58 (fun v1 v2 v3 v4 v5 v6 v7 m => r_seeks_105 k58 n v1 v2 v3 v4 v5 v6 v7 m) v1 v2 v3 v4 v5 v6 v7 m2
      else
      bnd (r_canPlay v7 m2) fun r3 m4 =>
      if w32 r3 = 0 then
        r_seeks_172 k58 (fun v1 v2 v3 v4 v5 v6 v7 m => r_seeks_105 k58 n v1 v2 v3 v4 v5 v6 v7 m) v1 v2 v3 v4 v5 v6 v7 m4
      else
      bnd (r_turns v7 m4) fun r5 m6 =>
      ial m6 116 v6 fun x7 =>
      bnd (r_comesTo x7 v7 m6) fun r8 m9 =>
      ial m9 116 v6 fun x10 =>
      bnd (r_isState x10 m9) fun r11 m12 =>
      r_seeks_172 k58 (fun v1 v2 v3 v4 v5 v6 v7 m => r_seeks_105 k58 n v1 v2 v3 v4 v5 v6 v7 m) v1 v2 v3 v4 v5 v6 v7 m12
    else
    r_seeks_178 k58 v1 v2 v3 v4 v5 v6 m2
def r_seeks_102 (k58 : Int → Int → Int → Int → Int → Int → xm → xr) (v1 : Int) (v2 : Int) (v3 : Int) (v4 : Int) (v5 : Int) (v6 : Int) (m : xm) : xr :=
  r_seeks_105 k58 xLF v1 v2 v3 v4 v5 v6 0 m
def r_seeks_58 : Nat → Int → Int → Int → Int → Int → Int → xm → xr
  | 0, _, _, _, _, _, _, _ => none
  | n + 1, v1, v2, v3, v4, v5, v6, m =>
    if ld m 78 55 ≤ w32 v6 then
      r_seeks_184 v4 v5 m
    else
    if w32 v5 = (-1) then
      ial m 116 v6 fun x1 =>
      bnd (r_isState x1 m) fun r2 m3 =>
      bnd (r_isThere v2 v3 m3) fun r4 m5 =>
      if w32 r4 = 0 then
        r_seeks_102 (fun v1 v2 v3 v4 v5 v6 m => r_seeks_58 n v1 v2 v3 v4 v5 v6 m) v1 v2 v3 v4 v5 v6 m5
      else
      ial m5 116 v6 fun x6 =>
      xlt x6 fun x7 =>
      r_seeks_102 (fun v1 v2 v3 v4 v5 v6 m => r_seeks_58 n v1 v2 v3 v4 v5 v6 m) v1 v2 v3 v4 x7 v6 m5
    else
    r_seeks_184 v4 v5 m
def r_seeks_25 (v1 : Int) (v2 : Int) (v3 : Int) (m : xm) : xr :=
  bnd (r_stateNow m) fun r1 m2 =>
  ias m2 113 r1 0 fun m3 =>
  ias m3 116 0 r1 fun m4 =>
  stf m4 78 55 1 fun m5 =>
  r_seeks_58 xLF v1 v2 v3 r1 (-1) 0 m5
def r_seeks_3 : Nat → Int → Int → Int → Int → xm → xr
  | 0, _, _, _, _, _ => none
  | n + 1, v1, v2, v3, v4, m =>
    if 10000 ≤ w32 v4 then
      r_seeks_25 v1 v2 v3 m
    else
    ias m 113 v4 (-1) fun m1 =>
    r_seeks_3 n v1 v2 v3 (v4 + 1) m1
def r_seeks (v1 : Int) (v2 : Int) (v3 : Int) (m : xm) : xr :=
  r_seeks_3 xLF v1 v2 v3 0 m
/-- LockOrchestraModel.wayTo(II)I -/
def r_wayTo_60 (v3 : Int) (m : xm) : xr :=
  ial m 115 v3 fun x1 =>
  some (x1, m)
def r_wayTo_38 : Nat → Int → Int → xm → xr
  | 0, _, _, _ => none
  | n + 1, v2, v3, m =>
    ial m 113 v3 fun x1 =>
    if w32 x1 ≤ w32 (v2 + 1) then
      r_wayTo_60 v3 m
    else
    ial m 114 v3 fun x2 =>
    xlt x2 fun x3 =>
    r_wayTo_38 n v2 x3 m
def r_wayTo (v1 : Int) (v2 : Int) (m : xm) : xr :=
  if w32 v1 = (-1) then
    some ((-1), m)
  else
  if (-1) ≤ w32 v2 then
    if w32 v2 = (-1) then
      ial m 113 v1 fun x2 =>
      some (x2, m)
    else
    ial m 113 v1 fun x1 =>
    if w32 v2 < w32 x1 then
      r_wayTo_38 xLF v2 v1 m
    else
    some ((-1), m)
  else
  some ((-1), m)
/-- LockOrchestraModel.shortest(II)I -/
def r_shortest (v1 : Int) (v2 : Int) (m : xm) : xr :=
  bnd (r_areDoors v1 m) fun r1 m2 =>
  if w32 r1 = 0 then
    some ((-1), m2)
  else
  bnd (r_seeks 0 0 v1 m2) fun r3 m4 =>
  bnd (r_wayTo r3 v2 m4) fun r5 m6 =>
  some (r5, m6)
/-- LockOrchestraModel.back(I)I -/
def r_back (v1 : Int) (m : xm) : xr :=
  bnd (r_seeks 0 2 0 m) fun r1 m2 =>
  bnd (r_wayTo r1 v1 m2) fun r3 m4 =>
  some (r3, m4)
/-- LockOrchestraModel.states()I -/
def r_states (m : xm) : xr :=
  bnd (r_seeks 0 3 0 m) fun r1 m2 =>
  some (ld m2 78 55, m2)
/-- LockOrchestraModel.forbid(I)I -/
def r_forbid_65 (k23 : Int → Int → Int → xm → xr) (v1 : Int) (v2 : Int) (v3 : Int) (m : xm) : xr :=
  k23 v1 v2 (v3 + 1) m
def r_forbid_52 (k23 : Int → Int → Int → xm → xr) (v1 : Int) (v2 : Int) (v3 : Int) (m : xm) : xr :=
  bnd (r_seeks v3 1 v1 m) fun r1 m2 =>
  if w32 r1 = (-1) then
    r_forbid_65 k23 v1 v3 v3 m2
  else
  r_forbid_65 k23 v1 v2 v3 m2
def r_forbid_23 : Nat → Int → Int → Int → xm → xr
  | 0, _, _, _, _ => none
  | n + 1, v1, v2, v3, m =>
    bnd (r_noteMany m) fun r1 m2 =>
    if shl 1 r1 ≤ w32 v3 then
      some (v2, m2)
    else
    if w32 v2 = (-1) then
      r_forbid_52 (fun v1 v2 v3 m => r_forbid_23 n v1 v2 v3 m) v1 v2 v3 m2
    else
    bnd (r_bits v3 m2) fun r3 m4 =>
    bnd (r_bits v2 m4) fun r5 m6 =>
    if w32 r3 < w32 r5 then
      r_forbid_52 (fun v1 v2 v3 m => r_forbid_23 n v1 v2 v3 m) v1 v2 v3 m6
    else
    r_forbid_65 (fun v1 v2 v3 m => r_forbid_23 n v1 v2 v3 m) v1 v2 v3 m6
def r_forbid (v1 : Int) (m : xm) : xr :=
  bnd (r_areDoors v1 m) fun r1 m2 =>
  if w32 r1 = 0 then
    some ((-1), m2)
  else
  bnd (r_isThere 1 v1 m2) fun r3 m4 =>
  if w32 r3 = 0 then
    r_forbid_23 xLF v1 (-1) 0 m4
  else
  some ((-1), m4)
/-- LockOrchestraModel.otherThan(II)I -/
def r_otherThan (v0 : Int) (v1 : Int) (m : xm) : xr :=
  bnd (r_bits v1 m) fun r1 m2 =>
  if w32 r1 ≤ 1 then
    some (ban v0 (bxo v1 (-1)), m2)
  else
  some (v0, m2)
/-- LockOrchestraModel.isSharedBy(I)Z -/
def r_isSharedBy_87 (k4 : Int → Int → Int → xm → xr) (v1 : Int) (v3 : Int) (v5 : Int) (m : xm) : xr :=
  k4 v1 v5 (v3 + 1) m
def r_isSharedBy_73 (k4 : Int → Int → Int → xm → xr) (v1 : Int) (v3 : Int) (v4 : Int) (v5 : Int) (m : xm) : xr :=
  if w32 v4 = 6 then
    r_isSharedBy_87 k4 v1 v3 v5 m
  else
  if w32 v5 = 0 then
    some (0, m)
  else
  r_isSharedBy_87 k4 v1 v3 v5 m
def r_isSharedBy_39 (k4 : Int → Int → Int → xm → xr) (v1 : Int) (v2 : Int) (v3 : Int) (v4 : Int) (s0 : Int) (m : xm) : xr :=
  xlt s0 fun x1 =>
  if w32 v4 = 6 then
    r_isSharedBy_73 k4 v1 v3 v4 x1 m
  else
  if w32 v3 ≤ 0 then
    r_isSharedBy_73 k4 v1 v3 v4 x1 m
  else
  ial m 112 (v3 - 1) fun x2 =>
  if w32 x2 = 6 then
    r_isSharedBy_73 k4 v1 v3 v4 x1 m
  else
  bnd (r_otherThan x1 v2 m) fun r3 m4 =>
  r_isSharedBy_73 k4 v1 v3 v4 r3 m4
def r_isSharedBy_4 : Nat → Int → Int → Int → xm → xr
  | 0, _, _, _, _ => none
  | n + 1, v1, v2, v3, m =>
    if ld m 78 46 ≤ w32 v3 then
      some (1, m)
    else
    ial m 112 v3 fun x1 =>
    xlt x1 fun x2 =>
    if w32 x2 = 6 then
      r_isSharedBy_39 (fun v1 v2 v3 m => r_isSharedBy_4 n v1 v2 v3 m) v1 v2 v3 x2 0 m
    else
    bnd (r_playersOf x2 m) fun r3 m4 =>
    r_isSharedBy_39 (fun v1 v2 v3 m => r_isSharedBy_4 n v1 v2 v3 m) v1 v2 v3 x2 (ban r3 v1) m4
def r_isSharedBy (v1 : Int) (m : xm) : xr :=
  r_isSharedBy_4 xLF v1 0 0 m
/-- LockOrchestraModel.share()I -/
def r_share_57 (k18 : Int → Int → xm → xr) (v1 : Int) (v2 : Int) (m : xm) : xr :=
  k18 v1 (v2 + 1) m
def r_share_47 (k18 : Int → Int → xm → xr) (v1 : Int) (v2 : Int) (m : xm) : xr :=
  bnd (r_isSharedBy v2 m) fun r1 m2 =>
  if w32 r1 = 0 then
    r_share_57 k18 v1 v2 m2
  else
  r_share_57 k18 v2 v2 m2
def r_share_18 : Nat → Int → Int → xm → xr
  | 0, _, _, _ => none
  | n + 1, v1, v2, m =>
    bnd (r_playerMany m) fun r1 m2 =>
    if shl 1 r1 ≤ w32 v2 then
      some (v1, m2)
    else
    if w32 v1 = (-1) then
      r_share_47 (fun v1 v2 m => r_share_18 n v1 v2 m) v1 v2 m2
    else
    bnd (r_bits v2 m2) fun r3 m4 =>
    bnd (r_bits v1 m4) fun r5 m6 =>
    if w32 r3 < w32 r5 then
      r_share_47 (fun v1 v2 m => r_share_18 n v1 v2 m) v1 v2 m6
    else
    r_share_57 (fun v1 v2 m => r_share_18 n v1 v2 m) v1 v2 m6
def r_share (m : xm) : xr :=
  bnd (r_isPiece 0 m) fun r1 m2 =>
  if w32 r1 = 0 then
    bnd (r_refuses 1 m2) fun r3 m4 =>
    some (r3, m4)
  else
  r_share_18 xLF (-1) 0 m2
/-- LockOrchestraModel.isSlip(III)Z -/
def r_isSlip_86 (s0 : Int) (m : xm) : xr :=
  xlt s0 fun x1 =>
  bnd (r_takesBack m) fun r2 m3 =>
  xrb x1 m3
def r_isSlip_85 (m : xm) : xr :=
  r_isSlip_86 0 m
def r_isSlip_68 (v3 : Int) (v4 : Int) (m : xm) : xr :=
  if w32 v4 = 0 then
    r_isSlip_85 m
  else
  bnd (r_openNow m) fun r1 m2 =>
  if w32 r1 = w32 v3 then
    r_isSlip_86 1 m2
  else
  r_isSlip_85 m2
def r_isSlip_62 (k10 : Int → Int → Int → Int → Int → xm → xr) (v1 : Int) (v2 : Int) (v3 : Int) (v4 : Int) (v5 : Int) (m : xm) : xr :=
  k10 v1 v2 v3 v4 (v5 + 1) m
def r_isSlip_41 (k10 : Int → Int → Int → Int → Int → xm → xr) (v1 : Int) (v2 : Int) (v3 : Int) (v5 : Int) (s0 : Int) (m : xm) : xr :=
  xlt s0 fun x1 =>
  bnd (r_canPlay x1 m) fun r2 m3 =>
  if w32 r2 = 0 then
    r_isSlip_62 k10 v1 v2 v3 r2 v5 m3
  else
  bnd (r_turns x1 m3) fun r4 m5 =>
  r_isSlip_62 k10 v1 v2 v3 r2 v5 m5
def r_isSlip_10 : Nat → Int → Int → Int → Int → Int → xm → xr
  | 0, _, _, _, _, _, _ => none
  | n + 1, v1, v2, v3, v4, v5, m =>
    if ld m 78 46 ≤ w32 v5 then
      r_isSlip_68 v3 v4 m
    else
    if w32 v4 = 0 then
      r_isSlip_68 v3 v4 m
    else
    if w32 v5 = w32 v1 then
      r_isSlip_41 (fun v1 v2 v3 v4 v5 m => r_isSlip_10 n v1 v2 v3 v4 v5 m) v1 v2 v3 v5 v2 m
    else
    ial m 112 v5 fun x1 =>
    r_isSlip_41 (fun v1 v2 v3 v4 v5 m => r_isSlip_10 n v1 v2 v3 v4 v5 m) v1 v2 v3 v5 x1 m
def r_isSlip (v1 : Int) (v2 : Int) (v3 : Int) (m : xm) : xr :=
  bnd (r_putsAside m) fun r1 m2 =>
  r_isSlip_10 xLF v1 v2 v3 1 0 m2
/-- LockOrchestraModel.slip(I)I -/
def r_slip_16 (m : xm) : xr :=
  bnd (r_refuses 1 m) fun r1 m2 =>
  some (r1, m2)
def r_slip_123 (k36 : Int → Int → Int → xm → xr) (v1 : Int) (v2 : Int) (v3 : Int) (m : xm) : xr :=
  k36 v1 v2 (v3 + 1) m
def r_slip_117 (k36 : Int → Int → Int → xm → xr) (k47 : Int → Int → Int → Int → xm → xr) (v1 : Int) (v2 : Int) (v3 : Int) (v4 : Int) (m : xm) : xr :=
  k47 v1 v2 v3 (v4 + 1) m
def r_slip_114 (k36 : Int → Int → Int → xm → xr) (k47 : Int → Int → Int → Int → xm → xr) (v1 : Int) (v2 : Int) (v3 : Int) (v4 : Int) (m : xm) : xr :=
  r_slip_117 k36 k47 v1 (v2 + 1) v3 v4 m
def r_slip_72 (k36 : Int → Int → Int → xm → xr) (k47 : Int → Int → Int → Int → xm → xr) (v1 : Int) (v2 : Int) (v3 : Int) (v4 : Int) (s0 : Int) (m : xm) : xr :=
  xlt s0 fun x1 =>
  ial m 112 v3 fun x2 =>
  if w32 x1 = w32 x2 then
    r_slip_117 k36 k47 v1 v2 v3 v4 m
  else
  bnd (r_isSlip v3 x1 v1 m) fun r3 m4 =>
  if w32 r3 = 0 then
    r_slip_117 k36 k47 v1 v2 v3 v4 m4
  else
  if w32 v2 = 0 then
    stf m4 78 56 v3 fun m5 =>
    stf m5 78 57 x1 fun m6 =>
    r_slip_114 k36 k47 v1 v2 v3 v4 m6
  else
  r_slip_114 k36 k47 v1 v2 v3 v4 m4
def r_slip_47 (k36 : Int → Int → Int → xm → xr) : Nat → Int → Int → Int → Int → xm → xr
  | 0, _, _, _, _, _ => none
  | n + 1, v1, v2, v3, v4, m =>
    bnd (r_noteMany m) fun r1 m2 =>
    if w32 r1 < w32 v4 then
      r_slip_123 k36 v1 v2 v3 m2
    else
    bnd (r_noteMany m2) fun r3 m4 =>
    if w32 v4 = w32 r3 then
      r_slip_72 k36 (fun v1 v2 v3 v4 m => r_slip_47 k36 n v1 v2 v3 v4 m) v1 v2 v3 v4 6 m4
    else
    r_slip_72 k36 (fun v1 v2 v3 v4 m => r_slip_47 k36 n v1 v2 v3 v4 m) v1 v2 v3 v4 v4 m4
def r_slip_36 : Nat → Int → Int → Int → xm → xr
  | 0, _, _, _, _ => none
  | n + 1, v1, v2, v3, m =>
    if ld m 78 46 ≤ w32 v3 then
      some (v2, m)
    else
    r_slip_47 (fun v1 v2 v3 m => r_slip_36 n v1 v2 v3 m) xLF v1 v2 v3 0 m
def r_slip (v1 : Int) (m : xm) : xr :=
  bnd (r_isPiece 0 m) fun r1 m2 =>
  if w32 r1 = 0 then
    r_slip_16 m2
  else
  bnd (r_areDoors v1 m2) fun r3 m4 =>
  if w32 r3 = 0 then
    r_slip_16 m4
  else
  stf m4 78 56 (-1) fun m5 =>
  stf m5 78 57 (-1) fun m6 =>
  r_slip_36 xLF v1 0 0 m6
/-- LockOrchestraModel.slipped(I)I -/
def r_slipped (v1 : Int) (m : xm) : xr :=
  if w32 v1 = 0 then
    some (ld m 78 56, m)
  else
  if w32 v1 = 1 then
    some (ld m 78 57, m)
  else
  some ((-1), m)
/-- LockOrchestraModel.hear()I -/
def r_hear_131 (v1 : Int) (m : xm) : xr :=
  stf m 78 58 (idv v1 2) fun m1 =>
  some (ld m1 78 58, m1)
def r_hear_108 : Nat → Int → Int → xm → xr
  | 0, _, _, _ => none
  | n + 1, v1, v3, m =>
    if w32 v1 ≤ w32 v3 then
      r_hear_131 v1 m
    else
    ial m 79 v3 fun x1 =>
    ias m 117 v3 x1 fun m2 =>
    r_hear_108 n v1 (v3 + 1) m2
def r_hear_96 (v1 : Int) (v2 : Int) (m : xm) : xr :=
  if w32 v2 = 0 then
    bnd (r_refuses 1 m) fun r1 m2 =>
    some (r1, m2)
  else
  r_hear_108 xLF v1 0 m
def r_hear_89 (k36 : Int → Int → Int → xm → xr) (v1 : Int) (v3 : Int) (s0 : Int) (m : xm) : xr :=
  xlt s0 fun x1 =>
  k36 v1 x1 (v3 + 2) m
def r_hear_88 (k36 : Int → Int → Int → xm → xr) (v1 : Int) (v3 : Int) (m : xm) : xr :=
  r_hear_89 k36 v1 v3 0 m
def r_hear_69 (k36 : Int → Int → Int → xm → xr) (v1 : Int) (v3 : Int) (m : xm) : xr :=
  ial m 79 (v3 + 1) fun x1 =>
  bnd (r_areDoors x1 m) fun r2 m3 =>
  if w32 r2 = 0 then
    r_hear_88 k36 v1 v3 m3
  else
  r_hear_89 k36 v1 v3 1 m3
def r_hear_36 : Nat → Int → Int → Int → xm → xr
  | 0, _, _, _, _ => none
  | n + 1, v1, v2, v3, m =>
    if w32 v1 ≤ w32 v3 then
      r_hear_96 v1 v2 m
    else
    if w32 v2 = 0 then
      r_hear_96 v1 v2 m
    else
    ial m 79 v3 fun x1 =>
    if w32 x1 = 6 then
      r_hear_69 (fun v1 v2 v3 m => r_hear_36 n v1 v2 v3 m) v1 v3 m
    else
    ial m 79 v3 fun x2 =>
    bnd (r_isNote x2 m) fun r3 m4 =>
    if w32 r3 = 0 then
      r_hear_88 (fun v1 v2 v3 m => r_hear_36 n v1 v2 v3 m) v1 v3 m4
    else
    r_hear_69 (fun v1 v2 v3 m => r_hear_36 n v1 v2 v3 m) v1 v3 m4
def r_hear_33 (v1 : Int) (s0 : Int) (m : xm) : xr :=
  xlt s0 fun x1 =>
  r_hear_36 xLF v1 x1 0 m
def r_hear_32 (v1 : Int) (m : xm) : xr :=
  r_hear_33 v1 0 m
def r_hear (m : xm) : xr :=
  stf m 78 1 0 fun m1 =>
  if ld m 78 1 ≤ 0 then
    r_hear_32 (ld m 78 1) m1
  else
  if irm (ld m 78 1) 2 = 0 then
    if 20 < idv (ld m 78 1) 2 then
      r_hear_32 (ld m 78 1) m1
    else
    r_hear_33 (ld m 78 1) 1 m1
  else
  r_hear_32 (ld m 78 1) m1
/-- LockOrchestraModel.isHeardFrom(I)Z -/
def r_isHeardFrom_7 : Nat → Int → xm → xr
  | 0, _, _ => none
  | n + 1, v2, m =>
    if ld m 78 58 ≤ w32 v2 then
      some (1, m)
    else
    ial m 117 (2 * v2) fun x1 =>
    bnd (r_canPlay x1 m) fun r2 m3 =>
    if w32 r2 = 0 then
      some (0, m3)
    else
    ial m3 117 (2 * v2) fun x4 =>
    bnd (r_turns x4 m3) fun r5 m6 =>
    bnd (r_openNow m6) fun r7 m8 =>
    ial m8 117 ((2 * v2) + 1) fun x9 =>
    if w32 r7 = w32 x9 then
      r_isHeardFrom_7 n (v2 + 1) m8
    else
    some (0, m8)
def r_isHeardFrom (v1 : Int) (m : xm) : xr :=
  bnd (r_isState v1 m) fun r1 m2 =>
  r_isHeardFrom_7 xLF 0 m2
/-- LockOrchestraModel.starts(I)I -/
def r_starts_77 (v1 : Int) (v2 : Int) (v3 : Int) (v4 : Int) (m : xm) : xr :=
  bnd (r_takesBack m) fun r1 m2 =>
  if w32 v1 = 0 then
    some (v2, m2)
  else
  if w32 v1 = 1 then
    some (v3, m2)
  else
  some (v4, m2)
def r_starts_71 (k35 : Int → Int → Int → Int → Int → xm → xr) (v1 : Int) (v2 : Int) (v3 : Int) (v4 : Int) (v5 : Int) (m : xm) : xr :=
  k35 v1 v2 v3 v4 (v5 + 1) m
def r_starts_67 (k35 : Int → Int → Int → Int → Int → xm → xr) (v1 : Int) (v2 : Int) (v3 : Int) (v5 : Int) (m : xm) : xr :=
  r_starts_71 k35 v1 v2 v3 v5 v5 m
def r_starts_35 : Nat → Int → Int → Int → Int → Int → xm → xr
  | 0, _, _, _, _, _, _ => none
  | n + 1, v1, v2, v3, v4, v5, m =>
    bnd (r_wardWays m) fun r1 m2 =>
    if w32 r1 ≤ w32 v5 then
      r_starts_77 v1 v2 v3 v4 m2
    else
    bnd (r_isHeardFrom v5 m2) fun r3 m4 =>
    if w32 r3 = 0 then
      r_starts_71 (fun v1 v2 v3 v4 v5 m => r_starts_35 n v1 v2 v3 v4 v5 m) v1 v2 v3 v4 v5 m4
    else
    if w32 v3 = (-1) then
      r_starts_67 (fun v1 v2 v3 v4 v5 m => r_starts_35 n v1 v2 v3 v4 v5 m) v1 (v2 + 1) v5 v5 m4
    else
    r_starts_67 (fun v1 v2 v3 v4 v5 m => r_starts_35 n v1 v2 v3 v4 v5 m) v1 (v2 + 1) v3 v5 m4
def r_starts (v1 : Int) (m : xm) : xr :=
  if ld m 78 58 = 0 then
    some ((-1), m)
  else
  bnd (r_isIn (w32 v1) 0 2 m) fun r1 m2 =>
  if w32 r1 = 0 then
    some ((-1), m2)
  else
  bnd (r_putsAside m2) fun r3 m4 =>
  r_starts_35 xLF v1 0 (-1) (-1) 0 m4
/-- LockOrchestraModel.hangs(I)I -/
def r_hangs_93 (k29 : Int → Int → Int → Int → xm → xr) (v1 : Int) (v2 : Int) (v3 : Int) (v4 : Int) (v5 : Int) (m : xm) : xr :=
  ias m 110 (1 + v4) v5 fun m1 =>
  k29 v1 v2 v3 (v4 + 1) m1
def r_hangs_87 (k29 : Int → Int → Int → Int → xm → xr) (k49 : Int → Int → Int → Int → Int → Int → xm → xr) (v1 : Int) (v2 : Int) (v3 : Int) (v4 : Int) (v5 : Int) (v6 : Int) (m : xm) : xr :=
  k49 v1 v2 v3 v4 v5 (v6 + 1) m
def r_hangs_49 (k29 : Int → Int → Int → Int → xm → xr) : Nat → Int → Int → Int → Int → Int → Int → xm → xr
  | 0, _, _, _, _, _, _, _ => none
  | n + 1, v1, v2, v3, v4, v5, v6, m =>
    bnd (r_wardsOf v4 m) fun r1 m2 =>
    if w32 r1 ≤ w32 v6 then
      r_hangs_93 k29 v1 v2 v3 v4 v5 m2
    else
    ias m2 110 (1 + v4) v6 fun m3 =>
    bnd (r_isOpen v1 m3) fun r4 m5 =>
    if w32 r4 = w32 v2 then
      r_hangs_87 k29 (fun v1 v2 v3 v4 v5 v6 m => r_hangs_49 k29 n v1 v2 v3 v4 v5 v6 m) v1 v2 v3 v4 v5 v6 m5
    else
    xlt (bor v3 (shl 1 v4)) fun x6 =>
    r_hangs_87 k29 (fun v1 v2 v3 v4 v5 v6 m => r_hangs_49 k29 n v1 v2 v3 v4 v5 v6 m) v1 v2 x6 v4 v5 v6 m5
def r_hangs_29 : Nat → Int → Int → Int → Int → xm → xr
  | 0, _, _, _, _, _ => none
  | n + 1, v1, v2, v3, v4, m =>
    bnd (r_lockMany m) fun r1 m2 =>
    if w32 r1 ≤ w32 v4 then
      some (v3, m2)
    else
    bnd (r_wardNow v4 m2) fun r3 m4 =>
    r_hangs_49 (fun v1 v2 v3 v4 m => r_hangs_29 n v1 v2 v3 v4 m) xLF v1 v2 v3 v4 r3 0 m4
def r_hangs (v1 : Int) (m : xm) : xr :=
  bnd (r_doorMany m) fun r1 m2 =>
  bnd (r_isIn (w32 v1) 0 (w32 (r1 - 1)) m2) fun r3 m4 =>
  if w32 r3 = 0 then
    some ((-1), m4)
  else
  bnd (r_isOpen v1 m4) fun r5 m6 =>
  r_hangs_29 xLF v1 r5 0 0 m6
/-- LockOrchestraModel.undo()Z -/
def r_undo_53 (m : xm) : xr :=
  stf m 78 62 (irm (((ld m 78 62) + 20) - 1) 20) fun m1 =>
  stf m1 78 61 ((ld m1 78 61) - 1) fun m2 =>
  some (1, m2)
def r_undo_21 : Nat → Int → xm → xr
  | 0, _, _ => none
  | n + 1, v1, m =>
    if 127 ≤ w32 v1 then
      r_undo_53 m
    else
    ial m 118 ((127 * (ld m 78 62)) + v1) fun x1 =>
    ias m 110 v1 x1 fun m2 =>
    r_undo_21 n (v1 + 1) m2
def r_undo (m : xm) : xr :=
  if ld m 78 61 = 0 then
    ial m 80 4 fun x1 =>
    ias m 80 4 (x1 + 1) fun m2 =>
    some (0, m2)
  else
  r_undo_21 xLF 0 m
/-- LockOrchestraModel.seed(I)Z -/
def r_seed (v1 : Int) (m : xm) : xr :=
  if 0 ≤ w32 v1 then
    stf m 78 63 (w32 v1) fun m1 =>
    some (1, m1)
  else
  ial m 80 5 fun x2 =>
  ias m 80 5 (x2 + 1) fun m3 =>
  some (0, m3)
/-- LockOrchestraModel.keeps()V -/
def r_keeps_47 (m : xm) : xr :=
  if 20 ≤ ld m 78 61 then
    some (0, m)
  else
  stf m 78 61 ((ld m 78 61) + 1) fun m1 =>
  some (0, m1)
def r_keeps_15 : Nat → Int → xm → xr
  | 0, _, _ => none
  | n + 1, v1, m =>
    if 127 ≤ w32 v1 then
      r_keeps_47 m
    else
    ial m 110 v1 fun x1 =>
    ias m 118 ((127 * (ld m 78 62)) + v1) x1 fun m2 =>
    r_keeps_15 n (v1 + 1) m2
def r_keeps (m : xm) : xr :=
  stf m 78 62 (irm ((ld m 78 62) + 1) 20) fun m1 =>
  r_keeps_15 xLF 0 m1
/-- LockOrchestraModel.keepsDoors(I)V -/
def r_keepsDoors_140 (k7 : Int → Int → Int → xm → xr) (v1 : Int) (v2 : Int) (v3 : Int) (m : xm) : xr :=
  k7 v1 v2 (v3 + 1) m
def r_keepsDoors_87 (k7 : Int → Int → Int → xm → xr) (v1 : Int) (v2 : Int) (v3 : Int) (m : xm) : xr :=
  ial m 110 6 fun x1 =>
  xlt ((7 + (3 * x1)) - 3) fun x2 =>
  ial m 110 0 fun x3 =>
  ias m 110 x2 x3 fun m4 =>
  ias m4 110 (x2 + 1) v3 fun m5 =>
  ias m5 110 (x2 + 2) (ban (shr v2 v3) 1) fun m6 =>
  r_keepsDoors_140 k7 v1 v2 v3 m6
def r_keepsDoors_73 (k7 : Int → Int → Int → xm → xr) (v1 : Int) (v2 : Int) (v3 : Int) (m : xm) : xr :=
  r_keepsDoors_87 k7 v1 v2 v3 m
def r_keepsDoors_44 (k7 : Int → Int → Int → xm → xr) : Nat → Int → Int → Int → Int → xm → xr
  | 0, _, _, _, _, _ => none
  | n + 1, v1, v2, v3, v4, m =>
    if 124 ≤ w32 v4 then
      r_keepsDoors_73 k7 v1 v2 v3 m
    else
    ial m 110 (v4 + 3) fun x1 =>
    ias m 110 v4 x1 fun m2 =>
    r_keepsDoors_44 k7 n v1 v2 v3 (v4 + 1) m2
def r_keepsDoors_7 : Nat → Int → Int → Int → xm → xr
  | 0, _, _, _, _ => none
  | n + 1, v1, v2, v3, m =>
    bnd (r_doorMany m) fun r1 m2 =>
    if w32 r1 ≤ w32 v3 then
      some (0, m2)
    else
    if ban (shr (bxo v2 v1) v3) 1 = 0 then
      r_keepsDoors_140 (fun v1 v2 v3 m => r_keepsDoors_7 n v1 v2 v3 m) v1 v2 v3 m2
    else
    ial m2 110 6 fun x3 =>
    if w32 x3 = 40 then
      r_keepsDoors_44 (fun v1 v2 v3 m => r_keepsDoors_7 n v1 v2 v3 m) xLF v1 v2 v3 7 m2
    else
    ial m2 110 6 fun x4 =>
    ias m2 110 6 (x4 + 1) fun m5 =>
    r_keepsDoors_87 (fun v1 v2 v3 m => r_keepsDoors_7 n v1 v2 v3 m) v1 v2 v3 m5
def r_keepsDoors (v1 : Int) (m : xm) : xr :=
  bnd (r_openNow m) fun r1 m2 =>
  r_keepsDoors_7 xLF v1 r1 0 m2
/-- LockOrchestraModel.isPlayed(I)V -/
def r_isPlayed_32 (v2 : Int) (m : xm) : xr :=
  bnd (r_keepsDoors v2 m) fun r1 m2 =>
  some (0, m2)
def r_isPlayed (v1 : Int) (m : xm) : xr :=
  bnd (r_openNow m) fun r1 m2 =>
  bnd (r_turns v1 m2) fun r3 m4 =>
  ial m4 110 0 fun x5 =>
  if 9999 ≤ w32 x5 then
    r_isPlayed_32 r1 m4
  else
  ial m4 110 0 fun x6 =>
  ias m4 110 0 (x6 + 1) fun m7 =>
  r_isPlayed_32 r1 m7
/-- LockOrchestraModel.play(I)I -/
def r_play_22 (m : xm) : xr :=
  bnd (r_refuses 2 m) fun r1 m2 =>
  some (r1, m2)
def r_play_14 (v1 : Int) (m : xm) : xr :=
  bnd (r_canPlay v1 m) fun r1 m2 =>
  if w32 r1 = 0 then
    r_play_22 m2
  else
  bnd (r_keeps m2) fun r3 m4 =>
  bnd (r_isPlayed v1 m4) fun r5 m6 =>
  bnd (r_openNow m6) fun r7 m8 =>
  some (r7, m8)
def r_play (v1 : Int) (m : xm) : xr :=
  if w32 v1 = 6 then
    r_play_14 v1 m
  else
  bnd (r_isNote v1 m) fun r1 m2 =>
  if w32 r1 = 0 then
    r_play_22 m2
  else
  r_play_14 v1 m2
/-- LockOrchestraModel.piece()I -/
def r_piece_20 : Nat → Int → xm → xr
  | 0, _, _ => none
  | n + 1, v1, m =>
    if ld m 78 46 ≤ w32 v1 then
      some (v1, m)
    else
    ial m 112 v1 fun x1 =>
    bnd (r_canPlay x1 m) fun r2 m3 =>
    if w32 r2 = 0 then
      some (v1, m3)
    else
    ial m3 112 v1 fun x4 =>
    bnd (r_isPlayed x4 m3) fun r5 m6 =>
    r_piece_20 n (v1 + 1) m6
def r_piece (m : xm) : xr :=
  bnd (r_isPiece 1 m) fun r1 m2 =>
  if w32 r1 = 0 then
    bnd (r_refuses 2 m2) fun r5 m6 =>
    some (r5, m6)
  else
  bnd (r_keeps m2) fun r3 m4 =>
  r_piece_20 xLF 0 m4
/-- LockOrchestraModel.oil(I)Z -/
def r_oil_16 (m : xm) : xr :=
  ial m 80 3 fun x1 =>
  ias m 80 3 (x1 + 1) fun m2 =>
  some (0, m2)
def r_oil (v1 : Int) (m : xm) : xr :=
  bnd (r_isLockThere v1 m) fun r1 m2 =>
  if w32 r1 = 0 then
    r_oil_16 m2
  else
  bnd (r_isJammed v1 m2) fun r3 m4 =>
  if w32 r3 = 0 then
    r_oil_16 m4
  else
  bnd (r_keeps m4) fun r5 m6 =>
  bnd (r_openNow m6) fun r7 m8 =>
  ial m8 110 5 fun x9 =>
  ias m8 110 5 (ban x9 (bxo (shl 1 v1) (-1))) fun m10 =>
  bnd (r_keepsDoors r7 m10) fun r11 m12 =>
  some (1, m12)
/-- LockOrchestraModel.drawOf(I)I -/
def r_drawOf (v1 : Int) (m : xm) : xr :=
  stf m 78 63 (lrm ((1103515245 * (ldl m 78 63)) + 12345) 2147483648) fun m1 =>
  if w32 v1 = 0 then none else
  some (lrm (ldv (ldl m1 78 63) 64) (w32 v1), m1)
/-- LockOrchestraModel.evening(I)I -/
def r_evening_19 (m : xm) : xr :=
  bnd (r_refuses 3 m) fun r1 m2 =>
  some (r1, m2)
def r_evening_114 (k33 : Int → Int → Int → xm → xr) (v1 : Int) (v2 : Int) (v3 : Int) (m : xm) : xr :=
  k33 v1 v2 (v3 + 1) m
def r_evening_80 (k33 : Int → Int → Int → xm → xr) (v1 : Int) (v2 : Int) (v3 : Int) (m : xm) : xr :=
  bnd (r_drawOf 100 m) fun r1 m2 =>
  ial m2 106 1 fun x3 =>
  if w32 x3 ≤ w32 r1 then
    r_evening_114 k33 v1 v2 v3 m2
  else
  ial m2 110 5 fun x4 =>
  bnd (r_lockMany m2) fun r5 m6 =>
  bnd (r_drawOf r5 m6) fun r7 m8 =>
  ias m8 110 5 (bor x4 (shl 1 r7)) fun m9 =>
  r_evening_114 k33 v1 v2 v3 m9
def r_evening_69 (k33 : Int → Int → Int → xm → xr) (v1 : Int) (v2 : Int) (v3 : Int) (v5 : Int) (s1 : Int) (m : xm) : xr :=
  bnd (r_isPlayed s1 m) fun r1 m2 =>
  if w32 v5 = 0 then
    r_evening_80 k33 v1 v2 v3 m2
  else
  r_evening_80 k33 v1 (v2 + 1) v3 m2
def r_evening_33 : Nat → Int → Int → Int → xm → xr
  | 0, _, _, _, _ => none
  | n + 1, v1, v2, v3, m =>
    if w32 v1 ≤ w32 v3 then
      some (v2, m)
    else
    bnd (r_noteMany m) fun r1 m2 =>
    bnd (r_drawOf r1 m2) fun r3 m4 =>
    bnd (r_canPlay r3 m4) fun r5 m6 =>
    if w32 r5 = 0 then
      r_evening_69 (fun v1 v2 v3 m => r_evening_33 n v1 v2 v3 m) v1 v2 v3 r5 6 m6
    else
    r_evening_69 (fun v1 v2 v3 m => r_evening_33 n v1 v2 v3 m) v1 v2 v3 r5 r3 m6
def r_evening (v1 : Int) (m : xm) : xr :=
  bnd (r_isIn (w32 v1) 1 50 m) fun r1 m2 =>
  if w32 r1 = 0 then
    r_evening_19 m2
  else
  bnd (r_noteMany m2) fun r3 m4 =>
  if w32 r3 = 0 then
    r_evening_19 m4
  else
  bnd (r_keeps m4) fun r5 m6 =>
  r_evening_33 xLF v1 0 0 m6
/-- LockOrchestraModel.qKind()I -/
def r_qKind_76 (s0 : Int) (m : xm) : xr :=
  xlt s0 fun x1 =>
  if w32 x1 = 5 then
    bnd (r_asks 124 m) fun r2 m3 =>
    some (x1, m3)
  else
  some (x1, m)
def r_qKind (m : xm) : xr :=
  bnd (r_takes 119 m) fun r1 m2 =>
  if w32 r1 = 0 then
    bnd (r_takes 120 m2) fun r3 m4 =>
    if w32 r3 = 0 then
      bnd (r_takes 121 m4) fun r5 m6 =>
      if w32 r5 = 0 then
        bnd (r_takes 122 m6) fun r7 m8 =>
        if w32 r7 = 0 then
          bnd (r_takes 123 m8) fun r9 m10 =>
          if w32 r9 = 0 then
            r_qKind_76 5 m10
          else
          r_qKind_76 4 m10
        else
        r_qKind_76 3 m8
      else
      r_qKind_76 2 m6
    else
    r_qKind_76 1 m4
  else
  r_qKind_76 0 m2
/-- LockOrchestraModel.qTold(I)J -/
def r_qTold_168 (m : xm) : xr :=
  lal m 140 0 fun x1 =>
  some (x1, m)
def r_qTold_162 (k7 : Int → Int → xm → xr) (v1 : Int) (v2 : Int) (m : xm) : xr :=
  k7 v1 (v2 + 1) m
def r_qTold_7 : Nat → Int → Int → xm → xr
  | 0, _, _, _ => none
  | n + 1, v1, v2, m =>
    if ld m 78 84 ≤ w32 v2 then
      r_qTold_168 m
    else
    ial m 138 v2 fun x1 =>
    xlt x1 fun x2 =>
    if w32 x2 < 1000 then
      if w32 x2 < 60 then
        if w32 x2 < 40 then
          if w32 x2 = 13 then
            bnd (r_qPuts 1 m) fun r7 m8 =>
            r_qTold_162 (fun v1 v2 m => r_qTold_7 n v1 v2 m) v1 v2 m8
          else
          if w32 x2 = 12 then
            lal m 140 ((ld m 78 90) - 1) fun x5 =>
            ias m 140 ((ld m 78 90) - 1) (1 - x5) fun m6 =>
            r_qTold_162 (fun v1 v2 m => r_qTold_7 n v1 v2 m) v1 v2 m6
          else
          bnd (r_qJoins x2 m) fun r3 m4 =>
          r_qTold_162 (fun v1 v2 m => r_qTold_7 n v1 v2 m) v1 v2 m4
        else
        bnd (r_qPartOf (x2 - 40) v1 m) fun r9 m10 =>
        bnd (r_qClip r9 m10) fun r11 m12 =>
        bnd (r_qPuts r11 m12) fun r13 m14 =>
        r_qTold_162 (fun v1 v2 m => r_qTold_7 n v1 v2 m) v1 v2 m14
      else
      lal m 140 ((ld m 78 90) - 1) fun x15 =>
      bnd (r_qOf (x2 - 60) x15 v1 m) fun r16 m17 =>
      bnd (r_qClip r16 m17) fun r18 m19 =>
      ias m19 140 ((ld m 78 90) - 1) r18 fun m20 =>
      r_qTold_162 (fun v1 v2 m => r_qTold_7 n v1 v2 m) v1 v2 m20
    else
    bnd (r_qPuts (w32 (x2 - 1000)) m) fun r21 m22 =>
    r_qTold_162 (fun v1 v2 m => r_qTold_7 n v1 v2 m) v1 v2 m22
def r_qTold (v1 : Int) (m : xm) : xr :=
  stf m 78 90 0 fun m1 =>
  r_qTold_7 xLF v1 0 m1
/-- LockOrchestraModel.qTakes(IJI)V -/
def r_qTakes_133 (m : xm) : xr :=
  stf m 78 92 0 fun m1 =>
  some (0, m1)
def r_qTakes_128 (v2 : Int) (m : xm) : xr :=
  stf m 78 91 v2 fun m1 =>
  r_qTakes_133 m1
def r_qTakes_90 (v1 : Int) (v2 : Int) (m : xm) : xr :=
  if w32 v1 ≤ 3 then
    r_qTakes_133 m
  else
  if ld m 78 92 = 0 then
    if w32 v1 = 4 then
      if w64 v2 ≤ ldl m 78 91 then
        r_qTakes_133 m
      else
      r_qTakes_128 v2 m
    else
    if ldl m 78 91 ≤ w64 v2 then
      r_qTakes_133 m
    else
    r_qTakes_128 v2 m
  else
  r_qTakes_128 v2 m
def r_qTakes_75 (v1 : Int) (v2 : Int) (m : xm) : xr :=
  if w32 v1 = 3 then
    stf m 78 91 ((ldl m 78 91) + v2) fun m1 =>
    r_qTakes_90 v1 v2 m1
  else
  r_qTakes_90 v1 v2 m
def r_qTakes_55 (v1 : Int) (v2 : Int) (v5 : Int) (m : xm) : xr :=
  if w32 v1 = 2 then
    if w32 v5 = 0 then
      r_qTakes_75 v1 v2 m
    else
    stf m 78 91 ((ldl m 78 91) + 1) fun m1 =>
    r_qTakes_75 v1 v2 m1
  else
  r_qTakes_75 v1 v2 m
def r_qTakes_48 (v1 : Int) (v2 : Int) (v4 : Int) (v5 : Int) (m : xm) : xr :=
  stf m 78 91 (w32 v4) fun m1 =>
  r_qTakes_55 v1 v2 v5 m1
def r_qTakes_38 (v1 : Int) (v2 : Int) (v4 : Int) (v5 : Int) (m : xm) : xr :=
  if w32 v1 = 1 then
    if w32 v5 = 0 then
      r_qTakes_55 v1 v2 v5 m
    else
    r_qTakes_48 v1 v2 v4 v5 m
  else
  r_qTakes_55 v1 v2 v5 m
def r_qTakes_16 (v1 : Int) (v2 : Int) (v4 : Int) (s0 : Int) (m : xm) : xr :=
  xlt s0 fun x1 =>
  if w32 v1 = 0 then
    if w32 x1 = 0 then
      r_qTakes_38 v1 v2 v4 x1 m
    else
    if ldl m 78 91 = (-1) then
      r_qTakes_48 v1 v2 v4 x1 m
    else
    r_qTakes_38 v1 v2 v4 x1 m
  else
  r_qTakes_38 v1 v2 v4 x1 m
def r_qTakes_15 (v1 : Int) (v2 : Int) (v4 : Int) (m : xm) : xr :=
  r_qTakes_16 v1 v2 v4 0 m
def r_qTakes (v1 : Int) (v2 : Int) (v4 : Int) (m : xm) : xr :=
  if 3 ≤ w32 v1 then
    r_qTakes_15 v1 v2 v4 m
  else
  if w64 v2 = 1 then
    r_qTakes_16 v1 v2 v4 1 m
  else
  r_qTakes_15 v1 v2 v4 m
/-- LockOrchestraModel.ask()J -/
def r_ask_192 (m : xm) : xr :=
  some (ldl m 78 91, m)
def r_ask_167 : Nat → Int → Int → xm → xr
  | 0, _, _, _ => none
  | n + 1, v1, v2, m =>
    bnd (r_lockMany m) fun r1 m2 =>
    if w32 r1 ≤ w32 v2 then
      r_ask_192 m2
    else
    bnd (r_qTold v2 m2) fun r3 m4 =>
    bnd (r_qTakes v1 r3 v2 m4) fun r5 m6 =>
    r_ask_167 n v1 (v2 + 1) m6
def r_ask_157 (v1 : Int) (s1 : Int) (m : xm) : xr :=
  stf m 78 91 s1 fun m1 =>
  stf m1 78 92 1 fun m2 =>
  r_ask_167 xLF v1 0 m2
def r_ask_117 (v1 : Int) (m : xm) : xr :=
  stf m 78 7 (ld m 78 5) fun m1 =>
  stf m1 78 8 (ld m1 78 6) fun m2 =>
  if ld m2 78 5 = 0 then
    if 2 ≤ w32 v1 then
      r_ask_157 v1 0 m2
    else
    r_ask_157 v1 (-1) m2
  else
  some ((-1000000000000000), m2)
def r_ask_93 (v1 : Int) (m : xm) : xr :=
  if ld m 78 5 = 0 then
    bnd (r_look m) fun r1 m2 =>
    if w32 r1 = (-1) then
      r_ask_117 v1 m2
    else
    bnd (r_fail 1 (ld m2 78 2) m2) fun r3 m4 =>
    r_ask_117 v1 m4
  else
  r_ask_117 v1 m
def r_ask_82 (v1 : Int) (m : xm) : xr :=
  if ld m 78 5 = 0 then
    bnd (r_qSums m) fun r1 m2 =>
    r_ask_93 v1 m2
  else
  r_ask_93 v1 m
def r_ask (m : xm) : xr :=
  stf m 78 3 (ld m 78 1) fun m1 =>
  stf m1 78 1 0 fun m2 =>
  stf m2 78 2 0 fun m3 =>
  stf m3 78 4 (-1) fun m4 =>
  stf m4 78 5 0 fun m5 =>
  stf m5 78 6 (-1) fun m6 =>
  stf m6 78 42 0 fun m7 =>
  stf m7 78 84 0 fun m8 =>
  stf m8 78 86 0 fun m9 =>
  stf m9 78 87 0 fun m10 =>
  stf m10 78 88 0 fun m11 =>
  bnd (r_qKind m11) fun r12 m13 =>
  if ld m13 78 5 = 0 then
    if 3 ≤ w32 r12 then
      r_ask_82 r12 m13
    else
    bnd (r_qTest m13) fun r14 m15 =>
    r_ask_93 r12 m15
  else
  r_ask_82 r12 m13
/-- LockOrchestraModel.writes(I)V -/
def r_writes (v1 : Int) (m : xm) : xr :=
  ias m 141 (ld m 78 94) v1 fun m1 =>
  stf m1 78 94 ((ld m1 78 94) + 1) fun m2 =>
  some (0, m2)
/-- LockOrchestraModel.checked([II)I -/
def r_checked_5 (v0 : Nat) : Nat → Int → Int → Int → xm → xr
  | 0, _, _, _, _ => none
  | n + 1, v1, v2, v3, m =>
    if w32 v1 ≤ w32 v3 then
      some (v2, m)
    else
    ial m v0 v3 fun x1 =>
    xlt (irm ((3 * v2) + x1) 251) fun x2 =>
    r_checked_5 v0 n v1 x2 (v3 + 1) m
def r_checked (v0 : Nat) (v1 : Int) (m : xm) : xr :=
  r_checked_5 v0 xLF v1 11 0 m
/-- LockOrchestraModel.image()I -/
def r_image_75 (m : xm) : xr :=
  bnd (r_checked 141 (ld m 78 94) m) fun r1 m2 =>
  bnd (r_writes r1 m2) fun r3 m4 =>
  some (ld m4 78 94, m4)
def r_image_66 (k35 : Int → xm → xr) (v1 : Int) (s1 : Int) (m : xm) : xr :=
  bnd (r_writes s1 m) fun r1 m2 =>
  k35 (v1 + 1) m2
def r_image_35 : Nat → Int → xm → xr
  | 0, _, _ => none
  | n + 1, v1, m =>
    bnd (r_lockMany m) fun r1 m2 =>
    if w32 r1 ≤ w32 v1 then
      r_image_75 m2
    else
    bnd (r_wardNow v1 m2) fun r3 m4 =>
    bnd (r_writes r3 m4) fun r5 m6 =>
    bnd (r_isJammed v1 m6) fun r7 m8 =>
    if w32 r7 = 0 then
      r_image_66 (fun v1 m => r_image_35 n v1 m) v1 0 m8
    else
    r_image_66 (fun v1 m => r_image_35 n v1 m) v1 1 m8
def r_image (m : xm) : xr :=
  stf m 78 94 0 fun m1 =>
  ial m1 110 0 fun x2 =>
  bnd (r_writes (idv x2 256) m1) fun r3 m4 =>
  ial m4 110 0 fun x5 =>
  bnd (r_writes (irm x5 256) m4) fun r6 m7 =>
  r_image_35 xLF 0 m7
/-- LockOrchestraModel.octet(I)I -/
def r_octet (v1 : Int) (m : xm) : xr :=
  if w32 v1 < 0 then
    some ((-1), m)
  else
  if ld m 78 94 ≤ w32 v1 then
    some ((-1), m)
  else
  ial m 141 v1 fun x1 =>
  some (x1, m)
/-- LockOrchestraModel.isImage(I)Z -/
def r_isImage_60 : Nat → Int → xm → xr
  | 0, _, _ => none
  | n + 1, v2, m =>
    bnd (r_lockMany m) fun r1 m2 =>
    if w32 r1 ≤ w32 v2 then
      some (1, m2)
    else
    ial m2 79 (2 + (2 * v2)) fun x3 =>
    bnd (r_wardsOf v2 m2) fun r4 m5 =>
    if w32 r4 ≤ w32 x3 then
      some (0, m5)
    else
    ial m5 79 (3 + (2 * v2)) fun x6 =>
    if w32 x6 ≤ 1 then
      r_isImage_60 n (v2 + 1) m5
    else
    some (0, m5)
def r_isImage (v1 : Int) (m : xm) : xr :=
  bnd (r_lockMany m) fun r1 m2 =>
  if w32 v1 = w32 (3 + (2 * r1)) then
    ial m2 79 (v1 - 1) fun x3 =>
    bnd (r_checked 79 (v1 - 1) m2) fun r4 m5 =>
    if w32 x3 = w32 r4 then
      ial m5 79 0 fun x6 =>
      ial m5 79 1 fun x7 =>
      if w32 ((256 * x6) + x7) ≤ 9999 then
        r_isImage_60 xLF 0 m5
      else
      some (0, m5)
    else
    some (0, m5)
  else
  some (0, m2)
/-- LockOrchestraModel.on()Z -/
def r_on_115 (m : xm) : xr :=
  ias m 110 6 0 fun m1 =>
  stf m1 78 61 0 fun m2 =>
  some (1, m2)
def r_on_62 : Nat → Int → xm → xr
  | 0, _, _ => none
  | n + 1, v2, m =>
    bnd (r_lockMany m) fun r1 m2 =>
    if w32 r1 ≤ w32 v2 then
      r_on_115 m2
    else
    ial m2 79 (2 + (2 * v2)) fun x3 =>
    ias m2 110 (1 + v2) x3 fun m4 =>
    ial m4 110 5 fun x5 =>
    ial m4 79 (3 + (2 * v2)) fun x6 =>
    ias m4 110 5 (bor x5 (shl x6 v2)) fun m7 =>
    r_on_62 n (v2 + 1) m7
def r_on (m : xm) : xr :=
  stf m 78 1 0 fun m1 =>
  bnd (r_isImage (ld m 78 1) m1) fun r2 m3 =>
  if w32 r2 = 0 then
    ial m3 80 5 fun x8 =>
    ias m3 80 5 (x8 + 1) fun m9 =>
    some (0, m9)
  else
  ial m3 79 0 fun x4 =>
  ial m3 79 1 fun x5 =>
  ias m3 110 0 ((256 * x4) + x5) fun m6 =>
  ias m6 110 5 0 fun m7 =>
  r_on_62 xLF 0 m7
/-- LockOrchestraModel.status(I)I -/
def r_status (v1 : Int) (m : xm) : xr :=
  bnd (r_isIn (w32 v1) 0 5 m) fun r1 m2 =>
  if w32 r1 = 0 then
    some ((-1), m2)
  else
  ial m2 80 v1 fun x3 =>
  some (x3, m2)
/-- LockOrchestraLaw.law([I)Z -/
def lw_law_967 (L : Nat) (xs : Nat → Int32) (k18 : Int → xm → xr) (v3 : Int) (m : xm) : xr :=
  k18 (v3 + 6) m
def lw_law_18 (L : Nat) (xs : Nat → Int32) : Nat → Int → xm → xr
  | 0, _, _ => none
  | n + 1, v3, m =>
    if w32 ((L : Int) - 6) < w32 v3 then
      some (1, m)
    else
    xal L xs v3 fun x1 =>
    xsw (ban x1 63) 0 [
      ( xal L xs (v3 + 1) fun x2 =>
        xal L xs (v3 + 2) fun x3 =>
        xal L xs (v3 + 3) fun x4 =>
        xal L xs (v3 + 4) fun x5 =>
        xal L xs (v3 + 5) fun x6 =>
        bnd (cL_feed x2 x3 x4 x5 x6 m) fun r7 m8 =>
        xal L xs (v3 + 1) fun x9 =>
        xal L xs (v3 + 2) fun x10 =>
        xal L xs (v3 + 3) fun x11 =>
        xal L xs (v3 + 4) fun x12 =>
        xal L xs (v3 + 5) fun x13 =>
        bnd (r_feed x9 x10 x11 x12 x13 m8) fun r14 m15 =>
        if w32 r7 = w32 r14 then
          lw_law_967 L xs (fun v3 m => lw_law_18 L xs n v3 m) v3 m15
        else
        some (0, m15)),
      ( xal L xs (v3 + 1) fun x16 =>
        bnd (cL_end x16 m) fun r17 m18 =>
        xal L xs (v3 + 1) fun x19 =>
        bnd (r_end x19 m18) fun r20 m21 =>
        if w32 r17 = w32 r20 then
          lw_law_967 L xs (fun v3 m => lw_law_18 L xs n v3 m) v3 m21
        else
        some (0, m21)),
      ( bnd (cL_hall m) fun r22 m23 =>
        bnd (r_hall m23) fun r24 m25 =>
        if w32 r22 = w32 r24 then
          lw_law_967 L xs (fun v3 m => lw_law_18 L xs n v3 m) v3 m25
        else
        some (0, m25)),
      ( xal L xs (v3 + 1) fun x26 =>
        bnd (cL_fault x26 m) fun r27 m28 =>
        xal L xs (v3 + 1) fun x29 =>
        bnd (r_fault x29 m28) fun r30 m31 =>
        if w32 r27 = w32 r30 then
          lw_law_967 L xs (fun v3 m => lw_law_18 L xs n v3 m) v3 m31
        else
        some (0, m31)),
      ( xal L xs (v3 + 1) fun x32 =>
        bnd (cL_has x32 m) fun r33 m34 =>
        xal L xs (v3 + 1) fun x35 =>
        bnd (r_has x35 m34) fun r36 m37 =>
        if w32 r33 = w32 r36 then
          lw_law_967 L xs (fun v3 m => lw_law_18 L xs n v3 m) v3 m37
        else
        some (0, m37)),
      ( xal L xs (v3 + 1) fun x38 =>
        xal L xs (v3 + 2) fun x39 =>
        xal L xs (v3 + 3) fun x40 =>
        bnd (cL_letter x38 x39 x40 m) fun r41 m42 =>
        xal L xs (v3 + 1) fun x43 =>
        xal L xs (v3 + 2) fun x44 =>
        xal L xs (v3 + 3) fun x45 =>
        bnd (r_letter x43 x44 x45 m42) fun r46 m47 =>
        if w32 r41 = w32 r46 then
          lw_law_967 L xs (fun v3 m => lw_law_18 L xs n v3 m) v3 m47
        else
        some (0, m47)),
      ( xal L xs (v3 + 1) fun x48 =>
        xal L xs (v3 + 2) fun x49 =>
        bnd (cL_lock x48 x49 m) fun r50 m51 =>
        xal L xs (v3 + 1) fun x52 =>
        xal L xs (v3 + 2) fun x53 =>
        bnd (r_lock x52 x53 m51) fun r54 m55 =>
        if w32 r50 = w32 r54 then
          lw_law_967 L xs (fun v3 m => lw_law_18 L xs n v3 m) v3 m55
        else
        some (0, m55)),
      ( xal L xs (v3 + 1) fun x56 =>
        xal L xs (v3 + 2) fun x57 =>
        bnd (cL_note x56 x57 m) fun r58 m59 =>
        xal L xs (v3 + 1) fun x60 =>
        xal L xs (v3 + 2) fun x61 =>
        bnd (r_note x60 x61 m59) fun r62 m63 =>
        if w32 r58 = w32 r62 then
          lw_law_967 L xs (fun v3 m => lw_law_18 L xs n v3 m) v3 m63
        else
        some (0, m63)),
      ( xal L xs (v3 + 1) fun x64 =>
        bnd (cL_door x64 m) fun r65 m66 =>
        xal L xs (v3 + 1) fun x67 =>
        bnd (r_door x67 m66) fun r68 m69 =>
        if w32 r65 = w32 r68 then
          lw_law_967 L xs (fun v3 m => lw_law_18 L xs n v3 m) v3 m69
        else
        some (0, m69)),
      ( xal L xs (v3 + 1) fun x70 =>
        bnd (cL_player x70 m) fun r71 m72 =>
        xal L xs (v3 + 1) fun x73 =>
        bnd (r_player x73 m72) fun r74 m75 =>
        if w32 r71 = w32 r74 then
          lw_law_967 L xs (fun v3 m => lw_law_18 L xs n v3 m) v3 m75
        else
        some (0, m75)),
      ( xal L xs (v3 + 1) fun x76 =>
        xal L xs (v3 + 2) fun x77 =>
        bnd (cL_kept x76 x77 m) fun r78 m79 =>
        xal L xs (v3 + 1) fun x80 =>
        xal L xs (v3 + 2) fun x81 =>
        bnd (r_kept x80 x81 m79) fun r82 m83 =>
        if w32 r78 = w32 r82 then
          lw_law_967 L xs (fun v3 m => lw_law_18 L xs n v3 m) v3 m83
        else
        some (0, m83)),
      ( bnd (cL_judge m) fun r84 m85 =>
        bnd (r_judge m85) fun r86 m87 =>
        if w32 r84 = w32 r86 then
          lw_law_967 L xs (fun v3 m => lw_law_18 L xs n v3 m) v3 m87
        else
        some (0, m87)),
      ( xal L xs (v3 + 1) fun x88 =>
        bnd (cL_judged x88 m) fun r89 m90 =>
        xal L xs (v3 + 1) fun x91 =>
        bnd (r_judged x91 m90) fun r92 m93 =>
        if w32 r89 = w32 r92 then
          lw_law_967 L xs (fun v3 m => lw_law_18 L xs n v3 m) v3 m93
        else
        some (0, m93)),
      ( xal L xs (v3 + 1) fun x94 =>
        xal L xs (v3 + 2) fun x95 =>
        bnd (cL_shortest x94 x95 m) fun r96 m97 =>
        xal L xs (v3 + 1) fun x98 =>
        xal L xs (v3 + 2) fun x99 =>
        bnd (r_shortest x98 x99 m97) fun r100 m101 =>
        if w32 r96 = w32 r100 then
          lw_law_967 L xs (fun v3 m => lw_law_18 L xs n v3 m) v3 m101
        else
        some (0, m101)),
      ( xal L xs (v3 + 1) fun x102 =>
        bnd (cL_back x102 m) fun r103 m104 =>
        xal L xs (v3 + 1) fun x105 =>
        bnd (r_back x105 m104) fun r106 m107 =>
        if w32 r103 = w32 r106 then
          lw_law_967 L xs (fun v3 m => lw_law_18 L xs n v3 m) v3 m107
        else
        some (0, m107)),
      ( bnd (cL_states m) fun r108 m109 =>
        bnd (r_states m109) fun r110 m111 =>
        if w32 r108 = w32 r110 then
          lw_law_967 L xs (fun v3 m => lw_law_18 L xs n v3 m) v3 m111
        else
        some (0, m111)),
      ( xal L xs (v3 + 1) fun x112 =>
        bnd (cL_forbid x112 m) fun r113 m114 =>
        xal L xs (v3 + 1) fun x115 =>
        bnd (r_forbid x115 m114) fun r116 m117 =>
        if w32 r113 = w32 r116 then
          lw_law_967 L xs (fun v3 m => lw_law_18 L xs n v3 m) v3 m117
        else
        some (0, m117)),
      ( bnd (cL_share m) fun r118 m119 =>
        bnd (r_share m119) fun r120 m121 =>
        if w32 r118 = w32 r120 then
          lw_law_967 L xs (fun v3 m => lw_law_18 L xs n v3 m) v3 m121
        else
        some (0, m121)),
      ( xal L xs (v3 + 1) fun x122 =>
        bnd (cL_slip x122 m) fun r123 m124 =>
        xal L xs (v3 + 1) fun x125 =>
        bnd (r_slip x125 m124) fun r126 m127 =>
        if w32 r123 = w32 r126 then
          lw_law_967 L xs (fun v3 m => lw_law_18 L xs n v3 m) v3 m127
        else
        some (0, m127)),
      ( xal L xs (v3 + 1) fun x128 =>
        bnd (cL_slipped x128 m) fun r129 m130 =>
        xal L xs (v3 + 1) fun x131 =>
        bnd (r_slipped x131 m130) fun r132 m133 =>
        if w32 r129 = w32 r132 then
          lw_law_967 L xs (fun v3 m => lw_law_18 L xs n v3 m) v3 m133
        else
        some (0, m133)),
      ( bnd (cL_hear m) fun r134 m135 =>
        bnd (r_hear m135) fun r136 m137 =>
        if w32 r134 = w32 r136 then
          lw_law_967 L xs (fun v3 m => lw_law_18 L xs n v3 m) v3 m137
        else
        some (0, m137)),
      ( xal L xs (v3 + 1) fun x138 =>
        bnd (cL_starts x138 m) fun r139 m140 =>
        xal L xs (v3 + 1) fun x141 =>
        bnd (r_starts x141 m140) fun r142 m143 =>
        if w32 r139 = w32 r142 then
          lw_law_967 L xs (fun v3 m => lw_law_18 L xs n v3 m) v3 m143
        else
        some (0, m143)),
      ( xal L xs (v3 + 1) fun x144 =>
        bnd (cL_hangs x144 m) fun r145 m146 =>
        xal L xs (v3 + 1) fun x147 =>
        bnd (r_hangs x147 m146) fun r148 m149 =>
        if w32 r145 = w32 r148 then
          lw_law_967 L xs (fun v3 m => lw_law_18 L xs n v3 m) v3 m149
        else
        some (0, m149)),
      ( xal L xs (v3 + 1) fun x150 =>
        bnd (cL_play x150 m) fun r151 m152 =>
        xal L xs (v3 + 1) fun x153 =>
        bnd (r_play x153 m152) fun r154 m155 =>
        if w32 r151 = w32 r154 then
          lw_law_967 L xs (fun v3 m => lw_law_18 L xs n v3 m) v3 m155
        else
        some (0, m155)),
      ( bnd (cL_piece m) fun r156 m157 =>
        bnd (r_piece m157) fun r158 m159 =>
        if w32 r156 = w32 r158 then
          lw_law_967 L xs (fun v3 m => lw_law_18 L xs n v3 m) v3 m159
        else
        some (0, m159)),
      ( xal L xs (v3 + 1) fun x160 =>
        bnd (cL_oil x160 m) fun r161 m162 =>
        xal L xs (v3 + 1) fun x163 =>
        bnd (r_oil x163 m162) fun r164 m165 =>
        if w32 r161 = w32 r164 then
          lw_law_967 L xs (fun v3 m => lw_law_18 L xs n v3 m) v3 m165
        else
        some (0, m165)),
      ( xal L xs (v3 + 1) fun x166 =>
        bnd (cL_evening x166 m) fun r167 m168 =>
        xal L xs (v3 + 1) fun x169 =>
        bnd (r_evening x169 m168) fun r170 m171 =>
        if w32 r167 = w32 r170 then
          lw_law_967 L xs (fun v3 m => lw_law_18 L xs n v3 m) v3 m171
        else
        some (0, m171)),
      ( bnd (cL_undo m) fun r172 m173 =>
        bnd (r_undo m173) fun r174 m175 =>
        if w32 r172 = w32 r174 then
          lw_law_967 L xs (fun v3 m => lw_law_18 L xs n v3 m) v3 m175
        else
        some (0, m175)),
      ( xal L xs (v3 + 1) fun x176 =>
        bnd (cL_seed x176 m) fun r177 m178 =>
        xal L xs (v3 + 1) fun x179 =>
        bnd (r_seed x179 m178) fun r180 m181 =>
        if w32 r177 = w32 r180 then
          lw_law_967 L xs (fun v3 m => lw_law_18 L xs n v3 m) v3 m181
        else
        some (0, m181)),
      ( bnd (cL_ask m) fun r182 m183 =>
        bnd (r_ask m183) fun r184 m185 =>
        if w64 r182 = w64 r184 then
          lw_law_967 L xs (fun v3 m => lw_law_18 L xs n v3 m) v3 m185
        else
        some (0, m185)),
      ( bnd (cL_image m) fun r186 m187 =>
        bnd (r_image m187) fun r188 m189 =>
        if w32 r186 = w32 r188 then
          lw_law_967 L xs (fun v3 m => lw_law_18 L xs n v3 m) v3 m189
        else
        some (0, m189)),
      ( xal L xs (v3 + 1) fun x190 =>
        bnd (cL_octet x190 m) fun r191 m192 =>
        xal L xs (v3 + 1) fun x193 =>
        bnd (r_octet x193 m192) fun r194 m195 =>
        if w32 r191 = w32 r194 then
          lw_law_967 L xs (fun v3 m => lw_law_18 L xs n v3 m) v3 m195
        else
        some (0, m195)),
      ( bnd (cL_on m) fun r196 m197 =>
        bnd (r_on m197) fun r198 m199 =>
        if w32 r196 = w32 r198 then
          lw_law_967 L xs (fun v3 m => lw_law_18 L xs n v3 m) v3 m199
        else
        some (0, m199)),
      ( xal L xs (v3 + 1) fun x200 =>
        bnd (cL_status x200 m) fun r201 m202 =>
        xal L xs (v3 + 1) fun x203 =>
        bnd (r_status x203 m202) fun r204 m205 =>
        if w32 r201 = w32 r204 then
          lw_law_967 L xs (fun v3 m => lw_law_18 L xs n v3 m) v3 m205
        else
        some (0, m205))
      ] (
        lw_law_967 L xs (fun v3 m => lw_law_18 L xs n v3 m) v3 m
      )
