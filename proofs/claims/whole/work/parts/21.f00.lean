/-! the methods as functions over the cells: printed by wip/gen/dec.py -/
/-- LockOrchestra$Tape.byteAt(I)I -/
def cT_byteAt (v1 : Int) (m : xm) : xr :=
  if w32 v1 < 0 then
    some ((-1), m)
  else
  if ld m 1 1 ≤ w32 v1 then
    some ((-1), m)
  else
  if 1600 ≤ w32 v1 then
    some ((-1), m)
  else
  ial m 2 v1 fun x1 =>
  some (x1, m)
/-- LockOrchestra$Words.isWord(Ljava/lang/String;)Z -/
def cW_isWord_70 (v1 : Nat) (k32 : Int → Int → xm → xr) (v3 : Int) (s0 : Int) (m : xm) : xr :=
  xlt s0 fun x1 =>
  k32 x1 (v3 + 1) m
def cW_isWord_32 (v1 : Nat) : Nat → Int → Int → xm → xr
  | 0, _, _, _ => none
  | n + 1, v2, v3, m =>
    bnd (j_len v1 m) fun r1 m2 =>
    if w32 r1 ≤ w32 v3 then
      xrb v2 m2
    else
    if w32 v2 = 0 then
      xrb v2 m2
    else
    bnd (j_chr v1 v3 m2) fun r3 m4 =>
    bnd (cT_byteAt ((ld m4 3 2) + v3) m4) fun r5 m6 =>
    if w32 r3 = w32 r5 then
      cW_isWord_70 v1 (fun v2 v3 m => cW_isWord_32 v1 n v2 v3 m) v3 1 m6
    else
    cW_isWord_70 v1 (fun v2 v3 m => cW_isWord_32 v1 n v2 v3 m) v3 0 m6
def cW_isWord_29 (v1 : Nat) (s0 : Int) (m : xm) : xr :=
  xlt s0 fun x1 =>
  cW_isWord_32 v1 xLF x1 0 m
def cW_isWord_28 (v1 : Nat) (m : xm) : xr :=
  cW_isWord_29 v1 0 m
def cW_isWord (v1 : Nat) (m : xm) : xr :=
  if ld m 3 1 = 1 then
    bnd (j_len v1 m) fun r1 m2 =>
    if w32 ((ld m 3 3) - (ld m 3 2)) = w32 r1 then
      cW_isWord_29 v1 1 m2
    else
    cW_isWord_28 v1 m2
  else
  cW_isWord_28 v1 m
/-- LockOrchestra$Tape.length()I -/
def cT_length (m : xm) : xr :=
  some (ld m 1 1, m)
/-- LockOrchestra$Words.kindOf(I)I -/
def cW_kindOf_21 (v0 : Int) (m : xm) : xr :=
  if w32 v0 < 48 then
    some (3, m)
  else
  if 57 < w32 v0 then
    some (3, m)
  else
  some (2, m)
def cW_kindOf (v0 : Int) (m : xm) : xr :=
  if w32 v0 = (-1) then
    some (0, m)
  else
  if w32 v0 < 97 then
    cW_kindOf_21 v0 m
  else
  if 122 < w32 v0 then
    cW_kindOf_21 v0 m
  else
  some (1, m)
/-- LockOrchestra$Words.isBlank(I)Z -/
def cW_isBlank (v0 : Int) (m : xm) : xr :=
  if w32 v0 = 10 then
    some (1, m)
  else
  if w32 v0 = 32 then
    some (1, m)
  else
  some (0, m)
/-- LockOrchestra$Words.next()V -/
def cW_next_218 (m : xm) : xr :=
  stf m 3 1 4 fun m1 =>
  some (0, m1)
def cW_next_190 (v1 : Int) (v2 : Int) (m : xm) : xr :=
  if w32 v1 = 0 then
    some (0, m)
  else
  if ld m 3 2 = w32 v2 then
    if ld m 3 1 = 1 then
      cW_next_218 m
    else
    if ld m 3 1 = 2 then
      cW_next_218 m
    else
    some (0, m)
  else
  some (0, m)
def cW_next_142 (k126 : Int → Int → xm → xr) (v1 : Int) (v2 : Int) (m : xm) : xr :=
  bnd (cT_length m) fun r1 m2 =>
  if w32 r1 ≤ ld m 3 3 then
    cW_next_190 v1 v2 m2
  else
  bnd (cT_byteAt (ld m2 3 3) m2) fun r3 m4 =>
  bnd (cW_kindOf r3 m4) fun r5 m6 =>
  if w32 r5 = ld m6 3 1 then
    stf m6 3 3 ((ld m6 3 3) + 1) fun m7 =>
    k126 v1 v2 m7
  else
  cW_next_190 v1 v2 m6
def cW_next_126 : Nat → Int → Int → xm → xr
  | 0, _, _, _ => none
  | n + 1, v1, v2, m =>
    if ld m 3 1 = 1 then
      cW_next_142 (fun v1 v2 m => cW_next_126 n v1 v2 m) v1 v2 m
    else
    if ld m 3 1 = 2 then
      cW_next_142 (fun v1 v2 m => cW_next_126 n v1 v2 m) v1 v2 m
    else
    cW_next_190 v1 v2 m
def cW_next_123 (v1 : Int) (v2 : Int) (s1 : Int) (m : xm) : xr :=
  stf m 3 3 s1 fun m1 =>
  cW_next_126 xLF v1 v2 m1
def cW_next_84 (v1 : Int) (v2 : Int) (m : xm) : xr :=
  bnd (cT_byteAt (ld m 3 2) m) fun r1 m2 =>
  bnd (cW_kindOf r1 m2) fun r3 m4 =>
  stf m4 3 1 r3 fun m5 =>
  if ld m5 3 1 = 0 then
    cW_next_123 v1 v2 (ld m5 3 2) m5
  else
  cW_next_123 v1 v2 ((ld m5 3 2) + 1) m5
def cW_next_40 : Nat → Int → Int → xm → xr
  | 0, _, _, _ => none
  | n + 1, v1, v2, m =>
    bnd (cT_length m) fun r1 m2 =>
    if w32 r1 ≤ ld m 3 2 then
      cW_next_84 v1 v2 m2
    else
    bnd (cT_byteAt (ld m2 3 2) m2) fun r3 m4 =>
    bnd (cW_isBlank r3 m4) fun r5 m6 =>
    if w32 r5 = 0 then
      cW_next_84 v1 v2 m6
    else
    stf m6 3 2 ((ld m6 3 2) + 1) fun m7 =>
    cW_next_40 n v1 v2 m7
def cW_next_29 (s0 : Int) (m : xm) : xr :=
  xlt s0 fun x1 =>
  stf m 3 2 (ld m 3 3) fun m2 =>
  cW_next_40 xLF x1 (ld m 3 3) m2
def cW_next_24 (m : xm) : xr :=
  cW_next_29 1 m
def cW_next (m : xm) : xr :=
  if ld m 3 4 = 0 then
    if ld m 3 1 = 1 then
      cW_next_24 m
    else
    if ld m 3 1 = 2 then
      cW_next_24 m
    else
    cW_next_29 0 m
  else
  some (0, m)
/-- LockOrchestra$Words.takeWord(Ljava/lang/String;)Z -/
def cW_takeWord (v1 : Nat) (m : xm) : xr :=
  bnd (cW_isWord v1 m) fun r1 m2 =>
  if w32 r1 = 0 then
    xrb r1 m2
  else
  bnd (cW_next m2) fun r3 m4 =>
  xrb r1 m4
/-- LockOrchestra.setCell([III)V -/
def cL_setCell (v0 : Nat) (v1 : Int) (v2 : Int) (m : xm) : xr :=
  if w32 v1 < 0 then
    some (0, m)
  else
  if aln v0 ≤ w32 v1 then
    some (0, m)
  else
  ias m v0 v1 v2 fun m1 =>
  some (0, m1)
/-- LockOrchestra$Code.add(I)V -/
def cC_add (v0 : Nat) (v1 : Int) (m : xm) : xr :=
  if 1600 ≤ ld m v0 2 then
    some (0, m)
  else
  bnd (cL_setCell (v0 + 1) (ld m v0 2) v1 m) fun r1 m2 =>
  stf m2 v0 2 ((ld m2 v0 2) + 1) fun m3 =>
  some (0, m3)
/-- LockOrchestra$TestReader.readTest(LLockOrchestra$Code;I)V -/
def cX_readTest_8 (self : Nat → Nat → Nat → Int → Int → xm → xr) (v0 : Nat) (v1 : Nat) : Nat → Int → Int → xm → xr
  | 0, _, _, _ => none
  | n + 1, v2, v3, m =>
    if 1600 ≤ w32 v3 then
      some (0, m)
    else
    bnd (cW_takeWord 21 m) fun r1 m2 =>
    if w32 r1 = 0 then
      some (0, m2)
    else
    bnd (self 1 v0 v1 v2 0 m2) fun r3 m4 =>
    bnd (cC_add v1 10020 m4) fun r5 m6 =>
    cX_readTest_8 self v0 v1 n v2 (v3 + 1) m6
def cX_readTest0 (self : Nat → Nat → Nat → Int → Int → xm → xr) (v0 : Nat) (v1 : Nat) (v2 : Int) (m : xm) : xr :=
  bnd (self 1 v0 v1 v2 0 m) fun r1 m2 =>
  cX_readTest_8 self v0 v1 xLF v2 0 m2
/-- LockOrchestra$TestReader.readBoth(LLockOrchestra$Code;I)V -/
def cX_readBoth_8 (self : Nat → Nat → Nat → Int → Int → xm → xr) (v0 : Nat) (v1 : Nat) : Nat → Int → Int → xm → xr
  | 0, _, _, _ => none
  | n + 1, v2, v3, m =>
    if 1600 ≤ w32 v3 then
      some (0, m)
    else
    bnd (cW_takeWord 20 m) fun r1 m2 =>
    if w32 r1 = 0 then
      some (0, m2)
    else
    bnd (self 2 v0 v1 v2 0 m2) fun r3 m4 =>
    bnd (cC_add v1 10021 m4) fun r5 m6 =>
    cX_readBoth_8 self v0 v1 n v2 (v3 + 1) m6
def cX_readBoth0 (self : Nat → Nat → Nat → Int → Int → xm → xr) (v0 : Nat) (v1 : Nat) (v2 : Int) (m : xm) : xr :=
  bnd (self 2 v0 v1 v2 0 m) fun r1 m2 =>
  cX_readBoth_8 self v0 v1 xLF v2 0 m2
/-- LockOrchestra$Words.isSign(C)Z -/
def cW_isSign (v1 : Int) (m : xm) : xr :=
  if ld m 3 1 = 3 then
    bnd (cT_byteAt (ld m 3 2) m) fun r1 m2 =>
    if w32 r1 = w32 v1 then
      some (1, m2)
    else
    some (0, m2)
  else
  some (0, m)
/-- LockOrchestra$Words.fail(II)V -/
def cW_fail (v1 : Int) (v2 : Int) (m : xm) : xr :=
  if ld m 3 4 = 0 then
    stf m 3 4 v1 fun m1 =>
    stf m1 3 5 v2 fun m2 =>
    stf m2 3 1 0 fun m3 =>
    some (0, m3)
  else
  some (0, m)
/-- LockOrchestra$Words.failHere(I)V -/
def cW_failHere (v1 : Int) (m : xm) : xr :=
  bnd (cW_fail v1 (ld m 3 2) m) fun r1 m2 =>
  some (0, m2)
/-- LockOrchestra$TestReader.takeComparison()I -/
def cX_takeComparison_62 (v0 : Nat) (v1 : Int) (m : xm) : xr :=
  bnd (cW_next m) fun r1 m2 =>
  some (v1, m2)
def cX_takeComparison (v0 : Nat) (m : xm) : xr :=
  bnd (cW_isSign 60 m) fun r1 m2 =>
  if w32 r1 = 0 then
    bnd (cW_isSign 62 m2) fun r3 m4 =>
    if w32 r3 = 0 then
      bnd (cW_isSign 61 m4) fun r5 m6 =>
      if w32 r5 = 0 then
        bnd (cW_failHere 1 m6) fun r7 m8 =>
        cX_takeComparison_62 v0 10024 m8
      else
      cX_takeComparison_62 v0 10024 m6
    else
    cX_takeComparison_62 v0 10023 m4
  else
  cX_takeComparison_62 v0 10022 m2
/-- LockOrchestra$TestReader.opensOneMore(I)Z -/
def cX_opensOneMore (v0 : Nat) (v1 : Int) (m : xm) : xr :=
  if w32 v1 < 6 then
    bnd (cW_next m) fun r1 m2 =>
    some (1, m2)
  else
  bnd (cW_failHere 4 m) fun r3 m4 =>
  some (0, m4)
/-- LockOrchestra$Words.needSign(C)V -/
def cW_needSign (v1 : Int) (m : xm) : xr :=
  bnd (cW_isSign v1 m) fun r1 m2 =>
  if w32 r1 = 0 then
    bnd (cW_failHere 1 m2) fun r3 m4 =>
    some (0, m4)
  else
  bnd (cW_next m2) fun r5 m6 =>
  some (0, m6)
/-- LockOrchestra$TestReader.readFact(LLockOrchestra$Code;I)V -/
def cX_readFact0 (self : Nat → Nat → Nat → Int → Int → xm → xr) (v0 : Nat) (v1 : Nat) (v2 : Int) (m : xm) : xr :=
  bnd (cW_isWord 9 m) fun r1 m2 =>
  if w32 r1 = 0 then
    bnd (cW_isSign 91 m2) fun r3 m4 =>
    if w32 r3 = 0 then
      bnd (cW_takeWord 10 m4) fun r5 m6 =>
      if w32 r5 = 0 then
        bnd (self 3 v0 v1 v2 0 m6) fun r7 m8 =>
        bnd (cX_takeComparison v0 m8) fun r9 m10 =>
        bnd (self 3 v0 v1 v2 0 m10) fun r11 m12 =>
        bnd (cC_add v1 r9 m12) fun r13 m14 =>
        some (0, m14)
      else
      bnd (cC_add v1 10000 m6) fun r15 m16 =>
      some (0, m16)
    else
    bnd (cX_opensOneMore v0 v2 m4) fun r17 m18 =>
    if w32 r17 = 0 then
      some (0, m18)
    else
    bnd (self 0 v0 v1 (v2 + 1) 0 m18) fun r19 m20 =>
    bnd (cW_needSign 93 m20) fun r21 m22 =>
    some (0, m22)
  else
  bnd (cX_opensOneMore v0 v2 m2) fun r23 m24 =>
  if w32 r23 = 0 then
    some (0, m24)
  else
  bnd (self 2 v0 v1 (v2 + 1) 0 m24) fun r25 m26 =>
  bnd (cC_add v1 10010 m26) fun r27 m28 =>
  some (0, m28)
/-- LockOrchestra$TestReader.takeEither(CICI)I -/
def cX_takeEither_36 (v0 : Nat) (s0 : Int) (m : xm) : xr :=
  xlt s0 fun x1 =>
  if w32 x1 = (-1) then
    some (x1, m)
  else
  bnd (cW_next m) fun r2 m3 =>
  some (x1, m3)
def cX_takeEither_16 (v0 : Nat) (v3 : Int) (v4 : Int) (s0 : Int) (m : xm) : xr :=
  xlt s0 fun x1 =>
  bnd (cW_isSign v3 m) fun r2 m3 =>
  if w32 r2 = 0 then
    cX_takeEither_36 v0 x1 m3
  else
  cX_takeEither_36 v0 v4 m3
def cX_takeEither (v0 : Nat) (v1 : Int) (v2 : Int) (v3 : Int) (v4 : Int) (m : xm) : xr :=
  bnd (cW_isSign v1 m) fun r1 m2 =>
  if w32 r1 = 0 then
    cX_takeEither_16 v0 v3 v4 (-1) m2
  else
  cX_takeEither_16 v0 v3 v4 v2 m2
/-- LockOrchestra$TestReader.readSum(LLockOrchestra$Code;I)V -/
def cX_readSum_8 (self : Nat → Nat → Nat → Int → Int → xm → xr) (v0 : Nat) (v1 : Nat) : Nat → Int → Int → xm → xr
  | 0, _, _, _ => none
  | n + 1, v2, v3, m =>
    if 1600 ≤ w32 v3 then
      some (0, m)
    else
    bnd (cX_takeEither v0 43 10030 45 10031 m) fun r1 m2 =>
    if w32 r1 = (-1) then
      some (0, m2)
    else
    bnd (self 4 v0 v1 v2 0 m2) fun r3 m4 =>
    bnd (cC_add v1 r1 m4) fun r5 m6 =>
    cX_readSum_8 self v0 v1 n v2 (v3 + 1) m6
def cX_readSum0 (self : Nat → Nat → Nat → Int → Int → xm → xr) (v0 : Nat) (v1 : Nat) (v2 : Int) (m : xm) : xr :=
  bnd (self 4 v0 v1 v2 0 m) fun r1 m2 =>
  cX_readSum_8 self v0 v1 xLF v2 0 m2
/-- LockOrchestra$TestReader.readProduct(LLockOrchestra$Code;I)V -/
def cX_readProduct_8 (self : Nat → Nat → Nat → Int → Int → xm → xr) (v0 : Nat) (v1 : Nat) : Nat → Int → Int → xm → xr
  | 0, _, _, _ => none
  | n + 1, v2, v3, m =>
    if 1600 ≤ w32 v3 then
      some (0, m)
    else
    bnd (cX_takeEither v0 42 10032 47 10033 m) fun r1 m2 =>
    if w32 r1 = (-1) then
      some (0, m2)
    else
    bnd (self 5 v0 v1 v2 0 m2) fun r3 m4 =>
    bnd (cC_add v1 r1 m4) fun r5 m6 =>
    cX_readProduct_8 self v0 v1 n v2 (v3 + 1) m6
def cX_readProduct0 (self : Nat → Nat → Nat → Int → Int → xm → xr) (v0 : Nat) (v1 : Nat) (v2 : Int) (m : xm) : xr :=
  bnd (self 5 v0 v1 v2 0 m) fun r1 m2 =>
  cX_readProduct_8 self v0 v1 xLF v2 0 m2
/-- LockOrchestra$Words.isAnyNumber()Z -/
def cW_isAnyNumber (m : xm) : xr :=
  if ld m 3 1 = 2 then
    some (1, m)
  else
  some (0, m)
/-- LockOrchestra$TestReader.leafHere()I -/
def cX_leafHere (v0 : Nat) (m : xm) : xr :=
  bnd (cW_isWord 15 m) fun r1 m2 =>
  if w32 r1 = 0 then
    if tol v0 = 0 then
      some ((-1), m2)
    else
    bnd (cW_isWord 16 m2) fun r3 m4 =>
    if w32 r3 = 0 then
      bnd (cW_isWord 17 m4) fun r5 m6 =>
      if w32 r5 = 0 then
        bnd (cW_isWord 18 m6) fun r7 m8 =>
        if w32 r7 = 0 then
          bnd (cW_isWord 19 m8) fun r9 m10 =>
          if w32 r9 = 0 then
            some ((-1), m10)
          else
          some (10005, m10)
        else
        some (10004, m8)
      else
      some (10003, m6)
    else
    some (10002, m4)
  else
  some (10001, m2)
/-- LockOrchestra$Words.needNumber(II)I -/
def cW_needNumber_92 (v1 : Int) (m : xm) : xr :=
  bnd (cW_failHere 2 m) fun r1 m2 =>
  some (v1, m2)
def cW_needNumber_82 (v1 : Int) (v2 : Int) (v3 : Int) (m : xm) : xr :=
  if w32 v3 < w32 v1 then
    cW_needNumber_92 v1 m
  else
  if w32 v3 ≤ w32 v2 then
    bnd (cW_next m) fun r1 m2 =>
    some (v3, m2)
  else
  cW_needNumber_92 v1 m
def cW_needNumber_49 : Nat → Int → Int → Int → Int → xm → xr
  | 0, _, _, _, _, _ => none
  | n + 1, v1, v2, v3, v4, m =>
    if ld m 3 3 ≤ w32 v4 then
      cW_needNumber_82 v1 v2 v3 m
    else
    bnd (cT_byteAt v4 m) fun r1 m2 =>
    xlt (((10 * v3) + r1) - 48) fun x3 =>
    cW_needNumber_49 n v1 v2 x3 (v4 + 1) m2
def cW_needNumber (v1 : Int) (v2 : Int) (m : xm) : xr :=
  if ld m 3 1 = 2 then
    if w32 ((ld m 3 3) - (ld m 3 2)) ≤ 4 then
      cW_needNumber_49 xLF v1 v2 0 (ld m 3 2) m
    else
    bnd (cW_fail 1 ((ld m 3 2) + 4) m) fun r1 m2 =>
    some (v1, m2)
  else
  bnd (cW_failHere 1 m) fun r3 m4 =>
  some (v1, m4)
/-- LockOrchestra$TestReader.readPart(LLockOrchestra$Code;I)V -/
def cX_readPart_189 (self : Nat → Nat → Nat → Int → Int → xm → xr) (v0 : Nat) (v1 : Nat) (v3 : Int) (m : xm) : xr :=
  bnd (cW_next m) fun r1 m2 =>
  bnd (cC_add v1 v3 m2) fun r3 m4 =>
  some (0, m4)
def cX_readPart_171 (self : Nat → Nat → Nat → Int → Int → xm → xr) (v0 : Nat) (v1 : Nat) (m : xm) : xr :=
  bnd (cX_leafHere v0 m) fun r1 m2 =>
  if w32 r1 = (-1) then
    bnd (cW_failHere 1 m2) fun r3 m4 =>
    cX_readPart_189 self v0 v1 r1 m4
  else
  cX_readPart_189 self v0 v1 r1 m2
def cX_readPart0 (self : Nat → Nat → Nat → Int → Int → xm → xr) (v0 : Nat) (v1 : Nat) (v2 : Int) (m : xm) : xr :=
  bnd (cW_isAnyNumber m) fun r1 m2 =>
  if w32 r1 = 0 then
    bnd (cW_isSign 40 m2) fun r3 m4 =>
    if w32 r3 = 0 then
      bnd (cW_takeWord 11 m4) fun r5 m6 =>
      if w32 r5 = 0 then
        bnd (cW_takeWord 12 m6) fun r7 m8 =>
        if w32 r7 = 0 then
          bnd (cW_isWord 13 m8) fun r9 m10 =>
          if w32 r9 = 0 then
            if tol v0 = 0 then
              cX_readPart_171 self v0 v1 m10
            else
            bnd (cW_isWord 14 m10) fun r11 m12 =>
            if w32 r11 = 0 then
              cX_readPart_171 self v0 v1 m12
            else
            bnd (self 7 v0 v1 v2 10012 m12) fun r13 m14 =>
            some (0, m14)
          else
          bnd (self 7 v0 v1 v2 10011 m10) fun r15 m16 =>
          some (0, m16)
        else
        bnd (self 6 v0 v1 v2 10035 m8) fun r17 m18 =>
        some (0, m18)
      else
      bnd (self 6 v0 v1 v2 10034 m6) fun r19 m20 =>
      some (0, m20)
    else
    bnd (cX_opensOneMore v0 v2 m4) fun r21 m22 =>
    if w32 r21 = 0 then
      some (0, m22)
    else
    bnd (self 3 v0 v1 (v2 + 1) 0 m22) fun r23 m24 =>
    bnd (cW_needSign 41 m24) fun r25 m26 =>
    some (0, m26)
  else
  bnd (cW_needNumber 0 9999 m2) fun r27 m28 =>
  bnd (cC_add v1 r27 m28) fun r29 m30 =>
  some (0, m30)
/-- LockOrchestra$TestReader.readPair(LLockOrchestra$Code;II)V -/
def cX_readPair0 (self : Nat → Nat → Nat → Int → Int → xm → xr) (v0 : Nat) (v1 : Nat) (v2 : Int) (v3 : Int) (m : xm) : xr :=
  bnd (cW_isSign 40 m) fun r1 m2 =>
  if w32 r1 = 0 then
    bnd (cW_failHere 1 m2) fun r15 m16 =>
    some (0, m16)
  else
  bnd (cX_opensOneMore v0 v2 m2) fun r3 m4 =>
  if w32 r3 = 0 then
    some (0, m4)
  else
  bnd (self 3 v0 v1 (v2 + 1) 0 m4) fun r5 m6 =>
  bnd (cW_needSign 44 m6) fun r7 m8 =>
  bnd (self 3 v0 v1 (v2 + 1) 0 m8) fun r9 m10 =>
  bnd (cW_needSign 41 m10) fun r11 m12 =>
  bnd (cC_add v1 v3 m12) fun r13 m14 =>
  some (0, m14)
/-- LockOrchestra$TestReader.readPartOf(LLockOrchestra$Code;II)V -/
def cX_readPartOf0 (self : Nat → Nat → Nat → Int → Int → xm → xr) (v0 : Nat) (v1 : Nat) (v2 : Int) (v3 : Int) (m : xm) : xr :=
  bnd (cX_opensOneMore v0 v2 m) fun r1 m2 =>
  if w32 r1 = 0 then
    some (0, m2)
  else
  bnd (self 5 v0 v1 (v2 + 1) 0 m2) fun r3 m4 =>
  bnd (cC_add v1 v3 m4) fun r5 m6 =>
  some (0, m6)
def cX_rec : Nat → Nat → Nat → Nat → Int → Int → xm → xr
  | 0, _, _, _, _, _, _ => none
  | n + 1, 0, t, c, o, _, m => cX_readTest0 (cX_rec n) t c o m
  | n + 1, 1, t, c, o, _, m => cX_readBoth0 (cX_rec n) t c o m
  | n + 1, 2, t, c, o, _, m => cX_readFact0 (cX_rec n) t c o m
  | n + 1, 3, t, c, o, _, m => cX_readSum0 (cX_rec n) t c o m
  | n + 1, 4, t, c, o, _, m => cX_readProduct0 (cX_rec n) t c o m
  | n + 1, 5, t, c, o, _, m => cX_readPart0 (cX_rec n) t c o m
  | n + 1, 6, t, c, o, s, m => cX_readPair0 (cX_rec n) t c o s m
  | n + 1, 7, t, c, o, s, m => cX_readPartOf0 (cX_rec n) t c o s m
  | _ + 1, _ + 8, _, _, _, _, _ => none
/-- LockOrchestra$Code.clear()V -/
def cC_clear (v0 : Nat) (m : xm) : xr :=
  stf m v0 2 0 fun m1 =>
  some (0, m1)
/-- LockOrchestra$Code.size()I -/
def cC_size (v0 : Nat) (m : xm) : xr :=
  some (ld m v0 2, m)
/-- LockOrchestra.cell([II)I -/
def cL_cell (v0 : Nat) (v1 : Int) (m : xm) : xr :=
  if w32 v1 < 0 then
    some (0, m)
  else
  if aln v0 ≤ w32 v1 then
    some (0, m)
  else
  ial m v0 v1 fun x1 =>
  some (x1, m)
/-- LockOrchestra$Code.pop()I -/
def cC_pop_17 (v0 : Nat) (m : xm) : xr :=
  bnd (cL_cell (v0 + 2) (ld m v0 3) m) fun r1 m2 =>
  some (r1, m2)
def cC_pop (v0 : Nat) (m : xm) : xr :=
  if ld m v0 3 ≤ 0 then
    cC_pop_17 v0 m
  else
  stf m v0 3 ((ld m v0 3) - 1) fun m1 =>
  cC_pop_17 v0 m1
/-- java/lang/Math.max(II)I -/
def j_maxI (v0 : Int) (v1 : Int) (m : xm) : xr :=
  if w32 v0 < w32 v1 then
    some (v1, m)
  else
  some (v0, m)
/-- java/lang/Math.min(JJ)J -/
def j_minL (v0 : Int) (v2 : Int) (m : xm) : xr :=
  if w64 v2 < w64 v0 then
    some (v2, m)
  else
  some (v0, m)
/-- java/lang/Math.max(JJ)J -/
def j_maxL (v0 : Int) (v2 : Int) (m : xm) : xr :=
  if w64 v0 < w64 v2 then
    some (v2, m)
  else
  some (v0, m)
/-- LockOrchestra$Code.within(J)I -/
def cC_within (v0 : Int) (m : xm) : xr :=
  bnd (j_minL 1000000 v0 m) fun r1 m2 =>
  bnd (j_maxL (-1000000) r1 m2) fun r3 m4 =>
  some (r3, m4)
/-- java/lang/Math.floorDiv(II)I -/
def j_floorDiv (v0 : Int) (v1 : Int) (m : xm) : xr :=
  if w32 v1 = 0 then none else
  xlt (idv v0 v1) fun x1 =>
  if 0 ≤ bxo v0 v1 then
    some (x1, m)
  else
  if w32 (x1 * v1) = w32 v0 then
    some (x1, m)
  else
  some (x1 - 1, m)
/-- java/lang/Math.min(II)I -/
def j_minI (v0 : Int) (v1 : Int) (m : xm) : xr :=
  if w32 v1 < w32 v0 then
    some (v1, m)
  else
  some (v0, m)
/-- LockOrchestra$Code.ofSums(III)I -/
def cC_ofSums (v0 : Int) (v1 : Int) (v2 : Int) (m : xm) : xr :=
  xsw (w32 v0) 10030 [
    ( bnd (cC_within ((w32 v1) + (w32 v2)) m) fun r3 m4 =>
      some (r3, m4)),
    ( bnd (cC_within ((w32 v1) - (w32 v2)) m) fun r5 m6 =>
      some (r5, m6)),
    ( bnd (cC_within ((w32 v1) * (w32 v2)) m) fun r7 m8 =>
      some (r7, m8)),
    ( if w32 v2 = 0 then
        some (0, m)
      else
      bnd (j_floorDiv v1 v2 m) fun r9 m10 =>
      some (r9, m10)),
    ( bnd (j_minI v1 v2 m) fun r11 m12 =>
      some (r11, m12))
    ] (
      bnd (j_maxI v1 v2 m) fun r1 m2 =>
      some (r1, m2)
    )
/-- LockOrchestra$Code.push(I)V -/
def cC_push (v0 : Nat) (v1 : Int) (m : xm) : xr :=
  if 64 ≤ ld m v0 3 then
    some (0, m)
  else
  bnd (cL_setCell (v0 + 2) (ld m v0 3) v1 m) fun r1 m2 =>
  stf m2 v0 3 ((ld m2 v0 3) + 1) fun m3 =>
  some (0, m3)
/-- LockOrchestra$Code.ofTests(III)I -/
def cC_ofTests_102 (v3 : Int) (m : xm) : xr :=
  if w32 v3 = 0 then
    some (0, m)
  else
  some (1, m)
def cC_ofTests_101 (s0 : Int) (m : xm) : xr :=
  xlt s0 fun x1 =>
  cC_ofTests_102 x1 m
def cC_ofTests_43 (s0 : Int) (m : xm) : xr :=
  xlt s0 fun x1 =>
  cC_ofTests_102 x1 m
def cC_ofTests_59 (s0 : Int) (m : xm) : xr :=
  xlt s0 fun x1 =>
  cC_ofTests_102 x1 m
def cC_ofTests_73 (s0 : Int) (m : xm) : xr :=
  xlt s0 fun x1 =>
  cC_ofTests_102 x1 m
def cC_ofTests_87 (s0 : Int) (m : xm) : xr :=
  xlt s0 fun x1 =>
  cC_ofTests_102 x1 m
def cC_ofTests (v0 : Int) (v1 : Int) (v2 : Int) (m : xm) : xr :=
  xsw (w32 v0) 10020 [
    ( if w32 (v1 + v2) ≤ 0 then
        cC_ofTests_43 0 m
      else
      cC_ofTests_43 1 m),
    ( if w32 (v1 + v2) = 2 then
        cC_ofTests_59 1 m
      else
      cC_ofTests_59 0 m),
    ( if w32 v2 ≤ w32 v1 then
        cC_ofTests_73 0 m
      else
      cC_ofTests_73 1 m),
    ( if w32 v1 ≤ w32 v2 then
        cC_ofTests_87 0 m
      else
      cC_ofTests_87 1 m)
    ] (
      if w32 v1 = w32 v2 then
        cC_ofTests_101 1 m
      else
      cC_ofTests_101 0 m
    )
/-- LockOrchestra$Hall.turnOf(II)I -/
def cH_turnOf_24 (v0 : Nat) (v1 : Int) (v2 : Int) (s0 : Int) (m : xm) : xr :=
  xlt s0 fun x1 =>
  if w32 x1 = 0 then
    some (0, m)
  else
  bnd (cL_cell (v0 + 9) ((v1 * 4) + v2) m) fun r2 m3 =>
  some (r2, m3)
def cH_turnOf_23 (v0 : Nat) (v1 : Int) (v2 : Int) (m : xm) : xr :=
  cH_turnOf_24 v0 v1 v2 0 m
def cH_turnOf (v0 : Nat) (v1 : Int) (v2 : Int) (m : xm) : xr :=
  if w32 v1 < 0 then
    cH_turnOf_23 v0 v1 v2 m
  else
  if 6 ≤ w32 v1 then
    cH_turnOf_23 v0 v1 v2 m
  else
  if w32 v2 < 0 then
    cH_turnOf_23 v0 v1 v2 m
  else
  if 4 ≤ w32 v2 then
    cH_turnOf_23 v0 v1 v2 m
  else
  cH_turnOf_24 v0 v1 v2 1 m
/-- LockOrchestra$Hall.isOne(II)Z -/
def cH_isOne (v0 : Nat) (v1 : Int) (v2 : Int) (m : xm) : xr :=
  if w32 v1 < 0 then
    some (0, m)
  else
  if 4 ≤ w32 v1 then
    some (0, m)
  else
  if w32 v2 < 0 then
    some (0, m)
  else
  bnd (cL_cell (v0 + 4) v1 m) fun r1 m2 =>
  if w32 r1 ≤ w32 v2 then
    some (0, m2)
  else
  some (1, m2)
/-- LockOrchestra$Hall.wardOf(II)I -/
def cH_wardOf (v0 : Nat) (v1 : Int) (v2 : Int) (m : xm) : xr :=
  bnd (cL_cell (v0 + 6) v2 m) fun r1 m2 =>
  bnd (cL_cell (v0 + 8) v2 m2) fun r3 m4 =>
  if w32 r1 ≤ 0 then
    some (0, m4)
  else
  if w32 r3 ≤ 0 then
    some (0, m4)
  else
  if w32 r3 = 0 then none else
  if w32 r1 = 0 then none else
  some (irm (idv v1 r3) r1, m4)
/-- LockOrchestra$Code.ofOne(IILLockOrchestra$Hall;II)I -/
def cC_ofOne (v2 : Nat) (v0 : Int) (v1 : Int) (v3 : Int) (v4 : Int) (m : xm) : xr :=
  xlw (w32 v0) [
    (10010, some (1 - v1, m)),
    (10011, bnd (cH_isOne v2 0 v1 m) fun r3 m4 =>
      if w32 r3 = 0 then
        some ((-1), m4)
      else
      bnd (cH_wardOf v2 v3 v1 m4) fun r5 m6 =>
      some (r5, m6))
    ] (
      bnd (cH_turnOf v2 v1 v4 m) fun r1 m2 =>
      some (r1, m2)
    )
/-- LockOrchestra$Hall.jamsOf(I)I -/
def cH_jamsOf (v0 : Nat) (v1 : Int) (m : xm) : xr :=
  if ld m v0 12 ≤ 0 then
    some (0, m)
  else
  if ld m v0 12 = 0 then none else
  some (idv v1 (ld m v0 12), m)
/-- LockOrchestra$Hall.isJammed(II)Z -/
def cH_isJammed (v0 : Nat) (v1 : Int) (v2 : Int) (m : xm) : xr :=
  bnd (cH_jamsOf v0 v1 m) fun r1 m2 =>
  if ban (shr r1 v2) 1 = 1 then
    some (1, m2)
  else
  some (0, m2)
/-- java/lang/Integer.bitCount(I)I -/
def j_bitCount (v0 : Int) (m : xm) : xr :=
  xlt (v0 - (ban (usr v0 1) 1431655765)) fun x1 =>
  xlt ((ban x1 858993459) + (ban (usr x1 2) 858993459)) fun x2 =>
  xlt (ban (x2 + (usr x2 4)) 252645135) fun x3 =>
  xlt (x3 + (usr x3 8)) fun x4 =>
  xlt (x4 + (usr x4 16)) fun x5 =>
  some (ban x5 63, m)
/-- LockOrchestra$Hall.wardsOf(I)I -/
def cH_wardsOf (v0 : Nat) (v1 : Int) (m : xm) : xr :=
  bnd (cL_cell (v0 + 6) v1 m) fun r1 m2 =>
  some (r1, m2)
/-- LockOrchestra$Code.leaf(ILLockOrchestra$Hall;II)I -/
def cC_leaf (v1 : Nat) (v0 : Int) (v2 : Int) (v3 : Int) (m : xm) : xr :=
  xsw (w32 v0) 10000 [
    ( some (1, m)),
    ( bnd (cH_jamsOf v1 v2 m) fun r3 m4 =>
      bnd (j_bitCount r3 m4) fun r5 m6 =>
      some (r5, m6)),
    ( some (v3, m)),
    ( bnd (cH_wardsOf v1 v3 m) fun r7 m8 =>
      some (r7, m8)),
    ( bnd (cH_wardOf v1 v2 v3 m) fun r9 m10 =>
      some (r9, m10))
    ] (
      bnd (cH_isJammed v1 v2 v3 m) fun r1 m2 =>
      if w32 r1 = 0 then
        some (0, m2)
      else
      some (1, m2)
    )
/-- LockOrchestra$Code.valueOf(IILLockOrchestra$Hall;II)I -/
def cC_valueOf_147 (v0 : Nat) (v3 : Nat) (m : xm) : xr :=
  bnd (cC_pop v0 m) fun r1 m2 =>
  some (r1, m2)
def cC_valueOf_141 (v0 : Nat) (v3 : Nat) (k8 : Int → Int → Int → Int → xm → xr) (v2 : Int) (v4 : Int) (v5 : Int) (v6 : Int) (m : xm) : xr :=
  k8 v2 v4 v5 (v6 + 1) m
def cC_valueOf_138 (v0 : Nat) (v3 : Nat) (k8 : Int → Int → Int → Int → xm → xr) (v2 : Int) (v4 : Int) (v5 : Int) (v6 : Int) (s1 : Int) (m : xm) : xr :=
  bnd (cC_push v0 s1 m) fun r1 m2 =>
  cC_valueOf_141 v0 v3 k8 v2 v4 v5 v6 m2
def cC_valueOf_8 (v0 : Nat) (v3 : Nat) : Nat → Int → Int → Int → Int → xm → xr
  | 0, _, _, _, _, _ => none
  | n + 1, v2, v4, v5, v6, m =>
    if w32 v2 ≤ w32 v6 then
      cC_valueOf_147 v0 v3 m
    else
    bnd (cL_cell (v0 + 1) v6 m) fun r1 m2 =>
    if 10000 ≤ w32 r1 then
      if 10010 ≤ w32 r1 then
        if 10020 ≤ w32 r1 then
          bnd (cC_pop v0 m2) fun r3 m4 =>
          bnd (cC_pop v0 m4) fun r5 m6 =>
          if 10030 ≤ w32 r1 then
            bnd (cC_ofSums r1 r5 r3 m6) fun r7 m8 =>
            cC_valueOf_138 v0 v3 (fun v2 v4 v5 v6 m => cC_valueOf_8 v0 v3 n v2 v4 v5 v6 m) v2 v4 v5 v6 r7 m8
          else
          bnd (cC_ofTests r1 r5 r3 m6) fun r9 m10 =>
          cC_valueOf_138 v0 v3 (fun v2 v4 v5 v6 m => cC_valueOf_8 v0 v3 n v2 v4 v5 v6 m) v2 v4 v5 v6 r9 m10
        else
        bnd (cC_pop v0 m2) fun r11 m12 =>
        bnd (cC_ofOne v3 r1 r11 v4 v5 m12) fun r13 m14 =>
        bnd (cC_push v0 r13 m14) fun r15 m16 =>
        cC_valueOf_141 v0 v3 (fun v2 v4 v5 v6 m => cC_valueOf_8 v0 v3 n v2 v4 v5 v6 m) v2 v4 v5 v6 m16
      else
      bnd (cC_leaf v3 r1 v4 v5 m2) fun r17 m18 =>
      bnd (cC_push v0 r17 m18) fun r19 m20 =>
      cC_valueOf_141 v0 v3 (fun v2 v4 v5 v6 m => cC_valueOf_8 v0 v3 n v2 v4 v5 v6 m) v2 v4 v5 v6 m20
    else
    bnd (cC_push v0 r1 m2) fun r21 m22 =>
    cC_valueOf_141 v0 v3 (fun v2 v4 v5 v6 m => cC_valueOf_8 v0 v3 n v2 v4 v5 v6 m) v2 v4 v5 v6 m22
def cC_valueOf (v0 : Nat) (v3 : Nat) (v1 : Int) (v2 : Int) (v4 : Int) (v5 : Int) (m : xm) : xr :=
  stf m v0 3 0 fun m1 =>
  cC_valueOf_8 v0 v3 xLF v2 v4 v5 v1 m1
/-- java/util/Arrays.fill([II)V -/
def j_fill_5 (v0 : Nat) : Nat → Int → Int → Int → xm → xr
  | 0, _, _, _, _ => none
  | n + 1, v1, v2, v3, m =>
    if w32 v3 ≤ w32 v2 then
      some (0, m)
    else
    ias m v0 v2 v1 fun m1 =>
    j_fill_5 v0 n v1 (v2 + 1) v3 m1
def j_fill (v0 : Nat) (v1 : Int) (m : xm) : xr :=
  xlt (aln v0) fun x1 =>
  j_fill_5 v0 xLF v1 0 x1 m
/-- LockOrchestra$Hall.clear()V -/
def cH_clear (v0 : Nat) (m : xm) : xr :=
  bnd (cC_clear (v0 + 1) m) fun r1 m2 =>
  bnd (j_fill (v0 + 4) 0 m2) fun r3 m4 =>
  bnd (j_fill (v0 + 9) 0 m4) fun r5 m6 =>
  bnd (j_fill (v0 + 10) 0 m6) fun r7 m8 =>
  bnd (j_fill (v0 + 11) 0 m8) fun r9 m10 =>
  bnd (j_fill (v0 + 14) 0 m10) fun r11 m12 =>
  stf m12 v0 12 1 fun m13 =>
  stf m13 v0 13 0 fun m14 =>
  stf m14 v0 14 0 fun m15 =>
  some (0, m15)
/-- LockOrchestra.cell([II)I -/
def cL_cellK (v1 : Int) (m : xm) : xr :=
  if w32 v1 < 0 then
    some (0, m)
  else
  if 4 ≤ w32 v1 then
    some (0, m)
  else
  kal v1 fun x1 =>
  some (x1, m)
/-- LockOrchestra$Hall.isFull(I)Z -/
def cH_isFull (v0 : Nat) (v1 : Int) (m : xm) : xr :=
  bnd (cL_cell (v0 + 4) v1 m) fun r1 m2 =>
  bnd (cL_cellK v1 m2) fun r3 m4 =>
  if w32 r1 < w32 r3 then
    some (0, m4)
  else
  some (1, m4)
/-- LockOrchestra$Hall.named(II)I -/
def cH_named_2 (v0 : Nat) : Nat → Int → Int → Int → xm → xr
  | 0, _, _, _, _ => none
  | n + 1, v1, v2, v3, m =>
    bnd (cL_cell (v0 + 4) v1 m) fun r1 m2 =>
    if w32 r1 ≤ w32 v3 then
      some ((-1), m2)
    else
    bnd (cL_cell (v0 + 5) ((v1 * 6) + v3) m2) fun r3 m4 =>
    if w32 r3 = w32 v2 then
      some (v3, m4)
    else
    cH_named_2 v0 n v1 v2 (v3 + 1) m4
def cH_named (v0 : Nat) (v1 : Int) (v2 : Int) (m : xm) : xr :=
  cH_named_2 v0 xLF v1 v2 0 m
/-- LockOrchestra$Hall.knows(I)Z -/
def cH_knows_2 (v0 : Nat) : Nat → Int → Int → xm → xr
  | 0, _, _, _ => none
  | n + 1, v1, v2, m =>
    if 4 ≤ w32 v2 then
      some (0, m)
    else
    bnd (cH_named v0 v2 v1 m) fun r1 m2 =>
    if w32 r1 = (-1) then
      cH_knows_2 v0 n v1 (v2 + 1) m2
    else
    some (1, m2)
def cH_knows (v0 : Nat) (v1 : Int) (m : xm) : xr :=
  cH_knows_2 v0 xLF v1 0 m
/-- LockOrchestra$Hall.count(I)I -/
def cH_count (v0 : Nat) (v1 : Int) (m : xm) : xr :=
  bnd (cL_cell (v0 + 4) v1 m) fun r1 m2 =>
  some (r1, m2)
/-- LockOrchestra$Hall.addOne(II)I -/
def cH_addOne (v0 : Nat) (v1 : Int) (v2 : Int) (m : xm) : xr :=
  bnd (cH_count v0 v1 m) fun r1 m2 =>
  bnd (cH_isFull v0 v1 m2) fun r3 m4 =>
  if w32 r3 = 0 then
    bnd (cL_setCell (v0 + 5) ((v1 * 6) + r1) v2 m4) fun r5 m6 =>
    bnd (cL_setCell (v0 + 4) v1 (r1 + 1) m6) fun r7 m8 =>
    some (r1, m8)
  else
  some ((-1), m4)
/-- LockOrchestra$Hall.tellLock(IIII)V -/
def cH_tellLock (v0 : Nat) (v1 : Int) (v2 : Int) (v3 : Int) (v4 : Int) (m : xm) : xr :=
  bnd (cH_isOne v0 0 v1 m) fun r1 m2 =>
  if w32 r1 = 0 then
    some (0, m2)
  else
  bnd (cL_setCell (v0 + 6) v1 v2 m2) fun r3 m4 =>
  bnd (cL_setCell (v0 + 7) v1 v4 m4) fun r5 m6 =>
  bnd (cL_setCell (v0 + 8) v1 (ld m6 v0 12) m6) fun r7 m8 =>
  stf m8 v0 13 ((ld m8 v0 13) + (v3 * (ld m8 v0 12))) fun m9 =>
  stf m9 v0 12 ((ld m9 v0 12) * v2) fun m10 =>
  some (0, m10)
/-- LockOrchestra$Hall.tellTurn(III)V -/
def cH_tellTurn (v0 : Nat) (v1 : Int) (v2 : Int) (v3 : Int) (m : xm) : xr :=
  bnd (cL_setCell (v0 + 9) ((v1 * 4) + v2) v3 m) fun r1 m2 =>
  bnd (cL_cell (v0 + 10) v1 m2) fun r3 m4 =>
  bnd (cL_setCell (v0 + 10) v1 (bor r3 (shl 1 v2)) m4) fun r5 m6 =>
  some (0, m6)
/-- LockOrchestra$Hall.tellDoor(III)V -/
def cH_tellDoor (v0 : Nat) (v1 : Int) (v2 : Int) (v3 : Int) (m : xm) : xr :=
  bnd (cL_setCell (v0 + 12) v1 v2 m) fun r1 m2 =>
  bnd (cL_setCell (v0 + 13) v1 v3 m2) fun r3 m4 =>
  some (0, m4)
/-- LockOrchestra$Hall.tellPlays(II)V -/
def cH_tellPlays (v0 : Nat) (v1 : Int) (v2 : Int) (m : xm) : xr :=
  bnd (cL_cell (v0 + 11) v1 m) fun r1 m2 =>
  bnd (cL_setCell (v0 + 11) v1 (bor r1 (shl 1 v2)) m2) fun r3 m4 =>
  some (0, m4)
/-- LockOrchestra$Hall.tellRust(I)V -/
def cH_tellRust (v0 : Nat) (v1 : Int) (m : xm) : xr :=
  stf m v0 14 v1 fun m1 =>
  some (0, m1)
/-- LockOrchestra$Hall.firstState()I -/
def cH_firstState (v0 : Nat) (m : xm) : xr :=
  some (ld m v0 13, m)
/-- LockOrchestra$Hall.rust()I -/
def cH_rust (v0 : Nat) (m : xm) : xr :=
  some (ld m v0 14, m)
/-- LockOrchestra$Hall.openDoors(I)I -/
def cH_openDoors_112 (v0 : Nat) (v3 : Int) (m : xm) : xr :=
  some (ban v3 (-65), m)
def cH_openDoors_88 (v0 : Nat) (v1 : Int) (v2 : Int) (v3 : Int) (m : xm) : xr :=
  bnd (cL_cell (v0 + 14) (idv v1 4) m) fun r1 m2 =>
  bnd (cL_setCell (v0 + 14) (idv v1 4) (bor r1 (shl v3 v2)) m2) fun r3 m4 =>
  cH_openDoors_112 v0 v3 m4
def cH_openDoors_34 (v0 : Nat) : Nat → Int → Int → Int → Int → xm → xr
  | 0, _, _, _, _, _ => none
  | n + 1, v1, v2, v3, v4, m =>
    bnd (cH_count v0 2 m) fun r1 m2 =>
    if w32 r1 ≤ w32 v4 then
      cH_openDoors_88 v0 v1 v2 v3 m2
    else
    bnd (cL_cell (v0 + 12) v4 m2) fun r3 m4 =>
    bnd (cL_cell (v0 + 13) v4 m4) fun r5 m6 =>
    bnd (cC_valueOf (v0 + 1) v0 r3 r5 v1 (-1) m6) fun r7 m8 =>
    xlt (bor v3 (shl r7 v4)) fun x9 =>
    cH_openDoors_34 v0 n v1 v2 x9 (v4 + 1) m8
def cH_openDoors (v0 : Nat) (v1 : Int) (m : xm) : xr :=
  xlt (8 * (ban v1 3)) fun x1 =>
  bnd (cL_cell (v0 + 14) (idv v1 4) m) fun r2 m3 =>
  xlt (ban (usr r2 x1) 255) fun x4 =>
  if w32 x4 = 0 then
    cH_openDoors_34 v0 xLF v1 x1 64 0 m3
  else
  cH_openDoors_112 v0 x4 m3
/-- LockOrchestra$Hall.nameOf(II)I -/
def cH_nameOf (v0 : Nat) (v1 : Int) (v2 : Int) (m : xm) : xr :=
  bnd (cL_cell (v0 + 5) ((v1 * 6) + v2) m) fun r1 m2 =>
  some (r1, m2)
/-- LockOrchestra$Hall.jamWardOf(I)I -/
def cH_jamWardOf (v0 : Nat) (v1 : Int) (m : xm) : xr :=
  bnd (cL_cell (v0 + 7) v1 m) fun r1 m2 =>
  some (r1, m2)
/-- LockOrchestra$Hall.canPlay(II)Z -/
def cH_canPlay (v0 : Nat) (v1 : Int) (v2 : Int) (m : xm) : xr :=
  if w32 v2 = 6 then
    some (1, m)
  else
  bnd (cH_isOne v0 1 v2 m) fun r1 m2 =>
  if w32 r1 = 0 then
    some (0, m2)
  else
  bnd (cL_cell (v0 + 10) v2 m2) fun r3 m4 =>
  bnd (cH_jamsOf v0 v1 m4) fun r5 m6 =>
  if ban r3 r5 = 0 then
    some (1, m6)
  else
  some (0, m6)
/-- LockOrchestra$Hall.notesOf(I)I -/
def cH_notesOf (v0 : Nat) (v1 : Int) (m : xm) : xr :=
  bnd (cL_cell (v0 + 11) v1 m) fun r1 m2 =>
  some (r1, m2)
/-- LockOrchestra$Hall.playersOf(I)I -/
def cH_playersOf_4 (v0 : Nat) : Nat → Int → Int → Int → xm → xr
  | 0, _, _, _, _ => none
  | n + 1, v1, v2, v3, m =>
    bnd (cH_count v0 3 m) fun r1 m2 =>
    if w32 r1 ≤ w32 v3 then
      some (v2, m2)
    else
    bnd (cH_notesOf v0 v3 m2) fun r3 m4 =>
    xlt (bor v2 (shl (ban (shr r3 v1) 1) v3)) fun x5 =>
    cH_playersOf_4 v0 n v1 x5 (v3 + 1) m4
def cH_playersOf (v0 : Nat) (v1 : Int) (m : xm) : xr :=
  cH_playersOf_4 v0 xLF v1 0 0 m
/-- LockOrchestra$Hall.withWard(III)I -/
def cH_withWard (v0 : Nat) (v1 : Int) (v2 : Int) (v3 : Int) (m : xm) : xr :=
  bnd (cH_wardOf v0 v1 v2 m) fun r1 m2 =>
  bnd (cL_cell (v0 + 8) v2 m2) fun r3 m4 =>
  some (v1 + ((v3 - r1) * r3), m4)
/-- LockOrchestra$Hall.withJam(II)I -/
def cH_withJam (v0 : Nat) (v1 : Int) (v2 : Int) (m : xm) : xr :=
  bnd (cH_isJammed v0 v1 v2 m) fun r1 m2 =>
  if w32 r1 = 0 then
    some (v1 + (shl (ld m2 v0 12) v2), m2)
  else
  some (v1, m2)
/-- LockOrchestra$Hall.after(II)I -/
def cH_after_90 (v0 : Nat) (k5 : Int → Int → Int → Int → xm → xr) (v1 : Int) (v2 : Int) (v3 : Int) (v4 : Int) (m : xm) : xr :=
  k5 v1 v2 v3 (v4 + 1) m
def cH_after_89 (v0 : Nat) (k5 : Int → Int → Int → Int → xm → xr) (v1 : Int) (v2 : Int) (v4 : Int) (s0 : Int) (m : xm) : xr :=
  xlt s0 fun x1 =>
  cH_after_90 v0 k5 v1 v2 x1 v4 m
def cH_after_5 (v0 : Nat) : Nat → Int → Int → Int → Int → xm → xr
  | 0, _, _, _, _, _ => none
  | n + 1, v1, v2, v3, v4, m =>
    bnd (cH_count v0 0 m) fun r1 m2 =>
    if w32 r1 ≤ w32 v4 then
      some (v3, m2)
    else
    bnd (cH_turnOf v0 v2 v4 m2) fun r3 m4 =>
    bnd (cH_wardsOf v0 v4 m4) fun r5 m6 =>
    if w32 r3 ≤ 0 then
      cH_after_90 v0 (fun v1 v2 v3 v4 m => cH_after_5 v0 n v1 v2 v3 v4 m) v1 v2 v3 v4 m6
    else
    if w32 r5 ≤ 0 then
      cH_after_90 v0 (fun v1 v2 v3 v4 m => cH_after_5 v0 n v1 v2 v3 v4 m) v1 v2 v3 v4 m6
    else
    bnd (cH_wardOf v0 v1 v4 m6) fun r7 m8 =>
    if w32 r5 = 0 then none else
    xlt (irm (r7 + r3) r5) fun x9 =>
    bnd (cH_withWard v0 v3 v4 x9 m8) fun r10 m11 =>
    bnd (cH_jamWardOf v0 v4 m11) fun r12 m13 =>
    if w32 x9 = w32 r12 then
      bnd (cH_withJam v0 r10 v4 m13) fun r14 m15 =>
      cH_after_89 v0 (fun v1 v2 v3 v4 m => cH_after_5 v0 n v1 v2 v3 v4 m) v1 v2 v4 r14 m15
    else
    cH_after_89 v0 (fun v1 v2 v3 v4 m => cH_after_5 v0 n v1 v2 v3 v4 m) v1 v2 v4 r10 m13
def cH_after (v0 : Nat) (v1 : Int) (v2 : Int) (m : xm) : xr :=
  cH_after_5 v0 xLF v1 v2 v1 0 m
/-- LockOrchestra$Hall.bitsOfAll(I)I -/
def cH_bitsOfAll (v0 : Nat) (v1 : Int) (m : xm) : xr :=
  bnd (cH_count v0 v1 m) fun r1 m2 =>
  some ((shl 1 r1) - 1, m2)
/-- LockOrchestra$Hall.areDoors(I)Z -/
def cH_areDoors (v0 : Nat) (v1 : Int) (m : xm) : xr :=
  if w32 v1 < 0 then
    some (0, m)
  else
  bnd (cH_bitsOfAll v0 2 m) fun r1 m2 =>
  if w32 r1 < w32 v1 then
    some (0, m2)
  else
  some (1, m2)
/-- LockOrchestra$Hall.ways()I -/
def cH_ways (v0 : Nat) (m : xm) : xr :=
  some (ld m v0 12, m)
/-- LockOrchestra$Hall.withoutJam(II)I -/
def cH_withoutJam (v0 : Nat) (v1 : Int) (v2 : Int) (m : xm) : xr :=
  bnd (cH_isJammed v0 v1 v2 m) fun r1 m2 =>
  if w32 r1 = 0 then
    some (v1, m2)
  else
  some (v1 - (shl (ld m2 v0 12) v2), m2)
/-- LockOrchestra$Words.begin()V -/
def cW_begin (m : xm) : xr :=
  stf m 3 4 0 fun m1 =>
  stf m1 3 5 (-1) fun m2 =>
  stf m2 3 1 3 fun m3 =>
  stf m3 3 3 0 fun m4 =>
  bnd (cW_next m4) fun r5 m6 =>
  some (0, m6)
/-- LockOrchestra$Words.isEnd()Z -/
def cW_isEnd (m : xm) : xr :=
  if ld m 3 1 = 0 then
    some (1, m)
  else
  some (0, m)
/-- LockOrchestra$Words.faultKind()I -/
def cW_faultKind (m : xm) : xr :=
  some (ld m 3 4, m)
/-- LockOrchestra$Words.needWord(Ljava/lang/String;)V -/
def cW_needWord (v1 : Nat) (m : xm) : xr :=
  bnd (cW_isWord v1 m) fun r1 m2 =>
  if w32 r1 = 0 then
    bnd (cW_failHere 1 m2) fun r3 m4 =>
    some (0, m4)
  else
  bnd (cW_next m2) fun r5 m6 =>
  some (0, m6)
/-- LockOrchestra$Words.isOwnWord()Z -/
def cW_isOwnWord_110 (k12 : Int → Int → xm → xr) (v1 : Int) (v2 : Int) (v3 : Int) (m : xm) : xr :=
  if w32 v3 = 0 then
    k12 v1 (v2 + 1) m
  else
  some (1, m)
def cW_isOwnWord_103 (k12 : Int → Int → xm → xr) (k60 : Int → Int → Int → Int → xm → xr) (v1 : Int) (v2 : Int) (v4 : Int) (s0 : Int) (m : xm) : xr :=
  xlt s0 fun x1 =>
  k60 v1 v2 x1 (v4 + 1) m
def cW_isOwnWord_60 (k12 : Int → Int → xm → xr) : Nat → Int → Int → Int → Int → xm → xr
  | 0, _, _, _, _, _ => none
  | n + 1, v1, v2, v3, v4, m =>
    if w32 v1 ≤ w32 v4 then
      cW_isOwnWord_110 k12 v1 v2 v3 m
    else
    if w32 v3 = 0 then
      cW_isOwnWord_110 k12 v1 v2 v3 m
    else
    bnd (j_chr 1 ((v2 + 1) + v4) m) fun r1 m2 =>
    bnd (cT_byteAt ((ld m2 3 2) + v4) m2) fun r3 m4 =>
    if w32 r1 = w32 r3 then
      cW_isOwnWord_103 k12 (fun v1 v2 v3 v4 m => cW_isOwnWord_60 k12 n v1 v2 v3 v4 m) v1 v2 v4 1 m4
    else
    cW_isOwnWord_103 k12 (fun v1 v2 v3 v4 m => cW_isOwnWord_60 k12 n v1 v2 v3 v4 m) v1 v2 v4 0 m4
def cW_isOwnWord_56 (k12 : Int → Int → xm → xr) (v1 : Int) (v2 : Int) (s0 : Int) (m : xm) : xr :=
  xlt s0 fun x1 =>
  cW_isOwnWord_60 k12 xLF v1 v2 x1 0 m
def cW_isOwnWord_55 (k12 : Int → Int → xm → xr) (v1 : Int) (v2 : Int) (m : xm) : xr :=
  cW_isOwnWord_56 k12 v1 v2 0 m
def cW_isOwnWord_12 : Nat → Int → Int → xm → xr
  | 0, _, _, _ => none
  | n + 1, v1, v2, m =>
    bnd (j_len 1 m) fun r1 m2 =>
    if w32 r1 ≤ w32 ((v2 + v1) + 1) then
      some (0, m2)
    else
    bnd (j_chr 1 v2 m2) fun r3 m4 =>
    if w32 r3 = 32 then
      bnd (j_chr 1 ((v2 + v1) + 1) m4) fun r5 m6 =>
      if w32 r5 = 32 then
        cW_isOwnWord_56 (fun v1 v2 m => cW_isOwnWord_12 n v1 v2 m) v1 v2 1 m6
      else
      cW_isOwnWord_55 (fun v1 v2 m => cW_isOwnWord_12 n v1 v2 m) v1 v2 m6
    else
    cW_isOwnWord_55 (fun v1 v2 m => cW_isOwnWord_12 n v1 v2 m) v1 v2 m4
def cW_isOwnWord (m : xm) : xr :=
  xlt ((ld m 3 3) - (ld m 3 2)) fun x1 =>
  cW_isOwnWord_12 xLF x1 0 m
/-- LockOrchestra$Words.nameHere()I -/
def cW_nameHere_15 (m : xm) : xr :=
  bnd (cW_failHere 1 m) fun r1 m2 =>
  some (0, m2)
def cW_nameHere_57 : Nat → Int → Int → xm → xr
  | 0, _, _, _ => none
  | n + 1, v1, v2, m =>
    if ld m 3 3 ≤ w32 v2 then
      some (v1, m)
    else
    bnd (cT_byteAt v2 m) fun r1 m2 =>
    xlt (bor v1 (shl ((r1 - 97) + 1) (5 * (v2 - (ld m2 3 2))))) fun x3 =>
    cW_nameHere_57 n x3 (v2 + 1) m2
def cW_nameHere (m : xm) : xr :=
  if ld m 3 1 = 1 then
    bnd (cW_isOwnWord m) fun r1 m2 =>
    if w32 r1 = 0 then
      if w32 ((ld m2 3 3) - (ld m2 3 2)) ≤ 6 then
        cW_nameHere_57 xLF 0 (ld m2 3 2) m2
      else
      bnd (cW_fail 1 ((ld m2 3 2) + 6) m2) fun r3 m4 =>
      some (0, m4)
    else
    cW_nameHere_15 m2
  else
  cW_nameHere_15 m
/-- LockOrchestra$HallReader.readNew(LLockOrchestra$Hall;I)I -/
def cR_readNew_47 (v1 : Nat) (v2 : Int) (v3 : Int) (m : xm) : xr :=
  bnd (cW_next m) fun r1 m2 =>
  bnd (cW_faultKind m2) fun r3 m4 =>
  if w32 r3 = 0 then
    bnd (cH_addOne v1 v2 v3 m4) fun r5 m6 =>
    some (r5, m6)
  else
  some ((-1), m4)
def cR_readNew_16 (v1 : Nat) (v2 : Int) (m : xm) : xr :=
  bnd (cW_next m) fun r1 m2 =>
  bnd (cW_nameHere m2) fun r3 m4 =>
  bnd (cH_knows v1 r3 m4) fun r5 m6 =>
  if w32 r5 = 0 then
    cR_readNew_47 v1 v2 r3 m6
  else
  bnd (cW_failHere 3 m6) fun r7 m8 =>
  cR_readNew_47 v1 v2 r3 m8
def cR_readNew (v1 : Nat) (v2 : Int) (m : xm) : xr :=
  bnd (cH_isFull v1 v2 m) fun r1 m2 =>
  if w32 r1 = 0 then
    cR_readNew_16 v1 v2 m2
  else
  bnd (cW_failHere 5 m2) fun r3 m4 =>
  cR_readNew_16 v1 v2 m4
/-- LockOrchestra$HallReader.readKnown(LLockOrchestra$Hall;II)I -/
def cR_readKnown_38 (v1 : Nat) (v4 : Int) (m : xm) : xr :=
  bnd (cW_next m) fun r1 m2 =>
  some (v4, m2)
def cR_readKnown_30 (v1 : Nat) (v4 : Int) (m : xm) : xr :=
  bnd (cW_failHere 3 m) fun r1 m2 =>
  cR_readKnown_38 v1 v4 m2
def cR_readKnown (v1 : Nat) (v2 : Int) (v3 : Int) (m : xm) : xr :=
  bnd (cW_nameHere m) fun r1 m2 =>
  bnd (cH_named v1 v2 r1 m2) fun r3 m4 =>
  if w32 r3 = (-1) then
    cR_readKnown_30 v1 r3 m4
  else
  if ban (shr v3 r3) 1 = 1 then
    cR_readKnown_30 v1 r3 m4
  else
  cR_readKnown_38 v1 r3 m4
/-- LockOrchestra$Words.isAnyWord()Z -/
def cW_isAnyWord (m : xm) : xr :=
  if ld m 3 1 = 1 then
    some (1, m)
  else
  some (0, m)
/-- LockOrchestra$HallReader.readPlayer(LLockOrchestra$Hall;)V -/
def cR_readPlayer_76 (v1 : Nat) (k21 : Int → Int → Int → xm → xr) (v2 : Int) (v3 : Int) (v4 : Int) (m : xm) : xr :=
  k21 v2 v3 (v4 + 1) m
def cR_readPlayer_43 (v1 : Nat) (k21 : Int → Int → Int → xm → xr) (v2 : Int) (v3 : Int) (v4 : Int) (m : xm) : xr :=
  bnd (cR_readKnown v1 1 v3 m) fun r1 m2 =>
  bnd (cW_faultKind m2) fun r3 m4 =>
  if w32 r3 = 0 then
    bnd (cH_tellPlays v1 v2 r1 m4) fun r5 m6 =>
    xlt (bor v3 (shl 1 r1)) fun x7 =>
    cR_readPlayer_76 v1 k21 v2 x7 v4 m6
  else
  cR_readPlayer_76 v1 k21 v2 v3 v4 m4
def cR_readPlayer_21 (v1 : Nat) : Nat → Int → Int → Int → xm → xr
  | 0, _, _, _, _ => none
  | n + 1, v2, v3, v4, m =>
    if 6 < w32 v4 then
      some (0, m)
    else
    if w32 v4 = 0 then
      cR_readPlayer_43 v1 (fun v2 v3 v4 m => cR_readPlayer_21 v1 n v2 v3 v4 m) v2 v3 v4 m
    else
    bnd (cW_isAnyWord m) fun r1 m2 =>
    if w32 r1 = 0 then
      some (0, m2)
    else
    cR_readPlayer_43 v1 (fun v2 v3 v4 m => cR_readPlayer_21 v1 n v2 v3 v4 m) v2 v3 v4 m2
def cR_readPlayer (v1 : Nat) (m : xm) : xr :=
  bnd (cR_readNew v1 3 m) fun r1 m2 =>
  bnd (cW_needWord 23 m2) fun r3 m4 =>
  cR_readPlayer_21 v1 xLF r1 0 0 m4
/-- LockOrchestra$HallReader.readDoor(LLockOrchestra$Hall;)V -/
def cR_readDoor (v1 : Nat) (m : xm) : xr :=
  bnd (cR_readNew v1 2 m) fun r1 m2 =>
  bnd (cW_needWord 8 m2) fun r3 m4 =>
  bnd (cC_size (v1 + 1) m4) fun r5 m6 =>
  bnd (cX_rec 100 0 5 (v1 + 1) 0 0 m6) fun r7 m8 =>
  bnd (cC_size (v1 + 1) m8) fun r9 m10 =>
  bnd (cH_tellDoor v1 r1 r5 r9 m10) fun r11 m12 =>
  some (0, m12)
/-- LockOrchestra$HallReader.readNote(LLockOrchestra$Hall;)V -/
def cR_readNote_88 (v1 : Nat) (k21 : Int → Int → Int → xm → xr) (v2 : Int) (v3 : Int) (v4 : Int) (m : xm) : xr :=
  k21 v2 v3 (v4 + 1) m
def cR_readNote_42 (v1 : Nat) (k21 : Int → Int → Int → xm → xr) (v2 : Int) (v3 : Int) (v4 : Int) (m : xm) : xr :=
  bnd (cR_readKnown v1 0 v3 m) fun r1 m2 =>
  bnd (cW_needNumber 1 4 m2) fun r3 m4 =>
  bnd (cW_faultKind m4) fun r5 m6 =>
  if w32 r5 = 0 then
    bnd (cH_tellTurn v1 v2 r1 r3 m6) fun r7 m8 =>
    xlt (bor v3 (shl 1 r1)) fun x9 =>
    cR_readNote_88 v1 k21 v2 x9 v4 m8
  else
  cR_readNote_88 v1 k21 v2 v3 v4 m6
def cR_readNote_21 (v1 : Nat) : Nat → Int → Int → Int → xm → xr
  | 0, _, _, _, _ => none
  | n + 1, v2, v3, v4, m =>
    if 4 < w32 v4 then
      some (0, m)
    else
    if w32 v4 = 0 then
      cR_readNote_42 v1 (fun v2 v3 v4 m => cR_readNote_21 v1 n v2 v3 v4 m) v2 v3 v4 m
    else
    bnd (cW_isAnyWord m) fun r1 m2 =>
    if w32 r1 = 0 then
      some (0, m2)
    else
    cR_readNote_42 v1 (fun v2 v3 v4 m => cR_readNote_21 v1 n v2 v3 v4 m) v2 v3 v4 m2
def cR_readNote (v1 : Nat) (m : xm) : xr :=
  bnd (cR_readNew v1 1 m) fun r1 m2 =>
  bnd (cW_needWord 6 m2) fun r3 m4 =>
  cR_readNote_21 v1 xLF r1 0 0 m4
/-- LockOrchestra$HallReader.readLock(LLockOrchestra$Hall;)V -/
def cR_readLock_75 (v1 : Nat) (v2 : Int) (v3 : Int) (v4 : Int) (s0 : Int) (m : xm) : xr :=
  xlt s0 fun x1 =>
  bnd (cH_tellLock v1 v2 v3 v4 x1 m) fun r2 m3 =>
  some (0, m3)
def cR_readLock (v1 : Nat) (m : xm) : xr :=
  bnd (cR_readNew v1 0 m) fun r1 m2 =>
  bnd (cW_needWord 2 m2) fun r3 m4 =>
  bnd (cW_needNumber 2 5 m4) fun r5 m6 =>
  bnd (cW_needWord 3 m6) fun r7 m8 =>
  bnd (cW_needNumber 0 (r5 - 1) m8) fun r9 m10 =>
  bnd (cW_takeWord 4 m10) fun r11 m12 =>
  if w32 r11 = 0 then
    cR_readLock_75 v1 r1 r5 r9 (-1) m12
  else
  bnd (cW_needNumber 0 (r5 - 1) m12) fun r13 m14 =>
  cR_readLock_75 v1 r1 r5 r9 r13 m14
/-- LockOrchestra$HallReader.readInto(LLockOrchestra$Hall;)I -/
def cR_readInto_165 (v1 : Nat) (v2 : Int) (m : xm) : xr :=
  bnd (cW_faultKind m) fun r1 m2 =>
  if w32 r1 = 0 then
    some (v2, m2)
  else
  some ((-1), m2)
def cR_readInto_147 (v1 : Nat) (v2 : Int) (m : xm) : xr :=
  bnd (cW_isEnd m) fun r1 m2 =>
  if w32 r1 = 0 then
    bnd (cW_failHere 5 m2) fun r3 m4 =>
    cR_readInto_165 v1 v2 m4
  else
  cR_readInto_165 v1 v2 m2
def cR_readInto_132 (v1 : Nat) (k13 : Int → xm → xr) (v2 : Int) (m : xm) : xr :=
  bnd (cW_needSign 59 m) fun r1 m2 =>
  k13 (v2 + 1) m2
def cR_readInto_13 (v1 : Nat) : Nat → Int → xm → xr
  | 0, _, _ => none
  | n + 1, v2, m =>
    if 60 ≤ w32 v2 then
      cR_readInto_147 v1 v2 m
    else
    bnd (cW_isEnd m) fun r1 m2 =>
    if w32 r1 = 0 then
      bnd (cW_isWord 0 m2) fun r3 m4 =>
      if w32 r3 = 0 then
        bnd (cW_isWord 5 m4) fun r5 m6 =>
        if w32 r5 = 0 then
          bnd (cW_isWord 7 m6) fun r7 m8 =>
          if w32 r7 = 0 then
            bnd (cW_isWord 22 m8) fun r9 m10 =>
            if w32 r9 = 0 then
              bnd (cW_needWord 24 m10) fun r11 m12 =>
              bnd (cW_needNumber 0 100 m12) fun r13 m14 =>
              bnd (cH_tellRust v1 r13 m14) fun r15 m16 =>
              cR_readInto_132 v1 (fun v2 m => cR_readInto_13 v1 n v2 m) v2 m16
            else
            bnd (cR_readPlayer v1 m10) fun r17 m18 =>
            cR_readInto_132 v1 (fun v2 m => cR_readInto_13 v1 n v2 m) v2 m18
          else
          bnd (cR_readDoor v1 m8) fun r19 m20 =>
          cR_readInto_132 v1 (fun v2 m => cR_readInto_13 v1 n v2 m) v2 m20
        else
        bnd (cR_readNote v1 m6) fun r21 m22 =>
        cR_readInto_132 v1 (fun v2 m => cR_readInto_13 v1 n v2 m) v2 m22
      else
      bnd (cR_readLock v1 m4) fun r23 m24 =>
      cR_readInto_132 v1 (fun v2 m => cR_readInto_13 v1 n v2 m) v2 m24
    else
    cR_readInto_147 v1 v2 m2
def cR_readInto (v1 : Nat) (m : xm) : xr :=
  bnd (cH_clear v1 m) fun r1 m2 =>
  bnd (cW_begin m2) fun r3 m4 =>
  cR_readInto_13 v1 xLF 0 m4
/-- LockOrchestra$Heard.forget()V -/
def cE_forget (m : xm) : xr :=
  stf m 18 2 0 fun m1 =>
  some (0, m1)
/-- LockOrchestra$Heard.rows()I -/
def cE_rows (m : xm) : xr :=
  some (ld m 18 2, m)
/-- LockOrchestra$Tape.cut(I)V -/
def cT_cut (v1 : Int) (m : xm) : xr :=
  bnd (j_minI v1 (ld m 1 1) m) fun r1 m2 =>
  bnd (j_maxI 0 r1 m2) fun r3 m4 =>
  stf m4 1 1 r3 fun m5 =>
  some (0, m5)
/-- LockOrchestra$Heard.take(LLockOrchestra$Tape;LLockOrchestra$Hall;)Z -/
def cE_take_175 (v2 : Nat) (v4 : Int) (s1 : Int) (m : xm) : xr :=
  stf m 18 2 s1 fun m1 =>
  bnd (cT_cut 0 m1) fun r2 m3 =>
  xrb v4 m3
def cE_take_161 (v2 : Nat) (v3 : Int) (v4 : Int) (m : xm) : xr :=
  if w32 v4 = 0 then
    cE_take_175 v2 v4 (ld m 18 2) m
  else
  cE_take_175 v2 v4 v3 m
def cE_take_108 (v2 : Nat) : Nat → Int → Int → Int → xm → xr
  | 0, _, _, _, _ => none
  | n + 1, v3, v4, v5, m =>
    if w32 v3 ≤ w32 v5 then
      cE_take_161 v2 v3 v4 m
    else
    if w32 v4 = 0 then
      cE_take_161 v2 v3 v4 m
    else
    bnd (cT_byteAt (2 * v5) m) fun r1 m2 =>
    bnd (cL_setCell 19 v5 r1 m2) fun r3 m4 =>
    bnd (cT_byteAt ((2 * v5) + 1) m4) fun r5 m6 =>
    bnd (cL_setCell 20 v5 r5 m6) fun r7 m8 =>
    cE_take_108 v2 n v3 v4 (v5 + 1) m8
def cE_take_105 (v2 : Nat) (v3 : Int) (v4 : Int) (m : xm) : xr :=
  cE_take_108 v2 xLF v3 v4 0 m
def cE_take_97 (v2 : Nat) (k37 : Int → Int → Int → xm → xr) (v3 : Int) (v5 : Int) (s0 : Int) (m : xm) : xr :=
  xlt s0 fun x1 =>
  k37 v3 x1 (v5 + 1) m
def cE_take_96 (v2 : Nat) (k37 : Int → Int → Int → xm → xr) (v3 : Int) (v5 : Int) (m : xm) : xr :=
  cE_take_97 v2 k37 v3 v5 0 m
def cE_take_75 (v2 : Nat) (k37 : Int → Int → Int → xm → xr) (v3 : Int) (v5 : Int) (m : xm) : xr :=
  bnd (cT_byteAt ((2 * v5) + 1) m) fun r1 m2 =>
  bnd (cH_areDoors v2 r1 m2) fun r3 m4 =>
  if w32 r3 = 0 then
    cE_take_96 v2 k37 v3 v5 m4
  else
  cE_take_97 v2 k37 v3 v5 1 m4
def cE_take_37 (v2 : Nat) : Nat → Int → Int → Int → xm → xr
  | 0, _, _, _, _ => none
  | n + 1, v3, v4, v5, m =>
    if w32 v3 ≤ w32 v5 then
      cE_take_105 v2 v3 v4 m
    else
    if w32 v4 = 0 then
      cE_take_105 v2 v3 v4 m
    else
    bnd (cT_byteAt (2 * v5) m) fun r1 m2 =>
    if w32 r1 = 6 then
      cE_take_75 v2 (fun v3 v4 v5 m => cE_take_37 v2 n v3 v4 v5 m) v3 v5 m2
    else
    bnd (cH_isOne v2 1 r1 m2) fun r3 m4 =>
    if w32 r3 = 0 then
      cE_take_96 v2 (fun v3 v4 v5 m => cE_take_37 v2 n v3 v4 v5 m) v3 v5 m4
    else
    cE_take_75 v2 (fun v3 v4 v5 m => cE_take_37 v2 n v3 v4 v5 m) v3 v5 m4
def cE_take_32 (v2 : Nat) (v3 : Int) (s0 : Int) (m : xm) : xr :=
  xlt s0 fun x1 =>
  cE_take_37 v2 xLF v3 x1 0 m
def cE_take_31 (v2 : Nat) (v3 : Int) (m : xm) : xr :=
  cE_take_32 v2 v3 0 m
def cE_take (v2 : Nat) (m : xm) : xr :=
  bnd (cT_length m) fun r1 m2 =>
  xlt (idv r1 2) fun x3 =>
  if w32 x3 < 1 then
    cE_take_31 v2 x3 m2
  else
  if 20 < w32 x3 then
    cE_take_31 v2 x3 m2
  else
  bnd (cT_length m2) fun r4 m5 =>
  if irm r4 2 = 0 then
    cE_take_32 v2 x3 1 m5
  else
  cE_take_31 v2 x3 m5
/-- LockOrchestra$Heard.fits(LLockOrchestra$Hall;I)Z -/
def cE_fits_5 (v1 : Nat) : Nat → Int → Int → xm → xr
  | 0, _, _, _ => none
  | n + 1, v3, v4, m =>
    if ld m 18 2 ≤ w32 v4 then
      some (1, m)
    else
    bnd (cL_cell 19 v4 m) fun r1 m2 =>
    bnd (cH_canPlay v1 v3 r1 m2) fun r3 m4 =>
    if w32 r3 = 0 then
      some (0, m4)
    else
    bnd (cH_after v1 v3 r1 m4) fun r5 m6 =>
    bnd (cH_openDoors v1 r5 m6) fun r7 m8 =>
    bnd (cL_cell 20 v4 m8) fun r9 m10 =>
    if w32 r7 = w32 r9 then
      cE_fits_5 v1 n r5 (v4 + 1) m10
    else
    some (0, m10)
def cE_fits (v1 : Nat) (v2 : Int) (m : xm) : xr :=
  cE_fits_5 v1 xLF v2 0 m
/-- LockOrchestra$Piece.take(LLockOrchestra$Tape;LLockOrchestra$Hall;)Z -/
def cP_take_94 (v2 : Nat) (v3 : Int) (m : xm) : xr :=
  bnd (cT_cut 0 m) fun r1 m2 =>
  xrb v3 m2
def cP_take_66 (v2 : Nat) (k23 : Int → Int → xm → xr) (v4 : Int) (v5 : Int) (s0 : Int) (m : xm) : xr :=
  xlt s0 fun x1 =>
  bnd (cL_setCell 17 v4 v5 m) fun r2 m3 =>
  stf m3 16 1 ((ld m3 16 1) + 1) fun m4 =>
  k23 x1 (v4 + 1) m4
def cP_take_61 (v2 : Nat) (k23 : Int → Int → xm → xr) (v4 : Int) (v5 : Int) (m : xm) : xr :=
  cP_take_66 v2 k23 v4 v5 1 m
def cP_take_23 (v2 : Nat) : Nat → Int → Int → xm → xr
  | 0, _, _, _ => none
  | n + 1, v3, v4, m =>
    bnd (cT_length m) fun r1 m2 =>
    if w32 r1 ≤ w32 v4 then
      cP_take_94 v2 v3 m2
    else
    if w32 v3 = 0 then
      cP_take_94 v2 v3 m2
    else
    bnd (cT_byteAt v4 m2) fun r3 m4 =>
    if w32 r3 = 6 then
      cP_take_61 v2 (fun v3 v4 m => cP_take_23 v2 n v3 v4 m) v4 r3 m4
    else
    bnd (cH_isOne v2 1 r3 m4) fun r5 m6 =>
    if w32 r5 = 0 then
      cP_take_66 v2 (fun v3 v4 m => cP_take_23 v2 n v3 v4 m) v4 r3 0 m6
    else
    cP_take_61 v2 (fun v3 v4 m => cP_take_23 v2 n v3 v4 m) v4 r3 m6
def cP_take_19 (v2 : Nat) (s0 : Int) (m : xm) : xr :=
  xlt s0 fun x1 =>
  cP_take_23 v2 xLF x1 0 m
def cP_take (v2 : Nat) (m : xm) : xr :=
  stf m 16 1 0 fun m1 =>
  bnd (cT_length m1) fun r2 m3 =>
  if 20 < w32 r2 then
    cP_take_19 v2 0 m3
  else
  cP_take_19 v2 1 m3
/-- LockOrchestra$Piece.length()I -/
def cP_length (m : xm) : xr :=
  some (ld m 16 1, m)
/-- LockOrchestra$Piece.noteAt(I)I -/
def cP_noteAt (v1 : Int) (m : xm) : xr :=
  bnd (cL_cell 17 v1 m) fun r1 m2 =>
  some (r1, m2)
/-- LockOrchestra$Piece.canBeShared(LLockOrchestra$Hall;I)Z -/
def cP_canBeShared_79 (v1 : Nat) (k5 : Int → Int → Int → xm → xr) (v2 : Int) (v4 : Int) (s0 : Int) (m : xm) : xr :=
  xlt s0 fun x1 =>
  k5 v2 x1 (v4 + 1) m
def cP_canBeShared_62 (v1 : Nat) (k5 : Int → Int → Int → xm → xr) (v2 : Int) (v4 : Int) (v5 : Int) (m : xm) : xr :=
  bnd (cP_noteAt v4 m) fun r1 m2 =>
  if w32 r1 = 6 then
    cP_canBeShared_79 v1 k5 v2 v4 0 m2
  else
  cP_canBeShared_79 v1 k5 v2 v4 v5 m2
def cP_canBeShared_44 (v1 : Nat) (k5 : Int → Int → Int → xm → xr) (v2 : Int) (v4 : Int) (v5 : Int) (m : xm) : xr :=
  bnd (cP_noteAt v4 m) fun r1 m2 =>
  if w32 r1 = 6 then
    cP_canBeShared_62 v1 k5 v2 v4 v5 m2
  else
  if w32 v5 = 0 then
    some (0, m2)
  else
  cP_canBeShared_62 v1 k5 v2 v4 v5 m2
def cP_canBeShared_5 (v1 : Nat) : Nat → Int → Int → Int → xm → xr
  | 0, _, _, _, _ => none
  | n + 1, v2, v3, v4, m =>
    if ld m 16 1 ≤ w32 v4 then
      some (1, m)
    else
    bnd (cP_noteAt v4 m) fun r1 m2 =>
    bnd (cH_playersOf v1 r1 m2) fun r3 m4 =>
    xlt (ban r3 v2) fun x5 =>
    bnd (j_bitCount v3 m4) fun r6 m7 =>
    if w32 r6 = 1 then
      xlt (ban x5 (bxo v3 (-1))) fun x8 =>
      cP_canBeShared_44 v1 (fun v2 v3 v4 m => cP_canBeShared_5 v1 n v2 v3 v4 m) v2 v4 x8 m7
    else
    cP_canBeShared_44 v1 (fun v2 v3 v4 m => cP_canBeShared_5 v1 n v2 v3 v4 m) v2 v4 x5 m7
def cP_canBeShared (v1 : Nat) (v2 : Int) (m : xm) : xr :=
  cP_canBeShared_5 v1 xLF v2 0 0 m
/-- LockOrchestra$Piece.endOf(LLockOrchestra$Hall;III)I -/
def cP_endOf_32 (v1 : Nat) (k6 : Int → Int → Int → Int → xm → xr) (v3 : Int) (v4 : Int) (v5 : Int) (v6 : Int) (s0 : Int) (m : xm) : xr :=
  xlt s0 fun x1 =>
  bnd (cH_canPlay v1 v5 x1 m) fun r2 m3 =>
  if w32 r2 = 0 then
    some ((-1), m3)
  else
  bnd (cH_after v1 v5 x1 m3) fun r4 m5 =>
  k6 v3 v4 r4 (v6 + 1) m5
def cP_endOf_6 (v1 : Nat) : Nat → Int → Int → Int → Int → xm → xr
  | 0, _, _, _, _, _ => none
  | n + 1, v3, v4, v5, v6, m =>
    if ld m 16 1 ≤ w32 v6 then
      some (v5, m)
    else
    if w32 v6 = w32 v3 then
      cP_endOf_32 v1 (fun v3 v4 v5 v6 m => cP_endOf_6 v1 n v3 v4 v5 v6 m) v3 v4 v5 v6 v4 m
    else
    bnd (cP_noteAt v6 m) fun r1 m2 =>
    cP_endOf_32 v1 (fun v3 v4 v5 v6 m => cP_endOf_6 v1 n v3 v4 v5 v6 m) v3 v4 v5 v6 r1 m2
def cP_endOf (v1 : Nat) (v2 : Int) (v3 : Int) (v4 : Int) (m : xm) : xr :=
  cP_endOf_6 v1 xLF v3 v4 v2 0 m
/-- LockOrchestra$Question.takeAsked()I -/
def cQ_takeAsked (m : xm) : xr :=
  bnd (cW_takeWord 25 m) fun r1 m2 =>
  if w32 r1 = 0 then
    bnd (cW_takeWord 26 m2) fun r3 m4 =>
    if w32 r3 = 0 then
      bnd (cW_takeWord 27 m4) fun r5 m6 =>
      if w32 r5 = 0 then
        bnd (cW_takeWord 28 m6) fun r7 m8 =>
        if w32 r7 = 0 then
          bnd (cW_takeWord 29 m8) fun r9 m10 =>
          if w32 r9 = 0 then
            bnd (cW_takeWord 30 m10) fun r11 m12 =>
            if w32 r11 = 0 then
              some ((-1), m12)
            else
            some (5, m12)
          else
          some (4, m10)
        else
        some (3, m8)
      else
      some (2, m6)
    else
    some (1, m4)
  else
  some (0, m2)
/-- LockOrchestra$Question.read()Z -/
def cQ_read_94 (m : xm) : xr :=
  bnd (cW_faultKind m) fun r1 m2 =>
  if w32 r1 = 0 then
    some (1, m2)
  else
  some (0, m2)
def cQ_read_76 (m : xm) : xr :=
  bnd (cW_isEnd m) fun r1 m2 =>
  if w32 r1 = 0 then
    bnd (cW_failHere 1 m2) fun r3 m4 =>
    cQ_read_94 m4
  else
  cQ_read_94 m2
def cQ_read (m : xm) : xr :=
  bnd (cW_begin m) fun r1 m2 =>
  bnd (cC_clear 7 m2) fun r3 m4 =>
  bnd (cQ_takeAsked m4) fun r5 m6 =>
  stf m6 6 3 r5 fun m7 =>
  if ld m7 6 3 = (-1) then
    bnd (cW_failHere 1 m7) fun r12 m13 =>
    cQ_read_76 m13
  else
  if 2 < ld m7 6 3 then
    bnd (cX_rec 100 3 10 7 0 0 m7) fun r8 m9 =>
    cQ_read_76 m9
  else
  bnd (cX_rec 100 0 10 7 0 0 m7) fun r10 m11 =>
  cQ_read_76 m11
/-- LockOrchestra$Question.withLock(JII)J -/
def cQ_withLock_112 (v1 : Int) (v4 : Int) (m : xm) : xr :=
  some (v1 + (w32 v4), m)
def cQ_withLock (v1 : Int) (v3 : Int) (v4 : Int) (m : xm) : xr :=
  xsw (ld m 6 3) 0 [
    ( if w64 v1 = (-1) then
        if w32 v4 = 0 then
          some (v1, m)
        else
        some (w32 v3, m)
      else
      some (v1, m)),
    ( if w32 v4 = 0 then
        some (v1, m)
      else
      some (w32 v3, m)),
    ( cQ_withLock_112 v1 v4 m),
    ( cQ_withLock_112 v1 v4 m),
    ( if w32 v3 = 0 then
        some (w32 v4, m)
      else
      bnd (j_maxL v1 (w32 v4) m) fun r1 m2 =>
      some (r1, m2)),
    ( if w32 v3 = 0 then
        some (w32 v4, m)
      else
      bnd (j_minL v1 (w32 v4) m) fun r3 m4 =>
      some (r3, m4))
    ] (
      cQ_withLock_112 v1 v4 m
    )
/-- LockOrchestra$Question.answer(LLockOrchestra$Hall;I)J -/
def cQ_answer_26 (v1 : Nat) : Nat → Int → Int → Int → xm → xr
  | 0, _, _, _, _ => none
  | n + 1, v2, v3, v5, m =>
    bnd (cH_count v1 0 m) fun r1 m2 =>
    if w32 r1 ≤ w32 v5 then
      some (v3, m2)
    else
    bnd (cC_size 7 m2) fun r3 m4 =>
    bnd (cC_valueOf 7 v1 0 r3 v2 v5 m4) fun r5 m6 =>
    bnd (cQ_withLock v3 v5 r5 m6) fun r7 m8 =>
    cQ_answer_26 v1 n v2 r7 (v5 + 1) m8
def cQ_answer_22 (v1 : Nat) (v2 : Int) (s0 : Int) (m : xm) : xr :=
  xlt s0 fun x1 =>
  cQ_answer_26 v1 xLF v2 x1 0 m
def cQ_answer_15 (v1 : Nat) (v2 : Int) (m : xm) : xr :=
  cQ_answer_22 v1 v2 (-1) m
def cQ_answer (v1 : Nat) (v2 : Int) (m : xm) : xr :=
  if ld m 6 3 = 0 then
    cQ_answer_15 v1 v2 m
  else
  if ld m 6 3 = 1 then
    cQ_answer_15 v1 v2 m
  else
  cQ_answer_22 v1 v2 0 m
/-- LockOrchestra$Search.seekJustDoors(I)V -/
def cS_seekJustDoors (v1 : Int) (m : xm) : xr :=
  stf m 11 5 1 fun m1 =>
  stf m1 11 6 v1 fun m2 =>
  some (0, m2)
/-- LockOrchestra$Search.reach(III)V -/
def cS_reach (v1 : Int) (v2 : Int) (v3 : Int) (m : xm) : xr :=
  xlt (shl 1 (ban v1 31)) fun x1 =>
  bnd (cL_cell 12 (idv v1 32) m) fun r2 m3 =>
  if ban r2 x1 = 0 then
    if ld m3 11 4 < 1296 then
      bnd (cL_cell 12 (idv v1 32) m3) fun r4 m5 =>
      bnd (cL_setCell 12 (idv v1 32) (bor r4 x1) m5) fun r6 m7 =>
      bnd (cL_setCell 13 (ld m7 11 4) v1 m7) fun r8 m9 =>
      bnd (cL_setCell 14 (ld m9 11 4) v2 m9) fun r10 m11 =>
      bnd (cL_setCell 15 (ld m11 11 4) v3 m11) fun r12 m13 =>
      stf m13 11 4 ((ld m13 11 4) + 1) fun m14 =>
      some (0, m14)
    else
    some (0, m3)
  else
  some (0, m3)
/-- LockOrchestra$Search.isSought(LLockOrchestra$Hall;I)Z -/
def cS_isSought (v1 : Nat) (v2 : Int) (m : xm) : xr :=
  xsw (ld m 11 5) 1 [
    ( bnd (cH_openDoors v1 v2 m) fun r1 m2 =>
      if w32 r1 = ld m2 11 6 then
        some (1, m2)
      else
      some (0, m2)),
    ( bnd (cH_openDoors v1 v2 m) fun r3 m4 =>
      if ban r3 (ld m4 11 6) = ld m4 11 6 then
        some (1, m4)
      else
      some (0, m4)),
    ( if w32 v2 = ld m 11 6 then
        some (1, m)
      else
      some (0, m))
    ] (
      some (0, m)
    )
/-- LockOrchestra$Search.find(LLockOrchestra$Hall;II)I -/
def cS_find_120 (v1 : Nat) (k23 : Int → Int → xm → xr) (v3 : Int) (v4 : Int) (m : xm) : xr :=
  k23 v3 (v4 + 1) m
def cS_find_114 (v1 : Nat) (k23 : Int → Int → xm → xr) (k67 : Int → Int → Int → Int → xm → xr) (v3 : Int) (v4 : Int) (v5 : Int) (v6 : Int) (m : xm) : xr :=
  k67 v3 v4 v5 (v6 + 1) m
def cS_find_67 (v1 : Nat) (k23 : Int → Int → xm → xr) : Nat → Int → Int → Int → Int → xm → xr
  | 0, _, _, _, _, _ => none
  | n + 1, v3, v4, v5, v6, m =>
    bnd (cH_count v1 1 m) fun r1 m2 =>
    if w32 r1 ≤ w32 v6 then
      cS_find_120 v1 k23 v3 v4 m2
    else
    if ban (shr v3 v6) 1 = 1 then
      bnd (cH_canPlay v1 v5 v6 m2) fun r3 m4 =>
      if w32 r3 = 0 then
        cS_find_114 v1 k23 (fun v3 v4 v5 v6 m => cS_find_67 v1 k23 n v3 v4 v5 v6 m) v3 v4 v5 v6 m4
      else
      bnd (cH_after v1 v5 v6 m4) fun r5 m6 =>
      bnd (cS_reach r5 v4 v6 m6) fun r7 m8 =>
      cS_find_114 v1 k23 (fun v3 v4 v5 v6 m => cS_find_67 v1 k23 n v3 v4 v5 v6 m) v3 v4 v5 v6 m8
    else
    cS_find_114 v1 k23 (fun v3 v4 v5 v6 m => cS_find_67 v1 k23 n v3 v4 v5 v6 m) v3 v4 v5 v6 m2
def cS_find_23 (v1 : Nat) : Nat → Int → Int → xm → xr
  | 0, _, _, _ => none
  | n + 1, v3, v4, m =>
    if ld m 11 4 ≤ w32 v4 then
      some ((-1), m)
    else
    if 1296 ≤ w32 v4 then
      some ((-1), m)
    else
    bnd (cL_cell 13 v4 m) fun r1 m2 =>
    bnd (cS_isSought v1 r1 m2) fun r3 m4 =>
    if w32 r3 = 0 then
      cS_find_67 v1 (fun v3 v4 m => cS_find_23 v1 n v3 v4 m) xLF v3 v4 r1 0 m4
    else
    some (v4, m4)
def cS_find (v1 : Nat) (v2 : Int) (v3 : Int) (m : xm) : xr :=
  bnd (j_fill 12 0 m) fun r1 m2 =>
  stf m2 11 4 0 fun m3 =>
  bnd (cS_reach v2 (-1) (-1) m3) fun r4 m5 =>
  cS_find_23 v1 xLF v3 0 m5
/-- LockOrchestra$Search.lengthTo(I)I -/
def cS_lengthTo_11 : Nat → Int → Int → xm → xr
  | 0, _, _, _ => none
  | n + 1, v2, v3, m =>
    if w32 v3 = (-1) then
      some (v2, m)
    else
    if 1296 ≤ w32 v2 then
      some (v2, m)
    else
    bnd (cL_cell 14 v3 m) fun r1 m2 =>
    cS_lengthTo_11 n (v2 + 1) r1 m2
def cS_lengthTo (v1 : Int) (m : xm) : xr :=
  bnd (cL_cell 14 v1 m) fun r1 m2 =>
  cS_lengthTo_11 xLF 0 r1 m2
/-- LockOrchestra$Search.wayTo(II)I -/
def cS_wayTo_62 (v4 : Int) (m : xm) : xr :=
  bnd (cL_cell 15 v4 m) fun r1 m2 =>
  some (r1, m2)
def cS_wayTo_39 : Nat → Int → Int → Int → xm → xr
  | 0, _, _, _, _ => none
  | n + 1, v2, v4, v5, m =>
    if w32 v5 ≤ w32 v2 then
      cS_wayTo_62 v4 m
    else
    bnd (cL_cell 14 v4 m) fun r1 m2 =>
    cS_wayTo_39 n v2 r1 (v5 + (-1)) m2
def cS_wayTo (v1 : Int) (v2 : Int) (m : xm) : xr :=
  if w32 v1 = (-1) then
    some ((-1), m)
  else
  bnd (cS_lengthTo v1 m) fun r1 m2 =>
  if w32 v2 = (-1) then
    some (r1, m2)
  else
  if w32 v2 < 0 then
    some ((-1), m2)
  else
  if w32 v2 < w32 r1 then
    xlt (r1 - 1) fun x3 =>
    cS_wayTo_39 xLF v2 v1 x3 m2
  else
  some ((-1), m2)
/-- LockOrchestra$Search.seekState(I)V -/
def cS_seekState (v1 : Int) (m : xm) : xr :=
  stf m 11 5 3 fun m1 =>
  stf m1 11 6 v1 fun m2 =>
  some (0, m2)
/-- LockOrchestra$Search.seekNothing()V -/
def cS_seekNothing (m : xm) : xr :=
  stf m 11 5 0 fun m1 =>
  some (0, m1)
/-- LockOrchestra$Search.reached()I -/
def cS_reached (m : xm) : xr :=
  some (ld m 11 4, m)
/-- LockOrchestra$Search.seekDoors(I)V -/
def cS_seekDoors (v1 : Int) (m : xm) : xr :=
  stf m 11 5 2 fun m1 =>
  stf m1 11 6 v1 fun m2 =>
  some (0, m2)
/-- LockOrchestra$Search.notesTo(I)I -/
def cS_notesTo_11 : Nat → Int → Int → Int → xm → xr
  | 0, _, _, _, _ => none
  | n + 1, v2, v3, v4, m =>
    if w32 v4 ≤ 0 then
      some (v2, m)
    else
    bnd (cL_cell 15 v3 m) fun r1 m2 =>
    xlt (bor v2 (shl 1 r1)) fun x3 =>
    bnd (cL_cell 14 v3 m2) fun r4 m5 =>
    cS_notesTo_11 n x3 r4 (v4 + (-1)) m5
def cS_notesTo (v1 : Int) (m : xm) : xr :=
  bnd (cS_lengthTo v1 m) fun r1 m2 =>
  cS_notesTo_11 xLF 0 v1 r1 m2
/-- LockOrchestra$Story.start(II)V -/
def cY_start (v1 : Int) (v2 : Int) (m : xm) : xr :=
  bnd (cL_setCell 22 0 v1 m) fun r1 m2 =>
  bnd (cL_setCell 22 1 v2 m2) fun r3 m4 =>
  bnd (cL_setCell 22 2 0 m4) fun r5 m6 =>
  stf m6 21 3 0 fun m7 =>
  some (0, m7)
/-- LockOrchestra$Story.played()I -/
def cY_played (m : xm) : xr :=
  bnd (cL_cell 22 1 m) fun r1 m2 =>
  some (r1, m2)
/-- LockOrchestra$Story.state()I -/
def cY_state (m : xm) : xr :=
  bnd (cL_cell 22 0 m) fun r1 m2 =>
  some (r1, m2)
/-- LockOrchestra$Story.keptCount()I -/
def cY_keptCount (m : xm) : xr :=
  bnd (cL_cell 22 2 m) fun r1 m2 =>
  some (r1, m2)
/-- LockOrchestra$Story.acts()I -/
def cY_acts (m : xm) : xr :=
  some (ld m 21 3, m)
/-- LockOrchestra$Story.keptPart(II)I -/
def cY_keptPart (v1 : Int) (v2 : Int) (m : xm) : xr :=
  if w32 v1 < 0 then
    some ((-1), m)
  else
  bnd (cY_keptCount m) fun r1 m2 =>
  if w32 v1 < w32 r1 then
    bnd (cL_cell 22 (3 + v1) m2) fun r3 m4 =>
    xsw (w32 v2) 0 [
      ( some (idv r3 16, m4)),
      ( some (irm (idv r3 2) 8, m4)),
      ( some (irm r3 2, m4))
      ] (
        some ((-1), m4)
      )
  else
  some ((-1), m2)
/-- LockOrchestra$Story.pastRow(I)[I -/
def cY_pastRow_32 (m : xm) : xr :=
  some (((22 : Nat) : Int), m)
def cY_pastRow (v1 : Int) (m : xm) : xr :=
  xlt (irm ((ld m 21 2) + v1) 20) fun x1 =>
  if w32 x1 < 0 then
    cY_pastRow_32 m
  else
  if 20 ≤ w32 x1 then
    cY_pastRow_32 m
  else
  aal x1 fun x2 =>
  some (((x2 : Nat) : Int), m)
/-- LockOrchestra$Story.copyRow([I[I)V -/
def cY_copyRow_2 (v0 : Nat) (v1 : Nat) : Nat → Int → xm → xr
  | 0, _, _ => none
  | n + 1, v2, m =>
    if 43 ≤ w32 v2 then
      some (0, m)
    else
    bnd (cL_cell v0 v2 m) fun r1 m2 =>
    bnd (cL_setCell v1 v2 r1 m2) fun r3 m4 =>
    cY_copyRow_2 v0 v1 n (v2 + 1) m4
def cY_copyRow (v0 : Nat) (v1 : Nat) (m : xm) : xr :=
  cY_copyRow_2 v0 v1 xLF 0 m
/-- LockOrchestra$Story.beginAct()V -/
def cY_beginAct (m : xm) : xr :=
  bnd (cY_pastRow (ld m 21 3) m) fun r1 m2 =>
  xga r1.toNat <|
  bnd (cY_copyRow 22 r1.toNat m2) fun r3 m4 =>
  if 20 ≤ ld m4 21 3 then
    stf m4 21 2 (irm ((ld m4 21 2) + 1) 20) fun m5 =>
    some (0, m5)
  else
  stf m4 21 3 ((ld m4 21 3) + 1) fun m6 =>
  some (0, m6)
/-- LockOrchestra$Story.goTo(I)V -/
def cY_goTo (v1 : Int) (m : xm) : xr :=
  bnd (cL_setCell 22 0 v1 m) fun r1 m2 =>
  some (0, m2)
/-- LockOrchestra$Story.countPlayed()V -/
def cY_countPlayed (m : xm) : xr :=
  bnd (cY_played m) fun r1 m2 =>
  bnd (j_minI (r1 + 1) 9999 m2) fun r3 m4 =>
  bnd (cL_setCell 22 1 r3 m4) fun r5 m6 =>
  some (0, m6)
/-- LockOrchestra$Story.keepOne(I)V -/
def cY_keepOne_29 (v1 : Int) (v2 : Int) (m : xm) : xr :=
  bnd (cL_setCell 22 (3 + v2) v1 m) fun r1 m2 =>
  bnd (cL_setCell 22 2 (v2 + 1) m2) fun r3 m4 =>
  some (0, m4)
def cY_keepOne (v1 : Int) (m : xm) : xr :=
  bnd (cY_keptCount m) fun r1 m2 =>
  if w32 r1 < 40 then
    cY_keepOne_29 v1 r1 m2
  else
  acp m2 22 4 22 3 39 fun m3 =>
  cY_keepOne_29 v1 39 m3
/-- LockOrchestra$Story.keepDoors(II)V -/
def cY_keepDoors_40 (k2 : Int → Int → Int → xm → xr) (v1 : Int) (v2 : Int) (v3 : Int) (m : xm) : xr :=
  k2 v1 v2 (v3 + 1) m
def cY_keepDoors_2 : Nat → Int → Int → Int → xm → xr
  | 0, _, _, _, _ => none
  | n + 1, v1, v2, v3, m =>
    if 6 ≤ w32 v3 then
      some (0, m)
    else
    if ban (shr (bxo v1 v2) v3) 1 = 1 then
      bnd (cY_played m) fun r1 m2 =>
      bnd (cY_keepOne (((16 * r1) + (2 * v3)) + (ban (shr v2 v3) 1)) m2) fun r3 m4 =>
      cY_keepDoors_40 (fun v1 v2 v3 m => cY_keepDoors_2 n v1 v2 v3 m) v1 v2 v3 m4
    else
    cY_keepDoors_40 (fun v1 v2 v3 m => cY_keepDoors_2 n v1 v2 v3 m) v1 v2 v3 m
def cY_keepDoors (v1 : Int) (v2 : Int) (m : xm) : xr :=
  cY_keepDoors_2 xLF v1 v2 0 m
/-- LockOrchestra$Story.undoAct()Z -/
def cY_undoAct (m : xm) : xr :=
  if ld m 21 3 = 0 then
    some (0, m)
  else
  stf m 21 3 ((ld m 21 3) - 1) fun m1 =>
  bnd (cY_pastRow (ld m1 21 3) m1) fun r2 m3 =>
  xga r2.toNat <|
  bnd (cY_copyRow r2.toNat 22 m3) fun r4 m5 =>
  some (1, m5)
/-- LockOrchestra$Tape.addByte(I)V -/
def cT_addByte (v1 : Int) (m : xm) : xr :=
  if 1600 ≤ ld m 1 1 then
    some (0, m)
  else
  bnd (cL_setCell 2 (ld m 1 1) v1 m) fun r1 m2 =>
  stf m2 1 1 ((ld m2 1 1) + 1) fun m3 =>
  some (0, m3)
/-- LockOrchestra$Tape.addNumber(I)V -/
def cT_addNumber_3 : Nat → Int → Int → xm → xr
  | 0, _, _, _ => none
  | n + 1, v1, v2, m =>
    if w32 v2 < 0 then
      some (0, m)
    else
    bnd (cT_addByte (ban (usr v1 v2) 255) m) fun r1 m2 =>
    cT_addNumber_3 n v1 (v2 + (-8)) m2
def cT_addNumber (v1 : Int) (m : xm) : xr :=
  cT_addNumber_3 xLF v1 24 m
/-- LockOrchestra$Words.faultPlace()I -/
def cW_faultPlace (m : xm) : xr :=
  some (ld m 3 5, m)
/-- LockOrchestra.refuse(I)I -/
def cL_refuse (v1 : Int) (m : xm) : xr :=
  bnd (cL_cell 47 v1 m) fun r1 m2 =>
  bnd (cL_setCell 47 v1 (r1 + 1) m2) fun r3 m4 =>
  some ((-1), m4)
/-- LockOrchestra.feed(IIIII)I -/
def cL_feed (v1 : Int) (v2 : Int) (v3 : Int) (v4 : Int) (v5 : Int) (m : xm) : xr :=
  bnd (cT_length m) fun r1 m2 =>
  if w32 (r1 + 20) ≤ 1600 then
    bnd (cT_addNumber v1 m2) fun r3 m4 =>
    bnd (cT_addNumber v2 m4) fun r5 m6 =>
    bnd (cT_addNumber v3 m6) fun r7 m8 =>
    bnd (cT_addNumber v4 m8) fun r9 m10 =>
    bnd (cT_addNumber v5 m10) fun r11 m12 =>
    bnd (cT_length m12) fun r13 m14 =>
    some (r13, m14)
  else
  bnd (cL_refuse 0 m2) fun r15 m16 =>
  some (r15, m16)
/-- LockOrchestra.end(I)Z -/
def cL_end_15 (m : xm) : xr :=
  bnd (cL_refuse 0 m) fun r1 m2 =>
  some (0, m2)
def cL_end (v1 : Int) (m : xm) : xr :=
  if w32 v1 < 0 then
    cL_end_15 m
  else
  bnd (cT_length m) fun r1 m2 =>
  if w32 v1 ≤ w32 r1 then
    bnd (cT_cut v1 m2) fun r3 m4 =>
    some (1, m4)
  else
  cL_end_15 m2
/-- LockOrchestra.hall()I -/
def cL_hall (m : xm) : xr :=
  bnd (cR_readInto (hl m 13) m) fun r1 m2 =>
  bnd (cT_cut 0 m2) fun r3 m4 =>
  if w32 r1 = (-1) then
    bnd (cL_refuse 1 m4) fun r15 m16 =>
    some (r15, m16)
  else
  stf m4 0 13 (hl m4 12 : Nat) fun m5 =>
  stf m5 0 12 (hl m4 13 : Nat) fun m6 =>
  bnd (cH_firstState (hl m6 12) m6) fun r7 m8 =>
  bnd (cY_start r7 0 m8) fun r9 m10 =>
  bnd (cE_forget m10) fun r11 m12 =>
  stf m12 0 14 0 fun m13 =>
  stf m13 0 15 0 fun m14 =>
  some (r1, m14)
/-- LockOrchestra.fault(I)I -/
def cL_fault (v1 : Int) (m : xm) : xr :=
  if w32 v1 = 0 then
    bnd (cW_faultKind m) fun r3 m4 =>
    some (r3, m4)
  else
  if w32 v1 = 1 then
    bnd (cW_faultPlace m) fun r1 m2 =>
    some (r1, m2)
  else
  some ((-1), m)
/-- LockOrchestra.has(I)I -/
def cL_has_60 (v1 : Int) (m : xm) : xr :=
  bnd (cH_count (hl m 12) v1 m) fun r1 m2 =>
  some (r1, m2)
def cL_has (v1 : Int) (m : xm) : xr :=
  xsw (w32 v1) 0 [
    ( cL_has_60 v1 m),
    ( cL_has_60 v1 m),
    ( cL_has_60 v1 m),
    ( cL_has_60 v1 m),
    ( bnd (cH_rust (hl m 12) m) fun r1 m2 =>
      some (r1, m2)),
    ( bnd (cY_played m) fun r3 m4 =>
      some (r3, m4)),
    ( bnd (cY_state m) fun r5 m6 =>
      bnd (cH_jamsOf (hl m 12) r5 m6) fun r7 m8 =>
      some (r7, m8)),
    ( bnd (cY_state m) fun r9 m10 =>
      bnd (cH_openDoors (hl m 12) r9 m10) fun r11 m12 =>
      some (r11, m12)),
    ( bnd (cY_keptCount m) fun r13 m14 =>
      some (r13, m14)),
    ( bnd (cE_rows m) fun r15 m16 =>
      some (r15, m16)),
    ( bnd (cY_acts m) fun r17 m18 =>
      some (r17, m18))
    ] (
      some ((-1), m)
    )
/-- LockOrchestra.letter(III)I -/
def cL_letter (v1 : Int) (v2 : Int) (v3 : Int) (m : xm) : xr :=
  bnd (cH_isOne (hl m 12) v1 v2 m) fun r1 m2 =>
  if w32 r1 = 0 then
    some ((-1), m2)
  else
  if w32 v3 < 0 then
    some ((-1), m2)
  else
  if w32 v3 < 6 then
    bnd (cH_nameOf (hl m2 12) v1 v2 m2) fun r3 m4 =>
    some (ban (usr r3 (5 * v3)) 31, m4)
  else
  some ((-1), m2)
/-- LockOrchestra.lock(II)I -/
def cL_lock (v1 : Int) (v2 : Int) (m : xm) : xr :=
  bnd (cH_isOne (hl m 12) 0 v1 m) fun r1 m2 =>
  if w32 r1 = 0 then
    some ((-1), m2)
  else
  xsw (w32 v2) 0 [
    ( bnd (cH_wardsOf (hl m2 12) v1 m2) fun r3 m4 =>
      some (r3, m4)),
    ( bnd (cY_state m2) fun r5 m6 =>
      bnd (cH_wardOf (hl m2 12) r5 v1 m6) fun r7 m8 =>
      some (r7, m8)),
    ( bnd (cH_firstState (hl m2 12) m2) fun r9 m10 =>
      bnd (cH_wardOf (hl m2 12) r9 v1 m10) fun r11 m12 =>
      some (r11, m12)),
    ( bnd (cH_jamWardOf (hl m2 12) v1 m2) fun r13 m14 =>
      some (r13, m14)),
    ( bnd (cY_state m2) fun r15 m16 =>
      bnd (cH_isJammed (hl m2 12) r15 v1 m16) fun r17 m18 =>
      if w32 r17 = 0 then
        some (0, m18)
      else
      some (1, m18))
    ] (
      some ((-1), m2)
    )
/-- LockOrchestra.note(II)I -/
def cL_note (v1 : Int) (v2 : Int) (m : xm) : xr :=
  bnd (cH_isOne (hl m 12) 1 v1 m) fun r1 m2 =>
  if w32 r1 = 0 then
    some ((-1), m2)
  else
  if w32 v2 = 0 then
    bnd (cY_state m2) fun r9 m10 =>
    bnd (cH_canPlay (hl m2 12) r9 v1 m10) fun r11 m12 =>
    if w32 r11 = 0 then
      some (0, m12)
    else
    some (1, m12)
  else
  if w32 v2 = 1 then
    bnd (cH_playersOf (hl m2 12) v1 m2) fun r7 m8 =>
    some (r7, m8)
  else
  if w32 v2 < 10 then
    some ((-1), m2)
  else
  bnd (cH_isOne (hl m2 12) 0 (v2 - 10) m2) fun r3 m4 =>
  if w32 r3 = 0 then
    some ((-1), m4)
  else
  bnd (cH_turnOf (hl m4 12) v1 (v2 - 10) m4) fun r5 m6 =>
  some (r5, m6)
/-- LockOrchestra.door(I)I -/
def cL_door (v1 : Int) (m : xm) : xr :=
  bnd (cH_isOne (hl m 12) 2 v1 m) fun r1 m2 =>
  if w32 r1 = 0 then
    some ((-1), m2)
  else
  bnd (cY_state m2) fun r3 m4 =>
  bnd (cH_openDoors (hl m2 12) r3 m4) fun r5 m6 =>
  some (ban (shr r5 v1) 1, m6)
/-- LockOrchestra.player(I)I -/
def cL_player (v1 : Int) (m : xm) : xr :=
  bnd (cH_isOne (hl m 12) 3 v1 m) fun r1 m2 =>
  if w32 r1 = 0 then
    some ((-1), m2)
  else
  bnd (cH_notesOf (hl m2 12) v1 m2) fun r3 m4 =>
  some (r3, m4)
/-- LockOrchestra.kept(II)I -/
def cL_kept (v1 : Int) (v2 : Int) (m : xm) : xr :=
  bnd (cY_keptPart v1 v2 m) fun r1 m2 =>
  some (r1, m2)
/-- LockOrchestra.judge()I -/
def cL_judge_119 (v1 : Int) (v2 : Int) (v3 : Int) (m : xm) : xr :=
  bnd (cH_openDoors (hl m 12) v1 m) fun r1 m2 =>
  bnd (cL_setCell 44 0 r1 m2) fun r3 m4 =>
  bnd (cH_jamsOf (hl m4 12) v1 m4) fun r5 m6 =>
  bnd (cL_setCell 44 1 r5 m6) fun r7 m8 =>
  bnd (cL_setCell 44 2 v2 m8) fun r9 m10 =>
  stf m10 0 14 1 fun m11 =>
  some (v3, m11)
def cL_judge_36 : Nat → Int → Int → Int → xm → xr
  | 0, _, _, _, _ => none
  | n + 1, v1, v2, v3, m =>
    bnd (cP_length m) fun r1 m2 =>
    if w32 r1 ≤ w32 v3 then
      cL_judge_119 v1 v2 v3 m2
    else
    bnd (cP_noteAt v3 m2) fun r3 m4 =>
    bnd (cH_canPlay (hl m2 12) v1 r3 m4) fun r5 m6 =>
    if w32 r5 = 0 then
      cL_judge_119 v1 v2 v3 m6
    else
    bnd (cP_noteAt v3 m6) fun r7 m8 =>
    bnd (cH_after (hl m6 12) v1 r7 m8) fun r9 m10 =>
    bnd (cH_openDoors (hl m10 12) r9 m10) fun r11 m12 =>
    bnd (cH_openDoors (hl m12 12) v1 m12) fun r13 m14 =>
    bnd (j_bitCount (ban r11 (bxo r13 (-1))) m14) fun r15 m16 =>
    xlt (v2 + r15) fun x17 =>
    cL_judge_36 n r9 x17 (v3 + 1) m16
def cL_judge (m : xm) : xr :=
  bnd (cP_take (hl m 12) m) fun r1 m2 =>
  if w32 r1 = 0 then
    bnd (cL_refuse 1 m2) fun r5 m6 =>
    some (r5, m6)
  else
  bnd (cY_state m2) fun r3 m4 =>
  cL_judge_36 xLF r3 0 0 m4
/-- LockOrchestra.judged(I)I -/
def cL_judged (v1 : Int) (m : xm) : xr :=
  if ld m 0 14 = 0 then
    some ((-1), m)
  else
  if w32 v1 < 0 then
    some ((-1), m)
  else
  if 3 ≤ w32 v1 then
    some ((-1), m)
  else
  bnd (cL_cell 44 v1 m) fun r1 m2 =>
  some (r1, m2)
/-- LockOrchestra.shortest(II)I -/
def cL_shortest (v1 : Int) (v2 : Int) (m : xm) : xr :=
  bnd (cH_areDoors (hl m 12) v1 m) fun r1 m2 =>
  if w32 r1 = 0 then
    some ((-1), m2)
  else
  bnd (cS_seekJustDoors v1 m2) fun r3 m4 =>
  bnd (cY_state m4) fun r5 m6 =>
  bnd (cH_bitsOfAll (hl m6 12) 1 m6) fun r7 m8 =>
  bnd (cS_find (hl m4 12) r5 r7 m8) fun r9 m10 =>
  bnd (cS_wayTo r9 v2 m10) fun r11 m12 =>
  some (r11, m12)
/-- LockOrchestra.back(I)I -/
def cL_back (v1 : Int) (m : xm) : xr :=
  bnd (cH_firstState (hl m 12) m) fun r1 m2 =>
  bnd (cS_seekState r1 m2) fun r3 m4 =>
  bnd (cY_state m4) fun r5 m6 =>
  bnd (cH_bitsOfAll (hl m6 12) 1 m6) fun r7 m8 =>
  bnd (cS_find (hl m4 12) r5 r7 m8) fun r9 m10 =>
  bnd (cS_wayTo r9 v1 m10) fun r11 m12 =>
  some (r11, m12)
/-- LockOrchestra.states()I -/
def cL_states (m : xm) : xr :=
  bnd (cS_seekNothing m) fun r1 m2 =>
  bnd (cY_state m2) fun r3 m4 =>
  bnd (cH_bitsOfAll (hl m4 12) 1 m4) fun r5 m6 =>
  bnd (cS_find (hl m2 12) r3 r5 m6) fun r7 m8 =>
  bnd (cS_reached m8) fun r9 m10 =>
  some (r9, m10)
/-- LockOrchestra.setsWithout(I)J -/
def cL_setsWithout_24 (k4 : Int → Int → Int → xm → xr) (v0 : Int) (v3 : Int) (s0 : Int) (s1 : Int) (m : xm) : xr :=
  xlt (lbo s0 s1) fun x1 =>
  k4 v0 x1 (v3 + 1) m
def cL_setsWithout_4 : Nat → Int → Int → Int → xm → xr
  | 0, _, _, _, _ => none
  | n + 1, v0, v1, v3, m =>
    if 64 ≤ w32 v3 then
      some (v1, m)
    else
    if ban v3 v0 = 0 then
      cL_setsWithout_24 (fun v0 v1 v3 m => cL_setsWithout_4 n v0 v1 v3 m) v0 v3 v1 (lsl 1 v3) m
    else
    cL_setsWithout_24 (fun v0 v1 v3 m => cL_setsWithout_4 n v0 v1 v3 m) v0 v3 v1 0 m
def cL_setsWithout (v0 : Int) (m : xm) : xr :=
  cL_setsWithout_4 xLF v0 0 0 m
/-- LockOrchestra.forbid(I)I -/
def cL_forbid_151 (k55 : Int → Int → Int → xm → xr) (v2 : Int) (v3 : Int) (v5 : Int) (m : xm) : xr :=
  k55 v2 v3 (v5 + 1) m
def cL_forbid_145 (k55 : Int → Int → Int → xm → xr) (k65 : Int → Int → Int → Int → xm → xr) (v2 : Int) (v3 : Int) (v5 : Int) (v6 : Int) (m : xm) : xr :=
  k65 v2 v3 v5 (v6 + 1) m
def cL_forbid_65 (k55 : Int → Int → Int → xm → xr) : Nat → Int → Int → Int → Int → xm → xr
  | 0, _, _, _, _, _ => none
  | n + 1, v2, v3, v5, v6, m =>
    if w32 v2 < w32 v6 then
      cL_forbid_151 k55 v2 v3 v5 m
    else
    bnd (j_bitCount v6 m) fun r1 m2 =>
    if w32 r1 = w32 v5 then
      if lan (lsr v3 v6) 1 = 1 then
        cL_forbid_145 k55 (fun v2 v3 v5 v6 m => cL_forbid_65 k55 n v2 v3 v5 v6 m) v2 v3 v5 v6 m2
      else
      bnd (cY_state m2) fun r3 m4 =>
      bnd (cS_find (hl m2 12) r3 (ban v2 (bxo v6 (-1))) m4) fun r5 m6 =>
      if w32 r5 = (-1) then
        some (v6, m6)
      else
      bnd (cS_notesTo r5 m6) fun r7 m8 =>
      bnd (cL_setsWithout r7 m8) fun r9 m10 =>
      xlt (lbo v3 r9) fun x11 =>
      cL_forbid_145 k55 (fun v2 v3 v5 v6 m => cL_forbid_65 k55 n v2 v3 v5 v6 m) v2 x11 v5 v6 m10
    else
    cL_forbid_145 k55 (fun v2 v3 v5 v6 m => cL_forbid_65 k55 n v2 v3 v5 v6 m) v2 v3 v5 v6 m2
def cL_forbid_55 : Nat → Int → Int → Int → xm → xr
  | 0, _, _, _, _ => none
  | n + 1, v2, v3, v5, m =>
    if 6 < w32 v5 then
      some ((-1), m)
    else
    cL_forbid_65 (fun v2 v3 v5 m => cL_forbid_55 n v2 v3 v5 m) xLF v2 v3 v5 0 m
def cL_forbid (v1 : Int) (m : xm) : xr :=
  bnd (cH_areDoors (hl m 12) v1 m) fun r1 m2 =>
  if w32 r1 = 0 then
    some ((-1), m2)
  else
  bnd (cY_state m2) fun r3 m4 =>
  bnd (cH_openDoors (hl m2 12) r3 m4) fun r5 m6 =>
  if ban r5 v1 = w32 v1 then
    some ((-1), m6)
  else
  bnd (cH_bitsOfAll (hl m6 12) 1 m6) fun r7 m8 =>
  bnd (cS_seekDoors v1 m8) fun r9 m10 =>
  cL_forbid_55 xLF r7 0 0 m10
/-- LockOrchestra.share()I -/
def cL_share_78 (k35 : Int → Int → xm → xr) (v1 : Int) (v2 : Int) (m : xm) : xr :=
  k35 v1 (v2 + 1) m
def cL_share_72 (k35 : Int → Int → xm → xr) (k42 : Int → Int → Int → xm → xr) (v1 : Int) (v2 : Int) (v3 : Int) (m : xm) : xr :=
  k42 v1 v2 (v3 + 1) m
def cL_share_42 (k35 : Int → Int → xm → xr) : Nat → Int → Int → Int → xm → xr
  | 0, _, _, _, _ => none
  | n + 1, v1, v2, v3, m =>
    if w32 v1 < w32 v3 then
      cL_share_78 k35 v1 v2 m
    else
    bnd (j_bitCount v3 m) fun r1 m2 =>
    if w32 r1 = w32 v2 then
      bnd (cP_canBeShared (hl m2 12) v3 m2) fun r3 m4 =>
      if w32 r3 = 0 then
        cL_share_72 k35 (fun v1 v2 v3 m => cL_share_42 k35 n v1 v2 v3 m) v1 v2 v3 m4
      else
      some (v3, m4)
    else
    cL_share_72 k35 (fun v1 v2 v3 m => cL_share_42 k35 n v1 v2 v3 m) v1 v2 v3 m2
def cL_share_35 : Nat → Int → Int → xm → xr
  | 0, _, _, _ => none
  | n + 1, v1, v2, m =>
    if 5 < w32 v2 then
      some ((-1), m)
    else
    cL_share_42 (fun v1 v2 m => cL_share_35 n v1 v2 m) xLF v1 v2 0 m
def cL_share (m : xm) : xr :=
  bnd (cP_take (hl m 12) m) fun r1 m2 =>
  if w32 r1 = 0 then
    bnd (cL_refuse 1 m2) fun r5 m6 =>
    some (r5, m6)
  else
  bnd (cH_bitsOfAll (hl m2 12) 3 m2) fun r3 m4 =>
  cL_share_35 xLF r3 0 m4
/-- LockOrchestra.endsWith(III)Z -/
def cL_endsWith (v1 : Int) (v2 : Int) (v3 : Int) (m : xm) : xr :=
  bnd (cY_state m) fun r1 m2 =>
  bnd (cP_endOf (hl m 12) r1 v1 v2 m2) fun r3 m4 =>
  if w32 r3 = (-1) then
    some (0, m4)
  else
  bnd (cH_openDoors (hl m4 12) r3 m4) fun r5 m6 =>
  if w32 r5 = w32 v3 then
    some (1, m6)
  else
  some (0, m6)
/-- LockOrchestra.keepFirstSlip(II)V -/
def cL_keepFirstSlip (v1 : Int) (v2 : Int) (m : xm) : xr :=
  if ld m 0 15 = 0 then
    bnd (cL_setCell 45 0 v1 m) fun r1 m2 =>
    bnd (cL_setCell 45 1 v2 m2) fun r3 m4 =>
    stf m4 0 15 1 fun m5 =>
    some (0, m5)
  else
  some (0, m)
/-- LockOrchestra.slip(I)I -/
def cL_slip_29 (m : xm) : xr :=
  bnd (cL_refuse 1 m) fun r1 m2 =>
  some (r1, m2)
def cL_slip_105 (k44 : Int → Int → Int → xm → xr) (v1 : Int) (v2 : Int) (v3 : Int) (m : xm) : xr :=
  k44 v1 v2 (v3 + 1) m
def cL_slip_99 (k44 : Int → Int → Int → xm → xr) (k58 : Int → Int → Int → Int → xm → xr) (v1 : Int) (v2 : Int) (v3 : Int) (v4 : Int) (m : xm) : xr :=
  k58 v1 v2 v3 (v4 + 1) m
def cL_slip_58 (k44 : Int → Int → Int → xm → xr) : Nat → Int → Int → Int → Int → xm → xr
  | 0, _, _, _, _, _ => none
  | n + 1, v1, v2, v3, v4, m =>
    if 6 < w32 v4 then
      cL_slip_105 k44 v1 v2 v3 m
    else
    bnd (cP_noteAt v3 m) fun r1 m2 =>
    if w32 v4 = w32 r1 then
      cL_slip_99 k44 (fun v1 v2 v3 v4 m => cL_slip_58 k44 n v1 v2 v3 v4 m) v1 v2 v3 v4 m2
    else
    bnd (cL_endsWith v3 v4 v1 m2) fun r3 m4 =>
    if w32 r3 = 0 then
      cL_slip_99 k44 (fun v1 v2 v3 v4 m => cL_slip_58 k44 n v1 v2 v3 v4 m) v1 v2 v3 v4 m4
    else
    bnd (cL_keepFirstSlip v3 v4 m4) fun r5 m6 =>
    cL_slip_99 k44 (fun v1 v2 v3 v4 m => cL_slip_58 k44 n v1 v2 v3 v4 m) v1 (v2 + 1) v3 v4 m6
def cL_slip_44 : Nat → Int → Int → Int → xm → xr
  | 0, _, _, _, _ => none
  | n + 1, v1, v2, v3, m =>
    bnd (cP_length m) fun r1 m2 =>
    if w32 r1 ≤ w32 v3 then
      some (v2, m2)
    else
    cL_slip_58 (fun v1 v2 v3 m => cL_slip_44 n v1 v2 v3 m) xLF v1 v2 v3 0 m2
def cL_slip (v1 : Int) (m : xm) : xr :=
  bnd (cP_take (hl m 12) m) fun r1 m2 =>
  if w32 r1 = 0 then
    cL_slip_29 m2
  else
  bnd (cH_areDoors (hl m2 12) v1 m2) fun r3 m4 =>
  if w32 r3 = 0 then
    cL_slip_29 m4
  else
  stf m4 0 15 0 fun m5 =>
  cL_slip_44 xLF v1 0 0 m5
/-- LockOrchestra.slipped(I)I -/
def cL_slipped (v1 : Int) (m : xm) : xr :=
  if ld m 0 15 = 0 then
    some ((-1), m)
  else
  if w32 v1 < 0 then
    some ((-1), m)
  else
  if 2 ≤ w32 v1 then
    some ((-1), m)
  else
  bnd (cL_cell 45 v1 m) fun r1 m2 =>
  some (r1, m2)
/-- LockOrchestra.hear()I -/
def cL_hear (m : xm) : xr :=
  bnd (cE_take (hl m 12) m) fun r1 m2 =>
  if w32 r1 = 0 then
    bnd (cL_refuse 1 m2) fun r3 m4 =>
    some (r3, m4)
  else
  bnd (cE_rows m2) fun r5 m6 =>
  some (r5, m6)
/-- LockOrchestra.starts(I)I -/
def cL_starts_92 (v1 : Int) (v2 : Int) (v3 : Int) (v4 : Int) (m : xm) : xr :=
  if w32 v1 = 0 then
    some (v2, m)
  else
  if w32 v1 = 1 then
    some (v3, m)
  else
  some (v4, m)
def cL_starts_86 (k31 : Int → Int → Int → Int → Int → xm → xr) (v1 : Int) (v2 : Int) (v3 : Int) (v4 : Int) (v5 : Int) (m : xm) : xr :=
  k31 v1 v2 v3 v4 (v5 + 1) m
def cL_starts_81 (k31 : Int → Int → Int → Int → Int → xm → xr) (v1 : Int) (v2 : Int) (v5 : Int) (s0 : Int) (m : xm) : xr :=
  xlt s0 fun x1 =>
  cL_starts_86 k31 v1 v2 x1 v5 v5 m
def cL_starts_31 : Nat → Int → Int → Int → Int → Int → xm → xr
  | 0, _, _, _, _, _, _ => none
  | n + 1, v1, v2, v3, v4, v5, m =>
    bnd (cH_ways (hl m 12) m) fun r1 m2 =>
    if w32 r1 ≤ w32 v5 then
      cL_starts_92 v1 v2 v3 v4 m2
    else
    if 10000 ≤ w32 v5 then
      cL_starts_92 v1 v2 v3 v4 m2
    else
    bnd (cE_fits (hl m2 12) v5 m2) fun r3 m4 =>
    if w32 r3 = 0 then
      cL_starts_86 (fun v1 v2 v3 v4 v5 m => cL_starts_31 n v1 v2 v3 v4 v5 m) v1 v2 v3 v4 v5 m4
    else
    if w32 v3 = (-1) then
      cL_starts_81 (fun v1 v2 v3 v4 v5 m => cL_starts_31 n v1 v2 v3 v4 v5 m) v1 (v2 + 1) v5 v5 m4
    else
    cL_starts_81 (fun v1 v2 v3 v4 v5 m => cL_starts_31 n v1 v2 v3 v4 v5 m) v1 (v2 + 1) v5 v3 m4
def cL_starts (v1 : Int) (m : xm) : xr :=
  bnd (cE_rows m) fun r1 m2 =>
  if w32 r1 = 0 then
    some ((-1), m2)
  else
  if w32 v1 < 0 then
    some ((-1), m2)
  else
  if w32 v1 ≤ 2 then
    cL_starts_31 xLF v1 0 (-1) (-1) 0 m2
  else
  some ((-1), m2)
/-- LockOrchestra.hangs(I)I -/
def cL_hangs_110 (k27 : Int → Int → Int → Int → xm → xr) (v1 : Int) (v2 : Int) (v3 : Int) (v4 : Int) (m : xm) : xr :=
  k27 v1 v2 v3 (v4 + 1) m
def cL_hangs_104 (k27 : Int → Int → Int → Int → xm → xr) (k43 : Int → Int → Int → Int → Int → xm → xr) (v1 : Int) (v2 : Int) (v3 : Int) (v4 : Int) (v5 : Int) (m : xm) : xr :=
  k43 v1 v2 v3 v4 (v5 + 1) m
def cL_hangs_43 (k27 : Int → Int → Int → Int → xm → xr) : Nat → Int → Int → Int → Int → Int → xm → xr
  | 0, _, _, _, _, _, _ => none
  | n + 1, v1, v2, v3, v4, v5, m =>
    bnd (cH_wardsOf (hl m 12) v4 m) fun r1 m2 =>
    if w32 r1 ≤ w32 v5 then
      cL_hangs_110 k27 v1 v2 v3 v4 m2
    else
    bnd (cH_withWard (hl m2 12) v3 v4 v5 m2) fun r3 m4 =>
    bnd (cH_openDoors (hl m2 12) r3 m4) fun r5 m6 =>
    bnd (cH_openDoors (hl m6 12) v3 m6) fun r7 m8 =>
    if ban (shr (bxo r5 r7) v1) 1 = 1 then
      xlt (bor v2 (shl 1 v4)) fun x9 =>
      cL_hangs_104 k27 (fun v1 v2 v3 v4 v5 m => cL_hangs_43 k27 n v1 v2 v3 v4 v5 m) v1 x9 v3 v4 v5 m8
    else
    cL_hangs_104 k27 (fun v1 v2 v3 v4 v5 m => cL_hangs_43 k27 n v1 v2 v3 v4 v5 m) v1 v2 v3 v4 v5 m8
def cL_hangs_27 : Nat → Int → Int → Int → Int → xm → xr
  | 0, _, _, _, _, _ => none
  | n + 1, v1, v2, v3, v4, m =>
    bnd (cH_count (hl m 12) 0 m) fun r1 m2 =>
    if w32 r1 ≤ w32 v4 then
      some (v2, m2)
    else
    cL_hangs_43 (fun v1 v2 v3 v4 m => cL_hangs_27 n v1 v2 v3 v4 m) xLF v1 v2 v3 v4 0 m2
def cL_hangs (v1 : Int) (m : xm) : xr :=
  bnd (cH_isOne (hl m 12) 2 v1 m) fun r1 m2 =>
  if w32 r1 = 0 then
    some ((-1), m2)
  else
  bnd (cY_state m2) fun r3 m4 =>
  cL_hangs_27 xLF v1 0 r3 0 m4
/-- LockOrchestra.playOne(I)V -/
def cL_playOne (v1 : Int) (m : xm) : xr :=
  bnd (cY_state m) fun r1 m2 =>
  bnd (cH_after (hl m2 12) r1 v1 m2) fun r3 m4 =>
  bnd (cY_goTo r3 m4) fun r5 m6 =>
  bnd (cY_countPlayed m6) fun r7 m8 =>
  bnd (cH_openDoors (hl m8 12) r1 m8) fun r9 m10 =>
  bnd (cY_state m10) fun r11 m12 =>
  bnd (cH_openDoors (hl m10 12) r11 m12) fun r13 m14 =>
  bnd (cY_keepDoors r9 r13 m14) fun r15 m16 =>
  some (0, m16)
/-- LockOrchestra.play(I)I -/
def cL_play (v1 : Int) (m : xm) : xr :=
  bnd (cY_state m) fun r1 m2 =>
  bnd (cH_canPlay (hl m 12) r1 v1 m2) fun r3 m4 =>
  if w32 r3 = 0 then
    bnd (cL_refuse 2 m4) fun r13 m14 =>
    some (r13, m14)
  else
  bnd (cY_beginAct m4) fun r5 m6 =>
  bnd (cL_playOne v1 m6) fun r7 m8 =>
  bnd (cY_state m8) fun r9 m10 =>
  bnd (cH_openDoors (hl m8 12) r9 m10) fun r11 m12 =>
  some (r11, m12)
/-- LockOrchestra.piece()I -/
def cL_piece_28 (m : xm) : xr :=
  bnd (cL_refuse 2 m) fun r1 m2 =>
  some (r1, m2)
def cL_piece_43 : Nat → Int → xm → xr
  | 0, _, _ => none
  | n + 1, v1, m =>
    bnd (cP_length m) fun r1 m2 =>
    if w32 r1 ≤ w32 v1 then
      some (v1, m2)
    else
    bnd (cY_state m2) fun r3 m4 =>
    bnd (cP_noteAt v1 m4) fun r5 m6 =>
    bnd (cH_canPlay (hl m2 12) r3 r5 m6) fun r7 m8 =>
    if w32 r7 = 0 then
      some (v1, m8)
    else
    bnd (cP_noteAt v1 m8) fun r9 m10 =>
    bnd (cL_playOne r9 m10) fun r11 m12 =>
    cL_piece_43 n (v1 + 1) m12
def cL_piece (m : xm) : xr :=
  bnd (cP_take (hl m 12) m) fun r1 m2 =>
  if w32 r1 = 0 then
    cL_piece_28 m2
  else
  bnd (cP_length m2) fun r3 m4 =>
  if w32 r3 = 0 then
    cL_piece_28 m4
  else
  bnd (cY_beginAct m4) fun r5 m6 =>
  cL_piece_43 xLF 0 m6
/-- LockOrchestra.oil(I)Z -/
def cL_oil_32 (m : xm) : xr :=
  bnd (cL_refuse 3 m) fun r1 m2 =>
  some (0, m2)
def cL_oil (v1 : Int) (m : xm) : xr :=
  bnd (cY_state m) fun r1 m2 =>
  bnd (cH_isOne (hl m2 12) 0 v1 m2) fun r3 m4 =>
  if w32 r3 = 0 then
    cL_oil_32 m4
  else
  bnd (cH_isJammed (hl m4 12) r1 v1 m4) fun r5 m6 =>
  if w32 r5 = 0 then
    cL_oil_32 m6
  else
  bnd (cY_beginAct m6) fun r7 m8 =>
  bnd (cH_withoutJam (hl m8 12) r1 v1 m8) fun r9 m10 =>
  bnd (cY_goTo r9 m10) fun r11 m12 =>
  bnd (cH_openDoors (hl m12 12) r1 m12) fun r13 m14 =>
  bnd (cY_state m14) fun r15 m16 =>
  bnd (cH_openDoors (hl m14 12) r15 m16) fun r17 m18 =>
  bnd (cY_keepDoors r13 r17 m18) fun r19 m20 =>
  some (1, m20)
/-- LockOrchestra.draw(I)I -/
def cL_draw (v1 : Int) (m : xm) : xr :=
  stf m 0 17 (lrm ((1103515245 * (ldl m 0 17)) + 12345) 2147483648) fun m1 =>
  if w32 v1 ≤ 0 then
    some (0, m1)
  else
  if w32 v1 = 0 then none else
  some (lrm (ldv (ldl m1 0 17) 64) (w32 v1), m1)
/-- LockOrchestra.evening(I)I -/
def cL_evening_22 (m : xm) : xr :=
  bnd (cL_refuse 3 m) fun r1 m2 =>
  some (r1, m2)
def cL_evening_144 (k39 : Int → Int → Int → xm → xr) (v1 : Int) (v2 : Int) (v3 : Int) (m : xm) : xr :=
  k39 v1 v2 (v3 + 1) m
def cL_evening_95 (k39 : Int → Int → Int → xm → xr) (v1 : Int) (v2 : Int) (v3 : Int) (m : xm) : xr :=
  bnd (cL_draw 100 m) fun r1 m2 =>
  bnd (cH_rust (hl m2 12) m2) fun r3 m4 =>
  if w32 r3 ≤ w32 r1 then
    cL_evening_144 k39 v1 v2 v3 m4
  else
  bnd (cY_state m4) fun r5 m6 =>
  bnd (cH_count (hl m6 12) 0 m6) fun r7 m8 =>
  bnd (cL_draw r7 m8) fun r9 m10 =>
  bnd (cH_withJam (hl m4 12) r5 r9 m10) fun r11 m12 =>
  bnd (cY_goTo r11 m12) fun r13 m14 =>
  cL_evening_144 k39 v1 v2 v3 m14
def cL_evening_39 : Nat → Int → Int → Int → xm → xr
  | 0, _, _, _, _ => none
  | n + 1, v1, v2, v3, m =>
    if w32 v1 ≤ w32 v3 then
      some (v2, m)
    else
    bnd (cH_count (hl m 12) 1 m) fun r1 m2 =>
    bnd (cL_draw r1 m2) fun r3 m4 =>
    bnd (cY_state m4) fun r5 m6 =>
    bnd (cH_canPlay (hl m4 12) r5 r3 m6) fun r7 m8 =>
    if w32 r7 = 0 then
      bnd (cL_playOne 6 m8) fun r9 m10 =>
      cL_evening_95 (fun v1 v2 v3 m => cL_evening_39 n v1 v2 v3 m) v1 v2 v3 m10
    else
    bnd (cL_playOne r3 m8) fun r11 m12 =>
    cL_evening_95 (fun v1 v2 v3 m => cL_evening_39 n v1 v2 v3 m) v1 (v2 + 1) v3 m12
def cL_evening (v1 : Int) (m : xm) : xr :=
  if w32 v1 < 1 then
    cL_evening_22 m
  else
  if 50 < w32 v1 then
    cL_evening_22 m
  else
  bnd (cH_count (hl m 12) 1 m) fun r1 m2 =>
  if w32 r1 = 0 then
    cL_evening_22 m2
  else
  bnd (cY_beginAct m2) fun r3 m4 =>
  cL_evening_39 xLF v1 0 0 m4
/-- LockOrchestra.undo()Z -/
def cL_undo (m : xm) : xr :=
  bnd (cY_undoAct m) fun r1 m2 =>
  if w32 r1 = 0 then
    bnd (cL_refuse 4 m2) fun r3 m4 =>
    some (0, m4)
  else
  some (1, m2)
/-- LockOrchestra.seed(I)Z -/
def cL_seed (v1 : Int) (m : xm) : xr :=
  if 0 ≤ w32 v1 then
    stf m 0 17 (w32 v1) fun m1 =>
    some (1, m1)
  else
  bnd (cL_refuse 5 m) fun r2 m3 =>
  some (0, m3)
/-- LockOrchestra.ask()J -/
def cL_ask (m : xm) : xr :=
  bnd (cQ_read m) fun r1 m2 =>
  bnd (cT_cut 0 m2) fun r3 m4 =>
  if w32 r1 = 0 then
    some ((-1000000000000000), m4)
  else
  bnd (cY_state m4) fun r5 m6 =>
  bnd (cQ_answer (hl m4 12) r5 m6) fun r7 m8 =>
  some (r7, m8)
/-- LockOrchestra.nextCheck(II)I -/
def cL_nextCheck (v0 : Int) (v1 : Int) (m : xm) : xr :=
  some (irm ((3 * v0) + v1) 251, m)
/-- LockOrchestra.image()I -/
def cL_image_155 (v1 : Int) (v2 : Int) (m : xm) : xr :=
  bnd (cL_setCell 46 v1 v2 m) fun r1 m2 =>
  stf m2 0 16 (v1 + 1) fun m3 =>
  some (v1 + 1, m3)
def cL_image_131 : Nat → Int → Int → Int → xm → xr
  | 0, _, _, _, _ => none
  | n + 1, v1, v2, v3, m =>
    if w32 v1 ≤ w32 v3 then
      cL_image_155 v1 v2 m
    else
    bnd (cL_cell 46 v3 m) fun r1 m2 =>
    bnd (cL_nextCheck v2 r1 m2) fun r3 m4 =>
    cL_image_131 n v1 r3 (v3 + 1) m4
def cL_image_126 (v1 : Int) (m : xm) : xr :=
  cL_image_131 xLF v1 11 0 m
def cL_image_117 (k48 : Int → Int → xm → xr) (v1 : Int) (v2 : Int) (s1 : Int) (s2 : Int) (m : xm) : xr :=
  bnd (cL_setCell 46 s1 s2 m) fun r1 m2 =>
  k48 v1 (v2 + 1) m2
def cL_image_48 : Nat → Int → Int → xm → xr
  | 0, _, _, _ => none
  | n + 1, v1, v2, m =>
    bnd (cH_count (hl m 12) 0 m) fun r1 m2 =>
    if w32 r1 ≤ w32 v2 then
      cL_image_126 v1 m2
    else
    bnd (cY_state m2) fun r3 m4 =>
    bnd (cH_wardOf (hl m2 12) r3 v2 m4) fun r5 m6 =>
    bnd (cL_setCell 46 v1 r5 m6) fun r7 m8 =>
    bnd (cY_state m8) fun r9 m10 =>
    bnd (cH_isJammed (hl m8 12) r9 v2 m10) fun r11 m12 =>
    if w32 r11 = 0 then
      cL_image_117 (fun v1 v2 m => cL_image_48 n v1 v2 m) ((v1 + 1) + 1) v2 (v1 + 1) 0 m12
    else
    cL_image_117 (fun v1 v2 m => cL_image_48 n v1 v2 m) ((v1 + 1) + 1) v2 (v1 + 1) 1 m12
def cL_image (m : xm) : xr :=
  bnd (cY_played m) fun r1 m2 =>
  bnd (cL_setCell 46 0 (idv r1 256) m2) fun r3 m4 =>
  bnd (cY_played m4) fun r5 m6 =>
  bnd (cL_setCell 46 (0 + 1) (irm r5 256) m6) fun r7 m8 =>
  cL_image_48 xLF ((0 + 1) + 1) 0 m8
/-- LockOrchestra.octet(I)I -/
def cL_octet (v1 : Int) (m : xm) : xr :=
  if w32 v1 < 0 then
    some ((-1), m)
  else
  if ld m 0 16 ≤ w32 v1 then
    some ((-1), m)
  else
  bnd (cL_cell 46 v1 m) fun r1 m2 =>
  some (r1, m2)
/-- LockOrchestra.imagedState()I -/
def cL_imagedState_182 (k84 : Int → Int → xm → xr) (v4 : Int) (s0 : Int) (m : xm) : xr :=
  xlt s0 fun x1 =>
  k84 x1 (v4 + 1) m
def cL_imagedState_84 : Nat → Int → Int → xm → xr
  | 0, _, _, _ => none
  | n + 1, v3, v4, m =>
    bnd (cH_count (hl m 12) 0 m) fun r1 m2 =>
    if w32 r1 ≤ w32 v4 then
      some (v3, m2)
    else
    bnd (cT_byteAt (2 + (2 * v4)) m2) fun r3 m4 =>
    bnd (cT_byteAt (3 + (2 * v4)) m4) fun r5 m6 =>
    bnd (cH_wardsOf (hl m6 12) v4 m6) fun r7 m8 =>
    if w32 r7 ≤ w32 r3 then
      some ((-1), m8)
    else
    if w32 r5 ≤ 1 then
      bnd (cH_withWard (hl m8 12) v3 v4 r3 m8) fun r9 m10 =>
      if w32 r5 = 1 then
        bnd (cH_withJam (hl m10 12) r9 v4 m10) fun r11 m12 =>
        cL_imagedState_182 (fun v3 v4 m => cL_imagedState_84 n v3 v4 m) v4 r11 m12
      else
      cL_imagedState_182 (fun v3 v4 m => cL_imagedState_84 n v3 v4 m) v4 r9 m10
    else
    some ((-1), m8)
def cL_imagedState_57 (v1 : Int) (v2 : Int) (m : xm) : xr :=
  bnd (cT_byteAt (v1 - 1) m) fun r1 m2 =>
  if w32 v2 = w32 r1 then
    bnd (cH_firstState (hl m2 12) m2) fun r3 m4 =>
    cL_imagedState_84 xLF r3 0 m4
  else
  some ((-1), m2)
def cL_imagedState_31 : Nat → Int → Int → Int → xm → xr
  | 0, _, _, _, _ => none
  | n + 1, v1, v2, v3, m =>
    if w32 (v1 - 1) ≤ w32 v3 then
      cL_imagedState_57 v1 v2 m
    else
    bnd (cT_byteAt v3 m) fun r1 m2 =>
    bnd (cL_nextCheck v2 r1 m2) fun r3 m4 =>
    cL_imagedState_31 n v1 r3 (v3 + 1) m4
def cL_imagedState (m : xm) : xr :=
  bnd (cH_count (hl m 12) 0 m) fun r1 m2 =>
  xlt (3 + (2 * r1)) fun x3 =>
  bnd (cT_length m2) fun r4 m5 =>
  if w32 r4 = w32 x3 then
    cL_imagedState_31 xLF x3 11 0 m5
  else
  some ((-1), m5)
/-- LockOrchestra.on()Z -/
def cL_on_47 (m : xm) : xr :=
  bnd (cL_refuse 5 m) fun r1 m2 =>
  some (0, m2)
def cL_on (m : xm) : xr :=
  bnd (cL_imagedState m) fun r1 m2 =>
  bnd (cT_byteAt 0 m2) fun r3 m4 =>
  bnd (cT_byteAt 1 m4) fun r5 m6 =>
  xlt ((256 * r3) + r5) fun x7 =>
  bnd (cT_cut 0 m6) fun r8 m9 =>
  if w32 r1 = (-1) then
    cL_on_47 m9
  else
  if w32 x7 ≤ 9999 then
    bnd (cY_start r1 x7 m9) fun r10 m11 =>
    some (1, m11)
  else
  cL_on_47 m9
/-- LockOrchestra.status(I)I -/
def cL_status (v1 : Int) (m : xm) : xr :=
  if w32 v1 < 0 then
    some ((-1), m)
  else
  if 6 ≤ w32 v1 then
    some ((-1), m)
  else
  bnd (cL_cell 47 v1 m) fun r1 m2 =>
  some (r1, m2)
/-- LockOrchestraModel.feed(IIIII)I -/
def r_feed_124 (m : xm) : xr :=
  some (ld m 78 1, m)
def r_feed_81 (k28 : Int → Int → Int → Int → Int → Int → xm → xr) (v1 : Int) (v2 : Int) (v3 : Int) (v4 : Int) (v5 : Int) (v6 : Int) (s0 : Int) (m : xm) : xr :=
  xlt s0 fun x1 =>
  ias m 79 (ld m 78 1) (ban (shr x1 (8 * (3 - (irm v6 4)))) 255) fun m2 =>
  stf m2 78 1 ((ld m2 78 1) + 1) fun m3 =>
  k28 v1 v2 v3 v4 v5 (v6 + 1) m3
def r_feed_28 : Nat → Int → Int → Int → Int → Int → Int → xm → xr
  | 0, _, _, _, _, _, _, _ => none
  | n + 1, v1, v2, v3, v4, v5, v6, m =>
    if 20 ≤ w32 v6 then
      r_feed_124 m
    else
    if 4 ≤ w32 v6 then
      if 8 ≤ w32 v6 then
        if 12 ≤ w32 v6 then
          if 16 ≤ w32 v6 then
            r_feed_81 (fun v1 v2 v3 v4 v5 v6 m => r_feed_28 n v1 v2 v3 v4 v5 v6 m) v1 v2 v3 v4 v5 v6 v5 m
          else
          r_feed_81 (fun v1 v2 v3 v4 v5 v6 m => r_feed_28 n v1 v2 v3 v4 v5 v6 m) v1 v2 v3 v4 v5 v6 v4 m
        else
        r_feed_81 (fun v1 v2 v3 v4 v5 v6 m => r_feed_28 n v1 v2 v3 v4 v5 v6 m) v1 v2 v3 v4 v5 v6 v3 m
      else
      r_feed_81 (fun v1 v2 v3 v4 v5 v6 m => r_feed_28 n v1 v2 v3 v4 v5 v6 m) v1 v2 v3 v4 v5 v6 v2 m
    else
    r_feed_81 (fun v1 v2 v3 v4 v5 v6 m => r_feed_28 n v1 v2 v3 v4 v5 v6 m) v1 v2 v3 v4 v5 v6 v1 m
def r_feed (v1 : Int) (v2 : Int) (v3 : Int) (v4 : Int) (v5 : Int) (m : xm) : xr :=
  if w32 ((ld m 78 1) + 20) ≤ 1600 then
    r_feed_28 xLF v1 v2 v3 v4 v5 0 m
  else
  ial m 80 0 fun x1 =>
  ias m 80 0 (x1 + 1) fun m2 =>
  some ((-1), m2)
/-- LockOrchestraModel.end(I)Z -/
def r_end_12 (m : xm) : xr :=
  ial m 80 0 fun x1 =>
  ias m 80 0 (x1 + 1) fun m2 =>
  some (0, m2)
def r_end (v1 : Int) (m : xm) : xr :=
  if w32 v1 < 0 then
    r_end_12 m
  else
  if w32 v1 ≤ ld m 78 1 then
    stf m 78 1 v1 fun m1 =>
    some (1, m1)
  else
  r_end_12 m
/-- LockOrchestraModel.stands()V -/
def r_stands_286 (m : xm) : xr :=
  stf m 78 61 0 fun m1 =>
  stf m1 78 58 0 fun m2 =>
  stf m2 78 47 0 fun m3 =>
  stf m3 78 56 (-1) fun m4 =>
  stf m4 78 57 (-1) fun m5 =>
  some (0, m5)
def r_stands_252 : Nat → Int → xm → xr
  | 0, _, _ => none
  | n + 1, v1, m =>
    ial m 101 0 fun x1 =>
    if w32 x1 ≤ w32 v1 then
      r_stands_286 m
    else
    ial m 103 ((3 * v1) + 1) fun x2 =>
    ias m 110 (1 + v1) x2 fun m3 =>
    r_stands_252 n (v1 + 1) m3
def r_stands_250 (m : xm) : xr :=
  r_stands_252 xLF 0 m
def r_stands_231 : Nat → Int → xm → xr
  | 0, _, _ => none
  | n + 1, v1, m =>
    if 127 ≤ w32 v1 then
      r_stands_250 m
    else
    ias m 110 v1 0 fun m1 =>
    r_stands_231 n (v1 + 1) m1
def r_stands_229 (m : xm) : xr :=
  r_stands_231 xLF 0 m
def r_stands_199 : Nat → Int → xm → xr
  | 0, _, _ => none
  | n + 1, v1, m =>
    if ld m 78 40 ≤ w32 v1 then
      r_stands_229 m
    else
    ial m 109 v1 fun x1 =>
    ias m 109 (1600 + v1) x1 fun m2 =>
    r_stands_199 n (v1 + 1) m2
def r_stands_197 (m : xm) : xr :=
  r_stands_199 xLF 0 m
def r_stands_155 : Nat → Int → xm → xr
  | 0, _, _ => none
  | n + 1, v1, m =>
    if 6 ≤ w32 v1 then
      r_stands_197 m
    else
    ial m 107 v1 fun x1 =>
    ias m 107 (6 + v1) x1 fun m2 =>
    ial m2 108 v1 fun x3 =>
    ias m2 108 (6 + v1) x3 fun m4 =>
    r_stands_155 n (v1 + 1) m4
def r_stands_141 (m : xm) : xr :=
  ial m 106 0 fun x1 =>
  ias m 106 1 x1 fun m2 =>
  r_stands_155 xLF 0 m2
def r_stands_116 : Nat → Int → xm → xr
  | 0, _, _ => none
  | n + 1, v1, m =>
    if 5 ≤ w32 v1 then
      r_stands_141 m
    else
    ial m 105 v1 fun x1 =>
    ias m 105 (5 + v1) x1 fun m2 =>
    r_stands_116 n (v1 + 1) m2
def r_stands_114 (m : xm) : xr :=
  r_stands_116 xLF 0 m
def r_stands_87 : Nat → Int → xm → xr
  | 0, _, _ => none
  | n + 1, v1, m =>
    if 24 ≤ w32 v1 then
      r_stands_114 m
    else
    ial m 104 v1 fun x1 =>
    ias m 104 (24 + v1) x1 fun m2 =>
    r_stands_87 n (v1 + 1) m2
def r_stands_85 (m : xm) : xr :=
  r_stands_87 xLF 0 m
def r_stands_58 : Nat → Int → xm → xr
  | 0, _, _ => none
  | n + 1, v1, m =>
    if 12 ≤ w32 v1 then
      r_stands_85 m
    else
    ial m 103 v1 fun x1 =>
    ias m 103 (12 + v1) x1 fun m2 =>
    r_stands_58 n (v1 + 1) m2
def r_stands_56 (m : xm) : xr :=
  r_stands_58 xLF 0 m
def r_stands_29 : Nat → Int → xm → xr
  | 0, _, _ => none
  | n + 1, v1, m =>
    if 24 ≤ w32 v1 then
      r_stands_56 m
    else
    lal m 102 v1 fun x1 =>
    ias m 102 (24 + v1) x1 fun m2 =>
    r_stands_29 n (v1 + 1) m2
def r_stands_27 (m : xm) : xr :=
  r_stands_29 xLF 0 m
def r_stands_2 : Nat → Int → xm → xr
  | 0, _, _ => none
  | n + 1, v1, m =>
    if 4 ≤ w32 v1 then
      r_stands_27 m
    else
    ial m 101 v1 fun x1 =>
    ias m 101 (4 + v1) x1 fun m2 =>
    r_stands_2 n (v1 + 1) m2
def r_stands (m : xm) : xr :=
  r_stands_2 xLF 0 m
/-- LockOrchestraModel.look()I -/
def r_look_52 (m : xm) : xr :=
  if ld m 78 3 ≤ ld m 78 2 then
    some ((-1), m)
  else
  ial m 79 (ld m 78 2) fun x1 =>
  some (x1, m)
def r_look_39 (k0 : xm → xr) (m : xm) : xr :=
  stf m 78 2 ((ld m 78 2) + 1) fun m1 =>
  k0 m1
def r_look_0 : Nat → xm → xr
  | 0, _ => none
  | n + 1, m =>
    if ld m 78 3 ≤ ld m 78 2 then
      r_look_52 m
    else
    ial m 79 (ld m 78 2) fun x1 =>
    if w32 x1 = 10 then
      r_look_39 (fun m => r_look_0 n m) m
    else
    ial m 79 (ld m 78 2) fun x2 =>
    if w32 x2 = 32 then
      r_look_39 (fun m => r_look_0 n m) m
    else
    r_look_52 m
def r_look (m : xm) : xr :=
  r_look_0 xLF m
/-- LockOrchestraModel.isLetter(I)Z -/
def r_isLetter (v0 : Int) (m : xm) : xr :=
  if w32 v0 < 97 then
    some (0, m)
  else
  if 122 < w32 v0 then
    some (0, m)
  else
  some (1, m)
/-- LockOrchestraModel.isHere([C)Z -/
def r_isHere_76 (v1 : Nat) : Nat → Int → xm → xr
  | 0, _, _ => none
  | n + 1, v3, m =>
    if aln v1 ≤ w32 v3 then
      some (1, m)
    else
    ial m 79 ((ld m 78 2) + v3) fun x1 =>
    cld v1 v3 fun x2 =>
    if w32 x1 = w32 x2 then
      r_isHere_76 v1 n (v3 + 1) m
    else
    some (0, m)
def r_isHere_61 (v1 : Nat) (v2 : Int) (m : xm) : xr :=
  if w32 (v2 - (ld m 78 2)) = aln v1 then
    r_isHere_76 v1 xLF 0 m
  else
  some (0, m)
def r_isHere_35 (v1 : Nat) : Nat → Int → xm → xr
  | 0, _, _ => none
  | n + 1, v2, m =>
    if ld m 78 3 ≤ w32 v2 then
      r_isHere_61 v1 v2 m
    else
    ial m 79 v2 fun x1 =>
    bnd (r_isLetter x1 m) fun r2 m3 =>
    if w32 r2 = 0 then
      r_isHere_61 v1 v2 m3
    else
    r_isHere_35 v1 n (v2 + 1) m3
def r_isHere (v1 : Nat) (m : xm) : xr :=
  if ld m 78 5 = 0 then
    bnd (r_look m) fun r1 m2 =>
    bnd (r_isLetter r1 m2) fun r3 m4 =>
    if w32 r3 = 0 then
      some (0, m4)
    else
    if ld m4 78 2 = ld m4 78 4 then
      some (0, m4)
    else
    r_isHere_35 v1 xLF (ld m4 78 2) m4
  else
  some (0, m)
/-- LockOrchestraModel.takes([C)Z -/
def r_takes (v1 : Nat) (m : xm) : xr :=
  bnd (r_isHere v1 m) fun r1 m2 =>
  if w32 r1 = 0 then
    some (0, m2)
  else
  stf m2 78 2 ((ld m2 78 2) + (aln v1)) fun m3 =>
  stf m3 78 4 (ld m3 78 2) fun m4 =>
  some (1, m4)
/-- LockOrchestraModel.fail(II)V -/
def r_fail (v1 : Int) (v2 : Int) (m : xm) : xr :=
  if ld m 78 5 = 0 then
    stf m 78 5 v1 fun m1 =>
    stf m1 78 6 v2 fun m2 =>
    some (0, m2)
  else
  some (0, m)
/-- LockOrchestraModel.asks([C)V -/
def r_asks (v1 : Nat) (m : xm) : xr :=
  if ld m 78 5 = 0 then
    bnd (r_takes v1 m) fun r1 m2 =>
    if w32 r1 = 0 then
      bnd (r_fail 1 (ld m2 78 2) m2) fun r3 m4 =>
      some (0, m4)
    else
    some (0, m2)
  else
  some (0, m)
/-- LockOrchestraModel.isDigit(I)Z -/
def r_isDigit (v0 : Int) (m : xm) : xr :=
  if w32 v0 < 48 then
    some (0, m)
  else
  if 57 < w32 v0 then
    some (0, m)
  else
  some (1, m)
/-- LockOrchestraModel.isIn(JJJ)Z -/
def r_isIn (v0 : Int) (v2 : Int) (v4 : Int) (m : xm) : xr :=
  if w64 v0 < w64 v2 then
    some (0, m)
  else
  if w64 v4 < w64 v0 then
    some (0, m)
  else
  some (1, m)
/-- LockOrchestraModel.number(II)I -/
def r_number_30 (m : xm) : xr :=
  bnd (r_fail 1 (ld m 78 2) m) fun r1 m2 =>
  some (0, m2)
def r_number_129 (v1 : Int) (v2 : Int) (v3 : Int) (v4 : Int) (m : xm) : xr :=
  stf m 78 4 (ld m 78 2) fun m1 =>
  bnd (r_isIn (w32 v4) (w32 v1) (w32 v2) m1) fun r2 m3 =>
  if w32 r2 = 0 then
    bnd (r_fail 2 v3 m3) fun r4 m5 =>
    some (v4, m5)
  else
  some (v4, m3)
def r_number_85 (m : xm) : xr :=
  bnd (r_fail 1 (ld m 78 2) m) fun r1 m2 =>
  some (0, m2)
def r_number_49 : Nat → Int → Int → Int → Int → xm → xr
  | 0, _, _, _, _, _ => none
  | n + 1, v1, v2, v3, v4, m =>
    if ld m 78 3 ≤ ld m 78 2 then
      r_number_129 v1 v2 v3 v4 m
    else
    ial m 79 (ld m 78 2) fun x1 =>
    bnd (r_isDigit x1 m) fun r2 m3 =>
    if w32 r2 = 0 then
      r_number_129 v1 v2 v3 v4 m3
    else
    if w32 ((ld m3 78 2) - v3) = 4 then
      r_number_85 m3
    else
    ial m3 79 (ld m3 78 2) fun x4 =>
    xlt (((10 * v4) + x4) - 48) fun x5 =>
    stf m3 78 2 ((ld m3 78 2) + 1) fun m6 =>
    r_number_49 n v1 v2 v3 x5 m6
def r_number (v1 : Int) (v2 : Int) (m : xm) : xr :=
  if ld m 78 5 = 0 then
    bnd (r_look m) fun r1 m2 =>
    bnd (r_isDigit r1 m2) fun r3 m4 =>
    if w32 r3 = 0 then
      r_number_30 m4
    else
    if ld m4 78 2 = ld m4 78 4 then
      r_number_30 m4
    else
    r_number_49 xLF v1 v2 (ld m4 78 2) 0 m4
  else
  some (0, m)
/-- LockOrchestraModel.takesSign(I)Z -/
def r_takesSign (v1 : Int) (m : xm) : xr :=
  if ld m 78 5 = 0 then
    bnd (r_look m) fun r1 m2 =>
    if w32 r1 = w32 v1 then
      stf m2 78 2 ((ld m2 78 2) + 1) fun m3 =>
      some (1, m3)
    else
    some (0, m2)
  else
  some (0, m)
/-- LockOrchestraModel.asksSign(I)V -/
def r_asksSign (v1 : Int) (m : xm) : xr :=
  if ld m 78 5 = 0 then
    bnd (r_takesSign v1 m) fun r1 m2 =>
    if w32 r1 = 0 then
      bnd (r_fail 1 (ld m2 78 2) m2) fun r3 m4 =>
      some (0, m4)
    else
    some (0, m2)
  else
  some (0, m)
/-- LockOrchestraModel.isFull(III)Z -/
def r_isFull_23 (m : xm) : xr :=
  if ld m 78 5 = 0 then
    some (0, m)
  else
  some (1, m)
def r_isFull (v1 : Int) (v2 : Int) (v3 : Int) (m : xm) : xr :=
  if ld m 78 5 = 0 then
    ial m 101 v1 fun x1 =>
    if w32 x1 = w32 v2 then
      bnd (r_fail 5 v3 m) fun r2 m3 =>
      r_isFull_23 m3
    else
    r_isFull_23 m
  else
  r_isFull_23 m
/-- LockOrchestraModel.isOwnHere()Z -/
def r_isOwnHere_255 (s0 : Int) (m : xm) : xr :=
  xlt s0 fun x1 =>
  xrb x1 m
def r_isOwnHere_250 (m : xm) : xr :=
  r_isOwnHere_255 1 m
def r_isOwnHere_223 (s0 : Int) (m : xm) : xr :=
  xlt s0 fun x1 =>
  if w32 x1 = 0 then
    bnd (r_isHere 99 m) fun r2 m3 =>
    if w32 r2 = 0 then
      bnd (r_isHere 100 m3) fun r4 m5 =>
      if w32 r4 = 0 then
        r_isOwnHere_255 0 m5
      else
      r_isOwnHere_250 m5
    else
    r_isOwnHere_250 m3
  else
  r_isOwnHere_250 m
def r_isOwnHere_218 (m : xm) : xr :=
  r_isOwnHere_223 1 m
def r_isOwnHere_147 (s0 : Int) (m : xm) : xr :=
  xlt s0 fun x1 =>
  if w32 x1 = 0 then
    bnd (r_isHere 93 m) fun r2 m3 =>
    if w32 r2 = 0 then
      bnd (r_isHere 94 m3) fun r4 m5 =>
      if w32 r4 = 0 then
        bnd (r_isHere 95 m5) fun r6 m7 =>
        if w32 r6 = 0 then
          bnd (r_isHere 96 m7) fun r8 m9 =>
          if w32 r8 = 0 then
            bnd (r_isHere 97 m9) fun r10 m11 =>
            if w32 r10 = 0 then
              bnd (r_isHere 98 m11) fun r12 m13 =>
              if w32 r12 = 0 then
                r_isOwnHere_223 0 m13
              else
              r_isOwnHere_218 m13
            else
            r_isOwnHere_218 m11
          else
          r_isOwnHere_218 m9
        else
        r_isOwnHere_218 m7
      else
      r_isOwnHere_218 m5
    else
    r_isOwnHere_218 m3
  else
  r_isOwnHere_218 m
def r_isOwnHere_142 (m : xm) : xr :=
  r_isOwnHere_147 1 m
def r_isOwnHere_71 (s0 : Int) (m : xm) : xr :=
  xlt s0 fun x1 =>
  if w32 x1 = 0 then
    bnd (r_isHere 87 m) fun r2 m3 =>
    if w32 r2 = 0 then
      bnd (r_isHere 88 m3) fun r4 m5 =>
      if w32 r4 = 0 then
        bnd (r_isHere 89 m5) fun r6 m7 =>
        if w32 r6 = 0 then
          bnd (r_isHere 90 m7) fun r8 m9 =>
          if w32 r8 = 0 then
            bnd (r_isHere 91 m9) fun r10 m11 =>
            if w32 r10 = 0 then
              bnd (r_isHere 92 m11) fun r12 m13 =>
              if w32 r12 = 0 then
                r_isOwnHere_147 0 m13
              else
              r_isOwnHere_142 m13
            else
            r_isOwnHere_142 m11
          else
          r_isOwnHere_142 m9
        else
        r_isOwnHere_142 m7
      else
      r_isOwnHere_142 m5
    else
    r_isOwnHere_142 m3
  else
  r_isOwnHere_142 m
def r_isOwnHere_66 (m : xm) : xr :=
  r_isOwnHere_71 1 m
def r_isOwnHere (m : xm) : xr :=
  bnd (r_isHere 81 m) fun r1 m2 =>
  if w32 r1 = 0 then
    bnd (r_isHere 82 m2) fun r3 m4 =>
    if w32 r3 = 0 then
      bnd (r_isHere 83 m4) fun r5 m6 =>
      if w32 r5 = 0 then
        bnd (r_isHere 84 m6) fun r7 m8 =>
        if w32 r7 = 0 then
          bnd (r_isHere 85 m8) fun r9 m10 =>
          if w32 r9 = 0 then
            bnd (r_isHere 86 m10) fun r11 m12 =>
            if w32 r11 = 0 then
              r_isOwnHere_71 0 m12
            else
            r_isOwnHere_66 m12
          else
          r_isOwnHere_66 m10
        else
        r_isOwnHere_66 m8
      else
      r_isOwnHere_66 m6
    else
    r_isOwnHere_66 m4
  else
  r_isOwnHere_66 m2
/-- LockOrchestraModel.name()J -/
def r_name_37 (m : xm) : xr :=
  bnd (r_fail 1 (ld m 78 2) m) fun r1 m2 =>
  some (0, m2)
def r_name_145 (v1 : Int) (m : xm) : xr :=
  stf m 78 4 (ld m 78 2) fun m1 =>
  some (v1, m1)
def r_name_98 (m : xm) : xr :=
  bnd (r_fail 1 (ld m 78 2) m) fun r1 m2 =>
  some (0, m2)
def r_name_58 : Nat → Int → xm → xr
  | 0, _, _ => none
  | n + 1, v1, m =>
    if ld m 78 3 ≤ ld m 78 2 then
      r_name_145 v1 m
    else
    ial m 79 (ld m 78 2) fun x1 =>
    bnd (r_isLetter x1 m) fun r2 m3 =>
    if w32 r2 = 0 then
      r_name_145 v1 m3
    else
    if w32 ((ld m3 78 2) - (ld m3 78 30)) = 6 then
      r_name_98 m3
    else
    ial m3 79 (ld m3 78 2) fun x4 =>
    xlt ((((27 * v1) + (w32 x4)) - 97) + 1) fun x5 =>
    stf m3 78 2 ((ld m3 78 2) + 1) fun m6 =>
    r_name_58 n x5 m6
def r_name (m : xm) : xr :=
  if ld m 78 5 = 0 then
    bnd (r_look m) fun r1 m2 =>
    bnd (r_isLetter r1 m2) fun r3 m4 =>
    if w32 r3 = 0 then
      r_name_37 m4
    else
    if ld m4 78 2 = ld m4 78 4 then
      r_name_37 m4
    else
    bnd (r_isOwnHere m4) fun r5 m6 =>
    if w32 r5 = 0 then
      stf m6 78 30 (ld m6 78 2) fun m7 =>
      r_name_58 xLF 0 m7
    else
    r_name_37 m6
  else
  some (0, m)
/-- LockOrchestraModel.nameOf(IJ)I -/
def r_nameOf_3 : Nat → Int → Int → Int → xm → xr
  | 0, _, _, _, _ => none
  | n + 1, v1, v2, v4, m =>
    ial m 101 v1 fun x1 =>
    if w32 x1 ≤ w32 v4 then
      some ((-1), m)
    else
    lal m 102 ((6 * v1) + v4) fun x2 =>
    if w64 x2 = w64 v2 then
      some (v4, m)
    else
    r_nameOf_3 n v1 v2 (v4 + 1) m
def r_nameOf (v1 : Int) (v2 : Int) (m : xm) : xr :=
  r_nameOf_3 xLF v1 v2 0 m
/-- LockOrchestraModel.newName()J -/
def r_newName_38 (k7 : Int → Int → xm → xr) (v1 : Int) (v3 : Int) (m : xm) : xr :=
  k7 v1 (v3 + 1) m
def r_newName_7 : Nat → Int → Int → xm → xr
  | 0, _, _, _ => none
  | n + 1, v1, v3, m =>
    if 4 ≤ w32 v3 then
      some (v1, m)
    else
    if ld m 78 5 = 0 then
      bnd (r_nameOf v3 v1 m) fun r1 m2 =>
      if w32 r1 = (-1) then
        r_newName_38 (fun v1 v3 m => r_newName_7 n v1 v3 m) v1 v3 m2
      else
      bnd (r_fail 3 (ld m2 78 30) m2) fun r3 m4 =>
      r_newName_38 (fun v1 v3 m => r_newName_7 n v1 v3 m) v1 v3 m4
    else
    r_newName_38 (fun v1 v3 m => r_newName_7 n v1 v3 m) v1 v3 m
def r_newName (m : xm) : xr :=
  bnd (r_name m) fun r1 m2 =>
  r_newName_7 xLF r1 0 m2
/-- LockOrchestraModel.oneOf(II)I -/
def r_oneOf_45 (v5 : Int) (m : xm) : xr :=
  if ld m 78 5 = 0 then
    some (v5, m)
  else
  some (0, m)
def r_oneOf_36 (v5 : Int) (m : xm) : xr :=
  bnd (r_fail 3 (ld m 78 30) m) fun r1 m2 =>
  r_oneOf_45 v5 m2
def r_oneOf (v1 : Int) (v2 : Int) (m : xm) : xr :=
  bnd (r_name m) fun r1 m2 =>
  bnd (r_nameOf v1 r1 m2) fun r3 m4 =>
  if ld m4 78 5 = 0 then
    if w32 r3 = (-1) then
      r_oneOf_36 r3 m4
    else
    if ban (shr v2 r3) 1 = 1 then
      r_oneOf_36 r3 m4
    else
    r_oneOf_45 r3 m4
  else
  r_oneOf_45 r3 m4
/-- LockOrchestraModel.playerTold(I)V -/
def r_playerTold_80 (v2 : Int) (v4 : Int) (m : xm) : xr :=
  if ld m 78 5 = 0 then
    ial m 101 3 fun x1 =>
    ias m 102 (18 + x1) v2 fun m2 =>
    ial m2 101 3 fun x3 =>
    ias m2 105 x3 v4 fun m4 =>
    ial m4 101 3 fun x5 =>
    ias m4 101 3 (x5 + 1) fun m6 =>
    some (0, m6)
  else
  some (0, m)
def r_playerTold_30 : Nat → Int → Int → Int → xm → xr
  | 0, _, _, _, _ => none
  | n + 1, v2, v4, v5, m =>
    if ld m 78 5 = 0 then
      if w32 v5 = 0 then
        r_playerTold_80 v2 v4 m
      else
      bnd (r_oneOf 1 v4 m) fun r1 m2 =>
      if ld m2 78 5 = 0 then
        xlt (bor v4 (shl 1 r1)) fun x3 =>
        bnd (r_look m2) fun r4 m5 =>
        bnd (r_isLetter r4 m5) fun r6 m7 =>
        r_playerTold_30 n v2 x3 r6 m7
      else
      some (0, m2)
    else
    r_playerTold_80 v2 v4 m
def r_playerTold (v1 : Int) (m : xm) : xr :=
  bnd (r_isFull 3 5 v1 m) fun r1 m2 =>
  if w32 r1 = 0 then
    bnd (r_newName m2) fun r3 m4 =>
    bnd (r_asks 90 m4) fun r5 m6 =>
    r_playerTold_30 xLF r3 0 1 m6
  else
  some (0, m2)
/-- LockOrchestraModel.qCode(I)V -/
def r_qCode (v1 : Int) (m : xm) : xr :=
  ias m 138 (ld m 78 84) v1 fun m1 =>
  stf m1 78 84 ((ld m1 78 84) + 1) fun m2 =>
  some (0, m2)
/-- LockOrchestraModel.qDrops()V -/
def r_qDrops (m : xm) : xr :=
  stf m 78 86 ((ld m 78 86) - 1) fun m1 =>
  ial m1 139 (ld m1 78 86) fun x2 =>
  bnd (r_qCode x2 m1) fun r3 m4 =>
  some (0, m4)
/-- LockOrchestraModel.qWordHere()I -/
def r_qWordHere (m : xm) : xr :=
  bnd (r_isHere 131 m) fun r1 m2 =>
  if w32 r1 = 0 then
    bnd (r_isHere 132 m2) fun r3 m4 =>
    if w32 r3 = 0 then
      bnd (r_isHere 133 m4) fun r5 m6 =>
      if w32 r5 = 0 then
        bnd (r_isHere 134 m6) fun r7 m8 =>
        if w32 r7 = 0 then
          bnd (r_isHere 135 m8) fun r9 m10 =>
          if w32 r9 = 0 then
            bnd (r_isHere 136 m10) fun r11 m12 =>
            if w32 r11 = 0 then
              bnd (r_isHere 137 m12) fun r13 m14 =>
              if w32 r13 = 0 then
                some ((-1), m14)
              else
              some (6, m14)
            else
            some (5, m12)
          else
          some (4, m10)
        else
        some (3, m8)
      else
      some (2, m6)
    else
    some (1, m4)
  else
  some (0, m2)
/-- LockOrchestraModel.isAllowed(I)Z -/
def r_isAllowed (v1 : Int) (m : xm) : xr :=
  if ld m 78 42 = 0 then
    some (1, m)
  else
  if w32 v1 = 0 then
    some (1, m)
  else
  if w32 v1 = 5 then
    some (1, m)
  else
  some (0, m)
/-- LockOrchestraModel.qWordOf(II)I -/
def r_qWordOf (v1 : Int) (v2 : Int) (m : xm) : xr :=
  bnd (r_qWordHere m) fun r1 m2 =>
  if w32 r1 < w32 v1 then
    some ((-1), m2)
  else
  if w32 v2 ≤ w32 r1 then
    some ((-1), m2)
  else
  bnd (r_isAllowed r1 m2) fun r3 m4 =>
  if w32 r3 = 0 then
    some ((-1), m4)
  else
  some (r1, m4)
/-- LockOrchestraModel.qEndsPart()V -/
def r_qEndsPart_0 : Nat → xm → xr
  | 0, _ => none
  | n + 1, m =>
    if ld m 78 5 = 0 then
      if ld m 78 86 ≤ ld m 78 88 then
        some (0, m)
      else
      ial m 139 ((ld m 78 86) - 1) fun x1 =>
      if w32 x1 < 60 then
        some (0, m)
      else
      stf m 78 87 ((ld m 78 87) - 1) fun m2 =>
      bnd (r_qDrops m2) fun r3 m4 =>
      r_qEndsPart_0 n m4
    else
    some (0, m)
def r_qEndsPart (m : xm) : xr :=
  r_qEndsPart_0 xLF m
/-- LockOrchestraModel.qAsksWord(I)V -/
def r_qAsksWord (v1 : Int) (m : xm) : xr :=
  xsw (w32 v1) 0 [
    ( bnd (r_asks 131 m) fun r3 m4 =>
      some (0, m4)),
    ( bnd (r_asks 132 m) fun r5 m6 =>
      some (0, m6)),
    ( bnd (r_asks 133 m) fun r7 m8 =>
      some (0, m8)),
    ( bnd (r_asks 134 m) fun r9 m10 =>
      some (0, m10)),
    ( bnd (r_asks 135 m) fun r11 m12 =>
      some (0, m12)),
    ( bnd (r_asks 136 m) fun r13 m14 =>
      some (0, m14))
    ] (
      bnd (r_asks 137 m) fun r1 m2 =>
      some (0, m2)
    )
/-- LockOrchestraModel.qOpens(II)V -/
def r_qOpens (v1 : Int) (v2 : Int) (m : xm) : xr :=
  if ld m 78 5 = 0 then
    if ld m 78 87 = 6 then
      bnd (r_fail 4 v2 m) fun r4 m5 =>
      some (0, m5)
    else
    stf m 78 87 ((ld m 78 87) + 1) fun m1 =>
    ias m1 139 (ld m1 78 86) v1 fun m2 =>
    stf m2 78 86 ((ld m2 78 86) + 1) fun m3 =>
    some (0, m3)
  else
  some (0, m)
/-- LockOrchestraModel.qPartTold()V -/
def r_qPartTold_234 (s1 : Int) (m : xm) : xr :=
  bnd (r_qCode s1 m) fun r1 m2 =>
  bnd (r_qEndsPart m2) fun r3 m4 =>
  some (0, m4)
def r_qPartTold_209 (v2 : Int) (m : xm) : xr :=
  if w32 v2 = (-1) then
    bnd (r_number 0 9999 m) fun r1 m2 =>
    r_qPartTold_234 (1000 + r1) m2
  else
  r_qPartTold_234 (40 + v2) m
def r_qPartTold_184 (m : xm) : xr :=
  if ld m 78 5 = 0 then
    bnd (r_qWordOf 0 5 m) fun r1 m2 =>
    if w32 r1 = (-1) then
      r_qPartTold_209 r1 m2
    else
    bnd (r_qAsksWord r1 m2) fun r3 m4 =>
    r_qPartTold_209 r1 m4
  else
  some (0, m)
def r_qPartTold_143 (k2 : Int → xm → xr) (v1 : Int) (m : xm) : xr :=
  bnd (r_asksSign 40 m) fun r1 m2 =>
  k2 v1 m2
def r_qPartTold_138 (k2 : Int → xm → xr) (v1 : Int) (v5 : Int) (s1 : Int) (m : xm) : xr :=
  bnd (r_qOpens s1 v5 m) fun r1 m2 =>
  r_qPartTold_143 k2 v1 m2
def r_qPartTold_117 (k2 : Int → xm → xr) (v1 : Int) (v4 : Int) (s0 : Int) (m : xm) : xr :=
  xlt s0 fun x1 =>
  if w32 x1 = (-1) then
    r_qPartTold_143 k2 v1 m
  else
  if w32 v4 = 0 then
    r_qPartTold_138 k2 v1 x1 22 m
  else
  r_qPartTold_138 k2 v1 x1 21 m
def r_qPartTold_100 (k2 : Int → xm → xr) (v1 : Int) (v4 : Int) (m : xm) : xr :=
  bnd (r_look m) fun r1 m2 =>
  if w32 r1 = 40 then
    r_qPartTold_117 k2 v1 v4 (ld m2 78 2) m2
  else
  r_qPartTold_117 k2 v1 v4 (-1) m2
def r_qPartTold_77 (k2 : Int → xm → xr) (v1 : Int) (m : xm) : xr :=
  bnd (r_takes 129 m) fun r1 m2 =>
  if w32 r1 = 0 then
    bnd (r_asks 130 m2) fun r3 m4 =>
    r_qPartTold_100 k2 v1 r1 m4
  else
  r_qPartTold_100 k2 v1 r1 m2
def r_qPartTold_2 : Nat → Int → xm → xr
  | 0, _, _ => none
  | n + 1, v1, m =>
    if w32 v1 = 0 then
      r_qPartTold_184 m
    else
    if ld m 78 5 = 0 then
      bnd (r_look m) fun r1 m2 =>
      bnd (r_qWordOf 5 7 m2) fun r3 m4 =>
      if w32 r1 = 40 then
        bnd (r_qOpens 20 (ld m4 78 2) m4) fun r13 m14 =>
        stf m14 78 2 ((ld m14 78 2) + 1) fun m15 =>
        r_qPartTold_2 n v1 m15
      else
      bnd (r_isHere 129 m4) fun r5 m6 =>
      if w32 r5 = 0 then
        bnd (r_isHere 130 m6) fun r7 m8 =>
        if w32 r7 = 0 then
          if w32 r3 = (-1) then
            r_qPartTold_2 n 0 m8
          else
          bnd (r_qOpens ((60 + r3) - 5) (ld m8 78 2) m8) fun r9 m10 =>
          bnd (r_qAsksWord r3 m10) fun r11 m12 =>
          r_qPartTold_2 n v1 m12
        else
        r_qPartTold_77 (fun v1 m => r_qPartTold_2 n v1 m) v1 m8
      else
      r_qPartTold_77 (fun v1 m => r_qPartTold_2 n v1 m) v1 m6
    else
    r_qPartTold_184 m
def r_qPartTold (m : xm) : xr :=
  r_qPartTold_2 xLF 1 m
/-- LockOrchestraModel.qIsOn(I)Z -/
def r_qIsOn (v1 : Int) (m : xm) : xr :=
  if ld m 78 86 ≤ 0 then
    some (0, m)
  else
  ial m 139 ((ld m 78 86) - 1) fun x1 =>
  if w32 x1 = w32 v1 then
    some (1, m)
  else
  some (0, m)
/-- LockOrchestraModel.qIsBracket(I)Z -/
def r_qIsBracket (v0 : Int) (m : xm) : xr :=
  if w32 v0 < 20 then
    some (0, m)
  else
  if 24 < w32 v0 then
    some (0, m)
  else
  some (1, m)
/-- LockOrchestraModel.qBracket()I -/
def r_qBracket_33 (v1 : Int) (m : xm) : xr :=
  if w32 v1 < ld m 78 88 then
    some ((-1), m)
  else
  ial m 139 v1 fun x1 =>
  some (x1, m)
def r_qBracket_7 : Nat → Int → xm → xr
  | 0, _, _ => none
  | n + 1, v1, m =>
    if w32 v1 < ld m 78 88 then
      r_qBracket_33 v1 m
    else
    ial m 139 v1 fun x1 =>
    bnd (r_qIsBracket x1 m) fun r2 m3 =>
    if w32 r2 = 0 then
      r_qBracket_7 n (v1 + (-1)) m3
    else
    r_qBracket_33 v1 m3
def r_qBracket (m : xm) : xr :=
  xlt ((ld m 78 86) - 1) fun x1 =>
  r_qBracket_7 xLF x1 m
/-- LockOrchestraModel.qDropsToBracket()V -/
def r_qDropsToBracket_0 : Nat → xm → xr
  | 0, _ => none
  | n + 1, m =>
    if ld m 78 86 ≤ ld m 78 88 then
      some (0, m)
    else
    ial m 139 ((ld m 78 86) - 1) fun x1 =>
    bnd (r_qIsBracket x1 m) fun r2 m3 =>
    if w32 r2 = 0 then
      bnd (r_qDrops m3) fun r4 m5 =>
      r_qDropsToBracket_0 n m5
    else
    some (0, m3)
def r_qDropsToBracket (m : xm) : xr :=
  r_qDropsToBracket_0 xLF m
/-- LockOrchestraModel.qGoesOn()Z -/
def r_qGoesOn_178 (k162 : Int → xm → xr) (v1 : Int) (m : xm) : xr :=
  bnd (r_qDrops m) fun r1 m2 =>
  k162 v1 m2
def r_qGoesOn_185 (v1 : Int) (m : xm) : xr :=
  ias m 139 (ld m 78 86) v1 fun m1 =>
  stf m1 78 86 ((ld m1 78 86) + 1) fun m2 =>
  some (1, m2)
def r_qGoesOn_162 : Nat → Int → xm → xr
  | 0, _, _ => none
  | n + 1, v1, m =>
    bnd (r_qIsOn 3 m) fun r1 m2 =>
    if w32 r1 = 0 then
      bnd (r_qIsOn 4 m2) fun r3 m4 =>
      if w32 r3 = 0 then
        r_qGoesOn_185 v1 m4
      else
      r_qGoesOn_178 (fun v1 m => r_qGoesOn_162 n v1 m) v1 m4
    else
    r_qGoesOn_178 (fun v1 m => r_qGoesOn_162 n v1 m) v1 m2
def r_qGoesOn_161 (s0 : Int) (m : xm) : xr :=
  xlt s0 fun x1 =>
  r_qGoesOn_162 xLF x1 m
def r_qGoesOn_140 (m : xm) : xr :=
  ial m 79 ((ld m 78 2) - 1) fun x1 =>
  if w32 x1 = 42 then
    r_qGoesOn_161 3 m
  else
  r_qGoesOn_161 4 m
def r_qGoesOn_279 (k247 : Int → xm → xr) (v1 : Int) (m : xm) : xr :=
  bnd (r_qDrops m) fun r1 m2 =>
  k247 v1 m2
def r_qGoesOn_286 (v1 : Int) (m : xm) : xr :=
  ias m 139 (ld m 78 86) v1 fun m1 =>
  stf m1 78 86 ((ld m1 78 86) + 1) fun m2 =>
  some (1, m2)
def r_qGoesOn_247 : Nat → Int → xm → xr
  | 0, _, _ => none
  | n + 1, v1, m =>
    bnd (r_qIsOn 3 m) fun r1 m2 =>
    if w32 r1 = 0 then
      bnd (r_qIsOn 4 m2) fun r3 m4 =>
      if w32 r3 = 0 then
        bnd (r_qIsOn 1 m4) fun r5 m6 =>
        if w32 r5 = 0 then
          bnd (r_qIsOn 2 m6) fun r7 m8 =>
          if w32 r7 = 0 then
            r_qGoesOn_286 v1 m8
          else
          r_qGoesOn_279 (fun v1 m => r_qGoesOn_247 n v1 m) v1 m8
        else
        r_qGoesOn_279 (fun v1 m => r_qGoesOn_247 n v1 m) v1 m6
      else
      r_qGoesOn_279 (fun v1 m => r_qGoesOn_247 n v1 m) v1 m4
    else
    r_qGoesOn_279 (fun v1 m => r_qGoesOn_247 n v1 m) v1 m2
def r_qGoesOn_246 (s0 : Int) (m : xm) : xr :=
  xlt s0 fun x1 =>
  r_qGoesOn_247 xLF x1 m
def r_qGoesOn_225 (m : xm) : xr :=
  ial m 79 ((ld m 78 2) - 1) fun x1 =>
  if w32 x1 = 43 then
    r_qGoesOn_246 1 m
  else
  r_qGoesOn_246 2 m
def r_qGoesOn_326 (m : xm) : xr :=
  bnd (r_asksSign 44 m) fun r1 m2 =>
  if ld m2 78 5 = 0 then
    bnd (r_qDropsToBracket m2) fun r3 m4 =>
    ial m4 139 ((ld m4 78 86) - 1) fun x5 =>
    ias m4 139 ((ld m4 78 86) - 1) (x5 + 2) fun m6 =>
    some (1, m6)
  else
  some (0, m2)
def r_qGoesOn_122 (m : xm) : xr :=
  bnd (r_takesSign 42 m) fun r1 m2 =>
  if w32 r1 = 0 then
    bnd (r_takesSign 47 m2) fun r3 m4 =>
    if w32 r3 = 0 then
      bnd (r_takesSign 43 m4) fun r5 m6 =>
      if w32 r5 = 0 then
        bnd (r_takesSign 45 m6) fun r7 m8 =>
        if w32 r7 = 0 then
          bnd (r_qBracket m8) fun r9 m10 =>
          if w32 r9 = 21 then
            r_qGoesOn_326 m10
          else
          bnd (r_qBracket m10) fun r11 m12 =>
          if w32 r11 = 22 then
            r_qGoesOn_326 m12
          else
          bnd (r_qBracket m12) fun r13 m14 =>
          if w32 r13 = (-1) then
            some (0, m14)
          else
          if ld m14 78 5 = 0 then
            bnd (r_fail 1 (ld m14 78 2) m14) fun r15 m16 =>
            some (0, m16)
          else
          some (0, m14)
        else
        r_qGoesOn_225 m8
      else
      r_qGoesOn_225 m6
    else
    r_qGoesOn_140 m4
  else
  r_qGoesOn_140 m2
def r_qGoesOn_115 (k0 : xm → xr) (m : xm) : xr :=
  bnd (r_qEndsPart m) fun r1 m2 =>
  k0 m2
def r_qGoesOn_112 (k0 : xm → xr) (s1 : Int) (m : xm) : xr :=
  bnd (r_qCode s1 m) fun r1 m2 =>
  r_qGoesOn_115 k0 m2
def r_qGoesOn_43 (k0 : xm → xr) (m : xm) : xr :=
  stf m 78 2 ((ld m 78 2) + 1) fun m1 =>
  bnd (r_qDropsToBracket m1) fun r2 m3 =>
  stf m3 78 86 ((ld m3 78 86) - 1) fun m4 =>
  stf m4 78 87 ((ld m4 78 87) - 1) fun m5 =>
  ial m5 139 (ld m5 78 86) fun x6 =>
  if w32 x6 = 20 then
    r_qGoesOn_115 k0 m5
  else
  ial m5 139 (ld m5 78 86) fun x7 =>
  if w32 x7 = 23 then
    r_qGoesOn_112 k0 5 m5
  else
  r_qGoesOn_112 k0 6 m5
def r_qGoesOn_0 : Nat → xm → xr
  | 0, _ => none
  | n + 1, m =>
    if ld m 78 5 = 0 then
      bnd (r_look m) fun r1 m2 =>
      if w32 r1 = 41 then
        bnd (r_qBracket m2) fun r3 m4 =>
        if w32 r3 = 20 then
          r_qGoesOn_43 (fun m => r_qGoesOn_0 n m) m4
        else
        bnd (r_qBracket m4) fun r5 m6 =>
        if w32 r5 = 23 then
          r_qGoesOn_43 (fun m => r_qGoesOn_0 n m) m6
        else
        bnd (r_qBracket m6) fun r7 m8 =>
        if w32 r7 = 24 then
          r_qGoesOn_43 (fun m => r_qGoesOn_0 n m) m8
        else
        r_qGoesOn_122 m8
      else
      r_qGoesOn_122 m2
    else
    r_qGoesOn_122 m
def r_qGoesOn (m : xm) : xr :=
  r_qGoesOn_0 xLF m
/-- LockOrchestraModel.qSums()V -/
def r_qSums_78 (v1 : Int) (m : xm) : xr :=
  stf m 78 88 v1 fun m1 =>
  some (0, m1)
def r_qSums_53 : Nat → Int → xm → xr
  | 0, _, _ => none
  | n + 1, v1, m =>
    if ld m 78 5 = 0 then
      if ld m 78 86 ≤ ld m 78 88 then
        r_qSums_78 v1 m
      else
      bnd (r_qDrops m) fun r1 m2 =>
      r_qSums_53 n v1 m2
    else
    r_qSums_78 v1 m
def r_qSums_49 (k15 : Int → Int → xm → xr) (v1 : Int) (s0 : Int) (m : xm) : xr :=
  xlt s0 fun x1 =>
  k15 v1 x1 m
def r_qSums_48 (k15 : Int → Int → xm → xr) (v1 : Int) (m : xm) : xr :=
  r_qSums_49 k15 v1 0 m
def r_qSums_15 : Nat → Int → Int → xm → xr
  | 0, _, _, _ => none
  | n + 1, v1, v2, m =>
    if w32 v2 = 0 then
      r_qSums_53 xLF v1 m
    else
    if ld m 78 5 = 0 then
      bnd (r_qPartTold m) fun r1 m2 =>
      if ld m2 78 5 = 0 then
        bnd (r_qGoesOn m2) fun r3 m4 =>
        if w32 r3 = 0 then
          r_qSums_48 (fun v1 v2 m => r_qSums_15 n v1 v2 m) v1 m4
        else
        r_qSums_49 (fun v1 v2 m => r_qSums_15 n v1 v2 m) v1 1 m4
      else
      r_qSums_48 (fun v1 v2 m => r_qSums_15 n v1 v2 m) v1 m2
    else
    r_qSums_53 xLF v1 m
def r_qSums (m : xm) : xr :=
  stf m 78 88 (ld m 78 86) fun m1 =>
  r_qSums_15 xLF (ld m 78 88) 1 m1
/-- LockOrchestraModel.qFact()V -/
def r_qFact_102 (s1 : Int) (m : xm) : xr :=
  bnd (r_qCode s1 m) fun r1 m2 =>
  some (0, m2)
def r_qFact_63 (v1 : Int) (m : xm) : xr :=
  stf m 78 2 ((ld m 78 2) + 1) fun m1 =>
  bnd (r_qSums m1) fun r2 m3 =>
  if w32 v1 = 60 then
    r_qFact_102 7 m3
  else
  if w32 v1 = 62 then
    r_qFact_102 8 m3
  else
  r_qFact_102 9 m3
def r_qFact (m : xm) : xr :=
  bnd (r_takes 128 m) fun r1 m2 =>
  if w32 r1 = 0 then
    bnd (r_qSums m2) fun r3 m4 =>
    if ld m4 78 5 = 0 then
      bnd (r_look m4) fun r5 m6 =>
      if w32 r5 = 60 then
        r_qFact_63 r5 m6
      else
      if w32 r5 = 62 then
        r_qFact_63 r5 m6
      else
      if w32 r5 = 61 then
        r_qFact_63 r5 m6
      else
      bnd (r_fail 1 (ld m6 78 2) m6) fun r7 m8 =>
      some (0, m8)
    else
    some (0, m4)
  else
  bnd (r_qCode 13 m2) fun r9 m10 =>
  some (0, m10)
/-- LockOrchestraModel.qDropsNots()V -/
def r_qDropsNots_0 : Nat → xm → xr
  | 0, _ => none
  | n + 1, m =>
    if ld m 78 5 = 0 then
      bnd (r_qIsOn 12 m) fun r1 m2 =>
      if w32 r1 = 0 then
        some (0, m2)
      else
      stf m2 78 87 ((ld m2 78 87) - 1) fun m3 =>
      bnd (r_qDrops m3) fun r4 m5 =>
      r_qDropsNots_0 n m5
    else
    some (0, m)
def r_qDropsNots (m : xm) : xr :=
  r_qDropsNots_0 xLF m
/-- LockOrchestraModel.qHasSquare()Z -/
def r_qHasSquare_2 : Nat → Int → xm → xr
  | 0, _, _ => none
  | n + 1, v1, m =>
    if ld m 78 86 ≤ w32 v1 then
      some (0, m)
    else
    ial m 139 v1 fun x1 =>
    if w32 x1 = 25 then
      some (1, m)
    else
    r_qHasSquare_2 n (v1 + 1) m
def r_qHasSquare (m : xm) : xr :=
  r_qHasSquare_2 xLF 0 m
/-- LockOrchestraModel.qGoesOnTest()Z -/
def r_qGoesOnTest_155 (k137 : xm → xr) (m : xm) : xr :=
  bnd (r_qDrops m) fun r1 m2 =>
  k137 m2
def r_qGoesOnTest_162 (m : xm) : xr :=
  ias m 139 (ld m 78 86) 11 fun m1 =>
  stf m1 78 86 ((ld m1 78 86) + 1) fun m2 =>
  some (1, m2)
def r_qGoesOnTest_137 : Nat → xm → xr
  | 0, _ => none
  | n + 1, m =>
    bnd (r_qIsOn 10 m) fun r1 m2 =>
    if w32 r1 = 0 then
      bnd (r_qIsOn 11 m2) fun r3 m4 =>
      if w32 r3 = 0 then
        r_qGoesOnTest_162 m4
      else
      r_qGoesOnTest_155 (fun m => r_qGoesOnTest_137 n m) m4
    else
    r_qGoesOnTest_155 (fun m => r_qGoesOnTest_137 n m) m2
def r_qGoesOnTest_103 (m : xm) : xr :=
  ias m 139 (ld m 78 86) 10 fun m1 =>
  stf m1 78 86 ((ld m1 78 86) + 1) fun m2 =>
  some (1, m2)
def r_qGoesOnTest_87 : Nat → xm → xr
  | 0, _ => none
  | n + 1, m =>
    bnd (r_qIsOn 10 m) fun r1 m2 =>
    if w32 r1 = 0 then
      r_qGoesOnTest_103 m2
    else
    bnd (r_qDrops m2) fun r3 m4 =>
    r_qGoesOnTest_87 n m4
def r_qGoesOnTest_76 (m : xm) : xr :=
  bnd (r_takes 126 m) fun r1 m2 =>
  if w32 r1 = 0 then
    bnd (r_takes 127 m2) fun r3 m4 =>
    if w32 r3 = 0 then
      if ld m4 78 5 = 0 then
        bnd (r_qHasSquare m4) fun r5 m6 =>
        if w32 r5 = 0 then
          some (0, m6)
        else
        bnd (r_fail 1 (ld m6 78 2) m6) fun r7 m8 =>
        some (0, m8)
      else
      some (0, m4)
    else
    r_qGoesOnTest_137 xLF m4
  else
  r_qGoesOnTest_87 xLF m2
def r_qGoesOnTest_49 (k0 : xm → xr) (m : xm) : xr :=
  stf m 78 86 ((ld m 78 86) - 1) fun m1 =>
  stf m1 78 87 ((ld m1 78 87) - 1) fun m2 =>
  bnd (r_qDropsNots m2) fun r3 m4 =>
  k0 m4
def r_qGoesOnTest_33 (k0 : xm → xr) : Nat → xm → xr
  | 0, _ => none
  | n + 1, m =>
    bnd (r_qIsOn 25 m) fun r1 m2 =>
    if w32 r1 = 0 then
      bnd (r_qDrops m2) fun r3 m4 =>
      r_qGoesOnTest_33 k0 n m4
    else
    r_qGoesOnTest_49 k0 m2
def r_qGoesOnTest_0 : Nat → xm → xr
  | 0, _ => none
  | n + 1, m =>
    if ld m 78 5 = 0 then
      bnd (r_look m) fun r1 m2 =>
      if w32 r1 = 93 then
        bnd (r_qHasSquare m2) fun r3 m4 =>
        if w32 r3 = 0 then
          r_qGoesOnTest_76 m4
        else
        stf m4 78 2 ((ld m4 78 2) + 1) fun m5 =>
        r_qGoesOnTest_33 (fun m => r_qGoesOnTest_0 n m) xLF m5
      else
      r_qGoesOnTest_76 m2
    else
    r_qGoesOnTest_76 m
def r_qGoesOnTest (m : xm) : xr :=
  r_qGoesOnTest_0 xLF m
/-- LockOrchestraModel.qTest()V -/
def r_qTest_110 : Nat → xm → xr
  | 0, _ => none
  | n + 1, m =>
    if ld m 78 5 = 0 then
      if ld m 78 86 ≤ 0 then
        some (0, m)
      else
      bnd (r_qDrops m) fun r1 m2 =>
      r_qTest_110 n m2
    else
    some (0, m)
def r_qTest_106 (k2 : Int → xm → xr) (s0 : Int) (m : xm) : xr :=
  xlt s0 fun x1 =>
  k2 x1 m
def r_qTest_105 (k2 : Int → xm → xr) (m : xm) : xr :=
  r_qTest_106 k2 0 m
def r_qTest_2 : Nat → Int → xm → xr
  | 0, _, _ => none
  | n + 1, v1, m =>
    if w32 v1 = 0 then
      r_qTest_110 xLF m
    else
    if ld m 78 5 = 0 then
      bnd (r_look m) fun r1 m2 =>
      if w32 r1 = 91 then
        bnd (r_qOpens 25 (ld m2 78 2) m2) fun r15 m16 =>
        stf m16 78 2 ((ld m16 78 2) + 1) fun m17 =>
        r_qTest_2 n v1 m17
      else
      bnd (r_isHere 125 m2) fun r3 m4 =>
      if w32 r3 = 0 then
        bnd (r_qFact m4) fun r5 m6 =>
        bnd (r_qDropsNots m6) fun r7 m8 =>
        if ld m8 78 5 = 0 then
          bnd (r_qGoesOnTest m8) fun r9 m10 =>
          if w32 r9 = 0 then
            r_qTest_105 (fun v1 m => r_qTest_2 n v1 m) m10
          else
          r_qTest_106 (fun v1 m => r_qTest_2 n v1 m) 1 m10
        else
        r_qTest_105 (fun v1 m => r_qTest_2 n v1 m) m8
      else
      bnd (r_qOpens 12 (ld m4 78 2) m4) fun r11 m12 =>
      bnd (r_asks 125 m12) fun r13 m14 =>
      r_qTest_2 n v1 m14
    else
    r_qTest_110 xLF m
def r_qTest (m : xm) : xr :=
  r_qTest_2 xLF 1 m
/-- LockOrchestraModel.doorTold(I)V -/
def r_doorTold_144 (v4 : Int) (m : xm) : xr :=
  ias m 108 v4 (ld m 78 40) fun m1 =>
  ial m1 101 2 fun x2 =>
  ias m1 101 2 (x2 + 1) fun m3 =>
  some (0, m3)
def r_doorTold_103 : Nat → Int → Int → xm → xr
  | 0, _, _, _ => none
  | n + 1, v4, v5, m =>
    if ld m 78 84 ≤ w32 v5 then
      r_doorTold_144 v4 m
    else
    ial m 138 v5 fun x1 =>
    ias m 109 (ld m 78 40) x1 fun m2 =>
    stf m2 78 40 ((ld m2 78 40) + 1) fun m3 =>
    r_doorTold_103 n v4 (v5 + 1) m3
def r_doorTold (v1 : Int) (m : xm) : xr :=
  bnd (r_isFull 2 6 v1 m) fun r1 m2 =>
  if w32 r1 = 0 then
    bnd (r_newName m2) fun r3 m4 =>
    bnd (r_asks 88 m4) fun r5 m6 =>
    if ld m6 78 5 = 0 then
      stf m6 78 42 1 fun m7 =>
      stf m7 78 84 0 fun m8 =>
      stf m8 78 86 0 fun m9 =>
      stf m9 78 87 0 fun m10 =>
      stf m10 78 88 0 fun m11 =>
      bnd (r_qTest m11) fun r12 m13 =>
      if ld m13 78 5 = 0 then
        ial m13 101 2 fun x14 =>
        xlt x14 fun x15 =>
        ias m13 102 (12 + x15) r3 fun m16 =>
        ias m16 107 x15 (ld m16 78 40) fun m17 =>
        r_doorTold_103 xLF x15 0 m17
      else
      some (0, m13)
    else
    some (0, m6)
  else
  some (0, m2)
/-- LockOrchestraModel.noteTold(I)V -/
def r_noteTold_139 (v2 : Int) (v4 : Int) (m : xm) : xr :=
  if ld m 78 5 = 0 then
    ias m 102 (6 + v4) v2 fun m1 =>
    ial m1 101 1 fun x2 =>
    ias m1 101 1 (x2 + 1) fun m3 =>
    some (0, m3)
  else
  some (0, m)
def r_noteTold_67 : Nat → Int → Int → Int → Int → xm → xr
  | 0, _, _, _, _, _ => none
  | n + 1, v2, v4, v5, v6, m =>
    if ld m 78 5 = 0 then
      if w32 v6 = 0 then
        r_noteTold_139 v2 v4 m
      else
      bnd (r_oneOf 0 v5 m) fun r1 m2 =>
      bnd (r_number 1 4 m2) fun r3 m4 =>
      if ld m4 78 5 = 0 then
        xlt (bor v5 (shl 1 r1)) fun x5 =>
        ias m4 104 ((4 * v4) + r1) r3 fun m6 =>
        bnd (r_look m6) fun r7 m8 =>
        bnd (r_isLetter r7 m8) fun r9 m10 =>
        r_noteTold_67 n v2 v4 x5 r9 m10
      else
      some (0, m4)
    else
    r_noteTold_139 v2 v4 m
def r_noteTold_61 (v2 : Int) (v4 : Int) (m : xm) : xr :=
  r_noteTold_67 xLF v2 v4 0 1 m
def r_noteTold_36 : Nat → Int → Int → Int → xm → xr
  | 0, _, _, _, _ => none
  | n + 1, v2, v4, v5, m =>
    if 4 ≤ w32 v5 then
      r_noteTold_61 v2 v4 m
    else
    ias m 104 ((4 * v4) + v5) 0 fun m1 =>
    r_noteTold_36 n v2 v4 (v5 + 1) m1
def r_noteTold (v1 : Int) (m : xm) : xr :=
  bnd (r_isFull 1 6 v1 m) fun r1 m2 =>
  if w32 r1 = 0 then
    bnd (r_newName m2) fun r3 m4 =>
    bnd (r_asks 86 m4) fun r5 m6 =>
    ial m6 101 1 fun x7 =>
    xlt x7 fun x8 =>
    r_noteTold_36 xLF r3 x8 0 m6
  else
  some (0, m2)
/-- LockOrchestraModel.lockTold(I)V -/
def r_lockTold_76 (v2 : Int) (v4 : Int) (v5 : Int) (v6 : Int) (m : xm) : xr :=
  if ld m 78 5 = 0 then
    ial m 101 0 fun x1 =>
    xlt (3 * x1) fun x2 =>
    ial m 101 0 fun x3 =>
    ias m 102 x3 v2 fun m4 =>
    ias m4 103 x2 v4 fun m5 =>
    ias m5 103 (x2 + 1) v5 fun m6 =>
    ias m6 103 (x2 + 2) v6 fun m7 =>
    ial m7 101 0 fun x8 =>
    ias m7 101 0 (x8 + 1) fun m9 =>
    some (0, m9)
  else
  some (0, m)
def r_lockTold (v1 : Int) (m : xm) : xr :=
  bnd (r_isFull 0 4 v1 m) fun r1 m2 =>
  if w32 r1 = 0 then
    bnd (r_newName m2) fun r3 m4 =>
    bnd (r_asks 82 m4) fun r5 m6 =>
    bnd (r_number 2 5 m6) fun r7 m8 =>
    bnd (r_asks 83 m8) fun r9 m10 =>
    bnd (r_number 0 (r7 - 1) m10) fun r11 m12 =>
    bnd (r_takes 84 m12) fun r13 m14 =>
    if w32 r13 = 0 then
      r_lockTold_76 r3 r7 r11 (-1) m14
    else
    bnd (r_number 0 (r7 - 1) m14) fun r15 m16 =>
    r_lockTold_76 r3 r7 r11 r15 m16
  else
  some (0, m2)
/-- LockOrchestraModel.statementTold()V -/
def r_statementTold_118 (m : xm) : xr :=
  bnd (r_asksSign 59 m) fun r1 m2 =>
  stf m2 78 41 ((ld m2 78 41) + 1) fun m3 =>
  some (0, m3)
def r_statementTold (m : xm) : xr :=
  if ld m 78 41 = 60 then
    bnd (r_fail 5 (ld m 78 2) m) fun r22 m23 =>
    some (0, m23)
  else
  bnd (r_takes 81 m) fun r1 m2 =>
  if w32 r1 = 0 then
    bnd (r_takes 85 m2) fun r3 m4 =>
    if w32 r3 = 0 then
      bnd (r_takes 87 m4) fun r5 m6 =>
      if w32 r5 = 0 then
        bnd (r_takes 89 m6) fun r7 m8 =>
        if w32 r7 = 0 then
          bnd (r_asks 91 m8) fun r9 m10 =>
          bnd (r_number 0 100 m10) fun r11 m12 =>
          ias m12 106 0 r11 fun m13 =>
          r_statementTold_118 m13
        else
        bnd (r_playerTold (ld m 78 2) m8) fun r14 m15 =>
        r_statementTold_118 m15
      else
      bnd (r_doorTold (ld m 78 2) m6) fun r16 m17 =>
      r_statementTold_118 m17
    else
    bnd (r_noteTold (ld m 78 2) m4) fun r18 m19 =>
    r_statementTold_118 m19
  else
  bnd (r_lockTold (ld m 78 2) m2) fun r20 m21 =>
  r_statementTold_118 m21
/-- LockOrchestraModel.hall()I -/
def r_hall_92 (m : xm) : xr :=
  stf m 78 7 (ld m 78 5) fun m1 =>
  stf m1 78 8 (ld m1 78 6) fun m2 =>
  if ld m2 78 5 = 0 then
    bnd (r_stands m2) fun r3 m4 =>
    some (ld m4 78 41, m4)
  else
  ial m2 80 1 fun x5 =>
  ias m2 80 1 (x5 + 1) fun m6 =>
  some ((-1), m6)
def r_hall_70 : Nat → xm → xr
  | 0, _ => none
  | n + 1, m =>
    if ld m 78 5 = 0 then
      bnd (r_look m) fun r1 m2 =>
      if w32 r1 = (-1) then
        r_hall_92 m2
      else
      bnd (r_statementTold m2) fun r3 m4 =>
      r_hall_70 n m4
    else
    r_hall_92 m
def r_hall_63 (m : xm) : xr :=
  ias m 106 0 0 fun m1 =>
  r_hall_70 xLF m1
def r_hall_45 : Nat → Int → xm → xr
  | 0, _, _ => none
  | n + 1, v1, m =>
    if 4 ≤ w32 v1 then
      r_hall_63 m
    else
    ias m 101 v1 0 fun m1 =>
    r_hall_45 n (v1 + 1) m1
def r_hall (m : xm) : xr :=
  stf m 78 3 (ld m 78 1) fun m1 =>
  stf m1 78 1 0 fun m2 =>
  stf m2 78 2 0 fun m3 =>
  stf m3 78 4 (-1) fun m4 =>
  stf m4 78 5 0 fun m5 =>
  stf m5 78 6 (-1) fun m6 =>
  stf m6 78 41 0 fun m7 =>
  stf m7 78 40 0 fun m8 =>
  r_hall_45 xLF 0 m8
/-- LockOrchestraModel.fault(I)I -/
def r_fault (v1 : Int) (m : xm) : xr :=
  if w32 v1 = 0 then
    some (ld m 78 7, m)
  else
  if w32 v1 = 1 then
    some (ld m 78 8, m)
  else
  some ((-1), m)
/-- LockOrchestraModel.jammedNow()I -/
def r_jammedNow (m : xm) : xr :=
  ial m 110 5 fun x1 =>
  some (x1, m)
/-- LockOrchestraModel.doorMany()I -/
def r_doorMany (m : xm) : xr :=
  ial m 101 6 fun x1 =>
  some (x1, m)
/-- LockOrchestraModel.qPuts(J)V -/
def r_qPuts (v1 : Int) (m : xm) : xr :=
  ias m 140 (ld m 78 90) v1 fun m1 =>
  stf m1 78 90 ((ld m1 78 90) + 1) fun m2 =>
  some (0, m2)
/-- LockOrchestraModel.qClip(J)J -/
def r_qClip (v0 : Int) (m : xm) : xr :=
  if w64 v0 ≤ 1000000 then
    if (-1000000) ≤ w64 v0 then
      some (v0, m)
    else
    some ((-1000000), m)
  else
  some (1000000, m)
/-- LockOrchestraModel.qFloor(JJ)J -/
def r_qFloor_43 (v4 : Int) (s0 : Int) (s1 : Int) (m : xm) : xr :=
  if w32 s0 = w32 s1 then
    some (v4, m)
  else
  some (v4 - 1, m)
def r_qFloor_32 (v2 : Int) (v4 : Int) (s0 : Int) (m : xm) : xr :=
  if 0 ≤ w64 v2 then
    r_qFloor_43 v4 s0 0 m
  else
  r_qFloor_43 v4 s0 1 m
def r_qFloor (v0 : Int) (v2 : Int) (m : xm) : xr :=
  if w64 v2 = 0 then
    some (0, m)
  else
  if w64 v2 = 0 then none else
  xlt (ldv v0 v2) fun x1 =>
  if w64 v2 = 0 then none else
  if lrm v0 v2 = 0 then
    some (x1, m)
  else
  if 0 ≤ w64 v0 then
    r_qFloor_32 v2 x1 0 m
  else
  r_qFloor_32 v2 x1 1 m
/-- LockOrchestraModel.qJoins(I)V -/
def r_qJoins_270 (s1 : Int) (m : xm) : xr :=
  bnd (r_qPuts s1 m) fun r1 m2 =>
  some (0, m2)
def r_qJoins_161 (s1 : Int) (m : xm) : xr :=
  bnd (r_qPuts s1 m) fun r1 m2 =>
  some (0, m2)
def r_qJoins_181 (s1 : Int) (m : xm) : xr :=
  bnd (r_qPuts s1 m) fun r1 m2 =>
  some (0, m2)
def r_qJoins_200 (s1 : Int) (m : xm) : xr :=
  bnd (r_qPuts s1 m) fun r1 m2 =>
  some (0, m2)
def r_qJoins_219 (s1 : Int) (m : xm) : xr :=
  bnd (r_qPuts s1 m) fun r1 m2 =>
  some (0, m2)
def r_qJoins_238 (s1 : Int) (m : xm) : xr :=
  bnd (r_qPuts s1 m) fun r1 m2 =>
  some (0, m2)
def r_qJoins (v1 : Int) (m : xm) : xr :=
  lal m 140 ((ld m 78 90) - 1) fun x1 =>
  xlt x1 fun x2 =>
  lal m 140 ((ld m 78 90) - 2) fun x3 =>
  xlt x3 fun x4 =>
  stf m 78 90 ((ld m 78 90) - 2) fun m5 =>
  xsw (w32 v1) 1 [
    ( bnd (r_qClip (x4 + x2) m5) fun r6 m7 =>
      bnd (r_qPuts r6 m7) fun r8 m9 =>
      some (0, m9)),
    ( bnd (r_qClip (x4 - x2) m5) fun r10 m11 =>
      bnd (r_qPuts r10 m11) fun r12 m13 =>
      some (0, m13)),
    ( bnd (r_qClip (x4 * x2) m5) fun r14 m15 =>
      bnd (r_qPuts r14 m15) fun r16 m17 =>
      some (0, m17)),
    ( bnd (r_qFloor x4 x2 m5) fun r18 m19 =>
      bnd (r_qPuts r18 m19) fun r20 m21 =>
      some (0, m21)),
    ( if w64 x2 ≤ w64 x4 then
        r_qJoins_161 x2 m5
      else
      r_qJoins_161 x4 m5),
    ( if w64 x4 ≤ w64 x2 then
        r_qJoins_181 x2 m5
      else
      r_qJoins_181 x4 m5),
    ( if w64 x2 ≤ w64 x4 then
        r_qJoins_200 0 m5
      else
      r_qJoins_200 1 m5),
    ( if w64 x4 ≤ w64 x2 then
        r_qJoins_219 0 m5
      else
      r_qJoins_219 1 m5),
    ( if w64 x4 = w64 x2 then
        r_qJoins_238 1 m5
      else
      r_qJoins_238 0 m5),
    ( bnd (r_qPuts (x4 * x2) m5) fun r22 m23 =>
      some (0, m23))
    ] (
      if w64 (x4 + x2) ≤ 0 then
        r_qJoins_270 0 m5
      else
      r_qJoins_270 1 m5
    )
/-- LockOrchestraModel.isJammed(I)Z -/
def r_isJammed (v1 : Int) (m : xm) : xr :=
  bnd (r_jammedNow m) fun r1 m2 =>
  if ban (shr r1 v1) 1 = 1 then
    some (1, m2)
  else
  some (0, m2)
/-- LockOrchestraModel.bits(I)I -/
def r_bits_4 : Nat → Int → Int → xm → xr
  | 0, _, _, _ => none
  | n + 1, v1, v2, m =>
    if w32 v2 = 0 then
      some (v1, m)
    else
    xlt (ban v2 (v2 - 1)) fun x1 =>
    r_bits_4 n (v1 + 1) x1 m
def r_bits (v0 : Int) (m : xm) : xr :=
  r_bits_4 xLF 0 v0 m
/-- LockOrchestraModel.wardsOf(I)I -/
def r_wardsOf (v1 : Int) (m : xm) : xr :=
  ial m 103 (12 + (3 * v1)) fun x1 =>
  some (x1, m)
/-- LockOrchestraModel.wardNow(I)I -/
def r_wardNow (v1 : Int) (m : xm) : xr :=
  ial m 110 (1 + v1) fun x1 =>
  some (x1, m)
/-- LockOrchestraModel.qPartOf(II)J -/
def r_qPartOf (v1 : Int) (v2 : Int) (m : xm) : xr :=
  xsw (w32 v1) 0 [
    ( bnd (r_jammedNow m) fun r3 m4 =>
      bnd (r_bits r3 m4) fun r5 m6 =>
      some (w32 r5, m6)),
    ( some (w32 v2, m)),
    ( bnd (r_wardsOf v2 m) fun r7 m8 =>
      some (w32 r7, m8)),
    ( bnd (r_wardNow v2 m) fun r9 m10 =>
      some (w32 r9, m10))
    ] (
      bnd (r_isJammed v2 m) fun r1 m2 =>
      if w32 r1 = 0 then
        some (0, m2)
      else
      some (1, m2)
    )
/-- LockOrchestraModel.noteMany()I -/
def r_noteMany (m : xm) : xr :=
  ial m 101 5 fun x1 =>
  some (x1, m)
/-- LockOrchestraModel.turnOf(II)I -/
def r_turnOf (v1 : Int) (v2 : Int) (m : xm) : xr :=
  ial m 104 ((24 + (4 * v1)) + v2) fun x1 =>
  some (x1, m)
/-- LockOrchestraModel.lockMany()I -/
def r_lockMany (m : xm) : xr :=
  ial m 101 4 fun x1 =>
  some (x1, m)
/-- LockOrchestraModel.qOf(IJI)J -/
def r_qOf (v1 : Int) (v2 : Int) (v4 : Int) (m : xm) : xr :=
  xlw (w32 v1) [
    (0, bnd (r_lockMany m) fun r7 m8 =>
      bnd (r_isIn v2 0 (w32 (r7 - 1)) m8) fun r9 m10 =>
      if w32 r9 = 0 then
        some ((-1), m10)
      else
      bnd (r_wardNow v2 m10) fun r11 m12 =>
      some (w32 r11, m12))
    ] (
      bnd (r_noteMany m) fun r1 m2 =>
      bnd (r_isIn v2 0 (w32 (r1 - 1)) m2) fun r3 m4 =>
      if w32 r3 = 0 then
        some (0, m4)
      else
      bnd (r_turnOf v2 v4 m4) fun r5 m6 =>
      some (w32 r5, m6)
    )
/-- LockOrchestraModel.isOpen(I)Z -/
def r_isOpen_182 (m : xm) : xr :=
  lal m 140 0 fun x1 =>
  if w64 x1 = 1 then
    some (1, m)
  else
  some (0, m)
def r_isOpen_176 (k15 : Int → Int → xm → xr) (v1 : Int) (v2 : Int) (m : xm) : xr :=
  k15 v1 (v2 + 1) m
def r_isOpen_15 : Nat → Int → Int → xm → xr
  | 0, _, _, _ => none
  | n + 1, v1, v2, m =>
    ial m 108 (6 + v1) fun x1 =>
    if w32 x1 ≤ w32 v2 then
      r_isOpen_182 m
    else
    ial m 109 (1600 + v2) fun x2 =>
    xlt x2 fun x3 =>
    if w32 x3 < 1000 then
      if w32 x3 < 60 then
        if w32 x3 < 40 then
          if w32 x3 = 13 then
            bnd (r_qPuts 1 m) fun r8 m9 =>
            r_isOpen_176 (fun v1 v2 m => r_isOpen_15 n v1 v2 m) v1 v2 m9
          else
          if w32 x3 = 12 then
            lal m 140 ((ld m 78 90) - 1) fun x6 =>
            ias m 140 ((ld m 78 90) - 1) (1 - x6) fun m7 =>
            r_isOpen_176 (fun v1 v2 m => r_isOpen_15 n v1 v2 m) v1 v2 m7
          else
          bnd (r_qJoins x3 m) fun r4 m5 =>
          r_isOpen_176 (fun v1 v2 m => r_isOpen_15 n v1 v2 m) v1 v2 m5
        else
        bnd (r_qPartOf (x3 - 40) 0 m) fun r10 m11 =>
        bnd (r_qPuts r10 m11) fun r12 m13 =>
        r_isOpen_176 (fun v1 v2 m => r_isOpen_15 n v1 v2 m) v1 v2 m13
      else
      lal m 140 ((ld m 78 90) - 1) fun x14 =>
      bnd (r_qOf (x3 - 60) x14 0 m) fun r15 m16 =>
      bnd (r_qClip r15 m16) fun r17 m18 =>
      ias m18 140 ((ld m 78 90) - 1) r17 fun m19 =>
      r_isOpen_176 (fun v1 v2 m => r_isOpen_15 n v1 v2 m) v1 v2 m19
    else
    bnd (r_qPuts (w32 (x3 - 1000)) m) fun r20 m21 =>
    r_isOpen_176 (fun v1 v2 m => r_isOpen_15 n v1 v2 m) v1 v2 m21
def r_isOpen (v1 : Int) (m : xm) : xr :=
  stf m 78 90 0 fun m1 =>
  ial m1 107 (6 + v1) fun x2 =>
  xlt x2 fun x3 =>
  r_isOpen_15 xLF v1 x3 m1
/-- LockOrchestraModel.openNow()I -/
def r_openNow_26 (k4 : Int → Int → xm → xr) (v1 : Int) (v2 : Int) (m : xm) : xr :=
  k4 v1 (v2 + 1) m
def r_openNow_4 : Nat → Int → Int → xm → xr
  | 0, _, _, _ => none
  | n + 1, v1, v2, m =>
    bnd (r_doorMany m) fun r1 m2 =>
    if w32 r1 ≤ w32 v2 then
      some (v1, m2)
    else
    bnd (r_isOpen v2 m2) fun r3 m4 =>
    if w32 r3 = 0 then
      r_openNow_26 (fun v1 v2 m => r_openNow_4 n v1 v2 m) v1 v2 m4
    else
    xlt (bor v1 (shl 1 v2)) fun x5 =>
    r_openNow_26 (fun v1 v2 m => r_openNow_4 n v1 v2 m) x5 v2 m4
def r_openNow (m : xm) : xr :=
  r_openNow_4 xLF 0 0 m
/-- LockOrchestraModel.has(I)I -/
def r_has_60 (v1 : Int) (m : xm) : xr :=
  ial m 101 (4 + v1) fun x1 =>
  some (x1, m)
def r_has (v1 : Int) (m : xm) : xr :=
  xsw (w32 v1) 0 [
    ( r_has_60 v1 m),
    ( r_has_60 v1 m),
    ( r_has_60 v1 m),
    ( r_has_60 v1 m),
    ( ial m 106 1 fun x1 =>
      some (x1, m)),
    ( ial m 110 0 fun x2 =>
      some (x2, m)),
    ( bnd (r_jammedNow m) fun r3 m4 =>
      some (r3, m4)),
    ( bnd (r_openNow m) fun r5 m6 =>
      some (r5, m6)),
    ( ial m 110 6 fun x7 =>
      some (x7, m)),
    ( some (ld m 78 58, m)),
    ( some (ld m 78 61, m))
    ] (
      some ((-1), m)
    )
/-- LockOrchestraModel.letter(III)I -/
def r_letter_124 (v4 : Int) (m : xm) : xr :=
  some (lrm v4 27, m)
def r_letter_104 : Nat → Int → Int → Int → xm → xr
  | 0, _, _, _, _ => none
  | n + 1, v3, v4, v7, m =>
    if w32 v7 ≤ w32 v3 then
      r_letter_124 v4 m
    else
    xlt (ldv v4 27) fun x1 =>
    r_letter_104 n v3 x1 (v7 + (-1)) m
def r_letter_90 (v3 : Int) (v4 : Int) (v6 : Int) (m : xm) : xr :=
  if w32 v3 < w32 v6 then
    xlt (v6 - 1) fun x1 =>
    r_letter_104 xLF v3 v4 x1 m
  else
  some (0, m)
def r_letter_69 : Nat → Int → Int → Int → Int → xm → xr
  | 0, _, _, _, _, _ => none
  | n + 1, v3, v4, v6, v7, m =>
    if w64 v7 ≤ 0 then
      r_letter_90 v3 v4 v6 m
    else
    xlt (ldv v7 27) fun x1 =>
    r_letter_69 n v3 v4 (v6 + 1) x1 m
def r_letter (v1 : Int) (v2 : Int) (v3 : Int) (m : xm) : xr :=
  bnd (r_isIn (w32 v1) 0 3 m) fun r1 m2 =>
  if w32 r1 = 0 then
    some ((-1), m2)
  else
  ial m2 101 (4 + v1) fun x3 =>
  bnd (r_isIn (w32 v2) 0 (w32 (x3 - 1)) m2) fun r4 m5 =>
  if w32 r4 = 0 then
    some ((-1), m5)
  else
  bnd (r_isIn (w32 v3) 0 5 m5) fun r6 m7 =>
  if w32 r6 = 0 then
    some ((-1), m7)
  else
  lal m7 102 ((24 + (6 * v1)) + v2) fun x8 =>
  xlt x8 fun x9 =>
  xlt x9 fun x10 =>
  r_letter_69 xLF v3 x9 0 x10 m7
/-- LockOrchestraModel.isLockThere(I)Z -/
def r_isLockThere (v1 : Int) (m : xm) : xr :=
  bnd (r_lockMany m) fun r1 m2 =>
  bnd (r_isIn (w32 v1) 0 (w32 (r1 - 1)) m2) fun r3 m4 =>
  xrb r3 m4
/-- LockOrchestraModel.lock(II)I -/
def r_lock_56 (v1 : Int) (v2 : Int) (m : xm) : xr :=
  ial m 103 ((11 + (3 * v1)) + v2) fun x1 =>
  some (x1, m)
def r_lock (v1 : Int) (v2 : Int) (m : xm) : xr :=
  bnd (r_isLockThere v1 m) fun r1 m2 =>
  if w32 r1 = 0 then
    some ((-1), m2)
  else
  xsw (w32 v2) 0 [
    ( bnd (r_wardsOf v1 m2) fun r3 m4 =>
      some (r3, m4)),
    ( bnd (r_wardNow v1 m2) fun r5 m6 =>
      some (r5, m6)),
    ( r_lock_56 v1 v2 m2),
    ( r_lock_56 v1 v2 m2),
    ( bnd (r_isJammed v1 m2) fun r7 m8 =>
      if w32 r7 = 0 then
        some (0, m8)
      else
      some (1, m8))
    ] (
      some ((-1), m2)
    )
/-- LockOrchestraModel.isNote(I)Z -/
def r_isNote (v1 : Int) (m : xm) : xr :=
  bnd (r_noteMany m) fun r1 m2 =>
  bnd (r_isIn (w32 v1) 0 (w32 (r1 - 1)) m2) fun r3 m4 =>
  xrb r3 m4
/-- LockOrchestraModel.playerMany()I -/
def r_playerMany (m : xm) : xr :=
  ial m 101 7 fun x1 =>
  some (x1, m)
/-- LockOrchestraModel.playersOf(I)I -/
def r_playersOf_34 (k4 : Int → Int → Int → xm → xr) (v1 : Int) (v2 : Int) (v3 : Int) (m : xm) : xr :=
  k4 v1 v2 (v3 + 1) m
def r_playersOf_4 : Nat → Int → Int → Int → xm → xr
  | 0, _, _, _, _ => none
  | n + 1, v1, v2, v3, m =>
    bnd (r_playerMany m) fun r1 m2 =>
    if w32 r1 ≤ w32 v3 then
      some (v2, m2)
    else
    ial m2 105 (5 + v3) fun x3 =>
    if ban (shr x3 v1) 1 = 1 then
      xlt (bor v2 (shl 1 v3)) fun x4 =>
      r_playersOf_34 (fun v1 v2 v3 m => r_playersOf_4 n v1 v2 v3 m) v1 x4 v3 m2
    else
    r_playersOf_34 (fun v1 v2 v3 m => r_playersOf_4 n v1 v2 v3 m) v1 v2 v3 m2
def r_playersOf (v1 : Int) (m : xm) : xr :=
  r_playersOf_4 xLF v1 0 0 m
/-- LockOrchestraModel.canPlay(I)Z -/
def r_canPlay_37 (k10 : Int → Int → xm → xr) (v1 : Int) (v2 : Int) (m : xm) : xr :=
  k10 v1 (v2 + 1) m
def r_canPlay_10 : Nat → Int → Int → xm → xr
  | 0, _, _, _ => none
  | n + 1, v1, v2, m =>
    bnd (r_lockMany m) fun r1 m2 =>
    if w32 r1 ≤ w32 v2 then
      some (1, m2)
    else
    bnd (r_turnOf v1 v2 m2) fun r3 m4 =>
    if w32 r3 ≤ 0 then
      r_canPlay_37 (fun v1 v2 m => r_canPlay_10 n v1 v2 m) v1 v2 m4
    else
    bnd (r_isJammed v2 m4) fun r5 m6 =>
    if w32 r5 = 0 then
      r_canPlay_37 (fun v1 v2 m => r_canPlay_10 n v1 v2 m) v1 v2 m6
    else
    some (0, m6)
def r_canPlay (v1 : Int) (m : xm) : xr :=
  if w32 v1 = 6 then
    some (1, m)
  else
  r_canPlay_10 xLF v1 0 m
/-- LockOrchestraModel.note(II)I -/
def r_note (v1 : Int) (v2 : Int) (m : xm) : xr :=
  bnd (r_isNote v1 m) fun r1 m2 =>
  if w32 r1 = 0 then
    some ((-1), m2)
  else
  bnd (r_lockMany m2) fun r3 m4 =>
  bnd (r_isIn (w32 v2) 10 (w32 (9 + r3)) m4) fun r5 m6 =>
  if w32 r5 = 0 then
    if w32 v2 = 0 then
      bnd (r_canPlay v1 m6) fun r9 m10 =>
      if w32 r9 = 0 then
        some (0, m10)
      else
      some (1, m10)
    else
    if w32 v2 = 1 then
      bnd (r_playersOf v1 m6) fun r7 m8 =>
      some (r7, m8)
    else
    some ((-1), m6)
  else
  bnd (r_turnOf v1 (v2 - 10) m6) fun r11 m12 =>
  some (r11, m12)
/-- LockOrchestraModel.door(I)I -/
def r_door (v1 : Int) (m : xm) : xr :=
  bnd (r_doorMany m) fun r1 m2 =>
  bnd (r_isIn (w32 v1) 0 (w32 (r1 - 1)) m2) fun r3 m4 =>
  if w32 r3 = 0 then
    some ((-1), m4)
  else
  bnd (r_isOpen v1 m4) fun r5 m6 =>
  if w32 r5 = 0 then
    some (0, m6)
  else
  some (1, m6)
/-- LockOrchestraModel.player(I)I -/
def r_player (v1 : Int) (m : xm) : xr :=
  bnd (r_playerMany m) fun r1 m2 =>
  bnd (r_isIn (w32 v1) 0 (w32 (r1 - 1)) m2) fun r3 m4 =>
  if w32 r3 = 0 then
    some ((-1), m4)
  else
  ial m4 105 (5 + v1) fun x5 =>
  some (x5, m4)
/-- LockOrchestraModel.kept(II)I -/
def r_kept (v1 : Int) (v2 : Int) (m : xm) : xr :=
  ial m 110 6 fun x1 =>
  bnd (r_isIn (w32 v1) 0 (w32 (x1 - 1)) m) fun r2 m3 =>
  if w32 r2 = 0 then
    some ((-1), m3)
  else
  bnd (r_isIn (w32 v2) 0 2 m3) fun r4 m5 =>
  if w32 r4 = 0 then
    some ((-1), m5)
  else
  ial m5 110 ((7 + (3 * v1)) + v2) fun x6 =>
  some (x6, m5)
/-- LockOrchestraModel.isPiece(I)Z -/
def r_isPiece_89 (v2 : Int) (m : xm) : xr :=
  stf m 78 46 v2 fun m1 =>
  some (1, m1)
def r_isPiece_66 : Nat → Int → Int → xm → xr
  | 0, _, _, _ => none
  | n + 1, v2, v3, m =>
    if w32 v2 ≤ w32 v3 then
      r_isPiece_89 v2 m
    else
    ial m 79 v3 fun x1 =>
    ias m 112 v3 x1 fun m2 =>
    r_isPiece_66 n v2 (v3 + 1) m2
def r_isPiece_64 (v2 : Int) (m : xm) : xr :=
  r_isPiece_66 xLF v2 0 m
def r_isPiece_58 (k27 : Int → Int → xm → xr) (v2 : Int) (v3 : Int) (m : xm) : xr :=
  k27 v2 (v3 + 1) m
def r_isPiece_27 : Nat → Int → Int → xm → xr
  | 0, _, _, _ => none
  | n + 1, v2, v3, m =>
    if w32 v2 ≤ w32 v3 then
      r_isPiece_64 v2 m
    else
    ial m 79 v3 fun x1 =>
    if w32 x1 = 6 then
      r_isPiece_58 (fun v2 v3 m => r_isPiece_27 n v2 v3 m) v2 v3 m
    else
    ial m 79 v3 fun x2 =>
    bnd (r_isNote x2 m) fun r3 m4 =>
    if w32 r3 = 0 then
      some (0, m4)
    else
    r_isPiece_58 (fun v2 v3 m => r_isPiece_27 n v2 v3 m) v2 v3 m4
def r_isPiece (v1 : Int) (m : xm) : xr :=
  stf m 78 1 0 fun m1 =>
  bnd (r_isIn (ld m 78 1) (w32 v1) 20 m1) fun r2 m3 =>
  if w32 r2 = 0 then
    some (0, m3)
  else
  r_isPiece_27 xLF (ld m 78 1) 0 m3
