/-! THE CELLS AS NUMBERS: m a k is what stands in cell a at place k -/
abbrev xm : Type := Nat → Int → Int
abbrev xr : Type := Option (Int × xm)
abbrev i32 (x : Int) : Int32 := Int32.ofInt x
abbrev i64 (x : Int) : Int64 := Int64.ofInt x
def w32 (x : Int) : Int := (i32 x).toInt
def w64 (x : Int) : Int := (i64 x).toInt
/-- one of the two halls -/
def hlr (x : Int) : Nat := if x = 48 then 48 else 63
/-- the cells' shapes: 0 ints, 1 longs, 2 signs, 3 the past rows (length); 4 an object (its number, its fields) -/
def xsh : List (Nat × Nat × List (Nat × Int) × List Nat) := [
  (4, 11, [(0, 1), (0, 3), (0, 4), (0, 6), (0, 11), (0, 16), (0, 18), (0, 21), (0, 44), (0, 45), (0, 46), (0, 47), (3, 0), (3, 0), (1, 0), (1, 0), (1, 0), (2, 0)], []),
  (4, 8, [(0, 2), (1, 0)], []),
  (0, 1600, [], []),
  (4, 10, [(0, 1), (1, 0), (1, 0), (1, 0), (1, 0), (1, 0)], []),
  (4, 2, [(0, 3), (0, 5)], []),
  (4, 9, [(0, 3), (4, 0)], []),
  (4, 5, [(0, 3), (0, 10), (0, 7), (1, 0)], []),
  (4, 0, [(0, 8), (0, 9), (1, 0), (1, 0)], []),
  (0, 1600, [], []),
  (0, 64, [], []),
  (4, 9, [(0, 3), (4, 1)], []),
  (4, 6, [(0, 12), (0, 13), (0, 14), (0, 15), (1, 0), (1, 0), (1, 0)], []),
  (0, 313, [], []),
  (0, 1296, [], []),
  (0, 1296, [], []),
  (0, 1296, [], []),
  (4, 4, [(0, 17), (1, 0)], []),
  (0, 20, [], []),
  (4, 3, [(0, 19), (0, 20), (1, 0)], []),
  (0, 20, [], []),
  (0, 20, [], []),
  (4, 7, [(0, 22), (0, 23), (1, 0), (1, 0)], []),
  (0, 43, [], []),
  (3, 20, [], []),
  (0, 43, [], []),
  (0, 43, [], []),
  (0, 43, [], []),
  (0, 43, [], []),
  (0, 43, [], []),
  (0, 43, [], []),
  (0, 43, [], []),
  (0, 43, [], []),
  (0, 43, [], []),
  (0, 43, [], []),
  (0, 43, [], []),
  (0, 43, [], []),
  (0, 43, [], []),
  (0, 43, [], []),
  (0, 43, [], []),
  (0, 43, [], []),
  (0, 43, [], []),
  (0, 43, [], []),
  (0, 43, [], []),
  (0, 43, [], []),
  (0, 3, [], []),
  (0, 2, [], []),
  (0, 11, [], []),
  (0, 6, [], []),
  (4, 1, [(0, 49), (0, 52), (0, 53), (0, 54), (0, 55), (0, 56), (0, 57), (0, 58), (0, 59), (0, 60), (0, 61), (0, 62), (1, 0), (1, 0), (1, 0)], []),
  (4, 0, [(0, 50), (0, 51), (1, 0), (1, 0)], []),
  (0, 1600, [], []),
  (0, 64, [], []),
  (0, 4, [], []),
  (0, 24, [], []),
  (0, 4, [], []),
  (0, 4, [], []),
  (0, 4, [], []),
  (0, 24, [], []),
  (0, 6, [], []),
  (0, 5, [], []),
  (0, 6, [], []),
  (0, 6, [], []),
  (0, 2500, [], []),
  (4, 1, [(0, 64), (0, 67), (0, 68), (0, 69), (0, 70), (0, 71), (0, 72), (0, 73), (0, 74), (0, 75), (0, 76), (0, 77), (1, 0), (1, 0), (1, 0)], []),
  (4, 0, [(0, 65), (0, 66), (1, 0), (1, 0)], []),
  (0, 1600, [], []),
  (0, 64, [], []),
  (0, 4, [], []),
  (0, 24, [], []),
  (0, 4, [], []),
  (0, 4, [], []),
  (0, 4, [], []),
  (0, 24, [], []),
  (0, 6, [], []),
  (0, 5, [], []),
  (0, 6, [], []),
  (0, 6, [], []),
  (0, 2500, [], []),
  (4, 12, [(0, 79), (1, 0), (1, 0), (1, 0), (1, 0), (1, 0), (1, 0), (1, 0), (1, 0), (0, 80), (0, 81), (0, 82), (0, 83), (0, 84), (0, 85), (0, 86), (0, 87), (0, 88), (0, 89), (0, 90), (0, 91), (0, 92), (0, 93), (0, 94), (0, 95), (0, 96), (0, 97), (0, 98), (0, 99), (0, 100), (1, 0), (0, 101), (0, 102), (0, 103), (0, 104), (0, 105), (0, 106), (0, 107), (0, 108), (0, 109), (1, 0), (1, 0), (1, 0), (0, 110), (0, 111), (0, 112), (1, 0), (1, 0), (1, 0), (1, 0), (1, 0), (0, 113), (0, 114), (0, 115), (0, 116), (1, 0), (1, 0), (1, 0), (1, 0), (0, 117), (0, 118), (1, 0), (1, 0), (2, 0), (0, 119), (0, 120), (0, 121), (0, 122), (0, 123), (0, 124), (0, 125), (0, 126), (0, 127), (0, 128), (0, 129), (0, 130), (0, 131), (0, 132), (0, 133), (0, 134), (0, 135), (0, 136), (0, 137), (0, 138), (1, 0), (0, 139), (1, 0), (1, 0), (1, 0), (0, 140), (1, 0), (2, 0), (1, 0), (0, 141), (1, 0)], []),
  (0, 1600, [], []),
  (0, 6, [], []),
  (2, 4, [], [108, 111, 99, 107]),
  (2, 5, [], [119, 97, 114, 100, 115]),
  (2, 2, [], [97, 116]),
  (2, 4, [], [106, 97, 109, 115]),
  (2, 4, [], [110, 111, 116, 101]),
  (2, 5, [], [116, 117, 114, 110, 115]),
  (2, 4, [], [100, 111, 111, 114]),
  (2, 5, [], [111, 112, 101, 110, 115]),
  (2, 6, [], [112, 108, 97, 121, 101, 114]),
  (2, 5, [], [112, 108, 97, 121, 115]),
  (2, 4, [], [114, 117, 115, 116]),
  (2, 4, [], [119, 97, 114, 100]),
  (2, 5, [], [115, 116, 117, 99, 107]),
  (2, 6, [], [110, 117, 109, 98, 101, 114]),
  (2, 2, [], [111, 114]),
  (2, 3, [], [97, 110, 100]),
  (2, 3, [], [110, 111, 116]),
  (2, 3, [], [97, 108, 108]),
  (2, 3, [], [109, 105, 110]),
  (2, 3, [], [109, 97, 120]),
  (0, 8, [], []),
  (1, 48, [], []),
  (0, 24, [], []),
  (0, 48, [], []),
  (0, 10, [], []),
  (0, 2, [], []),
  (0, 12, [], []),
  (0, 12, [], []),
  (0, 3200, [], []),
  (0, 127, [], []),
  (0, 127, [], []),
  (0, 20, [], []),
  (0, 10000, [], []),
  (0, 10000, [], []),
  (0, 10000, [], []),
  (0, 10000, [], []),
  (0, 40, [], []),
  (0, 2540, [], []),
  (2, 5, [], [102, 105, 114, 115, 116]),
  (2, 4, [], [108, 97, 115, 116]),
  (2, 5, [], [111, 102, 116, 101, 110]),
  (2, 5, [], [116, 111, 116, 97, 108]),
  (2, 4, [], [109, 111, 115, 116]),
  (2, 5, [], [108, 101, 97, 115, 116]),
  (2, 3, [], [110, 111, 116]),
  (2, 3, [], [97, 110, 100]),
  (2, 2, [], [111, 114]),
  (2, 3, [], [97, 108, 108]),
  (2, 3, [], [109, 105, 110]),
  (2, 3, [], [109, 97, 120]),
  (2, 4, [], [106, 97, 109, 115]),
  (2, 6, [], [110, 117, 109, 98, 101, 114]),
  (2, 5, [], [119, 97, 114, 100, 115]),
  (2, 4, [], [119, 97, 114, 100]),
  (2, 5, [], [115, 116, 117, 99, 107]),
  (2, 2, [], [97, 116]),
  (2, 5, [], [116, 117, 114, 110, 115]),
  (0, 1700, [], []),
  (0, 1700, [], []),
  (1, 1700, [], []),
  (0, 11, [], [])]
def xsa (a : Nat) : Nat × Nat × List (Nat × Int) × List Nat := xsh.getD a (0, 0, [], [])
/-- the texts that the program has as constants -/
def xlit : List (List Nat) := [
  [108, 111, 99, 107],
  [32, 108, 111, 99, 107, 32, 119, 97, 114, 100, 115, 32, 97, 116, 32, 106, 97, 109, 115, 32, 110, 111, 116, 101, 32, 116, 117, 114, 110, 115, 32, 100, 111, 111, 114, 32, 111, 112, 101, 110, 115, 32, 112, 108, 97, 121, 101, 114, 32, 112, 108, 97, 121, 115, 32, 114, 117, 115, 116, 32, 119, 97, 114, 100, 32, 115, 116, 117, 99, 107, 32, 110, 117, 109, 98, 101, 114, 32, 111, 114, 32, 97, 110, 100, 32, 110, 111, 116, 32, 97, 108, 108, 32, 109, 105, 110, 32, 109, 97, 120, 32],
  [119, 97, 114, 100, 115],
  [97, 116],
  [106, 97, 109, 115],
  [110, 111, 116, 101],
  [116, 117, 114, 110, 115],
  [100, 111, 111, 114],
  [111, 112, 101, 110, 115],
  [110, 111, 116],
  [97, 108, 108],
  [109, 105, 110],
  [109, 97, 120],
  [97, 116],
  [116, 117, 114, 110, 115],
  [106, 97, 109, 115],
  [110, 117, 109, 98, 101, 114],
  [119, 97, 114, 100, 115],
  [119, 97, 114, 100],
  [115, 116, 117, 99, 107],
  [97, 110, 100],
  [111, 114],
  [112, 108, 97, 121, 101, 114],
  [112, 108, 97, 121, 115],
  [114, 117, 115, 116],
  [102, 105, 114, 115, 116],
  [108, 97, 115, 116],
  [111, 102, 116, 101, 110],
  [116, 111, 116, 97, 108],
  [109, 111, 115, 116],
  [108, 101, 97, 115, 116]]
def wlen (j : Nat) : Int := ((xlit.getD j []).length : Int)
def wchr (j : Nat) (k : Int) : Int := (((xlit.getD j []).getD k.toNat 0 : Nat) : Int)
/-- what is written -/
def st (m : xm) (a : Nat) (k v : Int) : xm := fun b j => if b = a ∧ j = k then v else m b j
theorem st_ne {m : xm} {a b : Nat} {k v : Int} (h : b ≠ a) : st m a k v b = m b := by
  funext j
  unfold st
  rw [if_neg (fun z => h z.1)]
/-- what is read -/
def ld (m : xm) (a : Nat) (k : Int) : Int := w32 (m a k)
def ldl (m : xm) (a : Nat) (k : Int) : Int := w64 (m a k)
def hl (m : xm) (k : Int) : Nat := hlr (m 0 k)
def isH (h : Nat) : Prop := h = 48 ∨ h = 63
def isC (c : Nat) : Prop := c = 7 ∨ c = 49 ∨ c = 64
def isT (t : Nat) : Prop := t = 5 ∨ t = 10
theorem hlr_or (x : Int) : isH (hlr x) := by
  unfold hlr
  split
  · exact Or.inl rfl
  · exact Or.inr rfl
theorem hl_or (m : xm) (k : Int) : isH (hl m k) := hlr_or _
theorem isC_H {h : Nat} (p : isH h) : isC (h + 1) := by
  rcases p with rfl | rfl
  · exact Or.inr (Or.inl rfl)
  · exact Or.inr (Or.inr rfl)
/-- whether a reader of tests reads questions -/
def tol (t : Nat) : Int := if t = 10 then 1 else 0
def aln (a : Nat) : Int := ((xsa a).2.1 : Int)
def xia (a : Nat) : Bool := decide (a < 142) && (xsa a).1 == 0
def xca (a : Nat) : Bool := decide (a < 142) && (xsa a).1 == 2
def bnd (o : xr) (K : Int → xm → xr) : xr := match o with
  | none => none
  | some p => K p.1 p.2
theorem bnd_some {x : Int} {m : xm} {K : Int → xm → xr} : bnd (some (x, m)) K = K x m := rfl
def xlt (x : Int) (K : Int → xr) : xr := K x
def xga (a : Nat) (o : xr) : xr := if xia a = true then o else none
def stf (m : xm) (a : Nat) (k v : Int) (K : xm → xr) : xr := K (st m a k v)
def ial (m : xm) (a : Nat) (k : Int) (K : Int → xr) : xr := if 0 ≤ w32 k ∧ w32 k < aln a then K (ld m a (w32 k)) else none
def lal (m : xm) (a : Nat) (k : Int) (K : Int → xr) : xr := if 0 ≤ w32 k ∧ w32 k < aln a then K (ldl m a (w32 k)) else none
def aal (k : Int) (K : Nat → xr) : xr := if 0 ≤ w32 k ∧ w32 k < 20 then K (24 + (w32 k).toNat) else none
def ias (m : xm) (a : Nat) (k v : Int) (K : xm → xr) : xr := if 0 ≤ w32 k ∧ w32 k < aln a then K (st m a (w32 k) v) else none
def wch (a : Nat) (k : Int) : Int := (((xsa a).2.2.2.getD k.toNat 0 : Nat) : Int)
def cld (a : Nat) (k : Int) (K : Int → xr) : xr := if 0 ≤ w32 k ∧ w32 k < aln a then K (wch a (w32 k)) else none
/-- the most of each kind -/
def mok (k : Int) : Int := (([4, 6, 6, 5] : List Nat).getD k.toNat 0 : Nat)
def kal (k : Int) (K : Int → xr) : xr := if 0 ≤ w32 k ∧ w32 k < 4 then K (mok (w32 k)) else none
/-- the script -/
def xal (L : Nat) (xs : Nat → Int32) (k : Int) (K : Int → xr) : xr := if 0 ≤ w32 k ∧ w32 k < (L : Int) then K (xs (w32 k).toNat).toInt else none
/-- System.arraycopy -/
def cpy (m : xm) (a0 : Nat) (sp : Int) (a : Nat) (dp n : Int) : xm := fun b j => if b = a ∧ dp ≤ j ∧ j < dp + n then m a0 (sp + (j - dp)) else m b j
def acp (m : xm) (a0 : Nat) (sp : Int) (a : Nat) (dp n : Int) (K : xm → xr) : xr := if 0 ≤ w32 sp ∧ 0 ≤ w32 dp ∧ 0 ≤ w32 n ∧ w32 sp + w32 n ≤ aln a0 ∧ w32 dp + w32 n ≤ aln a then K (cpy m a0 (w32 sp) a (w32 dp) (w32 n)) else none
/-- a text's length and its bytes -/
def j_len (j : Nat) (m : xm) : xr := some (wlen j, m)
def j_chr (j : Nat) (k : Int) (m : xm) : xr := if 0 ≤ w32 k ∧ w32 k < wlen j then some (wchr j (w32 k), m) else none
/-- what a boolean method answers -/
def xrb (x : Int) (m : xm) : xr := if x = 0 ∨ x = 1 then some (x, m) else none
def xsw (x : Int) : Int → List xr → xr → xr
  | _, [], D => D
  | lo, A :: t, D => if x = lo then A else xsw x (lo + 1) t D
def xlw (x : Int) : List (Int × xr) → xr → xr
  | [], D => D
  | A :: t, D => if x = A.1 then A.2 else xlw x t D
def ban (x y : Int) : Int := (i32 x &&& i32 y).toInt
def bor (x y : Int) : Int := (i32 x ||| i32 y).toInt
def bxo (x y : Int) : Int := (i32 x ^^^ i32 y).toInt
def shl (x y : Int) : Int := (i32 x <<< (i32 y &&& 31)).toInt
def shr (x y : Int) : Int := (i32 x >>> (i32 y &&& 31)).toInt
def usr (x y : Int) : Int := ((i32 x).toUInt32 >>> ((i32 y).toUInt32 &&& Int32.toUInt32 31)).toInt32.toInt
def idv (x y : Int) : Int := (i32 x / i32 y).toInt
def irm (x y : Int) : Int := (i32 x - i32 x / i32 y * i32 y).toInt
def lan (x y : Int) : Int := (i64 x &&& i64 y).toInt
def lbo (x y : Int) : Int := (i64 x ||| i64 y).toInt
def lsl (x y : Int) : Int := (i64 x <<< ((i32 y).toInt64 &&& 63)).toInt
def lsr (x y : Int) : Int := (i64 x >>> ((i32 y).toInt64 &&& 63)).toInt
def ldv (x y : Int) : Int := (i64 x / i64 y).toInt
def lrm (x y : Int) : Int := (i64 x - i64 x / i64 y * i64 y).toInt
/-- how often the body of a loop may be gone through -/
def xLF : Nat := 20000
theorem i32_w (x : Int) : i32 (w32 x) = i32 x := Int32.ofInt_toInt _
theorem i64_w (x : Int) : i64 (w64 x) = i64 x := Int64.ofInt_toInt _
theorem w32_w (x : Int) : w32 (w32 x) = w32 x := by
  unfold w32 i32
  rw [Int32.ofInt_toInt]
theorem w64_w (x : Int) : w64 (w64 x) = w64 x := by
  unfold w64 i64
  rw [Int64.ofInt_toInt]
theorem w32_ld (m : xm) (a : Nat) (k : Int) : w32 (ld m a k) = ld m a k := w32_w _
theorem w64_ldl (m : xm) (a : Nat) (k : Int) : w64 (ldl m a k) = ldl m a k := w64_w _
theorem w32_of (z : Int32) : w32 z.toInt = z.toInt := by
  unfold w32 i32
  rw [Int32.ofInt_toInt]
theorem w64_of (z : Int64) : w64 z.toInt = z.toInt := by
  unfold w64 i64
  rw [Int64.ofInt_toInt]
theorem w32_id {x : Int} (h1 : -2147483648 ≤ x) (h2 : x ≤ 2147483647) : w32 x = x := Int32.toInt_ofInt_of_le (by omega) (by omega)
theorem w64_id {x : Int} (h1 : -9223372036854775808 ≤ x) (h2 : x ≤ 9223372036854775807) : w64 x = x := Int64.toInt_ofInt_of_le (by omega) (by omega)
theorem w32_ge (x : Int) : -2147483648 ≤ w32 x := by
  have := Int32.le_toInt (i32 x)
  unfold w32
  omega
theorem w32_le (x : Int) : w32 x ≤ 2147483647 := by
  have := Int32.toInt_lt (i32 x)
  unfold w32
  omega
theorem w64_ge (x : Int) : -9223372036854775808 ≤ w64 x := by
  have := Int64.le_toInt (i64 x)
  unfold w64
  omega
theorem w64_le (x : Int) : w64 x ≤ 9223372036854775807 := by
  have := Int64.toInt_lt (i64 x)
  unfold w64
  omega
theorem w64_w32 (x : Int) : w64 (w32 x) = w32 x := w64_id (by have := w32_ge x; omega) (by have := w32_le x; omega)
theorem xsh_le : ∀ q ∈ xsh, q.2.1 ≤ 10000 := by decide +kernel
theorem aln_le (a : Nat) : aln a ≤ 10000 := by
  unfold aln xsa
  rw [List.getD_eq_getElem?_getD]
  cases h : xsh[a]? with
  | none => decide
  | some q =>
    have := xsh_le q (List.mem_of_getElem? h)
    show (q.2.1 : Int) ≤ 10000
    omega
theorem aln_ge (a : Nat) : 0 ≤ aln a := by
  unfold aln
  omega
theorem w32_aln (a : Nat) : w32 (aln a) = aln a := w32_id (by have := aln_ge a; omega) (by have := aln_le a; omega)
