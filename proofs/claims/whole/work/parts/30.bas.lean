/-! basics: reading behind writing, numbers in their range, bits -/
theorem ld_st (m : xm) (a b : Nat) (k j v : Int) : ld (st m a k v) b j = if b = a ∧ j = k then w32 v else ld m b j := by
  unfold ld st
  split <;> rfl
theorem ldl_st (m : xm) (a b : Nat) (k j v : Int) : ldl (st m a k v) b j = if b = a ∧ j = k then w64 v else ldl m b j := by
  unfold ldl st
  split <;> rfl
theorem ld_st_eq {m : xm} {a : Nat} {k v : Int} : ld (st m a k v) a k = w32 v := by rw [ld_st, if_pos ⟨rfl, rfl⟩]
theorem ld_st_ne {m : xm} {a : Nat} {k j v : Int} (h : j ≠ k) : ld (st m a k v) a j = ld m a j := by rw [ld_st, if_neg (fun z => h z.2)]
theorem ld_st_nc {m : xm} {a b : Nat} {k j v : Int} (h : b ≠ a) : ld (st m a k v) b j = ld m b j := by rw [ld_st, if_neg (fun z => h z.1)]
theorem ld_cg {m m' : xm} {a : Nat} (h : m' a = m a) (k : Int) : ld m' a k = ld m a k := by
  unfold ld
  rw [h]
theorem ldl_cg {m m' : xm} {a : Nat} (h : m' a = m a) (k : Int) : ldl m' a k = ldl m a k := by
  unfold ldl
  rw [h]
theorem ld_ge (m : xm) (a : Nat) (k : Int) : -2147483648 ≤ ld m a k := w32_ge _
theorem ld_le (m : xm) (a : Nat) (k : Int) : ld m a k ≤ 2147483647 := w32_le _
theorem xLF_eq : xLF = 19999 + 1 := rfl
theorem i32_toInt {x : Int} (h1 : -2147483648 ≤ x) (h2 : x ≤ 2147483647) : (i32 x).toInt = x := w32_id h1 h2
theorem i64_toInt {x : Int} (h1 : -9223372036854775808 ≤ x) (h2 : x ≤ 9223372036854775807) : (i64 x).toInt = x := w64_id h1 h2
theorem idv_t {x y : Int} (h1 : -2147483648 < x) (h2 : x ≤ 2147483647) (h3 : -2147483648 ≤ y) (h4 : y ≤ 2147483647) : idv x y = x.tdiv y := by
  unfold idv
  rw [Int32.toInt_div, i32_toInt (by omega) h2, i32_toInt h3 h4]
  have h5 : (x.tdiv y).natAbs ≤ x.natAbs := Int.natAbs_tdiv_le_natAbs x y
  rw [Int.bmod_eq_of_le] <;> omega
theorem idv_nn {x y : Int} (h1 : 0 ≤ x) (h2 : x ≤ 2147483647) (h3 : 0 < y) (h4 : y ≤ 2147483647) : idv x y = x / y := by
  rw [idv_t (by omega) h2 (by omega) h4, Int.tdiv_eq_ediv_of_nonneg h1]
theorem irm_nn {x y : Int} (h1 : 0 ≤ x) (h2 : x ≤ 2147483647) (h3 : 0 < y) (h4 : y ≤ 2147483647) : irm x y = x % y := by
  have h5 := idv_nn h1 h2 h3 h4
  have h6 : i32 x / i32 y = i32 (x / y) := by
    apply Int32.toInt_inj.mp
    have h7 : 0 ≤ x / y := Int.ediv_nonneg h1 (by omega)
    have h8 : x / y ≤ x := Int.ediv_le_self _ h1
    rw [i32_toInt (by omega) (by omega)]
    exact h5
  unfold irm
  rw [h6]
  have h9 : i32 x - i32 (x / y) * i32 y = i32 (x % y) := by
    unfold i32
    rw [← Int32.ofInt_mul, ← Int32.ofInt_sub]
    congr 1
    have := Int.emod_add_mul_ediv x y
    rw [Int.mul_comm] at this
    omega
  rw [h9]
  have h10 := Int.emod_nonneg x (show y ≠ 0 by omega)
  have h11 := Int.emod_lt_of_pos x h3
  exact i32_toInt (by omega) (by omega)
/-! bits -/
def bt (j l : Int) : Int := j / 2 ^ l.toNat % 2
def sb (j l : Int) : Int := if bt j l = 1 then j else j + 2 ^ l.toNat
def cb (j l : Int) : Int := if bt j l = 1 then j - 2 ^ l.toNat else j
def bc (j : Int) : Int := bt j 0 + bt j 1 + bt j 2 + bt j 3 + bt j 4 + bt j 5
theorem bt_01 (j l : Int) : bt j l = 0 ∨ bt j l = 1 := by
  unfold bt
  omega
theorem nat2 {x : Int} {n : Nat} (h1 : 0 ≤ x) (h2 : x < n) : ∃ k : Nat, k < n ∧ x = (k : Int) := ⟨x.toNat, by omega, by omega⟩
theorem bt_shr0 : ∀ j : Nat, j < 128 → ∀ l : Nat, l < 8 → ban (shr (j : Int) (l : Int)) 1 = bt j l := by decide +kernel
theorem bt_shr {j l : Int} (h1 : 0 ≤ j) (h2 : j < 128) (h3 : 0 ≤ l) (h4 : l < 8) : ban (shr j l) 1 = bt j l := by
  obtain ⟨a, ha, rfl⟩ := nat2 (n := 128) h1 h2
  obtain ⟨b, hb, rfl⟩ := nat2 (n := 8) h3 h4
  exact bt_shr0 a ha b hb
theorem bor_sb0 : ∀ j : Nat, j < 64 → ∀ l : Nat, l < 6 → bor (j : Int) (shl 1 (l : Int)) = sb j l := by decide +kernel
theorem bor_sb {j l : Int} (h1 : 0 ≤ j) (h2 : j < 64) (h3 : 0 ≤ l) (h4 : l < 6) : bor j (shl 1 l) = sb j l := by
  obtain ⟨a, ha, rfl⟩ := nat2 (n := 64) h1 h2
  obtain ⟨b, hb, rfl⟩ := nat2 (n := 6) h3 h4
  exact bor_sb0 a ha b hb
theorem ban_cb0 : ∀ j : Nat, j < 64 → ∀ l : Nat, l < 6 → ban (j : Int) (bxo (shl 1 (l : Int)) (-1)) = cb j l := by decide +kernel
theorem ban_cb {j l : Int} (h1 : 0 ≤ j) (h2 : j < 64) (h3 : 0 ≤ l) (h4 : l < 6) : ban j (bxo (shl 1 l) (-1)) = cb j l := by
  obtain ⟨a, ha, rfl⟩ := nat2 (n := 64) h1 h2
  obtain ⟨b, hb, rfl⟩ := nat2 (n := 6) h3 h4
  exact ban_cb0 a ha b hb
theorem shl1_0 : ∀ l : Nat, l < 12 → shl 1 (l : Int) = 2 ^ l := by decide +kernel
theorem shl1 {l : Int} (h3 : 0 ≤ l) (h4 : l < 12) : shl 1 l = 2 ^ l.toNat := by
  obtain ⟨b, hb, rfl⟩ := nat2 (n := 12) h3 h4
  exact shl1_0 b hb
theorem sb_bt0 : ∀ j : Nat, j < 64 → ∀ l : Nat, l < 6 → (∀ k : Nat, k < 6 → bt (sb j l) k = if k = l then 1 else bt j k) ∧ 0 ≤ sb j l ∧ sb j l < 64 := by decide +kernel
theorem sb_bt {j l k : Int} (h1 : 0 ≤ j) (h2 : j < 64) (h3 : 0 ≤ l) (h4 : l < 6) (h5 : 0 ≤ k) (h6 : k < 6) : bt (sb j l) k = if k = l then 1 else bt j k := by
  obtain ⟨a, ha, rfl⟩ := nat2 (n := 64) h1 h2
  obtain ⟨b, hb, rfl⟩ := nat2 (n := 6) h3 h4
  obtain ⟨c, hc, rfl⟩ := nat2 (n := 6) h5 h6
  rw [(sb_bt0 a ha b hb).1 c hc]
  by_cases h : c = b
  · rw [if_pos h, if_pos (by omega)]
  · rw [if_neg h, if_neg (by omega)]
theorem bt_ext0 : ∀ i : Nat, i < 64 → ∀ j : Nat, j < 64 → (∀ k : Nat, k < 6 → bt i k = bt j k) → i = j := by decide +kernel
theorem bt_ext {i j : Int} (h1 : 0 ≤ i) (h2 : i < 64) (h3 : 0 ≤ j) (h4 : j < 64) (h : ∀ k, 0 ≤ k → k < 6 → bt i k = bt j k) : i = j := by
  obtain ⟨a, ha, rfl⟩ := nat2 (n := 64) h1 h2
  obtain ⟨b, hb, rfl⟩ := nat2 (n := 64) h3 h4
  rw [bt_ext0 a ha b hb (fun k hk => h k (by omega) (by omega))]
def jbc (j : Int) : Int := match j_bitCount j (fun _ _ => 0) with
  | some p => p.1
  | none => 0
theorem j_bitCount_eq (j : Int) (m : xm) : j_bitCount j m = some (jbc j, m) := rfl
theorem jbc_bc0 : ∀ j : Nat, j < 64 → jbc (j : Int) = bc j := by decide +kernel
theorem j_bitCount_bc {j : Int} {m : xm} (h1 : 0 ≤ j) (h2 : j < 64) : j_bitCount j m = some (bc j, m) := by
  obtain ⟨a, ha, rfl⟩ := nat2 (n := 64) h1 h2
  rw [j_bitCount_eq, jbc_bc0 a ha]
theorem cell_in {a : Nat} {k : Int} {m : xm} (h1 : 0 ≤ k) (h2 : k < aln a) : cL_cell a k m = some (ld m a k, m) := by
  have h3 := aln_le a
  unfold cL_cell ial
  rw [w32_id (by omega) (by omega), if_neg (by omega), if_neg (by omega), if_pos ⟨h1, h2⟩]
theorem cell_out {a : Nat} {k : Int} {m : xm} (h : w32 k < 0 ∨ aln a ≤ w32 k) : cL_cell a k m = some (0, m) := by
  unfold cL_cell
  by_cases h1 : w32 k < 0
  · rw [if_pos h1]
  · rw [if_neg h1, if_pos (by omega)]
theorem setCell_in {a : Nat} {k v : Int} {m : xm} (h1 : 0 ≤ k) (h2 : k < aln a) : cL_setCell a k v m = some (0, st m a k v) := by
  have h3 := aln_le a
  unfold cL_setCell ias
  rw [w32_id (by omega) (by omega), if_neg (by omega), if_neg (by omega), if_pos ⟨h1, h2⟩]
theorem setCell_out {a : Nat} {k v : Int} {m : xm} (h : w32 k < 0 ∨ aln a ≤ w32 k) : cL_setCell a k v m = some (0, m) := by
  unfold cL_setCell
  by_cases h1 : w32 k < 0
  · rw [if_pos h1]
  · rw [if_neg h1, if_pos (by omega)]
theorem ial_in {a : Nat} {k : Int} {m : xm} {K : Int → xr} (h1 : 0 ≤ k) (h2 : k < aln a) : ial m a k K = K (ld m a k) := by
  have h3 := aln_le a
  unfold ial
  rw [w32_id (by omega) (by omega), if_pos ⟨h1, h2⟩]
theorem ias_in {a : Nat} {k v : Int} {m : xm} {K : xm → xr} (h1 : 0 ≤ k) (h2 : k < aln a) : ias m a k v K = K (st m a k v) := by
  have h3 := aln_le a
  unfold ias
  rw [w32_id (by omega) (by omega), if_pos ⟨h1, h2⟩]
theorem lal_in {a : Nat} {k : Int} {m : xm} {K : Int → xr} (h1 : 0 ≤ k) (h2 : k < aln a) : lal m a k K = K (ldl m a k) := by
  have h3 := aln_le a
  unfold lal
  rw [w32_id (by omega) (by omega), if_pos ⟨h1, h2⟩]
theorem cld_in {a : Nat} {k : Int} {K : Int → xr} (h1 : 0 ≤ k) (h2 : k < aln a) : cld a k K = K (wch a k) := by
  have h3 := aln_le a
  unfold cld
  rw [w32_id (by omega) (by omega), if_pos ⟨h1, h2⟩]
theorem stf_eq {m : xm} {a : Nat} {k v : Int} {K : xm → xr} : stf m a k v K = K (st m a k v) := rfl
theorem xlt_eq {x : Int} {K : Int → xr} : xlt x K = K x := rfl
theorem xrb_1 {m : xm} : xrb 1 m = some (1, m) := rfl
theorem xrb_0 {m : xm} : xrb 0 m = some (0, m) := rfl
