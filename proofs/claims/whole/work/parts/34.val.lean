/-! the program's steps worked out -/
theorem tyk_cases {q : Bool} {t : Int} {k k' : List Bool} (h : tyk q t k = some k') :
    ((0 ≤ t ∧ t ≤ 10001 ∨ 10002 ≤ t ∧ t ≤ 10005 ∧ q = true) ∧ k' = decide (t = 10000) :: k) ∨ (t = 10010 ∧ ∃ r, k = true :: r ∧ k' = true :: r) ∨ ((t = 10011 ∨ t = 10012 ∧ q = true) ∧ ∃ r, k = false :: r ∧ k' = false :: r) ∨
    ((t = 10020 ∨ t = 10021) ∧ ∃ r, k = true :: true :: r ∧ k' = true :: r) ∨ (10022 ≤ t ∧ t ≤ 10024 ∧ ∃ r, k = false :: false :: r ∧ k' = true :: r) ∨ (10030 ≤ t ∧ t ≤ 10035 ∧ ∃ r, k = false :: false :: r ∧ k' = false :: r) := by
  unfold tyk at h
  split at h
  · next c => cases h; exact Or.inl ⟨by omega, by rw [decide_eq_false (by omega)]⟩
  split at h
  · next c => cases h; exact Or.inl ⟨by omega, by rw [decide_eq_true c]⟩
  split at h
  · next c => cases h; exact Or.inl ⟨by omega, by rw [decide_eq_false (by omega)]⟩
  split at h
  · next c =>
    split at h
    · next hq => cases h; exact Or.inl ⟨Or.inr ⟨c.1, c.2, hq⟩, by rw [decide_eq_false (by omega)]⟩
    · cases h
  split at h
  · next c =>
    split at h
    · next r => cases h; exact Or.inr (Or.inl ⟨c, r, rfl, rfl⟩)
    · cases h
  split at h
  · next c =>
    split at h
    · next r => cases h; exact Or.inr (Or.inr (Or.inl ⟨c, r, rfl, rfl⟩))
    · cases h
  split at h
  · next c =>
    split at h
    · next r => cases h; exact Or.inr (Or.inr (Or.inr (Or.inl ⟨c, r, rfl, rfl⟩)))
    · cases h
  split at h
  · next c =>
    split at h
    · next r => cases h; exact Or.inr (Or.inr (Or.inr (Or.inr (Or.inl ⟨c.1, c.2, r, rfl, rfl⟩))))
    · cases h
  split at h
  · next c =>
    split at h
    · next r => cases h; exact Or.inr (Or.inr (Or.inr (Or.inr (Or.inr ⟨c.1, c.2, r, rfl, rfl⟩))))
    · cases h
  · cases h
/-! floors -/
theorem flo_neg {a b : Int} (hb : 0 < b) : (-a) / b = if a % b = 0 then -(a / b) else -(a / b) - 1 := by
  have e := Int.emod_add_mul_ediv a b
  have r1 := Int.emod_nonneg a (show b ≠ 0 by omega)
  have r2 := Int.emod_lt_of_pos a hb
  split
  · next h0 =>
    have : -a = 0 + b * (-(a / b)) := by rw [Int.mul_neg]; omega
    rw [this, mk_div (by omega) hb]
  · next h0 =>
    have : -a = (b - a % b) + b * (-(a / b) - 1) := by rw [Int.mul_sub, Int.mul_neg]; omega
    rw [this, mk_div (by omega) (by omega)]
theorem fdv_t {x y : Int} (hy : y ≠ 0) : fdv x y = if ¬ x.tmod y = 0 ∧ ¬ (x < 0 ↔ y < 0) then x.tdiv y - 1 else x.tdiv y := by
  unfold fdv
  rw [if_neg hy]
  by_cases hx : 0 ≤ x
  · by_cases hp : 0 < y
    · rw [if_pos hp, if_neg (by omega), Int.tdiv_eq_ediv_of_nonneg hx]
    · rw [if_neg hp]
      obtain ⟨b, rfl⟩ : ∃ b, y = -b := ⟨-y, by omega⟩
      rw [Int.neg_neg, Int.tmod_neg, Int.tdiv_neg, Int.tdiv_eq_ediv_of_nonneg hx, Int.tmod_eq_emod_of_nonneg hx, flo_neg (by omega)]
      by_cases h0 : x % b = 0
      · rw [if_pos h0, if_neg (by omega)]
      · rw [if_neg h0, if_pos ⟨h0, by omega⟩]
  · obtain ⟨a, rfl⟩ : ∃ a, x = -a := ⟨-x, by omega⟩
    by_cases hp : 0 < y
    · rw [if_pos hp, Int.neg_tdiv, Int.neg_tmod, Int.tdiv_eq_ediv_of_nonneg (by omega), Int.tmod_eq_emod_of_nonneg (by omega), flo_neg hp]
      by_cases h0 : a % y = 0
      · rw [if_pos h0, if_neg (by omega)]
      · rw [if_neg h0, if_pos ⟨by omega, by omega⟩]
    · rw [if_neg hp]
      obtain ⟨b, rfl⟩ : ∃ b, y = -b := ⟨-y, by omega⟩
      rw [Int.neg_neg, Int.neg_neg, if_neg (by omega), Int.neg_tdiv, Int.tdiv_neg, Int.neg_neg, Int.tdiv_eq_ediv_of_nonneg (by omega)]
theorem bxo_sign {x y : Int} (h1 : -2147483648 ≤ x) (h2 : x ≤ 2147483647) (h3 : -2147483648 ≤ y) (h4 : y ≤ 2147483647) : 0 ≤ bxo x y ↔ (x < 0 ↔ y < 0) := by
  unfold bxo
  have e1 := i32_toInt h1 h2
  have e2 := i32_toInt h3 h4
  have m1 : (i32 x).toBitVec.msb = decide (x < 0) := by rw [BitVec.msb_eq_toInt]; show decide ((i32 x).toInt < 0) = _; rw [e1]
  have m2 : (i32 y).toBitVec.msb = decide (y < 0) := by rw [BitVec.msb_eq_toInt]; show decide ((i32 y).toInt < 0) = _; rw [e2]
  have m3 : (i32 x ^^^ i32 y).toBitVec.msb = decide ((i32 x ^^^ i32 y).toInt < 0) := by rw [BitVec.msb_eq_toInt]; rfl
  rw [Int32.toBitVec_xor, BitVec.msb_xor, m1, m2] at m3
  by_cases a1 : x < 0
  · by_cases a2 : y < 0
    · rw [decide_eq_true a1, decide_eq_true a2] at m3
      have := of_decide_eq_false m3.symm
      constructor
      · intro _; omega
      · intro _; omega
    · rw [decide_eq_true a1, decide_eq_false a2] at m3
      have := of_decide_eq_true m3.symm
      constructor
      · intro _; omega
      · intro z; exact absurd (z.mp a1) a2
  · by_cases a2 : y < 0
    · rw [decide_eq_false a1, decide_eq_true a2] at m3
      have := of_decide_eq_true m3.symm
      constructor
      · intro _; omega
      · intro z; exact absurd (z.mpr a2) a1
    · rw [decide_eq_false a1, decide_eq_false a2] at m3
      have := of_decide_eq_false m3.symm
      constructor
      · intro _; omega
      · intro _; omega
theorem tdiv_rng {x y : Int} (h1 : -1000000 ≤ x) (h2 : x ≤ 1000000) : -1000000 ≤ x.tdiv y ∧ x.tdiv y ≤ 1000000 := by
  have h5 : (x.tdiv y).natAbs ≤ x.natAbs := Int.natAbs_tdiv_le_natAbs x y
  omega
theorem tmod_rng {x y : Int} (h1 : -1000000 ≤ x) (h2 : x ≤ 1000000) : -1000000 ≤ x.tmod y ∧ x.tmod y ≤ 1000000 := by
  have h5 : (x.tmod y).natAbs ≤ x.natAbs := by
    rw [Int.natAbs_tmod]
    exact Nat.mod_le _ _
  omega
theorem j_floorDiv_ok {x y : Int} {m : xm} (h1 : -1000000 ≤ x) (h2 : x ≤ 1000000) (h3 : -1000000 ≤ y) (h4 : y ≤ 1000000) (hy : y ≠ 0) : j_floorDiv x y m = some (fdv x y, m) := by
  have q := tdiv_rng (y := y) h1 h2
  have r := tmod_rng (y := y) h1 h2
  have e := Int.mul_tdiv_add_tmod x y
  have e2 : x.tdiv y * y = x - x.tmod y := by rw [Int.mul_comm]; omega
  unfold j_floorDiv
  rw [w32_id (x := y) (by omega) (by omega), if_neg hy, xlt_eq, idv_t (by omega) (by omega) (by omega) (by omega), e2, w32_id (x := x) (by omega) (by omega), w32_id (x := x - x.tmod y) (by omega) (by omega), fdv_t hy]
  have hb := bxo_sign (x := x) (y := y) (by omega) (by omega) (by omega) (by omega)
  by_cases hs : x < 0 ↔ y < 0
  · rw [if_pos (hb.mpr hs), if_neg (fun z => z.2 hs)]
  · rw [if_neg (fun z => hs (hb.mp z))]
    by_cases h0 : x.tmod y = 0
    · rw [if_pos (by omega), if_neg (fun z => z.1 h0)]
    · rw [if_neg (by omega), if_pos ⟨h0, hs⟩]
theorem cC_within_ok {x : Int} {m : xm} (h1 : -9223372036854775808 ≤ x) (h2 : x ≤ 9223372036854775807) : cC_within x m = some (clp x, m) := by
  unfold cC_within j_minL j_maxL clp
  rw [w64_id h1 h2, w64_id (x := 1000000) (by decide) (by decide), w64_id (x := -1000000) (by decide) (by decide)]
  by_cases a : x < 1000000
  · rw [if_pos a, bnd_some, w64_id h1 h2, if_neg (show ¬ 1000000 < x by omega)]
    by_cases b : x < -1000000
    · rw [if_neg (by omega), bnd_some, if_pos b]
    · rw [if_neg b]
      by_cases c : -1000000 < x
      · rw [if_pos c, bnd_some]
      · rw [if_neg c, bnd_some, show x = -1000000 by omega]
  · rw [if_neg a, bnd_some, w64_id (x := 1000000) (by decide) (by decide), if_pos (by decide), bnd_some]
    by_cases b : 1000000 < x
    · rw [if_pos b]
    · rw [if_neg b, if_neg (by omega), show x = 1000000 by omega]
theorem cC_ofTests_ok {t a b : Int} {m : xm} (h1 : 10020 ≤ t) (h2 : t ≤ 10024) (ha : -1000000 ≤ a) (ha2 : a ≤ 1000000) (hb : -1000000 ≤ b) (hb2 : b ≤ 1000000) : cC_ofTests t a b m = some (tk2 t a b, m) := by
  unfold cC_ofTests
  rw [w32_id (x := t) (by omega) (by omega), w32_id (x := a + b) (by omega) (by omega), w32_id (x := a) (by omega) (by omega), w32_id (x := b) (by omega) (by omega)]
  rcases (show t = 10020 ∨ t = 10021 ∨ t = 10022 ∨ t = 10023 ∨ t = 10024 by omega) with rfl | rfl | rfl | rfl | rfl
  · show (if a + b ≤ 0 then some (0, m) else some (1, m)) = some (if 0 < a + b then 1 else 0, m)
    split
    · rw [if_neg (by omega)]
    · rw [if_pos (by omega)]
  · show (if a + b = 2 then some (1, m) else some (0, m)) = some (if a + b = 2 then 1 else 0, m)
    split <;> rfl
  · show (if b ≤ a then some (0, m) else some (1, m)) = some (if a < b then 1 else 0, m)
    split
    · rw [if_neg (by omega)]
    · rw [if_pos (by omega)]
  · show (if a ≤ b then some (0, m) else some (1, m)) = some (if b < a then 1 else 0, m)
    split
    · rw [if_neg (by omega)]
    · rw [if_pos (by omega)]
  · show (if a = b then some (1, m) else some (0, m)) = some (if a = b then 1 else 0, m)
    split <;> rfl
theorem mul_rng6 {a b : Int} (ha : -1000000 ≤ a) (ha2 : a ≤ 1000000) (hb : -1000000 ≤ b) (hb2 : b ≤ 1000000) : -1000000000000 ≤ a * b ∧ a * b ≤ 1000000000000 := by
  have h1 : (a * b).natAbs ≤ 1000000 * 1000000 := by
    rw [Int.natAbs_mul]
    exact Nat.mul_le_mul (by omega) (by omega)
  omega
theorem cC_ofSums_ok {t a b : Int} {m : xm} (h1 : 10030 ≤ t) (h2 : t ≤ 10035) (ha : -1000000 ≤ a) (ha2 : a ≤ 1000000) (hb : -1000000 ≤ b) (hb2 : b ≤ 1000000) : cC_ofSums t a b m = some (tk2 t a b, m) := by
  have hm := mul_rng6 ha ha2 hb hb2
  unfold cC_ofSums
  rw [w32_id (x := t) (by omega) (by omega), w32_id (x := a) (by omega) (by omega), w32_id (x := b) (by omega) (by omega)]
  rcases (show t = 10030 ∨ t = 10031 ∨ t = 10032 ∨ t = 10033 ∨ t = 10034 ∨ t = 10035 by omega) with rfl | rfl | rfl | rfl | rfl | rfl
  · simp only [xsw, tk2, Int.reduceAdd, Int.reduceEq, reduceIte]
    rw [cC_within_ok (by omega) (by omega), bnd_some]
  · simp only [xsw, tk2, Int.reduceAdd, Int.reduceEq, reduceIte]
    rw [cC_within_ok (by omega) (by omega), bnd_some]
  · simp only [xsw, tk2, Int.reduceAdd, Int.reduceEq, reduceIte]
    rw [cC_within_ok (by omega) (by omega), bnd_some]
  · simp only [xsw, tk2, Int.reduceAdd, Int.reduceEq, reduceIte]
    by_cases h0 : b = 0
    · rw [if_pos h0]
      unfold fdv
      rw [if_pos h0]
    · rw [if_neg h0, j_floorDiv_ok ha ha2 hb hb2 h0, bnd_some]
  · simp only [xsw, tk2, Int.reduceAdd, Int.reduceEq, reduceIte]
    unfold j_minI
    rw [w32_id (x := a) (by omega) (by omega), w32_id (x := b) (by omega) (by omega)]
    by_cases c : b < a
    · rw [if_pos c, bnd_some, if_neg (by omega)]
    · rw [if_neg c, bnd_some]
      by_cases c2 : a < b
      · rw [if_pos c2]
      · rw [if_neg c2, show a = b by omega]
  · simp only [xsw, tk2, Int.reduceAdd, Int.reduceEq, reduceIte]
    unfold j_maxI
    rw [w32_id (x := a) (by omega) (by omega), w32_id (x := b) (by omega) (by omega)]
    by_cases c : a < b
    · rw [if_pos c, bnd_some, if_pos c]
    · rw [if_neg c, bnd_some, if_neg c]
section VA
variable {m : xm} {h : Nat} {G : hv}
theorem cC_leaf_ok (p : isH h) (w : wfG G) (c : CH m h G) {s lk t : Int} (hv : vs G s) (h1 : 10000 ≤ t) (h2 : t ≤ 10005) (hq : 10002 ≤ t → 0 ≤ lk ∧ lk < nL G) : cC_leaf h t s lk m = some (tkL G s lk t, m) := by
  have g := vs_s w.1 hv
  have g2 := vs_j w.1 hv
  unfold cC_leaf
  rw [w32_id (x := t) (by omega) (by omega)]
  rcases (show t = 10000 ∨ t = 10001 ∨ t = 10002 ∨ t = 10003 ∨ t = 10004 ∨ t = 10005 by omega) with rfl | rfl | rfl | rfl | rfl | rfl
  · rfl
  · show bnd (cH_jamsOf h s m) (fun r3 m4 => bnd (j_bitCount r3 m4) fun r5 m6 => some (r5, m6)) = some (bc (jm G s), m)
    rw [cH_jamsOf_ok w.1 c g.1 (by omega), bnd_some, j_bitCount_bc g2.1 (by omega), bnd_some]
  · rfl
  · show bnd (cH_wardsOf h lk m) (fun r3 m4 => some (r3, m4)) = some (wx G lk, m)
    have := hq (by decide)
    rw [cH_wardsOf_ok p w.1 c this.1 this.2, bnd_some]
  · show bnd (cH_wardOf h s lk m) (fun r3 m4 => some (r3, m4)) = some (wd G s lk, m)
    have := hq (by decide)
    rw [cH_wardOf_ok p w.1 c g.1 (by omega) this.1 this.2, bnd_some]
  · show bnd (cH_isJammed h s lk m) (fun r1 m2 => if w32 r1 = 0 then some (0, m2) else some (1, m2)) = some (bt (jm G s) lk, m)
    have := hq (by decide)
    have := w.1.2.1
    rw [cH_isJammed_ok w.1 c hv (by omega) (by omega), bnd_some]
    rcases bt_01 (jm G s) lk with e | e
    · rw [e, if_pos (by decide)]
    · rw [e, if_neg (by decide)]
theorem cC_ofOne_ok (p : isH h) (w : wfG G) (c : CH m h G) {s lk t x : Int} (hv : vs G s) (h1 : 10010 ≤ t) (h2 : t ≤ 10012) (hx : -1000000 ≤ x) (hx2 : x ≤ 1000000) (hq : t = 10012 → 0 ≤ lk ∧ lk < nL G) : cC_ofOne h t x s lk m = some (tk1 G s lk t x, m) := by
  have g := vs_s w.1 hv
  have g1 := w.1.1
  have g2 := w.1.2.1
  unfold cC_ofOne
  rw [w32_id (x := t) (by omega) (by omega)]
  rcases (show t = 10010 ∨ t = 10011 ∨ t = 10012 by omega) with rfl | rfl | rfl
  · rfl
  · show bnd (cH_isOne h 0 x m) (fun r3 m4 => if w32 r3 = 0 then some ((-1), m4) else bnd (cH_wardOf h s x m4) fun r5 m6 => some (r5, m6)) = some (if 0 ≤ x ∧ x < nL G then wd G s x else -1, m)
    by_cases a : 0 ≤ x ∧ x < nL G
    · rw [if_pos a, cH_isOne_in p c (by decide) (by decide) a.1 a.2 (by unfold nL at g2; omega), bnd_some, if_neg (by decide), cH_wardOf_ok p w.1 c g.1 (by omega) a.1 a.2, bnd_some]
    · rw [if_neg a, cH_isOne_out p c (fun z => a ?_) (wf_cnt w), bnd_some, if_pos (by decide)]
      rw [w32_id (x := x) (by omega) (by omega)] at z
      exact ⟨z.2.2.1, z.2.2.2⟩
  · show bnd (cH_turnOf h x lk m) (fun r1 m2 => some (r1, m2)) = some (if 0 ≤ x ∧ x < 6 then tT G x lk else 0, m)
    have := hq rfl
    by_cases a : 0 ≤ x ∧ x < 6
    · rw [if_pos a, cH_turnOf_in p w.1 c a.1 a.2 this.1 (by omega), bnd_some]
    · rw [if_neg a, cH_turnOf_out (by rw [w32_id (x := x) (by omega) (by omega)]; exact a), bnd_some]
end VA
