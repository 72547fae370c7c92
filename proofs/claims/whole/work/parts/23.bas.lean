/-! halls, codes, readers; texts; the script -/
theorem isH_lt {h : Nat} (p : isH h) : h < 142 := by rcases p with rfl | rfl <;> decide
theorem isC_lt {h : Nat} (p : isC h) : h < 142 := by rcases p with rfl | rfl | rfl <;> decide
theorem isT_lt {h : Nat} (p : isT h) : h < 142 := by rcases p with rfl | rfl <;> decide
theorem w32_tol (t : Nat) : w32 (tol t) = tol t := by
  unfold tol
  split <;> rfl
theorem gfH_0 {h : Nat} (p : isH h) : xfk h 1 0 = some (0, ((h + 1 : Nat) : Int)) := by rcases p with rfl | rfl <;> rfl
theorem gfH_1 {h : Nat} (p : isH h) : xfk h 1 1 = some (0, ((h + 4 : Nat) : Int)) := by rcases p with rfl | rfl <;> rfl
theorem xiaH_4 {h : Nat} (p : isH h) : xia (h + 4) = true := by rcases p with rfl | rfl <;> rfl
theorem gfH_2 {h : Nat} (p : isH h) : xfk h 1 2 = some (0, ((h + 5 : Nat) : Int)) := by rcases p with rfl | rfl <;> rfl
theorem xiaH_5 {h : Nat} (p : isH h) : xia (h + 5) = true := by rcases p with rfl | rfl <;> rfl
theorem gfH_3 {h : Nat} (p : isH h) : xfk h 1 3 = some (0, ((h + 6 : Nat) : Int)) := by rcases p with rfl | rfl <;> rfl
theorem xiaH_6 {h : Nat} (p : isH h) : xia (h + 6) = true := by rcases p with rfl | rfl <;> rfl
theorem gfH_4 {h : Nat} (p : isH h) : xfk h 1 4 = some (0, ((h + 7 : Nat) : Int)) := by rcases p with rfl | rfl <;> rfl
theorem xiaH_7 {h : Nat} (p : isH h) : xia (h + 7) = true := by rcases p with rfl | rfl <;> rfl
theorem gfH_5 {h : Nat} (p : isH h) : xfk h 1 5 = some (0, ((h + 8 : Nat) : Int)) := by rcases p with rfl | rfl <;> rfl
theorem xiaH_8 {h : Nat} (p : isH h) : xia (h + 8) = true := by rcases p with rfl | rfl <;> rfl
theorem gfH_6 {h : Nat} (p : isH h) : xfk h 1 6 = some (0, ((h + 9 : Nat) : Int)) := by rcases p with rfl | rfl <;> rfl
theorem xiaH_9 {h : Nat} (p : isH h) : xia (h + 9) = true := by rcases p with rfl | rfl <;> rfl
theorem gfH_7 {h : Nat} (p : isH h) : xfk h 1 7 = some (0, ((h + 10 : Nat) : Int)) := by rcases p with rfl | rfl <;> rfl
theorem xiaH_10 {h : Nat} (p : isH h) : xia (h + 10) = true := by rcases p with rfl | rfl <;> rfl
theorem gfH_8 {h : Nat} (p : isH h) : xfk h 1 8 = some (0, ((h + 11 : Nat) : Int)) := by rcases p with rfl | rfl <;> rfl
theorem xiaH_11 {h : Nat} (p : isH h) : xia (h + 11) = true := by rcases p with rfl | rfl <;> rfl
theorem gfH_9 {h : Nat} (p : isH h) : xfk h 1 9 = some (0, ((h + 12 : Nat) : Int)) := by rcases p with rfl | rfl <;> rfl
theorem xiaH_12 {h : Nat} (p : isH h) : xia (h + 12) = true := by rcases p with rfl | rfl <;> rfl
theorem gfH_10 {h : Nat} (p : isH h) : xfk h 1 10 = some (0, ((h + 13 : Nat) : Int)) := by rcases p with rfl | rfl <;> rfl
theorem xiaH_13 {h : Nat} (p : isH h) : xia (h + 13) = true := by rcases p with rfl | rfl <;> rfl
theorem gfH_11 {h : Nat} (p : isH h) : xfk h 1 11 = some (0, ((h + 14 : Nat) : Int)) := by rcases p with rfl | rfl <;> rfl
theorem xiaH_14 {h : Nat} (p : isH h) : xia (h + 14) = true := by rcases p with rfl | rfl <;> rfl
theorem gfH_12 {h : Nat} (p : isH h) : xfk h 1 12 = some (1, 0) := by rcases p with rfl | rfl <;> rfl
theorem gfH_13 {h : Nat} (p : isH h) : xfk h 1 13 = some (1, 0) := by rcases p with rfl | rfl <;> rfl
theorem gfH_14 {h : Nat} (p : isH h) : xfk h 1 14 = some (1, 0) := by rcases p with rfl | rfl <;> rfl
theorem rcH {h : Nat} {N : am_M} (p : isH h) (hN : am_o N = 1) : xrc N h = true := by
  unfold xrc
  rw [hN]
  rcases p with rfl | rfl <;> rfl
theorem gfC_0 {h : Nat} (p : isC h) : xfk h 0 0 = some (0, ((h + 1 : Nat) : Int)) := by rcases p with rfl | rfl | rfl <;> rfl
theorem xiaC_1 {h : Nat} (p : isC h) : xia (h + 1) = true := by rcases p with rfl | rfl | rfl <;> rfl
theorem gfC_1 {h : Nat} (p : isC h) : xfk h 0 1 = some (0, ((h + 2 : Nat) : Int)) := by rcases p with rfl | rfl | rfl <;> rfl
theorem xiaC_2 {h : Nat} (p : isC h) : xia (h + 2) = true := by rcases p with rfl | rfl | rfl <;> rfl
theorem gfC_2 {h : Nat} (p : isC h) : xfk h 0 2 = some (1, 0) := by rcases p with rfl | rfl | rfl <;> rfl
theorem gfC_3 {h : Nat} (p : isC h) : xfk h 0 3 = some (1, 0) := by rcases p with rfl | rfl | rfl <;> rfl
theorem rcC {h : Nat} {N : am_M} (p : isC h) (hN : am_o N = 0) : xrc N h = true := by
  unfold xrc
  rw [hN]
  rcases p with rfl | rfl | rfl <;> rfl
theorem gfT_0 {h : Nat} (p : isT h) : xfk h 9 0 = some (0, 3) := by rcases p with rfl | rfl <;> rfl
theorem gfT_1 {h : Nat} (p : isT h) : xfk h 9 1 = some (4, tol h) := by rcases p with rfl | rfl <;> rfl
theorem rcT {h : Nat} {N : am_M} (p : isT h) (hN : am_o N = 9) : xrc N h = true := by
  unfold xrc
  rw [hN]
  rcases p with rfl | rfl <;> rfl
theorem xia_lt {a : Nat} (h : xia a = true) : a < 142 := (xia_of h).1
theorem xia_t4 {a : Nat} (h : xia a = true) : (xsa a).1 < 4 := by
  unfold xia at h
  rw [Bool.and_eq_true, beq_iff_eq] at h
  omega
theorem xca_lt {a : Nat} (h : xca a = true) : a < 142 := by
  unfold xca at h
  rw [Bool.and_eq_true, decide_eq_true_eq] at h
  exact h.1
theorem xca_ty {a : Nat} (h : xca a = true) : (xsa a).1 = 2 := by
  unfold xca at h
  rw [Bool.and_eq_true, beq_iff_eq] at h
  exact h.2
theorem xca_t4 {a : Nat} (h : xca a = true) : (xsa a).1 < 4 := by
  have := xca_ty h
  omega
theorem xia_row : ∀ i, i < 20 → xia (24 + i) = true := by decide +kernel
section XS
variable {L : Nat} {xs : Nat → Int32} {bz : Bool} {d : Nat} {M N : am_M} {t pc : Nat} {lsc : am_L} {sk : List Value} {m : xm} {o A B : xr}
theorem w_aaload {E : am_Env} {k : Int} {K : Nat → xr} (hi : (am_cd M).lookup pc = some .aaload) (q : ∀ a, xia a = true → xw E d M t (pc + 1) lsc (.ref a :: sk) m (K a)) : xw E d M t pc lsc (.int (i32 k) :: .ref 23 :: sk) m (aal k K) := by
  unfold aal
  split
  · next hb =>
    have hn : (i32 k).toNatClampNeg = (w32 k).toNat := by have := tnc_w hb.1; omega
    refine w_one hi rfl rfl (fun _ _ => ?_) (q (24 + (w32 k).toNat) (xia_row _ (by omega)))
    have h2 : (enc m)[23]? = some (.inl (3, 20, .inr (.inr (.inr (.inr (fun i => if i < 20 then some (24 + i) else none)))))) := enc_get (by decide)
    have h3 : am_in (i32 k) 20 = true := am_in_w hb.1 hb.2
    simp only [am_one, if_pos (show 23 < 1000000 by decide), h2, h3, if_true, hn]
    rw [if_pos (by omega)]
  · exact w_none
theorem E_scr : am_E L xs bz 2000001 = some (0, L, xs) := by
  unfold am_E
  rw [if_neg (by decide), if_pos rfl]
theorem E_mok : am_E L xs bz 2000000 = some (0, 4, fun j => ([4, 6, 6, 5] : List Int32).getD j 0) := by
  unfold am_E
  rw [if_neg (by decide), if_neg (by decide), if_pos rfl]
theorem w_xload {k : Int} {K : Int → xr} (hi : (am_cd M).lookup pc = some .iaload) (q : ∀ v, xw (am_E L xs bz) d M t (pc + 1) lsc (.int (i32 v) :: sk) m (K v)) : xw (am_E L xs bz) d M t pc lsc (.int (i32 k) :: .ref 2000001 :: sk) m (xal L xs k K) := by
  unfold xal
  split
  · next hb =>
    have hn : (i32 k).toNatClampNeg = (w32 k).toNat := by have := tnc_w hb.1; omega
    refine w_one hi rfl rfl (fun _ _ => ?_) (q (xs (w32 k).toNat).toInt)
    have e : i32 (xs (w32 k).toNat).toInt = xs (w32 k).toNat := Int32.ofInt_toInt _
    simp only [am_one, if_neg (show ¬ 2000001 < 1000000 by decide), E_scr, am_in_w hb.1 hb.2, if_true, hn, e]
  · exact w_none
theorem w_xlen (hi : (am_cd M).lookup pc = some .arraylength) (q : xw (am_E L xs bz) d M t (pc + 1) lsc (.int (i32 (L : Int)) :: sk) m o) : xw (am_E L xs bz) d M t pc lsc (.ref 2000001 :: sk) m o := by
  refine w_one hi rfl rfl (fun _ _ => ?_) q
  simp only [am_one, if_neg (show ¬ 2000001 < 1000000 by decide), E_scr]
  congr 5
theorem w_kload {k : Int} {K : Int → xr} (hi : (am_cd M).lookup pc = some .iaload) (q : ∀ v, xw (am_E L xs bz) d M t (pc + 1) lsc (.int (i32 v) :: sk) m (K v)) : xw (am_E L xs bz) d M t pc lsc (.int (i32 k) :: .ref 2000000 :: sk) m (kal k K) := by
  unfold kal
  split
  · next hb =>
    have hn : (i32 k).toNatClampNeg = (w32 k).toNat := by have := tnc_w hb.1; omega
    refine w_one hi rfl rfl (fun _ _ => ?_) (q (mok (w32 k)))
    have h3 : am_in (i32 k) 4 = true := am_in_w hb.1 hb.2
    have e : i32 (mok (w32 k)) = ([4, 6, 6, 5] : List Int32).getD (w32 k).toNat 0 := by
      unfold mok
      have h4 : (w32 k).toNat < 4 := by omega
      generalize (w32 k).toNat = n at h4
      match n, h4 with
      | 0, _ => rfl
      | 1, _ => rfl
      | 2, _ => rfl
      | 3, _ => rfl
      | n + 4, h => omega
    simp only [am_one, if_neg (show ¬ 2000000 < 1000000 by decide), E_mok, h3, if_true, hn, e]
  · exact w_none
theorem w_klen (hi : (am_cd M).lookup pc = some .arraylength) (q : xw (am_E L xs bz) d M t (pc + 1) lsc (.int (i32 4) :: sk) m o) : xw (am_E L xs bz) d M t pc lsc (.ref 2000000 :: sk) m o := by
  refine w_one hi rfl rfl (fun _ _ => ?_) q
  simp only [am_one, if_neg (show ¬ 2000000 < 1000000 by decide), E_mok]
  rfl
theorem cpy_ne {m : xm} {a0 a b : Nat} {sp dp n : Int} (h : b ≠ a) : cpy m a0 sp a dp n b = m b := by
  funext j
  unfold cpy
  rw [if_neg (fun z => h z.1)]
theorem w_acopy {E : am_Env} {x j y a0 a : Nat} {sp dp n : Int} {K : xm → xr} (hi : (am_cd M).lookup pc = some (.invokestatic x)) (hp : am_pl (am_o M) x = some (8, j, y)) (h0 : xia a0 = true) (h1 : xia a = true) (hcat : (sk.map fun v => v.category).sum ≤ 8) (q : ∀ m1, xw E d M t (pc + 3) lsc sk m1 (K m1)) : xw E d M t pc lsc (.int (i32 n) :: .int (i32 dp) :: .ref a :: .int (i32 sp) :: .ref a0 :: sk) m (acp m a0 sp a dp n K) := by
  obtain ⟨g1, g2⟩ := xia_of h0
  obtain ⟨g3, g4⟩ := xia_of h1
  unfold acp
  split
  · next hb =>
    obtain ⟨b1, b2, b3, b4, b5⟩ := hb
    have hc1 : am_ret M (.invokestatic x) (.int (i32 n) :: .int (i32 dp) :: .ref a :: .int (i32 sp) :: .ref a0 :: sk) = none := rfl
    have hc2 : am_cal M (.invokestatic x) = none := by
      simp only [am_cal, hp]
    have n1 := tnc_w b1
    have n2 := tnc_w b2
    have n3 := tnc_w b3
    have z1 : ¬ i32 sp < 0 := by
      rw [Int32.lt_iff_toInt_lt]
      show ¬ w32 sp < 0
      omega
    have z2 : ¬ i32 dp < 0 := by
      rw [Int32.lt_iff_toInt_lt]
      show ¬ w32 dp < 0
      omega
    have z3 : ¬ i32 n < 0 := by
      rw [Int32.lt_iff_toInt_lt]
      show ¬ w32 n < 0
      omega
    have e0 : (i32 sp).toNatClampNeg + (i32 n).toNatClampNeg ≤ (xsa a0).2.1 := by
      have : w32 sp + w32 n ≤ ((xsa a0).2.1 : Int) := b4
      omega
    have e1 : (i32 dp).toNatClampNeg + (i32 n).toNatClampNeg ≤ (xsa a).2.1 := by
      have : w32 dp + w32 n ≤ ((xsa a).2.1 : Int) := b5
      omega
    refine w_oneM (m' := cpy m a0 (w32 sp) a (w32 dp) (w32 n)) hi hc1 hc2 (fun _ => ?_) (q _)
    simp only [am_one, hp, if_pos (And.intro (show a < 1000000 by omega) (show a0 < 1000000 by omega)), enc_get g1, enc_get g3, g2, g4]
    rw [if_pos ⟨z1, z2, z3, e0, e1, hcat⟩]
    have e := enc_set (m := m) (m' := cpy m a0 (w32 sp) a (w32 dp) (w32 n)) (a := a) (fun b hb => cpy_ne hb)
    rw [g4] at e
    rw [← e]
    refine congrArg (fun z => some (pc + 3, _, sk, (enc m).set a (.inl (0, _, .inl z)))) ?_
    funext j
    unfold va_cpy cpy
    by_cases hj : (i32 dp).toNatClampNeg ≤ j ∧ j < (i32 dp).toNatClampNeg + (i32 n).toNatClampNeg
    · rw [if_pos hj, if_pos ⟨rfl, by omega, by omega⟩]
      dsimp only
      rw [show (((i32 sp).toNatClampNeg + (j - (i32 dp).toNatClampNeg) : Nat) : Int) = w32 sp + ((j : Int) - w32 dp) by omega]
    · rw [if_neg hj, if_neg (fun z => hj (by omega))]
  · exact w_none
theorem lit_len : am_lit.length = 31 := by decide
theorem rcv_S {N : am_M} {j : Nat} {as : List Value} (hj : j < 31) (hN : am_o N = 16) : am_rcv N (.ref (1000000 + 2 * j) :: as) (enc m) = true := by
  unfold am_rcv
  have e1 : 1000000 + 2 * j - 1000000 = 2 * j := by omega
  show (if _ then _ else _) = _
  rw [if_neg (show ¬ 1000000 + 2 * j < 1000000 by omega), lit_len]
  exact decide_eq_true ⟨hN, by rw [e1]; exact Nat.mul_mod_right 2 j, by rw [e1, Nat.mul_div_cancel_left _ (by decide)]; exact hj⟩
theorem lit_all : ∀ j, j < 31 → (am_lit[j]?).map (fun r => r.2.2.2.map (fun b => b.toInt)) = some ((xlit.getD j []).map (fun b : Nat => (b : Int))) ∧ ((xlit.getD j []).length < 2000) ∧ ∀ b ∈ xlit.getD j [], b < 128 := by decide +kernel
theorem lit_E {j : Nat} (hj : j < 31) : ∃ f : Nat → Int32, am_E L xs bz (1000000 + 2 * j + 1) = some (4, (xlit.getD j []).length, f) ∧ ∀ k, k < (xlit.getD j []).length → (f k).toInt = (((xlit.getD j []).getD k 0 : Nat) : Int) := by
  obtain ⟨h1, -, -⟩ := lit_all j hj
  generalize xlit.getD j [] = l at h1
  cases hr : am_lit[j]? with
  | none => rw [hr] at h1; cases h1
  | some r =>
    rw [hr] at h1
    simp only [Option.map_some, Option.some.injEq] at h1
    have hl : r.2.2.2.length = l.length := by
      have := congrArg List.length h1
      simpa using this
    refine ⟨fun k => r.2.2.2.getD k 0, ?_, fun k hk => ?_⟩
    · unfold am_E
      rw [if_neg (by omega), if_neg (by omega), if_neg (by omega), if_pos (by omega), show (1000000 + 2 * j + 1 - 1000000) / 2 = j by omega, hr, Option.map_some, hl]
    · have h2 := congrArg (fun l => l[k]?) h1
      simp only [List.getElem?_map] at h2
      rw [List.getElem?_eq_getElem (by omega), List.getElem?_eq_getElem hk] at h2
      simp only [Option.map_some, Option.some.injEq] at h2
      dsimp only
      rw [List.getD_eq_getElem?_getD, List.getD_eq_getElem?_getD, List.getElem?_eq_getElem (by omega), List.getElem?_eq_getElem hk]
      exact h2
theorem w_sval {E : am_Env} {x y z j : Nat} (hi : (am_cd M).lookup pc = some (.getfield x)) (hp : am_pl (am_o M) x = some (12, y, z)) (hj : j < 31) (q : xw E d M t (pc + 3) lsc (.ref (1000000 + 2 * j + 1) :: sk) m o) : xw E d M t pc lsc (.ref (1000000 + 2 * j) :: sk) m o := by
  refine w_one hi rfl rfl (fun _ _ => ?_) q
  have e1 : 1000000 + 2 * j - 1000000 = 2 * j := by omega
  have e2 : 1000000 ≤ 1000000 + 2 * j ∧ (1000000 + 2 * j - 1000000) % 2 = 0 ∧ (1000000 + 2 * j - 1000000) / 2 < am_lit.length := ⟨by omega, by rw [e1]; exact Nat.mul_mod_right 2 j, by rw [e1, Nat.mul_div_cancel_left _ (by decide), lit_len]; exact hj⟩
  simp only [am_one, hp]
  rw [if_pos e2]
theorem w_scod {E : am_Env} {x y z j : Nat} (hi : (am_cd M).lookup pc = some (.getfield x)) (hp : am_pl (am_o M) x = some (13, y, z)) (hj : j < 31) (q : xw E d M t (pc + 3) lsc (.int (i32 0) :: sk) m o) : xw E d M t pc lsc (.ref (1000000 + 2 * j) :: sk) m o := by
  refine w_one hi rfl rfl (fun _ _ => ?_) q
  have e1 : 1000000 + 2 * j - 1000000 = 2 * j := by omega
  have e2 : 1000000 ≤ 1000000 + 2 * j ∧ (1000000 + 2 * j - 1000000) % 2 = 0 ∧ (1000000 + 2 * j - 1000000) / 2 < am_lit.length := ⟨by omega, by rw [e1]; exact Nat.mul_mod_right 2 j, by rw [e1, Nat.mul_div_cancel_left _ (by decide), lit_len]; exact hj⟩
  simp only [am_one, hp]
  rw [if_pos e2]
  rfl
theorem w_gstC {E : am_Env} {x y z : Nat} (hi : (am_cd M).lookup pc = some (.getstatic x)) (hp : am_pl (am_o M) x = some (11, y, z)) (q : xw E d M t (pc + 3) lsc (.int (i32 1) :: sk) m o) : xw E d M t pc lsc sk m o := by
  refine w_one hi rfl rfl (fun _ _ => ?_) q
  simp only [am_one, hp]
  rfl
theorem w_gstP {E : am_Env} {x y z : Nat} (hi : (am_cd M).lookup pc = some (.getstatic x)) (hp : am_pl (am_o M) x = some (18, y, z)) (q : ∀ v : Value, v.category = 1 → xw E d M t (pc + 3) lsc (v :: sk) m o) : xw E d M t pc lsc sk m o := by
  cases hE : E 2000002 with
  | none =>
    refine w_one hi rfl rfl (fun _ _ => ?_) (q .null rfl)
    simp only [am_one, hp, hE]
  | some e =>
    refine w_one hi rfl rfl (fun _ _ => ?_) (q (.ref 2000003) rfl)
    simp only [am_one, hp, hE]
theorem w_slen {j : Nat} (hi : (am_cd M).lookup pc = some .arraylength) (hj : j < 31) (q : xw (am_E L xs bz) d M t (pc + 1) lsc (.int (i32 (wlen j)) :: sk) m o) : xw (am_E L xs bz) d M t pc lsc (.ref (1000000 + 2 * j + 1) :: sk) m o := by
  refine w_one hi rfl rfl (fun _ _ => ?_) q
  obtain ⟨f, hE, -⟩ := lit_E (L := L) (xs := xs) (bz := bz) hj
  simp only [am_one, if_neg (show ¬ 1000000 + 2 * j + 1 < 1000000 by omega), hE]
  congr 5
theorem w_sbyt {j : Nat} {k : Int} (hi : (am_cd M).lookup pc = some .baload) (hj : j < 31) (hk1 : 0 ≤ w32 k) (hk2 : w32 k < wlen j) (q : xw (am_E L xs bz) d M t (pc + 1) lsc (.int (i32 (wchr j (w32 k))) :: sk) m o) : xw (am_E L xs bz) d M t pc lsc (.int (i32 k) :: .ref (1000000 + 2 * j + 1) :: sk) m o := by
  refine w_one hi rfl rfl (fun _ _ => ?_) q
  obtain ⟨f, hE, hf⟩ := lit_E (L := L) (xs := xs) (bz := bz) hj
  have hn : (i32 k).toNatClampNeg = (w32 k).toNat := by have := tnc_w hk1; omega
  have hin : am_in (i32 k) (xlit.getD j []).length = true := am_in_w hk1 hk2
  have hk3 : w32 k < ((xlit.getD j []).length : Int) := hk2
  have e : f (w32 k).toNat = i32 (wchr j (w32 k)) := by
    apply Int32.toInt_inj.mp
    rw [hf _ (by omega)]
    have h5 : wchr j (w32 k) < 128 ∧ 0 ≤ wchr j (w32 k) := by
      unfold wchr
      refine ⟨?_, by omega⟩
      obtain ⟨-, -, h6⟩ := lit_all j hj
      generalize xlit.getD j [] = l at h6 hk3
      have := h6 (l.getD (w32 k).toNat 0) (by
        rw [List.getD_eq_getElem?_getD, List.getElem?_eq_getElem (by omega)]
        exact List.getElem_mem _)
      omega
    exact (w32_id (x := wchr j (w32 k)) (by omega) (by omega)).symm
  simp only [am_one, hE]
  rw [if_pos ⟨Nat.le_trans (Nat.le_add_right _ _) (Nat.le_add_right _ _), hin⟩, hn, e]
theorem wlen_rng {j : Nat} (hj : j < 31) : 0 ≤ wlen j ∧ wlen j < 2000 := by
  obtain ⟨-, h, -⟩ := lit_all j hj
  unfold wlen
  omega
theorem wchr_rng {j : Nat} {k : Int} (hj : j < 31) : 0 ≤ wchr j k ∧ wchr j k < 128 := by
  unfold wchr
  obtain ⟨-, -, h⟩ := lit_all j hj
  refine ⟨by omega, ?_⟩
  rw [List.getD_eq_getElem?_getD]
  cases hx : (xlit.getD j [])[k.toNat]? with
  | none => show ((0 : Nat) : Int) < 128; decide
  | some b =>
    have := h b (List.mem_of_getElem? hx)
    show (b : Int) < 128
    omega

theorem s_j_coder {j : Nat} (hd : 0 ≤ d) (hj : j < 31) : xw (am_E L xs bz) d am_m316 1 0 [(0, .ref (1000000 + 2 * j))] [] m (some (0, m)) := by
  refine w_gstC rfl rfl ?_
  have e : (some (0, m) : xr) = if (1 : Int) = 0 then none else some (0, m) := rfl
  rw [e]
  refine w_if_eq (tg := 13) rfl rfl rfl w_none ?_
  refine w_aload_n rfl rfl ?_
  refine w_scod rfl rfl hj ?_
  refine w_goto (tg := 14) rfl rfl ?_
  exact w_retv rfl rfl
theorem s_j_len {j : Nat} (hd : 3 ≤ d) (hj : j < 31) : xw (am_E L xs bz) d am_m315 1 0 [(0, .ref (1000000 + 2 * j))] [] m (j_len j m) := by
  have e : j_len j m = bnd (some (0, m)) fun r m1 => some (if r = 0 then wlen j else shr (wlen j) r, m1) := rfl
  rw [e]
  refine w_aload_n rfl rfl ?_
  refine w_sval rfl rfl hj ?_
  refine w_slen rfl hj ?_
  refine w_aload_n rfl rfl ?_
  refine w_call1 [.ref (1000000 + 2 * j)] [.int (i32 (wlen j))] (by omega) rfl rfl rfl rfl rfl rfl (Nat.le_of_ble_eq_true rfl) (fun _ => rcv_S hj rfl) (Nat.le_of_ble_eq_true rfl) rfl rfl (s_j_coder (by omega) hj) (fun r m1 => ?_)
  refine w_ishr rfl ?_
  refine w_retv rfl ?_
  have h := wlen_rng hj
  split
  · next h0 =>
    subst h0
    have h1 : shr (wlen j) 0 = wlen j := by
      unfold shr
      have h2 : i32 (wlen j) >>> (i32 0 &&& 31) = i32 (wlen j) := by
        apply Int32.toBitVec_inj.mp
        rw [Int32.toBitVec_shiftRight]
        show (i32 (wlen j)).toBitVec.sshiftRight' _ = _
        simp [BitVec.sshiftRight']
      rw [h2]
      exact w32_id (by omega) (by omega)
    rw [h1]
    rfl
  · rfl
theorem s_j_lat {j : Nat} (hd : 0 ≤ d) (hj : j < 31) : xw (am_E L xs bz) d am_m318 1 0 [(0, .ref (1000000 + 2 * j))] [] m (some (1, m)) := by
  refine w_gstC rfl rfl ?_
  have e : (some (1, m) : xr) = if (1 : Int) = 0 then none else if (0 : Int) = 0 then some (1, m) else none := rfl
  rw [e]
  refine w_if_eq (tg := 17) rfl rfl rfl w_none ?_
  refine w_aload_n rfl rfl ?_
  refine w_scod rfl rfl hj ?_
  refine w_if_ne (tg := 17) rfl rfl rfl w_none ?_
  refine w_iconst rfl ?_
  refine w_goto (tg := 18) rfl rfl ?_
  exact w_retv rfl rfl
theorem s_j_pre {a n : Int} {v : Value} (hd : 0 ≤ d) (h1 : 0 ≤ w32 a) (h2 : w32 a < w32 n) : xw (am_E L xs bz) d am_m321 1 0 [(0, .int (i32 a)), (1, .int (i32 n)), (2, v)] [] m (some (a, m)) := by
  have e : (some (a, m) : xr) = if w32 a < 0 then none else if w32 a < w32 n then some (a, m) else none := by rw [if_neg (by omega), if_pos h2]
  rw [e]
  refine w_iload_n rfl rfl ?_
  refine w_if_lt (tg := 9) rfl rfl rfl w_none ?_
  refine w_iload_n rfl rfl ?_
  refine w_iload_n rfl rfl ?_
  refine w_icmp_lt (tg := 16) rfl rfl rfl rfl ?_ w_none
  refine w_iload_n rfl rfl ?_
  exact w_retv rfl rfl
theorem s_j_chk {a n : Int} (hd : 1 ≤ d) (h1 : 0 ≤ w32 a) (h2 : w32 a < w32 n) : xw (am_E L xs bz) d am_m322 0 0 [(0, .int (i32 a)), (1, .int (i32 n))] [] m (some (0, m)) := by
  have e : (some (0, m) : xr) = bnd (some (a, m)) fun _ m1 => some (0, m1) := rfl
  rw [e]
  refine w_iload_n rfl rfl ?_
  refine w_iload_n rfl rfl ?_
  refine w_gstP rfl rfl (fun v hv => ?_)
  refine w_call1 [.int (i32 a), .int (i32 n), v] [] (by omega) rfl rfl rfl rfl rfl rfl (Nat.le_of_ble_eq_true rfl) (fun z => by cases z) (by
    cases v with
    | long _ => cases hv
    | double _ => cases hv
    | _ => exact Nat.le_of_ble_eq_true rfl) rfl rfl (s_j_pre (by omega) h1 h2) (fun r m1 => ?_)
  refine w_pop rfl rfl ?_
  exact w_retv (x := 0) rfl rfl
theorem s_j_lch {j : Nat} {k : Int} (hd : 2 ≤ d) (hj : j < 31) (h1 : 0 ≤ w32 k) (h2 : w32 k < wlen j) : xw (am_E L xs bz) d am_m319 1 0 [(0, .ref (1000000 + 2 * j + 1)), (1, .int (i32 k))] [] m (some (wchr j (w32 k), m)) := by
  have e : (some (wchr j (w32 k), m) : xr) = bnd (some (0, m)) fun _ m1 => some (wchr j (w32 k), m1) := rfl
  rw [e]
  have hw := wlen_rng hj
  refine w_iload_n rfl rfl ?_
  refine w_aload_n rfl rfl ?_
  refine w_slen rfl hj ?_
  refine w_call0 [.int (i32 k), .int (i32 (wlen j))] [] (by omega) rfl rfl rfl rfl rfl rfl (Nat.le_of_ble_eq_true rfl) (fun z => by cases z) (Nat.le_of_ble_eq_true rfl) rfl rfl (s_j_chk (by omega) h1 (by rw [w32_id (x := wlen j) (by omega) (by omega)]; exact h2)) (fun r m1 => ?_)
  refine w_aload_n rfl rfl ?_
  refine w_iload_n rfl rfl ?_
  refine w_sbyt rfl hj h1 h2 ?_
  refine w_sipush rfl rfl ?_
  refine w_iand rfl ?_
  have hr := wchr_rng (j := j) (k := w32 k) hj
  have hb : ∀ n : Nat, n < 128 → (i32 (ban (n : Int) 255)).toUInt32 % 65536 = (i32 (n : Int)).toUInt32 ∧ (i32 (n : Int)).toUInt32.toInt32 = i32 (n : Int) ∧ am_nar .char (i32 (n : Int)) = true := by decide +kernel
  obtain ⟨n, hn⟩ : ∃ n : Nat, wchr j (w32 k) = (n : Int) := ⟨(wchr j (w32 k)).toNat, by omega⟩
  rw [hn]
  obtain ⟨b1, b2, b3⟩ := hb n (by omega)
  refine w_one (pc' := 14) (sk' := [.int (i32 (n : Int))]) (i := .i2c) rfl rfl rfl (fun _ _ => ?_) ?_
  · simp only [am_one, b1, b2]
  · refine w_retv (i := .ireturn) rfl ?_
    show (if am_nar .char (i32 (n : Int)) = true then _ else none) = _
    rw [if_pos b3]
    rfl
theorem s_j_chr {j : Nat} {k : Int} (hd : 6 ≤ d) (hj : j < 31) : xw (am_E L xs bz) d am_m317 1 0 [(0, .ref (1000000 + 2 * j)), (1, .int (i32 k))] [] m (j_chr j k m) := by
  unfold j_chr
  split
  · next hb =>
    have e : (some (wchr j (w32 k), m) : xr) = bnd (some (1, m)) fun r m1 => if w32 r = 0 then none else bnd (some (wchr j (w32 k), m1)) fun r m1 => if r = wchr j (w32 k) then some (r, m1) else none := by
      show _ = if w32 1 = 0 then none else if wchr j (w32 k) = wchr j (w32 k) then some (wchr j (w32 k), m) else none
      rw [if_neg (by decide), if_pos rfl]
    rw [e]
    refine w_aload_n rfl rfl ?_
    refine w_call1 [.ref (1000000 + 2 * j)] [] (by omega) rfl rfl rfl rfl rfl rfl (Nat.le_of_ble_eq_true rfl) (fun _ => rcv_S hj rfl) (Nat.le_of_ble_eq_true rfl) rfl rfl (s_j_lat (by omega) hj) (fun r m1 => ?_)
    refine w_if_eq (tg := 16) rfl rfl rfl w_none ?_
    refine w_aload_n rfl rfl ?_
    refine w_sval rfl rfl hj ?_
    refine w_iload_n rfl rfl ?_
    refine w_call1 [.ref (1000000 + 2 * j + 1), .int (i32 k)] [] (by omega) rfl rfl rfl rfl rfl rfl (Nat.le_of_ble_eq_true rfl) (fun z => by cases z) (Nat.le_of_ble_eq_true rfl) rfl rfl (s_j_lch (by omega) hj hb.1 hb.2) (fun r m1 => ?_)
    split
    · next hr =>
      refine w_retv rfl ?_
      have hr2 := wchr_rng (j := j) (k := w32 k) hj
      have hc : ∀ n : Nat, n < 128 → am_nar .char (i32 (n : Int)) = true := by decide +kernel
      obtain ⟨n, hn⟩ : ∃ n : Nat, r = (n : Int) := ⟨r.toNat, by omega⟩
      rw [hn]
      show (if am_nar .char (i32 (n : Int)) = true then _ else none) = _
      rw [if_pos (hc n (by omega))]
      rfl
    · exact w_none
  · exact w_none
theorem s_cH_code {h : Nat} (hd : 0 ≤ d) (p : isH h) : xw (am_E L xs bz) d am_m22 3 0 [(0, .ref h)] [] m (some (((h + 1 : Nat) : Int), m)) := by
  refine w_aload_n rfl rfl ?_
  refine w_gfr (r := h + 1) rfl rfl (isH_lt p) (gfH_0 p) rfl ?_
  exact w_retv rfl rfl
end XS
