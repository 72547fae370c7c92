/-! the program's readers of tests and sums, one by one -/
section CRX
variable {B : Int → Int} {n : Int} {c t : Nat} {m : xm} {s : Int × Int}
theorem opens_S {o : Int} (S : CS m B n s) (h0 : 0 ≤ o) (h6 : o ≤ 6) : (o < 6 → ∃ m', cX_opensOneMore t o m = some (1, m') ∧ CS m' B n (nx B n s) ∧ F3 m m') ∧ (¬ o < 6 → ∃ m', cX_opensOneMore t o m = some (0, m') ∧ CF m' 4 (tq B n s) ∧ F3 m m') := by
  unfold cX_opensOneMore
  rw [w32_id (by omega) (by omega)]
  constructor
  · intro h
    obtain ⟨m', a1, a2, a3⟩ := cW_next_S S
    rw [if_pos h, a1, bnd_some]
    exact ⟨m', rfl, a2, a3⟩
  · intro h
    obtain ⟨m', a1, a2, a3⟩ := cW_failHere_S (k := 4) S (by decide) (by decide) (by decide)
    rw [if_neg h, a1, bnd_some]
    exact ⟨m', rfl, a2, a3⟩
theorem cmp_S (S : CS m B n s) : (∀ v, cmpt B n s = some v → ∃ m', cX_takeComparison t m = some (v, m') ∧ CS m' B n (nx B n s) ∧ F3 m m') ∧ (cmpt B n s = none → ∃ m', cX_takeComparison t m = some (10024, m') ∧ CF m' 1 (tq B n s) ∧ F3 m m') := by
  unfold cX_takeComparison cX_takeComparison_62 cmpt
  obtain ⟨m', a1, a2, a3⟩ := cW_next_S S
  rw [cW_isSign_S ⟨by decide, by decide⟩ S, bnd_some, i01]
  by_cases c1 : isG B n 60 s = true
  · rw [if_pos c1, if_pos c1, if_neg (by decide), a1, bnd_some]
    exact ⟨fun v z => (by cases z; exact ⟨m', rfl, a2, a3⟩), fun z => by cases z⟩
  · rw [if_neg c1, if_neg c1, if_pos rfl, cW_isSign_S ⟨by decide, by decide⟩ S, bnd_some, i01]
    by_cases c2 : isG B n 62 s = true
    · rw [if_pos c2, if_pos c2, if_neg (by decide), a1, bnd_some]
      exact ⟨fun v z => (by cases z; exact ⟨m', rfl, a2, a3⟩), fun z => by cases z⟩
    · rw [if_neg c2, if_neg c2, if_pos rfl, cW_isSign_S ⟨by decide, by decide⟩ S, bnd_some, i01]
      by_cases c3 : isG B n 61 s = true
      · rw [if_pos c3, if_pos c3, if_neg (by decide), a1, bnd_some]
        exact ⟨fun v z => (by cases z; exact ⟨m', rfl, a2, a3⟩), fun z => by cases z⟩
      · obtain ⟨m2, b1, b2, b3⟩ := cW_failHere_S (k := 1) S (by decide) (by decide) (by decide)
        rw [if_neg c3, if_neg c3, if_pos rfl, b1, bnd_some, cW_next_F b2, bnd_some]
        exact ⟨fun v z => (by cases z), fun _ => ⟨m2, rfl, b2, b3⟩⟩
theorem cmp_F {k p : Int} (F : CF m k p) : cX_takeComparison t m = some (10024, m) := by
  unfold cX_takeComparison cX_takeComparison_62
  rw [cW_isSign_F F, bnd_some, if_pos (by rfl), cW_isSign_F F, bnd_some, if_pos (by rfl), cW_isSign_F F, bnd_some, if_pos (by rfl), cW_failHere_F F, bnd_some, cW_next_F F, bnd_some]
theorem eith_S {c1 t1 c2 t2 : Int} (S : CS m B n s) (h1 : rg c1) (h2 : rg c2) (hne : c1 ≠ c2) (g1 : 0 ≤ t1 ∧ t1 ≤ 20000) (g2 : 0 ≤ t2 ∧ t2 ≤ 20000) : (tkG B n c1 t1 c2 t2 s = none → cX_takeEither t c1 t1 c2 t2 m = some (-1, m)) ∧ ∀ v, tkG B n c1 t1 c2 t2 s = some v → ∃ m', cX_takeEither t c1 t1 c2 t2 m = some (v, m') ∧ CS m' B n (nx B n s) ∧ F3 m m' := by
  obtain ⟨m', a1, a2, a3⟩ := cW_next_S S
  by_cases d1 : isG B n c1 s = true
  · have d2 := bF (isG_ne d1 hne)
    have e : cX_takeEither t c1 t1 c2 t2 m = some (t1, m') := by
      unfold cX_takeEither cX_takeEither_16 cX_takeEither_36
      simp only [xlt_eq]
      rw [cW_isSign_S h1 S, bnd_some, i01, if_pos d1, if_neg (by decide), cW_isSign_S h2 S, bnd_some, i01, if_neg d2, if_pos rfl, if_neg (by rw [w32_id (by omega) (by omega)]; omega), a1, bnd_some]
    rw [e]
    unfold tkG
    rw [if_pos d1]
    exact ⟨fun z => (by cases z), fun v z => by cases z; exact ⟨m', rfl, a2, a3⟩⟩
  · by_cases d2 : isG B n c2 s = true
    · have e : cX_takeEither t c1 t1 c2 t2 m = some (t2, m') := by
        unfold cX_takeEither cX_takeEither_16 cX_takeEither_36
        simp only [xlt_eq]
        rw [cW_isSign_S h1 S, bnd_some, i01, if_neg d1, if_pos rfl, cW_isSign_S h2 S, bnd_some, i01, if_pos d2, if_neg (by decide), if_neg (by rw [w32_id (by omega) (by omega)]; omega), a1, bnd_some]
      rw [e]
      unfold tkG
      rw [if_neg d1, if_pos d2]
      exact ⟨fun z => (by cases z), fun v z => by cases z; exact ⟨m', rfl, a2, a3⟩⟩
    · have e : cX_takeEither t c1 t1 c2 t2 m = some (-1, m) := by
        unfold cX_takeEither cX_takeEither_16 cX_takeEither_36
        simp only [xlt_eq]
        rw [cW_isSign_S h1 S, bnd_some, i01, if_neg d1, if_pos rfl, cW_isSign_S h2 S, bnd_some, i01, if_neg d2, if_pos rfl, if_pos (by rfl)]
      rw [e]
      unfold tkG
      rw [if_neg d1, if_neg d2]
      exact ⟨fun _ => rfl, fun v z => by cases z⟩
theorem eith_F {c1 t1 c2 t2 k p : Int} (F : CF m k p) : cX_takeEither t c1 t1 c2 t2 m = some (-1, m) := by
  unfold cX_takeEither cX_takeEither_16 cX_takeEither_36
  simp only [xlt_eq]
  rw [cW_isSign_F F, bnd_some, if_pos (by rfl), cW_isSign_F F, bnd_some, if_pos (by rfl), if_pos (by rfl)]
theorem leaf_S {q : Bool} (hq : tol t = if q = true then 1 else 0) (S : CS m B n s) : cX_leafHere t m = some ((lea B n q s).getD (-1), m) := by
  unfold cX_leafHere lea
  rw [cW_isWord_S (by decide) S, bnd_some, i01, hq]
  by_cases c0 : isW B n (lit 15) s = true
  · rw [if_pos c0, if_pos c0, if_neg (by decide)]; rfl
  rw [if_neg c0, if_neg c0, if_pos rfl]
  cases q with
  | false => rfl
  | true =>
    rw [if_pos rfl, if_neg (by decide), if_neg (by decide), cW_isWord_S (by decide) S, bnd_some, i01]
    by_cases c0 : isW B n (lit 16) s = true
    · rw [if_pos c0, if_pos c0, if_neg (by decide)]; rfl
    rw [if_neg c0, if_neg c0, if_pos rfl, cW_isWord_S (by decide) S, bnd_some, i01]
    by_cases c0 : isW B n (lit 17) s = true
    · rw [if_pos c0, if_pos c0, if_neg (by decide)]; rfl
    rw [if_neg c0, if_neg c0, if_pos rfl, cW_isWord_S (by decide) S, bnd_some, i01]
    by_cases c0 : isW B n (lit 18) s = true
    · rw [if_pos c0, if_pos c0, if_neg (by decide)]; rfl
    rw [if_neg c0, if_neg c0, if_pos rfl, cW_isWord_S (by decide) S, bnd_some, i01]
    by_cases c0 : isW B n (lit 19) s = true
    · rw [if_pos c0, if_pos c0, if_neg (by decide)]; rfl
    rw [if_neg c0, if_neg c0, if_pos rfl]; rfl
theorem leaf_F {k p : Int} (F : CF m k p) : cX_leafHere t m = some (-1, m) := by
  unfold cX_leafHere
  rw [cW_isWord_F F, bnd_some, if_pos (by rfl)]
  by_cases z : tol t = 0
  · rw [if_pos z]
  · rw [if_neg z, cW_isWord_F F, bnd_some, if_pos (by rfl), cW_isWord_F F, bnd_some, if_pos (by rfl), cW_isWord_F F, bnd_some, if_pos (by rfl), cW_isWord_F F, bnd_some, if_pos (by rfl)]
theorem wl_F {self : Nat → Nat → Nat → Int → Int → xm → xr} {o k p : Int} {f : Nat} (F : CF m k p) : cX_readTest_8 self t c (f + 1) o 0 m = some (0, m) ∧ cX_readBoth_8 self t c (f + 1) o 0 m = some (0, m) ∧ cX_readSum_8 self t c (f + 1) o 0 m = some (0, m) ∧ cX_readProduct_8 self t c (f + 1) o 0 m = some (0, m) := by
  refine ⟨?_, ?_, ?_, ?_⟩
  · rw [cX_readTest_8, if_neg (by decide), cW_takeWord_F F, bnd_some, if_pos (by rfl)]
  · rw [cX_readBoth_8, if_neg (by decide), cW_takeWord_F F, bnd_some, if_pos (by rfl)]
  · rw [cX_readSum_8, if_neg (by decide), eith_F F, bnd_some, if_pos (by rfl)]
  · rw [cX_readProduct_8, if_neg (by decide), eith_F F, bnd_some, if_pos (by rfl)]
/-- behind a fault nothing more is read -/
theorem cX_F (pc : isC c) : ∀ (f g : Nat) {o a k p : Int} {m : xm}, g ≤ 6 → 6 ≤ f + g → 1 ≤ f → CF m k p → ∃ m', cX_rec f g t c o a m = some (0, m') ∧ CF m' k p ∧ FC c m m'
  | 0, _, _, _, _, _, _, _, _, h, _ => by omega
  | f + 1, 0, o, a, k, p, m, _, h6, _, F => by
    obtain ⟨m1, a1, a2, a3⟩ := cX_F pc f 1 (o := o) (a := 0) (by decide) (by omega) (by omega) F
    unfold cX_rec cX_readTest0
    rw [a1, bnd_some, xLF_eq, (wl_F a2).1]
    exact ⟨m1, rfl, a2, a3⟩
  | f + 1, 1, o, a, k, p, m, _, h6, _, F => by
    obtain ⟨m1, a1, a2, a3⟩ := cX_F pc f 2 (o := o) (a := 0) (by decide) (by omega) (by omega) F
    unfold cX_rec cX_readBoth0
    rw [a1, bnd_some, xLF_eq, (wl_F a2).2.1]
    exact ⟨m1, rfl, a2, a3⟩
  | f + 1, 2, o, a, k, p, m, _, h6, _, F => by
    obtain ⟨m1, a1, a2, a3⟩ := cX_F pc f 3 (o := o) (a := 0) (by decide) (by omega) (by omega) F
    obtain ⟨m2, b1, b2, b3⟩ := cX_F pc f 3 (o := o) (a := 0) (by decide) (by omega) (by omega) a2
    obtain ⟨m3, d1, d2, d3⟩ := CR_badd (L := []) (t := 10024) pc b2 (FC_trans a3 b3)
    unfold cX_rec cX_readFact0
    rw [cW_isWord_F F, bnd_some, if_pos (by rfl), cW_isSign_F F, bnd_some, if_pos (by rfl), cW_takeWord_F F, bnd_some, if_pos (by rfl), a1, bnd_some, cmp_F a2, bnd_some, b1, bnd_some, d1, bnd_some]
    exact ⟨m3, rfl, d2, d3⟩
  | f + 1, 3, o, a, k, p, m, _, h6, _, F => by
    obtain ⟨m1, a1, a2, a3⟩ := cX_F pc f 4 (o := o) (a := 0) (by decide) (by omega) (by omega) F
    unfold cX_rec cX_readSum0
    rw [a1, bnd_some, xLF_eq, (wl_F a2).2.2.1]
    exact ⟨m1, rfl, a2, a3⟩
  | f + 1, 4, o, a, k, p, m, _, h6, _, F => by
    obtain ⟨m1, a1, a2, a3⟩ := cX_F pc f 5 (o := o) (a := 0) (by decide) (by omega) (by omega) F
    unfold cX_rec cX_readProduct0
    rw [a1, bnd_some, xLF_eq, (wl_F a2).2.2.2]
    exact ⟨m1, rfl, a2, a3⟩
  | f + 1, 5, o, a, k, p, m, _, h6, _, F => by
    obtain ⟨m3, d1, d2, d3⟩ := CR_badd (L := []) (t := -1) pc F (FC_refl (c := c))
    unfold cX_rec cX_readPart0 cX_readPart_171 cX_readPart_189 cW_isAnyNumber
    rw [F.2.2.2, if_neg (by decide), bnd_some, if_pos (by rfl), cW_isSign_F F, bnd_some, if_pos (by rfl), cW_takeWord_F F, bnd_some, if_pos (by rfl), cW_takeWord_F F, bnd_some, if_pos (by rfl), cW_isWord_F F, bnd_some, if_pos (by rfl), cW_isWord_F F, bnd_some, leaf_F F, bnd_some, if_pos (show w32 (-1) = -1 by rfl), cW_failHere_F F, bnd_some, cW_next_F F, bnd_some, d1, bnd_some]
    refine ⟨m3, ?_, d2, d3⟩
    split
    · rfl
    · rw [if_pos (by rfl)]
  | f + 1, 6, o, a, k, p, m, _, h6, _, F => by
    unfold cX_rec cX_readPair0
    rw [cW_isSign_F F, bnd_some, if_pos (by rfl), cW_failHere_F F, bnd_some]
    exact ⟨m, rfl, F, FC_refl⟩
  | _ + 1, _ + 7, _, _, _, _, _, h, _, _, _ => by omega
end CRX
