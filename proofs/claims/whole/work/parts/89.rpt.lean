/-! the reference at a part of a sum -/
section RPT
variable {B : Int → Int} {n : Int} {q : Bool} {s : Int × Int} {o b v1 : Int} {m : xm} {W L : List Int}
theorem here_Q {a : Nat} (ha : isD a) (Q : QS m B n q s W L o b) : ∃ m', r_isHere a m = some (if isW B n (rlit a) s = true then 1 else 0, m') ∧ QS m' B n q s W L o b ∧ ld m' 78 2 = tq B n s ∧ FQ m m' := by
  obtain ⟨m', a1, a2, a3, a4⟩ := r_isHere_S ha Q.1
  exact ⟨m', a1, QS_FR Q a2 a4, a3, FQ_FR a4⟩
def qwh (B : Int → Int) (n : Int) (s : Int × Int) : Int := if isW B n (lit 15) s = true then 0 else if isW B n (lit 16) s = true then 1 else if isW B n (lit 17) s = true then 2 else if isW B n (lit 18) s = true then 3 else if isW B n (lit 19) s = true then 4 else if isW B n (lit 13) s = true then 5 else if isW B n (lit 14) s = true then 6 else -1
theorem here_Q1 {a : Nat} (ha : isD a) (Q : QS m B n q s W L o b) {K : Int → xm → xr} : ∃ m', bnd (r_isHere a m) K = K (if isW B n (rlit a) s = true then 1 else 0) m' ∧ QS m' B n q s W L o b ∧ ld m' 78 2 = tq B n s ∧ FQ m m' := by
  obtain ⟨m', a1, a2⟩ := here_Q ha Q
  exact ⟨m', by rw [a1, bnd_some], a2⟩
theorem wordHere_Q (Q : QS m B n q s W L o b) : ∃ m', r_qWordHere m = some (qwh B n s, m') ∧ QS m' B n q s W L o b ∧ ld m' 78 2 = tq B n s ∧ FQ m m' := by
  unfold r_qWordHere qwh
  obtain ⟨m1, a1, a2, a3, a4⟩ := here_Q (a := 131) (by unfold isD; decide) Q
  rw [a1, bnd_some, i01, show rlit 131 = lit 15 from rfl]
  by_cases c : isW B n (lit 15) s = true
  · rw [if_pos c, if_pos c, if_neg (by decide)]
    exact ⟨m1, rfl, a2, a3, a4⟩
  rw [if_neg c, if_neg c, if_pos rfl]
  obtain ⟨m2, b1, b2, b3, b4⟩ := here_Q (a := 132) (by unfold isD; decide) a2
  rw [b1, bnd_some, i01, show rlit 132 = lit 16 from rfl]
  by_cases c : isW B n (lit 16) s = true
  · rw [if_pos c, if_pos c, if_neg (by decide)]
    exact ⟨m2, rfl, b2, b3, FQ_trans a4 b4⟩
  rw [if_neg c, if_neg c, if_pos rfl]
  obtain ⟨m3, d1, d2, d3, d4⟩ := here_Q (a := 133) (by unfold isD; decide) b2
  rw [d1, bnd_some, i01, show rlit 133 = lit 17 from rfl]
  by_cases c : isW B n (lit 17) s = true
  · rw [if_pos c, if_pos c, if_neg (by decide)]
    exact ⟨m3, rfl, d2, d3, FQ_trans a4 (FQ_trans b4 d4)⟩
  rw [if_neg c, if_neg c, if_pos rfl]
  obtain ⟨m4, e1, e2, e3, e4⟩ := here_Q (a := 134) (by unfold isD; decide) d2
  rw [e1, bnd_some, i01, show rlit 134 = lit 18 from rfl]
  by_cases c : isW B n (lit 18) s = true
  · rw [if_pos c, if_pos c, if_neg (by decide)]
    exact ⟨m4, rfl, e2, e3, FQ_trans a4 (FQ_trans b4 (FQ_trans d4 e4))⟩
  rw [if_neg c, if_neg c, if_pos rfl]
  obtain ⟨m5, f1, f2, f3, f4⟩ := here_Q (a := 135) (by unfold isD; decide) e2
  rw [f1, bnd_some, i01, show rlit 135 = lit 19 from rfl]
  by_cases c : isW B n (lit 19) s = true
  · rw [if_pos c, if_pos c, if_neg (by decide)]
    exact ⟨m5, rfl, f2, f3, FQ_trans a4 (FQ_trans b4 (FQ_trans d4 (FQ_trans e4 f4)))⟩
  rw [if_neg c, if_neg c, if_pos rfl]
  obtain ⟨m6, g1, g2, g3, g4⟩ := here_Q (a := 136) (by unfold isD; decide) f2
  rw [g1, bnd_some, i01, show rlit 136 = lit 13 from rfl]
  by_cases c : isW B n (lit 13) s = true
  · rw [if_pos c, if_pos c, if_neg (by decide)]
    exact ⟨m6, rfl, g2, g3, FQ_trans a4 (FQ_trans b4 (FQ_trans d4 (FQ_trans e4 (FQ_trans f4 g4))))⟩
  rw [if_neg c, if_neg c, if_pos rfl]
  obtain ⟨m7, k1, k2, k3, k4⟩ := here_Q (a := 137) (by unfold isD; decide) g2
  rw [k1, bnd_some, i01, show rlit 137 = lit 14 from rfl]
  by_cases c : isW B n (lit 14) s = true
  · rw [if_pos c, if_pos c, if_neg (by decide)]
    exact ⟨m7, rfl, k2, k3, FQ_trans a4 (FQ_trans b4 (FQ_trans d4 (FQ_trans e4 (FQ_trans f4 (FQ_trans g4 k4)))))⟩
  rw [if_neg c, if_neg c, if_pos rfl]
  exact ⟨m7, rfl, k2, k3, FQ_trans a4 (FQ_trans b4 (FQ_trans d4 (FQ_trans e4 (FQ_trans f4 (FQ_trans g4 k4)))))⟩
theorem qwh_13 (h : isW B n (lit 13) s = true) : qwh B n s = 5 := by
  unfold qwh
  rw [if_neg (bF (isW_ne h (by decide))), if_neg (bF (isW_ne h (by decide))), if_neg (bF (isW_ne h (by decide))), if_neg (bF (isW_ne h (by decide))), if_neg (bF (isW_ne h (by decide))), if_pos h]
theorem qwh_14 (h : isW B n (lit 14) s = true) : qwh B n s = 6 := by
  unfold qwh
  rw [if_neg (bF (isW_ne h (by decide))), if_neg (bF (isW_ne h (by decide))), if_neg (bF (isW_ne h (by decide))), if_neg (bF (isW_ne h (by decide))), if_neg (bF (isW_ne h (by decide))), if_neg (bF (isW_ne h (by decide))), if_pos h]
theorem qwh_no (h : tkd B n s ≠ 1) : qwh B n s = -1 := by
  unfold qwh
  rw [if_neg (bF (isW_not h)), if_neg (bF (isW_not h)), if_neg (bF (isW_not h)), if_neg (bF (isW_not h)), if_neg (bF (isW_not h)), if_neg (bF (isW_not h)), if_neg (bF (isW_not h))]
theorem qwh_rng : -1 ≤ qwh B n s ∧ qwh B n s ≤ 6 := by
  unfold qwh
  (repeat' split) <;> omega
theorem qwh_lo (h1 : ¬ isW B n (lit 13) s = true) (h2 : ¬ isW B n (lit 14) s = true) : qwh B n s ≤ 4 := by
  unfold qwh
  rw [if_neg h1, if_neg h2]
  (repeat' split) <;> omega
/-- of PARTs of other PARTs -/
def wof (B : Int → Int) (n : Int) (q : Bool) (s : Int × Int) : Int := if isW B n (lit 13) s = true then 5 else if q = true ∧ isW B n (lit 14) s = true then 6 else -1
theorem wordOf_57 (Q : QS m B n q s W L o b) : ∃ m', r_qWordOf 5 7 m = some (wof B n q s, m') ∧ QS m' B n q s W L o b ∧ ld m' 78 2 = tq B n s ∧ FQ m m' := by
  obtain ⟨m1, a1, a2, a3, a4⟩ := wordHere_Q Q
  have qr := qwh_rng (B := B) (n := n) (s := s)
  refine ⟨m1, ?_, a2, a3, a4⟩
  unfold r_qWordOf wof r_isAllowed
  rw [a1, bnd_some, w32_id (x := qwh B n s) (by omega) (by omega), a2.2.2.2.2.2, show w32 5 = 5 from rfl, show w32 7 = 7 from rfl]
  by_cases c1 : isW B n (lit 13) s = true
  · rw [qwh_13 c1, if_pos c1, if_neg (by decide), if_neg (by decide)]
    by_cases cq : q = true
    · rw [if_pos cq, if_pos rfl, bnd_some, if_neg (by decide)]
    · rw [if_neg cq, if_neg (by decide), if_neg (by decide), if_pos rfl, bnd_some, if_neg (by decide)]
  rw [if_neg c1]
  by_cases c2 : isW B n (lit 14) s = true
  · rw [qwh_14 c2, if_neg (by decide), if_neg (by decide)]
    by_cases cq : q = true
    · rw [if_pos cq, if_pos rfl, bnd_some, if_neg (by decide), if_pos ⟨cq, c2⟩]
    · rw [if_neg cq, if_neg (by decide), if_neg (by decide), if_neg (by decide), bnd_some, if_pos (by rfl), if_neg (fun z => cq z.1)]
  · have := qwh_lo c1 c2
    rw [if_pos (by omega), if_neg (fun z => c2 z.2)]
def wpt (B : Int → Int) (n : Int) (q : Bool) (s : Int × Int) : Int := ((lea B n q s).map (fun t => t - 10001)).getD (-1)
def wpv (q : Bool) (w : Int) : Int := if w < 0 then -1 else if 5 ≤ w then -1 else if q = true ∨ w = 0 then w else -1
theorem wpv_lea : wpv q (qwh B n s) = wpt B n q s := by
  unfold wpt lea qwh
  by_cases c : isW B n (lit 15) s = true
  · rw [if_pos c, if_pos c]
    unfold wpv
    rw [if_neg (by decide), if_neg (by decide), if_pos (Or.inr rfl)]
    rfl
  rw [if_neg c, if_neg c]
  by_cases cq : q = true
  · rw [if_neg (show ¬ q = false by rw [cq]; decide)]
    have k : ∀ w, 0 ≤ w → w < 5 → wpv q w = w := fun w h1 h2 => by
      unfold wpv
      rw [if_neg (by omega), if_neg (by omega), if_pos (Or.inl cq)]
    by_cases c : isW B n (lit 16) s = true
    · rw [if_pos c, if_pos c, k 1 (by decide) (by decide)]; rfl
    rw [if_neg c, if_neg c]
    by_cases c : isW B n (lit 17) s = true
    · rw [if_pos c, if_pos c, k 2 (by decide) (by decide)]; rfl
    rw [if_neg c, if_neg c]
    by_cases c : isW B n (lit 18) s = true
    · rw [if_pos c, if_pos c, k 3 (by decide) (by decide)]; rfl
    rw [if_neg c, if_neg c]
    by_cases c : isW B n (lit 19) s = true
    · rw [if_pos c, if_pos c, k 4 (by decide) (by decide)]; rfl
    rw [if_neg c, if_neg c]
    by_cases c : isW B n (lit 13) s = true
    · rw [if_pos c]; rfl
    rw [if_neg c]
    by_cases c : isW B n (lit 14) s = true
    · rw [if_pos c]; rfl
    rw [if_neg c]; rfl
  · have cf : q = false := by simpa using cq
    rw [if_pos cf]
    have k : ∀ w, w ≠ 0 → wpv q w = -1 := fun w h1 => by
      unfold wpv
      split
      · rfl
      split
      · rfl
      rw [if_neg (fun z => z.elim cq h1)]
    rw [k _ (by (repeat' split) <;> decide)]
    rfl
theorem wordOf_05 (Q : QS m B n q s W L o b) : ∃ m', r_qWordOf 0 5 m = some (wpt B n q s, m') ∧ QS m' B n q s W L o b ∧ ld m' 78 2 = tq B n s ∧ FQ m m' := by
  obtain ⟨m1, a1, a2, a3, a4⟩ := wordHere_Q Q
  have qr := qwh_rng (B := B) (n := n) (s := s)
  refine ⟨m1, ?_, a2, a3, a4⟩
  unfold r_qWordOf r_isAllowed
  rw [a1, bnd_some, a2.2.2.2.2.2, ← wpv_lea]
  generalize qwh B n s = w at qr
  unfold wpv
  rw [w32_id (x := w) (by omega) (by omega), show w32 5 = 5 from rfl, show w32 0 = 0 from rfl]
  by_cases c0 : w < 0
  · rw [if_pos c0, if_pos c0]
  by_cases c5 : 5 ≤ w
  · rw [if_neg c0, if_neg c0, if_pos c5, if_pos c5]
  rw [if_neg c0, if_neg c0, if_neg c5, if_neg c5]
  by_cases cq : q = true
  · rw [if_pos cq, if_pos rfl, bnd_some, if_neg (by decide), if_pos (Or.inl cq)]
  · rw [if_neg cq, if_neg (by decide)]
    by_cases w0 : w = 0
    · rw [if_pos w0, bnd_some, if_neg (by decide), if_pos (Or.inr w0)]
    · rw [if_neg w0, if_neg (by omega), bnd_some, if_pos (by rfl), if_neg (fun z => z.elim cq w0)]
theorem asks_Q {a : Nat} (ha : isD a) (Q : QS m B n q s W L o b) (h : isW B n (rlit a) s = true) : ∃ m', r_asks a m = some (0, m') ∧ QS m' B n q (nx B n s) W L o b ∧ FQ m m' := by
  obtain ⟨m', a1, a2, a3⟩ := (r_asks_S ha Q.1).1 h
  exact ⟨m', a1, QS_FR Q a2 a3, FQ_FR a3⟩
/-- a word of a question or door -/
theorem asksWord_of {t : Int} (Q : QS m B n q s W L o b) (h : t = 10011 ∧ isW B n (lit 13) s = true ∨ t = 10012 ∧ isW B n (lit 14) s = true) : ∃ m', r_qAsksWord (t - 10006) m = some (0, m') ∧ QS m' B n q (nx B n s) W L o b ∧ FQ m m' := by
  unfold r_qAsksWord
  rcases h with ⟨rfl, h⟩ | ⟨rfl, h⟩
  · obtain ⟨m1, a1, a2, a3⟩ := asks_Q (a := 136) (by unfold isD; decide) Q h
    refine ⟨m1, ?_, a2, a3⟩
    simp only [xsw]
    rw [a1, bnd_some]
    rfl
  · obtain ⟨m1, a1, a2, a3⟩ := asks_Q (a := 137) (by unfold isD; decide) Q h
    refine ⟨m1, ?_, a2, a3⟩
    simp only [xsw]
    rw [a1, bnd_some]
    rfl
theorem asksWord_B {k p v : Int} (F : RB m k p) : r_qAsksWord v m = some (0, m) := by
  unfold r_qAsksWord
  simp only [xsw]
  rw [r_asks_B F, bnd_some, r_asks_B F, bnd_some, r_asks_B F, bnd_some, r_asks_B F, bnd_some, r_asks_B F, bnd_some, r_asks_B F, bnd_some, r_asks_B F, bnd_some]
  (repeat' split) <;> rfl
theorem asksWord_pt {t : Int} (Q : QS m B n q s W L o b) (h : lea B n q s = some t) : ∃ m', r_qAsksWord (t - 10001) m = some (0, m') ∧ QS m' B n q (nx B n s) W L o b ∧ FQ m m' := by
  have go : ∀ (a : Nat) (j : Int), isD a → isW B n (rlit a) s = true → (∀ m', r_asks a m = some (0, m') → r_qAsksWord j m = some (0, m')) → ∃ m', r_qAsksWord j m = some (0, m') ∧ QS m' B n q (nx B n s) W L o b ∧ FQ m m' := by
    intro a j ha hw e
    obtain ⟨m1, a1, a2, a3⟩ := asks_Q ha Q hw
    exact ⟨m1, e m1 a1, a2, a3⟩
  unfold lea at h
  split at h
  · next c =>
    cases h
    exact go 131 _ (by unfold isD; decide) c (fun m' e => by unfold r_qAsksWord; simp only [xsw]; rw [e]; rfl)
  split at h
  · cases h
  split at h
  · next c =>
    cases h
    exact go 132 _ (by unfold isD; decide) c (fun m' e => by unfold r_qAsksWord; simp only [xsw]; rw [e]; rfl)
  split at h
  · next c =>
    cases h
    exact go 133 _ (by unfold isD; decide) c (fun m' e => by unfold r_qAsksWord; simp only [xsw]; rw [e]; rfl)
  split at h
  · next c =>
    cases h
    exact go 134 _ (by unfold isD; decide) c (fun m' e => by unfold r_qAsksWord; simp only [xsw]; rw [e]; rfl)
  split at h
  · next c =>
    cases h
    exact go 135 _ (by unfold isD; decide) c (fun m' e => by unfold r_qAsksWord; simp only [xsw]; rw [e]; rfl)
  · cases h
/-- a code behind a fault -/
theorem qCode_B {k p v : Int} (F : RB m k p) (h0 : 0 ≤ ld m 78 84) (h1 : ld m 78 84 < 1700) : ∃ m', r_qCode v m = some (0, m') ∧ RB m' k p ∧ ld m' 78 84 = ld m 78 84 + 1 ∧ FQ m m' := by
  unfold r_qCode
  rw [ias_in h0 (by rw [al138]; omega), stf_eq]
  exact ⟨_, rfl, ⟨F.1, by rw [ld_st_ne (by decide), ld_st_nc (by decide)]; exact F.2.1, by rw [ld_st_ne (by decide), ld_st_nc (by decide)]; exact F.2.2⟩, by rw [ld_st_eq, ld_st_nc (by decide), w32_id (by omega) (by omega)], FQ_trans FQ_st8 (FQ_st (by decide))⟩
theorem endsPart_B {k p : Int} (F : RB m k p) : r_qEndsPart m = some (0, m) := by
  unfold r_qEndsPart
  rw [xLF_eq, r_qEndsPart_0, if_neg (by rw [F.2.1]; exact F.1)]
theorem PT_B {k p : Int} {f g : Nat} (F : RB m k p) : PT (f + 1) (g + 1) v1 m = some (0, st m 78 88 v1) := by
  unfold PT
  rw [r_qPartTold_2, if_neg (by decide), if_neg (by rw [F.2.1]; exact F.1)]
  unfold r_qPartTold_184
  rw [if_neg (by rw [F.2.1]; exact F.1), bnd_some, pk_B F]
end RPT
