/-! the reference behind a part of a sum: how it goes on -/
def gk (g : Nat) (v1 : Int) : Int → xm → xr := fun r3 m4 => if w32 r3 = 0 then r_qSums_48 (fun v1 v2 m => r_qSums_15 g v1 v2 m) v1 m4 else r_qSums_49 (fun v1 v2 m => r_qSums_15 g v1 v2 m) v1 1 m4
def GO (f g : Nat) (v1 : Int) (m : xm) : xr := bnd (r_qGoesOn_0 f m) (gk g v1)
def pk (g : Nat) (v1 : Int) : Int → xm → xr := fun _ m2 => if ld m2 78 5 = 0 then bnd (r_qGoesOn m2) (gk g v1) else r_qSums_48 (fun v1 v2 m => r_qSums_15 g v1 v2 m) v1 m2
def PT (f g : Nat) (v1 : Int) (m : xm) : xr := bnd (r_qPartTold_2 f 1 m) (pk g v1)
theorem sg42 : sgn 42 := ⟨by decide, by decide, rfl, rfl⟩
theorem sg47 : sgn 47 := ⟨by decide, by decide, rfl, rfl⟩
theorem sg43 : sgn 43 := ⟨by decide, by decide, rfl, rfl⟩
theorem sg45 : sgn 45 := ⟨by decide, by decide, rfl, rfl⟩
theorem sg41 : sgn 41 := ⟨by decide, by decide, rfl, rfl⟩
theorem sg40 : sgn 40 := ⟨by decide, by decide, rfl, rfl⟩
theorem sg44 : sgn 44 := ⟨by decide, by decide, rfl, rfl⟩
section RGO
variable {B : Int → Int} {n : Int} {q : Bool} {s : Int × Int} {o b v1 : Int} {m : xm} {W L : List Int}
theorem gk_1 {g : Nat} (h : ld m 78 5 = 0) : gk (g + 1) v1 1 m = PT xLF g v1 m := by
  unfold gk r_qSums_49 PT
  rw [if_neg (by decide), xlt_eq]
  dsimp only
  rw [r_qSums_15, if_neg (by decide), if_pos h]
  rfl
theorem gk_0 {g : Nat} : gk (g + 1) v1 0 m = r_qSums_53 xLF v1 m := by
  unfold gk r_qSums_48 r_qSums_49
  rw [if_pos (by rfl), xlt_eq]
  dsimp only
  rw [r_qSums_15, if_pos (by rfl)]
theorem s53_B {k p : Int} (F : RB m k p) : r_qSums_53 xLF v1 m = some (0, st m 78 88 v1) := by
  rw [xLF_eq, r_qSums_53, if_neg (by rw [F.2.1]; exact F.1)]
  rfl
theorem pk_B {g : Nat} {k p r : Int} (F : RB m k p) : pk (g + 1) v1 r m = some (0, st m 78 88 v1) := by
  unfold pk r_qSums_48 r_qSums_49
  rw [if_neg (by rw [F.2.1]; exact F.1), xlt_eq]
  dsimp only
  rw [r_qSums_15, if_pos (by rfl), s53_B F]
theorem pk_S {g : Nat} {r : Int} (h : ld m 78 5 = 0) : pk g v1 r m = GO xLF g v1 m := by
  unfold pk GO r_qGoesOn
  rw [if_pos h]
theorem look_Q (Q : QS m B n q s W L o b) : ∃ m', r_look m = some (see B n (tq B n s), m') ∧ QS m' B n q s W L o b ∧ ld m' 78 2 = tq B n s ∧ FQ m m' := by
  obtain ⟨m', a1, a2, a3, a4⟩ := r_look_S Q.1
  exact ⟨m', a1, QS_FR Q a2 a4, a3, FQ_FR a4⟩
theorem see_w (Q : QS m B n q s W L o b) : w32 (see B n (tq B n s)) = see B n (tq B n s) := w32_rg (see_rg (RT_TB Q.1.1) Q.1.2.1)
theorem tks_Q {c : Int} (hc : sgn c) (Q : QS m B n q s W L o b) : (isG B n c s = true → ∃ m', r_takesSign c m = some (1, m') ∧ QS m' B n q (nx B n s) W L o b ∧ ld m' 78 2 = tq B n s + 1 ∧ FQ m m') ∧ (isG B n c s = false → ∃ m', r_takesSign c m = some (0, m') ∧ QS m' B n q s W L o b ∧ ld m' 78 2 = tq B n s ∧ FQ m m') := by
  have h := r_takesSign_S hc Q.1
  constructor
  · intro z
    obtain ⟨m', a1, a2, a3, a4⟩ := h.1 z
    exact ⟨m', a1, QS_FR Q a2 a4, a3, FQ_FR a4⟩
  · intro z
    obtain ⟨m', a1, a2, a3, a4⟩ := h.2 z
    exact ⟨m', a1, QS_FR Q a2 a4, a3, FQ_FR a4⟩
theorem tape_Q {c : Int} (hc : sgn c) (Q : QS m B n q (nx B n s) W L o b) (ok : okT n s) (h : isG B n c s = true) (h2 : ld m 78 2 = tq B n s + 1) {K : Int → xr} : ial m 79 (ld m 78 2 - 1) K = K c := by
  have t := tto_3 (isG_kd h).1
  have sn := see_in (B := B) (n := n) (q := tq B n s) (by rw [(isG_kd h).2]; have := hc.1; omega)
  have t3 := Q.1.1.2.2.1
  have tr := tq_rng (B := B) ok
  have o1 := ok.1
  rw [h2, show tq B n s + 1 - 1 = tq B n s by omega, ial_in (by omega) (by rw [al79]; omega), (Q.1.1.2.2.2 (tq B n s) (by omega) sn.1).1, ← sn.2, (isG_kd h).2]
theorem isG_neF {c d : Int} (h : isG B n c s = true) (e : c ≠ d) : isG B n d s = false := isG_ne h e
theorem GO_times {Pm : List Int} {f g : Nat} {t : Int} (Q : QS m B n q s (Pm.map rtk ++ W) L o b) (htp : tpo W (fun x => x ≠ 3 ∧ x ≠ 4)) (hp : ∀ y ∈ Pm, isPO y) (hl : Pm.length + W.length + L.length < 1690) (ht : tkG B n 42 10032 47 10033 s = some t) : ∃ m', GO (f + 1) (g + 1) v1 m = PT xLF g v1 m' ∧ QS m' B n q (nx B n s) (rtk t :: W) (L ++ Pm) o b ∧ FQ m m' := by
  have ok := Q.1.2.1
  obtain ⟨m1, a1, a2, a3, a4⟩ := look_Q Q
  have fin : ∀ {m2 : xm}, QS m2 B n q (nx B n s) (Pm.map rtk ++ W) L o b → ld m2 78 2 = tq B n s + 1 → FQ m m2 → ∃ m', bnd (r_qGoesOn_140 m2) (gk (g + 1) v1) = PT xLF g v1 m' ∧ QS m' B n q (nx B n s) (rtk t :: W) (L ++ Pm) o b ∧ FQ m m' := by
    intro m2 Q2 h2 f2
    have e : r_qGoesOn_140 m2 = r_qGoesOn_162 xLF (rtk t) m2 := by
      unfold r_qGoesOn_140 r_qGoesOn_161
      unfold tkG at ht
      by_cases c : isG B n 42 s = true
      · rw [if_pos c] at ht
        cases ht
        rw [tape_Q sg42 Q2 ok c h2, if_pos (by rfl), xlt_eq]
        rfl
      · rw [if_neg c] at ht
        split at ht
        · next d =>
          cases ht
          rw [tape_Q sg47 Q2 ok d h2, if_neg (by decide), xlt_eq]
          rfl
        · cases ht
    have tt : isPO t := by
      rcases (tkG_t ht).2 with rfl | rfl
      · exact Or.inl rfl
      · exact Or.inr rfl
    obtain ⟨m3, b1, b2, b3⟩ := times_loop htp tt Pm (f := xLF) Q2 hp hl (by rw [xLF_eq]; omega)
    refine ⟨m3, ?_, b2, FQ_trans f2 b3⟩
    rw [e, b1, bnd_some, gk_1 b2.1.2.2.1]
  unfold GO
  rw [r_qGoesOn_0, if_pos Q.1.2.2.1, a1, bnd_some, see_w Q]
  unfold tkG at ht
  by_cases c : isG B n 42 s = true
  · obtain ⟨m2, b1, b2, b3, b4⟩ := (tks_Q sg42 a2).1 c
    rw [(isG_kd c).2, if_neg (by decide)]
    unfold r_qGoesOn_122
    rw [b1, bnd_some, if_neg (by decide)]
    exact fin b2 b3 (FQ_trans a4 b4)
  · rw [if_neg c] at ht
    split at ht
    · next d =>
      obtain ⟨m2, b1, b2, b3, b4⟩ := (tks_Q sg42 a2).2 (by simpa using c)
      obtain ⟨m3, d1, d2, d3, d4⟩ := (tks_Q sg47 b2).1 d
      rw [(isG_kd d).2, if_neg (by decide)]
      unfold r_qGoesOn_122
      rw [b1, bnd_some, if_pos (by rfl), d1, bnd_some, if_neg (by decide)]
      exact fin d2 d3 (FQ_trans a4 (FQ_trans b4 d4))
    · cases ht
theorem GO_plus {Pm : List Int} {f g : Nat} {t : Int} (Q : QS m B n q s (Pm.map rtk ++ W) L o b) (htp : tpo W (fun x => x ≠ 1 ∧ x ≠ 2 ∧ x ≠ 3 ∧ x ≠ 4)) (hp : ∀ y ∈ Pm, isSO y) (hl : Pm.length + W.length + L.length < 1690) (ht : tkG B n 43 10030 45 10031 s = some t) : ∃ m', GO (f + 1) (g + 1) v1 m = PT xLF g v1 m' ∧ QS m' B n q (nx B n s) (rtk t :: W) (L ++ Pm) o b ∧ FQ m m' := by
  have ok := Q.1.2.1
  obtain ⟨m1, a1, a2, a3, a4⟩ := look_Q Q
  have tt : isSO t := by
    rcases (tkG_t ht).2 with rfl | rfl <;> (unfold isSO; decide)
  have fin : ∀ {m2 : xm}, QS m2 B n q (nx B n s) (Pm.map rtk ++ W) L o b → ld m2 78 2 = tq B n s + 1 → FQ m m2 → ∃ m', bnd (r_qGoesOn_225 m2) (gk (g + 1) v1) = PT xLF g v1 m' ∧ QS m' B n q (nx B n s) (rtk t :: W) (L ++ Pm) o b ∧ FQ m m' := by
    intro m2 Q2 h2 f2
    have e : r_qGoesOn_225 m2 = r_qGoesOn_247 xLF (rtk t) m2 := by
      unfold r_qGoesOn_225 r_qGoesOn_246
      unfold tkG at ht
      by_cases c : isG B n 43 s = true
      · rw [if_pos c] at ht
        cases ht
        rw [tape_Q sg43 Q2 ok c h2, if_pos (by rfl), xlt_eq]
        rfl
      · rw [if_neg c] at ht
        split at ht
        · next d =>
          cases ht
          rw [tape_Q sg45 Q2 ok d h2, if_neg (by decide), xlt_eq]
          rfl
        · cases ht
    obtain ⟨m3, b1, b2, b3⟩ := plus_loop htp tt Pm (f := xLF) Q2 hp hl (by rw [xLF_eq]; omega)
    refine ⟨m3, ?_, b2, FQ_trans f2 b3⟩
    rw [e, b1, bnd_some, gk_1 b2.1.2.2.1]
  unfold GO
  rw [r_qGoesOn_0, if_pos Q.1.2.2.1, a1, bnd_some, see_w Q]
  unfold tkG at ht
  by_cases c : isG B n 43 s = true
  · obtain ⟨m2, b1, b2, b3, b4⟩ := (tks_Q sg42 a2).2 (isG_ne c (by decide))
    obtain ⟨m3, d1, d2, d3, d4⟩ := (tks_Q sg47 b2).2 (isG_ne c (by decide))
    obtain ⟨m4, e1, e2, e3, e4⟩ := (tks_Q sg43 d2).1 c
    rw [(isG_kd c).2, if_neg (by decide)]
    unfold r_qGoesOn_122
    rw [b1, bnd_some, if_pos (by rfl), d1, bnd_some, if_pos (by rfl), e1, bnd_some, if_neg (by decide)]
    exact fin e2 e3 (FQ_trans a4 (FQ_trans b4 (FQ_trans d4 e4)))
  · rw [if_neg c] at ht
    split at ht
    · next d =>
      obtain ⟨m2, b1, b2, b3, b4⟩ := (tks_Q sg42 a2).2 (isG_ne d (by decide))
      obtain ⟨m3, d1, d2, d3, d4⟩ := (tks_Q sg47 b2).2 (isG_ne d (by decide))
      obtain ⟨m4, e1, e2, e3, e4⟩ := (tks_Q sg43 d2).2 (by simpa using c)
      obtain ⟨m5, g1, g2, g3, g4⟩ := (tks_Q sg45 e2).1 d
      rw [(isG_kd d).2, if_neg (by decide)]
      unfold r_qGoesOn_122
      rw [b1, bnd_some, if_pos (by rfl), d1, bnd_some, if_pos (by rfl), e1, bnd_some, if_pos (by rfl), g1, bnd_some, if_neg (by decide)]
      exact fin g2 g3 (FQ_trans a4 (FQ_trans b4 (FQ_trans d4 (FQ_trans e4 g4))))
    · cases ht
theorem tkG_none {c1 t1 c2 t2 : Int} (h : tkG B n c1 t1 c2 t2 s = none) : isG B n c1 s = false ∧ isG B n c2 s = false := by
  unfold tkG at h
  split at h
  · cases h
  · next c =>
    split at h
    · cases h
    · next d => exact ⟨by simpa using c, by simpa using d⟩
/-- no sign of a sum or product -/
theorem no_sign (Q : QS m B n q s W L o b) (h1 : tkG B n 42 10032 47 10033 s = none) (h2 : tkG B n 43 10030 45 10031 s = none) : ∃ m', QS m' B n q s W L o b ∧ ld m' 78 2 = tq B n s ∧ FQ m m' ∧ r_qGoesOn_122 m = (bnd (r_qBracket m') fun r9 m10 => if w32 r9 = 21 then r_qGoesOn_326 m10 else bnd (r_qBracket m10) fun r11 m12 => if w32 r11 = 22 then r_qGoesOn_326 m12 else bnd (r_qBracket m12) fun r13 m14 => if w32 r13 = (-1) then some (0, m14) else if ld m14 78 5 = 0 then bnd (r_fail 1 (ld m14 78 2) m14) fun r15 m16 => some (0, m16) else some (0, m14)) := by
  obtain ⟨m2, b1, b2, b3, b4⟩ := (tks_Q sg42 Q).2 (tkG_none h1).1
  obtain ⟨m3, d1, d2, d3, d4⟩ := (tks_Q sg47 b2).2 (tkG_none h1).2
  obtain ⟨m4, e1, e2, e3, e4⟩ := (tks_Q sg43 d2).2 (tkG_none h2).1
  obtain ⟨m5, g1, g2, g3, g4⟩ := (tks_Q sg45 e2).2 (tkG_none h2).2
  refine ⟨m5, g2, g3, FQ_trans b4 (FQ_trans d4 (FQ_trans e4 g4)), ?_⟩
  unfold r_qGoesOn_122
  rw [b1, bnd_some, if_pos (by rfl), d1, bnd_some, if_pos (by rfl), e1, bnd_some, if_pos (by rfl), g1, bnd_some, if_pos (by rfl)]
theorem SO_nB {Pm : List Int} (hp : ∀ y ∈ Pm, isSO y) : ∀ y ∈ Pm.map rtk, ¬ isB y := by
  intro y hy
  obtain ⟨z, hz, rfl⟩ := List.mem_map.mp hy
  have := rtk_SO (hp z hz)
  unfold isB
  omega
/-- the end of the outermost sum -/
theorem GO_end {Pm : List Int} {f g : Nat} (Q : QS m B n q s (Pm.map rtk ++ W) L o b) (hb : b = (W.length : Int)) (hv : rg v1) (hp : ∀ y ∈ Pm, isSO y) (hl : Pm.length + W.length + L.length < 1690) (h1 : tkG B n 42 10032 47 10033 s = none) (h2 : tkG B n 43 10030 45 10031 s = none) : ∃ m', GO (f + 1) (g + 1) v1 m = some (0, m') ∧ QS m' B n q s W (L ++ Pm) o v1 ∧ FQ m m' := by
  obtain ⟨m1, a1, a2, a3, a4⟩ := look_Q Q
  have le : (Pm.map rtk ++ W).length < 1700 := by rw [List.length_append, List.length_map]; omega
  obtain ⟨m2, b1, b2, b3, b4⟩ := no_sign a2 h1 h2
  have q1 := r_qBracket_N a2 hb (SO_nB hp) le
  have q2 := r_qBracket_N b1 hb (SO_nB hp) le
  have e : r_qGoesOn_122 m1 = some (0, m2) := by
    rw [b4, q2, bnd_some, if_neg (by decide), q2, bnd_some, if_neg (by decide), q2, bnd_some, if_pos (by rfl)]
  have e2 : r_qGoesOn_0 (f + 1) m = some (0, m2) := by
    rw [r_qGoesOn_0, if_pos Q.1.2.2.1, a1, bnd_some, see_w Q]
    split
    · rw [q1, bnd_some, if_neg (by decide), q1, bnd_some, if_neg (by decide), q1, bnd_some, if_neg (by decide), e]
    · exact e
  obtain ⟨m3, d1, d2, d3⟩ := sums_53 hb hv Pm (f := xLF) b1 hp hl (by rw [xLF_eq]; omega)
  unfold GO
  rw [e2, bnd_some, gk_0, d1]
  exact ⟨m3, rfl, d2, FQ_trans a4 (FQ_trans b3 d3)⟩
/-- a bracket is not closed -/
theorem GO_fail {Pm W1 : List Int} {f g : Nat} {x : Int} (Q : QS m B n q s (Pm.map rtk ++ x :: W1) L o b) (hx : isB x) (hb : b ≤ (W1.length : Int)) (hp : ∀ y ∈ Pm, isSO y) (hl : Pm.length + (x :: W1).length + L.length < 1690) (h1 : tkG B n 42 10032 47 10033 s = none) (h2 : tkG B n 43 10030 45 10031 s = none) (hc : (x = 20 ∨ x = 23 ∨ x = 24) ∧ isG B n 41 s = false ∨ (x = 21 ∨ x = 22) ∧ isG B n 44 s = false) : ∃ m', GO (f + 1) (g + 1) v1 m = some (0, st m' 78 88 v1) ∧ RBQ m' 1 (tq B n s) ∧ FQ m m' := by
  obtain ⟨m1, a1, a2, a3, a4⟩ := look_Q Q
  have le : (Pm.map rtk ++ x :: W1).length < 1700 := by rw [List.length_append, List.length_map]; omega
  obtain ⟨m2, b1, b2, b3, b4⟩ := no_sign a2 h1 h2
  have q1 := r_qBracket_S a2 hx hb (SO_nB hp) le
  have q2 := r_qBracket_S b1 hx hb (SO_nB hp) le
  have wx : w32 x = x := w32_id (by unfold isB at hx; omega) (by unfold isB at hx; omega)
  have e : ∃ m', r_qGoesOn_122 m1 = some (0, m') ∧ RBQ m' 1 (tq B n s) ∧ FQ m m' := by
    have e84 := b1.2.2.1.1
    rw [b4, q2, bnd_some, wx]
    rcases hc with ⟨hx1, hc⟩ | ⟨hx1, hc⟩
    · obtain ⟨m3, d1, d2, d3⟩ := r_failAt (k := 1) b1.1 b2 (by decide) (by decide) (by decide)
      rw [if_neg (by omega), q2, bnd_some, wx, if_neg (by omega), q2, bnd_some, wx, if_neg (by omega), if_pos b1.1.2.2.1, d1, bnd_some]
      exact ⟨m3, rfl, ⟨d2, by rw [ldq (d3 78 84 (by omega)), e84]; omega, by rw [ldq (d3 78 84 (by omega)), e84]; omega⟩, FQ_trans a4 (FQ_trans b3 (FQ_FR d3))⟩
    · obtain ⟨m3, d1, d2, d3⟩ := (r_asksSign_S sg44 b1.1).2 hc
      have e3 : r_qGoesOn_326 m2 = some (0, m3) := by
        unfold r_qGoesOn_326
        rw [d1, bnd_some, if_neg (by rw [d2.2.1]; decide)]
      refine ⟨m3, ?_, ⟨d2, by rw [ldq (d3 78 84 (by omega)), e84]; omega, by rw [ldq (d3 78 84 (by omega)), e84]; omega⟩, FQ_trans a4 (FQ_trans b3 (FQ_FR d3))⟩
      rcases hx1 with rfl | rfl
      · rw [if_pos rfl, e3]
      · rw [if_neg (by decide), q2, bnd_some, if_pos (by rfl), e3]
  obtain ⟨m3, e1, e2, e3⟩ := e
  have e4 : r_qGoesOn_0 (f + 1) m = some (0, m3) := by
    rw [r_qGoesOn_0, if_pos Q.1.2.2.1, a1, bnd_some, see_w Q]
    by_cases c : see B n (tq B n s) = 41
    · have : ¬ (x = 20 ∨ x = 23 ∨ x = 24) := fun z => by
        rcases hc with ⟨-, y⟩ | ⟨y, -⟩
        · rw [(isG_see sg41).mpr c] at y; cases y
        · omega
      rw [if_pos c, q1, bnd_some, wx, if_neg (by omega), q1, bnd_some, wx, if_neg (by omega), q1, bnd_some, wx, if_neg (by omega), e1]
    · rw [if_neg c, e1]
  unfold GO
  rw [e4, bnd_some, gk_0, s53_B e2.1]
  exact ⟨m3, rfl, e2, e3⟩
/-- a comma -/
theorem GO_comma {Pm W1 : List Int} {f g : Nat} {x : Int} (Q : QS m B n q s (Pm.map rtk ++ x :: W1) L o b) (hx : x = 21 ∨ x = 22) (hb : b ≤ (W1.length : Int)) (hp : ∀ y ∈ Pm, isSO y) (hl : Pm.length + (x :: W1).length + L.length < 1690) (hc : isG B n 44 s = true) : ∃ m', GO (f + 1) (g + 1) v1 m = PT xLF g v1 m' ∧ QS m' B n q (nx B n s) ((x + 2) :: W1) (L ++ Pm) o b ∧ FQ m m' := by
  obtain ⟨m1, a1, a2, a3, a4⟩ := look_Q Q
  have hx0 : isB x := by unfold isB; omega
  have le : (Pm.map rtk ++ x :: W1).length < 1700 := by rw [List.length_append, List.length_map]; omega
  have t1 : tkG B n 42 10032 47 10033 s = none := by
    unfold tkG
    rw [if_neg (bF (isG_ne hc (by decide))), if_neg (bF (isG_ne hc (by decide)))]
  have t2 : tkG B n 43 10030 45 10031 s = none := by
    unfold tkG
    rw [if_neg (bF (isG_ne hc (by decide))), if_neg (bF (isG_ne hc (by decide)))]
  obtain ⟨m2, b1, b2, b3, b4⟩ := no_sign a2 t1 t2
  have q2 := r_qBracket_S b1 hx0 hb (SO_nB hp) le
  obtain ⟨m3, d1, d2, d3⟩ := (r_asksSign_S sg44 b1.1).1 hc
  have Q3 := QS_FR b1 d2 d3
  obtain ⟨m4, e1, e2, e3⟩ := toBracket_S hx0 hb Q3 hp (by omega)
  rw [List.length_cons] at hl
  have f1 := e2.2.1.1
  rw [List.length_cons] at f1
  have Q5 : QS (st m4 139 (W1.length : Int) (x + 2)) B n q (nx B n s) ((x + 2) :: W1) (L ++ Pm) o b := by
    obtain ⟨R, ⟨h1, h2⟩, ⟨h3, h4⟩, h5, h6, h7⟩ := e2
    refine ⟨RS_cg R (fun a k z => st_at (by omega)), ⟨by rw [ld_st_nc (by decide), h1]; rfl, ?_, skr_cg h2.2 (fun i hi => by rw [ld_st_ne (by omega)])⟩, ⟨by rw [ld_st_nc (by decide), h3], cdl_cg h4 (fun i _ => st_at (by omega))⟩, by rw [ld_st_nc (by decide), h5], by rw [ld_st_nc (by decide), h6], by rw [ld_st_nc (by decide), h7]⟩
    rw [ld_st_eq, w32_id (by omega) (by omega)]
  have g3 : r_qGoesOn_326 m2 = some (1, st m4 139 (W1.length : Int) (x + 2)) := by
    unfold r_qGoesOn_326
    rw [d1, bnd_some, if_pos d2.2.2.1, e1, bnd_some, f1, show ((W1.length + 1 : Nat) : Int) - 1 = (W1.length : Int) by omega, ial_in (by omega) (by rw [al139]; omega), e2.2.1.2.1, ias_in (by omega) (by rw [al139]; omega)]
  have g4 : r_qGoesOn_0 (f + 1) m = some (1, st m4 139 (W1.length : Int) (x + 2)) := by
    rw [r_qGoesOn_0, if_pos Q.1.2.2.1, a1, bnd_some, see_w Q, (isG_kd hc).2, if_neg (by decide), b4, q2, bnd_some]
    rcases hx with rfl | rfl
    · rw [if_pos (by rfl), g3]
    · rw [if_neg (by decide), q2, bnd_some, if_pos (by rfl), g3]
  unfold GO
  rw [g4, bnd_some, gk_1 Q5.1.2.2.1]
  exact ⟨_, rfl, Q5, FQ_trans a4 (FQ_trans b3 (FQ_trans (FQ_FR d3) (FQ_trans e3 FQ_st9)))⟩
/-- a bracket is closed -/
theorem GO_close {Pm U W1 : List Int} {f g : Nat} {x : Int} {X : List Int} (Q : QS m B n q s (Pm.map rtk ++ x :: (U.map rtk ++ W1)) L o b) (hx : x = 20 ∧ X = [] ∨ x = 23 ∧ X = [10034] ∨ x = 24 ∧ X = [10035]) (hb0 : 0 ≤ b) (hb : b ≤ (W1.length : Int)) (htp : tpo W1 (fun x => x < 60)) (hp : ∀ y ∈ Pm, isSO y) (hu : ∀ y ∈ U, isOF y) (hl : Pm.length + 1 + U.length + W1.length + L.length < 1690) (ho : (U.length : Int) + 1 ≤ o) (ho6 : o ≤ 6) (hc : isG B n 41 s = true) : ∃ m', GO (f + 1) g v1 m = GO f g v1 m' ∧ QS m' B n q (nx B n s) W1 (L ++ Pm ++ X ++ U) (o - 1 - U.length) b ∧ FQ m m' := by
  obtain ⟨m1, a1, a2, a3, a4⟩ := look_Q Q
  have hx0 : isB x := by unfold isB; omega
  have wx : w32 x = x := w32_id (by unfold isB at hx0; omega) (by unfold isB at hx0; omega)
  have l1 : (U.map rtk ++ W1).length = U.length + W1.length := by rw [List.length_append, List.length_map]
  have le : (Pm.map rtk ++ x :: (U.map rtk ++ W1)).length < 1700 := by rw [List.length_append, List.length_map, List.length_cons, l1]; omega
  have hb' : b ≤ ((U.map rtk ++ W1).length : Int) := by rw [l1]; omega
  have q1 := r_qBracket_S a2 hx0 hb' (SO_nB hp) le
  have R1 := RS_sign (m' := m1) a2.1 (isG_kd hc).1 a3
  have Q1 := QS_FR a2 R1 (FR_st (by decide))
  obtain ⟨m2, b1, b2, b3⟩ := toBracket_S hx0 hb' Q1 hp (by rw [List.length_cons, l1]; omega)
  have Q2 := (pop_S b2).resolve_right (by rw [l1]; omega)
  have Q3 := opd_S (v := o - 1) Q2 ⟨by omega, by omega⟩
  have f1 := b2.2.1.1
  rw [List.length_cons] at f1
  have f2 : ld (st (st m2 78 86 ((U.map rtk ++ W1).length : Int)) 78 87 (o - 1)) 139 ((U.map rtk ++ W1).length : Int) = x := by
    rw [ld_st_nc (by decide), ld_st_nc (by decide)]
    exact b2.2.1.2.1
  obtain ⟨m3, hm3⟩ : ∃ m3, m3 = st (st m2 78 86 ((U.map rtk ++ W1).length : Int)) 78 87 (o - 1) := ⟨_, rfl⟩
  rw [← hm3] at Q3 f2
  have F3' : FQ m m3 := FQ_trans a4 (FQ_trans (FQ_st (by decide)) (FQ_trans b3 (by rw [hm3]; exact FQ_trans (FQ_st (by decide)) (FQ_st (by decide)))))
  have s43 : ∀ K, r_qGoesOn_43 K m1 = if x = 20 then r_qGoesOn_115 K m3 else if x = 23 then r_qGoesOn_112 K 5 m3 else r_qGoesOn_112 K 6 m3 := by
    intro K
    unfold r_qGoesOn_43
    rw [stf_eq, b1, bnd_some, stf_eq, stf_eq, f1, show (((U.map rtk ++ W1).length + 1 : Nat) : Int) - 1 = ((U.map rtk ++ W1).length : Int) by omega, Q2.2.2.2.1, ← hm3, Q3.2.1.1, ial_in (by omega) (by rw [al139, l1]; omega), ial_in (by omega) (by rw [al139, l1]; omega), f2, wx]
  have fin : ∀ {m4 : xm} {L' : List Int} (K : xm → xr), QS m4 B n q (nx B n s) (U.map rtk ++ W1) L' (o - 1) b → L'.length ≤ Pm.length + L.length + 1 → FQ m m4 → ∃ m5, r_qGoesOn_115 K m4 = K m5 ∧ QS m5 B n q (nx B n s) W1 (L' ++ U) (o - 1 - U.length) b ∧ FQ m m5 := by
    intro m4 L' K Q4 hL' f4
    obtain ⟨m5, e1, e2, e3⟩ := endsPart_S hb0 hb htp Q4 hu (by omega) (by omega) (by omega)
    unfold r_qGoesOn_115
    rw [e1, bnd_some]
    exact ⟨m5, rfl, e2, FQ_trans f4 e3⟩
  have hLP : (L ++ Pm).length = L.length + Pm.length := List.length_append
  have key : ∀ K : xm → xr, ∃ m5, r_qGoesOn_43 K m1 = K m5 ∧ QS m5 B n q (nx B n s) W1 (L ++ Pm ++ X ++ U) (o - 1 - U.length) b ∧ FQ m m5 := by
    intro K
    rw [s43 K]
    rcases hx with ⟨rfl, rfl⟩ | ⟨rfl, rfl⟩ | ⟨rfl, rfl⟩
    · rw [if_pos rfl, List.append_nil]
      exact fin K Q3 (by omega) F3'
    · obtain ⟨m4, d1, d2, d3⟩ := r_qCode_S (t := 10034) Q3 (by omega) (by decide)
      obtain ⟨m5, e1, e2, e3⟩ := fin K d2 (by rw [List.length_append, List.length_cons, List.length_nil]; omega) (FQ_trans F3' d3)
      rw [if_neg (by decide), if_pos rfl]
      unfold r_qGoesOn_112
      rw [show (5 : Int) = rtk 10034 from rfl, d1, bnd_some]
      exact ⟨m5, e1, e2, e3⟩
    · obtain ⟨m4, d1, d2, d3⟩ := r_qCode_S (t := 10035) Q3 (by omega) (by decide)
      obtain ⟨m5, e1, e2, e3⟩ := fin K d2 (by rw [List.length_append, List.length_cons, List.length_nil]; omega) (FQ_trans F3' d3)
      rw [if_neg (by decide), if_neg (by decide)]
      unfold r_qGoesOn_112
      rw [show (6 : Int) = rtk 10035 from rfl, d1, bnd_some]
      exact ⟨m5, e1, e2, e3⟩
  obtain ⟨m5, k1, k2, k3⟩ := key (fun m => r_qGoesOn_0 f m)
  refine ⟨m5, ?_, k2, k3⟩
  unfold GO
  rw [r_qGoesOn_0, if_pos Q.1.2.2.1, a1, bnd_some, see_w Q, (isG_kd hc).2, if_pos rfl, q1, bnd_some, wx]
  rcases hx with ⟨rfl, -⟩ | ⟨rfl, -⟩ | ⟨rfl, -⟩
  · rw [if_pos rfl, k1]
  · rw [if_neg (by decide), q1, bnd_some, if_pos (by rfl), k1]
  · rw [if_neg (by decide), q1, bnd_some, if_neg (by decide), q1, bnd_some, if_pos (by rfl), k1]
end RGO
