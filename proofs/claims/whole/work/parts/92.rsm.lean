/-! the reference: a whole sum; what waits of tests -/
section RSM
variable {B : Int → Int} {n : Int} {q : Bool} {s : Int × Int} {o b : Int} {m : xm} {W L : List Int}
theorem r_qSums_S {f : Nat} (Q : QS m B n q s W L o b) (hz : ((W.length + L.length : Nat) : Int) ≤ s.1) (htp : tpo W (fun x => x ≠ 1 ∧ x ≠ 2 ∧ x ≠ 3 ∧ x ≠ 4 ∧ x < 60)) (h0 : 0 ≤ o) (h6 : o ≤ 6) (hf : nee 3 o < (f : Int)) : ∃ m', r_qSums m = some (0, m') ∧ (∀ s' C, sp B n q f 3 o 0 s = .inr (s', C) → QS m' B n q s' W (L ++ C) o b) ∧ (∀ k p, sp B n q f 3 o 0 s = .inl (k, p) → RBQ m' k p) ∧ FQ m m' := by
  have okt := Q.1.2.1
  have n16 := Q.1.1.2.2.1
  have o1 := okt.1
  have o2 := okt.2.1
  have hb : rg b := by rw [← Q.2.2.2.2.1]; exact ld_rg _ _ _
  have Q1 := bas_S (v := (W.length : Int)) Q ⟨by omega, by omega⟩
  have key := (R_all (P := fun X => ∃ m', X = some (0, m') ∧ (∀ s' C, sp B n q f 3 o 0 s = .inr (s', C) → QS m' B n q s' W (L ++ C) o b) ∧ (∀ k p, sp B n q f 3 o 0 s = .inl (k, p) → RBQ m' k p) ∧ FQ m m') (B := B) (n := n) (q := q) (v1 := b) (b := (W.length : Int)) (m0 := m) (by omega) f).1 o s W L _ xLF 19999 Q1 (FQ_st (by decide)) hz htp (Int.le_refl _) h0 h6 hf (by unfold en; rw [xLF_eq]; omega) (by unfold en; omega) ?_ ?_
  · unfold r_qSums
    rw [stf_eq, Q.2.1.1, Q.2.2.2.2.1, xLF_eq, r_qSums_15, if_neg (by decide), if_pos Q1.1.2.2.1]
    exact key
  · intro s' C Pm L2 e1 he hp h1 h2 m2 f2 g2 Q2 F2 ef eg
    obtain ⟨k1, k2, k3, k4⟩ := sp_gd f 3 okt h0 h6 (tA (by decide) (by decide)) s' C e1
    have k5 := k1.2.1
    have ll := lenEq he
    unfold en at ef eg
    obtain ⟨f2, rfl⟩ : ∃ f', f2 = f' + 1 := ⟨f2 - 1, by omega⟩
    obtain ⟨g2, rfl⟩ : ∃ f', g2 = f' + 1 := ⟨g2 - 1, by omega⟩
    obtain ⟨m3, a1, a2, a3⟩ := GO_end (f := f2) (g := g2) Q2 rfl hb hp (by omega) h1 h2
    rw [he] at a2
    refine ⟨m3, a1, fun s'' C' z => ?_, fun k p z => ?_, FQ_trans F2 a3⟩
    · rw [e1] at z
      cases z
      exact a2
    · rw [e1] at z
      cases z
  · intro k p e1 m2 F2 f2
    refine ⟨_, rfl, fun s'' C' z => ?_, fun k' p' z => ?_, FQ_trans f2 (FQ_st (by decide))⟩
    · rw [e1] at z
      cases z
    · rw [e1] at z
      cases z
      exact ⟨⟨F2.1.1, by rw [ld_st_ne (by decide)]; exact F2.1.2.1, by rw [ld_st_ne (by decide)]; exact F2.1.2.2⟩, by rw [ld_st_ne (by decide)]; exact F2.2.1, by rw [ld_st_ne (by decide)]; exact F2.2.2⟩
theorem r_qSums_B {k p : Int} (F : RB m k p) (hw : rg (ld m 78 88)) : ∃ m', r_qSums m = some (0, m') ∧ RB m' k p ∧ FQ m m' := by
  have F1 : RB (st m 78 88 (ld m 78 86)) k p := ⟨F.1, by rw [ld_st_ne (by decide)]; exact F.2.1, by rw [ld_st_ne (by decide)]; exact F.2.2⟩
  unfold r_qSums
  rw [stf_eq, xLF_eq, r_qSums_15, if_neg (by decide), if_neg (by rw [F1.2.1]; exact F1.1), s53_B F1]
  exact ⟨_, rfl, ⟨F.1, by rw [ld_st_ne (by decide)]; exact F1.2.1, by rw [ld_st_ne (by decide)]; exact F1.2.2⟩, FQ_trans (FQ_st (by decide)) (FQ_st (by decide))⟩
/-- what waits of tests -/
def tst (W : List Int) : Prop := ∀ x ∈ W, x = 10 ∨ x = 11 ∨ x = 12 ∨ x = 25
theorem tst_tpo (h : tst W) : tpo W (fun x => x ≠ 1 ∧ x ≠ 2 ∧ x ≠ 3 ∧ x ≠ 4 ∧ x < 60) := by
  intro x r e
  have := h x (by rw [e]; exact List.mem_cons_self)
  omega
theorem dropsNots_loop {W1 : List Int} (htp : tpo W1 (fun x => x ≠ 12)) : ∀ (N : List Int) {f : Nat} {m : xm} {L : List Int} {o : Int}, QS m B n q s (N.map rtk ++ W1) L o b → (∀ y ∈ N, y = 10010) → N.length + W1.length + L.length < 1690 → (N.length : Int) ≤ o → o ≤ 6 → N.length < f → ∃ m', r_qDropsNots_0 f m = some (0, m') ∧ QS m' B n q s W1 (L ++ N) (o - N.length) b ∧ FQ m m'
  | [], f, m, L, o, Q, _, hl, ho, ho6, hf => by
    obtain ⟨f, rfl⟩ : ∃ f', f = f' + 1 := ⟨f - 1, by omega⟩
    rw [List.map_nil, List.nil_append] at Q
    refine ⟨m, ?_, by rw [List.append_nil, List.length_nil]; rw [show o - ((0 : Nat) : Int) = o by omega]; exact Q, FQ_refl⟩
    have h := r_qIsOn_S (v := 12) Q (by omega) ⟨by decide, by decide⟩
    have e : r_qIsOn 12 m = some (0, m) := by
      cases W1 with
      | nil => exact h.2 rfl
      | cons x r => rw [h.1 x r rfl, if_neg (htp x r rfl)]
    rw [r_qDropsNots_0, if_pos Q.1.2.2.1, e, bnd_some, if_pos (by rfl)]
  | y :: N, f, m, L, o, Q, hy, hl, ho, ho6, hf => by
    rw [List.length_cons] at hf hl ho
    obtain ⟨f, rfl⟩ : ∃ f', f = f' + 1 := ⟨f - 1, by omega⟩
    have hS := hy y List.mem_cons_self
    subst hS
    rw [List.map_cons, List.cons_append] at Q
    have le : (N.map rtk ++ W1).length = N.length + W1.length := by rw [List.length_append, List.length_map]
    have e := (r_qIsOn_S (v := 12) Q (by rw [List.length_cons]; omega) ⟨by decide, by decide⟩).1 _ _ rfl
    have Q1 := opd_S (v := o - 1) Q ⟨by omega, by omega⟩
    obtain ⟨m1, a1, a2, a3⟩ := r_qDrops_S Q1 (by omega) (by omega) (by decide)
    obtain ⟨m2, b1, b2, b3⟩ := dropsNots_loop htp N (f := f) a2 (fun z hz => hy z (List.mem_cons_of_mem _ hz)) (by rw [List.length_append, List.length_cons, List.length_nil]; omega) (by omega) (by omega) (by omega)
    refine ⟨m2, ?_, ?_, FQ_trans (FQ_trans (FQ_st (by decide)) a3) b3⟩
    · rw [r_qDropsNots_0, if_pos Q.1.2.2.1, e, bnd_some, if_pos (show rtk 10010 = 12 by rfl), if_neg (by decide), stf_eq, Q.2.2.2.1, a1, bnd_some, b1]
    · rw [List.append_assoc] at b2
      rw [List.length_cons, show o - ((N.length + 1 : Nat) : Int) = o - 1 - (N.length : Int) by omega]
      exact b2
theorem dropsNots_S {W1 N L : List Int} {m : xm} (htp : tpo W1 (fun x => x ≠ 12)) (Q : QS m B n q s (N.map rtk ++ W1) L o b) (hy : ∀ y ∈ N, y = 10010) (hl : N.length + W1.length + L.length < 1690) (ho : (N.length : Int) ≤ o) (ho6 : o ≤ 6) : ∃ m', r_qDropsNots m = some (0, m') ∧ QS m' B n q s W1 (L ++ N) (o - N.length) b ∧ FQ m m' := dropsNots_loop htp N Q hy hl ho ho6 (by rw [xLF_eq]; omega)
theorem dropsNots_B {k p : Int} (F : RB m k p) : r_qDropsNots m = some (0, m) := by
  unfold r_qDropsNots
  rw [xLF_eq, r_qDropsNots_0, if_neg (by rw [F.2.1]; exact F.1)]
/-- a square bracket waits -/
theorem skr_mem {a : Nat} : ∀ {W : List Int}, skr m a W → ∀ x, x ∈ W ↔ ∃ i : Nat, i < W.length ∧ ld m a (i : Int) = x
  | [], _, x => ⟨fun z => (by cases z), fun ⟨i, h, _⟩ => (by cases h)⟩
  | y :: W, h, x => by
    have ih := skr_mem h.2 x
    rw [List.mem_cons, ih]
    constructor
    · rintro (z | ⟨i, h1, h2⟩)
      · exact ⟨W.length, by rw [List.length_cons]; omega, by rw [z]; exact h.1⟩
      · exact ⟨i, by rw [List.length_cons]; omega, h2⟩
    · rintro ⟨i, h1, h2⟩
      rw [List.length_cons] at h1
      by_cases c : i = W.length
      · left
        rw [← h2, c]
        exact h.1
      · exact Or.inr ⟨i, by omega, h2⟩
theorem hasSquare_loop (Q : QS m B n q s W L o b) (hw : W.length < 1700) : ∀ (r f : Nat) (i : Nat), i + r = W.length → r < f → ((∃ j : Nat, i ≤ j ∧ j < W.length ∧ ld m 139 (j : Int) = 25) → r_qHasSquare_2 f (i : Int) m = some (1, m)) ∧ ((¬ ∃ j : Nat, i ≤ j ∧ j < W.length ∧ ld m 139 (j : Int) = 25) → r_qHasSquare_2 f (i : Int) m = some (0, m)) := by
  intro r
  induction r with
  | zero =>
    intro f i hi hf
    obtain ⟨f, rfl⟩ : ∃ f', f = f' + 1 := ⟨f - 1, by omega⟩
    constructor
    · rintro ⟨j, h1, h2, -⟩
      omega
    · intro _
      rw [r_qHasSquare_2, Q.2.1.1, w32_id (by omega) (by omega), if_pos (by omega)]
  | succ r ih =>
    intro f i hi hf
    obtain ⟨f, rfl⟩ : ∃ f', f = f' + 1 := ⟨f - 1, by omega⟩
    have h := ih f (i + 1) (by omega) (by omega)
    rw [show ((i + 1 : Nat) : Int) = (i : Int) + 1 by omega] at h
    have e : r_qHasSquare_2 (f + 1) (i : Int) m = if ld m 139 (i : Int) = 25 then some (1, m) else r_qHasSquare_2 f ((i : Int) + 1) m := by
      rw [r_qHasSquare_2, Q.2.1.1, w32_id (by omega) (by omega), if_neg (by omega), ial_in (by omega) (by rw [al139]; omega), w32_ld]
    rw [e]
    by_cases c : ld m 139 (i : Int) = 25
    · rw [if_pos c]
      exact ⟨fun _ => rfl, fun z => absurd ⟨i, Nat.le_refl _, by omega, c⟩ z⟩
    · rw [if_neg c]
      constructor
      · rintro ⟨j, h1, h2, h3⟩
        refine h.1 ⟨j, ?_, h2, h3⟩
        rcases Nat.lt_or_ge i j with z | z
        · exact z
        · exact absurd (show ld m 139 (i : Int) = 25 by rw [show i = j by omega]; exact h3) c
      · intro z
        exact h.2 (fun ⟨j, h1, h2, h3⟩ => z ⟨j, by omega, h2, h3⟩)
theorem hasSquare_S (Q : QS m B n q s W L o b) (hw : W.length < 1700) : (25 ∈ W → r_qHasSquare m = some (1, m)) ∧ (25 ∉ W → r_qHasSquare m = some (0, m)) := by
  have h := hasSquare_loop Q hw W.length xLF 0 (by omega) (by rw [xLF_eq]; omega)
  have k := skr_mem Q.2.1.2 25
  unfold r_qHasSquare
  constructor
  · intro z
    obtain ⟨i, h1, h2⟩ := k.mp z
    exact h.1 ⟨i, by omega, h1, h2⟩
  · intro z
    exact h.2 (fun ⟨i, _, h1, h2⟩ => z (k.mpr ⟨i, h1, h2⟩))
/-! tests: what waits is dropped -/
theorem and_loop {W1 : List Int} (htp : tpo W1 (fun x => x ≠ 10)) : ∀ (Pm : List Int) {f : Nat} {m : xm} {L : List Int}, QS m B n q s (Pm.map rtk ++ W1) L o b → (∀ y ∈ Pm, y = 10021) → Pm.length + W1.length + L.length < 1690 → Pm.length < f → ∃ m', r_qGoesOnTest_87 f m = some (1, m') ∧ QS m' B n q s (10 :: W1) (L ++ Pm) o b ∧ FQ m m'
  | [], f, m, L, Q, _, hl, hf => by
    obtain ⟨f, rfl⟩ : ∃ f', f = f' + 1 := ⟨f - 1, by omega⟩
    rw [List.map_nil, List.nil_append] at Q
    have h := r_qIsOn_S (v := 10) Q (by omega) ⟨by decide, by decide⟩
    have e : r_qIsOn 10 m = some (0, m) := by
      cases W1 with
      | nil => exact h.2 rfl
      | cons x r => rw [h.1 x r rfl, if_neg (htp x r rfl)]
    rw [List.length_nil] at hl
    rw [r_qGoesOnTest_87, e, bnd_some, if_pos (by rfl)]
    unfold r_qGoesOnTest_103
    rw [Q.2.1.1, ias_in (by omega) (by rw [al139]; omega), stf_eq, ld_st_nc (by decide), Q.2.1.1]
    exact ⟨_, rfl, by rw [List.append_nil]; exact push_S Q (by omega) ⟨by decide, by decide⟩, FQ_trans FQ_st9 (FQ_st (by decide))⟩
  | y :: Pm, f, m, L, Q, hy, hl, hf => by
    rw [List.length_cons] at hf hl
    obtain ⟨f, rfl⟩ : ∃ f', f = f' + 1 := ⟨f - 1, by omega⟩
    have hS := hy y List.mem_cons_self
    subst hS
    rw [List.map_cons, List.cons_append] at Q
    have le : (Pm.map rtk ++ W1).length = Pm.length + W1.length := by rw [List.length_append, List.length_map]
    have e := (r_qIsOn_S (v := 10) Q (by rw [List.length_cons]; omega) ⟨by decide, by decide⟩).1 _ _ rfl
    obtain ⟨m1, a1, a2, a3⟩ := r_qDrops_S Q (by omega) (by omega) (by decide)
    obtain ⟨m2, b1, b2, b3⟩ := and_loop htp Pm (f := f) a2 (fun z hz => hy z (List.mem_cons_of_mem _ hz)) (by rw [List.length_append, List.length_cons, List.length_nil]; omega) (by omega)
    refine ⟨m2, ?_, by rw [List.append_assoc] at b2; exact b2, FQ_trans a3 b3⟩
    rw [r_qGoesOnTest_87, e, bnd_some, if_pos (show rtk 10021 = 10 by rfl), if_neg (by decide), a1, bnd_some, b1]
theorem or_loop {W1 : List Int} (htp : tpo W1 (fun x => x ≠ 10 ∧ x ≠ 11)) : ∀ (Pm : List Int) {f : Nat} {m : xm} {L : List Int}, QS m B n q s (Pm.map rtk ++ W1) L o b → (∀ y ∈ Pm, y = 10020 ∨ y = 10021) → Pm.length + W1.length + L.length < 1690 → Pm.length < f → ∃ m', r_qGoesOnTest_137 f m = some (1, m') ∧ QS m' B n q s (11 :: W1) (L ++ Pm) o b ∧ FQ m m'
  | [], f, m, L, Q, _, hl, hf => by
    obtain ⟨f, rfl⟩ : ∃ f', f = f' + 1 := ⟨f - 1, by omega⟩
    rw [List.map_nil, List.nil_append] at Q
    have e : ∀ v, v = 10 ∨ v = 11 → r_qIsOn v m = some (0, m) := by
      intro v hv
      have h := r_qIsOn_S (v := v) Q (by omega) ⟨by omega, by omega⟩
      cases W1 with
      | nil => exact h.2 rfl
      | cons x r => rw [h.1 x r rfl, if_neg (by have := htp x r rfl; omega)]
    rw [List.length_nil] at hl
    rw [r_qGoesOnTest_137, e 10 (Or.inl rfl), bnd_some, if_pos (by rfl), e 11 (Or.inr rfl), bnd_some, if_pos (by rfl)]
    unfold r_qGoesOnTest_162
    rw [Q.2.1.1, ias_in (by omega) (by rw [al139]; omega), stf_eq, ld_st_nc (by decide), Q.2.1.1]
    exact ⟨_, rfl, by rw [List.append_nil]; exact push_S Q (by omega) ⟨by decide, by decide⟩, FQ_trans FQ_st9 (FQ_st (by decide))⟩
  | y :: Pm, f, m, L, Q, hy, hl, hf => by
    rw [List.length_cons] at hf hl
    obtain ⟨f, rfl⟩ : ∃ f', f = f' + 1 := ⟨f - 1, by omega⟩
    have hS := hy y List.mem_cons_self
    rw [List.map_cons, List.cons_append] at Q
    have le : (Pm.map rtk ++ W1).length = Pm.length + W1.length := by rw [List.length_append, List.length_map]
    have h10 := (r_qIsOn_S (v := 10) Q (by rw [List.length_cons]; omega) ⟨by decide, by decide⟩).1 _ _ rfl
    have h11 := (r_qIsOn_S (v := 11) Q (by rw [List.length_cons]; omega) ⟨by decide, by decide⟩).1 _ _ rfl
    obtain ⟨m1, a1, a2, a3⟩ := r_qDrops_S Q (by omega) (by omega) (by omega)
    obtain ⟨m2, b1, b2, b3⟩ := or_loop htp Pm (f := f) a2 (fun z hz => hy z (List.mem_cons_of_mem _ hz)) (by rw [List.length_append, List.length_cons, List.length_nil]; omega) (by omega)
    refine ⟨m2, ?_, by rw [List.append_assoc] at b2; exact b2, FQ_trans a3 b3⟩
    have e : r_qGoesOnTest_155 (fun m => r_qGoesOnTest_137 f m) m = some (1, m2) := by
      unfold r_qGoesOnTest_155
      rw [a1, bnd_some]
      exact b1
    rcases hS with rfl | rfl
    · rw [r_qGoesOnTest_137, h10, bnd_some, if_neg (show ¬ rtk 10020 = 10 by decide), if_pos (by rfl), h11, bnd_some, if_pos (show rtk 10020 = 11 by rfl), if_neg (by decide), e]
    · rw [r_qGoesOnTest_137, h10, bnd_some, if_pos (show rtk 10021 = 10 by rfl), if_neg (by decide), e]
theorem toSquare_loop {W1 : List Int} {K : xm → xr} : ∀ (Pm : List Int) {f : Nat} {m : xm} {L : List Int}, QS m B n q s (Pm.map rtk ++ 25 :: W1) L o b → (∀ y ∈ Pm, y = 10020 ∨ y = 10021) → Pm.length + 1 + W1.length + L.length < 1690 → Pm.length < f → ∃ m', r_qGoesOnTest_33 K f m = r_qGoesOnTest_49 K m' ∧ QS m' B n q s (25 :: W1) (L ++ Pm) o b ∧ FQ m m'
  | [], f, m, L, Q, _, hl, hf => by
    obtain ⟨f, rfl⟩ : ∃ f', f = f' + 1 := ⟨f - 1, by omega⟩
    rw [List.map_nil, List.nil_append] at Q
    have h := (r_qIsOn_S (v := 25) Q (by rw [List.length_cons]; omega) ⟨by decide, by decide⟩).1 _ _ rfl
    refine ⟨m, ?_, by rw [List.append_nil]; exact Q, FQ_refl⟩
    rw [r_qGoesOnTest_33, h, bnd_some, if_pos rfl, if_neg (by decide)]
  | y :: Pm, f, m, L, Q, hy, hl, hf => by
    rw [List.length_cons] at hf hl
    obtain ⟨f, rfl⟩ : ∃ f', f = f' + 1 := ⟨f - 1, by omega⟩
    have hS := hy y List.mem_cons_self
    rw [List.map_cons, List.cons_append] at Q
    have le : (Pm.map rtk ++ 25 :: W1).length = Pm.length + (W1.length + 1) := by rw [List.length_append, List.length_map, List.length_cons]
    have h := (r_qIsOn_S (v := 25) Q (by rw [List.length_cons]; omega) ⟨by decide, by decide⟩).1 _ _ rfl
    obtain ⟨m1, a1, a2, a3⟩ := r_qDrops_S Q (by omega) (by omega) (by omega)
    obtain ⟨m2, b1, b2, b3⟩ := toSquare_loop (K := K) Pm (f := f) a2 (fun z hz => hy z (List.mem_cons_of_mem _ hz)) (by rw [List.length_append, List.length_cons, List.length_nil]; omega) (by omega)
    refine ⟨m2, ?_, by rw [List.append_assoc] at b2; exact b2, FQ_trans a3 b3⟩
    rw [r_qGoesOnTest_33, h, bnd_some, if_neg (show ¬ rtk y = 25 by rcases hS with rfl | rfl <;> decide), if_pos (by rfl), a1, bnd_some, b1]
theorem test_110 : ∀ (Pm : List Int) {f : Nat} {m : xm} {L : List Int}, QS m B n q s (Pm.map rtk) L o b → (∀ y ∈ Pm, y = 10020 ∨ y = 10021) → Pm.length + L.length < 1690 → Pm.length < f → ∃ m', r_qTest_110 f m = some (0, m') ∧ QS m' B n q s [] (L ++ Pm) o b ∧ FQ m m'
  | [], f, m, L, Q, _, hl, hf => by
    obtain ⟨f, rfl⟩ : ∃ f', f = f' + 1 := ⟨f - 1, by omega⟩
    rw [List.map_nil] at Q
    refine ⟨m, ?_, by rw [List.append_nil]; exact Q, FQ_refl⟩
    rw [r_qTest_110, if_pos Q.1.2.2.1, Q.2.1.1, if_pos (by decide)]
  | y :: Pm, f, m, L, Q, hy, hl, hf => by
    rw [List.length_cons] at hf hl
    obtain ⟨f, rfl⟩ : ∃ f', f = f' + 1 := ⟨f - 1, by omega⟩
    have hS := hy y List.mem_cons_self
    rw [List.map_cons] at Q
    obtain ⟨m1, a1, a2, a3⟩ := r_qDrops_S Q (by rw [List.length_map]; omega) (by omega) (by omega)
    obtain ⟨m2, b1, b2, b3⟩ := test_110 Pm (f := f) a2 (fun z hz => hy z (List.mem_cons_of_mem _ hz)) (by rw [List.length_append, List.length_cons, List.length_nil]; omega) (by omega)
    refine ⟨m2, ?_, by rw [List.append_assoc] at b2; exact b2, FQ_trans a3 b3⟩
    have e := Q.2.1.1
    rw [List.length_cons] at e
    rw [r_qTest_110, if_pos Q.1.2.2.1, e, if_neg (by omega), a1, bnd_some, b1]
end RSM
