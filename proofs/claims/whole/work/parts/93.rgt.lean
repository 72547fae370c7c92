/-! the reference behind a fact of a test: how it goes on -/
def yk (f : Nat) : Int → xm → xr := fun r9 m10 => if w32 r9 = 0 then r_qTest_105 (fun v1 m => r_qTest_2 f v1 m) m10 else r_qTest_106 (fun v1 m => r_qTest_2 f v1 m) 1 m10
def GT (f2 f : Nat) (m : xm) : xr := bnd (r_qGoesOnTest_0 f2 m) (yk f)
theorem sg93 : sgn 93 := ⟨by decide, by decide, rfl, rfl⟩
theorem sg91 : sgn 91 := ⟨by decide, by decide, rfl, rfl⟩
theorem sg60 : sgn 60 := ⟨by decide, by decide, rfl, rfl⟩
theorem sg61 : sgn 61 := ⟨by decide, by decide, rfl, rfl⟩
theorem sg62 : sgn 62 := ⟨by decide, by decide, rfl, rfl⟩
section RGT
variable {B : Int → Int} {n : Int} {q : Bool} {s : Int × Int} {o b : Int} {m : xm} {W L : List Int}
theorem yk_1 {f : Nat} : yk f 1 m = r_qTest_2 f 1 m := by
  unfold yk r_qTest_106
  rw [if_neg (by decide), xlt_eq]
theorem y105 {f : Nat} : r_qTest_105 (fun v1 m => r_qTest_2 (f + 1) v1 m) m = r_qTest_110 xLF m := by
  unfold r_qTest_105 r_qTest_106
  rw [xlt_eq]
  dsimp only
  rw [r_qTest_2, if_pos (by rfl)]
theorem yk_0 {f : Nat} : yk (f + 1) 0 m = r_qTest_110 xLF m := by
  unfold yk
  rw [if_pos (by rfl), y105]
theorem y110_B {k p : Int} (F : RB m k p) : r_qTest_110 xLF m = some (0, m) := by
  rw [xLF_eq, r_qTest_110, if_neg (by rw [F.2.1]; exact F.1)]
theorem TT_B {k p : Int} {f : Nat} (F : RB m k p) : r_qTest_2 (f + 1) 1 m = some (0, m) := by
  rw [r_qTest_2, if_neg (by decide), if_neg (by rw [F.2.1]; exact F.1), y110_B F]
theorem takes_Q {a : Nat} (ha : isD a) (Q : QS m B n q s W L o b) : (isW B n (rlit a) s = true → ∃ m', r_takes a m = some (1, m') ∧ QS m' B n q (nx B n s) W L o b ∧ FQ m m') ∧ (isW B n (rlit a) s = false → ∃ m', r_takes a m = some (0, m') ∧ QS m' B n q s W L o b ∧ ld m' 78 2 = tq B n s ∧ FQ m m') := by
  have h := r_takes_S ha Q.1
  constructor
  · intro z
    obtain ⟨m', a1, a2, a3⟩ := h.1 z
    exact ⟨m', a1, QS_FR Q a2 a3, FQ_FR a3⟩
  · intro z
    obtain ⟨m', a1, a2, a3, a4⟩ := h.2 z
    exact ⟨m', a1, QS_FR Q a2 a4, a3, FQ_FR a4⟩
theorem isW_see {w : List Nat} {c : Int} (hc : sgn c) (h : isW B n w s = true) : ¬ see B n (tq B n s) = c := by
  intro z
  have := (tkd_1.mp (isW_kd h)).1
  rw [z, hc.2.2.1] at this
  cases this
theorem GT_and {Pm : List Int} {f2 f : Nat} (Q : QS m B n q s (Pm.map rtk ++ W) L o b) (htp : tpo W (fun x => x ≠ 10)) (hp : ∀ y ∈ Pm, y = 10021) (hl : Pm.length + W.length + L.length < 1690) (hc : isW B n (lit 20) s = true) : ∃ m', GT (f2 + 1) f m = r_qTest_2 f 1 m' ∧ QS m' B n q (nx B n s) (10 :: W) (L ++ Pm) o b ∧ FQ m m' := by
  obtain ⟨m1, a1, a2, a3, a4⟩ := look_Q Q
  obtain ⟨m2, b1, b2, b3⟩ := (takes_Q (a := 126) (by unfold isD; decide) a2).1 hc
  obtain ⟨m3, d1, d2, d3⟩ := and_loop htp Pm (f := xLF) b2 hp hl (by rw [xLF_eq]; omega)
  refine ⟨m3, ?_, d2, FQ_trans a4 (FQ_trans b3 d3)⟩
  unfold GT
  rw [r_qGoesOnTest_0, if_pos Q.1.2.2.1, a1, bnd_some, see_w Q, if_neg (isW_see sg93 hc)]
  unfold r_qGoesOnTest_76
  rw [b1, bnd_some, if_neg (by decide), d1, bnd_some, yk_1]
theorem GT_or {Pm : List Int} {f2 f : Nat} (Q : QS m B n q s (Pm.map rtk ++ W) L o b) (htp : tpo W (fun x => x ≠ 10 ∧ x ≠ 11)) (hp : ∀ y ∈ Pm, y = 10020 ∨ y = 10021) (hl : Pm.length + W.length + L.length < 1690) (hc : isW B n (lit 21) s = true) : ∃ m', GT (f2 + 1) f m = r_qTest_2 f 1 m' ∧ QS m' B n q (nx B n s) (11 :: W) (L ++ Pm) o b ∧ FQ m m' := by
  obtain ⟨m1, a1, a2, a3, a4⟩ := look_Q Q
  obtain ⟨m2, b1, b2, b3, b4⟩ := (takes_Q (a := 126) (by unfold isD; decide) a2).2 (isW_ne hc (by decide))
  obtain ⟨m3, d1, d2, d3⟩ := (takes_Q (a := 127) (by unfold isD; decide) b2).1 hc
  obtain ⟨m4, e1, e2, e3⟩ := or_loop htp Pm (f := xLF) d2 hp hl (by rw [xLF_eq]; omega)
  refine ⟨m4, ?_, e2, FQ_trans a4 (FQ_trans b4 (FQ_trans d3 e3))⟩
  unfold GT
  rw [r_qGoesOnTest_0, if_pos Q.1.2.2.1, a1, bnd_some, see_w Q, if_neg (isW_see sg93 hc)]
  unfold r_qGoesOnTest_76
  rw [b1, bnd_some, if_pos (by rfl), d1, bnd_some, if_neg (by decide), e1, bnd_some, yk_1]
theorem AO_n25 {Pm : List Int} (hp : ∀ y ∈ Pm, y = 10020 ∨ y = 10021) : 25 ∉ Pm.map rtk := by
  intro z
  obtain ⟨y, hy, e⟩ := List.mem_map.mp z
  rcases hp y hy with rfl | rfl
  · exact absurd e (by decide)
  · exact absurd e (by decide)
/-- neither and nor or: the end of a test -/
theorem GT_end {Pm : List Int} {f2 f : Nat} (Q : QS m B n q s (Pm.map rtk) L o b) (hp : ∀ y ∈ Pm, y = 10020 ∨ y = 10021) (hl : Pm.length + L.length < 1690) (h1 : isW B n (lit 20) s = false) (h2 : isW B n (lit 21) s = false) : ∃ m', GT (f2 + 1) (f + 1) m = some (0, m') ∧ QS m' B n q s [] (L ++ Pm) o b ∧ FQ m m' := by
  obtain ⟨m1, a1, a2, a3, a4⟩ := look_Q Q
  obtain ⟨m2, b1, b2, b3, b4⟩ := (takes_Q (a := 126) (by unfold isD; decide) a2).2 h1
  obtain ⟨m3, d1, d2, d3, d4⟩ := (takes_Q (a := 127) (by unfold isD; decide) b2).2 h2
  have lw : (Pm.map rtk).length < 1700 := by rw [List.length_map]; omega
  have s1 := (hasSquare_S a2 lw).2 (AO_n25 hp)
  have s2 := (hasSquare_S d2 lw).2 (AO_n25 hp)
  obtain ⟨m4, e1, e2, e3⟩ := test_110 Pm (f := xLF) d2 hp hl (by rw [xLF_eq]; omega)
  have e : r_qGoesOnTest_76 m1 = some (0, m3) := by
    unfold r_qGoesOnTest_76
    rw [b1, bnd_some, if_pos (by rfl), d1, bnd_some, if_pos (by rfl), if_pos d2.1.2.2.1, s2, bnd_some, if_pos (by rfl)]
  refine ⟨m4, ?_, e2, FQ_trans a4 (FQ_trans b4 (FQ_trans d4 e3))⟩
  unfold GT
  rw [r_qGoesOnTest_0, if_pos Q.1.2.2.1, a1, bnd_some, s1, bnd_some, if_pos (show w32 0 = 0 by rfl), e]
  split <;> rw [bnd_some, yk_0, e1]
/-- a square bracket is not closed -/
theorem GT_fail {Pm W1 : List Int} {f2 f : Nat} (Q : QS m B n q s (Pm.map rtk ++ 25 :: W1) L o b) (hl : Pm.length + 1 + W1.length + L.length < 1690) (h1 : isW B n (lit 20) s = false) (h2 : isW B n (lit 21) s = false) (h3 : isG B n 93 s = false) : ∃ m', GT (f2 + 1) (f + 1) m = some (0, m') ∧ RB m' 1 (tq B n s) ∧ FQ m m' := by
  obtain ⟨m1, a1, a2, a3, a4⟩ := look_Q Q
  obtain ⟨m2, b1, b2, b3, b4⟩ := (takes_Q (a := 126) (by unfold isD; decide) a2).2 h1
  obtain ⟨m3, d1, d2, d3, d4⟩ := (takes_Q (a := 127) (by unfold isD; decide) b2).2 h2
  have lw : (Pm.map rtk ++ 25 :: W1).length < 1700 := by rw [List.length_append, List.length_map, List.length_cons]; omega
  have s2 := (hasSquare_S d2 lw).1 (List.mem_append.mpr (Or.inr List.mem_cons_self))
  obtain ⟨m4, e1, e2, e3⟩ := r_failAt (k := 1) d2.1 d3 (by decide) (by decide) (by decide)
  have ne : ¬ see B n (tq B n s) = 93 := fun z => by
    rw [(isG_see sg93).mpr z] at h3
    cases h3
  refine ⟨m4, ?_, e2, FQ_trans a4 (FQ_trans b4 (FQ_trans d4 (FQ_FR e3)))⟩
  unfold GT
  rw [r_qGoesOnTest_0, if_pos Q.1.2.2.1, a1, bnd_some, see_w Q, if_neg ne]
  unfold r_qGoesOnTest_76
  rw [b1, bnd_some, if_pos (by rfl), d1, bnd_some, if_pos (by rfl), if_pos d2.1.2.2.1, s2, bnd_some, if_neg (by decide), e1, bnd_some, bnd_some, yk_0, y110_B e2]
/-- a square bracket is closed -/
theorem GT_close {Pm N W1 : List Int} {f2 f : Nat} (Q : QS m B n q s (Pm.map rtk ++ 25 :: (N.map rtk ++ W1)) L o b) (htp : tpo W1 (fun x => x ≠ 12)) (hp : ∀ y ∈ Pm, y = 10020 ∨ y = 10021) (hN : ∀ y ∈ N, y = 10010) (hl : Pm.length + 1 + N.length + W1.length + L.length < 1690) (ho : (N.length : Int) + 1 ≤ o) (ho6 : o ≤ 6) (hc : isG B n 93 s = true) : ∃ m', GT (f2 + 1) f m = GT f2 f m' ∧ QS m' B n q (nx B n s) W1 (L ++ Pm ++ N) (o - 1 - N.length) b ∧ FQ m m' := by
  obtain ⟨m1, a1, a2, a3, a4⟩ := look_Q Q
  have l1 : (N.map rtk ++ W1).length = N.length + W1.length := by rw [List.length_append, List.length_map]
  have lw : (Pm.map rtk ++ 25 :: (N.map rtk ++ W1)).length < 1700 := by rw [List.length_append, List.length_map, List.length_cons, l1]; omega
  have s1 := (hasSquare_S a2 lw).1 (List.mem_append.mpr (Or.inr List.mem_cons_self))
  have R1 := RS_sign (m' := m1) a2.1 (isG_kd hc).1 a3
  have Q1 := QS_FR a2 R1 (FR_st (by decide))
  obtain ⟨m2, b1, b2, b3⟩ := toSquare_loop (K := fun m => r_qGoesOnTest_0 f2 m) Pm (f := xLF) Q1 hp (by omega) (by rw [xLF_eq]; omega)
  have Q2 := (pop_S b2).resolve_right (by rw [l1]; omega)
  have Q3 := opd_S (v := o - 1) Q2 ⟨by omega, by omega⟩
  have f1 := b2.2.1.1
  rw [List.length_cons] at f1
  obtain ⟨m3, d1, d2, d3⟩ := dropsNots_S htp Q3 hN (by rw [List.length_append]; omega) (by omega) (by omega)
  refine ⟨m3, ?_, d2, FQ_trans a4 (FQ_trans (FQ_st (by decide)) (FQ_trans b3 (FQ_trans (FQ_trans (FQ_st (by decide)) (FQ_st (by decide))) d3)))⟩
  unfold GT
  rw [r_qGoesOnTest_0, if_pos Q.1.2.2.1, a1, bnd_some, see_w Q, (isG_kd hc).2, if_pos rfl, s1, bnd_some, if_neg (by decide), stf_eq, b1]
  unfold r_qGoesOnTest_49
  rw [stf_eq, stf_eq, f1, show (((N.map rtk ++ W1).length + 1 : Nat) : Int) - 1 = ((N.map rtk ++ W1).length : Int) by omega, Q2.2.2.2.1, d1, bnd_some]
theorem TT_sq {f : Nat} (Q : QS m B n q s W L o b) (hw : W.length < 1690) (h0 : 0 ≤ o) (h6 : o ≤ 6) (hc : isG B n 91 s = true) : (o < 6 → ∃ m', r_qTest_2 (f + 1) 1 m = r_qTest_2 f 1 m' ∧ QS m' B n q (nx B n s) (25 :: W) L (o + 1) b ∧ FQ m m') ∧ (¬ o < 6 → ∃ m', r_qTest_2 (f + 2) 1 m = some (0, m') ∧ RB m' 4 (tq B n s) ∧ FQ m m') := by
  obtain ⟨m1, a1, a2, a3, a4⟩ := look_Q Q
  have head : ∀ f, r_qTest_2 (f + 1) 1 m = bnd (r_qOpens 25 (ld m1 78 2) m1) fun r15 m16 => stf m16 78 2 ((ld m16 78 2) + 1) fun m17 => r_qTest_2 f 1 m17 := by
    intro f
    rw [r_qTest_2, if_neg (by decide), if_pos Q.1.2.2.1, a1, bnd_some, see_w Q, (isG_kd hc).2, if_pos rfl]
  have h := r_qOpens_S (x := 25) (p := ld m1 78 2) a2 (by omega) ⟨by decide, by decide⟩ h0 h6 (at_rg a2 a3)
  constructor
  · intro ho
    obtain ⟨m3, d1, d2, d3, d4⟩ := h.1 ho
    have R := RS_sign (m' := m3) d2.1 (isG_kd hc).1 (by rw [d3, a3])
    rw [head, d1, bnd_some, stf_eq]
    exact ⟨_, rfl, QS_FR d2 R (FR_st (by decide)), FQ_trans a4 (FQ_trans d4 (FQ_st (by decide)))⟩
  · intro ho
    obtain ⟨m3, d1, d2, d84, d3⟩ := h.2 ho
    have F : RB (st m3 78 2 (ld m3 78 2 + 1)) 4 (tq B n s) := ⟨by decide, by rw [ld_st_ne (by decide)]; exact d2.2.1, by rw [ld_st_ne (by decide), d2.2.2, a3]⟩
    rw [show f + 2 = (f + 1) + 1 from rfl, head, d1, bnd_some, stf_eq]
    exact ⟨_, TT_B F, F, FQ_trans a4 (FQ_trans d3 (FQ_st (by decide)))⟩
theorem TT_not {f : Nat} (Q : QS m B n q s W L o b) (hw : W.length < 1690) (h0 : 0 ≤ o) (h6 : o ≤ 6) (hc : isW B n (lit 9) s = true) : (o < 6 → ∃ m', r_qTest_2 (f + 1) 1 m = r_qTest_2 f 1 m' ∧ QS m' B n q (nx B n s) (rtk 10010 :: W) L (o + 1) b ∧ FQ m m') ∧ (¬ o < 6 → ∃ m', r_qTest_2 (f + 2) 1 m = some (0, m') ∧ RB m' 4 (tq B n s) ∧ FQ m m') := by
  obtain ⟨m1, a1, a2, a3, a4⟩ := look_Q Q
  obtain ⟨m2, b1, b2, b3, b4⟩ := here_Q (a := 125) (by unfold isD; decide) a2
  rw [show rlit 125 = lit 9 from rfl, if_pos hc] at b1
  have head : ∀ f, r_qTest_2 (f + 1) 1 m = bnd (r_qOpens 12 (ld m2 78 2) m2) fun r11 m12 => bnd (r_asks 125 m12) fun r13 m14 => r_qTest_2 f 1 m14 := by
    intro f
    rw [r_qTest_2, if_neg (by decide), if_pos Q.1.2.2.1, a1, bnd_some, see_w Q, if_neg (isW_see sg91 hc), b1, bnd_some, if_neg (by decide)]
  have h := r_qOpens_S (x := 12) (p := ld m2 78 2) b2 (by omega) ⟨by decide, by decide⟩ h0 h6 (at_rg b2 b3)
  constructor
  · intro ho
    obtain ⟨m3, d1, d2, d3, d4⟩ := h.1 ho
    obtain ⟨m4, e1, e2, e3⟩ := asks_Q (a := 125) (by unfold isD; decide) d2 hc
    rw [head, d1, bnd_some, e1, bnd_some]
    exact ⟨_, rfl, e2, FQ_trans a4 (FQ_trans b4 (FQ_trans d4 e3))⟩
  · intro ho
    obtain ⟨m3, d1, d2, d84, d3⟩ := h.2 ho
    rw [b3] at d2
    rw [show f + 2 = (f + 1) + 1 from rfl, head, d1, bnd_some, r_asks_B d2, bnd_some]
    exact ⟨_, TT_B d2, d2, FQ_trans a4 (FQ_trans b4 d3)⟩
/-- all, or a comparison -/
theorem r_qFact_S {f : Nat} (Q : QS m B n q s W L o b) (ht : tst W) (hz : ((W.length + L.length : Nat) : Int) ≤ s.1) (h0 : 0 ≤ o) (h6 : o ≤ 6) (hf : nee 3 o < (f : Int)) (n9 : isW B n (lit 9) s = false) (n91 : isG B n 91 s = false) : ∃ m', r_qFact m = some (0, m') ∧ (∀ s' C, sp B n q (f + 1) 2 o 0 s = .inr (s', C) → QS m' B n q s' W (L ++ C) o b) ∧ (∀ k p, sp B n q (f + 1) 2 o 0 s = .inl (k, p) → RB m' k p) ∧ FQ m m' := by
  have okt := Q.1.2.1
  have n16 := Q.1.1.2.2.1
  have o1 := okt.1
  have o2 := okt.2.1
  have hk := takes_Q (a := 128) (by unfold isD; decide) Q
  rw [show rlit 128 = lit 10 from rfl] at hk
  unfold sp r_qFact
  rw [if_neg (bF n9), if_neg (bF n91)]
  by_cases c : isW B n (lit 10) s = true
  · obtain ⟨m1, a1, a2, a3⟩ := hk.1 c
    obtain ⟨m2, b1, b2, b3⟩ := r_qCode_S (t := 10000) a2 (by omega) (by decide)
    rw [if_pos c, a1, bnd_some, if_neg (by decide), show (13 : Int) = rtk 10000 from rfl, b1, bnd_some]
    exact ⟨m2, rfl, fun s' C z => (by cases z; exact b2), fun k p z => (by cases z), FQ_trans a3 b3⟩
  obtain ⟨m1, a1, a2, a3, a4⟩ := hk.2 (by simpa using c)
  obtain ⟨m2, b1, b2, b3, b4⟩ := r_qSums_S (f := f) a2 hz (tst_tpo ht) h0 h6 hf
  rw [if_neg c, a1, bnd_some, if_pos (by rfl), b1, bnd_some]
  cases e1 : sp B n q f 3 o 0 s with
  | inl x =>
    obtain ⟨k, p⟩ := x
    have F := (b3 k p e1).1
    rw [if_neg (by rw [F.2.1]; exact F.1), sbd_il]
    exact ⟨m2, rfl, fun s' C z => (by cases z), fun k p z => (by cases z; exact F), FQ_trans a4 b4⟩
  | inr x =>
    obtain ⟨s1, C1⟩ := x
    have Q2 := b2 s1 C1 e1
    obtain ⟨k1, k2, k3, k4⟩ := sp_gd f 3 okt h0 h6 (tA (by decide) (by decide)) s1 C1 e1
    have k5 := k1.2.1
    obtain ⟨m3, d1, d2, d3, d4⟩ := look_Q Q2
    rw [if_pos Q2.1.2.2.1, sbd_ir, d1, bnd_some, see_w Q2]
    have fin : ∀ (ch t : Int), isG B n ch s1 = true → sgn ch → cmpt B n s1 = some t → r_qFact_63 ch m3 = (stf m3 78 2 ((ld m3 78 2) + 1) fun m1 => bnd (r_qSums m1) fun r2 m3 => bnd (r_qCode (rtk t) m3) fun r1 m2 => some (0, m2)) → ∃ m', r_qFact_63 ch m3 = some (0, m') ∧ (∀ s' C, sbd (sp B n q f 3 o 0 (nx B n s1)) (fun s2 C2 => .inr (s2, C1 ++ (C2 ++ [t]))) = .inr (s', C) → QS m' B n q s' W (L ++ C) o b) ∧ (∀ k p, sbd (sp B n q f 3 o 0 (nx B n s1)) (fun s2 C2 => .inr (s2, C1 ++ (C2 ++ [t]))) = .inl (k, p) → RB m' k p) ∧ FQ m m' := by
      intro ch t hg hs hct he
      have tt := (cmpt_t hct).2
      have gt := isG_gt k1 hg
      have on2 := (okT_nx (B := B) k1).2.1
      have Q3 := QS_FR d2 (RS_sign (m' := m3) d2.1 (isG_kd hg).1 d3) (FR_st (by decide))
      obtain ⟨m4, g1, g2, g3, g4⟩ := r_qSums_S (f := f) Q3 (by rw [List.length_append]; omega) (tst_tpo ht) h0 h6 hf
      rw [he, stf_eq, g1, bnd_some]
      cases e2 : sp B n q f 3 o 0 (nx B n s1) with
      | inl x =>
        obtain ⟨k, p⟩ := x
        have F := g3 k p e2
        obtain ⟨m5, y1, y2, y84, y3⟩ := qCode_B (v := rtk t) F.1 F.2.1 F.2.2
        rw [y1, bnd_some, sbd_il]
        exact ⟨m5, rfl, fun s' C z => (by cases z), fun k p z => (by cases z; exact y2), FQ_trans a4 (FQ_trans b4 (FQ_trans d4 (FQ_trans (FQ_st (by decide)) (FQ_trans g4 y3))))⟩
      | inr x =>
        obtain ⟨s2, C2⟩ := x
        obtain ⟨z1, z2, z3, z4⟩ := sp_gd f 3 (okT_nx k1) h0 h6 (tA (by decide) (by decide)) s2 C2 e2
        have z5 := z1.2.1
        obtain ⟨m5, y1, y2, y3⟩ := r_qCode_S (t := t) (g2 s2 C2 e2) (by rw [List.length_append, List.length_append]; omega) (by omega)
        rw [y1, bnd_some, sbd_ir]
        refine ⟨m5, rfl, fun s' C z => ?_, fun k p z => (by cases z), FQ_trans a4 (FQ_trans b4 (FQ_trans d4 (FQ_trans (FQ_st (by decide)) (FQ_trans g4 y3))))⟩
        cases z
        rw [← List.append_assoc, ← List.append_assoc]
        exact y2
    by_cases c60 : isG B n 60 s1 = true
    · have hct : cmpt B n s1 = some 10022 := by unfold cmpt; rw [if_pos c60]
      rw [(isG_kd c60).2, if_pos rfl, hct]
      exact fin 60 10022 c60 sg60 hct (by unfold r_qFact_63 r_qFact_102; rfl)
    by_cases c62 : isG B n 62 s1 = true
    · have hct : cmpt B n s1 = some 10023 := by unfold cmpt; rw [if_neg c60, if_pos c62]
      rw [(isG_kd c62).2, if_neg (by decide), if_pos rfl, hct]
      exact fin 62 10023 c62 sg62 hct (by unfold r_qFact_63 r_qFact_102; rfl)
    by_cases c61 : isG B n 61 s1 = true
    · have hct : cmpt B n s1 = some 10024 := by unfold cmpt; rw [if_neg c60, if_neg c62, if_pos c61]
      rw [(isG_kd c61).2, if_neg (by decide), if_neg (by decide), if_pos rfl, hct]
      exact fin 61 10024 c61 sg61 hct (by unfold r_qFact_63 r_qFact_102; rfl)
    · have hct : cmpt B n s1 = none := by unfold cmpt; rw [if_neg c60, if_neg c62, if_neg c61]
      obtain ⟨m4, g1, g2, g3⟩ := r_failAt (k := 1) d2.1 d3 (by decide) (by decide) (by decide)
      rw [if_neg (fun z => c60 ((isG_see sg60).mpr z)), if_neg (fun z => c62 ((isG_see sg62).mpr z)), if_neg (fun z => c61 ((isG_see sg61).mpr z)), g1, bnd_some, hct]
      exact ⟨m4, rfl, fun s' C z => (by cases z), fun k p z => (by cases z; exact g2), FQ_trans a4 (FQ_trans b4 (FQ_trans d4 (FQ_FR g3)))⟩
theorem TT_fact {f f1 : Nat} {N W1 : List Int} (Q : QS m B n q s (N.map rtk ++ W1) L o b) (ht : tst W1) (htp : tpo W1 (fun x => x ≠ 12)) (hN : ∀ y ∈ N, y = 10010) (hz : ((N.length + W1.length + L.length : Nat) : Int) ≤ s.1) (h0 : (N.length : Int) ≤ o) (h6 : o ≤ 6) (hf : nee 3 o < (f : Int)) (n9 : isW B n (lit 9) s = false) (n91 : isG B n 91 s = false) : (∀ s' C, sp B n q (f + 1) 2 o 0 s = .inr (s', C) → ∃ m', r_qTest_2 (f1 + 1) 1 m = GT xLF f1 m' ∧ QS m' B n q s' W1 (L ++ C ++ N) (o - N.length) b ∧ FQ m m') ∧ (∀ k p, sp B n q (f + 1) 2 o 0 s = .inl (k, p) → ∃ m', r_qTest_2 (f1 + 2) 1 m = some (0, m') ∧ RB m' k p ∧ FQ m m') := by
  have okt := Q.1.2.1
  have n16 := Q.1.1.2.2.1
  have o2 := okt.2.1
  have l1 : (N.map rtk ++ W1).length = N.length + W1.length := by rw [List.length_append, List.length_map]
  have ht2 : tst (N.map rtk ++ W1) := by
    intro x hx
    rcases List.mem_append.mp hx with z | z
    · obtain ⟨y, hy, e⟩ := List.mem_map.mp z
      rw [hN y hy] at e
      exact Or.inr (Or.inr (Or.inl e.symm))
    · exact ht x z
  obtain ⟨m1, a1, a2, a3, a4⟩ := look_Q Q
  obtain ⟨m2, b1, b2, b3, b4⟩ := here_Q (a := 125) (by unfold isD; decide) a2
  rw [show rlit 125 = lit 9 from rfl, if_neg (bF n9)] at b1
  obtain ⟨m3, d1, d2, d3, d4⟩ := r_qFact_S (f := f) b2 ht2 (by rw [l1]; exact hz) (by omega) h6 hf n9 n91
  have head : ∀ f1, r_qTest_2 (f1 + 1) 1 m = bnd (r_qDropsNots m3) fun r7 m8 => if ld m8 78 5 = 0 then bnd (r_qGoesOnTest m8) (yk f1) else r_qTest_105 (fun v1 m => r_qTest_2 f1 v1 m) m8 := by
    intro f1
    rw [r_qTest_2, if_neg (by decide), if_pos Q.1.2.2.1, a1, bnd_some, see_w Q, if_neg (fun z => bF n91 ((isG_see sg91).mpr z)), b1, bnd_some, if_pos (by rfl), d1, bnd_some]
    rfl
  constructor
  · intro s' C e
    obtain ⟨k1, k2, k3, k4⟩ := sp_gd (f + 1) 2 okt (show 0 ≤ o by omega) h6 (tA (by decide) (by decide)) s' C e
    have k5 := k1.2.1
    obtain ⟨m4, e1, e2, e3⟩ := dropsNots_S htp (d2 s' C e) hN (by rw [List.length_append]; omega) h0 h6
    refine ⟨m4, ?_, e2, FQ_trans a4 (FQ_trans b4 (FQ_trans d4 e3))⟩
    rw [head, e1, bnd_some, if_pos e2.1.2.2.1]
    rfl
  · intro k p e
    have F := d3 k p e
    rw [show f1 + 2 = f1 + 1 + 1 from rfl, head, dropsNots_B F, bnd_some, if_neg (by rw [F.2.1]; exact F.1), y105, y110_B F]
    exact ⟨m3, rfl, F, FQ_trans a4 (FQ_trans b4 d4)⟩
end RGT
