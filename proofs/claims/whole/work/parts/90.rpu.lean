/-! the reference at a part of a sum: the ways that it may begin -/
section RPU
variable {B : Int → Int} {n : Int} {q : Bool} {s : Int × Int} {o b v1 : Int} {m : xm} {W L : List Int}
theorem wof_no (h : tkd B n s ≠ 1) : wof B n q s = -1 := by
  unfold wof
  rw [if_neg (bF (isW_not h)), if_neg (fun z => bF (isW_not h) z.2)]
theorem wof_rng : wof B n q s = -1 ∨ wof B n q s = 5 ∨ wof B n q s = 6 := by
  unfold wof
  split
  · exact Or.inr (Or.inl rfl)
  · split
    · exact Or.inr (Or.inr rfl)
    · exact Or.inl rfl
theorem at_rg (Q : QS m B n q s W L o b) (h2 : ld m 78 2 = tq B n s) : rg (ld m 78 2) := by
  rw [h2]
  exact tq_rg (RT_TB Q.1.1) Q.1.2.1
theorem PT_open {f g : Nat} (Q : QS m B n q s W L o b) (hL : L.length < 1690) (hw : W.length < 1690) (h0 : 0 ≤ o) (h6 : o ≤ 6) (hc : isG B n 40 s = true) : (o < 6 → ∃ m', PT (f + 1) g v1 m = PT f g v1 m' ∧ QS m' B n q (nx B n s) (20 :: W) L (o + 1) b ∧ FQ m m') ∧ (¬ o < 6 → ∃ m', PT (f + 2) (g + 1) v1 m = some (0, st m' 78 88 v1) ∧ RBQ m' 4 (tq B n s) ∧ FQ m m') := by
  obtain ⟨m1, a1, a2, a3, a4⟩ := look_Q Q
  obtain ⟨m2, b1, b2, b3, b4⟩ := wordOf_57 a2
  have kd : tkd B n s ≠ 1 := by rw [(isG_kd hc).1]; decide
  have head : ∀ f g, PT (f + 1) g v1 m = bnd (bnd (r_qOpens 20 (ld m2 78 2) m2) fun r13 m14 => stf m14 78 2 ((ld m14 78 2) + 1) fun m15 => r_qPartTold_2 f 1 m15) (pk g v1) := by
    intro f g
    unfold PT
    rw [r_qPartTold_2, if_neg (by decide), if_pos Q.1.2.2.1, a1, bnd_some, b1, bnd_some, see_w Q, (isG_kd hc).2, if_pos rfl]
  have h := r_qOpens_S (x := 20) (p := ld m2 78 2) b2 (by omega) ⟨by decide, by decide⟩ h0 h6 (at_rg b2 b3)
  constructor
  · intro ho
    obtain ⟨m3, d1, d2, d3, d4⟩ := h.1 ho
    have R := RS_sign (m' := m3) d2.1 (isG_kd hc).1 (by rw [d3, b3])
    rw [head, d1, bnd_some, stf_eq]
    exact ⟨_, rfl, QS_FR d2 R (FR_st (by decide)), FQ_trans a4 (FQ_trans b4 (FQ_trans d4 (FQ_st (by decide))))⟩
  · intro ho
    obtain ⟨m3, d1, d2, d84, d3⟩ := h.2 ho
    have F : RB (st m3 78 2 (ld m3 78 2 + 1)) 4 (tq B n s) := ⟨by decide, by rw [ld_st_ne (by decide)]; exact d2.2.1, by rw [ld_st_ne (by decide), d2.2.2, b3]⟩
    rw [show f + 2 = (f + 1) + 1 from rfl, head, d1, bnd_some, stf_eq]
    exact ⟨_, PT_B F, ⟨F, by rw [ld_st_ne (by decide), d84]; omega, by rw [ld_st_ne (by decide), d84]; omega⟩, FQ_trans a4 (FQ_trans b4 (FQ_trans d3 (FQ_st (by decide))))⟩
/-- min, max -/
theorem PT_pair {f g : Nat} {t : Int} (Q : QS m B n q s W L o b) (ht : t = 10034 ∧ isW B n (lit 11) s = true ∨ t = 10035 ∧ isW B n (lit 12) s = true) : ∃ m', PT (f + 1) g v1 m = bnd (r_qPartTold_100 (fun v1 m => r_qPartTold_2 f v1 m) 1 (10035 - t) m') (pk g v1) ∧ QS m' B n q (nx B n s) W L o b ∧ FQ m m' := by
  obtain ⟨m1, a1, a2, a3, a4⟩ := look_Q Q
  obtain ⟨m2, b1, b2, b3, b4⟩ := wordOf_57 a2
  have kd : tkd B n s = 1 := by
    rcases ht with ⟨-, c⟩ | ⟨-, c⟩
    · exact isW_kd c
    · exact isW_kd c
  have ne : ¬ see B n (tq B n s) = 40 := by
    intro z
    have := (tkd_1.mp kd).1
    rw [z] at this
    cases this
  obtain ⟨m3, d1, d2, d3, d4⟩ := here_Q (a := 129) (by unfold isD; decide) b2
  rw [show rlit 129 = lit 11 from rfl] at d1
  rcases ht with ⟨rfl, c⟩ | ⟨rfl, c⟩
  · obtain ⟨m4, e1, e2, e3⟩ := (r_takes_S (a := 129) (by unfold isD; decide) d2.1).1 c
    refine ⟨m4, ?_, QS_FR d2 e2 e3, FQ_trans a4 (FQ_trans b4 (FQ_trans d4 (FQ_FR e3)))⟩
    unfold PT
    rw [r_qPartTold_2, if_neg (by decide), if_pos Q.1.2.2.1, a1, bnd_some, b1, bnd_some, see_w Q, if_neg ne, d1, bnd_some, i01, if_pos c, if_neg (by decide)]
    unfold r_qPartTold_77
    rw [e1, bnd_some, if_neg (by decide)]
    rfl
  · obtain ⟨m4, e1, e2, e3, e4⟩ := here_Q (a := 130) (by unfold isD; decide) d2
    rw [show rlit 130 = lit 12 from rfl] at e1
    obtain ⟨m5, g1, g2, g3, g4⟩ := (r_takes_S (a := 129) (by unfold isD; decide) e2.1).2 (isW_ne c (by decide))
    obtain ⟨m6, k1, k2, k3⟩ := (r_asks_S (a := 130) (by unfold isD; decide) g2).1 c
    refine ⟨m6, ?_, QS_FR (QS_FR e2 g2 g4) k2 k3, FQ_trans a4 (FQ_trans b4 (FQ_trans d4 (FQ_trans e4 (FQ_trans (FQ_FR g4) (FQ_FR k3)))))⟩
    unfold PT
    rw [r_qPartTold_2, if_neg (by decide), if_pos Q.1.2.2.1, a1, bnd_some, b1, bnd_some, see_w Q, if_neg ne, d1, bnd_some, i01, if_neg (bF (isW_ne c (by decide))), if_pos rfl, e1, bnd_some, i01, if_pos c, if_neg (by decide)]
    unfold r_qPartTold_77
    rw [g1, bnd_some, if_pos (by rfl), k1, bnd_some]
    rfl
theorem P100_open {f g : Nat} {v4 : Int} (Q : QS m B n q s W L o b) (hL : L.length < 1690) (hw : W.length < 1690) (h0 : 0 ≤ o) (h6 : o ≤ 6) (hv : v4 = 0 ∨ v4 = 1) (hc : isG B n 40 s = true) : (o < 6 → ∃ m', bnd (r_qPartTold_100 (fun v1 m => r_qPartTold_2 f v1 m) 1 v4 m) (pk g v1) = PT f g v1 m' ∧ QS m' B n q (nx B n s) ((22 - v4) :: W) L (o + 1) b ∧ FQ m m') ∧ (¬ o < 6 → ∃ m', bnd (r_qPartTold_100 (fun v1 m => r_qPartTold_2 (f + 1) v1 m) 1 v4 m) (pk (g + 1) v1) = some (0, st m' 78 88 v1) ∧ RBQ m' 4 (tq B n s) ∧ FQ m m') := by
  obtain ⟨m1, a1, a2, a3, a4⟩ := look_Q Q
  have tr := tq_rng (B := B) Q.1.2.1
  have o1 := Q.1.2.1.1
  have t3 := Q.1.1.2.2.1
  have head : ∀ f, r_qPartTold_100 (fun v1 m => r_qPartTold_2 f v1 m) 1 v4 m = bnd (r_qOpens (22 - v4) (ld m1 78 2) m1) fun r1 m2 => bnd (r_asksSign 40 m2) fun r1 m3 => r_qPartTold_2 f 1 m3 := by
    intro f
    unfold r_qPartTold_100 r_qPartTold_117 r_qPartTold_138 r_qPartTold_143
    rw [a1, bnd_some, see_w Q, (isG_kd hc).2, if_pos rfl, xlt_eq, a3, w32_id (by omega) (by omega), if_neg (by omega)]
    rcases hv with rfl | rfl
    · rw [if_pos (by rfl)]
      rfl
    · rw [if_neg (by decide)]
      rfl
  have h := r_qOpens_S (x := 22 - v4) (p := ld m1 78 2) a2 (by omega) ⟨by omega, by omega⟩ h0 h6 (at_rg a2 a3)
  constructor
  · intro ho
    obtain ⟨m3, d1, d2, d3, d4⟩ := h.1 ho
    obtain ⟨m4, e1, e2, e3⟩ := (r_asksSign_S sg40 d2.1).1 hc
    rw [head, d1, bnd_some, e1, bnd_some]
    exact ⟨m4, rfl, QS_FR d2 e2 e3, FQ_trans a4 (FQ_trans d4 (FQ_FR e3))⟩
  · intro ho
    obtain ⟨m3, d1, d2, d84, d3⟩ := h.2 ho
    rw [a3] at d2
    rw [head, d1, bnd_some, r_asksSign_B d2, bnd_some]
    exact ⟨_, PT_B d2, ⟨d2, by omega, by omega⟩, FQ_trans a4 d3⟩
theorem P100_fail {f g : Nat} {v4 : Int} (Q : QS m B n q s W L o b) (hL : L.length < 1690) (hc : isG B n 40 s = false) : ∃ m', bnd (r_qPartTold_100 (fun v1 m => r_qPartTold_2 (f + 1) v1 m) 1 v4 m) (pk (g + 1) v1) = some (0, st m' 78 88 v1) ∧ RBQ m' 1 (tq B n s) ∧ FQ m m' := by
  obtain ⟨m1, a1, a2, a3, a4⟩ := look_Q Q
  obtain ⟨m2, b1, b2, b3⟩ := (r_asksSign_S sg40 a2.1).2 hc
  have ne : ¬ see B n (tq B n s) = 40 := fun z => by
    rw [(isG_see sg40).mpr z] at hc
    cases hc
  have e84 : ld m2 78 84 = (L.length : Int) := by rw [ldq (b3 78 84 (by omega))]; exact a2.2.2.1.1
  refine ⟨m2, ?_, ⟨b2, by omega, by omega⟩, FQ_trans a4 (FQ_FR b3)⟩
  unfold r_qPartTold_100 r_qPartTold_117 r_qPartTold_143
  rw [a1, bnd_some, see_w Q, if_neg ne, xlt_eq, if_pos (by rfl), b1, bnd_some]
  exact PT_B b2
/-- at, turns -/
theorem PT_of {f g : Nat} {t : Int} (Q : QS m B n q s W L o b) (hL : L.length < 1690) (hw : W.length < 1690) (h0 : 0 ≤ o) (h6 : o ≤ 6) (ht : t = 10011 ∧ isW B n (lit 13) s = true ∨ t = 10012 ∧ q = true ∧ isW B n (lit 14) s = true) : (o < 6 → ∃ m', PT (f + 1) g v1 m = PT f g v1 m' ∧ QS m' B n q (nx B n s) (rtk t :: W) L (o + 1) b ∧ FQ m m') ∧ (¬ o < 6 → ∃ m', PT (f + 2) (g + 1) v1 m = some (0, st m' 78 88 v1) ∧ RBQ m' 4 (tq B n s) ∧ FQ m m') := by
  obtain ⟨m1, a1, a2, a3, a4⟩ := look_Q Q
  obtain ⟨m2, b1, b2, b3, b4⟩ := wordOf_57 a2
  have kd : tkd B n s = 1 := by
    rcases ht with ⟨-, c⟩ | ⟨-, -, c⟩
    · exact isW_kd c
    · exact isW_kd c
  have ne : ¬ see B n (tq B n s) = 40 := by
    intro z
    have := (tkd_1.mp kd).1
    rw [z] at this
    cases this
  have n11 : isW B n (lit 11) s = false := by
    rcases ht with ⟨-, c⟩ | ⟨-, -, c⟩
    · exact isW_ne c (by decide)
    · exact isW_ne c (by decide)
  have n12 : isW B n (lit 12) s = false := by
    rcases ht with ⟨-, c⟩ | ⟨-, -, c⟩
    · exact isW_ne c (by decide)
    · exact isW_ne c (by decide)
  have wo : wof B n q s = t - 10006 := by
    unfold wof
    rcases ht with ⟨rfl, c⟩ | ⟨rfl, d, c⟩
    · rw [if_pos c]
      rfl
    · rw [if_neg (bF (isW_ne c (by decide))), if_pos ⟨d, c⟩]
      rfl
  have t2 : t = 10011 ∧ isW B n (lit 13) s = true ∨ t = 10012 ∧ isW B n (lit 14) s = true := by
    rcases ht with ⟨rfl, c⟩ | ⟨rfl, d, c⟩
    · exact Or.inl ⟨rfl, c⟩
    · exact Or.inr ⟨rfl, c⟩
  have rt : 60 + (t - 10006) - 5 = rtk t := by
    rcases ht with ⟨rfl, c⟩ | ⟨rfl, d, c⟩ <;> rfl
  have rr : rg (rtk t) := by
    rcases ht with ⟨rfl, c⟩ | ⟨rfl, d, c⟩ <;> exact ⟨by decide, by decide⟩
  have tb : t = 10011 ∨ t = 10012 := by
    rcases ht with ⟨rfl, c⟩ | ⟨rfl, d, c⟩
    · exact Or.inl rfl
    · exact Or.inr rfl
  obtain ⟨m3, d1, d2, d3, d4⟩ := here_Q (a := 129) (by unfold isD; decide) b2
  rw [show rlit 129 = lit 11 from rfl] at d1
  obtain ⟨m4, e1, e2, e3, e4⟩ := here_Q (a := 130) (by unfold isD; decide) d2
  rw [show rlit 130 = lit 12 from rfl] at e1
  have head : ∀ f g, PT (f + 1) g v1 m = bnd (bnd (r_qOpens (rtk t) (ld m4 78 2) m4) fun r9 m10 => bnd (r_qAsksWord (t - 10006) m10) fun r11 m12 => r_qPartTold_2 f 1 m12) (pk g v1) := by
    intro f g
    unfold PT
    rw [r_qPartTold_2, if_neg (by decide), if_pos Q.1.2.2.1, a1, bnd_some, b1, bnd_some, see_w Q, if_neg ne, d1, bnd_some, i01, if_neg (bF n11), if_pos rfl, e1, bnd_some, i01, if_neg (bF n12), if_pos rfl, wo, w32_id (by omega) (by omega), if_neg (by omega), rt]
  have h := r_qOpens_S (x := rtk t) (p := ld m4 78 2) e2 (by omega) rr h0 h6 (at_rg e2 e3)
  constructor
  · intro ho
    obtain ⟨m5, g1, g2, g3, g4⟩ := h.1 ho
    obtain ⟨m6, k1, k2, k3⟩ := asksWord_of g2 t2
    rw [head, g1, bnd_some, k1, bnd_some]
    exact ⟨m6, rfl, k2, FQ_trans a4 (FQ_trans b4 (FQ_trans d4 (FQ_trans e4 (FQ_trans g4 k3))))⟩
  · intro ho
    obtain ⟨m5, g1, g2, g84, g3⟩ := h.2 ho
    rw [e3] at g2
    rw [show f + 2 = (f + 1) + 1 from rfl, head, g1, bnd_some, asksWord_B g2, bnd_some]
    exact ⟨_, PT_B g2, ⟨g2, by omega, by omega⟩, FQ_trans a4 (FQ_trans b4 (FQ_trans d4 (FQ_trans e4 g3)))⟩
/-- a number, a word, or nothing that can be -/
theorem PT_leaf {f g : Nat} {U W1 : List Int} (Q : QS m B n q s (U.map rtk ++ W1) L o b) (hb0 : 0 ≤ b) (hb : b ≤ (W1.length : Int)) (htp : tpo W1 (fun x => x < 60)) (hu : ∀ y ∈ U, isOF y) (hl : U.length + W1.length + L.length < 1690) (ho : (U.length : Int) ≤ o) (h6 : o ≤ 6) (n40 : isG B n 40 s = false) (n11 : isW B n (lit 11) s = false) (n12 : isW B n (lit 12) s = false) (nof : wof B n q s = -1) :
    (∀ t, lea B n q s = some t ∨ lea B n q s = none ∧ sNum B n 0 9999 s = .inr t → ∃ m', PT (f + 2) g v1 m = GO xLF g v1 m' ∧ QS m' B n q (nx B n s) W1 (L ++ [t] ++ U) (o - U.length) b ∧ FQ m m') ∧
    (∀ k p, lea B n q s = none → sNum B n 0 9999 s = .inl (k, p) → ∃ m', PT (f + 2) (g + 1) v1 m = some (0, st m' 78 88 v1) ∧ RBQ m' k p ∧ FQ m m') := by
  obtain ⟨m1, a1, a2, a3, a4⟩ := look_Q Q
  obtain ⟨m2, b1, b2, b3, b4⟩ := wordOf_57 a2
  have ne : ¬ see B n (tq B n s) = 40 := fun z => by
    rw [(isG_see sg40).mpr z] at n40
    cases n40
  obtain ⟨m3, d1, d2, d3, d4⟩ := here_Q (a := 129) (by unfold isD; decide) b2
  rw [show rlit 129 = lit 11 from rfl] at d1
  obtain ⟨m4, e1, e2, e3, e4⟩ := here_Q (a := 130) (by unfold isD; decide) d2
  rw [show rlit 130 = lit 12 from rfl] at e1
  obtain ⟨m5, g1, g2, g3, g4⟩ := wordOf_05 e2
  have F5 : FQ m m5 := FQ_trans a4 (FQ_trans b4 (FQ_trans d4 (FQ_trans e4 g4)))
  have head : ∀ g, PT (f + 2) g v1 m = bnd (if w32 (wpt B n q s) = -1 then r_qPartTold_209 (wpt B n q s) m5 else bnd (r_qAsksWord (wpt B n q s) m5) fun r3 m4 => r_qPartTold_209 (wpt B n q s) m4) (pk g v1) := by
    intro g
    unfold PT
    rw [r_qPartTold_2, if_neg (by decide), if_pos Q.1.2.2.1, a1, bnd_some, b1, bnd_some, see_w Q, if_neg ne, d1, bnd_some, i01, if_neg (bF n11), if_pos rfl, e1, bnd_some, i01, if_neg (bF n12), if_pos rfl, nof, if_pos (by rfl), r_qPartTold_2, if_pos (by rfl)]
    unfold r_qPartTold_184
    rw [if_pos e2.1.2.2.1, g1, bnd_some]
  have code : ∀ {m6 : xm} {t : Int}, QS m6 B n q (nx B n s) (U.map rtk ++ W1) L o b → FQ m m6 → 0 ≤ t ∧ t ≤ 20000 → ∃ m', bnd (r_qPartTold_234 (rtk t) m6) (pk g v1) = GO xLF g v1 m' ∧ QS m' B n q (nx B n s) W1 (L ++ [t] ++ U) (o - U.length) b ∧ FQ m m' := by
    intro m6 t Q6 f6 ht
    obtain ⟨m7, k1, k2, k3⟩ := r_qCode_S Q6 (by omega) ht
    obtain ⟨m8, y1, y2, y3⟩ := endsPart_S hb0 hb htp k2 hu (by rw [List.length_append, List.length_cons, List.length_nil]; omega) ho h6
    unfold r_qPartTold_234
    rw [k1, bnd_some, y1, bnd_some, bnd_some, pk_S y2.1.2.2.1]
    exact ⟨m8, rfl, y2, FQ_trans f6 (FQ_trans k3 y3)⟩
  have hn := r_number_S (lo := 0) (hi := 9999) g2.1 (rgc (by decide) (by decide)) (rgc (by decide) (by decide))
  constructor
  · intro t ht
    rcases ht with ht | ⟨hl0, ht⟩
    · have lt := lea_t ht
      have wp : wpt B n q s = t - 10001 := by
        unfold wpt
        rw [ht]
        rfl
      obtain ⟨m6, k1, k2, k3⟩ := asksWord_pt g2 ht
      rw [head, wp, w32_id (by omega) (by omega), if_neg (by omega), k1, bnd_some]
      unfold r_qPartTold_209
      rw [w32_id (by omega) (by omega), if_neg (by omega), show 40 + (t - 10001) = rtk t by unfold rtk; rw [if_neg (by omega), if_neg (by omega), if_pos (by omega)]; omega]
      exact code k2 (FQ_trans F5 k3) (by omega)
    · have wp : wpt B n q s = -1 := by
        unfold wpt
        rw [hl0]
        rfl
      have sr := sNum_rng ht
      obtain ⟨m6, k1, k2, k3⟩ := hn.1 t ht
      rw [head, wp, if_pos (by rfl)]
      unfold r_qPartTold_209
      rw [if_pos (by rfl), k1, bnd_some, show 1000 + t = rtk t by unfold rtk; rw [if_pos (by omega)]]
      exact code (QS_FR g2 k2 k3) (FQ_trans F5 (FQ_FR k3)) (by omega)
  · intro k p hl0 ht
    have wp : wpt B n q s = -1 := by
      unfold wpt
      rw [hl0]
      rfl
    obtain ⟨r, m6, k1, k0, k2, k3⟩ := hn.2 k p ht
    have e84 : ld m6 78 84 = (L.length : Int) := by rw [ldq (k3 78 84 (by omega))]; exact g2.2.2.1.1
    obtain ⟨m7, y1, y2, y84, y3⟩ := qCode_B (v := 1000 + r) k2 (by omega) (by omega)
    rw [head, wp, if_pos (by rfl)]
    unfold r_qPartTold_209 r_qPartTold_234
    rw [if_pos (by rfl), k1, bnd_some, y1, bnd_some, endsPart_B y2, bnd_some, bnd_some, pk_B y2]
    exact ⟨m7, rfl, ⟨y2, by omega, by omega⟩, FQ_trans F5 (FQ_trans (FQ_FR k3) y3)⟩
end RPU
