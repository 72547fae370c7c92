/-! ask: the reference's reading of the question -/
section ASR
variable {B : Int → Int} {n : Int} {m : xm} {s : Int × Int} {W L : List Int} {o b : Int} {q : Bool}
theorem qKind_S (Q : QS m B n q s W L o b) : (∀ k, akd B n s = some k → ∃ m', r_qKind m = some (k, m') ∧ QS m' B n q (nx B n s) W L o b ∧ FQ m m') ∧ (akd B n s = none → ∃ m', r_qKind m = some (5, m') ∧ RB m' 1 (tq B n s) ∧ FQ m m') := by
  have K : ∀ {m' : xm} (k : Int), 0 ≤ k → k ≤ 4 → r_qKind_76 k m' = some (k, m') := by
    intro m' k h1 h2
    unfold r_qKind_76
    rw [xlt_eq, w32_id (by omega) (by omega), if_neg (by omega)]
  unfold r_qKind akd
  have h := takes_Q (a := 119) (by unfold isD; decide) Q
  rw [show rlit 119 = lit 25 from rfl] at h
  by_cases c : isW B n (lit 25) s = true
  · obtain ⟨m1, a1, a2, a3⟩ := h.1 c
    rw [if_pos c, a1, bnd_some, if_neg (by decide), K 0 (by decide) (by decide)]
    exact ⟨fun k z => (by cases z; exact ⟨m1, rfl, a2, a3⟩), fun z => by cases z⟩
  obtain ⟨m1, a1, a2, -, a4⟩ := h.2 (by simpa using c)
  rw [if_neg c, a1, bnd_some, if_pos (show w32 0 = 0 by rfl)]
  have h := takes_Q (a := 120) (by unfold isD; decide) a2
  rw [show rlit 120 = lit 26 from rfl] at h
  by_cases c : isW B n (lit 26) s = true
  · obtain ⟨m2, b1, b2, b3⟩ := h.1 c
    rw [if_pos c, b1, bnd_some, if_neg (by decide), K 1 (by decide) (by decide)]
    exact ⟨fun k z => (by cases z; exact ⟨m2, rfl, b2, FQ_trans a4 b3⟩), fun z => by cases z⟩
  obtain ⟨m2, b1, b2, -, b4⟩ := h.2 (by simpa using c)
  rw [if_neg c, b1, bnd_some, if_pos (show w32 0 = 0 by rfl)]
  have F2 := FQ_trans a4 b4
  have h := takes_Q (a := 121) (by unfold isD; decide) b2
  rw [show rlit 121 = lit 27 from rfl] at h
  by_cases c : isW B n (lit 27) s = true
  · obtain ⟨m3, b1, b2, b3⟩ := h.1 c
    rw [if_pos c, b1, bnd_some, if_neg (by decide), K 2 (by decide) (by decide)]
    exact ⟨fun k z => (by cases z; exact ⟨m3, rfl, b2, FQ_trans F2 b3⟩), fun z => by cases z⟩
  obtain ⟨m3, d1, d2, -, d4⟩ := h.2 (by simpa using c)
  rw [if_neg c, d1, bnd_some, if_pos (show w32 0 = 0 by rfl)]
  have F3 := FQ_trans F2 d4
  have h := takes_Q (a := 122) (by unfold isD; decide) d2
  rw [show rlit 122 = lit 28 from rfl] at h
  by_cases c : isW B n (lit 28) s = true
  · obtain ⟨m4, b1, b2, b3⟩ := h.1 c
    rw [if_pos c, b1, bnd_some, if_neg (by decide), K 3 (by decide) (by decide)]
    exact ⟨fun k z => (by cases z; exact ⟨m4, rfl, b2, FQ_trans F3 b3⟩), fun z => by cases z⟩
  obtain ⟨m4, e1, e2, -, e4⟩ := h.2 (by simpa using c)
  rw [if_neg c, e1, bnd_some, if_pos (show w32 0 = 0 by rfl)]
  have F4 := FQ_trans F3 e4
  have h := takes_Q (a := 123) (by unfold isD; decide) e2
  rw [show rlit 123 = lit 29 from rfl] at h
  by_cases c : isW B n (lit 29) s = true
  · obtain ⟨m5, b1, b2, b3⟩ := h.1 c
    rw [if_pos c, b1, bnd_some, if_neg (by decide), K 4 (by decide) (by decide)]
    exact ⟨fun k z => (by cases z; exact ⟨m5, rfl, b2, FQ_trans F4 b3⟩), fun z => by cases z⟩
  obtain ⟨m5, g1, g2, -, g4⟩ := h.2 (by simpa using c)
  rw [if_neg c, g1, bnd_some, if_pos (show w32 0 = 0 by rfl)]
  have F5 := FQ_trans F4 g4
  have h := r_asks_S (a := 124) (by unfold isD; decide) g2.1
  rw [show rlit 124 = lit 30 from rfl] at h
  unfold r_qKind_76
  rw [xlt_eq, if_pos (show w32 5 = 5 by rfl)]
  by_cases c : isW B n (lit 30) s = true
  · obtain ⟨m6, b1, b2, b3⟩ := h.1 c
    rw [if_pos c, b1, bnd_some]
    exact ⟨fun k z => (by cases z; exact ⟨m6, rfl, QS_FR g2 b2 b3, FQ_trans F5 (FQ_FR b3)⟩), fun z => by cases z⟩
  · obtain ⟨m6, b1, b2, b3⟩ := h.2 (by simpa using c)
    rw [if_neg c, b1, bnd_some]
    exact ⟨fun k z => (by cases z), fun _ => ⟨m6, rfl, b2, FQ_trans F5 (FQ_FR b3)⟩⟩
/-- the reading's beginning -/
def fB (m m' : xm) : Prop := ∀ a k, ¬ (a = 78 ∧ (1 ≤ k ∧ k ≤ 8 ∨ k = 42 ∨ k = 84 ∨ k = 86 ∨ k = 87 ∨ k = 88)) → a ≠ 138 → a ≠ 139 → m' a k = m a k
theorem fB_FQ {m1 m2 m3 : xm} (h1 : fB m1 m2) (h2 : FQ m2 m3) : fB m1 m3 := fun a k g1 g2 g3 => by rw [h2 a k (by omega) g2 g3, h1 a k g1 g2 g3]
/-- the reference's question: what it has read when it turns to the answer -/
theorem r_ask_S (ht : ld m 78 1 = n) (hn0 : 0 ≤ n) (hn1 : n ≤ 1600) (hB : ∀ i, 0 ≤ i → i < n → ld m 79 i = B i ∧ 0 ≤ B i ∧ B i ≤ 255) : (∀ k C, sAsk B n = .inr (k, C) → ∃ m', r_ask m = r_ask_117 k m' ∧ ld m' 78 5 = 0 ∧ ld m' 78 6 = -1 ∧ ld m' 78 1 = 0 ∧ ld m' 78 84 = (C.length : Int) ∧ cdl m' 138 (C.map rtk) ∧ fB m m') ∧ (∀ k p, sAsk B n = .inl (k, p) → ∃ r m', r_ask m = r_ask_117 r m' ∧ ld m' 78 5 = k ∧ k ≠ 0 ∧ ld m' 78 6 = p ∧ ld m' 78 1 = 0 ∧ fB m m') := by
  obtain ⟨m1, hm1⟩ : ∃ m1, m1 = st (st (st (st (st (st (st (st (st (st (st m 78 3 n) 78 1 0) 78 2 0) 78 4 (-1)) 78 5 0) 78 6 (-1)) 78 42 0) 78 84 0) 78 86 0) 78 87 0) 78 88 0 := ⟨_, rfl⟩
  have e : ∀ a k, ¬ (a = 78 ∧ (1 ≤ k ∧ k ≤ 6 ∨ k = 42 ∨ k = 84 ∨ k = 86 ∨ k = 87 ∨ k = 88)) → m1 a k = m a k := by
    intro a k g
    rw [hm1]
    repeat rw [st_at (by omega)]
  have e1 : ld m1 78 1 = 0 := by
    rw [hm1]
    repeat rw [ld_st_ne (by decide)]
    rw [ld_st_eq]; rfl
  have e2 : ld m1 78 2 = 0 := by
    rw [hm1]
    repeat rw [ld_st_ne (by decide)]
    rw [ld_st_eq]; rfl
  have e3 : ld m1 78 3 = n := by
    rw [hm1]
    repeat rw [ld_st_ne (by decide)]
    rw [ld_st_eq, w32_id (by omega) (by omega)]
  have e4 : ld m1 78 4 = -1 := by
    rw [hm1]
    repeat rw [ld_st_ne (by decide)]
    rw [ld_st_eq]; rfl
  have e5 : ld m1 78 5 = 0 := by
    rw [hm1]
    repeat rw [ld_st_ne (by decide)]
    rw [ld_st_eq]; rfl
  have e6 : ld m1 78 6 = -1 := by
    rw [hm1]
    repeat rw [ld_st_ne (by decide)]
    rw [ld_st_eq]; rfl
  have e42 : ld m1 78 42 = 0 := by
    rw [hm1]
    repeat rw [ld_st_ne (by decide)]
    rw [ld_st_eq]; rfl
  have e84 : ld m1 78 84 = 0 := by
    rw [hm1]
    repeat rw [ld_st_ne (by decide)]
    rw [ld_st_eq]; rfl
  have e86 : ld m1 78 86 = 0 := by
    rw [hm1]
    repeat rw [ld_st_ne (by decide)]
    rw [ld_st_eq]; rfl
  have e87 : ld m1 78 87 = 0 := by
    rw [hm1, ld_st_ne (by decide), ld_st_eq]; rfl
  have e88 : ld m1 78 88 = 0 := by
    rw [hm1, ld_st_eq]; rfl
  have T : RT m1 B n := ⟨e3, hn0, hn1, fun i z1 z2 => by rw [ldq (e 79 i (by omega))]; exact hB i z1 z2⟩
  have R : RS m1 B n (0, 0) := ⟨T, okT_0 (RT_TB T), e5, e6, ⟨by rw [e2]; decide, by rw [e2]; exact hn0, by rw [e2]; rfl⟩, Or.inr ⟨rfl, by rw [e4]; decide⟩⟩
  have Q : QS m1 B n true (0, 0) [] [] 0 0 := ⟨R, ⟨e86, trivial⟩, ⟨e84, fun i hi => by cases hi⟩, e87, e88, e42⟩
  have f1 : fB m m1 := fun a k g1 _ _ => e a k (by omega)
  have hr : r_ask m = bnd (r_qKind m1) fun r12 m13 => if ld m13 78 5 = 0 then if 3 ≤ w32 r12 then r_ask_82 r12 m13 else bnd (r_qTest m13) fun r14 m15 => r_ask_93 r12 m15 else r_ask_82 r12 m13 := by
    unfold r_ask
    rw [stf_eq, stf_eq, stf_eq, stf_eq, stf_eq, stf_eq, stf_eq, stf_eq, stf_eq, stf_eq, stf_eq, ht, ← hm1]
  have h1 : ∀ {m' : xm}, FQ m1 m' → ld m' 78 1 = 0 := fun f => by rw [ldq (f 78 1 (by omega) (by decide) (by decide)), e1]
  have R93B : ∀ {m' : xm} {r k p : Int}, RB m' k p → r_ask_93 r m' = r_ask_117 r m' := by
    intro m' r k p F
    unfold r_ask_93
    rw [if_neg (by rw [F.2.1]; exact F.1)]
  have hK := qKind_S Q
  unfold sAsk
  cases ek : akd B n (0, 0) with
  | none =>
    obtain ⟨m2, b1, b2, b3⟩ := hK.2 ek
    refine ⟨fun k C z => (by cases z), fun k p z => ?_⟩
    cases z
    refine ⟨5, m2, ?_, b2.2.1, b2.1, b2.2.2, h1 b3, fB_FQ f1 b3⟩
    rw [hr, b1, bnd_some, if_neg (by rw [b2.2.1]; exact b2.1)]
    unfold r_ask_82
    rw [if_neg (by rw [b2.2.1]; exact b2.1), R93B b2]
  | some k0 =>
    obtain ⟨m2, b1, b2, b3⟩ := hK.1 k0 ek
    have kr := akd_rng ek
    -- the test or sum
    have key : ∃ m3, r_ask m = r_ask_93 k0 m3 ∧ (∀ s' C, sp B n true 100 (akt k0) 0 0 (nx B n (0, 0)) = .inr (s', C) → QS m3 B n true s' [] C 0 0) ∧ (∀ k p, sp B n true 100 (akt k0) 0 0 (nx B n (0, 0)) = .inl (k, p) → RB m3 k p) ∧ FQ m1 m3 := by
      rw [hr, b1, bnd_some, if_pos b2.1.2.2.1, w32_id (by omega) (by omega)]
      by_cases c : 3 ≤ k0
      · obtain ⟨m3, d1, d2, d3, d4⟩ := r_qSums_S (f := 100) b2 (by rw [List.length_nil]; have := b2.1.2.1.1; omega) (fun x r z => by cases z) (by decide) (by decide) (by decide)
        rw [if_pos c, show akt k0 = 3 by unfold akt; rw [if_pos (by omega)]]
        unfold r_ask_82
        rw [if_pos b2.1.2.2.1, d1, bnd_some]
        exact ⟨m3, rfl, d2, fun k p z => (d3 k p z).1, FQ_trans b3 d4⟩
      · obtain ⟨m3, d1, d2, d3, d4⟩ := r_qTest_S (f := 100) b2 (by decide)
        rw [if_neg c, show akt k0 = 0 by unfold akt; rw [if_neg (by omega)], d1, bnd_some]
        exact ⟨m3, rfl, d2, d3, FQ_trans b3 d4⟩
    obtain ⟨m3, k1, k2, k3, k4⟩ := key
    dsimp only
    cases es : sp B n true 100 (akt k0) 0 0 (nx B n (0, 0)) with
    | inl x =>
      obtain ⟨k, p⟩ := x
      have F := k3 k p es
      unfold fat
      refine ⟨fun k C z => (by cases z), fun k p z => ?_⟩
      cases z
      exact ⟨k0, m3, by rw [k1, R93B F], F.2.1, F.1, F.2.2, h1 k4, fB_FQ f1 k4⟩
    | inr x =>
      obtain ⟨s', C⟩ := x
      have Q3 := k2 s' C es
      obtain ⟨m4, y1, y2, y3, y4⟩ := look_Q Q3
      have sg := see_ge (RT_TB Q3.1.1) (q := tq B n s') (by have := tq_rng (B := B) Q3.1.2.1; have := Q3.1.2.1.1; omega)
      have tr := tq_rng (B := B) Q3.1.2.1
      have t0 := tkd_0 (RT_TB Q3.1.1) Q3.1.2.1
      unfold fat
      dsimp only
      by_cases c : tkd B n s' = 0
      · rw [if_pos c]
        refine ⟨fun k C z => ?_, fun k p z => (by cases z)⟩
        cases z
        refine ⟨m4, ?_, y2.1.2.2.1, y2.1.2.2.2.1, h1 (FQ_trans k4 y4), y2.2.2.1.1, y2.2.2.1.2, fB_FQ f1 (FQ_trans k4 y4)⟩
        rw [k1]
        unfold r_ask_93
        rw [if_pos Q3.1.2.2.1, y1, bnd_some, see_w Q3, if_pos (sg.2.2.mpr (by rw [t0.mp c]; exact Int.le_refl _))]
      · rw [if_neg c]
        obtain ⟨m5, g1, g2, g3⟩ := r_failAt (k := 1) y2.1 y3 (by decide) (by decide) (by decide)
        refine ⟨fun k C z => (by cases z), fun k p z => ?_⟩
        cases z
        refine ⟨k0, m5, ?_, g2.2.1, g2.1, g2.2.2, h1 (FQ_trans k4 (FQ_trans y4 (FQ_FR g3))), fB_FQ f1 (FQ_trans k4 (FQ_trans y4 (FQ_FR g3)))⟩
        rw [k1]
        unfold r_ask_93
        rw [if_pos Q3.1.2.2.1, y1, bnd_some, see_w Q3, if_neg (fun z => c (t0.mpr (by have := sg.2.2.mp z; omega))), g1, bnd_some]
end ASR
