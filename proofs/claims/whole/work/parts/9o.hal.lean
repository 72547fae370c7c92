/-! hall -/
theorem hall45 : ∀ (r : Nat) {f : Nat} {k : Int} {m : xm}, k + (r : Int) = 4 → 0 ≤ k → r < f → ∃ m', r_hall_45 f k m = r_hall_63 m' ∧ (∀ i, k ≤ i → i < 4 → ld m' 101 i = 0) ∧ ∀ b j, ¬ (b = 101 ∧ k ≤ j ∧ j < 4) → m' b j = m b j
  | 0, f, k, m, hk, h0, hf => by
    obtain ⟨f, rfl⟩ : ∃ f', f = f' + 1 := ⟨f - 1, by omega⟩
    rw [r_hall_45, w32_id (by omega) (by omega), if_pos (by omega)]
    exact ⟨m, rfl, fun i a b => by omega, fun _ _ _ => rfl⟩
  | r + 1, f, k, m, hk, h0, hf => by
    obtain ⟨f, rfl⟩ : ∃ f', f = f' + 1 := ⟨f - 1, by omega⟩
    obtain ⟨m', a1, a2, a3⟩ := hall45 r (f := f) (k := k + 1) (m := st m 101 k 0) (by omega) (by omega) (by omega)
    rw [r_hall_45, w32_id (by omega) (by omega), if_neg (by omega), ias_in (by omega) (by rw [al101]; omega), a1]
    refine ⟨m', rfl, fun i x1 x2 => ?_, fun b j x => by rw [a3 b j (by omega), st_at (by omega)]⟩
    by_cases y : i = k
    · rw [y, ldq (a3 101 k (by omega)), ld_st_eq]; rfl
    · exact a2 i (by omega) x2
/-- the upper halves: the hall that stands -/
def upr (a : Nat) (k : Int) : Prop := a = 101 ∧ 4 ≤ k ∨ a = 102 ∧ 24 ≤ k ∨ a = 103 ∧ 12 ≤ k ∨ a = 104 ∧ 24 ≤ k ∨ a = 105 ∧ 5 ≤ k ∨ a = 106 ∧ 1 ≤ k ∨ a = 107 ∧ 6 ≤ k ∨ a = 108 ∧ 6 ≤ k ∨ a = 109 ∧ 1600 ≤ k
def FHu (m m' : xm) : Prop := ∀ a k, ¬ (a = 78 ∧ (1 ≤ k ∧ k ≤ 6 ∨ k = 30 ∨ 40 ≤ k ∧ k ≤ 42 ∨ k = 84 ∨ k = 86 ∨ k = 87 ∨ k = 88)) → ¬ (101 ≤ a ∧ a ≤ 109 ∧ ¬ upr a k) → a ≠ 138 → a ≠ 139 → m' a k = m a k
theorem RH_up {m m' : xm} {G : hv} (wD : wfD G) (H : RH m G) (e : ∀ a k, upr a k → m' a k = m a k) : RH m' G := by
  obtain ⟨c1, c2, c3, c4, c5, c6, c7⟩ := H
  unfold upr at e
  refine ⟨fun t g1 g2 => ?_, ?_, fun l g1 g2 => ?_, fun n l g1 g2 g3 g4 => ?_, fun p g1 g2 => ?_, fun d g1 g2 => ?_, fun d k g1 g2 g3 g4 => ?_⟩
  · rw [ldq (e 101 _ (by omega))]; exact c1 t g1 g2
  · rw [ldq (e 106 _ (by omega))]; exact c2
  · rw [ldq (e 103 _ (by omega)), ldq (e 103 _ (by omega)), ldq (e 103 _ (by omega))]; exact c3 l g1 g2
  · rw [ldq (e 104 _ (by omega))]; exact c4 n l g1 g2 g3 g4
  · rw [ldq (e 105 _ (by omega))]; exact c5 p g1 g2
  · rw [ldq (e 107 _ (by omega)), ldq (e 108 _ (by omega))]; exact c6 d g1 g2
  · have := wD d g1 g2
    rw [ldq (e 109 _ (by omega))]; exact c7 d k g1 g2 g3 g4
theorem NM_up {m m' : xm} {G : hv} (H : NM m G) (e : ∀ a k, upr a k → m' a k = m a k) : NM m' G := by
  intro t i g1 g2 g3 g4
  unfold upr at e
  rw [ldlq (e 102 _ (by omega))]
  exact H t i g1 g2 g3 g4
section HAL
variable {B : Int → Int} {n : Int} {m : xm}
theorem r_hall_S (ht : ld m 78 1 = n) (hn0 : 0 ≤ n) (hn1 : n ≤ 1600) (hB : ∀ i, 0 ≤ i → i < n → ld m 79 i = B i ∧ 0 ≤ B i ∧ B i ≤ 255) :
    (∀ G' z' c', sHl B n 62 0 G00 0 (0, 0) = .inr (G', z', c') → ∃ m', r_hall m = r_hall_92 m' ∧ ld m' 78 5 = 0 ∧ ld m' 78 6 = -1 ∧ ld m' 78 41 = c' ∧ ld m' 78 1 = 0 ∧ RHp m' G' z' ∧ FHu m m') ∧ (∀ k q, sHl B n 62 0 G00 0 (0, 0) = .inl (k, q) → ∃ m', r_hall m = r_hall_92 m' ∧ RB m' k q ∧ ld m' 78 1 = 0 ∧ FHu m m') := by
  obtain ⟨m1, hm1⟩ : ∃ m1, m1 = st (st (st (st (st (st (st (st m 78 3 n) 78 1 0) 78 2 0) 78 4 (-1)) 78 5 0) 78 6 (-1)) 78 41 0) 78 40 0 := ⟨_, rfl⟩
  have e : ∀ a k, ¬ (a = 78 ∧ (1 ≤ k ∧ k ≤ 6 ∨ k = 40 ∨ k = 41)) → m1 a k = m a k := by
    intro a k g
    rw [hm1]
    repeat rw [st_at (by omega)]
  have e1 : ld m1 78 1 = 0 := by
    rw [hm1]
    repeat rw [ld_st_ne (by decide)]
    rw [ld_st_eq]; rfl
  have e2 : ld m1 78 2 = 0 := by
    rw [hm1]
    repeat rw [ld_st_ne (by decide)]
    rw [ld_st_eq]; rfl
  have e3 : ld m1 78 3 = n := by
    rw [hm1]
    repeat rw [ld_st_ne (by decide)]
    rw [ld_st_eq, w32_id (by omega) (by omega)]
  have e4 : ld m1 78 4 = -1 := by
    rw [hm1]
    repeat rw [ld_st_ne (by decide)]
    rw [ld_st_eq]; rfl
  have e5 : ld m1 78 5 = 0 := by
    rw [hm1]
    repeat rw [ld_st_ne (by decide)]
    rw [ld_st_eq]; rfl
  have e6 : ld m1 78 6 = -1 := by
    rw [hm1]
    repeat rw [ld_st_ne (by decide)]
    rw [ld_st_eq]; rfl
  have e41 : ld m1 78 41 = 0 := by
    rw [hm1, ld_st_ne (by decide), ld_st_eq]; rfl
  have e40 : ld m1 78 40 = 0 := by
    rw [hm1, ld_st_eq]; rfl
  obtain ⟨m2, a1, a2, a3⟩ := hall45 4 (f := xLF) (k := 0) (m := m1) (by decide) (by decide) (by rw [xLF_eq]; omega)
  obtain ⟨m3, hm3⟩ : ∃ m3, m3 = st m2 106 0 0 := ⟨_, rfl⟩
  have f3 : ∀ a k, ¬ (a = 101 ∧ 0 ≤ k ∧ k < 4) → ¬ (a = 106 ∧ k = 0) → m3 a k = m1 a k := fun a k x y => by rw [hm3, st_at y, a3 a k x]
  have g78 : ∀ k, m3 78 k = m1 78 k := fun k => f3 78 k (by omega) (by omega)
  have T : RT m3 B n := ⟨by rw [ldq (g78 3)]; exact e3, hn0, hn1, fun i z1 z2 => by rw [ldq (f3 79 i (by omega) (by omega)), ldq (e 79 i (by omega))]; exact hB i z1 z2⟩
  have S : RS m3 B n (0, 0) := ⟨T, okT_0 (RT_TB T), by rw [ldq (g78 5)]; exact e5, by rw [ldq (g78 6)]; exact e6, ⟨by rw [ldq (g78 2), e2]; decide, by rw [ldq (g78 2), e2]; exact hn0, by rw [ldq (g78 2), e2]; rfl⟩, Or.inr ⟨rfl, by rw [ldq (g78 4), e4]; decide⟩⟩
  have R : RHp m3 G00 0 := by
    refine ⟨fun t x1 x2 => ?_, ?_, fun l x1 x2 => ?_, fun n l x1 x2 x3 x4 => ?_, fun p x1 x2 => ?_, fun d x1 x2 => ?_, fun d k x1 x2 x3 x4 => ?_, ?_, fun t i x1 x2 x3 x4 => ?_⟩
    · rw [hm3, ld_st_nc (by decide), a2 t x1 x2]; rfl
    · rw [hm3, ld_st_eq]; rfl
    · exact absurd x2 (by unfold nL G00; omega)
    · exact absurd x2 (by unfold nN G00; omega)
    · exact absurd x2 (by unfold nP G00; omega)
    · exact absurd x2 (by unfold nD G00; omega)
    · exact absurd x2 (by unfold nD G00; omega)
    · rw [ldq (g78 40)]; exact e40
    · exact absurd x4 (by unfold G00; omega)
  have hr : r_hall m = r_hall_70 xLF m3 := by
    unfold r_hall
    rw [stf_eq, stf_eq, stf_eq, stf_eq, stf_eq, stf_eq, stf_eq, stf_eq, ht, ← hm1, a1]
    unfold r_hall_63
    rw [ias_in (by decide) (by decide), ← hm3]
  have L := hallR_loop (B := B) (n := n) 62 (c := 0) (G := G00) (z := 0) (s := (0, 0)) (g := xLF) (m := m3) S R GI_00 (Int.le_refl _) (by rw [ldq (g78 41)]; exact e41) (by decide) (by decide) (by decide) (by rw [xLF_eq]; decide)
  have fu : ∀ {m' : xm}, FHt m3 m' → FHu m m' := fun f a k x1 x2 x3 x4 => by
    unfold upr at x2
    rw [f a k (by omega) (by omega), f3 a k (by omega) (by omega), e a k (by omega)]
  have u1 : ∀ {m' : xm}, FHt m3 m' → ld m' 78 1 = 0 := fun f => by
    rw [ldq (f 78 1 (by omega) (by omega)), ldq (g78 1)]; exact e1
  rw [hr]
  constructor
  · intro G' z' c' y
    obtain ⟨m', k1, k2, k3, k4, k5, k6⟩ := L.1 G' z' c' y
    exact ⟨m', k1, k2, k3, k4, u1 k6, k5, fu k6⟩
  · intro k q y
    obtain ⟨m', k1, k2, k3⟩ := L.2 k q y
    exact ⟨m', k1, k2, u1 k3, fu k3⟩
end HAL
theorem hlr_H {h : Nat} (p : isH h) : hlr (h : Int) = h := by rcases p with rfl | rfl <;> rfl
theorem isH_dis {h h' : Nat} (p : isH h) (p' : isH h') (x : h' ≠ h) : h + 15 ≤ h' ∨ h' + 15 ≤ h := by
  unfold isH at p p'
  omega
theorem cY_start_ok {v : Int} {m : xm} : cY_start v 0 m = some (0, st (st (st (st m 22 0 v) 22 1 0) 22 2 0) 21 3 0) := by
  unfold cY_start
  rw [setCell_in (by decide) (by decide), bnd_some, setCell_in (by decide) (by decide), bnd_some, setCell_in (by decide) (by decide), bnd_some, stf_eq]
theorem ok_hall : okI cL_hall r_hall := by
  intro m hi
  obtain ⟨G, H⟩ := hi
  obtain ⟨⟨w, wD, hne, c, cm, r, nm⟩, S, P, T, A, F, E, J, L, M, Z⟩ := H
  have hT := TP_CT T
  obtain ⟨t1, t2, t3, t4⟩ := T
  have p := hl_or m 13
  have p0 := hl_or m 12
  have dis := isH_dis p p0 hne
  obtain ⟨h, hh⟩ : ∃ h, h = hl m 13 := ⟨_, rfl⟩
  obtain ⟨h0, hh0⟩ : ∃ h0, h0 = hl m 12 := ⟨_, rfl⟩
  rw [← hh] at p dis
  rw [← hh0] at p0 c cm dis
  have pr := isH_rng p
  have pr0 := isH_rng p0
  obtain ⟨m1, a1, a2, a3, a4⟩ := cH_clear_S (m := m) p
  obtain ⟨m2, b1, b2, b3⟩ := cW_begin_S (m := m1) (B := fun i => ld m 2 i) (n := ld m 1 1) (CT_cg hT (a4 1 1 (by omega)) (fun k => a4 2 k (by omega)))
  have H2 : HC m2 h G00 0 := ⟨CH_cg a2.1 (fun a k x => ldq (b3 a k (by rcases x with rfl | ⟨x1, x2⟩ | ⟨rfl, x⟩ <;> omega))), by rw [ldq (b3 (h + 1) 2 (by omega))]; exact a2.2⟩
  have hI := into_loop p 62 (c := 0) (G := G00) (z := 0) (s := (0, 0)) (g := xLF) (m := m2) b2 H2 GI_00 (Int.le_refl _) (by decide) (by decide) (by decide) (by rw [xLF_eq]; decide)
  have eI : cR_readInto h m = cR_readInto_13 h xLF 0 m2 := by
    unfold cR_readInto
    rw [a1, bnd_some, b1, bnd_some]
  have refe : ∀ {m3 : xm}, (∀ a k, (a = 78 ∧ k = 1) ∨ a = 79 → m3 a k = m a k) → ld m3 78 1 = ld m 1 1 ∧ ∀ i, 0 ≤ i → i < ld m 1 1 → ld m3 79 i = ld m 2 i ∧ 0 ≤ ld m 2 i ∧ ld m 2 i ≤ 255 := by
    intro m3 e
    refine ⟨by rw [ldq (e 78 1 (Or.inl ⟨rfl, rfl⟩)), t1], fun i z1 z2 => ?_⟩
    have := t4 i z1 z2
    rw [ldq (e 79 i (Or.inr rfl))]
    exact ⟨this.1.symm, this.2⟩
  have fI : ∀ {m3 : xm}, FHc h m2 m3 → ∀ a k, a ≠ 3 → ¬ (h ≤ a ∧ a ≤ h + 14) → m3 a k = m a k := fun f a k x y => by rw [f a k x (by omega), b3 a k x, a4 a k y]
  cases es : sHl (fun i => ld m 2 i) (ld m 1 1) 62 0 G00 0 (0, 0) with
  | inl x =>
    obtain ⟨k, q⟩ := x
    obtain ⟨m3, d1, d2, d3⟩ := hI.2 k q es
    have f3 := fI d3
    obtain ⟨m5, hm5⟩ : ∃ m5, m5 = st (st m3 1 1 0) 47 1 (ld m3 47 1 + 1) := ⟨_, rfl⟩
    have e11 : ld m3 1 1 = ld m 1 1 := ldq (f3 1 1 (by decide) (by omega))
    have eC : cL_hall m = some (-1, m5) := by
      unfold cL_hall
      rw [← hh, eI, d1, bnd_some, cT_cut_ok (by decide) (by omega), bnd_some, if_pos (by rfl), cL_refuse_ok (by decide) (by decide), bnd_some, ld_st_nc (by decide), ← hm5]
    have f5 : ∀ a j, a ≠ 3 → ¬ (h ≤ a ∧ a ≤ h + 14) → ¬ (a = 1 ∧ j = 1) → ¬ (a = 47 ∧ j = 1) → m5 a j = m a j := fun a j g1 g2 g3 g4 => by rw [hm5, st_at g4, st_at g3, f3 a j g1 g2]
    obtain ⟨e1, e2⟩ := refe (m3 := m5) (fun a j z => f5 a j (by omega) (by omega) (by omega) (by omega))
    obtain ⟨m6, g1, g2, g3, g4⟩ := (r_hall_S e1 t2 t3 e2).2 k q es
    obtain ⟨m7, hm7⟩ : ∃ m7, m7 = st (st (st m6 78 7 k) 78 8 q) 80 1 (ld m6 80 1 + 1) := ⟨_, rfl⟩
    have eR : r_hall m5 = some (-1, m7) := by
      rw [g1]
      unfold r_hall_92
      rw [stf_eq, stf_eq, g2.2.1, ld_st_ne (by decide), ld_st_ne (by decide), ld_st_ne (by decide), g2.2.1, g2.2.2, if_neg g2.1, ial_in (by decide) (by decide), ias_in (by decide) (by decide), ld_st_nc (by decide), ld_st_nc (by decide), ← hm7]
    have f7 : ∀ a j, ¬ (a = 78 ∧ (j = 7 ∨ j = 8)) → ¬ (a = 80 ∧ j = 1) → m7 a j = m6 a j := fun a j x y => by rw [hm7, st_at y, st_at (by omega), st_at (by omega)]
    have ff : ∀ a j, a ≠ 3 → ¬ (h ≤ a ∧ a ≤ h + 14) → ¬ (a = 1 ∧ j = 1) → ¬ (a = 47 ∧ j = 1) → ¬ (a = 78 ∧ (1 ≤ j ∧ j ≤ 8 ∨ j = 30 ∨ 40 ≤ j ∧ j ≤ 42 ∨ j = 84 ∨ j = 86 ∨ j = 87 ∨ j = 88)) → ¬ (101 ≤ a ∧ a ≤ 109 ∧ ¬ upr a j) → a ≠ 138 → a ≠ 139 → ¬ (a = 80 ∧ j = 1) → m7 a j = m a j := fun a j x1 x2 x3 x4 x5 x6 x7 x8 x9 => by
      rw [f7 a j (by omega) x9, g4 a j (by omega) x6 x7 x8, f5 a j x1 x2 x3 x4]
    have fu : ∀ a j, upr a j → m7 a j = m a j := fun a j u => by
      have u' := u
      unfold upr at u'
      exact ff a j (by omega) (by omega) (by omega) (by omega) (by omega) (fun y => y.2.2 u) (by omega) (by omega) (by omega)
    have q12 : hl m7 12 = h0 := by rw [hl_cg (ff 0 12 (by decide) (by omega) (by decide) (by decide) (by decide) (by omega) (by decide) (by decide) (by decide)), ← hh0]
    have q13 : hl m7 13 = h := by rw [hl_cg (ff 0 13 (by decide) (by omega) (by decide) (by decide) (by decide) (by omega) (by decide) (by decide) (by decide)), ← hh]
    refine ⟨_, _, _, _, eC, eR, rfl, ⟨G, ⟨w, wD, ?_, ?_, ?_, RH_up wD r fu, NM_up nm fu⟩, SN_cg S (fun j => ?_) (fun j => ?_), PS_cg P (fun a j z => ?_), TP_0 ?_ ?_, ⟨?_, ?_⟩, RF_inc (k := 1) F (fun i => ?_) (fun i => ?_) (by decide) (by decide), HE_cg E (fun a j z => ?_), JU_cg J (fun a j z => ?_), SL_cg L (fun a j z => ?_), IM_cg M (fun a j z => ?_), SE_cg Z (fun a j z => ?_)⟩⟩
    · rw [q12, q13, hh0, hh]; exact hne
    · rw [q12]
      exact CH_cg c (fun a k z => ldq (by
        have z' : h0 ≤ a ∧ a ≤ h0 + 13 := by rcases z with rfl | ⟨z1, z2⟩ | ⟨rfl, z⟩ <;> omega
        exact ff a k (by omega) (by omega) (by omega) (by omega) (by omega) (by omega) (by omega) (by omega) (by omega)))
    · rw [q12]
      exact CM_cg cm (fun k => ff _ k (by omega) (by omega) (by omega) (by omega) (by omega) (by omega) (by omega) (by omega) (by omega))
    · exact ff _ j (by omega) (by omega) (by omega) (by omega) (by omega) (by omega) (by omega) (by omega) (by omega)
    · exact ff _ j (by omega) (by omega) (by omega) (by omega) (by omega) (by omega) (by omega) (by omega) (by omega)
    · unfold fPS at z; exact ff a j (by omega) (by omega) (by omega) (by omega) (by omega) (by omega) (by omega) (by omega) (by omega)
    · rw [ldq (f7 1 1 (by decide) (by decide)), ldq (g4 1 1 (by decide) (by omega) (by decide) (by decide)), hm5, ld_st_nc (by decide), ld_st_eq]; rfl
    · rw [ldq (f7 78 1 (by decide) (by decide)), g3]
    · rw [ldq (f7 3 4 (by decide) (by decide)), ldq (g4 3 4 (by decide) (by omega) (by decide) (by decide)), hm5, ld_st_nc (by decide), ld_st_nc (by decide), d2.2.1, hm7, ld_st_nc (by decide), ld_st_ne (by decide), ld_st_eq, ← d2.2.1, w32_ld]
    · rw [ldq (f7 3 5 (by decide) (by decide)), ldq (g4 3 5 (by decide) (by omega) (by decide) (by decide)), hm5, ld_st_nc (by decide), ld_st_nc (by decide), d2.2.2.1, hm7, ld_st_nc (by decide), ld_st_eq, ← d2.2.2.1, w32_ld]
    · rw [ldq (f7 47 i (by omega) (by omega)), ldq (g4 47 i (by omega) (by omega) (by decide) (by decide)), hm5, ld_inc, ld_st_nc (by decide), ldq (f3 47 i (by decide) (by omega)), ldq (f3 47 1 (by decide) (by omega))]
    · rw [hm7, ld_inc, ld_st_nc (by decide), ld_st_nc (by decide), ldq (g4 80 i (by omega) (by omega) (by decide) (by decide)), ldq (g4 80 1 (by omega) (by omega) (by decide) (by decide)), ldq (f5 80 i (by decide) (by omega) (by omega) (by omega)), ldq (f5 80 1 (by decide) (by omega) (by omega) (by omega))]
    · unfold fHE at z; exact ff a j (by omega) (by omega) (by omega) (by omega) (by omega) (by omega) (by omega) (by omega) (by omega)
    · unfold fJU at z; exact ff a j (by omega) (by omega) (by omega) (by omega) (by omega) (by omega) (by omega) (by omega) (by omega)
    · unfold fSL at z; exact ff a j (by omega) (by omega) (by omega) (by omega) (by omega) (by omega) (by omega) (by omega) (by omega)
    · unfold fIM at z; exact ff a j (by omega) (by omega) (by omega) (by omega) (by omega) (by omega) (by omega) (by omega) (by omega)
    · unfold fSE at z; exact ff a j (by omega) (by omega) (by omega) (by omega) (by omega) (by omega) (by omega) (by omega) (by omega)
  | inr x =>
    obtain ⟨G', z', c'⟩ := x
    obtain ⟨m3, d1, d2, d3, d4, d5, d6, d7⟩ := hI.1 G' z' c' es
    have f3 := fI d7
    have e11 : ld m3 1 1 = ld m 1 1 := ldq (f3 1 1 (by decide) (by omega))
    have wf := d6.1
    obtain ⟨m4, hm4⟩ : ∃ m4, m4 = st m3 1 1 0 := ⟨_, rfl⟩
    obtain ⟨m6, hm6⟩ : ∃ m6, m6 = st (st m4 0 13 (h0 : Int)) 0 12 (h : Int) := ⟨_, rfl⟩
    obtain ⟨m9, hm9⟩ : ∃ m9, m9 = st (st (st (st (st (st (st m6 22 0 (fs G')) 22 1 0) 22 2 0) 21 3 0) 18 2 0) 0 14 0) 0 15 0 := ⟨_, rfl⟩
    have q4 : hl m4 12 = h0 := by rw [hm4, hl_cg (st_at (by decide)), hl_cg (f3 0 12 (by decide) (by omega)), ← hh0]
    have q4' : hl m4 13 = h := by rw [hm4, hl_cg (st_at (by decide)), hl_cg (f3 0 13 (by decide) (by omega)), ← hh]
    have q6 : hl m6 12 = h := by
      rw [hm6]
      unfold hl st
      rw [if_pos ⟨rfl, rfl⟩, hlr_H p]
    have l6 : ld m6 h 13 = fs G' := by rw [hm6, ld_st_nc (by omega), ld_st_nc (by omega), hm4, ld_st_nc (by omega)]; exact ch_fs d5.1
    have eC : cL_hall m = some (c', m9) := by
      unfold cL_hall cH_firstState cE_forget
      rw [← hh, eI, d1, bnd_some, cT_cut_ok (by decide) (by omega), bnd_some, w32_id (by omega) (by omega), if_neg (by omega), ← hm4, stf_eq, stf_eq, q4, q4', ← hm6, q6, l6, bnd_some, cY_start_ok, bnd_some, stf_eq, bnd_some, stf_eq, stf_eq, ← hm9]
    have f9 : ∀ a j, a ≠ 3 → ¬ (h ≤ a ∧ a ≤ h + 14) → ¬ (a = 1 ∧ j = 1) → ¬ (a = 0 ∧ 12 ≤ j ∧ j ≤ 15) → ¬ (a = 22 ∧ 0 ≤ j ∧ j ≤ 2) → ¬ (a = 21 ∧ j = 3) → ¬ (a = 18 ∧ j = 2) → m9 a j = m a j := fun a j g1 g2 g3 g4 g5 g6 g7 => by
      rw [hm9, st_at (by omega), st_at (by omega), st_at (by omega), st_at (by omega), st_at (by omega), st_at (by omega), st_at (by omega), hm6, st_at (by omega), st_at (by omega), hm4, st_at g3, f3 a j g1 g2]
    have f93 : ∀ a j, a = 3 ∨ h ≤ a ∧ a ≤ h + 14 → m9 a j = m3 a j := fun a j x => by
      rw [hm9, st_at (by omega), st_at (by omega), st_at (by omega), st_at (by omega), st_at (by omega), st_at (by omega), st_at (by omega), hm6, st_at (by omega), st_at (by omega), hm4, st_at (by omega)]
    obtain ⟨e1, e2⟩ := refe (m3 := m9) (fun a j z => f9 a j (by omega) (by omega) (by omega) (by omega) (by omega) (by omega) (by omega))
    obtain ⟨m10, g1, g2, g3, g4, g5, g6, g7⟩ := (r_hall_S e1 t2 t3 e2).1 G' z' c' es
    obtain ⟨m11, hm11⟩ : ∃ m11, m11 = st (st m10 78 7 0) 78 8 (-1) := ⟨_, rfl⟩
    obtain ⟨m12, k1, k2, k3, k4, k5, k6, k7, k8, k9, k10, k11⟩ := r_stands_S (m := m11) d6 (RHp_cg g6 (fun a j x => by rw [hm11, st_at (by omega), st_at (by omega)]))
    have f11 : ∀ a j, ¬ (a = 78 ∧ (j = 7 ∨ j = 8)) → m11 a j = m10 a j := fun a j x => by rw [hm11, st_at (by omega), st_at (by omega)]
    have eR : r_hall m9 = some (c', m12) := by
      rw [g1]
      unfold r_hall_92
      rw [stf_eq, stf_eq, g2, ld_st_ne (by decide), ld_st_ne (by decide), ld_st_ne (by decide), g2, g3, if_pos rfl, ← hm11, k1, bnd_some, ldq (k11 78 41 (by omega) (by omega)), ldq (f11 78 41 (by omega)), g4]
    have f12 : ∀ a j, ¬ (101 ≤ a ∧ a ≤ 110) → ¬ (a = 78 ∧ (1 ≤ j ∧ j ≤ 8 ∨ j = 30 ∨ 40 ≤ j ∧ j ≤ 42 ∨ j = 84 ∨ j = 86 ∨ j = 87 ∨ j = 88 ∨ j = 61 ∨ j = 58 ∨ j = 47 ∨ j = 56 ∨ j = 57)) → a ≠ 138 → a ≠ 139 → m12 a j = m9 a j := fun a j x1 x2 x3 x4 => by
      rw [k11 a j x1 (by omega), f11 a j (by omega), g7 a j (by omega) (by omega) x3 x4]
    have ff : ∀ a j, a ≠ 3 → ¬ (h ≤ a ∧ a ≤ h + 14) → ¬ (a = 1 ∧ j = 1) → ¬ (a = 0 ∧ 12 ≤ j ∧ j ≤ 15) → ¬ (a = 22 ∧ 0 ≤ j ∧ j ≤ 2) → ¬ (a = 21 ∧ j = 3) → ¬ (a = 18 ∧ j = 2) → ¬ (101 ≤ a ∧ a ≤ 110) → ¬ (a = 78 ∧ (1 ≤ j ∧ j ≤ 8 ∨ j = 30 ∨ 40 ≤ j ∧ j ≤ 42 ∨ j = 84 ∨ j = 86 ∨ j = 87 ∨ j = 88 ∨ j = 61 ∨ j = 58 ∨ j = 47 ∨ j = 56 ∨ j = 57)) → a ≠ 138 → a ≠ 139 → m12 a j = m a j := fun a j x1 x2 x3 x4 x5 x6 x7 x8 x9 x10 x11 => by rw [f12 a j x8 x9 x10 x11, f9 a j x1 x2 x3 x4 x5 x6 x7]
    have c9 : ∀ a j, a < 78 → m12 a j = m9 a j := fun a j x => f12 a j (by omega) (by omega) (by omega) (by omega)
    have q12 : hl m12 12 = h := by
      rw [hl_cg (c9 0 12 (by decide)), hm9]
      repeat rw [hl_cg (st_at (by decide))]
      exact q6
    have q13 : hl m12 13 = h0 := by
      rw [hl_cg (c9 0 13 (by decide)), hm9]
      repeat rw [hl_cg (st_at (by decide))]
      rw [hm6, hl_cg (st_at (by decide))]
      unfold hl st
      rw [if_pos ⟨rfl, rfl⟩, hlr_H p0]
    have v0 : ld m12 22 0 = fs G' := by
      rw [ldq (c9 22 0 (by decide)), hm9, ld_st_nc (by decide), ld_st_nc (by decide), ld_st_nc (by decide), ld_st_nc (by decide), ld_st_ne (by decide), ld_st_ne (by decide), ld_st_eq, ← l6, w32_ld]
    have v1 : ld m12 22 1 = 0 := by
      rw [ldq (c9 22 1 (by decide)), hm9, ld_st_nc (by decide), ld_st_nc (by decide), ld_st_nc (by decide), ld_st_nc (by decide), ld_st_ne (by decide), ld_st_eq]; rfl
    have v2 : ld m12 22 2 = 0 := by
      rw [ldq (c9 22 2 (by decide)), hm9, ld_st_nc (by decide), ld_st_nc (by decide), ld_st_nc (by decide), ld_st_nc (by decide), ld_st_eq]; rfl
    have v3 : ld m12 21 3 = 0 := by
      rw [ldq (c9 21 3 (by decide)), hm9, ld_st_nc (by decide), ld_st_nc (by decide), ld_st_nc (by decide), ld_st_eq]; rfl
    have v4 : ld m12 18 2 = 0 := by
      rw [ldq (c9 18 2 (by decide)), hm9, ld_st_nc (by decide), ld_st_nc (by decide), ld_st_eq]; rfl
    have v5 : ld m12 0 14 = 0 := by
      rw [ldq (c9 0 14 (by decide)), hm9, ld_st_ne (by decide), ld_st_eq]; rfl
    have v6 : ld m12 0 15 = 0 := by
      rw [ldq (c9 0 15 (by decide)), hm9, ld_st_eq]; rfl
    have P2 := P.2.2.2.1
    have P3 := P.2.2.2.2.1
    have w1 : ld m12 21 2 = ld m 21 2 := ldq (ff 21 2 (by decide) (by omega) (by decide) (by decide) (by decide) (by decide) (by decide) (by decide) (by decide) (by decide) (by decide))
    have w2 : ld m12 78 62 = ld m 78 62 := ldq (ff 78 62 (by decide) (by omega) (by decide) (by decide) (by decide) (by decide) (by decide) (by decide) (by decide) (by decide) (by decide))
    refine ⟨_, _, _, _, eC, eR, rfl, ⟨G', ⟨wf, d6.2.1, ?_, ?_, ?_, k2, k3⟩, ⟨?_, fun l x1 x2 => ?_, ?_, ⟨?_, ?_, ?_⟩, ⟨?_, ?_, ?_⟩, fun i x1 x2 => ?_⟩, ⟨?_, ?_, ?_, ?_, ?_, fun j x1 x2 => ?_⟩, TP_0 ?_ ?_, ⟨?_, ?_⟩, RF_cg F (fun a j z => ?_), ⟨?_, ?_, ?_, fun k x1 x2 => ?_⟩, ⟨?_, fun x => ?_⟩, ⟨fun x => ⟨?_, ?_⟩, fun x => ?_⟩, IM_cg M (fun a j z => ?_), SE_cg Z (fun a j z => ?_)⟩⟩
    · rw [q12, q13, hh0, hh]; exact fun y => hne y.symm
    · rw [q12]
      exact CH_cg d5.1 (fun a k z => by
        have z' : h ≤ a ∧ a ≤ h + 13 := by rcases z with rfl | ⟨z1, z2⟩ | ⟨rfl, z⟩ <;> omega
        rw [ldq (c9 a k (by omega)), ldq (f93 a k (by omega))])
    · rw [q12]
      refine CM_0 wf.1 (fun i x1 x2 => ?_)
      rw [ldq (c9 (h + 14) i (by omega)), ldq (f93 (h + 14) i (by omega)), ldq (d7 (h + 14) i (by omega) (by omega)), ldq (b3 (h + 14) i (by omega)), a3 i x1 x2]
    · rw [v0]; exact vs_fs wf
    · have l4 := wf.1.2.1
      rw [v0, show (0 : Int) + 1 + l = 1 + l by omega, k4 l x1 x2, wd_fs wf x1 (by omega), if_pos x2]
    · rw [v0, show (0 : Int) + 5 = 5 by rfl, k5 5 (by decide) (by decide) (by decide), jm_fs wf]
    · rw [v1, k5 0 (by decide) (by decide) (by decide)]
    · rw [v1]; decide
    · rw [v1]; decide
    · rw [v2, show (0 : Int) + 6 = 6 by rfl, k5 6 (by decide) (by decide) (by decide)]
    · rw [v2]; decide
    · rw [v2]; decide
    · rw [v2] at x2; omega
    · rw [v3, k6]
    · rw [v3]; decide
    · rw [v3]; decide
    · rw [w1]; exact P2
    · rw [w2]; exact P3
    · rw [v3] at x2; omega
    · rw [ldq (c9 1 1 (by decide)), hm9, ld_st_nc (by decide), ld_st_nc (by decide), ld_st_nc (by decide), ld_st_nc (by decide), ld_st_nc (by decide), ld_st_nc (by decide), ld_st_nc (by decide), hm6, ld_st_nc (by decide), ld_st_nc (by decide), hm4, ld_st_eq]; rfl
    · rw [ldq (k11 78 1 (by omega) (by omega)), ldq (f11 78 1 (by omega)), g5]
    · rw [ldq (c9 3 4 (by decide)), ldq (f93 3 4 (by omega)), d3, ldq (k11 78 7 (by omega) (by omega)), hm11, ld_st_ne (by decide), ld_st_eq]; rfl
    · rw [ldq (c9 3 5 (by decide)), ldq (f93 3 5 (by omega)), d4, ldq (k11 78 8 (by omega) (by omega)), hm11, ld_st_eq]; rfl
    · unfold fRF at z; exact ff a j (by omega) (by omega) (by omega) (by omega) (by omega) (by omega) (by omega) (by omega) (by omega) (by omega) (by omega)
    · rw [v4, k7]
    · rw [v4]; decide
    · rw [v4]; decide
    · rw [v4] at x2; omega
    · rw [v5, k8]
    · exact absurd v5 x
    · exact k9
    · exact k10
    · exact absurd v6 x
    · unfold fIM at z; exact ff a j (by omega) (by omega) (by omega) (by omega) (by omega) (by omega) (by omega) (by omega) (by omega) (by omega) (by omega)
    · unfold fSE at z; exact ff a j (by omega) (by omega) (by omega) (by omega) (by omega) (by omega) (by omega) (by omega) (by omega) (by omega) (by omega)
