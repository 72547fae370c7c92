/-! ask -/
theorem IG_TF {m m' : xm} {G : hv} (H : IG m G) (e : ∀ a k, ¬ (scr a k ∨ fTP a k ∨ fFA a k ∨ a = 3) → m' a k = m a k) (T : TP m') (A : FA m') : IG m' G := by
  obtain ⟨h1, h2, h3, h4, h5, h6, h7, h8, h9, h10, h11⟩ := H
  refine ⟨HI_cg h1 (fun a k z => e a k ?_), SN_cg h2 (fun k => e 22 k ?_) (fun k => e 110 k ?_), PS_cg h3 (fun a k z => e a k ?_), T, A, RF_cg h6 (fun a k z => e a k ?_), HE_cg h7 (fun a k z => e a k ?_), JU_cg h8 (fun a k z => e a k ?_), SL_cg h9 (fun a k z => e a k ?_), IM_cg h10 (fun a k z => e a k ?_), SE_cg h11 (fun a k z => e a k ?_)⟩
  · unfold fHI at z; unfold scr fTP fFA; omega
  · unfold scr fTP fFA; omega
  · unfold scr fTP fFA; omega
  · unfold fPS at z; unfold scr fTP fFA; omega
  · unfold fRF at z; unfold scr fTP fFA; omega
  · unfold fHE at z; unfold scr fTP fFA; omega
  · unfold fJU at z; unfold scr fTP fFA; omega
  · unfold fSL at z; unfold scr fTP fFA; omega
  · unfold fIM at z; unfold scr fTP fFA; omega
  · unfold fSE at z; unfold scr fTP fFA; omega
theorem TP_CT {m : xm} (T : TP m) : CT m (fun i => ld m 2 i) (ld m 1 1) := ⟨rfl, T.2.1, T.2.2.1, fun i z1 z2 => ⟨rfl, (T.2.2.2 i z1 z2).2⟩⟩
theorem TP_0 {m : xm} (h1 : ld m 1 1 = 0) (h2 : ld m 78 1 = 0) : TP m := ⟨by rw [h1, h2], by rw [h1]; decide, by rw [h1]; decide, fun i z1 z2 => by rw [h1] at z2; omega⟩
theorem ok_ask : okL cL_ask r_ask := by
  intro m hi
  obtain ⟨G, H⟩ := hi
  have H0 : IG m G := H
  obtain ⟨⟨w, wD, hne, c, cm, r, nm⟩, S, -, T, -⟩ := H
  have hT := TP_CT T
  obtain ⟨t1, t2, t3, t4⟩ := T
  have p := hl_or m 12
  have pr := isH_rng p
  have hR := cQ_read_S hT
  have TB0 := CT_TB hT
  have refe : ∀ {m3 : xm}, (∀ a k, a = 78 ∨ a = 79 → m3 a k = m a k) → ld m3 78 1 = ld m 1 1 ∧ ∀ i, 0 ≤ i → i < ld m 1 1 → ld m3 79 i = ld m 2 i ∧ 0 ≤ ld m 2 i ∧ ld m 2 i ≤ 255 := by
    intro m3 e
    refine ⟨by rw [ldq (e 78 1 (Or.inl rfl)), t1], fun i z1 z2 => ?_⟩
    have := t4 i z1 z2
    rw [ldq (e 79 i (Or.inr rfl))]
    exact ⟨this.1.symm, this.2⟩
  cases es : sAsk (fun i => ld m 2 i) (ld m 1 1) with
  | inl x =>
    obtain ⟨k, q⟩ := x
    obtain ⟨m1, a1, a2, a3, a4⟩ := hR.2 k q es
    have e11 : ld m1 1 1 = ld m 1 1 := ldq (a4 1 1 (by decide) (by decide) (by decide) (by decide))
    obtain ⟨m2, hm2⟩ : ∃ m2, m2 = st m1 1 1 0 := ⟨_, rfl⟩
    have eC : cL_ask m = some (-1000000000000000, m2) := by
      unfold cL_ask
      rw [a1, bnd_some, cT_cut_ok (by decide) (by omega), bnd_some, if_pos (by rfl), hm2]
    have f2 : ∀ a j, a ≠ 3 → ¬ (a = 6 ∧ j = 3) → ¬ (a = 7 ∧ j = 2) → a ≠ 8 → ¬ (a = 1 ∧ j = 1) → m2 a j = m a j := fun a j g1 g2 g3 g4 g5 => by rw [hm2, st_at g5, a4 a j g1 g2 g3 g4]
    obtain ⟨e1, e2⟩ := refe (m3 := m2) (fun a j z => f2 a j (by omega) (by omega) (by omega) (by omega) (by omega))
    obtain ⟨r0, m3, b1, b2, b3, b4, b5, b6⟩ := (r_ask_S e1 t2 t3 e2).2 k q es
    have eR : r_ask m2 = some (-1000000000000000, st (st m3 78 7 k) 78 8 q) := by
      rw [b1]
      unfold r_ask_117
      rw [stf_eq, stf_eq, b2, ld_st_ne (by decide), ld_st_ne (by decide), ld_st_ne (by decide), b2, b4, if_neg b3]
    refine ⟨_, _, _, _, eC, eR, rfl, ⟨G, IG_TF H0 (fun a j z => ?_) (TP_0 ?_ ?_) ⟨?_, ?_⟩⟩⟩
    · unfold scr fTP fFA at z
      rw [st_at (by omega), st_at (by omega), b6 a j (by omega) (by omega) (by omega), f2 a j (by omega) (by omega) (by omega) (by omega) (by omega)]
    · rw [ld_st_nc (by decide), ld_st_nc (by decide), ldq (b6 1 1 (by decide) (by decide) (by decide)), hm2, ld_st_eq]; rfl
    · rw [ld_st_ne (by decide), ld_st_ne (by decide), b5]
    · rw [ld_st_nc (by decide), ld_st_nc (by decide), ld_st_ne (by decide), ld_st_eq, ldq (b6 3 4 (by decide) (by decide) (by decide)), hm2, ld_st_nc (by decide), a2, ← a2, w32_ld]
    · rw [ld_st_nc (by decide), ld_st_nc (by decide), ld_st_eq, ldq (b6 3 5 (by decide) (by decide) (by decide)), hm2, ld_st_nc (by decide), a3, ← a3, w32_ld]
  | inr x =>
    obtain ⟨k, C⟩ := x
    obtain ⟨k0, k5, hC, ht⟩ := sAsk_ty TB0 es
    obtain ⟨m1, a1, a2, a3, a4, a5, a6⟩ := hR.1 k C es
    have e11 : ld m1 1 1 = ld m 1 1 := ldq (a6 1 1 (by decide) (by decide) (by decide) (by decide))
    obtain ⟨m2, hm2⟩ : ∃ m2, m2 = st m1 1 1 0 := ⟨_, rfl⟩
    have f2 : ∀ a j, a ≠ 3 → ¬ (a = 6 ∧ j = 3) → ¬ (a = 7 ∧ j = 2) → a ≠ 8 → ¬ (a = 1 ∧ j = 1) → m2 a j = m a j := fun a j g1 g2 g3 g4 g5 => by rw [hm2, st_at g5, a6 a j g1 g2 g3 g4]
    have hh : hl m2 12 = hl m 12 := hl_cg (f2 0 12 (by decide) (by decide) (by decide) (by decide) (by decide))
    have e22 : ld m2 22 0 = ld m 22 0 := ldq (f2 22 0 (by decide) (by decide) (by decide) (by decide) (by decide))
    have c2 : CH m2 (hl m 12) G := CH_cg c (fun a j z => ldq (f2 a j (by rcases z with rfl | ⟨z1, z2⟩ | ⟨rfl, z⟩ <;> omega) (by rcases z with rfl | ⟨z1, z2⟩ | ⟨rfl, z⟩ <;> omega) (by rcases z with rfl | ⟨z1, z2⟩ | ⟨rfl, z⟩ <;> omega) (by rcases z with rfl | ⟨z1, z2⟩ | ⟨rfl, z⟩ <;> omega) (by rcases z with rfl | ⟨z1, z2⟩ | ⟨rfl, z⟩ <;> omega)))
    have D2 : CD m2 7 C := CD_cg a3 (by rw [hm2, st_at (by decide)]) (fun j => by rw [hm2, st_at (by omega)])
    obtain ⟨m3, b1, b2⟩ := cQ_answer_ok p w S.1 ht k0 k5 c2 D2 (by rw [hm2, ld_st_nc (by decide), a2])
    have eC : cL_ask m = some (anl G (ld m 22 0) C k (nL G).toNat, m3) := by
      unfold cL_ask
      rw [a1, bnd_some, cT_cut_ok (by decide) (by omega), bnd_some, if_neg (by decide), ← hm2, cY_state_ok, bnd_some, hh, e22, b1, bnd_some]
    have f3 : ∀ a j, a ≠ 3 → ¬ (a = 6 ∧ j = 3) → ¬ (a = 7 ∧ (j = 2 ∨ j = 3)) → a ≠ 8 → a ≠ 9 → ¬ (a = 1 ∧ j = 1) → m3 a j = m a j := fun a j g1 g2 g3 g4 g5 g6 => by rw [b2 a j (by omega) (by omega), f2 a j g1 g2 (by omega) g4 g6]
    obtain ⟨e1, e2⟩ := refe (m3 := m3) (fun a j z => f3 a j (by omega) (by omega) (by omega) (by omega) (by omega) (by omega))
    obtain ⟨m4, d1, d2, d3, d4, d5, d6, d7⟩ := (r_ask_S e1 t2 t3 e2).1 k C es
    obtain ⟨m5, hm5⟩ : ∃ m5, m5 = st (st (st (st m4 78 7 0) 78 8 (-1)) 78 91 (if k < 2 then -1 else 0)) 78 92 1 := ⟨_, rfl⟩
    have f5 : ∀ a j, ¬ (a = 78 ∧ (j = 7 ∨ j = 8 ∨ j = 91 ∨ j = 92)) → m5 a j = m4 a j := fun a j g => by rw [hm5, st_at (by omega), st_at (by omega), st_at (by omega), st_at (by omega)]
    have f5m : ∀ a j, a ≠ 3 → ¬ (a = 6 ∧ j = 3) → ¬ (a = 7 ∧ (j = 2 ∨ j = 3)) → a ≠ 8 → a ≠ 9 → ¬ (a = 1 ∧ j = 1) → ¬ (a = 78 ∧ (1 ≤ j ∧ j ≤ 8 ∨ j = 42 ∨ j = 84 ∨ j = 86 ∨ j = 87 ∨ j = 88 ∨ j = 91 ∨ j = 92)) → a ≠ 138 → a ≠ 139 → m5 a j = m a j := fun a j g1 g2 g3 g4 g5 g6 g7 g8 g9 => by rw [f5 a j (by omega), d7 a j (by omega) g8 g9, f3 a j g1 g2 g3 g4 g5 g6]
    obtain ⟨m6, y1, y2⟩ := ask_loop (k := k) (m := m5) w S.1 ht rfl hC k0 k5 (nL G).toNat 0 xLF (RH_cg r (fun a j g1 g2 _ => ldq (f5m a j (by omega) (by omega) (by omega) (by omega) (by omega) (by omega) (by omega) (by omega) (by omega)))) (NR_cg (SN_NR S) (fun j => ldq (f5m 110 j (by omega) (by omega) (by omega) (by omega) (by omega) (by omega) (by omega) (by omega) (by omega)))) (by rw [ldq (f5 78 84 (by omega)), d5]) (cdl_cg d6 (fun j _ => f5 138 j (by omega))) (by
        rw [hm5, ldl_st_ne (by decide), ldl_st_eq]
        unfold anl
        split <;> rfl) (by rw [hm5, ld_st_eq]; rfl) (by have := w.1.1; omega) (by have := w.1.2.1; rw [xLF_eq]; omega)
    rw [Nat.zero_add] at y1
    have eR : r_ask m3 = some (anl G (ld m 22 0) C k (nL G).toNat, m6) := by
      rw [d1]
      unfold r_ask_117 r_ask_157
      rw [stf_eq, stf_eq, d2, ld_st_ne (by decide), ld_st_ne (by decide), ld_st_ne (by decide), d2, d3, if_pos rfl, stf_eq, stf_eq, stf_eq, stf_eq, w32_id (by omega) (by omega)]
      by_cases g : k < 2
      · rw [if_neg (by omega)]
        rw [if_pos g] at hm5
        rw [← hm5]
        exact y1
      · rw [if_pos (by omega)]
        rw [if_neg g] at hm5
        rw [← hm5]
        exact y1
    refine ⟨_, _, _, _, eC, eR, rfl, ⟨G, IG_TF H0 (fun a j z => ?_) (TP_0 ?_ ?_) ⟨?_, ?_⟩⟩⟩
    · unfold scr fTP fFA at z
      rw [y2 a j (by omega) (by omega), f5m a j (by omega) (by omega) (by omega) (by omega) (by omega) (by omega) (by omega) (by omega) (by omega)]
    · rw [ldq (y2 1 1 (by decide) (by decide)), ldq (f5 1 1 (by decide)), ldq (d7 1 1 (by decide) (by decide) (by decide)), ldq (b2 1 1 (by decide) (by decide)), hm2, ld_st_eq]; rfl
    · rw [ldq (y2 78 1 (by decide) (by decide)), ldq (f5 78 1 (by decide)), d4]
    · rw [ldq (y2 3 4 (by decide) (by decide)), ldq (f5 3 4 (by decide)), ldq (d7 3 4 (by decide) (by decide) (by decide)), ldq (b2 3 4 (by decide) (by decide)), hm2, ld_st_nc (by decide), a4, ldq (y2 78 7 (by decide) (by decide)), hm5, ld_st_ne (by decide), ld_st_ne (by decide), ld_st_ne (by decide), ld_st_eq]; rfl
    · rw [ldq (y2 3 5 (by decide) (by decide)), ldq (f5 3 5 (by decide)), ldq (d7 3 5 (by decide) (by decide) (by decide)), ldq (b2 3 5 (by decide) (by decide)), hm2, ld_st_nc (by decide), a5, ldq (y2 78 8 (by decide) (by decide)), hm5, ld_st_ne (by decide), ld_st_ne (by decide), ld_st_eq]; rfl
