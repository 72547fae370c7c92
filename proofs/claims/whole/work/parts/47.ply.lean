/-! undo, play, oil -/
def act (h : Nat) (a : Nat) (k : Int) : Prop := scr a k ∨ a = 22 ∨ a = 110 ∨ fPS a k ∨ fTP a k ∨ fRF a k ∨ fSE a k ∨ (a = h + 1 ∧ k = 3) ∨ a = h + 3 ∨ a = h + 14
theorem IG_act {m m' : xm} {G : hv} {h : Nat} (hh : hl m 12 = h) (H : IG m G) (e : ∀ a k, ¬ act h a k → m' a k = m a k) (M : CM m' h G) (S : SN m' G 22 110 0) (P : PS m' G) (T : TP m') (R : RF m') (E : SE m') : IG m' G := by
  obtain ⟨h1, h2, h3, h4, h5, h6, h7, h8, h9, h10, h11⟩ := H
  have p := hl_or m 12
  rw [hh] at p
  have pr := isH_rng p
  obtain ⟨w1, w2, w3, w4, w5, w6, w7⟩ := h1
  rw [hh] at w4 w5
  have q : ∀ a k, a < 48 ∨ 78 ≤ a → ¬ (scr a k ∨ a = 22 ∨ a = 110 ∨ fPS a k ∨ fTP a k ∨ fRF a k ∨ fSE a k) → m' a k = m a k := fun a k g z => e a k (fun y => by
    rcases y with y | y | y | y | y | y | y | y | y | y
    · exact z (Or.inl y)
    · exact z (Or.inr (Or.inl y))
    · exact z (Or.inr (Or.inr (Or.inl y)))
    · exact z (Or.inr (Or.inr (Or.inr (Or.inl y))))
    · exact z (Or.inr (Or.inr (Or.inr (Or.inr (Or.inl y)))))
    · exact z (Or.inr (Or.inr (Or.inr (Or.inr (Or.inr (Or.inl y))))))
    · exact z (Or.inr (Or.inr (Or.inr (Or.inr (Or.inr (Or.inr y))))))
    · omega
    · omega
    · omega)
  have e12 : hl m' 12 = h := by rw [hl_cg (q 0 12 (by decide) (by unfold scr fPS fTP fRF fSE; omega)), hh]
  have e13 : hl m' 13 = hl m 13 := hl_cg (q 0 13 (by decide) (by unfold scr fPS fTP fRF fSE; omega))
  refine ⟨⟨w1, w2, by rw [e12, e13, ← hh]; exact w3, ?_, by rw [e12]; exact M, RH_cg w6 (fun a k g1 g2 _ => ldq (q a k (by omega) (by unfold scr fPS fTP fRF fSE; omega))), NM_cg w7 (fun k => q 102 k (by decide) (by unfold scr fPS fTP fRF fSE; omega))⟩, S, P, T, FA_cg h5 (fun a k z => q a k ?_ ?_), R, HE_cg h7 (fun a k z => q a k ?_ ?_), JU_cg h8 (fun a k z => q a k ?_ ?_), SL_cg h9 (fun a k z => q a k ?_ ?_), IM_cg h10 (fun a k z => q a k ?_ ?_), E⟩
  · rw [e12]
    exact CH_cg w4 (fun a k z => ldq (e a k (fun y => by
      unfold act scr fPS fTP fRF fSE at y
      rcases z with rfl | ⟨z1, z2⟩ | ⟨rfl, z⟩ <;> omega)))
  · unfold fFA at z; omega
  · unfold fFA at z; unfold scr fPS fTP fRF fSE; omega
  · unfold fHE at z; omega
  · unfold fHE at z; unfold scr fPS fTP fRF fSE; omega
  · unfold fJU at z; omega
  · unfold fJU at z; unfold scr fPS fTP fRF fSE; omega
  · unfold fSL at z; omega
  · unfold fSL at z; unfold scr fPS fTP fRF fSE; omega
  · unfold fIM at z; omega
  · unfold fIM at z; unfold scr fPS fTP fRF fSE; omega
theorem ok_undo : okI cL_undo r_undo := by
  intro m hi
  obtain ⟨G, H⟩ := hi
  have H0 : IG m G := H
  obtain ⟨⟨w, hD, -, c, M, r, -⟩, S0, P0, T, -, R, -, -, -, -, E⟩ := H0
  obtain ⟨S, s1, s2, s3⟩ := SN_to S0
  obtain ⟨n, P, p1, p2, p3⟩ := PS_to P0
  have hL := w.1.2.1
  have pr := isH_rng (hl_or m 12)
  by_cases hn : n = 0
  · refine ok_ref H (k := 4) (r := 0) (r' := 0) (by decide) (by decide) ?_ (fun x => ?_) rfl
    · unfold cL_undo cY_undoAct
      rw [p2.1, if_pos hn, bnd_some, if_pos (by decide), cL_refuse_ok (by decide) (by decide), bnd_some]
    · unfold r_undo
      rw [ld_st_nc (by decide), p3.1, if_pos hn, ial_in (by decide) (by rw [al80]; decide), ias_in (by decide) (by rw [al80]; decide), ld_st_nc (by decide)]
  · have hok := p1.2.2 (n - 1) (by have := p1.1; omega) (by omega)
    obtain ⟨m1, e1, e2, e3, e4⟩ := cY_undoAct_ok (m := m) (by have := p1.1; omega) p1.2.1 hok.2.2.1 p2
    have p3' : PR m1 G n P := by
      obtain ⟨z1, z2, z3⟩ := p3
      refine ⟨by rw [ldq (e2 78 61 (by decide) (by decide))]; exact z1, by rw [ldq (e2 78 62 (by decide) (by decide))]; exact z2, fun j g1 g2 => ?_⟩
      rw [ldq (e2 78 62 (by decide) (by decide))]
      exact SR_cg (z3 j g1 g2) (fun k _ _ => ldq (e2 118 k (by decide) (by omega))) (p1.2.2 j g1 g2).2.2.1 hL
    obtain ⟨m2, g1, g2, g3, g4⟩ := r_undo_ok hL p1 (by have := p1.1; omega) p3'
    have em : ∀ a k, a ≠ 22 → a ≠ 110 → ¬ fPS a k → m2 a k = m a k := fun a k z1 z2 z3 => by
      unfold fPS at z3
      rw [g2 a k z2 (by omega), e2 a k z1 (by omega)]
    have c22 : ∀ a k, a < 78 → m2 a k = m1 a k := fun a k z => g2 a k (by omega) (by omega)
    refine ⟨1, m1, 1, m2, ?_, g1, rfl, ⟨G, IG_act rfl H (fun a k z => em a k (fun y => z (by unfold act; omega)) (fun y => z (by unfold act; omega)) (fun y => z (Or.inr (Or.inr (Or.inr (Or.inl y)))))) ?_ ?_ ?_ ?_ ?_ ?_⟩⟩
    · unfold cL_undo
      rw [e1, bnd_some, if_neg (by decide)]
    · exact CM_cg M (fun k => em _ k (by omega) (by omega) (by unfold fPS; omega))
    · exact SN_of hok (SC_cg e3 (fun k => c22 22 k (by decide))) g3
    · refine PS_of (n := n - 1) (P := P) ⟨by have := p1.1; omega, by have := p1.2.1; omega, fun j z1 z2 => p1.2.2 j z1 (by omega)⟩ ⟨by rw [ldq (c22 21 3 (by decide))]; exact e4.1, by rw [ldq (c22 21 2 (by decide))]; exact e4.2.1, fun j z1 z2 => ?_⟩ g4
      rw [ldq (c22 21 2 (by decide))]
      exact SC_cg (e4.2.2 j z1 z2) (fun k => c22 _ k (by omega))
    · exact TP_cg T (fun a k z => em a k (by unfold fTP at z; omega) (by unfold fTP at z; omega) (by unfold fTP at z; unfold fPS; omega))
    · exact RF_cg R (fun a k z => em a k (by unfold fRF at z; omega) (by unfold fRF at z; omega) (by unfold fRF at z; unfold fPS; omega))
    · exact SE_cg E (fun a k z => em a k (by unfold fSE at z; omega) (by unfold fSE at z; omega) (by unfold fSE at z; unfold fPS; omega))
theorem PR_cg {m m' : xm} {G : hv} {n : Int} {P : Int → sn} (hL : nL G ≤ 4) (h : okP G n P) (q : PR m G n P) (e : ∀ k, m' 118 k = m 118 k) (e1 : m' 78 61 = m 78 61) (e2 : m' 78 62 = m 78 62) : PR m' G n P := by
  obtain ⟨z1, z2, z3⟩ := q
  refine ⟨by rw [ldq e1]; exact z1, by rw [ldq e2]; exact z2, fun j g1 g2 => ?_⟩
  rw [ldq e2]
  exact SR_cg (z3 j g1 g2) (fun k _ _ => ldq (e k)) (h.2.2 j g1 g2).2.2.1 hL
theorem PC_cg {m m' : xm} {n : Int} {P : Int → sn} (q : PC m n P) (e : ∀ a k, (a = 21 ∧ (k = 2 ∨ k = 3)) ∨ (24 ≤ a ∧ a ≤ 43) → m' a k = m a k) : PC m' n P := by
  obtain ⟨z1, z2, z3⟩ := q
  have e2 := ldq (e 21 2 (Or.inl ⟨rfl, Or.inl rfl⟩))
  refine ⟨by rw [ldq (e 21 3 (Or.inl ⟨rfl, Or.inr rfl⟩))]; exact z1, by rw [e2]; exact z2, fun j g1 g2 => ?_⟩
  rw [e2]
  exact SC_cg (z3 j g1 g2) (fun k => e _ k (Or.inr (by omega)))
theorem SR_all {m m' : xm} {G : hv} {b : Nat} {o : Int} {S : sn} (h : SR m G b o S) (e : ∀ k, m' b k = m b k) : SR m' G b o S := by
  have e2 : ∀ k, ld m' b k = ld m b k := fun k => ldq (e k)
  unfold SR
  simp only [e2]
  exact h
/-- behind an act of the program and of the reference: what they share -/
theorem IG_acted {m m1 m2 : xm} {G : hv} {h : Nat} {S : sn} {n : Int} {P : Int → sn} (hh : hl m 12 = h) (H : IG m G)
    (f1 : ∀ a k, a ≠ 22 → ¬ fPS a k → ¬ fTP a k → ¬ fRF a k → ¬ fSE a k → ¬ scr a k → ¬ (a = h + 1 ∧ k = 3) → a ≠ h + 3 → a ≠ h + 14 → m1 a k = m a k) (f1r : ∀ a, 78 ≤ a → m1 a = m a)
    (f2 : ∀ a k, a ≠ 110 → ¬ fPS a k → ¬ fTP a k → ¬ fRF a k → ¬ fSE a k → ¬ scr a k → m2 a k = m1 a k) (f2c : ∀ a, a < 78 → m2 a = m1 a)
    (M : CM m1 h G) (hS : okS G S) (c1 : SC m1 22 S) (c2 : SR m2 G 110 0 S) (hP : okP G n P) (q1 : PC m1 n P) (q2 : PR m2 G n P) (T : TP m2) (R : RF m2) (E : SE m2) : IG m2 G := by
  have p := hl_or m 12
  rw [hh] at p
  have pr := isH_rng p
  refine IG_act hh H (fun a k z => ?_) (CM_cg M (fun k => by rw [f2c _ (by omega)])) (SN_of hS (SC_cg c1 (fun k => by rw [f2c 22 (by decide)])) c2) (PS_of hP (PC_cg q1 (fun a k y => by rw [f2c a (by omega)])) q2) T R E
  have y : ∀ {p : Prop}, (p → act h a k) → ¬ p := fun i q => z (i q)
  rw [f2 a k (y (by unfold act; omega)) (y (by unfold act; intro q; exact Or.inr (Or.inr (Or.inr (Or.inl q))))) (y (by unfold act; intro q; exact Or.inr (Or.inr (Or.inr (Or.inr (Or.inl q)))))) (y (by unfold act; intro q; exact Or.inr (Or.inr (Or.inr (Or.inr (Or.inr (Or.inl q))))))) (y (by unfold act; intro q; exact Or.inr (Or.inr (Or.inr (Or.inr (Or.inr (Or.inr (Or.inl q)))))))) (y (by unfold act; intro q; exact Or.inl q)),
    f1 a k (y (by unfold act; omega)) (y (by unfold act; intro q; exact Or.inr (Or.inr (Or.inr (Or.inl q))))) (y (by unfold act; intro q; exact Or.inr (Or.inr (Or.inr (Or.inr (Or.inl q)))))) (y (by unfold act; intro q; exact Or.inr (Or.inr (Or.inr (Or.inr (Or.inr (Or.inl q))))))) (y (by unfold act; intro q; exact Or.inr (Or.inr (Or.inr (Or.inr (Or.inr (Or.inr (Or.inl q)))))))) (y (by unfold act; intro q; exact Or.inl q)) (y (by unfold act; omega)) (y (by unfold act; omega)) (y (by unfold act; omega))]
theorem ok_play {v : Int} (hv : rg v) : okI (cL_play v) (r_play v) := by
  intro m hi
  obtain ⟨G, H⟩ := hi
  have H0 : IG m G := H
  obtain ⟨⟨w, hD, -, c, M, r, -⟩, S0, P0, T, -, R, -, -, -, -, E⟩ := H0
  obtain ⟨S, s1, s2, s3⟩ := SN_to S0
  obtain ⟨n, P, p1, p2, p3⟩ := PS_to P0
  have hL := w.1.2.1
  have gN := w.2.1
  obtain ⟨h, hh⟩ : ∃ h, hl m 12 = h := ⟨_, rfl⟩
  have p := hl_or m 12
  rw [hh] at p c M
  have pr := isH_rng p
  have hs : ld m 22 0 = S.1 := s2.1
  have vS := s1.1
  by_cases hc : cp G S.1 v
  · have hn : v = 6 ∨ (0 ≤ v ∧ v < nN G) := by
      rcases hc with z | z
      · exact Or.inl z
      · exact Or.inr ⟨z.1, z.2.1⟩
    -- the program
    obtain ⟨mA, a1, a2, a3⟩ := cY_beginAct_ok p1.1 p1.2.1 s1.2.2.1 s2 p2
    have hhA : hl mA 12 = h := by rw [hl_cg (a2 0 12 (by decide) (by decide)), hh]
    have cA : CH mA h G := CH_cg c (fun a k z => ldq (a2 a k (by rcases z with rfl | ⟨z1, z2⟩ | ⟨rfl, z⟩ <;> omega) (by rcases z with rfl | ⟨z1, z2⟩ | ⟨rfl, z⟩ <;> omega)))
    have MA : CM mA h G := CM_cg M (fun k => a2 _ k (by omega) (by omega))
    obtain ⟨mB, b1, b2, b3, b4⟩ := cL_playOne_ok hhA p w hD cA MA s1 (SC_cg s2 (fun k => a2 22 k (by decide) (by omega))) hn
    have okB := okS_pl w (n := v) s1
    have hhB : hl mB 12 = h := by rw [hl_cg (by rw [fC_out p b2 (by decide) (by decide)]), hhA]
    obtain ⟨mC, d1, d2, d3⟩ := cH_openDoors_ok p w hD okB.1 (fC_CH p b2 cA) b3
    have hsB : ld mB 22 0 = (plS G v S).1 := b4.1
    have eC : cL_play v m = some (od G (plS G v S).1, mC) := by
      unfold cL_play
      rw [cY_state_ok, bnd_some, hs, hh, cH_canPlay_in p w c vS hc, bnd_some, if_neg (by decide), a1, bnd_some, b1, bnd_some, cY_state_ok, bnd_some, hsB, hhB, d1, bnd_some]
    have frC : ∀ a k, a ≠ 22 → ¬ fPS a k → ¬ (a = h + 1 ∧ k = 3) → a ≠ h + 3 → a ≠ h + 14 → mC a k = m a k := fun a k z1 z2 z3 z4 z5 => by
      unfold fPS at z2
      rw [d2 a k z3 z4 z5, b2 a k z1 z3 z4 z5, a2 a k (by omega) (by omega)]
    have frR : ∀ a, 78 ≤ a → mC a = m a := fun a z => by
      funext k
      rw [d2 a k (by omega) (by omega) (by omega), b2 a k (by omega) (by omega) (by omega) (by omega), a2 a k (by omega) (by omega)]
    -- the reference
    have rC : RH mC G := RH_cg r (fun a k g1 _ _ => ld_cg (frR a (by omega)) k)
    have sC : SR mC G 110 0 S := SR_all s3 (fun k => by rw [frR 110 (by decide)])
    have qC : PR mC G n P := PR_cg hL p1 p3 (fun k => by rw [frR 118 (by decide)]) (by rw [frR 78 (by decide)]) (by rw [frR 78 (by decide)])
    obtain ⟨mD, e1, e2, e3⟩ := r_keeps_ok hL p1 s1 sC qC
    have rD : RH mD G := RH_cg rC (fun a k _ _ _ => ldq (e2 a k (by omega) (by omega)))
    obtain ⟨mE, g1, g2, g3⟩ := r_isPlayed_ok w hD rD s1 (SR_all sC (fun k => e2 110 k (by decide) (by omega))) hn
    obtain ⟨mF, k1, k2⟩ := r_openNow_ok w hD okB.1 (fR_RH g2 rD) (SR_NR g3)
    have rcp := (r_canPlay_ok w rC vS (SR_NR sC) hn).1 hc
    have eR : r_play v mC = some (od G (plS G v S).1, mF) := by
      have e14 : r_play_14 v mC = some (od G (plS G v S).1, mF) := by
        unfold r_play_14
        rw [rcp, bnd_some, if_neg (by decide), e1, bnd_some, g1, bnd_some, k1, bnd_some]
      unfold r_play
      by_cases h6 : v = 6
      · rw [if_pos (by rw [h6]; decide), e14]
      · rw [w32_rg hv, if_neg h6, r_isNote_ok w rC, bnd_some, w32_rg hv, if_pos (show 0 ≤ v ∧ v < nN G by omega), if_neg (by decide), e14]
    have frF : ∀ a k, a ≠ 110 → ¬ fPS a k → ¬ scr a k → mF a k = mC a k := fun a k z1 z2 z3 => by
      unfold fPS at z2
      unfold scr at z3
      rw [k2 a k (by omega) (by omega), g2 a k z1 (by omega) (by omega), e2 a k (by omega) (by omega)]
    have frFc : ∀ a, a < 78 → mF a = mC a := fun a z => by
      funext k
      rw [k2 a k (by omega) (by omega), g2 a k (by omega) (by omega) (by omega), e2 a k (by omega) (by omega)]
    have q2 : PR mF G (adn n) (adP n P S) := PR_cg hL (okP_ad p1 s1) e3 (fun k => by rw [k2 118 k (by omega) (by omega), g2 118 k (by omega) (by omega) (by omega)]) (by rw [k2 78 61 (by decide) (by decide), g2 78 61 (by decide) (by decide) (by decide)]) (by rw [k2 78 62 (by decide) (by decide), g2 78 62 (by decide) (by decide) (by decide)])
    refine ⟨_, mC, _, mF, eC, eR, rfl, ⟨G, IG_acted hh H (fun a k z1 z2 _ _ _ _ z3 z4 z5 => frC a k z1 z2 z3 z4 z5) frR (fun a k z1 z2 _ _ _ z3 => frF a k z1 z2 z3) frFc d3 okB (SC_fo p d2 b4) (SR_fq k2 g3) (okP_ad p1 s1) (PC_cg a3 (fun a k z => ?_)) q2 ?_ ?_ ?_⟩⟩
    · rw [d2 a k (by omega) (by omega) (by omega), b2 a k (by omega) (by omega) (by omega) (by omega)]
    · refine TP_cg T (fun a k z => ?_)
      unfold fTP at z
      rw [frF a k (by omega) (by unfold fPS; omega) (by unfold scr; omega), frC a k (by omega) (by unfold fPS; omega) (by omega) (by omega) (by omega)]
    · refine RF_cg R (fun a k z => ?_)
      unfold fRF at z
      rw [frF a k (by omega) (by unfold fPS; omega) (by unfold scr; omega), frC a k (by omega) (by unfold fPS; omega) (by omega) (by omega) (by omega)]
    · refine SE_cg E (fun a k z => ?_)
      unfold fSE at z
      rw [frF a k (by omega) (by unfold fPS; omega) (by unfold scr; omega), frC a k (by omega) (by unfold fPS; omega) (by omega) (by omega) (by omega)]
  · refine ok_ref H (k := 2) (r := -1) (r' := -1) (by decide) (by decide) ?_ (fun x => ?_) rfl
    · unfold cL_play
      rw [cY_state_ok, bnd_some, hs, hh, cH_canPlay_out p w c vS (by rw [w32_rg hv]; exact hc), bnd_some, if_pos (by decide), cL_refuse_ok (by decide) (by decide), bnd_some]
    · have rC : RH (st m 47 2 x) G := RH_cg r (fun a k g1 _ _ => ld_st_nc (by omega))
      have sC : SR (st m 47 2 x) G 110 0 S := SR_all s3 (fun k => st_at (by omega))
      have h6 : v ≠ 6 := fun z => hc (Or.inl z)
      unfold r_play
      rw [w32_rg hv, if_neg h6, r_isNote_ok w rC, bnd_some, w32_rg hv]
      unfold r_play_14 r_play_22
      by_cases hq : 0 ≤ v ∧ v < nN G
      · rw [if_pos hq, if_neg (by decide), (r_canPlay_ok w rC vS (SR_NR sC) (Or.inr hq)).2 hc, bnd_some, if_pos (by decide), r_refuses_ok (by decide) (by decide), bnd_some, ld_st_nc (by decide)]
      · rw [if_neg hq, if_pos (by decide), r_refuses_ok (by decide) (by decide), bnd_some, ld_st_nc (by decide)]
theorem ok_oil {v : Int} (hv : rg v) : okI (cL_oil v) (r_oil v) := by
  intro m hi
  obtain ⟨G, H⟩ := hi
  have H0 : IG m G := H
  obtain ⟨⟨w, hD, -, c, M, r, -⟩, S0, P0, T, -, R, -, -, -, -, E⟩ := H0
  obtain ⟨S, s1, s2, s3⟩ := SN_to S0
  obtain ⟨s, pl, L⟩ := S
  obtain ⟨n, P, p1, p2, p3⟩ := PS_to P0
  have hL := w.1.2.1
  obtain ⟨h, hh⟩ : ∃ h, hl m 12 = h := ⟨_, rfl⟩
  have p := hl_or m 12
  rw [hh] at p c M
  have pr := isH_rng p
  have hs : ld m 22 0 = s := s2.1
  have vS : vs G s := s1.1
  have k2 : 0 ≤ pl ∧ pl ≤ 9999 := s1.2.1
  have k3 : L.length ≤ 40 := s1.2.2.1
  have k4 := s1.2.2.2
  dsimp only at k4
  by_cases hc : (0 ≤ v ∧ v < nL G) ∧ bt (jm G s) v = 1
  · obtain ⟨hl1, hb⟩ := hc
    have vt := vs_cj w.1 vS hl1.1 hl1.2
    have rt := vs_s w.1 vt
    have cjk := cj_ok w.1 (s := s) (l := v)
    -- the program
    obtain ⟨mA, a1, a2, a3⟩ := cY_beginAct_ok p1.1 p1.2.1 s1.2.2.1 s2 p2
    have hhA : hl mA 12 = h := by rw [hl_cg (a2 0 12 (by decide) (by decide)), hh]
    have cA : CH mA h G := CH_cg c (fun a k z => ldq (a2 a k (by rcases z with rfl | ⟨z1, z2⟩ | ⟨rfl, z⟩ <;> omega) (by rcases z with rfl | ⟨z1, z2⟩ | ⟨rfl, z⟩ <;> omega)))
    have MA : CM mA h G := CM_cg M (fun k => a2 _ k (by omega) (by omega))
    have c1 := SC_go (SC_cg s2 (fun k => a2 22 k (by decide) (by omega))) (v := cj G s v) ⟨by omega, by omega⟩
    have f1 : f22 mA (st mA 22 0 (cj G s v)) := f22_st
    have hh1 : hl (st mA 22 0 (cj G s v)) 12 = h := by rw [hl_cg (f1 0 12 (by decide)), hhA]
    obtain ⟨mB, b1, b2, b3⟩ := cH_openDoors_ok p w hD vS (fC_CH p (fC_22 f1) cA) (f22_CM p f1 MA)
    have hh2 : hl mB 12 = h := by rw [hl_cg (by rw [fo_out p b2 (by decide)]), hh1]
    have c2 := SC_fo p b2 c1
    obtain ⟨mC, d1, d2, d3⟩ := cH_openDoors_ok p w hD vt (fo_CH b2 (fC_CH p (fC_22 f1) cA)) b3
    have c3 := SC_fo p d2 c2
    have o1 := od_rng w hD s
    have o2 := od_rng w hD (cj G s v)
    obtain ⟨mD, z1, z2, z3⟩ := cY_keepDoors_ok k2.1 k2.2 o1.1 o1.2 o2.1 o2.2 k3 k4 xLF 0 (m := mC) (by decide) (by rw [xLF_eq]; decide) c3
    have z1' : cY_keepDoors (od G s) (od G (cj G s v)) mC = some (0, mD) := z1
    have hsB : ld mB 22 0 = cj G s v := c2.1
    have okB : okS G (cj G s v, pl, kd pl (od G s) (od G (cj G s v)) 6 L) := by
      have := kd_ok k2.1 k2.2 (b := od G s) (a := od G (cj G s v)) 6 (by decide) k3 k4
      exact ⟨vt, k2, this.1, this.2⟩
    have eC : cL_oil v m = some (1, mD) := by
      unfold cL_oil
      rw [cY_state_ok, bnd_some, hs, hh, cH_isOne_k p w c (by decide) (by decide) hv, bnd_some, if_pos (show 0 ≤ v ∧ v < G 0 0 from hl1), if_neg (by decide), hh, cH_isJammed_ok w.1 c vS hl1.1 (by omega), bnd_some, hb, if_neg (by decide), a1, bnd_some, hhA, cH_withoutJam_ok w.1 cA vS hl1.1 (by omega), bnd_some, cY_goTo_ok, bnd_some, hh1, b1, bnd_some, cY_state_ok, bnd_some, hsB, hh2, d1, bnd_some, z1', bnd_some]
    have frC : ∀ a k, a ≠ 22 → ¬ fPS a k → ¬ (a = h + 1 ∧ k = 3) → a ≠ h + 3 → a ≠ h + 14 → mD a k = m a k := fun a k y1 y2 y3 y4 y5 => by
      unfold fPS at y2
      rw [z2 a k y1, d2 a k y3 y4 y5, b2 a k y3 y4 y5, f1 a k y1, a2 a k (by omega) (by omega)]
    have frR : ∀ a, 78 ≤ a → mD a = m a := fun a z => by
      funext k
      rw [z2 a k (by omega), d2 a k (by omega) (by omega) (by omega), b2 a k (by omega) (by omega) (by omega), f1 a k (by omega), a2 a k (by omega) (by omega)]
    -- the reference
    have rC : RH mD G := RH_cg r (fun a k g1 _ _ => ld_cg (frR a (by omega)) k)
    have sC : SR mD G 110 0 (s, pl, L) := SR_all s3 (fun k => by rw [frR 110 (by decide)])
    have qC : PR mD G n P := PR_cg hL p1 p3 (fun k => by rw [frR 118 (by decide)]) (by rw [frR 78 (by decide)]) (by rw [frR 78 (by decide)])
    obtain ⟨mE, e1, e2, e3⟩ := r_keeps_ok hL p1 s1 sC qC
    have rE : RH mE G := RH_cg rC (fun a k _ _ _ => ldq (e2 a k (by omega) (by omega)))
    have sE : SR mE G 110 0 (s, pl, L) := SR_all sC (fun k => e2 110 k (by decide) (by omega))
    obtain ⟨mF, g1, g2⟩ := r_openNow_ok w hD vS rE (SR_NR sE)
    have sF := SR_fq g2 sE
    have hj := vs_j w.1 vS
    have hj2 := vs_j w.1 vt
    have h5 : ld mF 110 5 = jm G s := sF.2.1
    have hcb : ban (jm G s) (bxo (shl 1 v) (-1)) = cb (jm G s) v := ban_cb hj.1 (by omega) hl1.1 (by omega)
    have sG : SR (st mF 110 5 (cb (jm G s) v)) G 110 0 (cj G s v, pl, L) := by
      obtain ⟨y1, y2, y3, y4, y5⟩ := sF
      refine ⟨fun l q1 q2 => ?_, ?_, ?_, ?_, fun i hi => ?_⟩
      · rw [ld_st_ne (by omega), cjk.1 l q1 (by omega)]
        exact y1 l q1 q2
      · rw [show (0 : Int) + 5 = 5 by rfl, ld_st_eq, cjk.2, w32_id (by rw [← cjk.2]; omega) (by rw [← cjk.2]; omega)]
      · rw [ld_st_ne (by decide)]
        exact y3
      · rw [ld_st_ne (by decide)]
        exact y4
      · rw [ld_st_ne (by omega), ld_st_ne (by omega), ld_st_ne (by omega)]
        exact y5 i hi
    obtain ⟨mH, k1, k5, k6⟩ := r_keepsDoors_ok w hD (fR_RH (fR_trans (fR_fq g2) fR_st) rE) (s := s) (t := cj G s v) (pl := pl) (L := L) (m := st mF 110 5 (cb (jm G s) v)) ⟨vt, k2, k3, k4⟩ sG
    have eR : r_oil v mD = some (1, mH) := by
      unfold r_oil
      rw [r_isLockThere_ok w.1 rC, bnd_some, w32_rg hv, if_pos hl1, if_neg (by decide), r_isJammed_ok w.1 vS (SR_NR sC) hl1.1 (by omega), bnd_some, hb, if_neg (by decide), e1, bnd_some, g1, bnd_some, ial_in (by decide) (by rw [al110]; decide), h5, hcb, ias_in (by decide) (by rw [al110]; decide), k1, bnd_some]
    have fall : fR mE mH := fR_trans (fR_fq g2) (fR_trans fR_st k5)
    have frF : ∀ a k, a ≠ 110 → ¬ fPS a k → ¬ scr a k → mH a k = mD a k := fun a k y1 y2 y3 => by
      unfold fPS at y2
      unfold scr at y3
      rw [fall a k y1 (by omega) (by omega), e2 a k (by omega) (by omega)]
    have frFc : ∀ a, a < 78 → mH a = mD a := fun a z => by
      funext k
      rw [fall a k (by omega) (by omega) (by omega), e2 a k (by omega) (by omega)]
    have q2 : PR mH G (adn n) (adP n P (s, pl, L)) := PR_cg hL (okP_ad p1 s1) e3 (fun k => fall 118 k (by omega) (by omega) (by omega)) (fall 78 61 (by decide) (by decide) (by decide)) (fall 78 62 (by decide) (by decide) (by decide))
    refine ⟨_, mD, _, mH, eC, eR, rfl, ⟨G, IG_acted hh H (fun a k z1 z2 _ _ _ _ z3 z4 z5 => frC a k z1 z2 z3 z4 z5) frR (fun a k z1 z2 _ _ _ z3 => frF a k z1 z2 z3) frFc (f22_CM p z2 d3) okB z3 k6 (okP_ad p1 s1) (PC_cg a3 (fun a k z => ?_)) q2 ?_ ?_ ?_⟩⟩
    · rw [z2 a k (by omega), d2 a k (by omega) (by omega) (by omega), b2 a k (by omega) (by omega) (by omega), f1 a k (by omega)]
    · refine TP_cg T (fun a k z => ?_)
      unfold fTP at z
      rw [frF a k (by omega) (by unfold fPS; omega) (by unfold scr; omega), frC a k (by omega) (by unfold fPS; omega) (by omega) (by omega) (by omega)]
    · refine RF_cg R (fun a k z => ?_)
      unfold fRF at z
      rw [frF a k (by omega) (by unfold fPS; omega) (by unfold scr; omega), frC a k (by omega) (by unfold fPS; omega) (by omega) (by omega) (by omega)]
    · refine SE_cg E (fun a k z => ?_)
      unfold fSE at z
      rw [frF a k (by omega) (by unfold fPS; omega) (by unfold scr; omega), frC a k (by omega) (by unfold fPS; omega) (by omega) (by omega) (by omega)]
  · refine ok_ref H (k := 3) (r := 0) (r' := 0) (by decide) (by decide) ?_ (fun x => ?_) rfl
    · unfold cL_oil cL_oil_32
      rw [cY_state_ok, bnd_some, hs, hh, cH_isOne_k p w c (by decide) (by decide) hv, bnd_some]
      by_cases hq : 0 ≤ v ∧ v < nL G
      · have hb : bt (jm G s) v = 0 := by
          rcases bt_01 (jm G s) v with e | e
          · exact e
          · exact absurd ⟨hq, e⟩ hc
        rw [if_pos (show 0 ≤ v ∧ v < G 0 0 from hq), if_neg (by decide), hh, cH_isJammed_ok w.1 c vS hq.1 (by omega), bnd_some, hb, if_pos (by decide), cL_refuse_ok (by decide) (by decide), bnd_some]
      · rw [if_neg (show ¬ (0 ≤ v ∧ v < G 0 0) from hq), if_pos (by decide), cL_refuse_ok (by decide) (by decide), bnd_some]
    · have rC : RH (st m 47 3 x) G := RH_cg r (fun a k g1 _ _ => ld_st_nc (by omega))
      have sC : SR (st m 47 3 x) G 110 0 (s, pl, L) := SR_all s3 (fun k => st_at (by omega))
      have e16 : r_oil_16 (st m 47 3 x) = some (0, st (st m 47 3 x) 80 3 (ld m 80 3 + 1)) := by
        unfold r_oil_16
        rw [ial_in (by decide) (by rw [al80]; decide), ias_in (by decide) (by rw [al80]; decide), ld_st_nc (by decide)]
      unfold r_oil
      rw [r_isLockThere_ok w.1 rC, bnd_some, w32_rg hv]
      by_cases hq : 0 ≤ v ∧ v < nL G
      · have hb : bt (jm G s) v = 0 := by
          rcases bt_01 (jm G s) v with e | e
          · exact e
          · exact absurd ⟨hq, e⟩ hc
        rw [if_pos hq, if_neg (by decide), r_isJammed_ok w.1 vS (SR_NR sC) hq.1 (by omega), bnd_some, hb, if_pos (by decide), e16]
      · rw [if_neg hq, if_pos (by decide), e16]
