/-! slip -/
theorem isPiece_both {m mX : xm} {G : hv} (w : wfG G) (r : RH m G) (T : TP m) (e : ∀ a, 78 ≤ a → mX a = m a) : (gp m G → ∃ mD, r_isPiece 0 mX = some (1, mD) ∧ fU mX mD ∧ ld mD 78 1 = 0 ∧ ld mD 78 46 = ld m 1 1 ∧ ∀ i, 0 ≤ i → i < ld m 1 1 → ld mD 112 i = ld m 2 i) ∧ (¬ gp m G → ∃ mD, r_isPiece 0 mX = some (0, mD) ∧ fU mX mD ∧ ld mD 78 1 = 0) := by
  obtain ⟨t1, t2, t3, t4⟩ := T
  have rC : RH mX G := RH_cg r (fun a k g1 _ _ => ld_cg (e a (by omega)) k)
  have e79 : ∀ i, 0 ≤ i → i < ld m 1 1 → ld mX 79 i = ld m 2 i := fun i z1 z2 => by rw [ld_cg (e 79 (by decide)), (t4 i z1 z2).1]
  have q := r_isPiece_ok w rC (l := 0) (n := ld m 1 1) (Or.inl rfl) (by rw [ld_cg (e 78 (by decide)), t1]) t2 t3 (fun i z1 z2 => by rw [e79 i z1 z2]; exact (t4 i z1 z2).2)
  refine ⟨fun hg => ?_, fun hg => q.2 (fun z => hg ⟨z.2.1, fun i z1 z2 => by rw [← e79 i z1 z2]; exact z.2.2 i z1 z2⟩)⟩
  obtain ⟨mD, d1, d2, d3, d4, d5⟩ := q.1 ⟨t2, hg.1, fun i z1 z2 => by rw [e79 i z1 z2]; exact hg.2 i z1 z2⟩
  exact ⟨mD, d1, d2, d3, d4, fun i z1 z2 => by rw [d5 i z1 z2, e79 i z1 z2]⟩
theorem cH_bitsOfAll_ok {m : xm} {h : Nat} {G : hv} (p : isH h) (c : CH m h G) {k : Int} (h1 : 0 ≤ k) (h2 : k < 4) (h3 : 0 ≤ G 0 k) (h4 : G 0 k ≤ 6) : cH_bitsOfAll h k m = some (bd (G 0 k), m) := by
  unfold cH_bitsOfAll
  rw [cH_count_ok p c h1 h2, bnd_some, shl1 h3 (by omega)]
  rfl
theorem cH_areDoors_ok {m : xm} {h : Nat} {G : hv} (p : isH h) (w : wfG G) (c : CH m h G) {n : Int} : cH_areDoors h n m = some (if 0 ≤ w32 n ∧ w32 n ≤ bd (nD G) then 1 else 0, m) := by
  have g := w.2.2.1
  have g0 := bd_rng g.1 g.2
  unfold cH_areDoors
  by_cases c0 : w32 n < 0
  · rw [if_pos c0, if_neg (by omega)]
  · rw [if_neg c0, cH_bitsOfAll_ok p c (by decide) (by decide) g.1 g.2, bnd_some, show G 0 2 = nD G from rfl, w32_id (x := bd (nD G)) (by omega) (by omega)]
    by_cases c1 : bd (nD G) < w32 n
    · rw [if_pos c1, if_neg (by omega)]
    · rw [if_neg c1, if_pos (by omega)]
def tz (t : Int × Int × Int) : Prop := 0 ≤ t.1 ∧ (t.1 = 0 → t.2.1 = -1 ∧ t.2.2 = -1)
theorem sla_tz {b : Bool} {k x : Int} {t : Int × Int × Int} (h : tz t) : tz (sla b k x t) := by
  unfold sla
  split
  · exact ⟨by have := h.1; dsimp only; omega, fun z => by have := h.1; dsimp only at z; omega⟩
  · exact h
theorem inC_tz {H : Int → Bool} {k : Int} : ∀ (r : Nat) {t : Int × Int × Int}, tz t → tz (inC H k r t)
  | 0, _, h => h
  | r + 1, t, h => by
    rw [inC]
    exact inC_tz r (sla_tz h)
theorem ouC_tz {H : Int → Int → Bool} {len : Int} : ∀ (r : Nat) {t : Int × Int × Int}, tz t → tz (ouC H len r t)
  | 0, _, h => h
  | r + 1, t, h => by
    rw [ouC]
    exact ouC_tz r (inC_tz 7 h)
theorem TP0 {m : xm} (h1 : ld m 1 1 = 0) (h2 : ld m 78 1 = 0) : TP m := by
  unfold TP
  rw [h1, h2]
  exact ⟨rfl, Int.le_refl _, by decide, fun i g1 g2 => by omega⟩
theorem ok_slip {g : Int} (hg : rg g) : okI (cL_slip g) (r_slip g) := by
  intro m hi
  obtain ⟨G, H⟩ := hi
  have H0 : IG m G := H
  obtain ⟨⟨w, hD, -, c, M, r, -⟩, S0, P0, T, -, R, HH, JJ, LL, II, E⟩ := H0
  have vS := S0.1
  have N0 := SN_NR S0
  obtain ⟨h, hh⟩ : ∃ h, hl m 12 = h := ⟨_, rfl⟩
  have p := hl_or m 12
  rw [hh] at p c M
  have pr := isH_rng p
  have tk := cP_take_ok p w c T
  -- refused
  have ref : ∀ {mT}, fT m mT → ld mT 1 1 = 0 → cL_slip g m = cL_slip_29 mT → (∀ mX, mX = st mT 47 1 (ld mT 47 1 + 1) → ∃ mY, r_slip g mX = r_slip_16 mY ∧ fU mX mY ∧ ld mY 78 1 = 0) → ∃ r m1 r' m2, cL_slip g m = some (r, m1) ∧ r_slip g m1 = some (r', m2) ∧ w32 r = w32 r' ∧ Inv m2 := by
    intro mT k2 k3 eC eR
    obtain ⟨mY, q1, q2, q3⟩ := eR _ rfl
    refine ⟨-1, st mT 47 1 (ld mT 47 1 + 1), -1, st mY 80 1 (ld mY 80 1 + 1), ?_, ?_, rfl, ⟨G, ok_tref H (by decide) (by decide) k2 k3 q2 q3⟩⟩
    · rw [eC]
      unfold cL_slip_29
      rw [cL_refuse_ok (by decide) (by decide), bnd_some]
    · rw [q1]
      unfold r_slip_16
      rw [r_refuses_ok (by decide) (by decide), bnd_some]
  by_cases hp : gp m G
  · obtain ⟨mT, k1, k2, k3, k4, k5⟩ := tk.1 hp
    have hhT : hl mT 12 = h := by rw [hl_cg (k2 0 12 (by decide) (by decide) (by decide)), hh]
    have cT : CH mT h G := CH_cg c (fun a k z => ldq (k2 a k (by rcases z with rfl | ⟨z1, z2⟩ | ⟨rfl, z⟩ <;> omega) (by rcases z with rfl | ⟨z1, z2⟩ | ⟨rfl, z⟩ <;> omega) (by rcases z with rfl | ⟨z1, z2⟩ | ⟨rfl, z⟩ <;> omega)))
    have MT : CM mT h G := CM_cg M (fun k => k2 _ k (by omega) (by omega) (by omega))
    by_cases dg : 0 ≤ g ∧ g ≤ bd (nD G)
    · have h20 := hp.1
      have t2 := T.2.1
      have f0 : ∀ a j, ¬ (a = 16 ∧ j = 1) → a ≠ 17 → ¬ (a = 1 ∧ j = 1) → ¬ (a = 0 ∧ j = 15) → (st mT 0 15 0) a j = m a j := fun a j z1 z2 z3 z4 => by rw [st_at z4, k2 a j z1 z2 z3]
      have X0 : SX (st mT 0 15 0) h G (fun i => ld m 2 i) (ld m 1 1) (ld m 22 0) := ⟨by rw [hl_cg (f0 0 12 (by decide) (by decide) (by decide) (by decide)), hh], CH_cg cT (fun a k z => ld_st_nc (by rcases z with rfl | ⟨z1, z2⟩ | ⟨rfl, z⟩ <;> omega)), ldq (f0 22 0 (by decide) (by decide) (by decide) (by decide)), by rw [ld_st_nc (by decide), k4], fun i z1 z2 => by rw [ld_st_nc (by decide), k5 i z1 z2]⟩
      have L0 : LC (st mT 0 15 0) (0, -1, -1) := ⟨Int.le_refl _, fun _ => by rw [ld_st_eq]; rfl, fun z => absurd rfl z⟩
      obtain ⟨mA, a1, a2, a3, a4⟩ := slip_out p w hD t2 h20 hg hp.2 vS (ld m 1 1).toNat xLF (by omega) (by rw [xLF_eq]; omega) X0 (CM_cg MT (fun k => st_at (by omega))) L0
      rw [show ld m 1 1 - ((ld m 1 1).toNat : Int) = 0 by omega] at a1
      have zt := ouC_tz (H := hit G (fun i => ld m 2 i) (ld m 1 1) (ld m 22 0) g) (len := ld m 1 1) (ld m 1 1).toNat (t := (0, -1, -1)) ⟨Int.le_refl _, fun _ => ⟨rfl, rfl⟩⟩
      have eC : cL_slip g m = some ((ouC (hit G (fun i => ld m 2 i) (ld m 1 1) (ld m 22 0) g) (ld m 1 1) (ld m 1 1).toNat (0, -1, -1)).1, mA) := by
        unfold cL_slip
        rw [hh, k1, bnd_some, if_neg (by decide), hhT, cH_areDoors_ok p w cT, bnd_some, w32_rg hg, if_pos dg, if_neg (by decide), stf_eq]
        exact a1
      have frA : ∀ a j, ¬ scr a j → ¬ fTP a j → ¬ fSL a j → ¬ (a = h + 1 ∧ j = 3) → a ≠ h + 3 → a ≠ h + 14 → mA a j = m a j := fun a j y1 y2 y3 y4 y5 y6 => by
        unfold scr at y1
        unfold fTP at y2
        unfold fSL at y3
        rw [a2 a j y4 y5 y6 (by omega) (by omega), f0 a j (by omega) (by omega) (by omega) (by omega)]
      have frR : ∀ a, 78 ≤ a → mA a = m a := fun a z => by
        funext k
        rw [a2 a k (by omega) (by omega) (by omega) (by omega) (by omega), f0 a k (by omega) (by omega) (by omega) (by omega)]
      obtain ⟨mD, d1, d2, d3, d4, d5⟩ := (isPiece_both w r T frR).1 hp
      obtain ⟨mE, hmE⟩ : ∃ mE, mE = st (st mD 78 56 (-1)) 78 57 (-1) := ⟨_, rfl⟩
      have rA : RH mA G := RH_cg r (fun a k g1 _ _ => ld_cg (frR a (by omega)) k)
      have rD : RH mD G := RH_cg rA (fun a k z1 z2 _ => ldq (d2 a k (by omega) (by omega)))
      have XE : RX mE G (fun i => ld m 2 i) (ld m 1 1) (fun i => ld m 110 i) := by
        rw [hmE]
        refine ⟨RH_cg rD (fun a k z1 z2 _ => by rw [ld_st_nc (by omega), ld_st_nc (by omega)]), by rw [ld_st_ne (by decide), ld_st_ne (by decide), d4], fun i z1 z2 => by rw [ld_st_nc (by decide), ld_st_nc (by decide), d5 i z1 z2], fun i z1 z2 => by rw [ld_st_nc (by decide), ld_st_nc (by decide), ldq (d2 110 i (by omega) (by decide)), ld_cg (frR 110 (by decide))]⟩
      have LE : LR mE (0, -1, -1) := by
        rw [hmE]
        exact ⟨by rw [ld_st_ne (by decide), ld_st_eq]; rfl, by rw [ld_st_eq]; rfl⟩
      obtain ⟨mF, b1, b2, b3, b4⟩ := r_slip_out w hD t2 h20 hg hp.2 vS (n0 := fun i => ld m 110 i) (fun m' X => NR_of w.1 N0 X.2.2.2) (ld m 1 1).toNat xLF (m := mE) (t := (0, -1, -1)) (by omega) (by rw [xLF_eq]; omega) XE LE (Int.le_refl _) (by dsimp only; omega)
      rw [show ld m 1 1 - ((ld m 1 1).toNat : Int) = 0 by omega] at b1
      have eR : r_slip g mA = some ((ouC (hit G (fun i => ld m 2 i) (ld m 1 1) (ld m 22 0) g) (ld m 1 1) (ld m 1 1).toNat (0, -1, -1)).1, mF) := by
        unfold r_slip
        rw [d1, bnd_some, if_neg (by decide), r_areDoors_ok w rD, bnd_some, w32_rg hg, if_pos dg, if_neg (by decide), stf_eq, stf_eq, ← hmE]
        exact b1
      have frF : ∀ a j, a ≠ 110 → a ≠ 111 → a ≠ 112 → a ≠ 140 → ¬ (a = 78 ∧ (j = 1 ∨ j = 46 ∨ j = 56 ∨ j = 57 ∨ j = 90)) → mF a j = mA a j := fun a j y1 y2 y3 y4 y5 => by
        rw [b2 a j y1 y2 y4 (by omega), hmE, st_at (by omega), st_at (by omega), d2 a j (by omega) y3]
      have clF : ∀ a, a < 78 → mF a = mA a := fun a z => by
        funext k
        exact frF a k (by omega) (by omega) (by omega) (by omega) (by omega)
      have frm : ∀ a k, ¬ qset h a k → mF a k = m a k := fun a k z => by
        have y1 : ¬ scr a k := fun q => z (Or.inl q)
        have y2 : a ≠ 110 := fun q => z (Or.inr (Or.inl q))
        have y3 : ¬ fTP a k := fun q => z (Or.inr (Or.inr (Or.inl q)))
        have y4 : ¬ fSL a k := fun q => z (by unfold qset; simp [q])
        have y5 : ¬ (a = h + 1 ∧ k = 3) ∧ a ≠ h + 3 ∧ a ≠ h + 14 := ⟨fun q => z (by unfold qset; simp [q]), fun q => z (by unfold qset; simp [q]), fun q => z (by unfold qset; simp [q])⟩
        rw [frF a k y2 (by unfold scr at y1; omega) (by unfold scr at y1; omega) (by unfold scr at y1; omega) (by unfold scr at y1; unfold fTP at y3; unfold fSL at y4; omega), frA a k y1 y3 y4 y5.1 y5.2.1 y5.2.2]
      have frn : ∀ a k, (a < 48 ∨ 78 ≤ a) → ¬ scr a k → a ≠ 110 → ¬ fTP a k → ¬ fSL a k → mF a k = m a k := fun a k y0 y1 y2 y3 y4 => by
        rw [frF a k y2 (by unfold scr at y1; omega) (by unfold scr at y1; omega) (by unfold scr at y1; omega) (by unfold scr at y1; unfold fTP at y3; unfold fSL at y4; omega), frA a k y1 y3 y4 (by omega) (by omega) (by omega)]
      refine ⟨_, mA, _, mF, eC, eR, rfl, ⟨G, IG_qry hh H frm (CM_cg a3 (fun k => by rw [clF _ (by omega)])) (fun k z1 z2 => b3.2.2.2 k z1 z2) (TP0 ?_ ?_) ?_ ?_ ?_ ?_ ?_⟩⟩
      · rw [ld_cg (clF 1 (by decide)), ldq (a2 1 1 (by omega) (by omega) (by omega) (by omega) (by omega)), ld_st_nc (by decide), k3]
      · rw [ldq (b2 78 1 (by decide) (by decide) (by decide) (by decide)), hmE, ld_st_ne (by decide), ld_st_ne (by decide), d3]
      · exact RF_cg R (fun a k z => by unfold fRF at z; exact frn a k (by omega) (by unfold scr; omega) (by omega) (by unfold fTP; omega) (by unfold fSL; omega))
      · exact HE_cg HH (fun a k z => by unfold fHE at z; exact frn a k (by omega) (by unfold scr; omega) (by omega) (by unfold fTP; omega) (by unfold fSL; omega))
      · exact JU_cg JJ (fun a k z => by unfold fJU at z; exact frn a k (by omega) (by unfold scr; omega) (by omega) (by unfold fTP; omega) (by unfold fSL; omega))
      · obtain ⟨l1, l2, l3⟩ := a4
        obtain ⟨z1, z2⟩ := b4
        unfold SL
        rw [ld_cg (clF 0 (by decide)), ld_cg (clF 45 (by decide)), ld_cg (clF 45 (by decide)), z1, z2]
        refine ⟨fun q => zt.2 ?_, fun q => (l3 (fun y => q (l2 y))).2⟩
        refine Decidable.byContradiction fun y => ?_
        have := (l3 y).1
        omega
      · exact IM_cg II (fun a k z => by unfold fIM at z; exact frn a k (by omega) (by unfold scr; omega) (by omega) (by unfold fTP; omega) (by unfold fSL; omega))
    · refine ref k2 k3 ?_ ?_
      · unfold cL_slip
        rw [hh, k1, bnd_some, if_neg (by decide), hhT, cH_areDoors_ok p w cT, bnd_some, w32_rg hg, if_neg dg, if_pos (by decide)]
      · intro mX hX
        have frR : ∀ a, 78 ≤ a → mX a = m a := fun a z => by
          funext k
          rw [hX, st_at (by omega), k2 a k (by omega) (by omega) (by omega)]
        obtain ⟨mD, d1, d2, d3, d4, d5⟩ := (isPiece_both w r T frR).1 hp
        have rX : RH mX G := RH_cg r (fun a k g1 _ _ => ld_cg (frR a (by omega)) k)
        have rD : RH mD G := RH_cg rX (fun a k z1 z2 _ => ldq (d2 a k (by omega) (by omega)))
        refine ⟨mD, ?_, d2, d3⟩
        unfold r_slip
        rw [d1, bnd_some, if_neg (by decide), r_areDoors_ok w rD, bnd_some, w32_rg hg, if_neg dg, if_pos (by decide)]
  · obtain ⟨mT, k1, k2, k3⟩ := tk.2 hp
    refine ref k2 k3 ?_ ?_
    · unfold cL_slip
      rw [hh, k1, bnd_some, if_pos (by decide)]
    · intro mX hX
      have frR : ∀ a, 78 ≤ a → mX a = m a := fun a z => by
        funext k
        rw [hX, st_at (by omega), k2 a k (by omega) (by omega) (by omega)]
      obtain ⟨mD, d1, d2, d3⟩ := (isPiece_both w r T frR).2 hp
      refine ⟨mD, ?_, d2, d3⟩
      unfold r_slip
      rw [d1, bnd_some, if_pos (by decide)]
