/-! a piece is played; an evening -/
def cpb (G : hv) (s n : Int) : Bool := decide (n = 6) || (decide (0 ≤ n) && decide (n < nN G) && decide (ban (nk G n) (jm G s) = 0))
theorem cpb_iff {G : hv} {s n : Int} : cpb G s n = true ↔ cp G s n := by
  unfold cpb cp
  simp only [Bool.or_eq_true, Bool.and_eq_true, decide_eq_true_eq, and_assoc]
theorem cp_ntk {G : hv} {s n : Int} (h : cp G s n) : ntk G n := by
  rcases h with h | h
  · exact Or.inl h
  · exact Or.inr ⟨h.1, h.2.1⟩
/-- r notes are left of a piece -/
def pcs (G : hv) (N : Int → Int) (len : Int) : Nat → sn → Int × sn
  | 0, S => (len, S)
  | r + 1, S => if cpb G S.1 (N (len - ((r + 1 : Nat) : Int))) = true then pcs G N len r (plS G (N (len - ((r + 1 : Nat) : Int))) S) else (len - ((r + 1 : Nat) : Int), S)
theorem pcs_ok {G : hv} (w : wfG G) {N : Int → Int} {len : Int} : ∀ (r : Nat) {S : sn}, okS G S → okS G (pcs G N len r S).2
  | 0, _, h => h
  | r + 1, S, h => by
    unfold pcs
    split
    · exact pcs_ok w r (okS_pl w h)
    · exact h
theorem pcs_rg {G : hv} {N : Int → Int} {len : Int} : ∀ (r : Nat) {S : sn}, (r : Int) ≤ len → 0 ≤ (pcs G N len r S).1 ∧ (pcs G N len r S).1 ≤ len
  | 0, _, h => ⟨by unfold pcs; exact h, by unfold pcs; exact Int.le_refl _⟩
  | r + 1, S, h => by
    unfold pcs
    split
    · exact pcs_rg r (by omega)
    · exact ⟨by dsimp only; omega, by dsimp only; omega⟩
theorem cP_noteAt_ok {m : xm} {k : Int} (h1 : 0 ≤ k) (h2 : k < 20) : cP_noteAt k m = some (ld m 17 k, m) := by
  unfold cP_noteAt
  rw [cell_in h1 (by rw [al17]; omega), bnd_some]
theorem piece_loop {G : hv} {h : Nat} (p : isH h) (w : wfG G) (hD : wfD G) {N : Int → Int} {len : Int} (h0 : 0 ≤ len) (h20 : len ≤ 20) (hN : ∀ i, 0 ≤ i → i < len → ntk G (N i)) : ∀ (r f : Nat) {m : xm} {S : sn}, (r : Int) ≤ len → r < f → hl m 12 = h → CH m h G → CM m h G → okS G S → SC m 22 S → ld m 16 1 = len → (∀ i, 0 ≤ i → i < len → ld m 17 i = N i) → ∃ m', cL_piece_43 f (len - (r : Int)) m = some ((pcs G N len r S).1, m') ∧ fC h m m' ∧ CM m' h G ∧ SC m' 22 (pcs G N len r S).2 := by
  have pr := isH_rng p
  have gN := w.2.1
  intro r
  induction r with
  | zero =>
    intro f m S hr hf hh c M hS s h16 h17
    obtain ⟨f, rfl⟩ : ∃ f', f = f' + 1 := ⟨f - 1, by omega⟩
    rw [cL_piece_43]
    unfold cP_length
    rw [bnd_some, w32_ld, h16, w32_id (x := len - ((0 : Nat) : Int)) (by omega) (by omega), if_pos (by omega)]
    refine ⟨m, ?_, fC_refl, M, s⟩
    show some (len - 0, m) = some (len, m)
    rw [Int.sub_zero]
  | succ r ih =>
    intro f m S hr hf hh c M hS s h16 h17
    obtain ⟨f, rfl⟩ : ∃ f', f = f' + 1 := ⟨f - 1, by omega⟩
    obtain ⟨k, hk⟩ : ∃ k, len - ((r + 1 : Nat) : Int) = k := ⟨_, rfl⟩
    have hs : ld m 22 0 = S.1 := s.1
    have hnk := hN k (by omega) (by omega)
    have hnr : rg (N k) := by rcases hnk with z | z <;> unfold rg <;> omega
    rw [cL_piece_43]
    unfold cP_length pcs
    rw [hk, bnd_some, w32_ld, h16, w32_id (x := k) (by omega) (by omega), if_neg (by omega), cY_state_ok, bnd_some, hs, cP_noteAt_ok (by omega) (by omega), bnd_some, h17 k (by omega) (by omega), hh]
    by_cases q : cp G S.1 (N k)
    · obtain ⟨m1, b1, b2, b3, b4⟩ := cL_playOne_ok hh p w hD c M hS s hnk
      have hh1 : hl m1 12 = h := by rw [hl_cg (by rw [fC_out p b2 (by decide) (by decide)]), hh]
      obtain ⟨m2, g1, g2, g3, g4⟩ := ih f (m := m1) (S := plS G (N k) S) (by omega) (by omega) hh1 (fC_CH p b2 c) b3 (okS_pl w hS) b4 (by rw [ld_cg (fC_out p b2 (by decide) (by decide))]; exact h16) (fun i z1 z2 => by rw [ld_cg (fC_out p b2 (by decide) (by decide))]; exact h17 i z1 z2)
      rw [cH_canPlay_in p w c hS.1 q, bnd_some, if_neg (by decide), cP_noteAt_ok (by omega) (by omega), bnd_some, h17 k (by omega) (by omega), b1, bnd_some, if_pos (cpb_iff.mpr q), show k + 1 = len - (r : Int) by omega]
      exact ⟨m2, g1, fC_trans b2 g2, g3, g4⟩
    · rw [cH_canPlay_out p w c hS.1 (by rw [w32_rg hnr]; exact q), bnd_some, if_pos (by decide), if_neg (fun z => q (cpb_iff.mp z))]
      exact ⟨m, rfl, fC_refl, M, s⟩
theorem r_piece_loop {G : hv} (w : wfG G) (hD : wfD G) {N : Int → Int} {len : Int} (h0 : 0 ≤ len) (h20 : len ≤ 20) (hN : ∀ i, 0 ≤ i → i < len → ntk G (N i)) : ∀ (r f : Nat) {m : xm} {S : sn}, (r : Int) ≤ len → r < f → RH m G → okS G S → SR m G 110 0 S → ld m 78 46 = len → (∀ i, 0 ≤ i → i < len → ld m 112 i = N i) → ∃ m', r_piece_20 f (len - (r : Int)) m = some ((pcs G N len r S).1, m') ∧ fR m m' ∧ SR m' G 110 0 (pcs G N len r S).2 := by
  have gN := w.2.1
  intro r
  induction r with
  | zero =>
    intro f m S hr hf H hS s h46 h112
    obtain ⟨f, rfl⟩ : ∃ f', f = f' + 1 := ⟨f - 1, by omega⟩
    rw [r_piece_20, h46, w32_id (x := len - ((0 : Nat) : Int)) (by omega) (by omega), if_pos (by omega)]
    refine ⟨m, ?_, fR_refl, s⟩
    show some (len - 0, m) = some (len, m)
    rw [Int.sub_zero]
  | succ r ih =>
    intro f m S hr hf H hS s h46 h112
    obtain ⟨f, rfl⟩ : ∃ f', f = f' + 1 := ⟨f - 1, by omega⟩
    obtain ⟨k, hk⟩ : ∃ k, len - ((r + 1 : Nat) : Int) = k := ⟨_, rfl⟩
    have hnk := hN k (by omega) (by omega)
    have rc := r_canPlay_ok w H hS.1 (SR_NR s) (n := N k) hnk
    rw [r_piece_20]
    unfold pcs
    rw [hk, h46, w32_id (x := k) (by omega) (by omega), if_neg (by omega), ial_in (by omega) (by rw [al112]; omega), h112 k (by omega) (by omega)]
    by_cases q : cp G S.1 (N k)
    · obtain ⟨m1, b1, b2, b3⟩ := r_isPlayed_ok w hD H hS s hnk
      obtain ⟨m2, g1, g2, g3⟩ := ih f (m := m1) (S := plS G (N k) S) (by omega) (by omega) (fR_RH b2 H) (okS_pl w hS) b3 (by rw [ldq (b2 78 46 (by decide) (by decide) (by decide))]; exact h46) (fun i z1 z2 => by rw [ldq (b2 112 i (by decide) (by omega) (by decide))]; exact h112 i z1 z2)
      rw [rc.1 q, bnd_some, if_neg (by decide), ial_in (by omega) (by rw [al112]; omega), h112 k (by omega) (by omega), b1, bnd_some, if_pos (cpb_iff.mpr q), show k + 1 = len - (r : Int) by omega]
      exact ⟨m2, g1, fR_trans b2 g2, g3⟩
    · rw [rc.2 q, bnd_some, if_pos (by decide), if_neg (fun z => q (cpb_iff.mp z))]
      exact ⟨m, rfl, fR_refl, s⟩
/-- both refuse a piece: the tape goes -/
theorem ok_tref {m m1 m2 : xm} {G : hv} {k : Int} (H : IG m G) (hk : 0 ≤ k) (hk2 : k < 6) (f1 : fT m m1) (z1 : ld m1 1 1 = 0) (f2 : fU (st m1 47 k (ld m1 47 k + 1)) m2) (z2 : ld m2 78 1 = 0) : IG (st m2 80 k (ld m2 80 k + 1)) G := by
  have e47 : ∀ i, ld m1 47 i = ld m 47 i := fun i => ldq (f1 47 i (by omega) (by decide) (by omega))
  have e47b : ∀ i, ld m2 47 i = ld (st m1 47 k (ld m1 47 k + 1)) 47 i := fun i => ldq (f2 47 i (by omega) (by decide))
  have e80 : ∀ i, ld m2 80 i = ld m 80 i := fun i => by
    have : m2 80 i = m 80 i := by rw [f2 80 i (by omega) (by decide), st_at (by omega), f1 80 i (by omega) (by decide) (by omega)]
    exact ldq this
  refine IG_TR H (fun a j z => ?_) ?_ (RF_inc (k := k) H.2.2.2.2.2.1 (fun i => ?_) (fun i => ?_) hk hk2)
  · unfold scr fTP fRF at z
    rw [st_at (by omega), f2 a j (by omega) (by omega), st_at (by omega), f1 a j (by omega) (by omega) (by omega)]
  · have a1 : ld (st m2 80 k (ld m2 80 k + 1)) 1 1 = 0 := by
      rw [ld_st_nc (by decide), ldq (f2 1 1 (by decide) (by decide)), ld_st_nc (by decide), z1]
    have a2 : ld (st m2 80 k (ld m2 80 k + 1)) 78 1 = 0 := by rw [ld_st_nc (by decide), z2]
    unfold TP
    rw [a1, a2]
    exact ⟨rfl, Int.le_refl _, by decide, fun i g1 g2 => by omega⟩
  · rw [ld_st_nc (by decide), e47b, ld_inc, e47, e47]
  · rw [ld_inc, e80, e80]
theorem ok_piece : okI cL_piece r_piece := by
  intro m hi
  obtain ⟨G, H⟩ := hi
  have H0 : IG m G := H
  obtain ⟨⟨w, hD, -, c, M, r, -⟩, S0, P0, T, -, R, -, -, -, -, E⟩ := H0
  obtain ⟨S, s1, s2, s3⟩ := SN_to S0
  obtain ⟨n, P, p1, p2, p3⟩ := PS_to P0
  have hL := w.1.2.1
  obtain ⟨h, hh⟩ : ∃ h, hl m 12 = h := ⟨_, rfl⟩
  have p := hl_or m 12
  rw [hh] at p c M
  have pr := isH_rng p
  obtain ⟨t1, t2, t3, t4⟩ := T
  have tk := cP_take_ok p w c ⟨t1, t2, t3, t4⟩
  by_cases hg : gp m G ∧ ld m 1 1 ≠ 0
  · obtain ⟨mT, k1, k2, k3, k4, k5⟩ := tk.1 hg.1
    have hhT : hl mT 12 = h := by rw [hl_cg (k2 0 12 (by decide) (by decide) (by decide)), hh]
    have cT : CH mT h G := CH_cg c (fun a k z => ldq (k2 a k (by rcases z with rfl | ⟨z1, z2⟩ | ⟨rfl, z⟩ <;> omega) (by rcases z with rfl | ⟨z1, z2⟩ | ⟨rfl, z⟩ <;> omega) (by rcases z with rfl | ⟨z1, z2⟩ | ⟨rfl, z⟩ <;> omega)))
    have MT : CM mT h G := CM_cg M (fun k => k2 _ k (by omega) (by omega) (by omega))
    have sT : SC mT 22 S := SC_cg s2 (fun k => k2 22 k (by omega) (by decide) (by omega))
    have pT : PC mT n P := PC_cg p2 (fun a k z => k2 a k (by omega) (by omega) (by omega))
    obtain ⟨mA, a1, a2, a3⟩ := cY_beginAct_ok p1.1 p1.2.1 s1.2.2.1 sT pT
    have hhA : hl mA 12 = h := by rw [hl_cg (a2 0 12 (by decide) (by decide)), hhT]
    have cA : CH mA h G := CH_cg cT (fun a k z => ldq (a2 a k (by rcases z with rfl | ⟨z1, z2⟩ | ⟨rfl, z⟩ <;> omega) (by rcases z with rfl | ⟨z1, z2⟩ | ⟨rfl, z⟩ <;> omega)))
    have MA : CM mA h G := CM_cg MT (fun k => a2 _ k (by omega) (by omega))
    have h16A : ld mA 16 1 = ld m 1 1 := by rw [ldq (a2 16 1 (by decide) (by decide)), k4]
    obtain ⟨mB, b1, b2, b3, b4⟩ := piece_loop p w hD (N := fun i => ld m 2 i) (len := ld m 1 1) t2 hg.1.1 hg.1.2 (ld m 1 1).toNat xLF (m := mA) (S := S) (by omega) (by rw [xLF_eq]; have := hg.1.1; omega) hhA cA MA s1 (SC_cg sT (fun k => a2 22 k (by decide) (by omega))) h16A (fun i z1 z2 => by rw [ldq (a2 17 i (by decide) (by omega)), k5 i z1 z2])
    rw [show ld m 1 1 - ((ld m 1 1).toNat : Int) = 0 by omega] at b1
    have eC : cL_piece m = some ((pcs G (fun i => ld m 2 i) (ld m 1 1) (ld m 1 1).toNat S).1, mB) := by
      unfold cL_piece cP_length
      rw [hh, k1, bnd_some, if_neg (by decide), bnd_some, w32_ld, k4, if_neg hg.2, a1, bnd_some, b1]
    have frC : ∀ a k, a ≠ 22 → ¬ fPS a k → ¬ fTP a k → ¬ scr a k → ¬ (a = h + 1 ∧ k = 3) → a ≠ h + 3 → a ≠ h + 14 → mB a k = m a k := fun a k y1 y2 y3 y4 y5 y6 y7 => by
      unfold fPS at y2
      unfold fTP at y3
      unfold scr at y4
      rw [b2 a k y1 y5 y6 y7, a2 a k (by omega) (by omega), k2 a k (by omega) (by omega) (by omega)]
    have frR : ∀ a, 78 ≤ a → mB a = m a := fun a z => by
      funext k
      rw [b2 a k (by omega) (by omega) (by omega) (by omega), a2 a k (by omega) (by omega), k2 a k (by omega) (by omega) (by omega)]
    -- the reference
    have rB : RH mB G := RH_cg r (fun a k g1 _ _ => ld_cg (frR a (by omega)) k)
    have sB : SR mB G 110 0 S := SR_all s3 (fun k => by rw [frR 110 (by decide)])
    have qB : PR mB G n P := PR_cg hL p1 p3 (fun k => by rw [frR 118 (by decide)]) (by rw [frR 78 (by decide)]) (by rw [frR 78 (by decide)])
    have e79 : ∀ i, 0 ≤ i → i < ld m 1 1 → ld mB 79 i = ld m 2 i := fun i z1 z2 => by rw [ld_cg (frR 79 (by decide)), (t4 i z1 z2).1]
    have ip := (r_isPiece_ok w rB (l := 1) (n := ld m 1 1) (Or.inr rfl) (by rw [ld_cg (frR 78 (by decide)), t1]) t2 t3 (fun i z1 z2 => by rw [e79 i z1 z2]; exact (t4 i z1 z2).2)).1 ⟨by have := hg.2; omega, hg.1.1, fun i z1 z2 => by rw [e79 i z1 z2]; exact hg.1.2 i z1 z2⟩
    obtain ⟨mC, c1, c2, c3, c4, c5⟩ := ip
    have rC : RH mC G := RH_cg rB (fun a k _ _ _ => ldq (c2 a k (by omega) (by omega)))
    have sC : SR mC G 110 0 S := SR_all sB (fun k => c2 110 k (by omega) (by decide))
    obtain ⟨mD, e1, e2, e3⟩ := r_keeps_ok hL p1 s1 sC (PR_cg hL p1 qB (fun k => c2 118 k (by omega) (by decide)) (c2 78 61 (by decide) (by decide)) (c2 78 62 (by decide) (by decide)))
    have rD : RH mD G := RH_cg rC (fun a k _ _ _ => ldq (e2 a k (by omega) (by omega)))
    obtain ⟨mE, g1, g2, g3⟩ := r_piece_loop w hD (N := fun i => ld m 2 i) (len := ld m 1 1) t2 hg.1.1 hg.1.2 (ld m 1 1).toNat xLF (m := mD) (S := S) (by omega) (by rw [xLF_eq]; have := hg.1.1; omega) rD s1 (SR_all sC (fun k => e2 110 k (by decide) (by omega))) (by rw [ldq (e2 78 46 (by decide) (by decide))]; exact c4) (fun i z1 z2 => by rw [ldq (e2 112 i (by decide) (by omega)), c5 i z1 z2, e79 i z1 z2])
    rw [show ld m 1 1 - ((ld m 1 1).toNat : Int) = 0 by omega] at g1
    have eR : r_piece mB = some ((pcs G (fun i => ld m 2 i) (ld m 1 1) (ld m 1 1).toNat S).1, mE) := by
      unfold r_piece
      rw [c1, bnd_some, if_neg (by decide), e1, bnd_some, g1]
    have frF : ∀ a k, a ≠ 110 → ¬ fPS a k → ¬ fTP a k → ¬ scr a k → mE a k = mB a k := fun a k y1 y2 y3 y4 => by
      unfold fPS at y2
      unfold fTP at y3
      unfold scr at y4
      rw [g2 a k y1 (by omega) (by omega), e2 a k (by omega) (by omega), c2 a k (by omega) (by omega)]
    have frFc : ∀ a, a < 78 → mE a = mB a := fun a z => by
      funext k
      rw [g2 a k (by omega) (by omega) (by omega), e2 a k (by omega) (by omega), c2 a k (by omega) (by omega)]
    have q2 : PR mE G (adn n) (adP n P S) := PR_cg hL (okP_ad p1 s1) e3 (fun k => g2 118 k (by omega) (by omega) (by omega)) (g2 78 61 (by decide) (by decide) (by decide)) (g2 78 62 (by decide) (by decide) (by decide))
    refine ⟨_, mB, _, mE, eC, eR, rfl, ⟨G, IG_acted hh H (fun a k z1 z2 z3 _ _ z4 z5 z6 z7 => frC a k z1 z2 z3 z4 z5 z6 z7) frR (fun a k z1 z2 z3 _ _ z4 => frF a k z1 z2 z3 z4) frFc b3 (pcs_ok w _ s1) b4 g3 (okP_ad p1 s1) (PC_cg a3 (fun a k z => b2 a k (by omega) (by omega) (by omega) (by omega))) q2 ?_ ?_ ?_⟩⟩
    · have a11 : ld mE 1 1 = 0 := by
        rw [ld_cg (frFc 1 (by decide)), ldq (b2 1 1 (by decide) (by omega) (by omega) (by omega)), ldq (a2 1 1 (by decide) (by decide)), k3]
      have a78 : ld mE 78 1 = 0 := by
        rw [ldq (g2 78 1 (by decide) (by decide) (by decide)), ldq (e2 78 1 (by decide) (by decide)), c3]
      unfold TP
      rw [a11, a78]
      exact ⟨rfl, Int.le_refl _, by decide, fun i g1 g2 => by omega⟩
    · refine RF_cg R (fun a k z => ?_)
      unfold fRF at z
      rw [frF a k (by omega) (by unfold fPS; omega) (by unfold fTP; omega) (by unfold scr; omega), frC a k (by omega) (by unfold fPS; omega) (by unfold fTP; omega) (by unfold scr; omega) (by omega) (by omega) (by omega)]
    · refine SE_cg E (fun a k z => ?_)
      unfold fSE at z
      rw [frF a k (by omega) (by unfold fPS; omega) (by unfold fTP; omega) (by unfold scr; omega), frC a k (by omega) (by unfold fPS; omega) (by unfold fTP; omega) (by unfold scr; omega) (by omega) (by omega) (by omega)]
  · -- refused
    have cl : ∃ mT, cL_piece m = some (-1, st mT 47 2 (ld mT 47 2 + 1)) ∧ fT m mT ∧ ld mT 1 1 = 0 := by
      by_cases hg1 : gp m G
      · obtain ⟨mT, k1, k2, k3, k4, k5⟩ := tk.1 hg1
        refine ⟨mT, ?_, k2, k3⟩
        unfold cL_piece cP_length cL_piece_28
        rw [hh, k1, bnd_some, if_neg (by decide), bnd_some, w32_ld, k4, if_pos (Classical.byContradiction (fun z => hg ⟨hg1, z⟩)), cL_refuse_ok (by decide) (by decide), bnd_some]
      · obtain ⟨mT, k1, k2, k3⟩ := tk.2 hg1
        refine ⟨mT, ?_, k2, k3⟩
        unfold cL_piece cL_piece_28
        rw [hh, k1, bnd_some, if_pos (by decide), cL_refuse_ok (by decide) (by decide), bnd_some]
    obtain ⟨mT, k1, k2, k3⟩ := cl
    obtain ⟨mX, hX⟩ : ∃ mX, mX = st mT 47 2 (ld mT 47 2 + 1) := ⟨_, rfl⟩
    have frR : ∀ a, 78 ≤ a → mX a = m a := fun a z => by
      funext k
      rw [hX, st_at (by omega), k2 a k (by omega) (by omega) (by omega)]
    have rX : RH mX G := RH_cg r (fun a k g1 _ _ => ld_cg (frR a (by omega)) k)
    have e79 : ∀ i, 0 ≤ i → i < ld m 1 1 → ld mX 79 i = ld m 2 i := fun i z1 z2 => by rw [ld_cg (frR 79 (by decide)), (t4 i z1 z2).1]
    obtain ⟨mY, q1, q2, q3⟩ := (r_isPiece_ok w rX (l := 1) (n := ld m 1 1) (Or.inr rfl) (by rw [ld_cg (frR 78 (by decide)), t1]) t2 t3 (fun i z1 z2 => by rw [e79 i z1 z2]; exact (t4 i z1 z2).2)).2 (fun z => hg ⟨⟨z.2.1, fun i z1 z2 => by rw [← e79 i z1 z2]; exact z.2.2 i z1 z2⟩, by have := z.1; omega⟩)
    refine ⟨-1, mX, -1, st mY 80 2 (ld mY 80 2 + 1), by rw [hX]; exact k1, ?_, rfl, ⟨G, ok_tref H (by decide) (by decide) k2 k3 (by rw [← hX]; exact q2) q3⟩⟩
    unfold r_piece
    rw [q1, bnd_some, if_pos (by decide), r_refuses_ok (by decide) (by decide), bnd_some]
