/-! shortest, back, states -/
theorem isAsTold_loop {m : xm} {G : hv} (w : wfG G) (H : RH m G) {s : Int} (hv : vs G s) (N : NR m G s) : ∀ (r f : Nat), (r : Int) ≤ nL G → r < f → (∀ l, 0 ≤ l → l < nL G - (r : Int) → wd G s l = G 2 l) → r_isAsTold_2 f (nL G - (r : Int)) m = some (if s = fs G then 1 else 0, m) := by
  have gL := w.1.2.1
  have a103 : aln 103 = 24 := rfl
  intro r
  induction r with
  | zero =>
    intro f hr hf hw
    obtain ⟨f, rfl⟩ : ∃ f', f = f' + 1 := ⟨f - 1, by omega⟩
    have jr := vs_j w.1 hv
    rw [r_isAsTold_2, r_lockMany_ok H, bnd_some, w32_id (x := nL G) (by omega) (by omega), w32_id (x := nL G - ((0 : Nat) : Int)) (by omega) (by omega), if_pos (by omega)]
    unfold r_isAsTold_37
    rw [r_jammedNow_ok N, bnd_some, w32_id (x := jm G s) (by omega) (by omega)]
    by_cases e : jm G s = 0
    · have : s = fs G := st_ext w.1 (fun l z1 z2 => by rw [hw l z1 (by omega), wd_fs w z1 (by omega), if_pos z2]) (by rw [e, jm_fs w])
      rw [if_pos e, if_pos this]
    · have : ¬ (s = fs G) := fun z => e (by rw [z, jm_fs w])
      rw [if_neg e, if_neg this]
  | succ r ih =>
    intro f hr hf hw
    obtain ⟨f, rfl⟩ : ∃ f', f = f' + 1 := ⟨f - 1, by omega⟩
    obtain ⟨l, hl4⟩ : ∃ l, nL G - ((r + 1 : Nat) : Int) = l := ⟨_, rfl⟩
    rw [hl4] at hw ⊢
    have wr := wd_rng w.1 s l
    have wp := wx_pos w.1 l
    have g2 := w.2.2.2.2.2.1 l (by omega) (by omega)
    have g1 := w.1.2.2 l (by omega) (by omega)
    rw [r_isAsTold_2, r_lockMany_ok H, bnd_some, w32_id (x := nL G) (by omega) (by omega), w32_id (x := l) (by omega) (by omega), if_neg (by omega), r_wardNow_ok w.1 N (by omega) (by omega), bnd_some, ial_in (by omega) (by rw [a103]; omega), (H.2.2.1 l (by omega) (by omega)).2.1, w32_id (x := wd G s l) (by omega) (by omega), w32_id (x := G 2 l) (by omega) (by omega)]
    by_cases e : wd G s l = G 2 l
    · rw [if_pos e, show l + 1 = nL G - (r : Int) by omega]
      refine ih f (by omega) (by omega) (fun k z1 z2 => ?_)
      by_cases ek : k = l
      · rw [ek]; exact e
      · exact hw k z1 (by omega)
    · have : ¬ (s = fs G) := fun z => e (by rw [z, wd_fs w (by omega) (by omega), if_pos (by omega)])
      rw [if_neg e, if_neg this]
theorem r_isAsTold_ok {m : xm} {G : hv} (w : wfG G) (H : RH m G) {s : Int} (hv : vs G s) (N : NR m G s) : r_isAsTold m = some (if s = fs G then 1 else 0, m) := by
  have g1 := w.1.1
  have g2 := w.1.2.1
  have q := isAsTold_loop w H hv N (nL G).toNat xLF (by omega) (by rw [xLF_eq]; omega) (fun l z1 z2 => by omega)
  rw [show nL G - ((nL G).toNat : Int) = 0 by omega] at q
  exact q
theorem there0 {G : hv} (w : wfG G) (hD : wfD G) {g : Int} (hg : rg g) (m : xm) (s : Int) (H : RH m G) (N : NR m G s) (hv : vs G s) : ∃ m', r_isThere 0 g m = some (if Sk G 1 g s = true then 1 else 0, m') ∧ fq m m' := by
  obtain ⟨m1, b1, b2⟩ := r_openNow_ok w hD hv H N
  have o := od_rng w hD s
  refine ⟨m1, ?_, b2⟩
  unfold r_isThere Sk
  rw [show w32 0 = 0 from rfl, xsw, if_pos (show (0 : Int) = 0 from rfl), b1, bnd_some, w32_id (x := od G s) (by omega) (by omega), w32_rg hg, if_pos (show (1 : Int) = 1 from rfl)]
  by_cases e : od G s = g
  · rw [if_pos e, if_pos (decide_eq_true e)]
  · rw [if_neg e, if_neg (by simpa using e)]
theorem cov0 : ∀ x : Nat, x < 64 → ∀ y : Nat, y < 64 → (ban (y : Int) (bxo (x : Int) (-1)) = 0 ↔ ban (x : Int) (y : Int) = (y : Int)) := by decide +kernel
theorem cov {x y : Int} (h1 : 0 ≤ x) (h2 : x < 64) (h3 : 0 ≤ y) (h4 : y < 64) : ban y (bxo x (-1)) = 0 ↔ ban x y = y := by
  obtain ⟨a, ha, rfl⟩ := nat2 (n := 64) h1 h2
  obtain ⟨b, hb, rfl⟩ := nat2 (n := 64) h3 h4
  exact cov0 a ha b hb
theorem there1 {G : hv} (w : wfG G) (hD : wfD G) {g : Int} (hg0 : 0 ≤ g) (hg1 : g < 64) (m : xm) (s : Int) (H : RH m G) (N : NR m G s) (hv : vs G s) : ∃ m', r_isThere 1 g m = some (if Sk G 2 g s = true then 1 else 0, m') ∧ fq m m' := by
  obtain ⟨m1, b1, b2⟩ := r_openNow_ok w hD hv H N
  have o := od_rng w hD s
  refine ⟨m1, ?_, b2⟩
  unfold r_isThere Sk
  rw [show w32 1 = 1 from rfl, xsw, if_neg (show ¬ ((1 : Int) = 0) by decide), xsw, if_pos (show (1 : Int) = 0 + 1 from rfl), b1, bnd_some, if_neg (show ¬ ((2 : Int) = 1) by decide), if_pos (show (2 : Int) = 2 from rfl)]
  by_cases e : ban (od G s) g = g
  · rw [if_pos ((cov o.1 o.2 hg0 hg1).mpr e), if_pos (decide_eq_true e)]
  · rw [if_neg (fun z => e ((cov o.1 o.2 hg0 hg1).mp z)), if_neg (by simpa using e)]
theorem there2 {G : hv} (w : wfG G) (m : xm) (s : Int) (H : RH m G) (N : NR m G s) (hv : vs G s) : ∃ m', r_isThere 2 0 m = some (if Sk G 3 (fs G) s = true then 1 else 0, m') ∧ fq m m' := by
  refine ⟨m, ?_, fq_refl⟩
  unfold r_isThere Sk
  rw [show w32 2 = 2 from rfl, xsw, if_neg (show ¬ ((2 : Int) = 0) by decide), xsw, if_neg (show ¬ ((2 : Int) = 0 + 1) by decide), xsw, if_pos (show (2 : Int) = 0 + 1 + 1 from rfl), r_isAsTold_ok w H hv N, bnd_some, if_neg (show ¬ ((3 : Int) = 1) by decide), if_neg (show ¬ ((3 : Int) = 2) by decide), if_pos (show (3 : Int) = 3 from rfl)]
  unfold xrb
  by_cases e : s = fs G
  · rw [if_pos e, if_pos (decide_eq_true e), if_pos (Or.inr rfl)]
  · rw [if_neg e, if_neg (show ¬ (decide (s = fs G) = true) by simpa using e), if_pos (Or.inl rfl)]
theorem there3 {G : hv} {g : Int} (m : xm) (s : Int) (_ : RH m G) (_ : NR m G s) (_ : vs G s) : ∃ m', r_isThere 3 0 m = some (if Sk G 0 g s = true then 1 else 0, m') ∧ fq m m' := by
  refine ⟨m, ?_, fq_refl⟩
  unfold r_isThere Sk
  rw [show w32 3 = 3 from rfl, xsw, if_neg (show ¬ ((3 : Int) = 0) by decide), xsw, if_neg (show ¬ ((3 : Int) = 0 + 1) by decide), xsw, if_neg (show ¬ ((3 : Int) = 0 + 1 + 1) by decide), xsw, if_neg (show ¬ ((0 : Int) = 1) by decide), if_neg (show ¬ ((0 : Int) = 2) by decide), if_neg (show ¬ ((0 : Int) = 3) by decide)]
  rfl
theorem bd_bt {n y : Int} (h1 : 0 ≤ n) (h2 : n ≤ 6) (h3 : 0 ≤ y) (h4 : y < n) : bt (bd n) y = 1 := by
  obtain ⟨a, ha, rfl⟩ := nat2 (n := 7) h1 (by omega)
  obtain ⟨b, hb, rfl⟩ := nat2 (n := 7) h3 (by omega)
  have : ∀ a : Nat, a < 7 → ∀ b : Nat, b < a → bt (bd (a : Int)) (b : Int) = 1 := by decide +kernel
  exact this a ha b (by omega)
/-- searched in both: nothing else has changed -/
theorem IG_sr {m mC mD : xm} {G : hv} {h : Nat} (hh : hl m 12 = h) (H : IG m G) (f1 : ∀ a k, ¬ scr a k → ¬ (a = h + 1 ∧ k = 3) → a ≠ h + 3 → a ≠ h + 14 → mC a k = m a k) (M : CM mC h G) (f2 : fE mC mD) (N : NR mD G (ld m 22 0)) : IG mD G := by
  have H0 := H
  obtain ⟨⟨w, hD, -, c, -, r, -⟩, S0, P0, T, -, R, HH, JJ, LL, II, E⟩ := H0
  have p := hl_or m 12
  rw [hh] at p
  have pr := isH_rng p
  have fr : ∀ a k, ¬ scr a k → a ≠ 110 → ¬ (a = h + 1 ∧ k = 3) → a ≠ h + 3 → a ≠ h + 14 → mD a k = m a k := fun a k y1 y2 y3 y4 y5 => by
    rw [f2 a k (fun z => y2 z.1) (fun z => y1 (by unfold fRQ at z; unfold scr; omega)) (fun z => y1 (by unfold scr; omega)) (fun z => y1 (by unfold scr; omega)), f1 a k y1 y3 y4 y5]
  have f110 : ∀ k, ¬ (1 ≤ k ∧ k ≤ 5) → ld mD 110 k = ld m 110 k := fun k z => by
    rw [ldq (f2 110 k (fun y => z y.2) (by unfold fRQ; omega) (by omega) (by decide)), ldq (f1 110 k (by unfold scr; omega) (by omega) (by omega) (by omega))]
  refine IG_qn hh H (fun a k z => fr a k (fun q => z (by unfold qset; simp [q])) (fun q => z (by unfold qset; simp [q])) (fun q => z (by unfold qset; simp [q])) (fun q => z (by unfold qset; simp [q])) (fun q => z (by unfold qset; simp [q]))) (CM_cg M (fun k => f2 _ k (by omega) (by unfold fRQ; omega) (by omega) (by omega))) ?_ (TP_cg T ?_) (RF_cg R ?_) (HE_cg HH ?_) (JU_cg JJ ?_) (SL_cg LL ?_) (IM_cg II ?_)
  · have e22 : ∀ k, ld mD 22 k = ld m 22 k := fun k => ldq (fr 22 k (by unfold scr; omega) (by decide) (by omega) (by omega) (by omega))
    obtain ⟨s1, s2, s3, s4, s5, s6⟩ := S0
    unfold SN
    simp only [e22]
    refine ⟨s1, fun l z1 z2 => ?_, ?_, ?_, ?_, fun i z1 z2 => ?_⟩
    · rw [show (0 : Int) + 1 + l = 1 + l by omega]
      exact N.1 l z1 z2
    · exact N.2
    · rw [f110 0 (by decide)]
      exact s4
    · rw [f110 (0 + 6) (by decide)]
      exact s5
    · rw [f110 _ (by omega), f110 _ (by omega), f110 _ (by omega)]
      exact s6 i z1 z2
  · exact fun a k z => by unfold fTP at z; exact fr a k (by unfold scr; omega) (by omega) (by omega) (by omega) (by omega)
  · exact fun a k z => by unfold fRF at z; exact fr a k (by unfold scr; omega) (by omega) (by omega) (by omega) (by omega)
  · exact fun a k z => by unfold fHE at z; exact fr a k (by unfold scr; omega) (by omega) (by omega) (by omega) (by omega)
  · exact fun a k z => by unfold fJU at z; exact fr a k (by unfold scr; omega) (by omega) (by omega) (by omega) (by omega)
  · exact fun a k z => by unfold fSL at z; exact fr a k (by unfold scr; omega) (by omega) (by omega) (by omega) (by omega)
  · exact fun a k z => by unfold fIM at z; exact fr a k (by unfold scr; omega) (by omega) (by omega) (by omega) (by omega)
/-- all notes may be played: both searches from now on -/
theorem both_sr {m mB : xm} {G : hv} {h : Nat} {k k' g g' : Int} (hh : hl m 12 = h) (H : IG m G) (eB : ∀ a j, ¬ (a = 11 ∧ (j = 5 ∨ j = 6)) → mB a j = m a j) (hk0 : 0 ≤ k) (hk3 : k ≤ 3) (h5 : ld mB 11 5 = k) (h6 : k ≠ 0 → ld mB 11 6 = g) (hT : ∀ m s, RH m G → NR m G s → vs G s → ∃ m', r_isThere k' g' m = some (if Sk G k g s = true then 1 else 0, m') ∧ fq m m') : ∃ x mC mD, cS_find h (ld m 22 0) (bd (nN G)) mB = some (x.1, mC) ∧ r_seeks 0 k' g' mC = some (fst1 x, mD) ∧ okQ G (ld m 22 0) x.2 ∧ (x.1 = -1 ∨ ∃ j : Nat, x.1 = (j : Int) ∧ j < x.2.length) ∧ CQ mC x.2 ∧ RQ mD x.2 ∧ RH mC G ∧ IG mD G := by
  have H0 := H
  obtain ⟨⟨w, hD, -, c, M, r, -⟩, S0, P0, T, -, R, HH, JJ, LL, II, E⟩ := H0
  have p := hl_or m 12
  rw [hh] at p c M
  have pr := isH_rng p
  have vS := S0.1
  have N0 := SN_NR S0
  have gN := w.2.1
  have bN := bd_rng gN.1 gN.2
  have cB : CH mB h G := CH_cg c (fun a j z => ldq (eB a j (by rcases z with rfl | ⟨z1, z2⟩ | ⟨rfl, z⟩ <;> omega)))
  obtain ⟨mC, c1, c2, c3, c4, c5⟩ := cS_find_ok p w hD (A := bd (nN G)) (k := k) (g := g) bN.1 bN.2 hk0 hk3 vS cB (CM_cg M (fun j => eB _ j (by omega))) h5 h6
  have f1 : ∀ a j, ¬ scr a j → ¬ (a = h + 1 ∧ j = 3) → a ≠ h + 3 → a ≠ h + 14 → mC a j = m a j := fun a j z1 z2 z3 z4 => by
    unfold scr at z1
    rw [c2 a j (by unfold fCQ; omega) z2 z3 z4, eB a j (by omega)]
  have rC : RH mC G := RH_cg r (fun a j z1 z2 _ => ldq (f1 a j (by unfold scr; omega) (by omega) (by omega) (by omega)))
  have nC : NR mC G (ld m 22 0) := NR_cg N0 (fun j => ldq (f1 110 j (by unfold scr; omega) (by omega) (by omega) (by omega)))
  obtain ⟨mD, d1, d2, d3, d4, d5⟩ := r_seeks_ok w (A := bd (nN G)) (X := 0) (k := k') (g := g') (So := Sk G k g) vS (by decide) (by decide) (fun y z1 z2 => ⟨fun _ => by unfold bt; simp, fun _ => bd_bt gN.1 gN.2 z1 z2⟩) hT rC nC
  refine ⟨_, mC, mD, c1, d1, c5, ?_, c4, d4, rC, IG_sr hh H f1 c3 d2 d3⟩
  rcases bfq_res (G := G) (A := bd (nN G)) (So := Sk G k g) 1297 0 (q := [(ld m 22 0, -1, -1, 0)]) with z | ⟨j, z1, z2, _⟩
  · exact Or.inl z
  · exact Or.inr ⟨j, z1, z2⟩
theorem ok_back {v : Int} (hv : rg v) : okI (cL_back v) (r_back v) := by
  intro m hi
  obtain ⟨G, H⟩ := hi
  have H0 : IG m G := H
  obtain ⟨⟨w, hD, -, c, M, r, -⟩, S0, -⟩ := H0
  obtain ⟨h, hh⟩ : ∃ h, hl m 12 = h := ⟨_, rfl⟩
  have p := hl_or m 12
  rw [hh] at p c
  have pr := isH_rng p
  have gN := w.2.1
  have fr := vs_s w.1 (vs_fs w)
  obtain ⟨mB, hB⟩ : ∃ mB, mB = st (st m 11 5 3) 11 6 (fs G) := ⟨_, rfl⟩
  have eB : ∀ a j, ¬ (a = 11 ∧ (j = 5 ∨ j = 6)) → mB a j = m a j := fun a j z => by rw [hB, st_at (by omega), st_at (by omega)]
  obtain ⟨x, mC, mD, c1, d1, q, hx, cq, rq, ca, I⟩ := both_sr (k := 3) (k' := 2) (g := fs G) (g' := 0) hh H eB (by decide) (by decide) (by rw [hB, ld_st_ne (by decide), ld_st_eq]; rfl) (fun _ => by rw [hB, ld_st_eq, w32_id (by omega) (by omega)]) (there2 w)
  have cB : CH mB h G := CH_cg c (fun a j z => ldq (eB a j (by rcases z with rfl | ⟨z1, z2⟩ | ⟨rfl, z⟩ <;> omega)))
  have hhB : hl mB 12 = h := by rw [hl_cg (eB 0 12 (by decide)), hh]
  refine ⟨wt x v, mC, wt x v, mD, ?_, ?_, rfl, ⟨G, I⟩⟩
  · unfold cL_back cH_firstState cS_seekState
    rw [hh, bnd_some, ch_fs c, stf_eq, stf_eq, bnd_some, ← hB, cY_state_ok, bnd_some, hhB, cH_bitsOfAll_ok p cB (by decide) (by decide) gN.1 gN.2, bnd_some, show G 0 1 = nN G from rfl, ldq (eB 22 0 (by decide)), c1, bnd_some, cS_wayTo_ok w q cq hx hv, bnd_some]
  · unfold r_back
    rw [d1, bnd_some, r_wayTo_ok w q rq hx hv, bnd_some]
theorem ok_shortest {g v : Int} (hg : rg g) (hv : rg v) : okI (cL_shortest g v) (r_shortest g v) := by
  intro m hi
  obtain ⟨G, H⟩ := hi
  have H0 : IG m G := H
  obtain ⟨⟨w, hD, -, c, M, r, -⟩, S0, -⟩ := H0
  obtain ⟨h, hh⟩ : ∃ h, hl m 12 = h := ⟨_, rfl⟩
  have p := hl_or m 12
  rw [hh] at p c
  have pr := isH_rng p
  have gN := w.2.1
  by_cases dg : 0 ≤ g ∧ g ≤ bd (nD G)
  · obtain ⟨mB, hB⟩ : ∃ mB, mB = st (st m 11 5 1) 11 6 g := ⟨_, rfl⟩
    have eB : ∀ a j, ¬ (a = 11 ∧ (j = 5 ∨ j = 6)) → mB a j = m a j := fun a j z => by rw [hB, st_at (by omega), st_at (by omega)]
    obtain ⟨x, mC, mD, c1, d1, q, hx, cq, rq, ca, I⟩ := both_sr (k := 1) (k' := 0) (g := g) (g' := g) hh H eB (by decide) (by decide) (by rw [hB, ld_st_ne (by decide), ld_st_eq]; rfl) (fun _ => by rw [hB, ld_st_eq, w32_rg hg]) (there0 w hD hg)
    have cB : CH mB h G := CH_cg c (fun a j z => ldq (eB a j (by rcases z with rfl | ⟨z1, z2⟩ | ⟨rfl, z⟩ <;> omega)))
    have hhB : hl mB 12 = h := by rw [hl_cg (eB 0 12 (by decide)), hh]
    refine ⟨wt x v, mC, wt x v, mD, ?_, ?_, rfl, ⟨G, I⟩⟩
    · unfold cL_shortest cS_seekJustDoors
      rw [hh, cH_areDoors_ok p w c, bnd_some, w32_rg hg, if_pos dg, if_neg (by decide), stf_eq, stf_eq, bnd_some, ← hB, cY_state_ok, bnd_some, hhB, cH_bitsOfAll_ok p cB (by decide) (by decide) gN.1 gN.2, bnd_some, show G 0 1 = nN G from rfl, ldq (eB 22 0 (by decide)), c1, bnd_some, cS_wayTo_ok w q cq hx hv, bnd_some]
    · unfold r_shortest
      rw [r_areDoors_ok w ca, bnd_some, w32_rg hg, if_pos dg, if_neg (by decide), d1, bnd_some, r_wayTo_ok w q rq hx hv, bnd_some]
  · refine ⟨-1, m, -1, m, ?_, ?_, rfl, ⟨G, H⟩⟩
    · unfold cL_shortest
      rw [hh, cH_areDoors_ok p w c, bnd_some, w32_rg hg, if_neg dg, if_pos (by decide)]
    · unfold r_shortest
      rw [r_areDoors_ok w r, bnd_some, w32_rg hg, if_neg dg, if_pos (by decide)]
theorem ok_states : okI cL_states r_states := by
  intro m hi
  obtain ⟨G, H⟩ := hi
  have H0 : IG m G := H
  obtain ⟨⟨w, hD, -, c, M, r, -⟩, S0, -⟩ := H0
  obtain ⟨h, hh⟩ : ∃ h, hl m 12 = h := ⟨_, rfl⟩
  have p := hl_or m 12
  rw [hh] at p c
  have pr := isH_rng p
  have gN := w.2.1
  obtain ⟨mB, hB⟩ : ∃ mB, mB = st m 11 5 0 := ⟨_, rfl⟩
  have eB : ∀ a j, ¬ (a = 11 ∧ (j = 5 ∨ j = 6)) → mB a j = m a j := fun a j z => by rw [hB, st_at (by omega)]
  obtain ⟨x, mC, mD, c1, d1, q, hx, cq, rq, ca, I⟩ := both_sr (k := 0) (k' := 3) (g := 0) (g' := 0) hh H eB (by decide) (by decide) (by rw [hB, ld_st_eq]; rfl) (fun z => absurd rfl z) there3
  have cB : CH mB h G := CH_cg c (fun a j z => ldq (eB a j (by rcases z with rfl | ⟨z1, z2⟩ | ⟨rfl, z⟩ <;> omega)))
  have hhB : hl mB 12 = h := by rw [hl_cg (eB 0 12 (by decide)), hh]
  refine ⟨x.2.length, mC, x.2.length, mD, ?_, ?_, rfl, ⟨G, I⟩⟩
  · unfold cL_states cS_seekNothing cS_reached
    rw [stf_eq, bnd_some, ← hB, cY_state_ok, bnd_some, hhB, cH_bitsOfAll_ok p cB (by decide) (by decide) gN.1 gN.2, bnd_some, show G 0 1 = nN G from rfl, ldq (eB 22 0 (by decide)), c1, bnd_some, bnd_some, cq.1]
  · unfold r_states
    rw [d1, bnd_some, rq.1]
