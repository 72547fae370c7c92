/-! calls that try things out and put all back; judge -/
def qset (h : Nat) (a : Nat) (k : Int) : Prop := scr a k ∨ a = 110 ∨ fTP a k ∨ fRF a k ∨ fHE a k ∨ fJU a k ∨ fSL a k ∨ fIM a k ∨ (a = h + 1 ∧ k = 3) ∨ a = h + 3 ∨ a = h + 14
theorem IG_qry {m m' : xm} {G : hv} {h : Nat} (hh : hl m 12 = h) (H : IG m G) (e : ∀ a k, ¬ qset h a k → m' a k = m a k) (M : CM m' h G) (e110 : ∀ k, 0 ≤ k → k < 127 → ld m' 110 k = ld m 110 k) (T : TP m') (R : RF m') (E : HE m' G) (J : JU m') (L : SL m') (I : IM m') : IG m' G := by
  obtain ⟨h1, h2, h3, h4, h5, h6, h7, h8, h9, h10, h11⟩ := H
  have p := hl_or m 12
  rw [hh] at p
  have pr := isH_rng p
  obtain ⟨w1, w2, w3, w4, w5, w6, w7⟩ := h1
  rw [hh] at w4 w5
  obtain ⟨S, s1, s2, s3⟩ := SN_to h2
  have hL := w1.1.2.1
  have q : ∀ a k, a < 48 ∨ 78 ≤ a → ¬ (scr a k ∨ a = 110 ∨ fTP a k ∨ fRF a k ∨ fHE a k ∨ fJU a k ∨ fSL a k ∨ fIM a k) → m' a k = m a k := fun a k g z => e a k (fun y => by
    rcases y with y | y | y | y | y | y | y | y | y | y | y
    · exact z (Or.inl y)
    · exact z (Or.inr (Or.inl y))
    · exact z (Or.inr (Or.inr (Or.inl y)))
    · exact z (Or.inr (Or.inr (Or.inr (Or.inl y))))
    · exact z (Or.inr (Or.inr (Or.inr (Or.inr (Or.inl y)))))
    · exact z (Or.inr (Or.inr (Or.inr (Or.inr (Or.inr (Or.inl y))))))
    · exact z (Or.inr (Or.inr (Or.inr (Or.inr (Or.inr (Or.inr (Or.inl y)))))))
    · exact z (Or.inr (Or.inr (Or.inr (Or.inr (Or.inr (Or.inr (Or.inr y)))))))
    · omega
    · omega
    · omega)
  have e12 : hl m' 12 = h := by rw [hl_cg (q 0 12 (by decide) (by unfold scr fTP fRF fHE fJU fSL fIM; omega)), hh]
  have e13 : hl m' 13 = hl m 13 := hl_cg (q 0 13 (by decide) (by unfold scr fTP fRF fHE fJU fSL fIM; omega))
  refine ⟨⟨w1, w2, by rw [e12, e13, ← hh]; exact w3, ?_, by rw [e12]; exact M, RH_cg w6 (fun a k g1 g2 _ => ldq (q a k (by omega) (by unfold scr fTP fRF fHE fJU fSL fIM; omega))), NM_cg w7 (fun k => q 102 k (by decide) (by unfold scr fTP fRF fHE fJU fSL fIM; omega))⟩, ?_, PS_cg h3 (fun a k z => q a k ?_ ?_), T, FA_cg h5 (fun a k z => q a k ?_ ?_), R, E, J, L, I, SE_cg h11 (fun a k z => q a k ?_ ?_)⟩
  · rw [e12]
    exact CH_cg w4 (fun a k z => ldq (e a k (fun y => by
      unfold qset scr fTP fRF fHE fJU fSL fIM at y
      rcases z with rfl | ⟨z1, z2⟩ | ⟨rfl, z⟩ <;> omega)))
  · refine SN_of s1 (SC_cg s2 (fun k => q 22 k (by decide) (by unfold scr fTP fRF fHE fJU fSL fIM; omega))) (SR_cg s3 (fun k g1 g2 => e110 k g1 (by omega)) s1.2.2.1 hL)
  · unfold fPS at z; omega
  · unfold fPS at z; unfold scr fTP fRF fHE fJU fSL fIM; omega
  · unfold fFA at z; omega
  · unfold fFA at z; unfold scr fTP fRF fHE fJU fSL fIM; omega
  · unfold fSE at z; omega
  · unfold fSE at z; unfold scr fTP fRF fHE fJU fSL fIM; omega
theorem aside_loop {m0 : xm} : ∀ (f k : Nat) {m : xm}, k ≤ 127 → 127 - k < f → (∀ i, 0 ≤ i → i < (k : Int) → ld m 111 i = ld m0 110 i) → (∀ x i, x ≠ 111 → m x i = m0 x i) → ∃ m', r_putsAside_2 f (k : Int) m = some (0, m') ∧ (∀ i, 0 ≤ i → i < 127 → ld m' 111 i = ld m0 110 i) ∧ ∀ x i, x ≠ 111 → m' x i = m0 x i := by
  intro f
  induction f with
  | zero => intro k m _ hf; omega
  | succ f ih =>
    intro k m hk hf h1 h3
    rw [r_putsAside_2, w32_id (x := (k : Int)) (by omega) (by omega)]
    by_cases he : k = 127
    · subst he
      rw [if_pos (by decide)]
      exact ⟨m, rfl, h1, h3⟩
    · rw [if_neg (by omega), ial_in (by omega) (by rw [al110]; omega), ias_in (by omega) (by rw [al111]; omega)]
      refine ih (k + 1) (m := st m 111 (k : Int) (ld m 110 (k : Int))) (by omega) (by omega) (fun i g1 g2 => ?_) (fun x i g => by rw [st_at (fun z => g z.1)]; exact h3 x i g)
      by_cases hik : i = (k : Int)
      · rw [hik, ld_st_eq, w32_ld, ldq (h3 110 _ (by decide))]
      · rw [ld_st_ne (by omega)]
        exact h1 i g1 (by omega)
theorem back_loop {m0 : xm} : ∀ (f k : Nat) {m : xm}, k ≤ 127 → 127 - k < f → (∀ i, 0 ≤ i → i < (k : Int) → ld m 110 i = ld m0 111 i) → (∀ x i, x ≠ 110 → m x i = m0 x i) → ∃ m', r_takesBack_2 f (k : Int) m = some (0, m') ∧ (∀ i, 0 ≤ i → i < 127 → ld m' 110 i = ld m0 111 i) ∧ ∀ x i, x ≠ 110 → m' x i = m0 x i := by
  intro f
  induction f with
  | zero => intro k m _ hf; omega
  | succ f ih =>
    intro k m hk hf h1 h3
    rw [r_takesBack_2, w32_id (x := (k : Int)) (by omega) (by omega)]
    by_cases he : k = 127
    · subst he
      rw [if_pos (by decide)]
      exact ⟨m, rfl, h1, h3⟩
    · rw [if_neg (by omega), ial_in (by omega) (by rw [al111]; omega), ias_in (by omega) (by rw [al110]; omega)]
      refine ih (k + 1) (m := st m 110 (k : Int) (ld m 111 (k : Int))) (by omega) (by omega) (fun i g1 g2 => ?_) (fun x i g => by rw [st_at (fun z => g z.1)]; exact h3 x i g)
      by_cases hik : i = (k : Int)
      · rw [hik, ld_st_eq, w32_ld, ldq (h3 111 _ (by decide))]
      · rw [ld_st_ne (by omega)]
        exact h1 i g1 (by omega)
theorem r_putsAside_ok (m : xm) : ∃ m', r_putsAside m = some (0, m') ∧ (∀ i, 0 ≤ i → i < 127 → ld m' 111 i = ld m 110 i) ∧ ∀ x i, x ≠ 111 → m' x i = m x i := aside_loop xLF 0 (by decide) (by rw [xLF_eq]; decide) (fun i g1 g2 => by omega) (fun _ _ _ => rfl)
theorem r_takesBack_ok (m : xm) : ∃ m', r_takesBack m = some (0, m') ∧ (∀ i, 0 ≤ i → i < 127 → ld m' 110 i = ld m 111 i) ∧ ∀ x i, x ≠ 110 → m' x i = m x i := back_loop xLF 0 (by decide) (by rw [xLF_eq]; decide) (fun i g1 g2 => by omega) (fun _ _ _ => rfl)
/-- how many doors were opened between -/
def opn (G : hv) (s t : Int) : Int := bc (ban (od G t) (bxo (od G s) (-1)))
theorem ban_not0 : ∀ x : Nat, x < 64 → ∀ y : Nat, y < 64 → 0 ≤ ban (x : Int) (bxo (y : Int) (-1)) ∧ ban (x : Int) (bxo (y : Int) (-1)) < 64 := by decide +kernel
theorem ban_not {x y : Int} (h1 : 0 ≤ x) (h2 : x < 64) (h3 : 0 ≤ y) (h4 : y < 64) : 0 ≤ ban x (bxo y (-1)) ∧ ban x (bxo y (-1)) < 64 := by
  obtain ⟨a, ha, rfl⟩ := nat2 (n := 64) h1 h2
  obtain ⟨b, hb, rfl⟩ := nat2 (n := 64) h3 h4
  exact ban_not0 a ha b hb
/-- r notes are left: how many could be played, the state then, how often doors were opened -/
def jgs (G : hv) (N : Int → Int) (len : Int) : Nat → Int → Int → Int × Int × Int
  | 0, s, c => (len, s, c)
  | r + 1, s, c => if cpb G s (N (len - ((r + 1 : Nat) : Int))) = true then jgs G N len r (ag G (N (len - ((r + 1 : Nat) : Int))) s) (c + opn G s (ag G (N (len - ((r + 1 : Nat) : Int))) s)) else (len - ((r + 1 : Nat) : Int), s, c)
theorem jgs_vs {G : hv} (w : wfG G) {N : Int → Int} {len : Int} : ∀ (r : Nat) {s c : Int}, vs G s → vs G (jgs G N len r s c).2.1
  | 0, _, _, h => h
  | r + 1, s, c, h => by
    unfold jgs
    split
    · exact jgs_vs w r (vs_ag w.1 h)
    · exact h
theorem jgs_rg {G : hv} {N : Int → Int} {len : Int} : ∀ (r : Nat) {s c : Int}, 0 ≤ c → c ≤ 6 * (20 - (r : Int)) → (r : Int) ≤ 20 → 0 ≤ (jgs G N len r s c).2.2 ∧ (jgs G N len r s c).2.2 ≤ 120
  | 0, _, _, h1, h2, _ => by unfold jgs; dsimp only; omega
  | r + 1, s, c, h1, h2, h3 => by
    unfold jgs
    split
    · have hb : 0 ≤ opn G s (ag G (N (len - ((r + 1 : Nat) : Int))) s) ∧ opn G s (ag G (N (len - ((r + 1 : Nat) : Int))) s) ≤ 6 := bc_rng
      exact jgs_rg r (by omega) (by omega) (by omega)
    · dsimp only; omega
theorem judge_loop {G : hv} {h : Nat} (p : isH h) (w : wfG G) (hD : wfD G) {N : Int → Int} {len : Int} (h0 : 0 ≤ len) (h20 : len ≤ 20) (hN : ∀ i, 0 ≤ i → i < len → ntk G (N i)) : ∀ (r f : Nat) {m : xm} {s c : Int}, (r : Int) ≤ len → r < f → hl m 12 = h → CH m h G → CM m h G → vs G s → ld m 16 1 = len → (∀ i, 0 ≤ i → i < len → ld m 17 i = N i) → ∃ m', cL_judge_36 f s c (len - (r : Int)) m = cL_judge_119 (jgs G N len r s c).2.1 (jgs G N len r s c).2.2 (jgs G N len r s c).1 m' ∧ fo h m m' ∧ CM m' h G := by
  have pr := isH_rng p
  have gN := w.2.1
  intro r
  induction r with
  | zero =>
    intro f m s c hr hf hh ch M hv h16 h17
    obtain ⟨f, rfl⟩ : ∃ f', f = f' + 1 := ⟨f - 1, by omega⟩
    rw [cL_judge_36]
    unfold cP_length
    rw [bnd_some, w32_ld, h16, w32_id (x := len - ((0 : Nat) : Int)) (by omega) (by omega), if_pos (by omega)]
    refine ⟨m, ?_, fo_refl, M⟩
    show cL_judge_119 s c (len - 0) m = cL_judge_119 s c len m
    rw [Int.sub_zero]
  | succ r ih =>
    intro f m s c hr hf hh ch M hv h16 h17
    obtain ⟨f, rfl⟩ : ∃ f', f = f' + 1 := ⟨f - 1, by omega⟩
    obtain ⟨k, hk⟩ : ∃ k, len - ((r + 1 : Nat) : Int) = k := ⟨_, rfl⟩
    have hnk := hN k (by omega) (by omega)
    have hnr : rg (N k) := by rcases hnk with z | z <;> unfold rg <;> omega
    rw [cL_judge_36]
    unfold cP_length jgs
    rw [hk, bnd_some, w32_ld, h16, w32_id (x := k) (by omega) (by omega), if_neg (by omega), cP_noteAt_ok (by omega) (by omega), bnd_some, h17 k (by omega) (by omega), hh]
    by_cases q : cp G s (N k)
    · have va := vs_ag w.1 (n := N k) hv
      obtain ⟨m1, b1, b2, b3⟩ := cH_openDoors_ok p w hD va ch M
      have hh1 : hl m1 12 = h := by rw [hl_cg (by rw [fo_out p b2 (by decide)]), hh]
      obtain ⟨m2, d1, d2, d3⟩ := cH_openDoors_ok p w hD hv (fo_CH b2 ch) b3
      have hh2 : hl m2 12 = h := by rw [hl_cg (by rw [fo_out p d2 (by decide)]), hh1]
      have fall := fo_trans b2 d2
      have o1 := od_rng w hD s
      have o2 := od_rng w hD (ag G (N k) s)
      have bn := ban_not o2.1 o2.2 o1.1 o1.2
      obtain ⟨m3, g1, g2, g3⟩ := ih f (m := m2) (s := ag G (N k) s) (c := c + opn G s (ag G (N k) s)) (by omega) (by omega) hh2 (fo_CH fall ch) d3 va (by rw [ld_cg (fo_out p fall (by decide))]; exact h16) (fun i z1 z2 => by rw [ld_cg (fo_out p fall (by decide))]; exact h17 i z1 z2)
      rw [cH_canPlay_in p w ch hv q, bnd_some, if_neg (by decide), cP_noteAt_ok (by omega) (by omega), bnd_some, h17 k (by omega) (by omega), hh, cH_after_ag p w ch hv hnk, bnd_some, hh, b1, bnd_some, hh1, d1, bnd_some, j_bitCount_bc bn.1 bn.2, bnd_some, xlt_eq, if_pos (cpb_iff.mpr q), show k + 1 = len - (r : Int) by omega]
      exact ⟨m3, g1, fo_trans fall g2, g3⟩
    · rw [cH_canPlay_out p w ch hv (by rw [w32_rg hnr]; exact q), bnd_some, if_pos (by decide), if_neg (fun z => q (cpb_iff.mp z))]
      exact ⟨m, rfl, fo_refl, M⟩
def fJ (m m' : xm) : Prop := ∀ a k, a ≠ 110 → ¬ (a = 78 ∧ (k = 90 ∨ k = 50)) → a ≠ 140 → m' a k = m a k
theorem r_judge_loop {G : hv} (w : wfG G) (hD : wfD G) {N : Int → Int} {len : Int} (h0 : 0 ≤ len) (h20 : len ≤ 20) (hN : ∀ i, 0 ≤ i → i < len → ntk G (N i)) : ∀ (r f : Nat) {m : xm} {s c : Int}, (r : Int) ≤ len → r < f → RH m G → vs G s → NR m G s → 0 ≤ c → c ≤ 6 * (20 - (r : Int)) → ld m 78 50 = c → ld m 78 46 = len → (∀ i, 0 ≤ i → i < len → ld m 112 i = N i) → ∃ m', r_judge_25 f (len - (r : Int)) m = r_judge_87 (jgs G N len r s c).1 m' ∧ fJ m m' ∧ NR m' G (jgs G N len r s c).2.1 ∧ ld m' 78 50 = (jgs G N len r s c).2.2 := by
  have gN := w.2.1
  intro r
  induction r with
  | zero =>
    intro f m s c hr hf H hv hn hc0 hc1 h50 h46 h112
    obtain ⟨f, rfl⟩ : ∃ f', f = f' + 1 := ⟨f - 1, by omega⟩
    rw [r_judge_25, h46, w32_id (x := len - ((0 : Nat) : Int)) (by omega) (by omega), if_pos (by omega)]
    refine ⟨m, ?_, fun _ _ _ _ _ => rfl, hn, h50⟩
    show r_judge_87 (len - 0) m = r_judge_87 len m
    rw [Int.sub_zero]
  | succ r ih =>
    intro f m s c hr hf H hv hn hc0 hc1 h50 h46 h112
    obtain ⟨f, rfl⟩ : ∃ f', f = f' + 1 := ⟨f - 1, by omega⟩
    obtain ⟨k, hk⟩ : ∃ k, len - ((r + 1 : Nat) : Int) = k := ⟨_, rfl⟩
    have hnk := hN k (by omega) (by omega)
    have rc := r_canPlay_ok w H hv hn (n := N k) hnk
    rw [r_judge_25]
    unfold jgs
    rw [hk, h46, w32_id (x := k) (by omega) (by omega), if_neg (by omega), ial_in (by omega) (by rw [al112]; omega), h112 k (by omega) (by omega)]
    by_cases q : cp G s (N k)
    · have va := vs_ag w.1 (n := N k) hv
      obtain ⟨m1, b1, b2⟩ := r_openNow_ok w hD hv H hn
      obtain ⟨m2, d1, d2, d3⟩ := r_turns_ok w (fq_RH b2 H) hv (fq_NR b2 hn) hnk
      have H2 := fn_RH d3 (fq_RH b2 H)
      obtain ⟨m3, e1, e2⟩ := r_openNow_ok w hD va H2 d2
      have o1 := od_rng w hD s
      have o2 := od_rng w hD (ag G (N k) s)
      have bn := ban_not o2.1 o2.2 o1.1 o1.2
      have hb : 0 ≤ opn G s (ag G (N k) s) ∧ opn G s (ag G (N k) s) ≤ 6 := bc_rng
      have x50 : ld m2 78 50 = c := by rw [ldq (d3 78 50 (by decide)), fq_ld b2 (by decide) (by decide), h50]
      have fall : ∀ a j, a ≠ 110 → ¬ (a = 78 ∧ j = 90) → a ≠ 140 → m3 a j = m a j := fun a j z1 z2 z3 => by rw [e2 a j z2 z3, d3 a j (fun y => z1 y.1), b2 a j z2 z3]
      have f4 : fJ m (st m3 78 50 (c + opn G s (ag G (N k) s))) := fun a j z1 z2 z3 => by rw [st_at (by omega), fall a j z1 (by omega) z3]
      obtain ⟨m4, g1, g2, g3, g4⟩ := ih f (m := st m3 78 50 (c + opn G s (ag G (N k) s))) (s := ag G (N k) s) (c := c + opn G s (ag G (N k) s)) (by omega) (by omega) (RH_cg H (fun a j z1 z2 _ => ldq (f4 a j (by omega) (by omega) (by omega)))) va (NR_cg (fq_NR e2 d2) (fun j => ld_st_nc (by decide))) (by omega) (by omega) (by rw [ld_st_eq, w32_id (by omega) (by omega)]) (by rw [ldq (f4 78 46 (by decide) (by decide) (by decide))]; exact h46) (fun i z1 z2 => by rw [ldq (f4 112 i (by decide) (by omega) (by decide))]; exact h112 i z1 z2)
      rw [rc.1 q, bnd_some, if_neg (by decide), b1, bnd_some, ial_in (by omega) (by rw [al112]; omega), ldq (b2 112 k (by omega) (by decide)), h112 k (by omega) (by omega), d1, bnd_some, e1, bnd_some, r_bits_ok bn.1 bn.2, bnd_some, stf_eq, x50, if_pos (cpb_iff.mpr q), show k + 1 = len - (r : Int) by omega]
      exact ⟨m4, g1, fun a j z1 z2 z3 => by rw [g2 a j z1 z2 z3, f4 a j z1 z2 z3], g3, g4⟩
    · rw [rc.2 q, bnd_some, if_pos (by decide), if_neg (fun z => q (cpb_iff.mp z))]
      exact ⟨m, rfl, fun _ _ _ _ _ => rfl, hn, h50⟩
theorem ok_judge : okI cL_judge r_judge := by
  intro m hi
  obtain ⟨G, H⟩ := hi
  have H0 : IG m G := H
  obtain ⟨⟨w, hD, -, c, M, r, -⟩, S0, P0, T, -, R, HH, JJ, LL, II, E⟩ := H0
  have vS := S0.1
  have N0 := SN_NR S0
  obtain ⟨h, hh⟩ : ∃ h, hl m 12 = h := ⟨_, rfl⟩
  have p := hl_or m 12
  rw [hh] at p c M
  have pr := isH_rng p
  obtain ⟨t1, t2, t3, t4⟩ := T
  have tk := cP_take_ok p w c ⟨t1, t2, t3, t4⟩
  by_cases hg : gp m G
  · obtain ⟨mT, k1, k2, k3, k4, k5⟩ := tk.1 hg
    have hhT : hl mT 12 = h := by rw [hl_cg (k2 0 12 (by decide) (by decide) (by decide)), hh]
    have cT : CH mT h G := CH_cg c (fun a k z => ldq (k2 a k (by rcases z with rfl | ⟨z1, z2⟩ | ⟨rfl, z⟩ <;> omega) (by rcases z with rfl | ⟨z1, z2⟩ | ⟨rfl, z⟩ <;> omega) (by rcases z with rfl | ⟨z1, z2⟩ | ⟨rfl, z⟩ <;> omega)))
    have MT : CM mT h G := CM_cg M (fun k => k2 _ k (by omega) (by omega) (by omega))
    have hsT : ld mT 22 0 = ld m 22 0 := ldq (k2 22 0 (by decide) (by decide) (by decide))
    have h20 := hg.1
    obtain ⟨mA, a1, a2, a3⟩ := judge_loop p w hD (N := fun i => ld m 2 i) (len := ld m 1 1) t2 hg.1 hg.2 (ld m 1 1).toNat xLF (m := mT) (s := ld m 22 0) (c := 0) (by omega) (by rw [xLF_eq]; omega) hhT cT MT vS k4 k5
    rw [show ld m 1 1 - ((ld m 1 1).toNat : Int) = 0 by omega] at a1
    obtain ⟨R3, hR⟩ : ∃ R3, jgs G (fun i => ld m 2 i) (ld m 1 1) (ld m 1 1).toNat (ld m 22 0) 0 = R3 := ⟨_, rfl⟩
    have vR : vs G R3.2.1 := by rw [← hR]; exact jgs_vs w _ vS
    have oR : 0 ≤ R3.2.2 ∧ R3.2.2 ≤ 120 := by rw [← hR]; exact jgs_rg _ (Int.le_refl _) (by omega) (by omega)
    have jR := vs_j w.1 vR
    have sR := vs_s w.1 vR
    have odR := od_rng w hD R3.2.1
    rw [hR] at a1
    have cA := fo_CH a2 cT
    have hhA : hl mA 12 = h := by rw [hl_cg (by rw [fo_out p a2 (by decide)]), hhT]
    obtain ⟨mB, b1, b2, b3⟩ := cH_openDoors_ok p w hD vR cA a3
    have cB := fo_CH b2 cA
    have hhB : hl mB 12 = h := by rw [hl_cg (by rw [fo_out p b2 (by decide)]), hhA]
    obtain ⟨mC, hmC⟩ : ∃ mC, mC = st (st (st (st mB 44 0 (od G R3.2.1)) 44 1 (jm G R3.2.1)) 44 2 R3.2.2) 0 14 1 := ⟨_, rfl⟩
    have hh44 : hl (st mB 44 0 (od G R3.2.1)) 12 = h := by rw [hl_cg (st_at (by decide)), hhB]
    have eC : cL_judge m = some (R3.1, mC) := by
      unfold cL_judge
      rw [hh, k1, bnd_some, if_neg (by decide), cY_state_ok, bnd_some, hsT, a1]
      unfold cL_judge_119
      rw [hhA, b1, bnd_some, setCell_in (by decide) (by rw [al44]; decide), bnd_some, hh44, cH_jamsOf_ok w.1 (CH_cg cB (fun a k z => ld_st_nc (by rcases z with rfl | ⟨z1, z2⟩ | ⟨rfl, z⟩ <;> omega))) sR.1 (by omega), bnd_some, setCell_in (by decide) (by rw [al44]; decide), bnd_some, setCell_in (by decide) (by rw [al44]; decide), bnd_some, stf_eq, hmC]
    have frB : ∀ a k, ¬ (a = 16 ∧ k = 1) → a ≠ 17 → ¬ (a = 1 ∧ k = 1) → ¬ (a = h + 1 ∧ k = 3) → a ≠ h + 3 → a ≠ h + 14 → mB a k = m a k := fun a k y1 y2 y3 y4 y5 y6 => by
      rw [b2 a k y4 y5 y6, a2 a k y4 y5 y6, k2 a k y1 y2 y3]
    have frC : ∀ a k, ¬ scr a k → ¬ fTP a k → ¬ fJU a k → ¬ (a = h + 1 ∧ k = 3) → a ≠ h + 3 → a ≠ h + 14 → mC a k = m a k := fun a k y1 y2 y3 y4 y5 y6 => by
      unfold scr at y1
      unfold fTP at y2
      unfold fJU at y3
      rw [hmC, st_at (by omega), st_at (by omega), st_at (by omega), st_at (by omega), frB a k (by omega) (by omega) (by omega) y4 y5 y6]
    have frR : ∀ a, 78 ≤ a → mC a = m a := fun a z => by
      funext k
      rw [hmC, st_at (by omega), st_at (by omega), st_at (by omega), st_at (by omega), frB a k (by omega) (by omega) (by omega) (by omega) (by omega) (by omega)]
    -- the reference
    have rC : RH mC G := RH_cg r (fun a k g1 _ _ => ld_cg (frR a (by omega)) k)
    have e79 : ∀ i, 0 ≤ i → i < ld m 1 1 → ld mC 79 i = ld m 2 i := fun i z1 z2 => by rw [ld_cg (frR 79 (by decide)), (t4 i z1 z2).1]
    obtain ⟨mD, d1, d2, d3, d4, d5⟩ := (r_isPiece_ok w rC (l := 0) (n := ld m 1 1) (Or.inl rfl) (by rw [ld_cg (frR 78 (by decide)), t1]) t2 t3 (fun i z1 z2 => by rw [e79 i z1 z2]; exact (t4 i z1 z2).2)).1 ⟨t2, hg.1, fun i z1 z2 => by rw [e79 i z1 z2]; exact hg.2 i z1 z2⟩
    obtain ⟨mE, e1, e2, e3⟩ := r_putsAside_ok mD
    have NE : NR (st mE 78 50 0) G (ld m 22 0) := NR_cg N0 (fun k => by
      rw [ld_st_nc (by decide), ldq (e3 110 k (by decide)), ldq (d2 110 k (by omega) (by decide)), ld_cg (frR 110 (by decide))])
    have rE : RH (st mE 78 50 0) G := RH_cg rC (fun a k z1 z2 _ => by rw [ld_st_nc (by omega), ldq (e3 a k (by omega)), ldq (d2 a k (by omega) (by omega))])
    obtain ⟨mF, f1, f2, f3, f4⟩ := r_judge_loop w hD (N := fun i => ld m 2 i) (len := ld m 1 1) t2 hg.1 hg.2 (ld m 1 1).toNat xLF (m := st mE 78 50 0) (s := ld m 22 0) (c := 0) (by omega) (by rw [xLF_eq]; omega) rE vS NE (Int.le_refl _) (by omega) (by rw [ld_st_eq]; rfl) (by rw [ld_st_ne (by decide), ldq (e3 78 46 (by decide))]; exact d4) (fun i z1 z2 => by rw [ld_st_nc (by decide), ldq (e3 112 i (by decide)), d5 i z1 z2, e79 i z1 z2])
    rw [show ld m 1 1 - ((ld m 1 1).toNat : Int) = 0 by omega] at f1
    rw [hR] at f1 f3 f4
    have rF : RH mF G := RH_cg rE (fun a k z1 z2 _ => ldq (f2 a k (by omega) (by omega) (by omega)))
    obtain ⟨mG, g1, g2⟩ := r_openNow_ok w hD vR rF f3
    have NG : NR (st mG 78 48 (od G R3.2.1)) G R3.2.1 := NR_cg (fq_NR g2 f3) (fun k => ld_st_nc (by decide))
    obtain ⟨mH, hmH⟩ : ∃ mH, mH = st (st (st mG 78 48 (od G R3.2.1)) 78 49 (jm G R3.2.1)) 78 47 1 := ⟨_, rfl⟩
    obtain ⟨mI, i1, i2, i3⟩ := r_takesBack_ok mH
    have eR : r_judge mC = some (R3.1, mI) := by
      unfold r_judge
      rw [d1, bnd_some, if_neg (by decide), e1, bnd_some, stf_eq, f1]
      unfold r_judge_87
      rw [g1, bnd_some, stf_eq, r_jammedNow_ok NG, bnd_some, stf_eq, stf_eq, ← hmH, i1, bnd_some]
    have frH : ∀ a k, a ≠ 110 → a ≠ 111 → a ≠ 112 → a ≠ 140 → ¬ (a = 78 ∧ (k = 1 ∨ k = 46 ∨ k = 47 ∨ k = 48 ∨ k = 49 ∨ k = 50 ∨ k = 90)) → mH a k = mC a k := fun a k y1 y2 y3 y4 y5 => by
      rw [hmH, st_at (by omega), st_at (by omega), st_at (by omega), g2 a k (by omega) (by omega), f2 a k y1 (by omega) y4, st_at (by omega), e3 a k y2, d2 a k (by omega) y3]
    have frI : ∀ a k, a ≠ 110 → a ≠ 111 → a ≠ 112 → a ≠ 140 → ¬ (a = 78 ∧ (k = 1 ∨ k = 46 ∨ k = 47 ∨ k = 48 ∨ k = 49 ∨ k = 50 ∨ k = 90)) → mI a k = mC a k := fun a k y1 y2 y3 y4 y5 => by
      rw [i3 a k y1, frH a k y1 y2 y3 y4 y5]
    have x111 : ∀ i, 0 ≤ i → i < 127 → ld mH 111 i = ld m 110 i := fun i z1 z2 => by
      have : mH 111 i = mE 111 i := by
        rw [hmH, st_at (by omega), st_at (by omega), st_at (by omega), g2 111 i (by omega) (by decide), f2 111 i (by decide) (by omega) (by decide), st_at (by omega)]
      rw [ldq this, e2 i z1 z2, ldq (d2 110 i (by omega) (by decide)), ld_cg (frR 110 (by decide))]
    have clI : ∀ a, a < 78 → mI a = mC a := fun a z => by
      funext k
      exact frI a k (by omega) (by omega) (by omega) (by omega) (by omega)
    have frIm : ∀ a k, ¬ qset h a k → mI a k = m a k := fun a k z => by
      have y1 : ¬ scr a k := fun q => z (Or.inl q)
      have y2 : a ≠ 110 := fun q => z (Or.inr (Or.inl q))
      have y3 : ¬ fTP a k := fun q => z (Or.inr (Or.inr (Or.inl q)))
      have y4 : ¬ fJU a k := fun q => z (Or.inr (Or.inr (Or.inr (Or.inr (Or.inr (Or.inl q))))))
      have y5 : ¬ (a = h + 1 ∧ k = 3) ∧ a ≠ h + 3 ∧ a ≠ h + 14 := ⟨fun q => z (by unfold qset; simp [q]), fun q => z (by unfold qset; simp [q]), fun q => z (by unfold qset; simp [q])⟩
      rw [frI a k y2 (by unfold scr at y1; omega) (by unfold scr at y1; omega) (by unfold scr at y1; omega) (by unfold scr at y1; unfold fTP at y3; unfold fJU at y4; omega), frC a k y1 y3 y4 y5.1 y5.2.1 y5.2.2]
    refine ⟨_, mC, _, mI, eC, eR, rfl, ⟨G, IG_qry hh H frIm (CM_cg b3 (fun k => by rw [clI _ (by omega), hmC, st_at (by omega), st_at (by omega), st_at (by omega), st_at (by omega)])) (fun k z1 z2 => by rw [i2 k z1 z2, x111 k z1 z2]) ?_ ?_ ?_ ?_ ?_ ?_⟩⟩
    · have a11 : ld mI 1 1 = 0 := by
        rw [ld_cg (clI 1 (by decide)), hmC, ld_st_nc (by decide), ld_st_nc (by decide), ld_st_nc (by decide), ld_st_nc (by decide), ldq (b2 1 1 (by omega) (by omega) (by omega)), ldq (a2 1 1 (by omega) (by omega) (by omega)), k3]
      have a78 : ld mI 78 1 = 0 := by
        rw [ldq (i3 78 1 (by decide)), hmH, ld_st_ne (by decide), ld_st_ne (by decide), ld_st_ne (by decide), fq_ld g2 (by decide) (by decide), ldq (f2 78 1 (by decide) (by decide) (by decide)), ld_st_ne (by decide), ldq (e3 78 1 (by decide)), d3]
      unfold TP
      rw [a11, a78]
      exact ⟨rfl, Int.le_refl _, by decide, fun i g1 g2 => by omega⟩
    · refine RF_cg R (fun a k z => ?_)
      unfold fRF at z
      rw [frI a k (by omega) (by omega) (by omega) (by omega) (by omega), frC a k (by unfold scr; omega) (by unfold fTP; omega) (by unfold fJU; omega) (by omega) (by omega) (by omega)]
    · refine HE_cg HH (fun a k z => ?_)
      unfold fHE at z
      rw [frI a k (by omega) (by omega) (by omega) (by omega) (by omega), frC a k (by unfold scr; omega) (by unfold fTP; omega) (by unfold fJU; omega) (by omega) (by omega) (by omega)]
    · have j0 : ld mI 0 14 = 1 := by rw [ld_cg (clI 0 (by decide)), hmC, ld_st_eq]; rfl
      have j78 : ∀ k, 47 ≤ k → k ≤ 50 → ld mI 78 k = ld mH 78 k := fun k _ _ => ldq (i3 78 k (by decide))
      unfold JU
      rw [j0, j78 47 (by decide) (by decide), j78 48 (by decide) (by decide), j78 49 (by decide) (by decide), j78 50 (by decide) (by decide), ld_cg (clI 44 (by decide)), ld_cg (clI 44 (by decide)), ld_cg (clI 44 (by decide)), hmC, hmH]
      refine ⟨by rw [ld_st_eq]; rfl, fun _ => ⟨?_, ?_, ?_⟩⟩
      · rw [ld_st_nc (by decide), ld_st_ne (by decide), ld_st_ne (by decide), ld_st_eq, ld_st_ne (by decide), ld_st_ne (by decide), ld_st_eq]
      · rw [ld_st_nc (by decide), ld_st_ne (by decide), ld_st_eq, ld_st_ne (by decide), ld_st_eq]
      · rw [ld_st_nc (by decide), ld_st_eq, ld_st_ne (by decide), ld_st_ne (by decide), ld_st_ne (by decide), fq_ld g2 (by decide) (by decide), f4, w32_id (by omega) (by omega)]
    · refine SL_cg LL (fun a k z => ?_)
      unfold fSL at z
      rw [frI a k (by omega) (by omega) (by omega) (by omega) (by omega), frC a k (by unfold scr; omega) (by unfold fTP; omega) (by unfold fJU; omega) (by omega) (by omega) (by omega)]
    · refine IM_cg II (fun a k z => ?_)
      unfold fIM at z
      rw [frI a k (by omega) (by omega) (by omega) (by omega) (by omega), frC a k (by unfold scr; omega) (by unfold fTP; omega) (by unfold fJU; omega) (by omega) (by omega) (by omega)]
  · obtain ⟨mT, k1, k2, k3⟩ := tk.2 hg
    obtain ⟨mX, hX⟩ : ∃ mX, mX = st mT 47 1 (ld mT 47 1 + 1) := ⟨_, rfl⟩
    have frR : ∀ a, 78 ≤ a → mX a = m a := fun a z => by
      funext k
      rw [hX, st_at (by omega), k2 a k (by omega) (by omega) (by omega)]
    have rX : RH mX G := RH_cg r (fun a k g1 _ _ => ld_cg (frR a (by omega)) k)
    have e79 : ∀ i, 0 ≤ i → i < ld m 1 1 → ld mX 79 i = ld m 2 i := fun i z1 z2 => by rw [ld_cg (frR 79 (by decide)), (t4 i z1 z2).1]
    obtain ⟨mY, q1, q2, q3⟩ := (r_isPiece_ok w rX (l := 0) (n := ld m 1 1) (Or.inl rfl) (by rw [ld_cg (frR 78 (by decide)), t1]) t2 t3 (fun i z1 z2 => by rw [e79 i z1 z2]; exact (t4 i z1 z2).2)).2 (fun z => hg ⟨z.2.1, fun i z1 z2 => by rw [← e79 i z1 z2]; exact z.2.2 i z1 z2⟩)
    refine ⟨-1, mX, -1, st mY 80 1 (ld mY 80 1 + 1), ?_, ?_, rfl, ⟨G, ok_tref H (by decide) (by decide) k2 k3 (by rw [← hX]; exact q2) q3⟩⟩
    · unfold cL_judge
      rw [hh, k1, bnd_some, if_pos (by decide), cL_refuse_ok (by decide) (by decide), bnd_some, ← hX]
    · unfold r_judge
      rw [q1, bnd_some, if_pos (by decide), r_refuses_ok (by decide) (by decide), bnd_some]
