/-! what was ahead of the latest acts, in the program and in the reference -/
def PC (m : xm) (n : Int) (P : Int → sn) : Prop := ld m 21 3 = n ∧ (0 ≤ ld m 21 2 ∧ ld m 21 2 < 20) ∧ ∀ j, 0 ≤ j → j < n → SC m (24 + ((ld m 21 2 + j) % 20).toNat) (P j)
def PR (m : xm) (G : hv) (n : Int) (P : Int → sn) : Prop := ld m 78 61 = n ∧ (0 ≤ ld m 78 62 ∧ ld m 78 62 < 20) ∧ ∀ j, 0 ≤ j → j < n → SR m G 118 (127 * ((ld m 78 62 + 21 + j - n) % 20)) (P j)
def okP (G : hv) (n : Int) (P : Int → sn) : Prop := 0 ≤ n ∧ n ≤ 20 ∧ ∀ j, 0 ≤ j → j < n → okS G (P j)
theorem PS_of {m : xm} {G : hv} {n : Int} {P : Int → sn} (h : okP G n P) (c : PC m n P) (r : PR m G n P) : PS m G := by
  obtain ⟨c1, c2, c3⟩ := c
  obtain ⟨r1, r2, r3⟩ := r
  obtain ⟨h1, h2, h3⟩ := h
  unfold PS
  rw [c1, r1]
  exact ⟨rfl, h1, h2, c2, r2, fun j g1 g2 => SN_of (h3 j g1 g2) (c3 j g1 g2) (r3 j g1 g2)⟩
theorem PS_to {m : xm} {G : hv} (h : PS m G) : ∃ n P, okP G n P ∧ PC m n P ∧ PR m G n P := by
  obtain ⟨h1, h2, h3, h4, h5, h6⟩ := h
  have key : ∀ j : Int, ∃ S : sn, 0 ≤ j → j < ld m 21 3 → okS G S ∧ SC m (24 + ((ld m 21 2 + j) % 20).toNat) S ∧ SR m G 118 (127 * ((ld m 78 62 + 21 + j - ld m 21 3) % 20)) S := by
    intro j
    by_cases hj : 0 ≤ j ∧ j < ld m 21 3
    · obtain ⟨S, q⟩ := SN_to (h6 j hj.1 hj.2)
      exact ⟨S, fun _ _ => q⟩
    · exact ⟨(0, 0, []), fun g1 g2 => absurd ⟨g1, g2⟩ hj⟩
  obtain ⟨P, hP⟩ := Classical.axiomOfChoice key
  exact ⟨ld m 21 3, P, ⟨h2, h3, fun j g1 g2 => (hP j g1 g2).1⟩, ⟨rfl, h4, fun j g1 g2 => (hP j g1 g2).2.1⟩, ⟨h1.symm, h5, fun j g1 g2 => (hP j g1 g2).2.2⟩⟩
/-- one more act -/
def adP (n : Int) (P : Int → sn) (S : sn) : Int → sn := if n < 20 then (fun j => if j = n then S else P j) else (fun j => if j = 19 then S else P (j + 1))
def adn (n : Int) : Int := if n < 20 then n + 1 else n
theorem okP_ad {G : hv} {n : Int} {P : Int → sn} {S : sn} (h : okP G n P) (hS : okS G S) : okP G (adn n) (adP n P S) := by
  obtain ⟨h1, h2, h3⟩ := h
  unfold adn adP
  by_cases c : n < 20
  · rw [if_pos c, if_pos c]
    refine ⟨by omega, by omega, fun j g1 g2 => ?_⟩
    dsimp only
    split
    · exact hS
    · exact h3 j g1 (by omega)
  · rw [if_neg c, if_neg c]
    refine ⟨h1, h2, fun j g1 g2 => ?_⟩
    dsimp only
    split
    · exact hS
    · exact h3 (j + 1) (by omega) (by omega)
theorem aln_row : ∀ i : Nat, i < 20 → aln (24 + i) = 43 ∧ xia (24 + i) = true := by decide +kernel
theorem copyRow_loop {a b : Nat} (ha : aln a = 43) (hb : aln b = 43) (hab : a ≠ b) {m0 : xm} : ∀ (f k : Nat) {m : xm}, k ≤ 43 → 43 - k < f → (∀ i, 0 ≤ i → i < (k : Int) → ld m b i = ld m0 a i) → (∀ x i, x ≠ b → m x i = m0 x i) → ∃ m', cY_copyRow_2 a b f (k : Int) m = some (0, m') ∧ (∀ i, 0 ≤ i → i < 43 → ld m' b i = ld m0 a i) ∧ ∀ x i, x ≠ b → m' x i = m0 x i := by
  intro f
  induction f with
  | zero => intro k m _ hf; omega
  | succ f ih =>
    intro k m hk hf h1 h2
    rw [cY_copyRow_2, w32_id (x := (k : Int)) (by omega) (by omega)]
    by_cases he : k = 43
    · subst he
      rw [if_pos (by decide)]
      exact ⟨m, rfl, h1, h2⟩
    · rw [if_neg (by omega), cell_in (by omega) (by omega), bnd_some, setCell_in (by omega) (by omega), bnd_some]
      refine ih (k + 1) (m := st m b (k : Int) (ld m a (k : Int))) (by omega) (by omega) (fun i g1 g2 => ?_) (fun x i g => by rw [st_at (fun z => g z.1)]; exact h2 x i g)
      by_cases hik : i = (k : Int)
      · rw [hik, ld_st_eq, w32_ld, ldq (h2 a _ hab)]
      · rw [ld_st_ne hik]
        exact h1 i g1 (by omega)
theorem cY_copyRow_ok {a b : Nat} (ha : aln a = 43) (hb : aln b = 43) (hab : a ≠ b) (m : xm) : ∃ m', cY_copyRow a b m = some (0, m') ∧ (∀ i, 0 ≤ i → i < 43 → ld m' b i = ld m a i) ∧ ∀ x i, x ≠ b → m' x i = m x i := copyRow_loop ha hb hab xLF 0 (by decide) (by rw [xLF_eq]; decide) (fun i g1 g2 => by omega) (fun _ _ _ => rfl)
theorem SC_cp {m m' : xm} {a b : Nat} {S : sn} (hl : S.2.2.length ≤ 40) (h : SC m a S) (e : ∀ i, 0 ≤ i → i < 43 → ld m' b i = ld m a i) : SC m' b S := by
  obtain ⟨h1, h2, h3, h4⟩ := h
  refine ⟨by rw [e 0 (by decide) (by decide)]; exact h1, by rw [e 1 (by decide) (by decide)]; exact h2, by rw [e 2 (by decide) (by decide)]; exact h3, fun i hi => by rw [e _ (by omega) (by omega)]; exact h4 i hi⟩
theorem SC_cg {m m' : xm} {a : Nat} {S : sn} (h : SC m a S) (e : ∀ k, m' a k = m a k) : SC m' a S := by
  have e2 : ∀ k, ld m' a k = ld m a k := fun k => ldq (e k)
  unfold SC
  simp only [e2]
  exact h
theorem SR_cg {m m' : xm} {G : hv} {b : Nat} {o : Int} {S : sn} (h : SR m G b o S) (e : ∀ k, o ≤ k → k ≤ o + 126 → ld m' b k = ld m b k) (hl : S.2.2.length ≤ 40) (hL : nL G ≤ 4) : SR m' G b o S := by
  obtain ⟨h1, h2, h3, h4, h5⟩ := h
  refine ⟨fun l g1 g2 => by rw [e _ (by omega) (by omega)]; exact h1 l g1 g2, by rw [e _ (by omega) (by omega)]; exact h2, by rw [e _ (by omega) (by omega)]; exact h3, by rw [e _ (by omega) (by omega)]; exact h4, fun i hi => by rw [e _ (by omega) (by omega), e _ (by omega) (by omega), e _ (by omega) (by omega)]; exact h5 i hi⟩
theorem SR_cp {m m' : xm} {G : hv} {b c : Nat} {o p : Int} {S : sn} (h : SR m G b o S) (e : ∀ k, 0 ≤ k → k < 127 → ld m' c (p + k) = ld m b (o + k)) (hl : S.2.2.length ≤ 40) (hL : nL G ≤ 4) : SR m' G c p S := by
  obtain ⟨h1, h2, h3, h4, h5⟩ := h
  refine ⟨fun l g1 g2 => ?_, ?_, ?_, ?_, fun i hi => ?_⟩
  · have := e (1 + l) (by omega) (by omega)
    rw [show p + 1 + l = p + (1 + l) by omega, this, show o + (1 + l) = o + 1 + l by omega]
    exact h1 l g1 g2
  · rw [e 5 (by decide) (by decide)]
    exact h2
  · have := e 0 (by decide) (by decide)
    rw [Int.add_zero, Int.add_zero] at this
    rw [this]
    exact h3
  · rw [e 6 (by decide) (by decide)]
    exact h4
  · have q1 := e (7 + 3 * (i : Int)) (by omega) (by omega)
    have q2 := e (8 + 3 * (i : Int)) (by omega) (by omega)
    have q3 := e (9 + 3 * (i : Int)) (by omega) (by omega)
    rw [show p + 7 + 3 * (i : Int) = p + (7 + 3 * (i : Int)) by omega, show p + 8 + 3 * (i : Int) = p + (8 + 3 * (i : Int)) by omega, show p + 9 + 3 * (i : Int) = p + (9 + 3 * (i : Int)) by omega, q1, q2, q3, show o + (7 + 3 * (i : Int)) = o + 7 + 3 * (i : Int) by omega, show o + (8 + 3 * (i : Int)) = o + 8 + 3 * (i : Int) by omega, show o + (9 + 3 * (i : Int)) = o + 9 + 3 * (i : Int) by omega]
    exact h5 i hi
theorem cY_pastRow_ok {m : xm} {k : Int} (h1 : 0 ≤ ld m 21 2) (h2 : ld m 21 2 < 20) (h3 : 0 ≤ k) (h4 : k ≤ 20) : cY_pastRow k m = some (((24 + ((ld m 21 2 + k) % 20).toNat : Nat) : Int), m) := by
  unfold cY_pastRow aal
  rw [xlt_eq, irm_nn (by omega) (by omega) (by decide) (by decide), w32_id (x := (ld m 21 2 + k) % 20) (by omega) (by omega), if_neg (by omega), if_neg (by omega), if_pos (by omega)]
/-- the program's cells of what was ahead of acts -/
def fP (m m' : xm) : Prop := ∀ a k, ¬ (24 ≤ a ∧ a ≤ 43) → ¬ (a = 21 ∧ (k = 2 ∨ k = 3)) → m' a k = m a k
theorem cY_beginAct_ok {m : xm} {n : Int} {P : Int → sn} {S : sn} (hn : 0 ≤ n) (hn2 : n ≤ 20) (hl : S.2.2.length ≤ 40) (c : SC m 22 S) (q : PC m n P) : ∃ m', cY_beginAct m = some (0, m') ∧ fP m m' ∧ PC m' (adn n) (adP n P S) := by
  obtain ⟨q1, q2, q3⟩ := q
  obtain ⟨o, ho⟩ : ∃ o, ld m 21 2 = o := ⟨_, rfl⟩
  rw [ho] at q2 q3
  have hr : ((ld m 21 2 + n) % 20).toNat < 20 := by omega
  have hrow := aln_row _ hr
  unfold cY_beginAct
  rw [q1, cY_pastRow_ok (by omega) (by omega) hn hn2, bnd_some]
  unfold xga
  rw [Int.toNat_natCast, if_pos hrow.2]
  obtain ⟨m1, e1, e2, e3⟩ := cY_copyRow_ok (a := 22) (b := 24 + ((ld m 21 2 + n) % 20).toNat) al22 hrow.1 (by omega) m
  rw [e1, bnd_some]
  have k3 : ld m1 21 3 = n := by rw [ldq (e3 21 3 (by omega)), q1]
  have k2 : ld m1 21 2 = o := by rw [ldq (e3 21 2 (by omega)), ho]
  have cS : SC m1 (24 + ((o + n) % 20).toNat) S := by rw [← ho]; exact SC_cp hl c e2
  rw [k3, k2]
  unfold adn adP
  by_cases hc : n < 20
  · rw [if_neg (by omega), if_pos hc, if_pos hc, stf_eq]
    refine ⟨_, rfl, fun a k g1 g2 => by rw [st_at (by omega), e3 a k (by omega)], by rw [ld_st_eq, w32_id (by omega) (by omega)], by rw [ld_st_ne (by decide), k2]; exact q2, fun j g1 g2 => ?_⟩
    rw [ld_st_ne (by decide), k2]
    dsimp only
    by_cases hj : j = n
    · rw [if_pos hj, hj]
      exact SC_cg cS (fun k => st_at (by omega))
    · rw [if_neg hj]
      exact SC_cg (q3 j g1 (by omega)) (fun k => by rw [st_at (by omega), e3 _ _ (by omega)])
  · have hn20 : n = 20 := by omega
    subst hn20
    rw [if_pos (by omega), if_neg hc, if_neg hc, stf_eq, irm_nn (by omega) (by omega) (by decide) (by decide)]
    refine ⟨_, rfl, fun a k g1 g2 => by rw [st_at (by omega), e3 a k (by omega)], by rw [ld_st_ne (by decide)]; exact k3, by rw [ld_st_eq, w32_id (by omega) (by omega)]; omega, fun j g1 g2 => ?_⟩
    rw [ld_st_eq, w32_id (by omega) (by omega)]
    dsimp only
    by_cases hj : j = 19
    · rw [if_pos hj, hj, show ((o + 1) % 20 + 19) % 20 = (o + 20) % 20 by omega]
      exact SC_cg cS (fun k => st_at (by omega))
    · rw [if_neg hj, show ((o + 1) % 20 + j) % 20 = (o + (j + 1)) % 20 by omega]
      exact SC_cg (q3 (j + 1) (by omega) (by omega)) (fun k => by rw [st_at (by omega), e3 _ _ (by omega)])
theorem cY_undoAct_ok {m : xm} {n : Int} {P : Int → sn} (hn : 1 ≤ n) (hn2 : n ≤ 20) (hl : (P (n - 1)).2.2.length ≤ 40) (q : PC m n P) : ∃ m', cY_undoAct m = some (1, m') ∧ (∀ a k, a ≠ 22 → ¬ (a = 21 ∧ k = 3) → m' a k = m a k) ∧ SC m' 22 (P (n - 1)) ∧ PC m' (n - 1) P := by
  obtain ⟨q1, q2, q3⟩ := q
  obtain ⟨o, ho⟩ : ∃ o, ld m 21 2 = o := ⟨_, rfl⟩
  rw [ho] at q2 q3
  have hr : ((o + (n - 1)) % 20).toNat < 20 := by omega
  have hrow := aln_row _ hr
  unfold cY_undoAct
  have k3 : ld (st m 21 3 (n - 1)) 21 3 = n - 1 := by rw [ld_st_eq, w32_id (by omega) (by omega)]
  have k2 : ld (st m 21 3 (n - 1)) 21 2 = o := by rw [ld_st_ne (by decide), ho]
  rw [q1, if_neg (by omega), stf_eq, k3, cY_pastRow_ok (by rw [k2]; omega) (by rw [k2]; omega) (by omega) (by omega), bnd_some, k2]
  unfold xga
  rw [Int.toNat_natCast, if_pos hrow.2]
  obtain ⟨m1, e1, e2, e3⟩ := cY_copyRow_ok (a := 24 + ((o + (n - 1)) % 20).toNat) (b := 22) hrow.1 al22 (by omega) (st m 21 3 (n - 1))
  rw [e1, bnd_some]
  refine ⟨m1, rfl, fun a k g1 g2 => by rw [e3 a k g1, st_at g2], ?_, ?_, ?_, fun j g1 g2 => ?_⟩
  · exact SC_cp hl (SC_cg (q3 (n - 1) (by omega) (by omega)) (fun k => st_at (by omega))) e2
  · rw [ldq (e3 21 3 (by decide)), k3]
  · rw [ldq (e3 21 2 (by decide)), k2]
    exact q2
  · rw [ldq (e3 21 2 (by decide)), k2]
    exact SC_cg (q3 j g1 (by omega)) (fun k => by rw [e3 _ _ (by omega), st_at (by omega)])
/-! the reference -/
theorem keeps_loop {t : Int} (ht : 0 ≤ t) (ht2 : t < 20) {m0 : xm} : ∀ (f k : Nat) {m : xm}, k ≤ 127 → 127 - k < f → ld m 78 62 = t → (∀ i, 0 ≤ i → i < (k : Int) → ld m 118 (127 * t + i) = ld m0 110 i) → (∀ i, ¬ (127 * t ≤ i ∧ i < 127 * t + 127) → m 118 i = m0 118 i) → (∀ x i, x ≠ 118 → m x i = m0 x i) → ∃ m', r_keeps_15 f (k : Int) m = r_keeps_47 m' ∧ (∀ i, 0 ≤ i → i < 127 → ld m' 118 (127 * t + i) = ld m0 110 i) ∧ (∀ i, ¬ (127 * t ≤ i ∧ i < 127 * t + 127) → m' 118 i = m0 118 i) ∧ ∀ x i, x ≠ 118 → m' x i = m0 x i := by
  intro f
  induction f with
  | zero => intro k m _ hf; omega
  | succ f ih =>
    intro k m hk hf h62 h1 h2 h3
    rw [r_keeps_15, w32_id (x := (k : Int)) (by omega) (by omega)]
    by_cases he : k = 127
    · subst he
      rw [if_pos (by decide)]
      exact ⟨m, rfl, h1, h2, h3⟩
    · rw [if_neg (by omega), ial_in (by omega) (by rw [al110]; omega), h62, ias_in (by omega) (by rw [al118]; omega)]
      refine ih (k + 1) (m := st m 118 (127 * t + (k : Int)) (ld m 110 (k : Int))) (by omega) (by omega) (by rw [ld_st_nc (by decide)]; exact h62) (fun i g1 g2 => ?_) (fun i g => by rw [st_at (by omega)]; exact h2 i g) (fun x i g => by rw [st_at (fun z => g z.1)]; exact h3 x i g)
      by_cases hik : i = (k : Int)
      · rw [hik, ld_st_eq, w32_ld, ldq (h3 110 _ (by decide))]
      · rw [ld_st_ne (by omega)]
        exact h1 i g1 (by omega)
def fK (m m' : xm) : Prop := ∀ a k, a ≠ 118 → ¬ (a = 78 ∧ (k = 61 ∨ k = 62)) → m' a k = m a k
theorem r_keeps_ok {m : xm} {G : hv} {n : Int} {P : Int → sn} {S : sn} (hL : nL G ≤ 4) (h : okP G n P) (hS : okS G S) (c : SR m G 110 0 S) (q : PR m G n P) : ∃ m', r_keeps m = some (0, m') ∧ fK m m' ∧ PR m' G (adn n) (adP n P S) := by
  obtain ⟨q1, q2, q3⟩ := q
  obtain ⟨hn, hn2, hok⟩ := h
  obtain ⟨o, ho⟩ : ∃ o, ld m 78 62 = o := ⟨_, rfl⟩
  rw [ho] at q2 q3
  unfold r_keeps
  rw [ho, stf_eq, irm_nn (by omega) (by omega) (by decide) (by decide)]
  obtain ⟨t, ht⟩ : ∃ t, (o + 1) % 20 = t := ⟨_, rfl⟩
  rw [ht]
  have t62 : ld (st m 78 62 t) 78 62 = t := by rw [ld_st_eq, w32_id (by omega) (by omega)]
  obtain ⟨m1, e1, e2, e3, e4⟩ := keeps_loop (t := t) (by omega) (by omega) (m0 := st m 78 62 t) xLF 0 (m := st m 78 62 t) (by decide) (by rw [xLF_eq]; decide) t62 (fun i g1 g2 => by omega) (fun _ _ => rfl) (fun _ _ _ => rfl)
  have e1' : r_keeps_15 xLF 0 (st m 78 62 t) = r_keeps_47 m1 := e1
  rw [e1']
  have k61 : ld m1 78 61 = n := by rw [ldq (e4 78 61 (by decide)), ld_st_ne (by decide), q1]
  have k62 : ld m1 78 62 = t := by rw [ldq (e4 78 62 (by decide)), t62]
  have cS : SR m1 G 118 (127 * t) S := by
    refine SR_cp (m := st m 78 62 t) (b := 110) (o := 0) (SR_cg c (fun k _ _ => ld_st_nc (by decide)) hS.2.2.1 hL) (fun k g1 g2 => ?_) hS.2.2.1 hL
    rw [Int.zero_add]
    exact e2 k g1 g2
  have old : ∀ j, 0 ≤ j → j < n → (n = 20 → 1 ≤ j) → SR m1 G 118 (127 * ((o + 21 + j - n) % 20)) (P j) := by
    intro j g1 g2 g3
    refine SR_cg (q3 j g1 g2) (fun k z1 z2 => ?_) (hok j g1 g2).2.2.1 hL
    have hne : (o + 21 + j - n) % 20 ≠ t := by omega
    have : ld m1 118 k = ld (st m 78 62 t) 118 k := ldq (e3 k (by omega))
    rw [this, ld_st_nc (by decide)]
  unfold r_keeps_47 adn adP
  rw [k61]
  by_cases hc : n < 20
  · rw [if_neg (by omega), if_pos hc, if_pos hc, stf_eq]
    refine ⟨_, rfl, fun a k g1 g2 => by rw [st_at (by omega), e4 a k g1, st_at (by omega)], by rw [ld_st_eq, w32_id (by omega) (by omega)], by rw [ld_st_ne (by decide), k62]; omega, fun j g1 g2 => ?_⟩
    rw [ld_st_ne (by decide), k62]
    dsimp only
    by_cases hj : j = n
    · rw [if_pos hj, hj, show (t + 21 + n - (n + 1)) % 20 = t by omega]
      exact SR_cg cS (fun k _ _ => ld_st_nc (by decide)) hS.2.2.1 hL
    · rw [if_neg hj, show (t + 21 + j - (n + 1)) % 20 = (o + 21 + j - n) % 20 by omega]
      exact SR_cg (old j g1 (by omega) (fun z => by omega)) (fun k _ _ => ld_st_nc (by decide)) (hok j g1 (by omega)).2.2.1 hL
  · have hn20 : n = 20 := by omega
    subst hn20
    rw [if_pos (by decide), if_neg hc, if_neg hc]
    refine ⟨m1, rfl, fun a k g1 g2 => by rw [e4 a k g1, st_at (by omega)], k61, by rw [k62]; omega, fun j g1 g2 => ?_⟩
    rw [k62]
    dsimp only
    by_cases hj : j = 19
    · rw [if_pos hj, hj, show (t + 21 + 19 - 20) % 20 = t by omega]
      exact cS
    · rw [if_neg hj, show (t + 21 + j - 20) % 20 = (o + 21 + (j + 1) - 20) % 20 by omega]
      exact old (j + 1) (by omega) (by omega) (fun _ => by omega)
theorem undo_loop {t : Int} (ht : 0 ≤ t) (ht2 : t < 20) {m0 : xm} : ∀ (f k : Nat) {m : xm}, k ≤ 127 → 127 - k < f → ld m 78 62 = t → (∀ i, 0 ≤ i → i < (k : Int) → ld m 110 i = ld m0 118 (127 * t + i)) → (∀ x i, x ≠ 110 → m x i = m0 x i) → ∃ m', r_undo_21 f (k : Int) m = r_undo_53 m' ∧ (∀ i, 0 ≤ i → i < 127 → ld m' 110 i = ld m0 118 (127 * t + i)) ∧ ∀ x i, x ≠ 110 → m' x i = m0 x i := by
  intro f
  induction f with
  | zero => intro k m _ hf; omega
  | succ f ih =>
    intro k m hk hf h62 h1 h3
    rw [r_undo_21, w32_id (x := (k : Int)) (by omega) (by omega)]
    by_cases he : k = 127
    · subst he
      rw [if_pos (by decide)]
      exact ⟨m, rfl, h1, h3⟩
    · rw [if_neg (by omega), h62, ial_in (by omega) (by rw [al118]; omega), ias_in (by omega) (by rw [al110]; omega)]
      refine ih (k + 1) (m := st m 110 (k : Int) (ld m 118 (127 * t + (k : Int)))) (by omega) (by omega) (by rw [ld_st_nc (by decide)]; exact h62) (fun i g1 g2 => ?_) (fun x i g => by rw [st_at (fun z => g z.1)]; exact h3 x i g)
      by_cases hik : i = (k : Int)
      · rw [hik, ld_st_eq, w32_ld, ldq (h3 118 _ (by decide))]
      · rw [ld_st_ne (by omega)]
        exact h1 i g1 (by omega)
theorem r_undo_ok {m : xm} {G : hv} {n : Int} {P : Int → sn} (hL : nL G ≤ 4) (h : okP G n P) (hn1 : 1 ≤ n) (q : PR m G n P) : ∃ m', r_undo m = some (1, m') ∧ (∀ a k, a ≠ 110 → ¬ (a = 78 ∧ (k = 61 ∨ k = 62)) → m' a k = m a k) ∧ SR m' G 110 0 (P (n - 1)) ∧ PR m' G (n - 1) P := by
  obtain ⟨q1, q2, q3⟩ := q
  obtain ⟨hn, hn2, hok⟩ := h
  obtain ⟨o, ho⟩ : ∃ o, ld m 78 62 = o := ⟨_, rfl⟩
  rw [ho] at q2 q3
  unfold r_undo
  rw [q1, if_neg (by omega)]
  obtain ⟨m1, e1, e2, e3⟩ := undo_loop (t := o) (by omega) (by omega) (m0 := m) xLF 0 (m := m) (by decide) (by rw [xLF_eq]; decide) ho (fun i g1 g2 => by omega) (fun _ _ _ => rfl)
  have e1' : r_undo_21 xLF 0 m = r_undo_53 m1 := e1
  rw [e1']
  have k61 : ld m1 78 61 = n := by rw [ldq (e3 78 61 (by decide)), q1]
  have k62 : ld m1 78 62 = o := by rw [ldq (e3 78 62 (by decide)), ho]
  unfold r_undo_53
  rw [k62, stf_eq, stf_eq, ld_st_ne (by decide), k61, irm_nn (by omega) (by omega) (by decide) (by decide)]
  have lst := q3 (n - 1) (by omega) (by omega)
  rw [show (o + 21 + (n - 1) - n) % 20 = o by omega] at lst
  refine ⟨_, rfl, fun a k g1 g2 => by rw [st_at (by omega), st_at (by omega), e3 a k g1], ?_, ?_, ?_, fun j g1 g2 => ?_⟩
  · refine SR_cp lst (fun k g1 g2 => ?_) (hok (n - 1) (by omega) (by omega)).2.2.1 hL
    rw [Int.zero_add, ld_st_nc (by decide), ld_st_nc (by decide)]
    exact e2 k g1 g2
  · rw [ld_st_eq, w32_id (by omega) (by omega)]
  · rw [ld_st_ne (by decide), ld_st_eq, w32_id (by omega) (by omega)]
    omega
  · rw [ld_st_ne (by decide), ld_st_eq, w32_id (by omega) (by omega), show ((o + 20 - 1) % 20 + 21 + j - (n - 1)) % 20 = (o + 21 + j - n) % 20 by omega]
    refine SR_cg (q3 j g1 (by omega)) (fun k _ _ => ?_) (hok j g1 (by omega)).2.2.1 hL
    rw [ld_st_nc (by decide), ld_st_nc (by decide), ldq (e3 118 k (by decide))]
