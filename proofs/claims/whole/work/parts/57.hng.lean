/-! hangs -/
def hgi (G : hv) (s d l : Int) : Nat → Int → Int
  | 0, x => x
  | r + 1, x => hgi G s d l r (if dv G (ud G s l (wx G l - ((r + 1 : Nat) : Int))) d = dv G s d then x else sb x l)
def hgo (G : hv) (s d : Int) : Nat → Int → Int
  | 0, x => x
  | r + 1, x => hgo G s d r (hgi G s d (nL G - ((r + 1 : Nat) : Int)) (wx G (nL G - ((r + 1 : Nat) : Int))).toNat x)
def bl (G : hv) (x : Int) : Prop := 0 ≤ x ∧ x < 2 ^ (nL G).toNat
theorem hgi_bl {G : hv} (w : wfS G) {s d l : Int} (h1 : 0 ≤ l) (h2 : l < nL G) : ∀ (r : Nat) {x : Int}, bl G x → bl G (hgi G s d l r x)
  | 0, _, h => h
  | r + 1, x, h => by
    rw [hgi]
    refine hgi_bl w h1 h2 r ?_
    split
    · exact h
    · have := sb_lt w h.1 h.2 h1 h2
      exact ⟨this.1, this.2.1⟩
theorem hangs_in {G : hv} {h : Nat} (p : isH h) (w : wfG G) (hD : wfD G) {s d l : Int} (hv : vs G s) (hd0 : 0 ≤ d) (hd1 : d < nD G) (hl0 : 0 ≤ l) (hl1 : l < nL G) {K : Int → Int → Int → Int → xm → xr} : ∀ (r f : Nat) {m : xm} {x : Int}, (r : Int) ≤ wx G l → r < f → hl m 12 = h → CH m h G → CM m h G → bl G x → ∃ m', cL_hangs_43 K f d x s l (wx G l - (r : Int)) m = K d (hgi G s d l r x) s (l + 1) m' ∧ fo h m m' ∧ CM m' h G := by
  have pr := isH_rng p
  have gL := w.1.2.1
  have gD := w.2.2.1
  have sr := vs_s w.1 hv
  have wl := wx_pos w.1 l
  intro r
  induction r with
  | zero =>
    intro f m x hr hf hh ch M hx
    obtain ⟨f, rfl⟩ : ∃ f', f = f' + 1 := ⟨f - 1, by omega⟩
    rw [cL_hangs_43, hh, cH_wardsOf_ok p w.1 ch hl0 hl1, bnd_some, w32_id (x := wx G l) (by omega) (by omega), w32_id (x := wx G l - ((0 : Nat) : Int)) (by omega) (by omega), if_pos (by omega)]
    exact ⟨m, rfl, fo_refl, M⟩
  | succ r ih =>
    intro f m x hr hf hh ch M hx
    obtain ⟨f, rfl⟩ : ∃ f', f = f' + 1 := ⟨f - 1, by omega⟩
    obtain ⟨v, hv5⟩ : ∃ v, wx G l - ((r + 1 : Nat) : Int) = v := ⟨_, rfl⟩
    have vu := vs_ud w.1 hv (l := l) (v := v) hl0 (by omega) (by omega) (by omega)
    obtain ⟨m1, b1, b2, b3⟩ := cH_openDoors_ok p w hD vu ch M
    have hh1 : hl m1 12 = h := by rw [hl_cg (by rw [fo_out p b2 (by decide)]), hh]
    obtain ⟨m2, d1, d2, d3⟩ := cH_openDoors_ok p w hD hv (fo_CH b2 ch) b3
    have fall := fo_trans b2 d2
    have hh2 : hl m2 12 = h := by rw [hl_cg (by rw [fo_out p d2 (by decide)]), hh1]
    have o1 := od_rng w hD s
    have o2 := od_rng w hD (ud G s l v)
    have p2 := p2_le w.1.1 w.1.2.1
    have x2 := hx.2
    have sbl := sb_lt w.1 hx.1 hx.2 hl0 hl1
    have go : ∀ {y}, bl G y → ∃ m', cL_hangs_104 K (fun v1 v2 v3 v4 v5 m => cL_hangs_43 K f v1 v2 v3 v4 v5 m) d y s l v m2 = K d (hgi G s d l r y) s (l + 1) m' ∧ fo h m m' ∧ CM m' h G := by
      intro y hy
      obtain ⟨m3, g1, g2, g3⟩ := ih f (m := m2) (x := y) (by omega) (by omega) hh2 (fo_CH fall ch) d3 hy
      refine ⟨m3, ?_, fo_trans fall g2, g3⟩
      unfold cL_hangs_104
      rw [show v + 1 = wx G l - (r : Int) by omega]
      exact g1
    rw [cL_hangs_43, hgi, hv5, hh, cH_wardsOf_ok p w.1 ch hl0 hl1, bnd_some, w32_id (x := wx G l) (by omega) (by omega), w32_id (x := v) (by omega) (by omega), if_neg (by omega), hh, cH_withWard_ok p w.1 ch sr.1 (by omega) hl0 hl1, bnd_some, b1, bnd_some, hh1, d1, bnd_some, bxo_bt o2.1 o2.2 o1.1 o1.2 hd0 (by omega), bt_od w hD hd0 hd1, bt_od w hD hd0 hd1]
    by_cases q : dv G (ud G s l v) d = dv G s d
    · rw [if_pos q, if_pos q, if_neg (by decide)]
      exact go hx
    · rw [if_neg q, if_neg q, if_pos rfl, xlt_eq, bor_sb hx.1 (by omega) hl0 (by omega)]
      exact go ⟨sbl.1, sbl.2.1⟩
theorem hangs_out {G : hv} {h : Nat} (p : isH h) (w : wfG G) (hD : wfD G) {s d : Int} (hv : vs G s) (hd0 : 0 ≤ d) (hd1 : d < nD G) : ∀ (r f : Nat) {m : xm} {x : Int}, (r : Int) ≤ nL G → r < f → hl m 12 = h → CH m h G → CM m h G → bl G x → ∃ m', cL_hangs_27 f d x s (nL G - (r : Int)) m = some (hgo G s d r x, m') ∧ fo h m m' ∧ CM m' h G := by
  have gL := w.1.2.1
  intro r
  induction r with
  | zero =>
    intro f m x hr hf hh ch M hx
    obtain ⟨f, rfl⟩ : ∃ f', f = f' + 1 := ⟨f - 1, by omega⟩
    rw [cL_hangs_27, hh, cH_count_ok p ch (by decide) (by decide), bnd_some, show G 0 0 = nL G from rfl, w32_id (x := nL G) (by omega) (by omega), w32_id (x := nL G - ((0 : Nat) : Int)) (by omega) (by omega), if_pos (by omega)]
    exact ⟨m, rfl, fo_refl, M⟩
  | succ r ih =>
    intro f m x hr hf hh ch M hx
    obtain ⟨f, rfl⟩ : ∃ f', f = f' + 1 := ⟨f - 1, by omega⟩
    obtain ⟨l, hl4⟩ : ∃ l, nL G - ((r + 1 : Nat) : Int) = l := ⟨_, rfl⟩
    have wl := wx_pos w.1 l
    obtain ⟨m1, b1, b2, b3⟩ := hangs_in p w hD hv hd0 hd1 (l := l) (by omega) (by omega) (K := fun v1 v2 v3 v4 m => cL_hangs_27 f v1 v2 v3 v4 m) (wx G l).toNat xLF (m := m) (x := x) (by omega) (by rw [xLF_eq]; omega) hh ch M hx
    rw [show wx G l - ((wx G l).toNat : Int) = 0 by omega] at b1
    have hh1 : hl m1 12 = h := by rw [hl_cg (by rw [fo_out p b2 (by decide)]), hh]
    obtain ⟨m2, d1, d2, d3⟩ := ih f (m := m1) (x := hgi G s d l (wx G l).toNat x) (by omega) (by omega) hh1 (fo_CH b2 ch) b3 (hgi_bl w.1 (by omega) (by omega) _ hx)
    rw [cL_hangs_27, hgo, hl4, hh, cH_count_ok p ch (by decide) (by decide), bnd_some, show G 0 0 = nL G from rfl, w32_id (x := nL G) (by omega) (by omega), w32_id (x := l) (by omega) (by omega), if_neg (by omega), b1]
    refine ⟨m2, ?_, fo_trans b2 d2, d3⟩
    rw [show l + 1 = nL G - (r : Int) by omega]
    exact d1
def fKh (l : Int) (m m' : xm) : Prop := ∀ a j, ¬ (a = 78 ∧ j = 90) → a ≠ 140 → ¬ (a = 110 ∧ j = 1 + l) → m' a j = m a j
theorem r_hangs_in {G : hv} (w : wfG G) (hD : wfD G) {m0 : xm} {s d l : Int} (hv : vs G s) (r0 : RH m0 G) (n0 : NR m0 G s) (hd0 : 0 ≤ d) (hd1 : d < nD G) (hl0 : 0 ≤ l) (hl1 : l < nL G) {K : Int → Int → Int → Int → xm → xr} : ∀ (r f : Nat) {m : xm} {x : Int}, (r : Int) ≤ wx G l → r < f → fKh l m0 m → bl G x → ∃ m', r_hangs_49 K f d (dv G s d) x l (wd G s l) (wx G l - (r : Int)) m = K d (dv G s d) (hgi G s d l r x) (l + 1) m' ∧ fq m0 (fun a j => if a = 110 ∧ j = 1 + l then m0 a j else m' a j) ∧ ld m' 110 (1 + l) = wd G s l := by
  have gL := w.1.2.1
  have gD := w.2.2.1
  have sr := vs_s w.1 hv
  have wl := wx_pos w.1 l
  have wr := wd_rng w.1 s l
  intro r
  induction r with
  | zero =>
    intro f m x hr hf fk hx
    obtain ⟨f, rfl⟩ : ∃ f', f = f' + 1 := ⟨f - 1, by omega⟩
    have rm : RH m G := RH_cg r0 (fun a j z1 z2 _ => ldq (fk a j (by omega) (by omega) (by omega)))
    rw [r_hangs_49, r_wardsOf_ok w.1 rm hl0 hl1, bnd_some, w32_id (x := wx G l) (by omega) (by omega), w32_id (x := wx G l - ((0 : Nat) : Int)) (by omega) (by omega), if_pos (by omega)]
    unfold r_hangs_93
    rw [ias_in (by omega) (by rw [show aln 110 = 127 from rfl]; omega)]
    refine ⟨_, rfl, fun a j z1 z2 => ?_, by rw [ld_st_eq, w32_id (by omega) (by omega)]⟩
    by_cases e : a = 110 ∧ j = 1 + l
    · simp only [if_pos e]
    · simp only [if_neg e]
      rw [st_at e, fk a j z1 z2 e]
  | succ r ih =>
    intro f m x hr hf fk hx
    obtain ⟨f, rfl⟩ : ∃ f', f = f' + 1 := ⟨f - 1, by omega⟩
    obtain ⟨v, hv5⟩ : ∃ v, wx G l - ((r + 1 : Nat) : Int) = v := ⟨_, rfl⟩
    have rm : RH m G := RH_cg r0 (fun a j z1 z2 _ => ldq (fk a j (by omega) (by omega) (by omega)))
    have vu := vs_ud w.1 hv (l := l) (v := v) hl0 (by omega) (by omega) (by omega)
    have uo := ud_ok w.1 (s := s) (l := l) (v := v) hl0 (by omega) (by omega) (by omega)
    have fk1 : fKh l m0 (st m 110 (1 + l) v) := fun a j z1 z2 z3 => by rw [st_at z3, fk a j z1 z2 z3]
    have r1 : RH (st m 110 (1 + l) v) G := RH_cg r0 (fun a j z1 z2 _ => ldq (fk1 a j (by omega) (by omega) (by omega)))
    have n1 : NR (st m 110 (1 + l) v) G (ud G s l v) := by
      refine ⟨fun k z1 z2 => ?_, ?_⟩
      · rw [uo.1 k z1 (by omega)]
        by_cases e : k = l
        · rw [e, if_pos rfl, ld_st_eq, w32_id (by omega) (by omega)]
        · rw [if_neg e, ldq (fk1 110 (1 + k) (by omega) (by decide) (by omega))]
          exact n0.1 k z1 z2
      · rw [uo.2, ldq (fk1 110 5 (by decide) (by decide) (by omega))]
        exact n0.2
    obtain ⟨m1, b1, b2⟩ := r_isOpen_ok w hD vu hd0 hd1 r1 n1
    have fk2 : fKh l m0 m1 := fun a j z1 z2 z3 => by rw [b2 a j z1 z2, fk1 a j z1 z2 z3]
    have p2 := p2_le w.1.1 w.1.2.1
    have x2 := hx.2
    have sbl := sb_lt w.1 hx.1 hx.2 hl0 hl1
    have dv1 := (dv_01 w hD (s := ud G s l v) hd0 hd1).2
    have dv2 := (dv_01 w hD (s := s) hd0 hd1).2
    have go : ∀ {y}, bl G y → ∃ m', r_hangs_87 K (fun v1 v2 v3 v4 v5 v6 m => r_hangs_49 K f v1 v2 v3 v4 v5 v6 m) d (dv G s d) y l (wd G s l) v m1 = K d (dv G s d) (hgi G s d l r y) (l + 1) m' ∧ fq m0 (fun a j => if a = 110 ∧ j = 1 + l then m0 a j else m' a j) ∧ ld m' 110 (1 + l) = wd G s l := by
      intro y hy
      obtain ⟨m3, g1, g2⟩ := ih f (m := m1) (x := y) (by omega) (by omega) fk2 hy
      refine ⟨m3, ?_, g2⟩
      unfold r_hangs_87
      rw [show v + 1 = wx G l - (r : Int) by omega]
      exact g1
    rw [r_hangs_49, hgi, hv5, r_wardsOf_ok w.1 rm hl0 hl1, bnd_some, w32_id (x := wx G l) (by omega) (by omega), w32_id (x := v) (by omega) (by omega), if_neg (by omega), ias_in (by omega) (by rw [show aln 110 = 127 from rfl]; omega), b1, bnd_some, w32_id (x := dv G (ud G s l v) d) (by omega) (by omega), w32_id (x := dv G s d) (by omega) (by omega)]
    by_cases q : dv G (ud G s l v) d = dv G s d
    · rw [if_pos q, if_pos q]
      exact go hx
    · rw [if_neg q, if_neg q, xlt_eq, bor_sb hx.1 (by omega) hl0 (by omega)]
      exact go ⟨sbl.1, sbl.2.1⟩
def fNh (m m' : xm) : Prop := (∀ a j, ¬ (a = 78 ∧ j = 90) → a ≠ 140 → a ≠ 110 → m' a j = m a j) ∧ ∀ k, ld m' 110 k = ld m 110 k
theorem r_hangs_out {G : hv} (w : wfG G) (hD : wfD G) {s d : Int} (hv : vs G s) (hd0 : 0 ≤ d) (hd1 : d < nD G) : ∀ (r f : Nat) {m : xm} {x : Int}, (r : Int) ≤ nL G → r < f → RH m G → NR m G s → bl G x → ∃ m', r_hangs_29 f d (dv G s d) x (nL G - (r : Int)) m = some (hgo G s d r x, m') ∧ fNh m m' := by
  have gL := w.1.2.1
  intro r
  induction r with
  | zero =>
    intro f m x hr hf H hn hx
    obtain ⟨f, rfl⟩ : ∃ f', f = f' + 1 := ⟨f - 1, by omega⟩
    rw [r_hangs_29, r_lockMany_ok H, bnd_some, w32_id (x := nL G) (by omega) (by omega), w32_id (x := nL G - ((0 : Nat) : Int)) (by omega) (by omega), if_pos (by omega)]
    exact ⟨m, rfl, fun _ _ _ _ _ => rfl, fun _ => rfl⟩
  | succ r ih =>
    intro f m x hr hf H hn hx
    obtain ⟨f, rfl⟩ : ∃ f', f = f' + 1 := ⟨f - 1, by omega⟩
    obtain ⟨l, hl4⟩ : ∃ l, nL G - ((r + 1 : Nat) : Int) = l := ⟨_, rfl⟩
    have wl := wx_pos w.1 l
    obtain ⟨m1, b1, b2, b3⟩ := r_hangs_in w hD hv H hn hd0 hd1 (l := l) (by omega) (by omega) (K := fun v1 v2 v3 v4 m => r_hangs_29 f v1 v2 v3 v4 m) (wx G l).toNat xLF (m := m) (x := x) (by omega) (by rw [xLF_eq]; omega) (fun _ _ _ _ _ => rfl) hx
    rw [show wx G l - ((wx G l).toNat : Int) = 0 by omega] at b1
    have e1 : ∀ a j, ¬ (a = 78 ∧ j = 90) → a ≠ 140 → ¬ (a = 110 ∧ j = 1 + l) → m1 a j = m a j := fun a j z1 z2 z3 => by
      have := b2 a j z1 z2
      simp only [if_neg z3] at this
      exact this
    have e2 : ∀ k, ld m1 110 k = ld m 110 k := fun k => by
      by_cases e : k = 1 + l
      · rw [e, b3, hn.1 l (by omega) (by omega)]
      · exact ldq (e1 110 k (by omega) (by decide) (by omega))
    have H1 : RH m1 G := RH_cg H (fun a j z1 z2 _ => ldq (e1 a j (by omega) (by omega) (by omega)))
    obtain ⟨m2, d1, d2, d3⟩ := ih f (m := m1) (x := hgi G s d l (wx G l).toNat x) (by omega) (by omega) H1 (NR_cg hn e2) (hgi_bl w.1 (by omega) (by omega) _ hx)
    rw [r_hangs_29, hgo, hl4, r_lockMany_ok H, bnd_some, w32_id (x := nL G) (by omega) (by omega), w32_id (x := l) (by omega) (by omega), if_neg (by omega), r_wardNow_ok w.1 hn (by omega) (by omega), bnd_some, b1]
    refine ⟨m2, ?_, fun a j z1 z2 z3 => by rw [d2 a j z1 z2 z3, e1 a j z1 z2 (by omega)], fun k => by rw [d3 k, e2 k]⟩
    rw [show l + 1 = nL G - (r : Int) by omega]
    exact d1
theorem ok_hangs {d : Int} (hd : rg d) : okI (cL_hangs d) (r_hangs d) := by
  intro m hi
  obtain ⟨G, H⟩ := hi
  have H0 : IG m G := H
  obtain ⟨⟨w, hD, -, c, M, r, -⟩, S0, P0, T, -, R, HH, JJ, LL, II, E⟩ := H0
  have vS := S0.1
  have N0 := SN_NR S0
  obtain ⟨h, hh⟩ : ∃ h, hl m 12 = h := ⟨_, rfl⟩
  have p := hl_or m 12
  rw [hh] at p c M
  have pr := isH_rng p
  have gD := w.2.2.1
  have gL := w.1.1
  have rin : ∀ m', RH m' G → r_hangs d m' = if 0 ≤ d ∧ d < nD G then bnd (r_isOpen d m') (fun r5 m6 => r_hangs_29 xLF d r5 0 0 m6) else some (-1, m') := fun m' H' => by
    unfold r_hangs
    rw [r_doorMany_ok H', bnd_some, w32_rg hd, w32_id (x := nD G - 1) (by omega) (by omega), r_isIn_ok (by have := hd.1; omega) (by have := hd.2; omega) (by omega) (by omega) (by omega) (by omega), bnd_some]
    by_cases q : 0 ≤ d ∧ d < nD G
    · rw [if_pos (show 0 ≤ d ∧ d ≤ nD G - 1 by omega), if_pos q, if_neg (by decide)]
    · rw [if_neg (show ¬ (0 ≤ d ∧ d ≤ nD G - 1) by omega), if_neg q, if_pos (by decide)]
  by_cases q : 0 ≤ d ∧ d < nD G
  · have bl0 : bl G 0 := ⟨Int.le_refl _, by have := p2_le w.1.1 w.1.2.1; omega⟩
    obtain ⟨mA, a1, a2, a3⟩ := hangs_out p w hD vS q.1 q.2 (nL G).toNat xLF (m := m) (x := 0) (by omega) (by rw [xLF_eq]; have := w.1.2.1; omega) hh c M bl0
    rw [show nL G - ((nL G).toNat : Int) = 0 by omega] at a1
    have eC : cL_hangs d m = some (hgo G (ld m 22 0) d (nL G).toNat 0, mA) := by
      unfold cL_hangs
      rw [hh, cH_isOne_k p w c (by decide) (by decide) hd, bnd_some, if_pos (show 0 ≤ d ∧ d < G 0 2 from q), if_neg (by decide), cY_state_ok, bnd_some]
      exact a1
    have frR : ∀ a, 78 ≤ a → mA a = m a := fun a z => fo_out p a2 (Or.inr z)
    have rA : RH mA G := RH_cg r (fun a k g1 _ _ => ld_cg (frR a (by omega)) k)
    have nA : NR mA G (ld m 22 0) := NR_cg N0 (fun k => ld_cg (frR 110 (by decide)) k)
    obtain ⟨mB, b1, b2⟩ := r_isOpen_ok w hD vS q.1 q.2 rA nA
    obtain ⟨mF, d1, d2, d3⟩ := r_hangs_out w hD vS q.1 q.2 (nL G).toNat xLF (m := mB) (x := 0) (by omega) (by rw [xLF_eq]; have := w.1.2.1; omega) (fq_RH b2 rA) (fq_NR b2 nA) bl0
    rw [show nL G - ((nL G).toNat : Int) = 0 by omega] at d1
    have eR : r_hangs d mA = some (hgo G (ld m 22 0) d (nL G).toNat 0, mF) := by
      rw [rin mA rA, if_pos q, b1, bnd_some]
      exact d1
    have fF : ∀ a j, ¬ (a = 78 ∧ j = 90) → a ≠ 140 → a ≠ 110 → mF a j = mA a j := fun a j z1 z2 z3 => by rw [d2 a j z1 z2 z3, b2 a j z1 z2]
    have fr : ∀ a k, ¬ scr a k → a ≠ 110 → ¬ (a = h + 1 ∧ k = 3) → a ≠ h + 3 → a ≠ h + 14 → mF a k = m a k := fun a k y1 y2 y3 y4 y5 => by
      unfold scr at y1
      rw [fF a k (by omega) (by omega) y2, a2 a k y3 y4 y5]
    refine ⟨_, mA, _, mF, eC, eR, rfl, ⟨G, IG_qry hh H (fun a k z => fr a k (fun q => z (by unfold qset; simp [q])) (fun q => z (by unfold qset; simp [q])) (fun q => z (by unfold qset; simp [q])) (fun q => z (by unfold qset; simp [q])) (fun q => z (by unfold qset; simp [q]))) (CM_cg a3 (fun k => fF _ k (by omega) (by omega) (by omega))) (fun k z1 z2 => by rw [d3 k, fq_ld b2 (by omega) (by decide), ld_cg (frR 110 (by decide))]) (TP_cg T ?_) (RF_cg R ?_) (HE_cg HH ?_) (JU_cg JJ ?_) (SL_cg LL ?_) (IM_cg II ?_)⟩⟩
    · exact fun a k z => by unfold fTP at z; exact fr a k (by unfold scr; omega) (by omega) (by omega) (by omega) (by omega)
    · exact fun a k z => by unfold fRF at z; exact fr a k (by unfold scr; omega) (by omega) (by omega) (by omega) (by omega)
    · exact fun a k z => by unfold fHE at z; exact fr a k (by unfold scr; omega) (by omega) (by omega) (by omega) (by omega)
    · exact fun a k z => by unfold fJU at z; exact fr a k (by unfold scr; omega) (by omega) (by omega) (by omega) (by omega)
    · exact fun a k z => by unfold fSL at z; exact fr a k (by unfold scr; omega) (by omega) (by omega) (by omega) (by omega)
    · exact fun a k z => by unfold fIM at z; exact fr a k (by unfold scr; omega) (by omega) (by omega) (by omega) (by omega)
  · refine ⟨-1, m, -1, m, ?_, ?_, rfl, ⟨G, H⟩⟩
    · unfold cL_hangs
      rw [hh, cH_isOne_k p w c (by decide) (by decide) hd, bnd_some, if_neg (show ¬ (0 ≤ d ∧ d < G 0 2) from q), if_pos (by decide)]
    · rw [rin m r, if_neg q]
