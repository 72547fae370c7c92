/-! image -/
def io (G : hv) (s p j : Int) : Int := if j = 0 then p / 256 else if j = 1 then p % 256 else if j % 2 = 0 then wd G s ((j - 2) / 2) else bt (jm G s) ((j - 3) / 2)
def ck (f : Int → Int) : Nat → Int
  | 0 => 11
  | k + 1 => (3 * ck f k + f (k : Int)) % 251
theorem ck_rng (f : Int → Int) : ∀ k : Nat, 0 ≤ ck f k ∧ ck f k ≤ 250
  | 0 => by unfold ck; decide
  | k + 1 => by unfold ck; omega
theorem ck_cg {f g : Int → Int} : ∀ (k : Nat), (∀ j, 0 ≤ j → j < (k : Int) → f j = g j) → ck f k = ck g k
  | 0, _ => rfl
  | k + 1, h => by
    unfold ck
    rw [ck_cg k (fun j z1 z2 => h j z1 (by omega)), h (k : Int) (by omega) (by omega)]
theorem io_rng {G : hv} (w : wfS G) {s p j : Int} (hv : vs G s) (hp0 : 0 ≤ p) (hp1 : p ≤ 9999) : 0 ≤ io G s p j ∧ io G s p j ≤ 255 := by
  unfold io
  have h1 := wd_rng w s ((j - 2) / 2)
  have h2 := wx_pos w ((j - 2) / 2)
  have h3 := bt_01 (jm G s) ((j - 3) / 2)
  split
  · omega
  · split
    · omega
    · split <;> omega
theorem io_w {G : hv} {s p l : Int} (h : 0 ≤ l) : io G s p (2 + 2 * l) = wd G s l := by
  unfold io
  rw [if_neg (by omega), if_neg (by omega), if_pos (by omega), show (2 + 2 * l - 2) / 2 = l by omega]
theorem io_j {G : hv} {s p l : Int} (h : 0 ≤ l) : io G s p (3 + 2 * l) = bt (jm G s) l := by
  unfold io
  rw [if_neg (by omega), if_neg (by omega), if_neg (by omega), show (3 + 2 * l - 3) / 2 = l by omega]
theorem img_loop {G : hv} {h : Nat} (p : isH h) (w : wfG G) {m0 : xm} (hh : hl m0 12 = h) (c0 : CH m0 h G) {s q : Int} (hv : vs G s) (hs : ld m0 22 0 = s) : ∀ (r f : Nat) {m : xm}, (r : Int) ≤ nL G → r < f → (∀ a j, a ≠ 46 → m a j = m0 a j) → (∀ j, 0 ≤ j → j < 2 + 2 * (nL G - (r : Int)) → ld m 46 j = io G s q j) → ∃ m', cL_image_48 f (2 + 2 * (nL G - (r : Int))) (nL G - (r : Int)) m = cL_image_126 (2 + 2 * nL G) m' ∧ (∀ a j, a ≠ 46 → m' a j = m0 a j) ∧ ∀ j, 0 ≤ j → j < 2 + 2 * nL G → ld m' 46 j = io G s q j := by
  have pr := isH_rng p
  have gL := w.1.2.1
  have sr := vs_s w.1 hv
  intro r
  induction r with
  | zero =>
    intro f m hr hf fr hi
    obtain ⟨f, rfl⟩ : ∃ f', f = f' + 1 := ⟨f - 1, by omega⟩
    have cm : CH m h G := CH_cg c0 (fun a k z => ldq (fr a k (by rcases z with rfl | ⟨z1, z2⟩ | ⟨rfl, z⟩ <;> omega)))
    have hm : hl m 12 = h := by rw [hl_cg (fr 0 12 (by decide)), hh]
    rw [cL_image_48, hm, cH_count_ok p cm (by decide) (by decide), bnd_some, show G 0 0 = nL G from rfl, w32_id (x := nL G) (by omega) (by omega), w32_id (x := nL G - ((0 : Nat) : Int)) (by omega) (by omega), if_pos (by omega), show nL G - ((0 : Nat) : Int) = nL G by omega]
    exact ⟨m, rfl, fr, fun j z1 z2 => hi j z1 (by omega)⟩
  | succ r ih =>
    intro f m hr hf fr hi
    obtain ⟨f, rfl⟩ : ∃ f', f = f' + 1 := ⟨f - 1, by omega⟩
    obtain ⟨l, hl4⟩ : ∃ l, nL G - ((r + 1 : Nat) : Int) = l := ⟨_, rfl⟩
    rw [hl4] at hi ⊢
    have cm : CH m h G := CH_cg c0 (fun a k z => ldq (fr a k (by rcases z with rfl | ⟨z1, z2⟩ | ⟨rfl, z⟩ <;> omega)))
    have hm : hl m 12 = h := by rw [hl_cg (fr 0 12 (by decide)), hh]
    have es : ld m 22 0 = s := by rw [ldq (fr 22 0 (by decide)), hs]
    have wr := wd_rng w.1 s l
    have wp := wx_pos w.1 l
    have b01 := bt_01 (jm G s) l
    obtain ⟨m1, hm1⟩ : ∃ m1, m1 = st m 46 (2 + 2 * l) (wd G s l) := ⟨_, rfl⟩
    have fr1 : ∀ a j, a ≠ 46 → m1 a j = m0 a j := fun a j z => by rw [hm1, st_at (fun y => z y.1), fr a j z]
    have cm1 : CH m1 h G := CH_cg c0 (fun a k z => ldq (fr1 a k (by rcases z with rfl | ⟨z1, z2⟩ | ⟨rfl, z⟩ <;> omega)))
    have hmm1 : hl m1 12 = h := by rw [hl_cg (fr1 0 12 (by decide)), hh]
    have es1 : ld m1 22 0 = s := by rw [ldq (fr1 22 0 (by decide)), hs]
    have s117 : cL_image_117 (fun v1 v2 m => cL_image_48 f v1 v2 m) (2 + 2 * l + 1 + 1) l (2 + 2 * l + 1) (bt (jm G s) l) m1 = cL_image_48 f (2 + 2 * (nL G - (r : Int))) (nL G - (r : Int)) (st m1 46 (3 + 2 * l) (bt (jm G s) l)) := by
      unfold cL_image_117
      rw [setCell_in (by omega) (by rw [al46]; omega), bnd_some, show 2 + 2 * l + 1 + 1 = 2 + 2 * (nL G - (r : Int)) by omega, show l + 1 = nL G - (r : Int) by omega, show 2 + 2 * l + 1 = 3 + 2 * l by omega]
    obtain ⟨m2, g1, g2, g3⟩ := ih f (m := st m1 46 (3 + 2 * l) (bt (jm G s) l)) (by omega) (by omega) (fun a j z => by rw [st_at (fun y => z y.1), fr1 a j z]) (fun j z1 z2 => by
      by_cases e : j = 3 + 2 * l
      · rw [e, ld_st_eq, io_j (by omega), w32_id (by omega) (by omega)]
      · rw [ld_st_ne e, hm1]
        by_cases e2 : j = 2 + 2 * l
        · rw [e2, ld_st_eq, io_w (by omega), w32_id (by omega) (by omega)]
        · rw [ld_st_ne e2]
          exact hi j z1 (by omega))
    rw [cL_image_48, hm, cH_count_ok p cm (by decide) (by decide), bnd_some, show G 0 0 = nL G from rfl, w32_id (x := nL G) (by omega) (by omega), w32_id (x := l) (by omega) (by omega), if_neg (by omega), cY_state_ok, bnd_some, hm, es, cH_wardOf_ok p w.1 cm sr.1 (by omega) (by omega) (by omega), bnd_some, setCell_in (by omega) (by rw [al46]; omega), bnd_some, ← hm1, cY_state_ok, bnd_some, hmm1, es1, cH_isJammed_ok w.1 cm1 hv (by omega) (by omega), bnd_some]
    refine ⟨m2, ?_, g2, g3⟩
    rw [← g1, ← s117]
    rcases b01 with b | b
    · rw [b, if_pos (by decide)]
    · rw [b, if_neg (by decide)]
theorem img_ck {m : xm} {f : Int → Int} {n : Int} (h0 : 0 ≤ n) (h10 : n ≤ 10) (hf : ∀ j, 0 ≤ j → j < n → ld m 46 j = f j ∧ 0 ≤ f j ∧ f j ≤ 255) : ∀ (fu k : Nat), (k : Int) ≤ n → n.toNat - k < fu → cL_image_131 fu n (ck f k) (k : Int) m = cL_image_155 n (ck f n.toNat) m := by
  intro fu
  induction fu with
  | zero => intro k _ hf; omega
  | succ fu ih =>
    intro k hk hfu
    rw [cL_image_131, w32_id (x := n) (by omega) (by omega), w32_id (x := (k : Int)) (by omega) (by omega)]
    by_cases he : n ≤ (k : Int)
    · rw [if_pos he, show n.toNat = k by omega]
    · have q := hf (k : Int) (by omega) (by omega)
      have r := ck_rng f k
      rw [if_neg he, cell_in (by omega) (by rw [al46]; omega), bnd_some, q.1]
      unfold cL_nextCheck
      rw [bnd_some, irm_nn (by omega) (by omega) (by decide) (by decide)]
      exact ih (k + 1) (by omega) (by omega)
theorem r_checked_ok {m : xm} {a : Nat} {f : Int → Int} {n : Int} (h0 : 0 ≤ n) (h10 : n ≤ 10) (ha : 10 ≤ aln a) (hf : ∀ j, 0 ≤ j → j < n → ld m a j = f j ∧ 0 ≤ f j ∧ f j ≤ 255) : r_checked a n m = some (ck f n.toNat, m) := by
  have lp : ∀ (fu k : Nat), (k : Int) ≤ n → n.toNat - k < fu → r_checked_5 a fu n (ck f k) (k : Int) m = some (ck f n.toNat, m) := by
    intro fu
    induction fu with
    | zero => intro k _ hf; omega
    | succ fu ih =>
      intro k hk hfu
      rw [r_checked_5, w32_id (x := n) (by omega) (by omega), w32_id (x := (k : Int)) (by omega) (by omega)]
      by_cases he : n ≤ (k : Int)
      · rw [if_pos he, show n.toNat = k by omega]
      · have q := hf (k : Int) (by omega) (by omega)
        have r := ck_rng f k
        rw [if_neg he, ial_in (by omega) (by omega), q.1, xlt_eq, irm_nn (by omega) (by omega) (by decide) (by decide)]
        exact ih (k + 1) (by omega) (by omega)
  exact lp xLF 0 (by omega) (by rw [xLF_eq]; omega)
/-- k octets are written -/
def WR (m0 m : xm) (k : Int) (f : Int → Int) : Prop := (∀ a j, a ≠ 141 → ¬ (a = 78 ∧ j = 94) → m a j = m0 a j) ∧ ld m 78 94 = k ∧ ∀ j, 0 ≤ j → j < k → ld m 141 j = f j
theorem r_writes_ok {m0 m : xm} {k x : Int} {f : Int → Int} (W : WR m0 m k f) (h0 : 0 ≤ k) (h1 : k < 11) (hx : f k = x) (hr : rg x) : ∃ m', r_writes x m = some (0, m') ∧ WR m0 m' (k + 1) f := by
  obtain ⟨w1, w2, w3⟩ := W
  unfold r_writes
  rw [w2, ias_in h0 (by rw [al141]; omega), stf_eq, ld_st_nc (by decide), w2]
  refine ⟨_, rfl, fun a j z1 z2 => by rw [st_at z2, st_at (fun y => z1 y.1), w1 a j z1 z2], by rw [ld_st_eq, w32_id (by omega) (by omega)], fun j z1 z2 => ?_⟩
  rw [ld_st_nc (by decide)]
  by_cases e : j = k
  · rw [e, ld_st_eq, w32_rg hr, hx]
  · rw [ld_st_ne e]
    exact w3 j z1 (by omega)
theorem r_img_loop {G : hv} (w : wfG G) {m0 : xm} (r0 : RH m0 G) {s : Int} (n0 : NR m0 G s) (hv : vs G s) {F : Int → Int} (hF : ∀ l, 0 ≤ l → l < nL G → F (2 + 2 * l) = wd G s l ∧ F (3 + 2 * l) = bt (jm G s) l) : ∀ (r f : Nat) {m : xm}, (r : Int) ≤ nL G → r < f → WR m0 m (2 + 2 * (nL G - (r : Int))) F → ∃ m', r_image_35 f (nL G - (r : Int)) m = r_image_75 m' ∧ WR m0 m' (2 + 2 * nL G) F := by
  have gL := w.1.2.1
  intro r
  induction r with
  | zero =>
    intro f m hr hf W
    obtain ⟨f, rfl⟩ : ∃ f', f = f' + 1 := ⟨f - 1, by omega⟩
    have rm : RH m G := RH_cg r0 (fun a k z1 z2 _ => ldq (W.1 a k (by omega) (by omega)))
    rw [r_image_35, r_lockMany_ok rm, bnd_some, w32_id (x := nL G) (by omega) (by omega), w32_id (x := nL G - ((0 : Nat) : Int)) (by omega) (by omega), if_pos (by omega)]
    rw [show nL G - ((0 : Nat) : Int) = nL G by omega] at W
    exact ⟨m, rfl, W⟩
  | succ r ih =>
    intro f m hr hf W
    obtain ⟨f, rfl⟩ : ∃ f', f = f' + 1 := ⟨f - 1, by omega⟩
    obtain ⟨l, hl4⟩ : ∃ l, nL G - ((r + 1 : Nat) : Int) = l := ⟨_, rfl⟩
    rw [hl4] at W ⊢
    have rm : RH m G := RH_cg r0 (fun a k z1 z2 _ => ldq (W.1 a k (by omega) (by omega)))
    have nm : NR m G s := NR_cg n0 (fun k => ldq (W.1 110 k (by omega) (by omega)))
    have wr := wd_rng w.1 s l
    have wp := wx_pos w.1 l
    have b01 := bt_01 (jm G s) l
    have fl := hF l (by omega) (by omega)
    obtain ⟨m1, a1, a2⟩ := r_writes_ok W (by omega) (by omega) fl.1 ⟨by omega, by omega⟩
    have nm1 : NR m1 G s := NR_cg n0 (fun k => ldq (a2.1 110 k (by omega) (by omega)))
    obtain ⟨m2, b1, b2⟩ := r_writes_ok a2 (by omega) (by omega) (x := bt (jm G s) l) (by rw [show 2 + 2 * l + 1 = 3 + 2 * l by omega]; exact fl.2) ⟨by omega, by omega⟩
    rw [show 2 + 2 * l + 1 + 1 = 2 + 2 * (nL G - (r : Int)) by omega] at b2
    obtain ⟨m3, g1, g2⟩ := ih f (m := m2) (by omega) (by omega) b2
    rw [r_image_35, r_lockMany_ok rm, bnd_some, w32_id (x := nL G) (by omega) (by omega), w32_id (x := l) (by omega) (by omega), if_neg (by omega), r_wardNow_ok w.1 nm (by omega) (by omega), bnd_some, a1, bnd_some, r_isJammed_ok w.1 hv nm1 (by omega) (by omega), bnd_some]
    refine ⟨m3, ?_, g2⟩
    have s66 : r_image_66 (fun v1 m => r_image_35 f v1 m) l (bt (jm G s) l) m1 = r_image_35 f (nL G - (r : Int)) m2 := by
      unfold r_image_66
      rw [b1, bnd_some, show l + 1 = nL G - (r : Int) by omega]
    rw [← g1, ← s66]
    rcases b01 with b | b
    · rw [b, if_pos (by decide)]
    · rw [b, if_neg (by decide)]
theorem ok_image : okI cL_image r_image := by
  intro m hi
  obtain ⟨G, H⟩ := hi
  have H0 : IG m G := H
  obtain ⟨⟨w, hD, -, c, M, r, -⟩, S0, P0, T, -, R, HH, JJ, LL, II, E⟩ := H0
  have vS := S0.1
  have N0 := SN_NR S0
  have pl := S0.2.2.2.1
  obtain ⟨h, hh⟩ : ∃ h, hl m 12 = h := ⟨_, rfl⟩
  have p := hl_or m 12
  rw [hh] at p c M
  have pr := isH_rng p
  have gL := w.1
  have gL1 := gL.1
  have gL2 := gL.2.1
  obtain ⟨s, hs⟩ : ∃ s, ld m 22 0 = s := ⟨_, rfl⟩
  obtain ⟨q, hq⟩ : ∃ q, ld m 22 1 = q := ⟨_, rfl⟩
  rw [hs] at vS N0
  rw [hq] at pl
  have ir : ∀ j, 0 ≤ io G s q j ∧ io G s q j ≤ 255 := fun j => io_rng gL vS pl.2.1 pl.2.2
  have i0 : io G s q 0 = q / 256 := by unfold io; rw [if_pos rfl]
  have i1 : io G s q 1 = q % 256 := by unfold io; rw [if_neg (by decide), if_pos rfl]
  -- the program
  obtain ⟨m1, hm1⟩ : ∃ m1, m1 = st (st m 46 0 (q / 256)) 46 1 (q % 256) := ⟨_, rfl⟩
  have e1 : ∀ a j, a ≠ 46 → m1 a j = m a j := fun a j z => by rw [hm1, st_at (fun y => z y.1), st_at (fun y => z y.1)]
  obtain ⟨mA, a1, a2, a3⟩ := img_loop p w hh c vS hs (q := q) (nL G).toNat xLF (m := m1) (by omega) (by rw [xLF_eq]; omega) e1 (fun j z1 z2 => by
    rw [hm1]
    by_cases e : j = 1
    · rw [e, ld_st_eq, i1, w32_id (by omega) (by omega)]
    · have : j = 0 := by omega
      rw [this, ld_st_ne (by decide), ld_st_eq, i0, w32_id (by omega) (by omega)])
  rw [show nL G - ((nL G).toNat : Int) = 0 by omega] at a1
  have ckr := ck_rng (io G s q) (2 + 2 * nL G).toNat
  obtain ⟨C, hC⟩ : ∃ C, ck (io G s q) (2 + 2 * nL G).toNat = C := ⟨_, rfl⟩
  have ca := img_ck (m := mA) (f := io G s q) (n := 2 + 2 * nL G) (by omega) (by omega) (fun j z1 z2 => ⟨a3 j z1 z2, ir j⟩) xLF 0 (by omega) (by rw [xLF_eq]; omega)
  rw [hC] at ca ckr
  obtain ⟨mB, hmB⟩ : ∃ mB, mB = st (st mA 46 (2 + 2 * nL G) C) 0 16 (2 + 2 * nL G + 1) := ⟨_, rfl⟩
  have eC : cL_image m = some (2 + 2 * nL G + 1, mB) := by
    unfold cL_image
    rw [cY_played_ok, bnd_some, hq, idv_nn (by omega) (by omega) (by decide) (by decide), setCell_in (by decide) (by rw [al46]; decide), bnd_some, cY_played_ok, bnd_some, ld_st_nc (by decide), hq, irm_nn (by omega) (by omega) (by decide) (by decide), setCell_in (by decide) (by rw [al46]; decide), bnd_some]
    show cL_image_48 xLF (2 + 2 * 0) 0 (st (st m 46 0 (q / 256)) 46 1 (q % 256)) = _
    rw [← hm1, a1]
    unfold cL_image_126
    refine Eq.trans ca ?_
    unfold cL_image_155
    rw [setCell_in (by omega) (by rw [al46]; omega), bnd_some, stf_eq, hmB]
  have frB : ∀ a j, a ≠ 46 → ¬ (a = 0 ∧ j = 16) → mB a j = m a j := fun a j z1 z2 => by rw [hmB, st_at z2, st_at (fun y => z1 y.1), a2 a j z1]
  -- the reference
  have rB : RH mB G := RH_cg r (fun a k z1 z2 _ => ldq (frB a k (by omega) (by omega)))
  have nB : NR mB G s := NR_cg N0 (fun k => ldq (frB 110 k (by decide) (by omega)))
  have e110 : ld mB 110 0 = q := by rw [ldq (frB 110 0 (by decide) (by decide)), ← pl.1]
  obtain ⟨F, hF⟩ : ∃ F : Int → Int, F = fun j => if j = 2 + 2 * nL G then C else io G s q j := ⟨_, rfl⟩
  have Fio : ∀ j, j < 2 + 2 * nL G → F j = io G s q j := fun j z => by rw [hF]; simp only; rw [if_neg (by omega)]
  have W0 : WR mB (st mB 78 94 0) 0 F := ⟨fun a j z1 z2 => st_at z2, by rw [ld_st_eq]; rfl, fun j z1 z2 => by omega⟩
  obtain ⟨m2, b1, b2⟩ := r_writes_ok W0 (by decide) (by decide) (x := q / 256) (by rw [Fio 0 (by omega), i0]) ⟨by omega, by omega⟩
  obtain ⟨m3, d1, d2⟩ := r_writes_ok b2 (by decide) (by decide) (x := q % 256) (by rw [show (0 : Int) + 1 = 1 from rfl, Fio 1 (by omega), i1]) ⟨by omega, by omega⟩
  obtain ⟨m4, g1, g2⟩ := r_img_loop w rB nB vS (F := F) (fun l z1 z2 => ⟨by rw [Fio _ (by omega), io_w z1], by rw [Fio _ (by omega), io_j z1]⟩) (nL G).toNat xLF (m := m3) (by omega) (by rw [xLF_eq]; omega) (by rw [show 2 + 2 * (nL G - ((nL G).toNat : Int)) = 0 + 1 + 1 by omega]; exact d2)
  rw [show nL G - ((nL G).toNat : Int) = 0 by omega] at g1
  have rc := r_checked_ok (m := m4) (a := 141) (f := io G s q) (n := 2 + 2 * nL G) (by omega) (by omega) (by rw [al141]; decide) (fun j z1 z2 => ⟨by rw [g2.2.2 j z1 z2, Fio j z2], ir j⟩)
  rw [hC] at rc
  obtain ⟨m5, k1, k2⟩ := r_writes_ok g2 (by omega) (by omega) (x := C) (by rw [hF]; simp) ⟨by omega, by omega⟩
  have eR : r_image mB = some (2 + 2 * nL G + 1, m5) := by
    unfold r_image
    rw [stf_eq, ial_in (by decide) (by decide), ld_st_nc (by decide), e110, idv_nn (by omega) (by omega) (by decide) (by decide), b1, bnd_some, ial_in (by decide) (by decide), ldq (b2.1 110 0 (by decide) (by decide)), e110, irm_nn (by omega) (by omega) (by decide) (by decide), d1, bnd_some, g1]
    unfold r_image_75
    rw [g2.2.1, rc, bnd_some, k1, bnd_some, k2.2.1]
  have fr : ∀ a j, ¬ fIM a j → m5 a j = m a j := fun a j z => by
    unfold fIM at z
    rw [k2.1 a j (by omega) (by omega), frB a j (by omega) (by omega)]
  refine ⟨_, mB, _, m5, eC, eR, rfl, ⟨G, IG_qry hh H (fun a k z => fr a k (fun q => z (by unfold qset; simp [q]))) (CM_cg M (fun k => fr _ k (by unfold fIM; omega))) (fun k z1 z2 => ldq (fr 110 k (by unfold fIM; omega))) (TP_cg T ?_) (RF_cg R ?_) (HE_cg HH ?_) (JU_cg JJ ?_) (SL_cg LL ?_) ?_⟩⟩
  · exact fun a k z => by unfold fTP at z; exact fr a k (by unfold fIM; omega)
  · exact fun a k z => by unfold fRF at z; exact fr a k (by unfold fIM; omega)
  · exact fun a k z => by unfold fHE at z; exact fr a k (by unfold fIM; omega)
  · exact fun a k z => by unfold fJU at z; exact fr a k (by unfold fIM; omega)
  · exact fun a k z => by unfold fSL at z; exact fr a k (by unfold fIM; omega)
  · have e16 : ld m5 0 16 = 2 + 2 * nL G + 1 := by rw [ldq (k2.1 0 16 (by decide) (by decide)), hmB, ld_st_eq, w32_id (by omega) (by omega)]
    unfold IM
    rw [e16, k2.2.1]
    refine ⟨rfl, by omega, by omega, fun k z1 z2 => ?_⟩
    rw [k2.2.2 k z1 z2, ldq (k2.1 46 k (by decide) (by omega)), hmB, ld_st_nc (by decide)]
    by_cases e : k = 2 + 2 * nL G
    · rw [e, ld_st_eq, w32_id (by omega) (by omega), hF]
      simp
    · rw [ld_st_ne e, a3 k z1 (by omega), Fio k (by omega)]
