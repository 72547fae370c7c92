/-! the program's stack, valueOf, openDoors -/
def skr (m : xm) (a : Nat) : List Int → Prop
  | [] => True
  | x :: r => ld m a (r.length : Int) = x ∧ skr m a r
theorem skr_cg {m m' : xm} {a : Nat} : ∀ {k : List Int}, skr m a k → (∀ i : Nat, i < k.length → ld m' a i = ld m a i) → skr m' a k
  | [], _, _ => trivial
  | x :: r, h, e => ⟨by rw [e r.length (by rw [List.length_cons]; omega)]; exact h.1, skr_cg h.2 (fun i hi => e i (by rw [List.length_cons]; omega))⟩
/-- only the code's stack was changed -/
def fr (c : Nat) (m m' : xm) : Prop := ∀ a k, ¬ (a = c ∧ k = 3) → a ≠ c + 2 → m' a k = m a k
theorem fr_refl {c : Nat} {m : xm} : fr c m m := fun _ _ _ _ => rfl
theorem fr_trans {c : Nat} {m1 m2 m3 : xm} (h1 : fr c m1 m2) (h2 : fr c m2 m3) : fr c m1 m3 := fun a k g1 g2 => by rw [h2 a k g1 g2, h1 a k g1 g2]
theorem fr_top {c : Nat} {m : xm} {v : Int} : fr c m (st m c 3 v) := fun a k g1 _ => by
  unfold st
  rw [if_neg g1]
theorem fr_stk {c : Nat} {m : xm} {i v : Int} : fr c m (st m (c + 2) i v) := fun a k _ g2 => by
  unfold st
  rw [if_neg (fun z => g2 z.1)]
theorem fr_ld {c : Nat} {m m' : xm} (h : fr c m m') {a : Nat} {k : Int} (g1 : ¬ (a = c ∧ k = 3)) (g2 : a ≠ c + 2) : ld m' a k = ld m a k := by
  unfold ld
  rw [h a k g1 g2]
def cfor (h c : Nat) : Prop := c = h + 1 ∨ c = 7
theorem fr_CH {c h : Nat} {m m' : xm} {G : hv} (p : isH h) (hc : cfor h c) (f : fr c m m') (H : CH m h G) : CH m' h G := by
  have := isH_rng p
  refine CH_cg H (fun a k z => fr_ld f ?_ ?_)
  · rcases hc with rfl | rfl <;> rcases z with rfl | ⟨z1, z2⟩ | ⟨rfl, z⟩ <;> omega
  · rcases hc with rfl | rfl <;> rcases z with rfl | ⟨z1, z2⟩ | ⟨rfl, z⟩ <;> omega
theorem alnC {c : Nat} (p : isC c) : aln (c + 1) = 1600 ∧ aln (c + 2) = 64 := by
  rcases p with rfl | rfl | rfl <;> exact ⟨rfl, rfl⟩
theorem cfor_C {h c : Nat} (p : isH h) (hc : cfor h c) : isC c := by
  rcases hc with rfl | rfl
  · exact isC_H p
  · exact Or.inl rfl
section PP
variable {m : xm} {c : Nat}
theorem cC_push_ok (p : isC c) {k : List Int} {x : Int} (ht : ld m c 3 = k.length) (hk : skr m (c + 2) k) (hl : k.length < 64) (hx : -2147483648 ≤ x) (hx2 : x ≤ 2147483647) : ∃ m', cC_push c x m = some (0, m') ∧ fr c m m' ∧ ld m' c 3 = (k.length + 1 : Nat) ∧ skr m' (c + 2) (x :: k) := by
  have a := alnC p
  unfold cC_push
  rw [ht, if_neg (by omega), setCell_in (by omega) (by omega), bnd_some, stf_eq, ld_st_nc (by omega), ht]
  refine ⟨_, rfl, fr_trans fr_stk fr_top, ?_, ?_, ?_⟩
  · rw [ld_st_eq, w32_id (by omega) (by omega)]
    omega
  · rw [ld_st_nc (by omega), ld_st_eq, w32_id hx hx2]
  · refine skr_cg hk (fun i hi => ?_)
    rw [ld_st_nc (by omega), ld_st_ne (by omega)]
theorem cC_pop_ok (p : isC c) {k : List Int} {x : Int} (ht : ld m c 3 = (k.length + 1 : Nat)) (hk : skr m (c + 2) (x :: k)) (hl : k.length < 64) : ∃ m', cC_pop c m = some (x, m') ∧ fr c m m' ∧ ld m' c 3 = k.length ∧ skr m' (c + 2) k := by
  have a := alnC p
  unfold cC_pop cC_pop_17
  have e : ld (st m c 3 (((k.length + 1 : Nat) : Int) - 1)) c 3 = (k.length : Int) := by
    rw [ld_st_eq, w32_id (by omega) (by omega)]
    omega
  rw [ht, if_neg (by omega), stf_eq, e, cell_in (by omega) (by omega), bnd_some, ld_st_nc (by omega), hk.1]
  refine ⟨_, rfl, fr_top, e, ?_⟩
  exact skr_cg hk.2 (fun i hi => ld_st_nc (by omega))
end PP
theorem vok_rng {b : Bool} {x : Int} (h : vok1 b x) : -1000000 ≤ x ∧ x ≤ 1000000 := by
  unfold vok1 at h
  split at h <;> omega
section VL
variable {h c : Nat} {G : hv}
/-- one step -/
theorem valueOf_step (p : isH h) (hc : cfor h c) (w : wfG G) {q : Bool} {s lk : Int} (hv : vs G s) (hq : q = true → 0 ≤ lk ∧ lk < nL G) (hl : -1 ≤ lk) (hl2 : lk < 4) {m : xm} (H : CH m h G) {f : Nat} {to k t : Int} {kb kb' : List Bool} {stk : List Int} (hk0 : 0 ≤ k) (hk1 : k < to) (hto : to ≤ 1600) (et : ld m (c + 1) k = t) (ht : tyk q t kb = some kb') (hlen : kb'.length ≤ 64) (hkl : kb.length ≤ 64) (hvk : vok kb stk) (htop : ld m c 3 = stk.length) (hsk : skr m (c + 2) stk) :
    ∃ m1, cC_valueOf_8 c h (f + 1) to s lk k m = cC_valueOf_8 c h f to s lk (k + 1) m1 ∧ fr c m m1 ∧ ld m1 c 3 = (tks G s lk t stk).length ∧ skr m1 (c + 2) (tks G s lk t stk) := by
  have pc := cfor_C p hc
  have a := alnC pc
  have tr := ld_ge m (c + 1) k
  have tr2 := ld_le m (c + 1) k
  rw [et] at tr tr2
  have hln := vok_len hvk
  have htk := tk_ok w hl hl2 (fun z => (hq z).1) (s := s) hvk ht
  rw [cC_valueOf_8]
  rw [w32_id (x := to) (by omega) (by omega), w32_id (x := k) (by omega) (by omega), if_neg (by omega), cell_in hk0 (by omega), bnd_some, et, w32_id tr tr2]
  have key141 : ∀ m1, cC_valueOf_141 c h (fun v2 v4 v5 v6 m => cC_valueOf_8 c h f v2 v4 v5 v6 m) to s lk k m1 = cC_valueOf_8 c h f to s lk (k + 1) m1 := fun _ => rfl
  rcases tyk_cases ht with ⟨ht1, rfl⟩ | ⟨rfl, r, rfl, rfl⟩ | ⟨ht1, r, rfl, rfl⟩ | ⟨ht1, r, rfl, rfl⟩ | ⟨ht1, ht2, r, rfl, rfl⟩ | ⟨ht1, ht2, r, rfl, rfl⟩
  · rw [List.length_cons] at hlen
    by_cases hn : t < 10000
    · have e : tks G s lk t stk = t :: stk := by unfold tks; rw [if_pos hn]
      rw [if_neg (by omega), e]
      obtain ⟨m1, e1, e2, e3, e4⟩ := cC_push_ok pc htop hsk (by omega) tr tr2
      rw [e1, bnd_some, key141]
      exact ⟨m1, rfl, e2, e3, e4⟩
    · have e : tks G s lk t stk = tkL G s lk t :: stk := by unfold tks; rw [if_neg hn, if_pos (by omega)]
      rw [e]
      have hr := tkL_rng w (s := s) (t := t) hl hl2
      rw [if_pos (by omega), if_neg (by omega), cC_leaf_ok p w H hv (by omega) (by omega) (fun z => hq (by rcases ht1 with g | g; omega; exact g.2.2)), bnd_some]
      obtain ⟨m1, e1, e2, e3, e4⟩ := cC_push_ok pc htop hsk (by omega) (show -2147483648 ≤ tkL G s lk t by omega) (by omega)
      rw [e1, bnd_some, key141]
      exact ⟨m1, rfl, e2, e3, e4⟩
  · match stk, hvk, htop, hsk, hln, htk with
    | x :: k0, hvk, htop, hsk, hln, htk =>
      simp only [List.length_cons] at hlen hln
      have hx := vok_rng hvk.1
      have e : tks G s lk 10010 (x :: k0) = tk1 G s lk 10010 x :: k0 := rfl
      rw [e] at htk ⊢
      have hy := vok_rng htk.1
      rw [if_pos (by decide), if_pos (by decide), if_neg (by decide)]
      obtain ⟨m1, e1, e2, e3, e4⟩ := cC_pop_ok pc htop hsk (by omega)
      rw [e1, bnd_some, cC_ofOne_ok p w (fr_CH p hc e2 H) hv (by decide) (by decide) hx.1 hx.2 (fun z => absurd z (by decide)), bnd_some]
      obtain ⟨m2, g1, g2, g3, g4⟩ := cC_push_ok pc e3 e4 (by omega) (show -2147483648 ≤ tk1 G s lk 10010 x by omega) (by omega)
      rw [g1, bnd_some, key141]
      exact ⟨m2, rfl, fr_trans e2 g2, g3, g4⟩
  · match stk, hvk, htop, hsk, hln, htk with
    | x :: k0, hvk, htop, hsk, hln, htk =>
      simp only [List.length_cons] at hlen hln
      have hx := vok_rng hvk.1
      have e : tks G s lk t (x :: k0) = tk1 G s lk t x :: k0 := by unfold tks; rw [if_neg (by omega), if_neg (by omega), if_pos (by omega)]
      rw [e] at htk ⊢
      have hy := vok_rng htk.1
      rw [if_pos (by omega), if_pos (by omega), if_neg (by omega)]
      obtain ⟨m1, e1, e2, e3, e4⟩ := cC_pop_ok pc htop hsk (by omega)
      rw [e1, bnd_some, cC_ofOne_ok p w (fr_CH p hc e2 H) hv (by omega) (by omega) hx.1 hx.2 (fun z => hq (by rcases ht1 with g | g; omega; exact g.2)), bnd_some]
      obtain ⟨m2, g1, g2, g3, g4⟩ := cC_push_ok pc e3 e4 (by omega) (show -2147483648 ≤ tk1 G s lk t x by omega) (by omega)
      rw [g1, bnd_some, key141]
      exact ⟨m2, rfl, fr_trans e2 g2, g3, g4⟩
  all_goals
    match stk, hvk, htop, hsk, hln, htk with
    | y :: x :: k0, hvk, htop, hsk, hln, htk =>
      have hl1 : k0.length + 1 < 64 := by
        have := vok_len hvk.2.2
        simp only [List.length_cons] at hkl
        omega
      have hy := vok_rng hvk.1
      have hx := vok_rng hvk.2.1
      have e : tks G s lk t (y :: x :: k0) = tk2 t x y :: k0 := by unfold tks; rw [if_neg (by omega), if_neg (by omega), if_neg (by omega)]
      rw [e] at htk ⊢
      have hz := vok_rng htk.1
      rw [if_pos (by omega), if_pos (by omega), if_pos (by omega)]
      obtain ⟨m1, e1, e2, e3, e4⟩ := cC_pop_ok pc htop hsk (by rw [List.length_cons]; omega)
      obtain ⟨m2, f1, f2, f3, f4⟩ := cC_pop_ok pc e3 e4 (by omega)
      obtain ⟨m3, g1, g2, g3, g4⟩ := cC_push_ok pc f3 f4 (by omega) (show -2147483648 ≤ tk2 t x y by omega) (by omega)
      rw [e1, bnd_some, f1, bnd_some]
      by_cases ht3 : 10030 ≤ t
      · rw [if_pos ht3, cC_ofSums_ok ht3 (by omega) hx.1 hx.2 hy.1 hy.2, bnd_some]
        unfold cC_valueOf_138
        rw [g1, bnd_some, key141]
        exact ⟨m3, rfl, fr_trans e2 (fr_trans f2 g2), g3, g4⟩
      · rw [if_neg ht3, cC_ofTests_ok (by omega) (by omega) hx.1 hx.2 hy.1 hy.2, bnd_some]
        unfold cC_valueOf_138
        rw [g1, bnd_some, key141]
        exact ⟨m3, rfl, fr_trans e2 (fr_trans f2 g2), g3, g4⟩
theorem valueOf_loop (p : isH h) (hc : cfor h c) (w : wfG G) {q : Bool} {s lk : Int} (hv : vs G s) (hq : q = true → 0 ≤ lk ∧ lk < nL G) (hl : -1 ≤ lk) (hl2 : lk < 4) {to : Int} (hto : to ≤ 1600) {b : Bool} : ∀ (ts : List Int) {m : xm} {f : Nat} {k : Int} {kb : List Bool} {stk : List Int}, CH m h G → 0 ≤ k → k + ts.length = to → (∀ i : Nat, i < ts.length → ld m (c + 1) (k + i) = ts.getD i 0) → tyl q ts kb = some [b] → vok kb stk → kb.length ≤ 64 → ld m c 3 = stk.length → skr m (c + 2) stk → ts.length < f →
    ∃ v m', cC_valueOf_8 c h f to s lk k m = some (v, m') ∧ evl G s lk ts stk = [v] ∧ vok1 b v ∧ fr c m m' := by
  have pc := cfor_C p hc
  have a := alnC pc
  intro ts
  induction ts with
  | nil =>
    intro m f k kb stk H hk0 hk1 _ ht hvk hkl htop hsk hf
    cases ht
    obtain ⟨f, rfl⟩ : ∃ f', f = f' + 1 := ⟨f - 1, by omega⟩
    simp only [List.length_nil] at hk1
    match stk, hvk, htop, hsk with
    | [x], hvk, htop, hsk =>
      rw [cC_valueOf_8]
      unfold cC_valueOf_147
      rw [w32_id (x := to) (by omega) (by omega), w32_id (x := k) (by omega) (by omega), if_pos (by omega)]
      obtain ⟨m1, e1, e2, -, -⟩ := cC_pop_ok (k := []) pc htop hsk (by decide)
      rw [e1, bnd_some]
      exact ⟨x, m1, rfl, rfl, hvk.1, e2⟩
  | cons t ts ih =>
    intro m f k kb stk H hk0 hk1 hc1 ht hvk hkl htop hsk hf
    simp only [List.length_cons] at hk1 hf
    obtain ⟨f, rfl⟩ : ∃ f', f = f' + 1 := ⟨f - 1, by omega⟩
    have et : ld m (c + 1) k = t := by
      have := hc1 0 (by rw [List.length_cons]; omega)
      simpa using this
    unfold tyl at ht
    split at ht
    · next kb' hty =>
      split at ht
      · next hlen =>
        obtain ⟨m1, e1, e2, e3, e4⟩ := valueOf_step p hc w hv hq hl hl2 H (f := f) hk0 (by omega) hto et hty hlen hkl hvk htop hsk
        have hvk' := tk_ok w hl hl2 (fun z => (hq z).1) (s := s) hvk hty
        obtain ⟨v, m2, g1, g2, g3, g4⟩ := ih (m := m1) (f := f) (k := k + 1) (fr_CH p hc e2 H) (by omega) (by omega) (fun i hi => by
          rw [fr_ld e2 (by omega) (by omega)]
          have := hc1 (i + 1) (by rw [List.length_cons]; omega)
          rw [show k + 1 + (i : Int) = k + ((i + 1 : Nat) : Int) by omega, this]
          rfl) ht hvk' hlen e3 e4 (by omega)
        rw [e1]
        exact ⟨v, m2, g1, g2, g3, fr_trans e2 g4⟩
      · cases ht
    · cases ht
/-- the steps of a code from one place to ahead of another -/
def sgm (C : Int → Int) (a b : Int) : List Int := (List.range (b - a).toNat).map (fun i : Nat => C (a + i))
theorem sgm_len (C : Int → Int) (a b : Int) : (sgm C a b).length = (b - a).toNat := by
  unfold sgm
  rw [List.length_map, List.length_range]
theorem sgm_at (C : Int → Int) (a b : Int) (i : Nat) (h : i < (b - a).toNat) : (sgm C a b).getD i 0 = C (a + i) := by
  unfold sgm
  rw [List.getD_eq_getElem?_getD, List.getElem?_map, List.getElem?_range h]
  rfl
theorem cC_valueOf_ok (p : isH h) (hc : cfor h c) (w : wfG G) {q : Bool} {s lk : Int} (hv : vs G s) (hq : q = true → 0 ≤ lk ∧ lk < nL G) (hl : -1 ≤ lk) (hl2 : lk < 4) {m : xm} (H : CH m h G) {fm to : Int} {b : Bool} {C : Int → Int} (h0 : 0 ≤ fm) (h1 : fm ≤ to) (hto : to ≤ 1600) (hC : ∀ k, fm ≤ k → k < to → ld m (c + 1) k = C k) (ht : tyl q (sgm C fm to) [] = some [b]) :
    ∃ v m', cC_valueOf c h fm to s lk m = some (v, m') ∧ evl G s lk (sgm C fm to) [] = [v] ∧ vok1 b v ∧ fr c m m' := by
  have hln := sgm_len C fm to
  unfold cC_valueOf
  rw [stf_eq]
  obtain ⟨v, m', e1, e2, e3, e4⟩ := valueOf_loop p hc w hv hq hl hl2 hto (sgm C fm to) (m := st m c 3 0) (f := xLF) (k := fm) (kb := []) (stk := []) (fr_CH p hc fr_top H) h0 (by omega) (fun i hi => by
    rw [ld_st_nc (by omega), sgm_at _ _ _ _ (by omega), hC _ (by omega) (by omega)]) ht trivial (by decide) (by rw [ld_st_eq]; rfl) trivial (by rw [xLF_eq]; omega)
  exact ⟨v, m', e1, e2, e3, fr_trans fr_top e4⟩
/-- doors -/
def seg (G : hv) (d : Int) : List Int := sgm (G 8) (G 6 d) (G 7 d)
def dv (G : hv) (s d : Int) : Int := (evl G s (-1) (seg G d) []).headD 0
def odl (G : hv) (s : Int) : Nat → Int
  | 0 => 0
  | k + 1 => odl G s k + dv G s (k : Int) * 2 ^ k
def od (G : hv) (s : Int) : Int := odl G s (nD G).toNat
def wfD (G : hv) : Prop := ∀ d, 0 ≤ d → d < nD G → 0 ≤ G 6 d ∧ G 6 d ≤ G 7 d ∧ G 7 d ≤ 1600 ∧ tyl false (seg G d) [] = some [true]
theorem dv_01 (w : wfG G) (hD : wfD G) {s d : Int} (h1 : 0 ≤ d) (h2 : d < nD G) : evl G s (-1) (seg G d) [] = [dv G s d] ∧ (dv G s d = 0 ∨ dv G s d = 1) := by
  obtain ⟨-, -, -, ht⟩ := hD d h1 h2
  have := tyl_ok w (q := false) (s := s) (lk := -1) (by omega) (by omega) (fun z => by cases z) (seg G d) (k := []) (r := []) trivial ht
  unfold dv
  match evl G s (-1) (seg G d) [], this with
  | [v], hv => exact ⟨rfl, hv.1⟩
theorem odl_rng (w : wfG G) (hD : wfD G) (s : Int) : ∀ k : Nat, (k : Int) ≤ nD G → 0 ≤ odl G s k ∧ odl G s k < 2 ^ k
  | 0, _ => ⟨Int.le_refl _, show (0 : Int) < 2 ^ 0 by decide⟩
  | k + 1, hk => by
    have ih := odl_rng w hD s k (by omega)
    have d := (dv_01 w hD (s := s) (d := k) (by omega) (by omega)).2
    have e : (2 : Int) ^ (k + 1) = 2 ^ k * 2 := Int.pow_succ 2 k
    unfold odl
    rw [e]
    rcases d with d | d <;> rw [d] <;> omega
theorem p2_6 : ∀ n : Nat, n ≤ 6 → (2 : Int) ^ n ≤ 64 := by decide
theorem od_rng (w : wfG G) (hD : wfD G) (s : Int) : 0 ≤ od G s ∧ od G s < 64 := by
  have g := w.2.2.1
  have := odl_rng w hD s (nD G).toNat (by omega)
  have := p2_6 (nD G).toNat (by omega)
  unfold od
  omega
end VL
