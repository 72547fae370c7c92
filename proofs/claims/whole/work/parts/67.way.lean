/-! what was found, and the way there -/
theorem bfq_res {G : hv} {A : Int} {So : Int → Bool} : ∀ (r i : Nat) {q : List qe}, (bfq G A So r i q).1 = -1 ∨ ∃ j : Nat, (bfq G A So r i q).1 = (j : Int) ∧ j < (bfq G A So r i q).2.length ∧ So (gd (bfq G A So r i q).2 j).1 = true
  | 0, _, _ => Or.inl rfl
  | r + 1, i, q => by
    rw [bfq]
    by_cases c : q.length ≤ i
    · rw [if_pos c]
      exact Or.inl rfl
    · rw [if_neg c]
      by_cases e : So (gd q i).1 = true
      · rw [if_pos e]
        exact Or.inr ⟨i, rfl, by dsimp only; omega, e⟩
      · rw [if_neg e]
        exact bfq_res r (i + 1)
theorem lenTo_loop {G : hv} {s0 : Int} {m : xm} {q : List qe} (Q : okQ G s0 q) (C : CQ m q) (hl : q.length ≤ 1296) : ∀ (n i f : Nat) {c : Int}, i ≤ n → i < q.length → i < f → 0 ≤ c → c + (gd q i).2.2.2 ≤ 1295 → cS_lengthTo_11 f c (gd q i).2.1 m = some (c + (gd q i).2.2.2, m) := by
  intro n
  induction n with
  | zero =>
    intro i f c hn hi hf c0 c1
    obtain rfl : i = 0 := by omega
    obtain ⟨f, rfl⟩ : ∃ f', f = f' + 1 := ⟨f - 1, by omega⟩
    rw [cS_lengthTo_11, Q.1.2, if_pos (show w32 (-1) = -1 by decide)]
    dsimp only
    rw [Int.add_zero]
  | succ n ih =>
    intro i f c hn hi hf c0 c1
    obtain ⟨f, rfl⟩ : ∃ f', f = f' + 1 := ⟨f - 1, by omega⟩
    by_cases z : i = 0
    · subst z
      rw [cS_lengthTo_11, Q.1.2, if_pos (show w32 (-1) = -1 by decide)]
      dsimp only
      rw [Int.add_zero]
    · have b := Q.2.1 i hi
      obtain ⟨p1, p2, p3, p4, p5⟩ := b.2.2.2 (by omega)
      obtain ⟨j, hj⟩ : ∃ j : Nat, (gd q i).2.1 = (j : Int) := ⟨(gd q i).2.1.toNat, by omega⟩
      rw [hj] at p1 p2 p5 ⊢
      rw [Int.toNat_natCast] at p5
      have bj := (Q.2.1 j (by omega)).2.2.1
      rw [cS_lengthTo_11, w32_id (x := (j : Int)) (by omega) (by omega), if_neg (by omega), w32_id (x := c) (by omega) (by omega), if_neg (by omega), cell_in (by omega) (by rw [al14]; omega), bnd_some, (C.2.1 j (by omega)).2.1, ih j f (c := c + 1) (by omega) (by omega) (by omega) (by omega) (by omega), p5, show c + 1 + (gd q j).2.2.2 = c + ((gd q j).2.2.2 + 1) by omega]
theorem cS_lengthTo_ok {G : hv} (w : wfG G) {s0 : Int} {m : xm} {q : List qe} (Q : okQ G s0 q) (C : CQ m q) {i : Nat} (hi : i < q.length) : cS_lengthTo (i : Int) m = some ((gd q i).2.2.2, m) := by
  have hl := okQ_len w Q
  have b := (Q.2.1 i hi).2.2.1
  unfold cS_lengthTo
  rw [cell_in (by omega) (by rw [al14]; omega), bnd_some, (C.2.1 i hi).2.1, lenTo_loop Q C hl i i xLF (c := 0) (Nat.le_refl _) hi (by rw [xLF_eq]; omega) (Int.le_refl _) (by omega), Int.zero_add]
/-- r steps back, the note that led there -/
def wayq (q : List qe) : Nat → Nat → Int
  | 0, i => (gd q i).2.2.1
  | r + 1, i => wayq q r (gd q i).2.1.toNat
theorem way_loop {G : hv} {s0 v : Int} {m : xm} {q : List qe} (Q : okQ G s0 q) (C : CQ m q) (hl : q.length ≤ 1296) (hv : 0 ≤ v) : ∀ (r f i : Nat), i < q.length → r < f → (gd q i).2.2.2 = v + (r : Int) + 1 → cS_wayTo_39 f v (i : Int) (v + (r : Int)) m = some (wayq q r i, m) := by
  intro r
  induction r with
  | zero =>
    intro f i hi hf hd
    obtain ⟨f, rfl⟩ : ∃ f', f = f' + 1 := ⟨f - 1, by omega⟩
    have b := (Q.2.1 i hi).2.2.1
    rw [cS_wayTo_39, w32_id (x := v + ((0 : Nat) : Int)) (by omega) (by omega), w32_id (x := v) (by omega) (by omega), if_pos (by omega)]
    unfold cS_wayTo_62 wayq
    rw [cell_in (by omega) (by rw [al15]; omega), bnd_some, (C.2.1 i hi).2.2]
  | succ r ih =>
    intro f i hi hf hd
    obtain ⟨f, rfl⟩ : ∃ f', f = f' + 1 := ⟨f - 1, by omega⟩
    have b := (Q.2.1 i hi).2.2.1
    have i0 : 0 < i := by omega
    obtain ⟨p1, p2, p3, p4, p5⟩ := (Q.2.1 i hi).2.2.2 i0
    obtain ⟨j, hj⟩ : ∃ j : Nat, (gd q i).2.1 = (j : Int) := ⟨(gd q i).2.1.toNat, by omega⟩
    have ci := (C.2.1 i hi).2.1
    rw [cS_wayTo_39, wayq, w32_id (x := v + ((r + 1 : Nat) : Int)) (by omega) (by omega), w32_id (x := v) (by omega) (by omega), if_neg (by omega), cell_in (by omega) (by rw [al14]; omega), bnd_some, ci, hj, Int.toNat_natCast, show v + ((r + 1 : Nat) : Int) + -1 = v + (r : Int) by omega]
    rw [hj] at p2 p5
    rw [Int.toNat_natCast] at p5
    exact ih f j (by omega) (by omega) (by omega)
def wt (x : Int × List qe) (v : Int) : Int := if x.1 = -1 then -1 else if v = -1 then (gd x.2 x.1.toNat).2.2.2 else if 0 ≤ v ∧ v < (gd x.2 x.1.toNat).2.2.2 then wayq x.2 ((gd x.2 x.1.toNat).2.2.2 - 1 - v).toNat x.1.toNat else -1
theorem cS_wayTo_ok {G : hv} (w : wfG G) {s0 v : Int} {m : xm} {x : Int × List qe} (Q : okQ G s0 x.2) (C : CQ m x.2) (hx : x.1 = -1 ∨ ∃ j : Nat, x.1 = (j : Int) ∧ j < x.2.length) (hv : rg v) : cS_wayTo x.1 v m = some (wt x v, m) := by
  have hl := okQ_len w Q
  have v1 := hv.1
  have v2 := hv.2
  unfold cS_wayTo wt
  rcases hx with e | ⟨j, e, hj⟩
  · rw [e, if_pos (by decide), if_pos rfl]
  · have b := (Q.2.1 j hj).2.2.1
    rw [e, w32_id (x := (j : Int)) (by omega) (by omega), if_neg (by omega), if_neg (by omega), cS_lengthTo_ok w Q C hj, bnd_some, w32_rg hv, Int.toNat_natCast, w32_id (x := (gd x.2 j).2.2.2) (by omega) (by omega)]
    by_cases c1 : v = -1
    · rw [if_pos c1, if_pos c1]
    · rw [if_neg c1, if_neg c1]
      by_cases c2 : v < 0
      · rw [if_pos c2, if_neg (show ¬ (0 ≤ v ∧ v < (gd x.2 j).2.2.2) by omega)]
      · rw [if_neg c2]
        by_cases c3 : v < (gd x.2 j).2.2.2
        · rw [if_pos c3, if_pos (show 0 ≤ v ∧ v < (gd x.2 j).2.2.2 by omega), xlt_eq]
          have := way_loop Q C hl (v := v) (by omega) ((gd x.2 j).2.2.2 - 1 - v).toNat xLF j hj (by rw [xLF_eq]; omega) (by omega)
          rw [show v + (((gd x.2 j).2.2.2 - 1 - v).toNat : Int) = (gd x.2 j).2.2.2 - 1 by omega] at this
          exact this
        · rw [if_neg c3, if_neg (show ¬ (0 ≤ v ∧ v < (gd x.2 j).2.2.2) by omega)]
theorem r_way_loop {G : hv} (w : wfG G) {s0 v : Int} {m : xm} {q : List qe} (Q : okQ G s0 q) (R : RQ m q) (hl : q.length ≤ 1296) (hv : 0 ≤ v) : ∀ (r f i : Nat), i < q.length → r < f → (gd q i).2.2.2 = v + (r : Int) + 1 → r_wayTo_38 f v (gd q i).1 m = some (wayq q r i, m) := by
  intro r
  induction r with
  | zero =>
    intro f i hi hf hd
    obtain ⟨f, rfl⟩ : ∃ f', f = f' + 1 := ⟨f - 1, by omega⟩
    have b := (Q.2.1 i hi).2.2.1
    have sr := vs_s w.1 (Q.2.1 i hi).1
    have ci := R.2.1 i hi
    rw [r_wayTo_38, ial_in sr.1 (by rw [al113]; omega), ci.2.1, w32_id (x := (gd q i).2.2.2) (by omega) (by omega), w32_id (x := v + 1) (by omega) (by omega), if_pos (by omega)]
    unfold r_wayTo_60 wayq
    rw [ial_in sr.1 (by rw [al115]; omega), (ci.2.2 (by omega)).2]
  | succ r ih =>
    intro f i hi hf hd
    obtain ⟨f, rfl⟩ : ∃ f', f = f' + 1 := ⟨f - 1, by omega⟩
    have b := (Q.2.1 i hi).2.2.1
    have sr := vs_s w.1 (Q.2.1 i hi).1
    have ci := R.2.1 i hi
    have i0 : 0 < i := by omega
    obtain ⟨p1, p2, p3, p4, p5⟩ := (Q.2.1 i hi).2.2.2 i0
    obtain ⟨j, hj⟩ : ∃ j : Nat, (gd q i).2.1 = (j : Int) := ⟨(gd q i).2.1.toNat, by omega⟩
    have c4 := (ci.2.2 i0).1
    rw [hj] at p2 p5 c4
    rw [Int.toNat_natCast] at p5 c4
    rw [r_wayTo_38, wayq, ial_in sr.1 (by rw [al113]; omega), ci.2.1, w32_id (x := (gd q i).2.2.2) (by omega) (by omega), w32_id (x := v + 1) (by omega) (by omega), if_neg (by omega), ial_in sr.1 (by rw [al114]; omega), c4, xlt_eq, hj, Int.toNat_natCast]
    exact ih f j (by omega) (by omega) (by omega)
theorem r_wayTo_ok {G : hv} (w : wfG G) {s0 v : Int} {m : xm} {x : Int × List qe} (Q : okQ G s0 x.2) (R : RQ m x.2) (hx : x.1 = -1 ∨ ∃ j : Nat, x.1 = (j : Int) ∧ j < x.2.length) (hv : rg v) : r_wayTo (fst1 x) v m = some (wt x v, m) := by
  have hl := okQ_len w Q
  have v1 := hv.1
  have v2 := hv.2
  unfold r_wayTo wt fst1
  rcases hx with e | ⟨j, e, hj⟩
  · rw [e, if_pos rfl, if_pos (by decide), if_pos rfl]
  · have b := (Q.2.1 j hj).2.2.1
    have sr := vs_s w.1 (Q.2.1 j hj).1
    have cj := R.2.1 j hj
    rw [e, if_neg (show ¬ ((j : Int) = -1) by omega), Int.toNat_natCast, w32_id (x := (gd x.2 j).1) (by omega) (by omega), if_neg (show ¬ ((gd x.2 j).1 = -1) by omega), w32_rg hv, ial_in sr.1 (by rw [al113]; omega), ial_in sr.1 (by rw [al113]; omega), cj.2.1, w32_id (x := (gd x.2 j).2.2.2) (by omega) (by omega), if_neg (show ¬ ((j : Int) = -1) by omega)]
    by_cases c1 : v = -1
    · rw [if_pos (show -1 ≤ v by omega), if_pos c1, if_pos c1]
    · rw [if_neg c1, if_neg c1]
      by_cases c2 : v < 0
      · rw [if_neg (show ¬ (-1 ≤ v) by omega), if_neg (show ¬ (0 ≤ v ∧ v < (gd x.2 j).2.2.2) by omega)]
      · rw [if_pos (show -1 ≤ v by omega)]
        by_cases c3 : v < (gd x.2 j).2.2.2
        · rw [if_pos c3, if_pos (show 0 ≤ v ∧ v < (gd x.2 j).2.2.2 by omega)]
          exact r_way_loop w Q R hl (v := v) (by omega) ((gd x.2 j).2.2.2 - 1 - v).toNat xLF j hj (by rw [xLF_eq]; omega) (by omega)
        · rw [if_neg c3, if_neg (show ¬ (0 ≤ v ∧ v < (gd x.2 j).2.2.2) by omega)]
/-! the whole search of the reference -/
theorem fill113 {m0 : xm} : ∀ (f k : Nat) {X kk g : Int} {m : xm}, k ≤ 10000 → 10000 - k < f → (∀ i, 0 ≤ i → i < (k : Int) → ld m 113 i = -1) → (∀ a j, a ≠ 113 → m a j = m0 a j) → ∃ m', r_seeks_3 f X kk g (k : Int) m = r_seeks_25 X kk g m' ∧ (∀ i, 0 ≤ i → i < 10000 → ld m' 113 i = -1) ∧ ∀ a j, a ≠ 113 → m' a j = m0 a j := by
  intro f
  induction f with
  | zero => intro k X kk g m _ hf; omega
  | succ f ih =>
    intro k X kk g m hk hf h1 h2
    rw [r_seeks_3, w32_id (x := (k : Int)) (by omega) (by omega)]
    by_cases e : (10000 : Int) ≤ (k : Int)
    · rw [if_pos e]
      exact ⟨m, rfl, fun i z1 z2 => h1 i z1 (by omega), h2⟩
    · rw [if_neg e, ias_in (by omega) (by rw [al113]; omega)]
      refine ih (k + 1) (m := st m 113 (k : Int) (-1)) (by omega) (by omega) (fun i z1 z2 => ?_) (fun a j z => by rw [st_at (fun y => z y.1)]; exact h2 a j z)
      by_cases ei : i = (k : Int)
      · rw [ei, ld_st_eq]
        rfl
      · rw [ld_st_ne ei]
        exact h1 i z1 (by omega)
theorem r_seeks_ok {G : hv} (w : wfG G) {s0 A X k g : Int} {So : Int → Bool} {m : xm} (hv : vs G s0) (hX0 : 0 ≤ X) (hX1 : X < 64) (hAX : ∀ y, 0 ≤ y → y < nN G → (bt A y = 1 ↔ bt X y ≠ 1)) (hT : ∀ m s, RH m G → NR m G s → vs G s → ∃ m', r_isThere k g m = some (if So s = true then 1 else 0, m') ∧ fq m m') (H : RH m G) (N : NR m G s0) : ∃ m', r_seeks X k g m = some (fst1 (bfq G A So 1297 0 [(s0, -1, -1, 0)]), m') ∧ fE m m' ∧ NR m' G s0 ∧ RQ m' (bfq G A So 1297 0 [(s0, -1, -1, 0)]).2 ∧ okQ G s0 (bfq G A So 1297 0 [(s0, -1, -1, 0)]).2 := by
  have sr := vs_s w.1 hv
  obtain ⟨m1, a1, a2, a3⟩ := fill113 (m0 := m) xLF 0 (X := X) (kk := k) (g := g) (m := m) (by omega) (by rw [xLF_eq]; omega) (fun i z1 z2 => by omega) (fun _ _ _ => rfl)
  have H1 : RH m1 G := RH_cg H (fun a j z1 z2 _ => ldq (a3 a j (by omega)))
  have N1 : NR m1 G s0 := NR_cg N (fun k => ldq (a3 110 k (by decide)))
  obtain ⟨m2, hm2⟩ : ∃ m2, m2 = st (st (st m1 113 s0 0) 116 0 s0) 78 55 1 := ⟨_, rfl⟩
  have f2 : fE m m2 := fun a j _ z2 _ _ => by
    unfold fRQ at z2
    rw [hm2, st_at (by omega), st_at (by omega), st_at (by omega), a3 a j (by omega)]
  have R2 : RQ m2 [(s0, -1, -1, 0)] := by
    rw [hm2]
    refine ⟨by rw [ld_st_eq]; rfl, fun i hi => ?_, fun s z1 z2 z3 => ?_⟩
    · have : i = 0 := by
        have : i < 1 := hi
        omega
      subst this
      refine ⟨?_, ?_, fun z => by omega⟩
      · show ld _ 116 0 = s0
        rw [ld_st_nc (by decide), ld_st_eq, w32_id (by omega) (by omega)]
      · show ld _ 113 s0 = 0
        rw [ld_st_nc (by decide), ld_st_nc (by decide), ld_st_eq]
        rfl
    · have : s ≠ s0 := fun e => z3 (by rw [e]; exact List.mem_cons_self ..)
      rw [ld_st_nc (by decide), ld_st_nc (by decide), ld_st_ne this, a2 s z1 z2]
  obtain ⟨m3, d1, d2, d3, d4, d5⟩ := seeks_out w (s0 := s0) (A := A) (X := X) (k := k) (g := g) (So := So) hv hX0 hX1 hAX hT 1297 xLF 0 (m := m2) (q := [(s0, -1, -1, 0)]) (by omega) (by rw [xLF_eq]; omega) (fE_RH f2 H) (okQ_0 hv) R2
  refine ⟨m3, ?_, fE_trans f2 d2, d3, d4, d5⟩
  unfold r_seeks
  refine Eq.trans a1 ?_
  unfold r_seeks_25
  rw [r_stateNow_ok w H1 N1, bnd_some, ias_in sr.1 (by rw [al113]; omega), ias_in (by decide) (by rw [al116]; decide), stf_eq, ← hm2]
  exact d1
